-- ===== bits, packed names, bytes =====
def bt (x : Int32) (i : Nat) : Bool := x.toBitVec.getLsbD i
theorem b_ext {x y : Int32} (h : ∀ i, i < 32 → bt x i = bt y i) : x = y := Int32.toBitVec_inj.mp (BitVec.eq_of_getLsbD_eq (fun i hi => h i hi))
theorem b_or (x y : Int32) (i : Nat) : bt (x ||| y) i = (bt x i || bt y i) := by unfold bt; rw [Int32.toBitVec_or, BitVec.getLsbD_or]
theorem b_and (x y : Int32) (i : Nat) : bt (x &&& y) i = (bt x i && bt y i) := by unfold bt; rw [Int32.toBitVec_and, BitVec.getLsbD_and]
theorem b_xor (x y : Int32) (i : Nat) : bt (x ^^^ y) i = (bt x i ^^ bt y i) := by unfold bt; rw [Int32.toBitVec_xor, BitVec.getLsbD_xor]
theorem b_big {x : Int32} {i : Nat} (h : 32 ≤ i) : bt x i = false := BitVec.getLsbD_of_ge _ _ h
theorem b_255 (i : Nat) : bt 255 i = decide (i < 8) := by
  rcases Nat.lt_or_ge i 32 with h | h
  · exact (by decide +kernel : ∀ i, i < 32 → bt 255 i = decide (i < 8)) i h
  · rw [b_big h, decide_eq_false (by omega)]
theorem b_65535 (i : Nat) : bt 65535 i = decide (i < 16) := by
  rcases Nat.lt_or_ge i 32 with h | h
  · exact (by decide +kernel : ∀ i, i < 32 → bt 65535 i = decide (i < 16)) i h
  · rw [b_big h, decide_eq_false (by omega)]
theorem b_m1 : ∀ i, i < 32 → bt (-1) i = true := by decide +kernel
theorem b_0 (i : Nat) : bt 0 i = false := BitVec.getLsbD_zero
theorem s_l : ∀ n, n < 32 → ((nI n &&& 31).toBitVec.smod 32).toNat = n := by decide +kernel
theorem s_u : ∀ n, n < 32 → (((nI n).toUInt32 &&& Int32.toUInt32 31).toBitVec % 32).toNat = n := by decide +kernel
theorem b_shl (n : Nat) (hn : n < 32) (x : Int32) {i : Nat} (hi : i < 32) : bt (x <<< (nI n &&& 31)) i = (decide (n ≤ i) && bt x (i - n)) := by
  unfold bt
  rw [Int32.toBitVec_shiftLeft]
  show (x.toBitVec <<< ((nI n &&& 31).toBitVec.smod 32).toNat).getLsbD i = _
  rw [s_l n hn, BitVec.getLsbD_shiftLeft]
  rcases Nat.lt_or_ge i n with h | h
  · simp [h, Nat.not_le.mpr h]
  · simp [hi, h, Nat.not_lt.mpr h]
theorem b_ushr (n : Nat) (hn : n < 32) (x : Int32) (i : Nat) : bt ((x.toUInt32 >>> ((nI n).toUInt32 &&& Int32.toUInt32 31)).toInt32) i = bt x (n + i) := by
  show (x.toUInt32 >>> ((nI n).toUInt32 &&& Int32.toUInt32 31)).toBitVec.getLsbD i = x.toUInt32.toBitVec.getLsbD (n + i)
  rw [UInt32.toBitVec_shiftRight]
  show (x.toUInt32.toBitVec >>> (((nI n).toUInt32 &&& Int32.toUInt32 31).toBitVec % 32).toNat).getLsbD i = _
  rw [s_u n hn, BitVec.getLsbD_ushiftRight]
theorem b_sshr (n : Nat) (hn : n < 32) (x : Int32) {i : Nat} (hi : i < 32) : bt (x >>> (nI n &&& 31)) i = if n + i < 32 then bt x (n + i) else bt x 31 := by
  unfold bt
  rw [Int32.toBitVec_shiftRight]
  show (x.toBitVec.sshiftRight ((nI n &&& 31).toBitVec.smod 32).toNat).getLsbD i = _
  rw [s_l n hn, BitVec.getLsbD_sshiftRight, BitVec.msb_eq_getLsbD_last]
  simp [hi]
theorem b_shl8 (x : Int32) {i : Nat} (hi : i < 32) : bt (x <<< ((8 : Int32) &&& 31)) i = (decide (8 ≤ i) && bt x (i - 8)) := b_shl 8 (by omega) x hi
theorem b_shl16 (x : Int32) {i : Nat} (hi : i < 32) : bt (x <<< ((16 : Int32) &&& 31)) i = (decide (16 ≤ i) && bt x (i - 16)) := b_shl 16 (by omega) x hi
theorem b_shl24 (x : Int32) {i : Nat} (hi : i < 32) : bt (x <<< ((24 : Int32) &&& 31)) i = (decide (24 ≤ i) && bt x (i - 24)) := b_shl 24 (by omega) x hi
theorem b_sshr8 (x : Int32) {i : Nat} (hi : i < 32) : bt (x >>> ((8 : Int32) &&& 31)) i = if 8 + i < 32 then bt x (8 + i) else bt x 31 := b_sshr 8 (by omega) x hi
theorem nx_and (a b : Nat) : nI a &&& nI b = nI (a &&& b) := by
  apply Int32.toBitVec_inj.1
  show BitVec.ofNat 32 a &&& BitVec.ofNat 32 b = BitVec.ofNat 32 (a &&& b)
  apply BitVec.eq_of_getLsbD_eq
  intro i hi
  simp [hi]
theorem nx_xor (a b : Nat) : nI a ^^^ nI b = nI (a ^^^ b) := by
  apply Int32.toBitVec_inj.1
  show BitVec.ofNat 32 a ^^^ BitVec.ofNat 32 b = BitVec.ofNat 32 (a ^^^ b)
  apply BitVec.eq_of_getLsbD_eq
  intro i hi
  simp [hi]
theorem nx_cnt : ∀ j : Fin 32, (UInt32.ofNat j.val &&& Int32.toUInt32 31).toNat % 32 = j.val := by decide +kernel
theorem nx_ush {k j : Nat} (hk : k < 65536) (hj : j < 32) : ((nI k).toUInt32 >>> ((nI j).toUInt32 &&& Int32.toUInt32 31)).toInt32 = nI (k >>> j) := by
  have hs : k >>> j ≤ k := by
    rw [Nat.shiftRight_eq_div_pow]
    exact Nat.div_le_self _ _
  have e2 : UInt32.ofNat k >>> (UInt32.ofNat j &&& Int32.toUInt32 31) = UInt32.ofNat (k >>> j) := by
    apply UInt32.toNat_inj.1
    have h1 : (UInt32.ofNat k).toNat = k := Nat.mod_eq_of_lt (by omega)
    have h2 : (UInt32.ofNat (k >>> j)).toNat = k >>> j := Nat.mod_eq_of_lt (by omega)
    rw [UInt32.toNat_shiftRight, nx_cnt ⟨j, hj⟩, h1, h2]
  show (UInt32.ofNat k >>> (UInt32.ofNat j &&& Int32.toUInt32 31)).toInt32 = _
  rw [e2]
  rfl
theorem nx_bit {k j : Nat} (hk : k < 65536) (hj : j < 16) : (((nI k).toUInt32 >>> ((nI j).toUInt32 &&& Int32.toUInt32 31)).toInt32 &&& 1) = 0 ↔ k.testBit j = false := by
  rw [nx_ush hk (by omega)]
  show nI (k >>> j) &&& nI 1 = 0 ↔ _
  rw [nx_and, Nat.and_one_is_mod, ← nI_0, nI_eq (by omega) (by omega), Nat.testBit_eq_decide_div_mod_eq, Nat.shiftRight_eq_div_pow, decide_eq_false_iff_not]
  generalize k / 2 ^ j = z
  omega
theorem nx_mod (k : Nat) : nI k &&& 65535 = nI (k % 65536) := by
  show nI k &&& nI 65535 = _
  rw [nx_and, show (65535 : Nat) = 2 ^ 16 - 1 from rfl, Nat.and_two_pow_sub_one_eq_mod]
theorem nx_m16 {k : Nat} (h : k < 65536) : nI k &&& 65535 = nI k := by rw [nx_mod, Nat.mod_eq_of_lt h]
theorem wb_tb (n : Nat) : (lN n).toBitVec = BitVec.ofNat 64 n := rfl
theorem wb_inj {a b : Int64} (h : a.toBitVec = b.toBitVec) : a = b := Int64.toBitVec_inj.mp h
theorem wb_tn {n : Nat} (h : n < 2 ^ 64) : (lN n).toBitVec.toNat = n := by rw [wb_tb, BitVec.toNat_ofNat, Nat.mod_eq_of_lt h]
theorem wb_of (x : Int64) : ∃ n, n < 2 ^ 64 ∧ x = lN n := ⟨x.toBitVec.toNat, x.toBitVec.isLt, wb_inj (by rw [wb_tb]; simp)⟩
theorem wb_of32 (x : Int32) : ∃ n, n < 2 ^ 32 ∧ x = nI n := ⟨x.toBitVec.toNat, x.toBitVec.isLt, Int32.toBitVec_inj.mp (by show _ = BitVec.ofNat 32 _; simp)⟩
theorem wb_c : ∀ k, k < 64 → ((nI k).toInt64 &&& 63) = lN k := by decide +kernel
theorem wb_cu : ∀ k, k < 64 → ((nI k).toInt64.toUInt64 &&& Int64.toUInt64 63) = UInt64.ofNat k := by decide +kernel
theorem wb_sm : ∀ k, k < 64 → (BitVec.ofNat 64 k).smod 64 = BitVec.ofNat 64 k := by decide +kernel
theorem wb_pw {a b : Nat} (h : a ≤ b) : 2 ^ b = 2 ^ a * 2 ^ (b - a) := by rw [← Nat.pow_add]; congr 1; omega
theorem wb_lt2 {a b : Nat} (h : a < b) : 2 ^ a < 2 ^ b := Nat.pow_lt_pow_right (by decide) h
theorem wb_mod (n : Nat) : lN n = lN (n % 2 ^ 64) := wb_inj (by rw [wb_tb, wb_tb]; apply BitVec.eq_of_toNat_eq; rw [BitVec.toNat_ofNat, BitVec.toNat_ofNat, Nat.mod_mod])
theorem wb_shr {n k : Nat} (hn : n < 2 ^ 64) (hk : k < 64) : ((lN n).toUInt64 >>> ((nI k).toInt64.toUInt64 &&& Int64.toUInt64 63)).toInt64 = lN (n / 2 ^ k) := by
  rw [wb_cu k hk]
  apply wb_inj
  apply BitVec.eq_of_toNat_eq
  show ((lN n).toUInt64 >>> UInt64.ofNat k).toNat = (BitVec.ofNat 64 _).toNat
  have h1 : (UInt64.ofNat k).toNat = k := by
    show (BitVec.ofNat 64 k).toNat = k
    rw [BitVec.toNat_ofNat, Nat.mod_eq_of_lt (by omega)]
  have h2 : (lN n).toUInt64.toNat = n := wb_tn hn
  rw [UInt64.toNat_shiftRight, h1, h2, Nat.mod_eq_of_lt hk, Nat.shiftRight_eq_div_pow, BitVec.toNat_ofNat, Nat.mod_eq_of_lt (Nat.lt_of_le_of_lt (Nat.div_le_self _ _) hn)]
theorem wb_shl (n : Nat) {k : Nat} (hk : k < 64) : lN n <<< ((nI k).toInt64 &&& 63) = lN (n * 2 ^ k) := by
  rw [wb_c k hk]
  apply wb_inj
  rw [Int64.toBitVec_shiftLeft, wb_tb, wb_tb, wb_tb, wb_sm k hk]
  apply BitVec.eq_of_toNat_eq
  rw [BitVec.shiftLeft_eq', BitVec.toNat_shiftLeft, BitVec.toNat_ofNat, BitVec.toNat_ofNat, BitVec.toNat_ofNat, Nat.mod_eq_of_lt (show k < 2 ^ 64 by omega), Nat.shiftLeft_eq, Nat.mul_mod, Nat.mod_mod, ← Nat.mul_mod]
theorem wb_and {a b : Nat} (ha : a < 2 ^ 64) (hb : b < 2 ^ 64) : lN a &&& lN b = lN (a &&& b) := by
  apply wb_inj
  rw [Int64.toBitVec_and, wb_tb, wb_tb, wb_tb]
  apply BitVec.eq_of_toNat_eq
  rw [BitVec.toNat_and, BitVec.toNat_ofNat, BitVec.toNat_ofNat, BitVec.toNat_ofNat, Nat.mod_eq_of_lt ha, Nat.mod_eq_of_lt hb, Nat.mod_eq_of_lt (Nat.and_lt_two_pow _ hb)]
theorem wb_or {a b : Nat} (ha : a < 2 ^ 64) (hb : b < 2 ^ 64) : lN a ||| lN b = lN (a ||| b) := by
  apply wb_inj
  rw [Int64.toBitVec_or, wb_tb, wb_tb, wb_tb]
  apply BitVec.eq_of_toNat_eq
  rw [BitVec.toNat_or, BitVec.toNat_ofNat, BitVec.toNat_ofNat, BitVec.toNat_ofNat, Nat.mod_eq_of_lt ha, Nat.mod_eq_of_lt hb, Nat.mod_eq_of_lt (Nat.or_lt_two_pow ha hb)]
theorem wb_mask {n k : Nat} (hn : n < 2 ^ 64) (hk : k < 64) : lN n &&& lN (2 ^ k - 1) = lN (n % 2 ^ k) := by
  rw [wb_and hn (by have := wb_lt2 hk; omega), Nat.and_two_pow_sub_one_eq_mod]
theorem wb_a1 {n : Nat} (hn : n < 2 ^ 64) : lN n &&& 1 = lN (n % 2) := wb_mask (k := 1) hn (by decide)
theorem wb_bit {n k : Nat} (hn : n < 2 ^ 64) (hk : k < 64) : ((lN n).toUInt64 >>> ((nI k).toInt64.toUInt64 &&& Int64.toUInt64 63)).toInt64 &&& 1 = lN (n / 2 ^ k % 2) := by
  rw [wb_shr hn hk, wb_a1 (Nat.lt_of_le_of_lt (Nat.div_le_self _ _) hn)]
theorem wb_xor {q k : Nat} (hk : k < 63) (h : 2 ^ k ≤ q) (h2 : q < 2 ^ (k + 1)) : lN q ^^^ lN (2 ^ k) = lN (q - 2 ^ k) := by
  obtain ⟨r, rfl⟩ : ∃ r, q = 2 ^ k + r := ⟨q - 2 ^ k, by omega⟩
  have hr : r < 2 ^ k := by rw [Nat.pow_succ] at h2; omega
  have hx : (2 ^ k + r) ^^^ 2 ^ k = r := by
    apply Nat.eq_of_testBit_eq
    intro i
    rw [Nat.testBit_xor, Nat.testBit_two_pow]
    rcases Nat.lt_trichotomy i k with h | h | h
    · rw [Nat.testBit_two_pow_add_gt h]
      simp [show ¬ k = i by omega]
    · subst h
      rw [Nat.testBit_two_pow_add_eq]
      simp
    · have a1 : 2 ^ (k + 1) ≤ 2 ^ i := Nat.pow_le_pow_right (by decide) h
      rw [Nat.testBit_lt_two_pow (show 2 ^ k + r < 2 ^ i by omega), Nat.testBit_lt_two_pow (show r < 2 ^ i by omega)]
      simp [show ¬ k = i by omega]
  have b1 := wb_lt2 (show k + 1 < 64 by omega)
  have b2 := wb_lt2 (show k < 64 by omega)
  apply wb_inj
  rw [Int64.toBitVec_xor, wb_tb, wb_tb, wb_tb]
  apply BitVec.eq_of_toNat_eq
  rw [BitVec.toNat_xor, BitVec.toNat_ofNat, BitVec.toNat_ofNat, BitVec.toNat_ofNat, Nat.mod_eq_of_lt (by omega : 2 ^ k + r < 2 ^ 64), Nat.mod_eq_of_lt b2, hx, Nat.add_sub_cancel_left, Nat.mod_eq_of_lt (by omega)]
theorem u_tn {n : Nat} (h : n < 2 ^ 64) : (UInt64.ofNat n).toNat = n := Nat.mod_eq_of_lt h
theorem g_or {k p a b : Nat} (hp : 2 ^ k = p) (ha : a < p) (h : b * p + a < 2 ^ 64) : lN (b * p) ||| lN a = lN (b * p + a) := by
  subst hp
  have h1 : b * 2 ^ k ||| a = b * 2 ^ k + a := by rw [← Nat.shiftLeft_eq, Nat.shiftLeft_add_eq_or_of_lt ha]
  rw [wb_or (by omega) (by omega), h1]
/-- the number of a character -/
def cn (x : Int32) : Nat := x.toNatClampNeg
theorem cn_nI {m : Nat} (h : m < 2 ^ 31) : cn (nI m) = m := nI_clamp h
/-- a character of a word -/
def wch (x : Int32) : Prop := ∃ m, 0 < m ∧ m < 127 ∧ x = nI m
theorem i64 : ∀ c, c < 127 → (nI c).toInt64 = lN c := by decide +kernel
theorem sh8_lN {m c : Nat} (hm : m < 2 ^ 56) (hc : c < 127) : sh8 (lN m) (nI c) = lN (256 * m + c) := by
  have e : lN m <<< ((8 : Int32).toInt64 &&& 63) = lN (m * 2 ^ 8) := wb_shl m (k := 8) (by decide)
  unfold sh8
  rw [e, i64 c hc, g_or (k := 8) rfl (by omega) (by omega)]
  congr 1
  omega
/-- digits, the last first, as a number -/
def pr : List Nat → Nat
  | [] => 0
  | c :: r => 256 * pr r + c
theorem pr_inj : ∀ {a b : List Nat}, (∀ x ∈ a, 0 < x ∧ x < 256) → (∀ x ∈ b, 0 < x ∧ x < 256) → pr a = pr b → a = b
  | [], [], _, _, _ => rfl
  | [], c :: r, _, hb, e => by
    have := hb c List.mem_cons_self
    unfold pr at e
    omega
  | c :: r, [], ha, _, e => by
    have := ha c List.mem_cons_self
    have e : 256 * pr r + c = 0 := e
    omega
  | c :: r, c' :: r', ha, hb, e => by
    have h1 := ha c List.mem_cons_self
    have h2 := hb c' List.mem_cons_self
    have e : 256 * pr r + c = 256 * pr r' + c' := e
    have e1 : c = c' := by omega
    have e2 : pr r = pr r' := by omega
    rw [e1, pr_inj (fun x hx => ha x (List.mem_cons_of_mem _ hx)) (fun x hx => hb x (List.mem_cons_of_mem _ hx)) e2]
theorem pr_lt : ∀ {a : List Nat}, (∀ x ∈ a, x < 128) → pr a < 256 ^ a.length ∧ (0 < a.length → 2 * pr a < 256 ^ a.length)
  | [], _ => ⟨by decide, fun q => absurd q (Nat.lt_irrefl 0)⟩
  | c :: r, ha => by
    have h1 := ha c List.mem_cons_self
    obtain ⟨h2, h3⟩ := pr_lt (fun x hx => ha x (List.mem_cons_of_mem _ hx))
    have e : 256 ^ (c :: r).length = 256 * 256 ^ r.length := by rw [List.length_cons, Nat.pow_succ, Nat.mul_comm]
    have e2 : pr (c :: r) = 256 * pr r + c := rfl
    rw [e, e2]
    rcases Nat.eq_zero_or_pos r.length with q | q
    · have : r = [] := List.length_eq_zero_iff.mp q
      subst this
      have e3 : pr [] = 0 := rfl
      rw [e3]
      exact ⟨by show _ < 256 * 1; omega, fun _ => by show _ < 256 * 1; omega⟩
    · have := h3 q
      exact ⟨by omega, fun _ => by omega⟩
/-- the text of n characters -/
def dg (X : Nat → Int32) (s n : Nat) : List Nat := ups (fun i => cn (X i)) s n
theorem ups_mem {α : Type} {f : Nat → α} {a n : Nat} {x : α} (h : x ∈ ups f a n) : ∃ i, a ≤ i ∧ i < a + n ∧ x = f i := by
  induction n generalizing a with
  | zero => exact absurd h List.not_mem_nil
  | succ n ih =>
    rw [ups_s, List.mem_cons] at h
    rcases h with h | h
    · exact ⟨a, Nat.le_refl a, by omega, h⟩
    · obtain ⟨i, h1, h2, h3⟩ := ih h
      exact ⟨i, by omega, by omega, h3⟩
theorem mem_ups {α : Type} {f : Nat → α} {a n i : Nat} (h1 : a ≤ i) (h2 : i < a + n) : f i ∈ ups f a n := by
  induction n generalizing a with
  | zero => exact absurd h2 (by omega)
  | succ n ih =>
    rw [ups_s, List.mem_cons]
    rcases Nat.lt_or_ge a i with q | q
    · exact Or.inr (ih (by omega) (by omega))
    · have : i = a := by omega
      exact Or.inl (by rw [this])
theorem ups_get {α : Type} {f : Nat → α} {a n i : Nat} {x : α} (h : i < n) : (ups f a n).getD i x = f (a + i) := by
  induction n generalizing a i with
  | zero => exact absurd h (Nat.not_lt_zero i)
  | succ n ih =>
    rw [ups_s]
    cases i with
    | zero => rfl
    | succ i =>
      have e : (f a :: ups f (a + 1) n).getD (i + 1) x = (ups f (a + 1) n).getD i x := rfl
      rw [e, ih (by omega)]
      congr 1
      omega
theorem ups_congr {α : Type} {f g : Nat → α} {a n : Nat} (h : ∀ i, a ≤ i → i < a + n → f i = g i) : ups f a n = ups g a n := by
  induction n generalizing a with
  | zero => rfl
  | succ n ih =>
    rw [ups_s, ups_s, h a (Nat.le_refl a) (by omega), ih (fun i h1 h2 => h i (by omega) (by omega))]
theorem pk_pr {X : Nat → Int32} {s n : Nat} {l : List Nat} (hl : ∀ x ∈ l, x < 128) (h8 : l.length + n ≤ 8) (ht : ∀ i, s ≤ i → i < s + n → tch (X i)) : pk X s n (lN (pr l)) = lN (pr ((dg X s n).reverse ++ l)) := by
  induction n generalizing s l with
  | zero => rfl
  | succ n ih =>
    obtain ⟨m, hm, e⟩ := ht s (Nat.le_refl s) (by omega)
    have e1 : pk X s (n + 1) (lN (pr l)) = pk X (s + 1) n (sh8 (lN (pr l)) (X s)) := rfl
    have hp : pr l < 2 ^ 56 := by
      have h1 := (pr_lt hl).1
      have h2 : (256 : Nat) ^ l.length ≤ 256 ^ 7 := Nat.pow_le_pow_right (by decide) (by omega)
      have h3 : (256 : Nat) ^ 7 = 2 ^ 56 := by decide
      omega
    have e2 : 256 * pr l + m = pr (m :: l) := rfl
    have e3 : dg X s (n + 1) = m :: dg X (s + 1) n := by
      unfold dg
      rw [ups_s, e, cn_nI (by omega)]
    rw [e1, e, sh8_lN hp hm, e2, ih (fun x hx => (List.mem_cons.mp hx).elim (fun r => by omega) (fun r => hl x r)) (by rw [List.length_cons]; omega) (fun i h1 h2 => ht i (by omega) (by omega)), e3, List.reverse_cons, List.append_assoc]
    rfl
theorem lN_inj {a b : Nat} (ha : a < 2 ^ 64) (hb : b < 2 ^ 64) (e : lN a = lN b) : a = b := by
  have := congrArg (fun x : Int64 => x.toBitVec.toNat) e
  simp only [wb_tn ha, wb_tn hb] at this
  exact this
theorem dg_lt {X : Nat → Int32} {s n : Nat} (ht : ∀ i, s ≤ i → i < s + n → tch (X i)) : ∀ x ∈ (dg X s n).reverse, x < 128 := by
  intro x hx
  rw [List.mem_reverse] at hx
  obtain ⟨i, h1, h2, h3⟩ := ups_mem hx
  obtain ⟨m, hm, e⟩ := ht i h1 h2
  rw [h3, e, cn_nI (by omega)]
  omega
theorem dg_pos {X : Nat → Int32} {s n : Nat} (ht : ∀ i, s ≤ i → i < s + n → wch (X i)) : ∀ x ∈ (dg X s n).reverse, 0 < x ∧ x < 256 := by
  intro x hx
  rw [List.mem_reverse] at hx
  obtain ⟨i, h1, h2, h3⟩ := ups_mem hx
  obtain ⟨m, h0, hm, e⟩ := ht i h1 h2
  rw [h3, e, cn_nI (by omega)]
  omega
theorem dg_len {X : Nat → Int32} {s n : Nat} : (dg X s n).length = n := ups_len
theorem wch.t {x : Int32} (h : wch x) : tch x := h.elim (fun m q => ⟨m, q.2.1, q.2.2⟩)
theorem prb {l : List Nat} (h : ∀ x ∈ l, x < 128) (h8 : l.length ≤ 8) : pr l < 2 ^ 63 := by
  have h1 := pr_lt h
  rcases Nat.eq_zero_or_pos l.length with q | q
  · have : l = [] := List.length_eq_zero_iff.mp q
    subst this
    exact (by decide : (0 : Nat) < 2 ^ 63)
  · have h2 : (256 : Nat) ^ l.length ≤ 256 ^ 8 := Nat.pow_le_pow_right (by decide) h8
    have h3 : (256 : Nat) ^ 8 = 2 ^ 64 := by decide
    have := h1.2 q
    omega
/-- the word as the reference packs it -/
def wd (X : Nat → Int32) (t : Nat × Nat) : Int64 := if t.2 - t.1 ≤ 8 then pk X t.1 (t.2 - t.1) 0 else 0
/-- the word's text -/
def tx (X : Nat → Int32) (t : Nat × Nat) : List Nat := dg X t.1 (t.2 - t.1)
/-- all characters of the word are such as a word has -/
def wok (X : Nat → Int32) (t : Nat × Nat) : Prop := t.1 < t.2 ∧ ∀ i, t.1 ≤ i → i < t.2 → wch (X i)
theorem wd_is {X : Nat → Int32} {t : Nat × Nat} {s : List Nat} (h : wok X t) (h1 : s.length ≤ 8) (h2 : ∀ x ∈ s, 0 < x ∧ x < 128) (h0 : 0 < s.length) : wd X t = lN (pr s.reverse) ↔ tx X t = s := by
  obtain ⟨hs, hw⟩ := h
  have hw1 : ∀ i, t.1 ≤ i → i < t.1 + (t.2 - t.1) → wch (X i) := fun i a b => hw i a (by omega)
  have hr : ∀ x ∈ s.reverse, x < 128 := fun x hx => (h2 x (List.mem_reverse.mp hx)).2
  have b2 := prb hr (by rw [List.length_reverse]; exact h1)
  unfold wd tx
  rcases Nat.lt_or_ge 8 (t.2 - t.1) with q | q
  · rw [if_neg (by omega)]
    constructor
    · intro e
      have e0 : (0 : Int64) = lN (pr []) := rfl
      rw [e0] at e
      have := pr_inj (fun x hx => absurd hx List.not_mem_nil) (fun x hx => by have := h2 x (List.mem_reverse.mp hx); omega) (lN_inj (by decide) (by omega) e)
      have := congrArg List.length this
      rw [List.length_reverse] at this
      have : 0 = s.length := this
      omega
    · intro e
      have := congrArg List.length e
      rw [dg_len] at this
      omega
  · rw [if_pos q]
    have e0 : (0 : Int64) = lN (pr []) := rfl
    have b1 := prb (dg_lt (fun i a b => (hw1 i a b).t)) (by rw [List.length_reverse, dg_len]; exact q)
    rw [e0, pk_pr (fun x hx => absurd hx List.not_mem_nil) (by show 0 + _ ≤ 8; omega) (fun i a b => (hw1 i a b).t), List.append_nil]
    constructor
    · intro e
      have := pr_inj (dg_pos hw1) (fun x hx => by have := h2 x (List.mem_reverse.mp hx); omega) (lN_inj (by omega) (by omega) e)
      exact List.reverse_inj.mp this
    · intro e
      rw [e]
theorem eqT_dg {X : Nat → Int32} {t : List Nat} {s k n : Nat} (hk : k + n = t.length) (ht : ∀ x ∈ t, x < 128) (hw : ∀ i, s ≤ i → i < s + t.length → tch (X i)) : eqT X t s k n = decide (dg X (s + k) n = t.drop k) := by
  induction n generalizing k with
  | zero =>
    have : t.drop k = [] := List.drop_eq_nil_of_le (by omega)
    rw [this]
    rfl
  | succ n ih =>
    have e1 : eqT X t s k (n + 1) = (decide (X (s + k) = nI (t.getD k 0)) && eqT X t s (k + 1) n) := rfl
    have e2 : dg X (s + k) (n + 1) = cn (X (s + k)) :: dg X (s + k + 1) n := rfl
    have hkl : k < t.length := by omega
    have e3 : t.drop k = t.getD k 0 :: t.drop (k + 1) := by
      rw [List.drop_eq_getElem_cons hkl, List.getD_eq_getElem?_getD, List.getElem?_eq_getElem hkl]
      rfl
    obtain ⟨m, hm, e⟩ := hw (s + k) (by omega) (by omega)
    have hg := ht _ (getD_mem (x := 0) hkl)
    rw [e1, ih (by omega), e2, e3, e, cn_nI (by omega)]
    have e4 : s + (k + 1) = s + k + 1 := by omega
    rw [e4]
    by_cases q : m = t.getD k 0
    · rw [q]
      simp
    · have : ¬ nI m = nI (t.getD k 0) := fun r => q ((nI_eq (by omega) (by omega)).mp r)
      rw [decide_eq_false this, Bool.false_and]
      symm
      apply decide_eq_false
      intro r
      exact q (List.cons.inj r).1
/-- a word is a text: as the class asks -/
theorem isT_is {X : Nat → Int32} {t : Nat × Nat} {s : List Nat} (h : wok X t) (h2 : ∀ x ∈ s, x < 128) : isT X t s = decide (tx X t = s) := by
  obtain ⟨hs, hw⟩ := h
  unfold isT tx
  by_cases q : t.2 - t.1 = s.length
  · rw [decide_eq_true q, Bool.true_and, eqT_dg (by omega) h2 (fun i a b => (hw i a (by omega)).t), q]
    rfl
  · rw [decide_eq_false q, Bool.false_and]
    symm
    apply decide_eq_false
    intro r
    have := congrArg List.length r
    rw [dg_len] at this
    exact q this
theorem pw_no {X : Nat → Int32} {t : Nat × Nat} (h : t.1 ≤ t.2) (hn : 61 ∉ tx X t) : pw X t = (0, 0) := by
  obtain ⟨a, b, c⟩ := eqF_le (X := X) (s := t.1) (n := t.2 - t.1)
  have e0 : eqA X t.1 t.2 = eqF X t.1 (t.2 - t.1) := rfl
  rw [← e0] at a b c
  have q : ¬ eqA X t.1 t.2 < t.2 := by
    intro q
    have := c (by omega)
    refine hn ?_
    have m := mem_ups (f := fun i => cn (X i)) a (show eqA X t.1 t.2 < t.1 + (t.2 - t.1) by omega)
    rw [this] at m
    exact m
  unfold pw wL
  rw [if_neg q, if_neg (fun r => r.1 rfl)]
/-- a number that is no less than 0 -/
def nn (v : Int64) : Prop := ∃ m, m < 2 ^ 63 ∧ v = lN m
theorem nn_0 : nn 0 := ⟨0, by decide, rfl⟩
theorem nn_nm {X : Nat → Int32} {s n : Nat} (ht : ∀ i, s ≤ i → i < s + n → tch (X i)) : nn (nm X s n) := by
  unfold nm
  split
  · rename_i q
    have e0 : (0 : Int64) = lN (pr []) := rfl
    rw [e0, pk_pr (fun x hx => absurd hx List.not_mem_nil) (by show 0 + _ ≤ 8; omega) ht, List.append_nil]
    exact ⟨_, prb (dg_lt ht) (by rw [List.length_reverse, dg_len]; exact q.1), rfl⟩
  · exact nn_0
theorem nn_pw {X : Nat → Int32} {t : Nat × Nat} (hs : t.1 ≤ t.2) (ht : ∀ i, t.1 ≤ i → i < t.2 → tch (X i)) : nn (pw X t).1 ∧ nn (pw X t).2 := by
  obtain ⟨a, b, c⟩ := eqF_le (X := X) (s := t.1) (n := t.2 - t.1)
  have e0 : eqA X t.1 t.2 = eqF X t.1 (t.2 - t.1) := rfl
  rw [← e0] at a b c
  unfold pw
  split
  · unfold wL wR
    split
    · exact ⟨nn_nm (fun i h1 h2 => ht i h1 (by omega)), nn_nm (fun i h1 h2 => ht i (by omega) (by omega))⟩
    · exact ⟨nn_0, nn_0⟩
  · exact ⟨nn_0, nn_0⟩
/-- bytes -/
theorem l_i32 (m : Nat) : (lN m).toInt32 = nI m := by
  apply Int32.toBitVec_inj.1
  show (BitVec.ofNat 64 m).signExtend 32 = BitVec.ofNat 32 m
  apply BitVec.eq_of_getLsbD_eq
  intro i hi
  rw [BitVec.getLsbD_signExtend, BitVec.getLsbD_ofNat, BitVec.getLsbD_ofNat, decide_eq_true hi, if_pos (show i < 64 by omega), decide_eq_true (show i < 64 by omega), Bool.true_and, Bool.true_and]
theorem by_u {n k : Nat} (hn : n < 2 ^ 64) (hk : k < 64) : (((lN n).toUInt64 >>> ((nI k).toInt64.toUInt64 &&& Int64.toUInt64 63)).toInt64).toInt32 &&& 255 = nI (n / 2 ^ k % 256) := by
  rw [wb_shr hn hk, l_i32]
  show nI _ &&& nI 255 = _
  rw [nx_and, show (255 : Nat) = 2 ^ 8 - 1 from rfl, Nat.and_two_pow_sub_one_eq_mod]
theorem by_s {n k : Nat} (hn : n < 2 ^ 64) (hk : k ≤ 56) : ((lN n >>> ((nI k).toInt64 &&& 63)) &&& 255).toInt32 = nI (n / 2 ^ k % 256) := by
  have e : (lN n >>> ((nI k).toInt64 &&& 63)) &&& 255 = lN (n / 2 ^ k % 256) := by
    rw [wb_c k (by omega)]
    apply wb_inj
    rw [Int64.toBitVec_and, Int64.toBitVec_shiftRight, wb_tb, wb_tb, wb_tb, wb_sm k (by omega)]
    show (BitVec.ofNat 64 n).sshiftRight (BitVec.ofNat 64 k).toNat &&& (255#64) = _
    rw [BitVec.toNat_ofNat, Nat.mod_eq_of_lt (show k < 2 ^ 64 by omega)]
    apply BitVec.eq_of_getLsbD_eq
    intro i hi
    have e255 : (255#64).getLsbD i = decide (i < 8) := (by decide +kernel : ∀ i, i < 64 → (255#64).getLsbD i = decide (i < 8)) i hi
    have eR : (BitVec.ofNat 64 (n / 2 ^ k % 256)).getLsbD i = (decide (i < 8) && n.testBit (k + i)) := by
      rw [BitVec.getLsbD_ofNat, decide_eq_true hi, Bool.true_and, show (256 : Nat) = 2 ^ 8 from rfl, Nat.testBit_mod_two_pow, Nat.testBit_div_two_pow, Nat.add_comm]
    rw [BitVec.getLsbD_and, e255, eR, BitVec.getLsbD_sshiftRight]
    by_cases q : i < 8
    · rw [decide_eq_true q, decide_eq_false (show ¬ 64 ≤ i by omega), if_pos (show k + i < 64 by omega), BitVec.getLsbD_ofNat, decide_eq_true (show k + i < 64 by omega)]
      simp
    · rw [decide_eq_false q, Bool.and_false, Bool.false_and]
  rw [e, l_i32]
/-- how many letters -/
def nlF : Nat → Nat → Nat
  | 0, _ => 0
  | k + 1, m => if m = 0 then 0 else 1 + nlF k (m / 256)
theorem nlF_s {k m : Nat} : nlF (k + 1) m = if m = 0 then 0 else 1 + nlF k (m / 256) := rfl
theorem sr8 {m : Nat} (h : m < 2 ^ 63) : lN m >>> ((8 : Int32).toInt64 &&& 63) = lN (m / 256) := by
  apply Int64.toInt_inj.mp
  have hd : m / 256 ≤ m := Nat.div_le_self _ _
  have e : (lN m >>> ((8 : Int32).toInt64 &&& 63)).toInt = (lN m).toInt >>> 8 := BitVec.toInt_sshiftRight ..
  have l1 : (lN m).toInt = (m : Int) := lg_ofNat_toInt h
  have l2 : (lN (m / 256)).toInt = ((m / 256 : Nat) : Int) := lg_ofNat_toInt (by omega)
  rw [e, Int.shiftRight_eq_div_pow, l1, l2]
  rfl
