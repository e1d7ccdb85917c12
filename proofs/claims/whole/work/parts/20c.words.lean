-- ===== words: their names, pairs; the class's Words =====
theorem pk_congr {X Y : Nat → Int32} {s n : Nat} {v : Int64} (h : ∀ i, s ≤ i → i < s + n → X i = Y i) : pk X s n v = pk Y s n v := by
  induction n generalizing s v with
  | zero => rfl
  | succ n ih =>
    unfold pk
    rw [h s (Nat.le_refl s) (by omega)]
    exact ih (fun i h1 h2 => h i (by omega) (by omega))
theorem al_congr {X Y : Nat → Int32} {s n : Nat} (h : ∀ i, s ≤ i → i < s + n → X i = Y i) : al X s n = al Y s n := by
  induction n generalizing s with
  | zero => rfl
  | succ n ih =>
    unfold al
    rw [h s (Nat.le_refl s) (by omega), ih (fun i h1 h2 => h i (by omega) (by omega))]
theorem nm_congr {X Y : Nat → Int32} {s n : Nat} (h : ∀ i, s ≤ i → i < s + n → X i = Y i) : nm X s n = nm Y s n := by
  unfold nm
  rw [al_congr h, pk_congr h]
theorem al_no {X : Nat → Int32} {s n q : Nat} (h1 : s ≤ q) (h2 : q < s + n) (h : mj_let (X q) = false) : al X s n = false := by
  induction n generalizing s with
  | zero => exact absurd h2 (by omega)
  | succ n ih =>
    unfold al
    rcases Nat.lt_or_ge s q with w | w
    · rw [ih (by omega) (by omega), Bool.and_false]
    · have e : q = s := by omega
      subst e
      rw [h, Bool.false_and]
theorem nm_no {X : Nat → Int32} {s n q : Nat} (h1 : s ≤ q) (h2 : q < s + n) (h : mj_let (X q) = false) : nm X s n = 0 := by
  unfold nm
  rw [al_no h1 h2 h, if_neg (fun w => Bool.false_ne_true w.2)]
theorem nm_z {X : Nat → Int32} {s : Nat} : nm X s 0 = 0 := rfl
/-- where the first = stands, or the end -/
def eqF (X : Nat → Int32) : Nat → Nat → Nat
  | s, 0 => s
  | s, n + 1 => if X s = 61 then s else eqF X (s + 1) n
theorem eqF_congr {X Y : Nat → Int32} {s n : Nat} (h : ∀ i, s ≤ i → i < s + n → X i = Y i) : eqF X s n = eqF Y s n := by
  induction n generalizing s with
  | zero => rfl
  | succ n ih =>
    unfold eqF
    rw [h s (Nat.le_refl s) (by omega), ih (fun i h1 h2 => h i (by omega) (by omega))]
theorem eqF_le {X : Nat → Int32} {s n : Nat} : s ≤ eqF X s n ∧ eqF X s n ≤ s + n ∧ (eqF X s n < s + n → X (eqF X s n) = 61) := by
  induction n generalizing s with
  | zero => exact ⟨Nat.le_refl _, Nat.le_refl _, fun q => absurd q (by unfold eqF; omega)⟩
  | succ n ih =>
    unfold eqF
    split
    · rename_i q
      exact ⟨Nat.le_refl _, by omega, fun _ => q⟩
    · obtain ⟨a, b, c⟩ := ih (s := s + 1)
      exact ⟨by omega, by omega, fun q => c (by omega)⟩
def eqA (X : Nat → Int32) (s e : Nat) : Nat := eqF X s (e - s)
def wL (X : Nat → Int32) (s e : Nat) : Int64 := if eqA X s e < e then nm X s (eqA X s e - s) else 0
def wR (X : Nat → Int32) (s e : Nat) : Int64 := if eqA X s e < e then nm X (eqA X s e + 1) (e - (eqA X s e + 1)) else 0
/-- the PAIR that a WORD is, or two 0 -/
def pw (X : Nat → Int32) (t : Nat × Nat) : Int64 × Int64 := if wL X t.1 t.2 ≠ 0 ∧ wR X t.1 t.2 ≠ 0 then (wL X t.1 t.2, wR X t.1 t.2) else (0, 0)
/-- the NAME that a WORD is, or 0 -/
def nw (X : Nat → Int32) (t : Nat × Nat) : Int64 := nm X t.1 (t.2 - t.1)
def wN (X : Nat → Int32) (s e : Nat) : Int64 := if eqA X s e = e ∨ nm X (eqA X s e + 1) (e - (eqA X s e + 1)) ≠ 0 then nm X s (eqA X s e - s) else 0
def wV (X : Nat → Int32) (s e : Nat) : Int64 := if nm X s (eqA X s e - s) ≠ 0 then nm X (eqA X s e + 1) (e - (eqA X s e + 1)) else 0
theorem let61 : mj_let 61 = false := by decide
theorem wNV {X : Nat → Int32} {s e : Nat} (h : s < e) : (if wV X s e = 0 then wN X s e else 0) = nw X (s, e) ∧ (wV X s e = 0 ↔ (pw X (s, e)).2 = 0) ∧ (¬ wV X s e = 0 → (wN X s e, wV X s e) = pw X (s, e)) := by
  obtain ⟨a, b, c⟩ := eqF_le (X := X) (s := s) (n := e - s)
  have ea : eqA X s e = eqF X s (e - s) := rfl
  rw [← ea] at a b c
  have es : s + (e - s) = e := by omega
  rw [es] at b c
  unfold wN wV pw nw wL wR
  generalize eqA X s e = q at a b c
  rcases Nat.lt_or_ge q e with w | w
  · have n0 : nm X s (e - s) = 0 := nm_no a (by omega) (by rw [c w]; exact let61)
    have w1 : ¬ q = e := by omega
    simp only [n0, w, if_true, w1, false_or]
    by_cases h1 : nm X s (q - s) = 0
    · simp [h1]
    · by_cases h2 : nm X (q + 1) (e - (q + 1)) = 0
      · simp [h1, h2]
      · simp [h1, h2]
  · have e1 : q = e := by omega
    subst e1
    have e2 : q - (q + 1) = 0 := by omega
    rw [e2, nm_z]
    simp
theorem tx_vals {X Y : Nat → Int32} {s e : Nat} (hse : s ≤ e) (h : ∀ i, s ≤ i → i < e → X i = Y i) : eqA X s e = eqA Y s e ∧ nm X s (eqA X s e - s) = nm Y s (eqA Y s e - s) ∧ nm X (eqA X s e + 1) (e - (eqA X s e + 1)) = nm Y (eqA Y s e + 1) (e - (eqA Y s e + 1)) := by
  have e1 : eqA X s e = eqA Y s e := eqF_congr (fun i h1 h2 => h i h1 (by omega))
  obtain ⟨a, b, -⟩ := eqF_le (X := Y) (s := s) (n := e - s)
  have ea : eqA Y s e = eqF Y s (e - s) := rfl
  rw [← ea] at a b
  rw [e1]
  exact ⟨rfl, nm_congr (fun i h1 h2 => h i (by omega) (by omega)), nm_congr (fun i h1 h2 => h i (by omega) (by omega))⟩
theorem pw_congr {X Y : Nat → Int32} {t : Nat × Nat} (hse : t.1 ≤ t.2) (h : ∀ i, t.1 ≤ i → i < t.2 → X i = Y i) : pw X t = pw Y t := by
  obtain ⟨e1, e2, e3⟩ := tx_vals hse h
  unfold pw wL wR
  rw [e2, e3, e1]
theorem nw_congr {X Y : Nat → Int32} {t : Nat × Nat} (h : ∀ i, t.1 ≤ i → i < t.2 → X i = Y i) : nw X t = nw Y t := nm_congr (fun i h1 h2 => h i h1 (by omega))
theorem wNV_congr {X Y : Nat → Int32} {s e : Nat} (hse : s ≤ e) (h : ∀ i, s ≤ i → i < e → X i = Y i) : wN X s e = wN Y s e ∧ wV X s e = wV Y s e := by
  obtain ⟨e1, e2, e3⟩ := tx_vals hse h
  unfold wN wV
  rw [e2, e3, e1]
  exact ⟨rfl, rfl⟩
/-- the text t stands in the characters c from s on -/
def eqT (c : Nat → Int32) (t : List Nat) (s : Nat) : Nat → Nat → Bool
  | _, 0 => true
  | k, n + 1 => decide (c (s + k) = nI (t.getD k 0)) && eqT c t s (k + 1) n
/-- the word is the text -/
def isT (c : Nat → Int32) (w : Nat × Nat) (t : List Nat) : Bool := decide (w.2 - w.1 = t.length) && eqT c t w.1 0 t.length
abbrev Wt : Type := Nat × Nat × Nat
def sp (t : Wt) : Nat × Nat := (t.1, t.2.1)
def Wd (h : mj_H) (X : Nat → Int32) (L w : Nat) (t : Wt) : Prop := t.1 < t.2.1 ∧ t.2.1 ≤ L ∧ t.2.2 ≤ 700 ∧ h.1 4 w = nI t.1 ∧ h.1 5 w = nI t.2.1 ∧ h.1 6 w = nI t.2.2 ∧ h.2.1 7 w = wN X t.1 t.2.1 ∧ h.2.1 8 w = wV X t.1 t.2.1
/-- the class's words: the text, and where its words stand -/
def WW (h : mj_H) (X : Nat → Int32) (L : Nat) (W : List Wt) : Prop := L ≤ 700 ∧ (∀ i, i < L → h.1 3 i = X i) ∧ h.1 2 6 = nI W.length ∧ W.length ≤ 350 ∧ ∀ w, w < W.length → Wd h X L w (W.getD w (0, 0, 0))
theorem WW.fr {P : Nat → Nat → Prop} {h h' : mj_H} {X : Nat → Int32} {L : Nat} {W : List Wt} (A : WW h X L W) (f : fr P h h') (m : ∀ a i, 2 ≤ a → a ≤ 8 → ¬ P a i) : WW h' X L W := by
  obtain ⟨a1, a2, a3, a4, a5⟩ := A
  refine ⟨a1, fun i hi => (f.n (m _ _ (by decide) (by decide))).trans (a2 i hi), (f.n (m _ _ (by decide) (by decide))).trans a3, a4, fun w hw => ?_⟩
  obtain ⟨b1, b2, b3, b4, b5, b6, b7, b8⟩ := a5 w hw
  exact ⟨b1, b2, b3, (f.n (m _ _ (by decide) (by decide))).trans b4, (f.n (m _ _ (by decide) (by decide))).trans b5, (f.n (m _ _ (by decide) (by decide))).trans b6, (f.l (m _ _ (by decide) (by decide))).trans b7, (f.l (m _ _ (by decide) (by decide))).trans b8⟩
section WORDS
variable {d : Nat} {h : mj_H} {Q : Option Value → mj_H → Prop} {X : Nat → Int32} {L w : Nat} {W : List Wt}
theorem s161 (hW : WW h X L W) (hw : w < W.length) (k : Q (some (.int 1)) h) : mr_C mj_KK d 161 [.ref 2, .int (nI w)] h Q := by
  show mr_M mj_KK d 161 0 [some (.ref 2), some (.int (nI w))] [] h Q
  obtain ⟨a1, a2, a3, a4, a5⟩ := hW
  repeat' (first
    | (refine kb_161_0 (fun c => ?_) (fun c => ?_) <;> (try simp (disch := omega) only [z_0, z_1, z_2, z_3, z_4, z_5, z_6, z_7, z_8, z_9, z_10, z_12, z_13, z_20, z_21, z_25, z_56, z_350, z_31, z_32, z_36, z_48, z_57, z_61, z_97, z_100, z_122, z_125, z_126, z_144, z_255, z_700, z_1000, z_1548, nI_add, pk_mul, pk_sub, nI_clamp, nI_leI, nI_ltI, nI_eq, z_in, z_m1, z_m1b, lg_cmp_eq, z_cmp, Decidable.not_not, w_ie, w_in, w_il, w_le, w_ln, w_li, w_ir, w_lr, a3] at c) <;> (try (exfalso; omega)))
    | (refine kb_161_4 (by first | with_reducible assumption | with_reducible exact kd_W | assumption) (fun c => ?_) (fun c => ?_) <;> (try simp (disch := omega) only [z_0, z_1, z_2, z_3, z_4, z_5, z_6, z_7, z_8, z_9, z_10, z_12, z_13, z_20, z_21, z_25, z_56, z_350, z_31, z_32, z_36, z_48, z_57, z_61, z_97, z_100, z_122, z_125, z_126, z_144, z_255, z_700, z_1000, z_1548, nI_add, pk_mul, pk_sub, nI_clamp, nI_leI, nI_ltI, nI_eq, z_in, z_m1, z_m1b, lg_cmp_eq, z_cmp, Decidable.not_not, w_ie, w_in, w_il, w_le, w_ln, w_li, w_ir, w_lr, a3] at c) <;> (try (exfalso; omega)))
    | refine kb_161_12 ?_
    | refine kb_161_16 ?_
    | refine kb_161_17 (by first | assumption | exact b2i_01 _ | exact Or.inl rfl | exact Or.inr rfl) ?_)
  exact k
/-- Words.name -/
theorem s165 (hd : 1 ≤ d) (H : mj_RS h) (hW : WW h X L W) (hw : w < W.length) (k : Q (some (.long (nw X (sp (W.getD w (0, 0, 0)))))) h) : mr_C mj_KK d 165 [.ref 2, .int (nI w)] h Q := by
  show mr_M mj_KK d 165 0 [some (.ref 2), some (.int (nI w))] [] h Q
  refine kb_165_0 (by first | with_reducible assumption | with_reducible exact kd_W | assumption) (by omega) (s161 hW hw ?_)
  obtain ⟨a1, a2, a3, a4, a5⟩ := hW
  obtain ⟨b1, b2, b3, b4, b5, b6, b7, b8⟩ := a5 w hw
  refine kb_165_5 (fun c => absurd c (by decide)) (fun _ => ?_)
  have e := (wNV (X := X) b1).1
  unfold sp at k
  rw [← e] at k
  refine kb_165_8 (by first | with_reducible assumption | with_reducible exact kd_W | assumption) (by first | with_reducible assumption | exact rf_W_values H | assumption) (by first | with_reducible assumption | with_reducible exact kd_W_values | assumption) (by first | with_reducible assumption | (simp (disch := omega) only [z_0, z_1, z_2, z_3, z_4, z_5, z_6, z_7, z_8, z_9, z_10, z_12, z_13, z_20, z_21, z_25, z_56, z_350, z_31, z_32, z_36, z_48, z_57, z_61, z_97, z_100, z_122, z_125, z_126, z_144, z_255, z_700, z_1000, z_1548, nI_add, pk_mul, pk_sub, nI_clamp, nI_leI, nI_ltI, nI_eq, z_in, z_m1, z_m1b, lg_cmp_eq, z_cmp, Decidable.not_not, w_ie, w_in, w_il, w_le, w_ln, w_li, w_ir, w_lr, ln_P_tape, ln_W_text, ln_W_starts, ln_W_ends, ln_W_lines, ln_W_names, ln_W_values, ln_PL_jobs, ln_PL_parts, ln_FT_reached, ln_EX_jobs, ln_EX_codes, ln_CB_names, ln_CB_values, ln_M_tape, ln_M_source, ln_M_wordAt, ln_M_wordEnd, ln_M_names, ln_M_itemCount, ln_M_itemFirst, ln_M_itemWords, ln_M_itemUses, ln_M_keptAt, ln_M_keptEnd, ln_M_needCount, ln_M_axisCount, ln_M_valueCount, ln_M_needed, ln_M_axes, ln_M_values, ln_M_includes, ln_M_excludes, ln_M_pairCount, ln_M_pairName, ln_M_pairValue, ln_M_signCount, ln_M_signs, ln_M_signName, ln_M_signValue, ln_M_whose, ln_M_which, ln_M_pile, ln_M_reaches, ln_M_stepsOf, ln_M_known, ln_JB_needed, ln_JB_axes, ln_JS_used, ln_JS_stepWords, ln_PS_used, ln_PS_stepWords, ln_IN_rows, ln_EC_rows, ln_IR_names, ln_IR_values, ln_ER_names, ln_ER_values, ln_CD_kinds, ln_CD_names, ln_CD_values, ln_AX_values] <;> omega) | assumption) (fun c => ?_) (fun c => ?_)
  · simp (disch := omega) only [z_0, z_1, z_2, z_3, z_4, z_5, z_6, z_7, z_8, z_9, z_10, z_12, z_13, z_20, z_21, z_25, z_56, z_350, z_31, z_32, z_36, z_48, z_57, z_61, z_97, z_100, z_122, z_125, z_126, z_144, z_255, z_700, z_1000, z_1548, nI_add, pk_mul, pk_sub, nI_clamp, nI_leI, nI_ltI, nI_eq, z_in, z_m1, z_m1b, lg_cmp_eq, z_cmp, Decidable.not_not, w_ie, w_in, w_il, w_le, w_ln, w_li, w_ir, w_lr, b8] at c
    rw [if_neg c] at k
    exact kb_165_28 (kb_165_29 k)
  · simp (disch := omega) only [z_0, z_1, z_2, z_3, z_4, z_5, z_6, z_7, z_8, z_9, z_10, z_12, z_13, z_20, z_21, z_25, z_56, z_350, z_31, z_32, z_36, z_48, z_57, z_61, z_97, z_100, z_122, z_125, z_126, z_144, z_255, z_700, z_1000, z_1548, nI_add, pk_mul, pk_sub, nI_clamp, nI_leI, nI_ltI, nI_eq, z_in, z_m1, z_m1b, lg_cmp_eq, z_cmp, Decidable.not_not, w_ie, w_in, w_il, w_le, w_ln, w_li, w_ir, w_lr, b8] at c
    rw [if_pos c] at k
    refine kb_165_19 (by first | with_reducible assumption | with_reducible exact kd_W | assumption) (by first | with_reducible assumption | exact rf_W_names H | assumption) (by first | with_reducible assumption | with_reducible exact kd_W_names | assumption) (by first | with_reducible assumption | (simp (disch := omega) only [z_0, z_1, z_2, z_3, z_4, z_5, z_6, z_7, z_8, z_9, z_10, z_12, z_13, z_20, z_21, z_25, z_56, z_350, z_31, z_32, z_36, z_48, z_57, z_61, z_97, z_100, z_122, z_125, z_126, z_144, z_255, z_700, z_1000, z_1548, nI_add, pk_mul, pk_sub, nI_clamp, nI_leI, nI_ltI, nI_eq, z_in, z_m1, z_m1b, lg_cmp_eq, z_cmp, Decidable.not_not, w_ie, w_in, w_il, w_le, w_ln, w_li, w_ir, w_lr, ln_P_tape, ln_W_text, ln_W_starts, ln_W_ends, ln_W_lines, ln_W_names, ln_W_values, ln_PL_jobs, ln_PL_parts, ln_FT_reached, ln_EX_jobs, ln_EX_codes, ln_CB_names, ln_CB_values, ln_M_tape, ln_M_source, ln_M_wordAt, ln_M_wordEnd, ln_M_names, ln_M_itemCount, ln_M_itemFirst, ln_M_itemWords, ln_M_itemUses, ln_M_keptAt, ln_M_keptEnd, ln_M_needCount, ln_M_axisCount, ln_M_valueCount, ln_M_needed, ln_M_axes, ln_M_values, ln_M_includes, ln_M_excludes, ln_M_pairCount, ln_M_pairName, ln_M_pairValue, ln_M_signCount, ln_M_signs, ln_M_signName, ln_M_signValue, ln_M_whose, ln_M_which, ln_M_pile, ln_M_reaches, ln_M_stepsOf, ln_M_known, ln_JB_needed, ln_JB_axes, ln_JS_used, ln_JS_stepWords, ln_PS_used, ln_PS_stepWords, ln_IN_rows, ln_EC_rows, ln_IR_names, ln_IR_values, ln_ER_names, ln_ER_values, ln_CD_kinds, ln_CD_names, ln_CD_values, ln_AX_values] <;> omega) | assumption) (kb_165_29 ?_)
    simp (disch := omega) only [z_0, z_1, z_2, z_3, z_4, z_5, z_6, z_7, z_8, z_9, z_10, z_12, z_13, z_20, z_21, z_25, z_56, z_350, z_31, z_32, z_36, z_48, z_57, z_61, z_97, z_100, z_122, z_125, z_126, z_144, z_255, z_700, z_1000, z_1548, nI_add, pk_mul, pk_sub, nI_clamp, nI_leI, nI_ltI, nI_eq, z_in, z_m1, z_m1b, lg_cmp_eq, z_cmp, Decidable.not_not, w_ie, w_in, w_il, w_le, w_ln, w_li, w_ir, w_lr, b7]
    exact k
/-- Words.isPair -/
theorem s166 (hd : 1 ≤ d) (H : mj_RS h) (hW : WW h X L W) (hw : w < W.length) (k1 : ¬ (pw X (sp (W.getD w (0, 0, 0)))).2 = 0 → h.2.1 7 w = (pw X (sp (W.getD w (0, 0, 0)))).1 → h.2.1 8 w = (pw X (sp (W.getD w (0, 0, 0)))).2 → Q (some (.int 1)) h) (k0 : (pw X (sp (W.getD w (0, 0, 0)))).2 = 0 → Q (some (.int 0)) h) : mr_C mj_KK d 166 [.ref 2, .int (nI w)] h Q := by
  show mr_M mj_KK d 166 0 [some (.ref 2), some (.int (nI w))] [] h Q
  refine kb_166_0 (by first | with_reducible assumption | with_reducible exact kd_W | assumption) (by omega) (s161 hW hw ?_)
  obtain ⟨a1, a2, a3, a4, a5⟩ := hW
  obtain ⟨b1, b2, b3, b4, b5, b6, b7, b8⟩ := a5 w hw
  obtain ⟨-, e2, e3⟩ := wNV (X := X) b1
  refine kb_166_5 (fun c => absurd c (by decide)) (fun _ => ?_)
  refine kb_166_8 (by first | with_reducible assumption | with_reducible exact kd_W | assumption) (by first | with_reducible assumption | exact rf_W_values H | assumption) (by first | with_reducible assumption | with_reducible exact kd_W_values | assumption) (by first | with_reducible assumption | (simp (disch := omega) only [z_0, z_1, z_2, z_3, z_4, z_5, z_6, z_7, z_8, z_9, z_10, z_12, z_13, z_20, z_21, z_25, z_56, z_350, z_31, z_32, z_36, z_48, z_57, z_61, z_97, z_100, z_122, z_125, z_126, z_144, z_255, z_700, z_1000, z_1548, nI_add, pk_mul, pk_sub, nI_clamp, nI_leI, nI_ltI, nI_eq, z_in, z_m1, z_m1b, lg_cmp_eq, z_cmp, Decidable.not_not, w_ie, w_in, w_il, w_le, w_ln, w_li, w_ir, w_lr, ln_P_tape, ln_W_text, ln_W_starts, ln_W_ends, ln_W_lines, ln_W_names, ln_W_values, ln_PL_jobs, ln_PL_parts, ln_FT_reached, ln_EX_jobs, ln_EX_codes, ln_CB_names, ln_CB_values, ln_M_tape, ln_M_source, ln_M_wordAt, ln_M_wordEnd, ln_M_names, ln_M_itemCount, ln_M_itemFirst, ln_M_itemWords, ln_M_itemUses, ln_M_keptAt, ln_M_keptEnd, ln_M_needCount, ln_M_axisCount, ln_M_valueCount, ln_M_needed, ln_M_axes, ln_M_values, ln_M_includes, ln_M_excludes, ln_M_pairCount, ln_M_pairName, ln_M_pairValue, ln_M_signCount, ln_M_signs, ln_M_signName, ln_M_signValue, ln_M_whose, ln_M_which, ln_M_pile, ln_M_reaches, ln_M_stepsOf, ln_M_known, ln_JB_needed, ln_JB_axes, ln_JS_used, ln_JS_stepWords, ln_PS_used, ln_PS_stepWords, ln_IN_rows, ln_EC_rows, ln_IR_names, ln_IR_values, ln_ER_names, ln_ER_values, ln_CD_kinds, ln_CD_names, ln_CD_values, ln_AX_values] <;> omega) | assumption) (fun c => ?_) (fun c => ?_)
  · simp (disch := omega) only [z_0, z_1, z_2, z_3, z_4, z_5, z_6, z_7, z_8, z_9, z_10, z_12, z_13, z_20, z_21, z_25, z_56, z_350, z_31, z_32, z_36, z_48, z_57, z_61, z_97, z_100, z_122, z_125, z_126, z_144, z_255, z_700, z_1000, z_1548, nI_add, pk_mul, pk_sub, nI_clamp, nI_leI, nI_ltI, nI_eq, z_in, z_m1, z_m1b, lg_cmp_eq, z_cmp, Decidable.not_not, w_ie, w_in, w_il, w_le, w_ln, w_li, w_ir, w_lr, b8] at c
    exact kb_166_23 (kb_166_24 (by first | assumption | exact b2i_01 _ | exact Or.inl rfl | exact Or.inr rfl) (k0 (e2.mp c)))
  · simp (disch := omega) only [z_0, z_1, z_2, z_3, z_4, z_5, z_6, z_7, z_8, z_9, z_10, z_12, z_13, z_20, z_21, z_25, z_56, z_350, z_31, z_32, z_36, z_48, z_57, z_61, z_97, z_100, z_122, z_125, z_126, z_144, z_255, z_700, z_1000, z_1548, nI_add, pk_mul, pk_sub, nI_clamp, nI_leI, nI_ltI, nI_eq, z_in, z_m1, z_m1b, lg_cmp_eq, z_cmp, Decidable.not_not, w_ie, w_in, w_il, w_le, w_ln, w_li, w_ir, w_lr, b8] at c
    have e4 := e3 c
    exact kb_166_19 (kb_166_24 (by first | assumption | exact b2i_01 _ | exact Or.inl rfl | exact Or.inr rfl) (k1 (fun q => c (e2.mpr q)) (b7.trans (congrArg Prod.fst e4)) (b8.trans (congrArg Prod.snd e4))))
/-- Words.is -/
theorem s162 {t : Nat} (hd : 8 ≤ d) (H : mj_RS h) (hW : WW h X L W) (hw : w < W.length) (ht : t < mj_nS) (htl : (mj_str t).length < 1000) (k : Q (some (.int (b2i (isT X (sp (W.getD w (0, 0, 0))) (mj_str t))))) h) : mr_C mj_KK d 162 [.ref 2, .int (nI w), .retAddr t] h Q := by
  show mr_M mj_KK d 162 0 [some (.ref 2), some (.int (nI w)), some (.retAddr t), none] [] h Q
  obtain ⟨a1, a2, a3, a4, a5⟩ := hW
  obtain ⟨b1, b2, b3, b4, b5, b6, b7, b8⟩ := a5 w hw
  generalize W.getD w (0, 0, 0) = tt at *
  refine kb_162_0 (fun c => (by simp (disch := omega) only [z_0, z_1, z_2, z_3, z_4, z_5, z_6, z_7, z_8, z_9, z_10, z_12, z_13, z_20, z_21, z_25, z_56, z_350, z_31, z_32, z_36, z_48, z_57, z_61, z_97, z_100, z_122, z_125, z_126, z_144, z_255, z_700, z_1000, z_1548, nI_add, pk_mul, pk_sub, nI_clamp, nI_leI, nI_ltI, nI_eq, z_in, z_m1, z_m1b, lg_cmp_eq, z_cmp, Decidable.not_not, w_ie, w_in, w_il, w_le, w_ln, w_li, w_ir, w_lr] at c; exfalso; omega)) (fun _ => ?_)
  refine kb_162_4 (by first | with_reducible assumption | with_reducible exact kd_W | assumption) (fun c => (by simp (disch := omega) only [z_0, z_1, z_2, z_3, z_4, z_5, z_6, z_7, z_8, z_9, z_10, z_12, z_13, z_20, z_21, z_25, z_56, z_350, z_31, z_32, z_36, z_48, z_57, z_61, z_97, z_100, z_122, z_125, z_126, z_144, z_255, z_700, z_1000, z_1548, nI_add, pk_mul, pk_sub, nI_clamp, nI_leI, nI_ltI, nI_eq, z_in, z_m1, z_m1b, lg_cmp_eq, z_cmp, Decidable.not_not, w_ie, w_in, w_il, w_le, w_ln, w_li, w_ir, w_lr, a3] at c; exfalso; omega)) (fun _ => ?_)
  have eN : Int32.ofNat (mj_str t).length = nI (mj_str t).length := rfl
  refine kb_162_12 (by first | with_reducible assumption | with_reducible exact kd_W | assumption) (by first | with_reducible assumption | exact rf_W_ends H | assumption) (by first | with_reducible assumption | with_reducible exact kd_W_ends | assumption) (by first | with_reducible assumption | (simp (disch := omega) only [z_0, z_1, z_2, z_3, z_4, z_5, z_6, z_7, z_8, z_9, z_10, z_12, z_13, z_20, z_21, z_25, z_56, z_350, z_31, z_32, z_36, z_48, z_57, z_61, z_97, z_100, z_122, z_125, z_126, z_144, z_255, z_700, z_1000, z_1548, nI_add, pk_mul, pk_sub, nI_clamp, nI_leI, nI_ltI, nI_eq, z_in, z_m1, z_m1b, lg_cmp_eq, z_cmp, Decidable.not_not, w_ie, w_in, w_il, w_le, w_ln, w_li, w_ir, w_lr, ln_P_tape, ln_W_text, ln_W_starts, ln_W_ends, ln_W_lines, ln_W_names, ln_W_values, ln_PL_jobs, ln_PL_parts, ln_FT_reached, ln_EX_jobs, ln_EX_codes, ln_CB_names, ln_CB_values, ln_M_tape, ln_M_source, ln_M_wordAt, ln_M_wordEnd, ln_M_names, ln_M_itemCount, ln_M_itemFirst, ln_M_itemWords, ln_M_itemUses, ln_M_keptAt, ln_M_keptEnd, ln_M_needCount, ln_M_axisCount, ln_M_valueCount, ln_M_needed, ln_M_axes, ln_M_values, ln_M_includes, ln_M_excludes, ln_M_pairCount, ln_M_pairName, ln_M_pairValue, ln_M_signCount, ln_M_signs, ln_M_signName, ln_M_signValue, ln_M_whose, ln_M_which, ln_M_pile, ln_M_reaches, ln_M_stepsOf, ln_M_known, ln_JB_needed, ln_JB_axes, ln_JS_used, ln_JS_stepWords, ln_PS_used, ln_PS_stepWords, ln_IN_rows, ln_EC_rows, ln_IR_names, ln_IR_values, ln_ER_names, ln_ER_values, ln_CD_kinds, ln_CD_names, ln_CD_values, ln_AX_values] <;> omega) | assumption) (by first | with_reducible assumption | exact rf_W_starts H | assumption) (by first | with_reducible assumption | with_reducible exact kd_W_starts | assumption) (by first | with_reducible assumption | (simp (disch := omega) only [z_0, z_1, z_2, z_3, z_4, z_5, z_6, z_7, z_8, z_9, z_10, z_12, z_13, z_20, z_21, z_25, z_56, z_350, z_31, z_32, z_36, z_48, z_57, z_61, z_97, z_100, z_122, z_125, z_126, z_144, z_255, z_700, z_1000, z_1548, nI_add, pk_mul, pk_sub, nI_clamp, nI_leI, nI_ltI, nI_eq, z_in, z_m1, z_m1b, lg_cmp_eq, z_cmp, Decidable.not_not, w_ie, w_in, w_il, w_le, w_ln, w_li, w_ir, w_lr, ln_P_tape, ln_W_text, ln_W_starts, ln_W_ends, ln_W_lines, ln_W_names, ln_W_values, ln_PL_jobs, ln_PL_parts, ln_FT_reached, ln_EX_jobs, ln_EX_codes, ln_CB_names, ln_CB_values, ln_M_tape, ln_M_source, ln_M_wordAt, ln_M_wordEnd, ln_M_names, ln_M_itemCount, ln_M_itemFirst, ln_M_itemWords, ln_M_itemUses, ln_M_keptAt, ln_M_keptEnd, ln_M_needCount, ln_M_axisCount, ln_M_valueCount, ln_M_needed, ln_M_axes, ln_M_values, ln_M_includes, ln_M_excludes, ln_M_pairCount, ln_M_pairName, ln_M_pairValue, ln_M_signCount, ln_M_signs, ln_M_signName, ln_M_signValue, ln_M_whose, ln_M_which, ln_M_pile, ln_M_reaches, ln_M_stepsOf, ln_M_known, ln_JB_needed, ln_JB_axes, ln_JS_used, ln_JS_stepWords, ln_PS_used, ln_PS_stepWords, ln_IN_rows, ln_EC_rows, ln_IR_names, ln_IR_values, ln_ER_names, ln_ER_values, ln_CD_kinds, ln_CD_names, ln_CD_values, ln_AX_values] <;> omega) | assumption) (by first | assumption | decide) (by omega) (fun c => ?_) (fun c => ?_)
  · simp (disch := omega) only [z_0, z_1, z_2, z_3, z_4, z_5, z_6, z_7, z_8, z_9, z_10, z_12, z_13, z_20, z_21, z_25, z_56, z_350, z_31, z_32, z_36, z_48, z_57, z_61, z_97, z_100, z_122, z_125, z_126, z_144, z_255, z_700, z_1000, z_1548, nI_add, pk_mul, pk_sub, nI_clamp, nI_leI, nI_ltI, nI_eq, z_in, z_m1, z_m1b, lg_cmp_eq, z_cmp, Decidable.not_not, w_ie, w_in, w_il, w_le, w_ln, w_li, w_ir, w_lr, b4, b5, eN] at c
    refine kb_162_34 ?_
    have loop : ∀ n i, i + n = (mj_str t).length → (eqT X (mj_str t) tt.1 i n = true → Q (some (.int 1)) h) → (eqT X (mj_str t) tt.1 i n = false → Q (some (.int 0)) h) → mr_M mj_KK d 162 36 [some (.ref 2), some (.int (nI w)), some (.retAddr t), some (.int (nI i))] [] h Q := by
      intro n
      induction n with
      | zero =>
        intro i hi h1 h2
        exact kb_162_36 (by first | assumption | decide) (by omega) (fun _ => kb_162_73 (h1 rfl)) (fun c => (by simp (disch := omega) only [z_0, z_1, z_2, z_3, z_4, z_5, z_6, z_7, z_8, z_9, z_10, z_12, z_13, z_20, z_21, z_25, z_56, z_350, z_31, z_32, z_36, z_48, z_57, z_61, z_97, z_100, z_122, z_125, z_126, z_144, z_255, z_700, z_1000, z_1548, nI_add, pk_mul, pk_sub, nI_clamp, nI_leI, nI_ltI, nI_eq, z_in, z_m1, z_m1b, lg_cmp_eq, z_cmp, Decidable.not_not, w_ie, w_in, w_il, w_le, w_ln, w_li, w_ir, w_lr, eN] at c; exfalso; omega))
      | succ n ih =>
        intro i hi h1 h2
        have e9 := a2 (tt.1 + i) (by omega)
        refine kb_162_36 (by first | assumption | decide) (by omega) (fun c => (by simp (disch := omega) only [z_0, z_1, z_2, z_3, z_4, z_5, z_6, z_7, z_8, z_9, z_10, z_12, z_13, z_20, z_21, z_25, z_56, z_350, z_31, z_32, z_36, z_48, z_57, z_61, z_97, z_100, z_122, z_125, z_126, z_144, z_255, z_700, z_1000, z_1548, nI_add, pk_mul, pk_sub, nI_clamp, nI_leI, nI_ltI, nI_eq, z_in, z_m1, z_m1b, lg_cmp_eq, z_cmp, Decidable.not_not, w_ie, w_in, w_il, w_le, w_ln, w_li, w_ir, w_lr, eN] at c; exfalso; omega)) (fun _ => ?_)
        refine kb_162_44 kd_W (rf_W_text H) (rf_W_starts H) kd_W_starts (by simp (disch := omega) only [z_0, z_1, z_2, z_3, z_4, z_5, z_6, z_7, z_8, z_9, z_10, z_12, z_13, z_20, z_21, z_25, z_56, z_350, z_31, z_32, z_36, z_48, z_57, z_61, z_97, z_100, z_122, z_125, z_126, z_144, z_255, z_700, z_1000, z_1548, nI_add, pk_mul, pk_sub, nI_clamp, nI_leI, nI_ltI, nI_eq, z_in, z_m1, z_m1b, lg_cmp_eq, z_cmp, Decidable.not_not, w_ie, w_in, w_il, w_le, w_ln, w_li, w_ir, w_lr, ln_W_starts] <;> omega) kd_W_text (by simp (disch := omega) only [z_0, z_1, z_2, z_3, z_4, z_5, z_6, z_7, z_8, z_9, z_10, z_12, z_13, z_20, z_21, z_25, z_56, z_350, z_31, z_32, z_36, z_48, z_57, z_61, z_97, z_100, z_122, z_125, z_126, z_144, z_255, z_700, z_1000, z_1548, nI_add, pk_mul, pk_sub, nI_clamp, nI_leI, nI_ltI, nI_eq, z_in, z_m1, z_m1b, lg_cmp_eq, z_cmp, Decidable.not_not, w_ie, w_in, w_il, w_le, w_ln, w_li, w_ir, w_lr, ln_W_text, b4] <;> omega) ht (by simp (disch := omega) only [z_0, z_1, z_2, z_3, z_4, z_5, z_6, z_7, z_8, z_9, z_10, z_12, z_13, z_20, z_21, z_25, z_56, z_350, z_31, z_32, z_36, z_48, z_57, z_61, z_97, z_100, z_122, z_125, z_126, z_144, z_255, z_700, z_1000, z_1548, nI_add, pk_mul, pk_sub, nI_clamp, nI_leI, nI_ltI, nI_eq, z_in, z_m1, z_m1b, lg_cmp_eq, z_cmp, Decidable.not_not, w_ie, w_in, w_il, w_le, w_ln, w_li, w_ir, w_lr] <;> omega) hd (fun c => ?_) (fun c => ?_)
        · simp (disch := omega) only [z_0, z_1, z_2, z_3, z_4, z_5, z_6, z_7, z_8, z_9, z_10, z_12, z_13, z_20, z_21, z_25, z_56, z_350, z_31, z_32, z_36, z_48, z_57, z_61, z_97, z_100, z_122, z_125, z_126, z_144, z_255, z_700, z_1000, z_1548, nI_add, pk_mul, pk_sub, nI_clamp, nI_leI, nI_ltI, nI_eq, z_in, z_m1, z_m1b, lg_cmp_eq, z_cmp, Decidable.not_not, w_ie, w_in, w_il, w_le, w_ln, w_li, w_ir, w_lr, b4, e9] at c
          refine kb_162_67 ?_
          rw [nI_1]
          exact ih (i + 1) (by omega) (fun r => h1 (by unfold eqT; rw [r, c, decide_eq_true rfl]; rfl)) (fun r => h2 (by unfold eqT; rw [r, Bool.and_false]))
        · simp (disch := omega) only [z_0, z_1, z_2, z_3, z_4, z_5, z_6, z_7, z_8, z_9, z_10, z_12, z_13, z_20, z_21, z_25, z_56, z_350, z_31, z_32, z_36, z_48, z_57, z_61, z_97, z_100, z_122, z_125, z_126, z_144, z_255, z_700, z_1000, z_1548, nI_add, pk_mul, pk_sub, nI_clamp, nI_leI, nI_ltI, nI_eq, z_in, z_m1, z_m1b, lg_cmp_eq, z_cmp, Decidable.not_not, w_ie, w_in, w_il, w_le, w_ln, w_li, w_ir, w_lr, b4, e9] at c
          exact kb_162_65 (h2 (by unfold eqT; rw [decide_eq_false c]; rfl))
    unfold isT at k
    have eL : (sp tt).2 - (sp tt).1 = (mj_str t).length := c
    rw [decide_eq_true eL, Bool.true_and] at k
    refine loop (mj_str t).length 0 (by omega) (fun q2 => ?_) (fun q2 => ?_)
    · have q2 : eqT X (mj_str t) (sp tt).1 0 (mj_str t).length = true := q2
      rw [q2] at k
      exact k
    · have q2 : eqT X (mj_str t) (sp tt).1 0 (mj_str t).length = false := q2
      rw [q2] at k
      exact k
  · simp (disch := omega) only [z_0, z_1, z_2, z_3, z_4, z_5, z_6, z_7, z_8, z_9, z_10, z_12, z_13, z_20, z_21, z_25, z_56, z_350, z_31, z_32, z_36, z_48, z_57, z_61, z_97, z_100, z_122, z_125, z_126, z_144, z_255, z_700, z_1000, z_1548, nI_add, pk_mul, pk_sub, nI_clamp, nI_leI, nI_ltI, nI_eq, z_in, z_m1, z_m1b, lg_cmp_eq, z_cmp, Decidable.not_not, w_ie, w_in, w_il, w_le, w_ln, w_li, w_ir, w_lr, b4, b5, eN] at c
    unfold isT at k
    have eL : ¬ (sp tt).2 - (sp tt).1 = (mj_str t).length := c
    rw [decide_eq_false eL, Bool.false_and] at k
    exact kb_162_32 k
/-- Words.beginsLine -/
theorem s168 (hd : 1 ≤ d) (H : mj_RS h) (hW : WW h X L W) (hw : w < W.length) (k1 : (w = 0 ∨ ¬ (W.getD (w - 1) (0, 0, 0)).2.2 = (W.getD w (0, 0, 0)).2.2) → Q (some (.int 1)) h) (k0 : 0 < w → (W.getD (w - 1) (0, 0, 0)).2.2 = (W.getD w (0, 0, 0)).2.2 → Q (some (.int 0)) h) : mr_C mj_KK d 168 [.ref 2, .int (nI w)] h Q := by
  show mr_M mj_KK d 168 0 [some (.ref 2), some (.int (nI w))] [] h Q
  refine kb_168_0 (by first | with_reducible assumption | with_reducible exact kd_W | assumption) (by omega) (s161 hW hw ?_)
  obtain ⟨a1, a2, a3, a4, a5⟩ := hW
  obtain ⟨b1, b2, b3, b4, b5, b6, b7, b8⟩ := a5 w hw
  refine kb_168_5 (fun c => absurd c (by decide)) (fun _ => ?_)
  refine kb_168_8 (fun c => kb_168_29 (kb_168_34 (by first | assumption | exact b2i_01 _ | exact Or.inl rfl | exact Or.inr rfl) (k1 (Or.inl ?_)))) (fun c => ?_)
  · simp (disch := omega) only [z_0, z_1, z_2, z_3, z_4, z_5, z_6, z_7, z_8, z_9, z_10, z_12, z_13, z_20, z_21, z_25, z_56, z_350, z_31, z_32, z_36, z_48, z_57, z_61, z_97, z_100, z_122, z_125, z_126, z_144, z_255, z_700, z_1000, z_1548, nI_add, pk_mul, pk_sub, nI_clamp, nI_leI, nI_ltI, nI_eq, z_in, z_m1, z_m1b, lg_cmp_eq, z_cmp, Decidable.not_not, w_ie, w_in, w_il, w_le, w_ln, w_li, w_ir, w_lr] at c
    exact c
  · simp (disch := omega) only [z_0, z_1, z_2, z_3, z_4, z_5, z_6, z_7, z_8, z_9, z_10, z_12, z_13, z_20, z_21, z_25, z_56, z_350, z_31, z_32, z_36, z_48, z_57, z_61, z_97, z_100, z_122, z_125, z_126, z_144, z_255, z_700, z_1000, z_1548, nI_add, pk_mul, pk_sub, nI_clamp, nI_leI, nI_ltI, nI_eq, z_in, z_m1, z_m1b, lg_cmp_eq, z_cmp, Decidable.not_not, w_ie, w_in, w_il, w_le, w_ln, w_li, w_ir, w_lr] at c
    obtain ⟨c1, c2, c3, c4, c5, c6, c7, c8⟩ := a5 (w - 1) (by omega)
    refine kb_168_12 (by first | with_reducible assumption | with_reducible exact kd_W | assumption) (by first | with_reducible assumption | exact rf_W_lines H | assumption) (by first | with_reducible assumption | with_reducible exact kd_W_lines | assumption) (by first | with_reducible assumption | (simp (disch := omega) only [z_0, z_1, z_2, z_3, z_4, z_5, z_6, z_7, z_8, z_9, z_10, z_12, z_13, z_20, z_21, z_25, z_56, z_350, z_31, z_32, z_36, z_48, z_57, z_61, z_97, z_100, z_122, z_125, z_126, z_144, z_255, z_700, z_1000, z_1548, nI_add, pk_mul, pk_sub, nI_clamp, nI_leI, nI_ltI, nI_eq, z_in, z_m1, z_m1b, lg_cmp_eq, z_cmp, Decidable.not_not, w_ie, w_in, w_il, w_le, w_ln, w_li, w_ir, w_lr, ln_P_tape, ln_W_text, ln_W_starts, ln_W_ends, ln_W_lines, ln_W_names, ln_W_values, ln_PL_jobs, ln_PL_parts, ln_FT_reached, ln_EX_jobs, ln_EX_codes, ln_CB_names, ln_CB_values, ln_M_tape, ln_M_source, ln_M_wordAt, ln_M_wordEnd, ln_M_names, ln_M_itemCount, ln_M_itemFirst, ln_M_itemWords, ln_M_itemUses, ln_M_keptAt, ln_M_keptEnd, ln_M_needCount, ln_M_axisCount, ln_M_valueCount, ln_M_needed, ln_M_axes, ln_M_values, ln_M_includes, ln_M_excludes, ln_M_pairCount, ln_M_pairName, ln_M_pairValue, ln_M_signCount, ln_M_signs, ln_M_signName, ln_M_signValue, ln_M_whose, ln_M_which, ln_M_pile, ln_M_reaches, ln_M_stepsOf, ln_M_known, ln_JB_needed, ln_JB_axes, ln_JS_used, ln_JS_stepWords, ln_PS_used, ln_PS_stepWords, ln_IN_rows, ln_EC_rows, ln_IR_names, ln_IR_values, ln_ER_names, ln_ER_values, ln_CD_kinds, ln_CD_names, ln_CD_values, ln_AX_values] <;> omega) | assumption) (by first | with_reducible assumption | (simp (disch := omega) only [z_0, z_1, z_2, z_3, z_4, z_5, z_6, z_7, z_8, z_9, z_10, z_12, z_13, z_20, z_21, z_25, z_56, z_350, z_31, z_32, z_36, z_48, z_57, z_61, z_97, z_100, z_122, z_125, z_126, z_144, z_255, z_700, z_1000, z_1548, nI_add, pk_mul, pk_sub, nI_clamp, nI_leI, nI_ltI, nI_eq, z_in, z_m1, z_m1b, lg_cmp_eq, z_cmp, Decidable.not_not, w_ie, w_in, w_il, w_le, w_ln, w_li, w_ir, w_lr, ln_P_tape, ln_W_text, ln_W_starts, ln_W_ends, ln_W_lines, ln_W_names, ln_W_values, ln_PL_jobs, ln_PL_parts, ln_FT_reached, ln_EX_jobs, ln_EX_codes, ln_CB_names, ln_CB_values, ln_M_tape, ln_M_source, ln_M_wordAt, ln_M_wordEnd, ln_M_names, ln_M_itemCount, ln_M_itemFirst, ln_M_itemWords, ln_M_itemUses, ln_M_keptAt, ln_M_keptEnd, ln_M_needCount, ln_M_axisCount, ln_M_valueCount, ln_M_needed, ln_M_axes, ln_M_values, ln_M_includes, ln_M_excludes, ln_M_pairCount, ln_M_pairName, ln_M_pairValue, ln_M_signCount, ln_M_signs, ln_M_signName, ln_M_signValue, ln_M_whose, ln_M_which, ln_M_pile, ln_M_reaches, ln_M_stepsOf, ln_M_known, ln_JB_needed, ln_JB_axes, ln_JS_used, ln_JS_stepWords, ln_PS_used, ln_PS_stepWords, ln_IN_rows, ln_EC_rows, ln_IR_names, ln_IR_values, ln_ER_names, ln_ER_values, ln_CD_kinds, ln_CD_names, ln_CD_values, ln_AX_values] <;> omega) | assumption) (fun c => ?_) (fun c => ?_)
    · simp (disch := omega) only [z_0, z_1, z_2, z_3, z_4, z_5, z_6, z_7, z_8, z_9, z_10, z_12, z_13, z_20, z_21, z_25, z_56, z_350, z_31, z_32, z_36, z_48, z_57, z_61, z_97, z_100, z_122, z_125, z_126, z_144, z_255, z_700, z_1000, z_1548, nI_add, pk_mul, pk_sub, nI_clamp, nI_leI, nI_ltI, nI_eq, z_in, z_m1, z_m1b, lg_cmp_eq, z_cmp, Decidable.not_not, w_ie, w_in, w_il, w_le, w_ln, w_li, w_ir, w_lr, b6, c6] at c
      exact kb_168_33 (kb_168_34 (by first | assumption | exact b2i_01 _ | exact Or.inl rfl | exact Or.inr rfl) (k0 (by omega) c))
    · simp (disch := omega) only [z_0, z_1, z_2, z_3, z_4, z_5, z_6, z_7, z_8, z_9, z_10, z_12, z_13, z_20, z_21, z_25, z_56, z_350, z_31, z_32, z_36, z_48, z_57, z_61, z_97, z_100, z_122, z_125, z_126, z_144, z_255, z_700, z_1000, z_1548, nI_add, pk_mul, pk_sub, nI_clamp, nI_leI, nI_ltI, nI_eq, z_in, z_m1, z_m1b, lg_cmp_eq, z_cmp, Decidable.not_not, w_ie, w_in, w_il, w_le, w_ln, w_li, w_ir, w_lr, b6, c6] at c
      exact kb_168_29 (kb_168_34 (by first | assumption | exact b2i_01 _ | exact Or.inl rfl | exact Or.inr rfl) (k1 (Or.inr c)))
/-- Words.lineEnd -/
theorem s169 {n : Nat} (hd : 1 ≤ d) (H : mj_RS h) (hW : WW h X L W) (h0 : 0 < n) (hn : w + n ≤ W.length) (hs : ∀ i, i < n → (W.getD (w + i) (0, 0, 0)).2.2 = (W.getD w (0, 0, 0)).2.2) (he : w + n = W.length ∨ ¬ (W.getD (w + n) (0, 0, 0)).2.2 = (W.getD w (0, 0, 0)).2.2) (k : Q (some (.int (nI (w + n)))) h) : mr_C mj_KK d 169 [.ref 2, .int (nI w)] h Q := by
  show mr_M mj_KK d 169 0 [some (.ref 2), some (.int (nI w)), none] [] h Q
  refine kb_169_0 (by first | with_reducible assumption | with_reducible exact kd_W | assumption) (by omega) (s161 hW (by omega) ?_)
  obtain ⟨a1, a2, a3, a4, a5⟩ := hW
  obtain ⟨b1, b2, b3, b4, b5, b6, b7, b8⟩ := a5 w (by omega)
  refine kb_169_5 (fun _ => kb_169_10 ?_) (fun c => absurd (by decide) c)
  rw [nI_1]
  have loop : ∀ m i, i + m = n → 0 < i → mr_M mj_KK d 169 14 [some (.ref 2), some (.int (nI w)), some (.int (nI (w + i)))] [] h Q := by
    intro m
    induction m with
    | zero =>
      intro i hi h1
      have e : i = n := by omega
      subst e
      rcases Nat.lt_or_ge (w + i) W.length with q | q
      · obtain ⟨c1, c2, c3, c4, c5, c6, c7, c8⟩ := a5 (w + i) q
        have he2 : ¬ (W.getD (w + i) (0, 0, 0)).2.2 = (W.getD w (0, 0, 0)).2.2 := he.elim (fun r => absurd r (by omega)) id
        refine kb_169_14 (by first | with_reducible assumption | with_reducible exact kd_W | assumption) (fun c => kb_169_43 k) (fun c => kb_169_22 (by first | with_reducible assumption | with_reducible exact kd_W | assumption) (by first | with_reducible assumption | exact rf_W_lines H | assumption) (by first | with_reducible assumption | with_reducible exact kd_W_lines | assumption) (by first | with_reducible assumption | (simp (disch := omega) only [z_0, z_1, z_2, z_3, z_4, z_5, z_6, z_7, z_8, z_9, z_10, z_12, z_13, z_20, z_21, z_25, z_56, z_350, z_31, z_32, z_36, z_48, z_57, z_61, z_97, z_100, z_122, z_125, z_126, z_144, z_255, z_700, z_1000, z_1548, nI_add, pk_mul, pk_sub, nI_clamp, nI_leI, nI_ltI, nI_eq, z_in, z_m1, z_m1b, lg_cmp_eq, z_cmp, Decidable.not_not, w_ie, w_in, w_il, w_le, w_ln, w_li, w_ir, w_lr, ln_P_tape, ln_W_text, ln_W_starts, ln_W_ends, ln_W_lines, ln_W_names, ln_W_values, ln_PL_jobs, ln_PL_parts, ln_FT_reached, ln_EX_jobs, ln_EX_codes, ln_CB_names, ln_CB_values, ln_M_tape, ln_M_source, ln_M_wordAt, ln_M_wordEnd, ln_M_names, ln_M_itemCount, ln_M_itemFirst, ln_M_itemWords, ln_M_itemUses, ln_M_keptAt, ln_M_keptEnd, ln_M_needCount, ln_M_axisCount, ln_M_valueCount, ln_M_needed, ln_M_axes, ln_M_values, ln_M_includes, ln_M_excludes, ln_M_pairCount, ln_M_pairName, ln_M_pairValue, ln_M_signCount, ln_M_signs, ln_M_signName, ln_M_signValue, ln_M_whose, ln_M_which, ln_M_pile, ln_M_reaches, ln_M_stepsOf, ln_M_known, ln_JB_needed, ln_JB_axes, ln_JS_used, ln_JS_stepWords, ln_PS_used, ln_PS_stepWords, ln_IN_rows, ln_EC_rows, ln_IR_names, ln_IR_values, ln_ER_names, ln_ER_values, ln_CD_kinds, ln_CD_names, ln_CD_values, ln_AX_values] <;> omega) | assumption) (by first | with_reducible assumption | (simp (disch := omega) only [z_0, z_1, z_2, z_3, z_4, z_5, z_6, z_7, z_8, z_9, z_10, z_12, z_13, z_20, z_21, z_25, z_56, z_350, z_31, z_32, z_36, z_48, z_57, z_61, z_97, z_100, z_122, z_125, z_126, z_144, z_255, z_700, z_1000, z_1548, nI_add, pk_mul, pk_sub, nI_clamp, nI_leI, nI_ltI, nI_eq, z_in, z_m1, z_m1b, lg_cmp_eq, z_cmp, Decidable.not_not, w_ie, w_in, w_il, w_le, w_ln, w_li, w_ir, w_lr, ln_P_tape, ln_W_text, ln_W_starts, ln_W_ends, ln_W_lines, ln_W_names, ln_W_values, ln_PL_jobs, ln_PL_parts, ln_FT_reached, ln_EX_jobs, ln_EX_codes, ln_CB_names, ln_CB_values, ln_M_tape, ln_M_source, ln_M_wordAt, ln_M_wordEnd, ln_M_names, ln_M_itemCount, ln_M_itemFirst, ln_M_itemWords, ln_M_itemUses, ln_M_keptAt, ln_M_keptEnd, ln_M_needCount, ln_M_axisCount, ln_M_valueCount, ln_M_needed, ln_M_axes, ln_M_values, ln_M_includes, ln_M_excludes, ln_M_pairCount, ln_M_pairName, ln_M_pairValue, ln_M_signCount, ln_M_signs, ln_M_signName, ln_M_signValue, ln_M_whose, ln_M_which, ln_M_pile, ln_M_reaches, ln_M_stepsOf, ln_M_known, ln_JB_needed, ln_JB_axes, ln_JS_used, ln_JS_stepWords, ln_PS_used, ln_PS_stepWords, ln_IN_rows, ln_EC_rows, ln_IR_names, ln_IR_values, ln_ER_names, ln_ER_values, ln_CD_kinds, ln_CD_names, ln_CD_values, ln_AX_values] <;> omega) | assumption) (fun c => kb_169_43 k) (fun c => ?_))
        simp (disch := omega) only [z_0, z_1, z_2, z_3, z_4, z_5, z_6, z_7, z_8, z_9, z_10, z_12, z_13, z_20, z_21, z_25, z_56, z_350, z_31, z_32, z_36, z_48, z_57, z_61, z_97, z_100, z_122, z_125, z_126, z_144, z_255, z_700, z_1000, z_1548, nI_add, pk_mul, pk_sub, nI_clamp, nI_leI, nI_ltI, nI_eq, z_in, z_m1, z_m1b, lg_cmp_eq, z_cmp, Decidable.not_not, w_ie, w_in, w_il, w_le, w_ln, w_li, w_ir, w_lr, b6, c6] at c
        exact absurd c he2
      · refine kb_169_14 (by first | with_reducible assumption | with_reducible exact kd_W | assumption) (fun c => kb_169_43 k) (fun c => (by simp (disch := omega) only [z_0, z_1, z_2, z_3, z_4, z_5, z_6, z_7, z_8, z_9, z_10, z_12, z_13, z_20, z_21, z_25, z_56, z_350, z_31, z_32, z_36, z_48, z_57, z_61, z_97, z_100, z_122, z_125, z_126, z_144, z_255, z_700, z_1000, z_1548, nI_add, pk_mul, pk_sub, nI_clamp, nI_leI, nI_ltI, nI_eq, z_in, z_m1, z_m1b, lg_cmp_eq, z_cmp, Decidable.not_not, w_ie, w_in, w_il, w_le, w_ln, w_li, w_ir, w_lr, a3] at c; exfalso; omega))
    | succ m ih =>
      intro i hi h1
      obtain ⟨c1, c2, c3, c4, c5, c6, c7, c8⟩ := a5 (w + i) (by omega)
      refine kb_169_14 (by first | with_reducible assumption | with_reducible exact kd_W | assumption) (fun c => (by simp (disch := omega) only [z_0, z_1, z_2, z_3, z_4, z_5, z_6, z_7, z_8, z_9, z_10, z_12, z_13, z_20, z_21, z_25, z_56, z_350, z_31, z_32, z_36, z_48, z_57, z_61, z_97, z_100, z_122, z_125, z_126, z_144, z_255, z_700, z_1000, z_1548, nI_add, pk_mul, pk_sub, nI_clamp, nI_leI, nI_ltI, nI_eq, z_in, z_m1, z_m1b, lg_cmp_eq, z_cmp, Decidable.not_not, w_ie, w_in, w_il, w_le, w_ln, w_li, w_ir, w_lr, a3] at c; exfalso; omega)) (fun c => kb_169_22 (by first | with_reducible assumption | with_reducible exact kd_W | assumption) (by first | with_reducible assumption | exact rf_W_lines H | assumption) (by first | with_reducible assumption | with_reducible exact kd_W_lines | assumption) (by first | with_reducible assumption | (simp (disch := omega) only [z_0, z_1, z_2, z_3, z_4, z_5, z_6, z_7, z_8, z_9, z_10, z_12, z_13, z_20, z_21, z_25, z_56, z_350, z_31, z_32, z_36, z_48, z_57, z_61, z_97, z_100, z_122, z_125, z_126, z_144, z_255, z_700, z_1000, z_1548, nI_add, pk_mul, pk_sub, nI_clamp, nI_leI, nI_ltI, nI_eq, z_in, z_m1, z_m1b, lg_cmp_eq, z_cmp, Decidable.not_not, w_ie, w_in, w_il, w_le, w_ln, w_li, w_ir, w_lr, ln_P_tape, ln_W_text, ln_W_starts, ln_W_ends, ln_W_lines, ln_W_names, ln_W_values, ln_PL_jobs, ln_PL_parts, ln_FT_reached, ln_EX_jobs, ln_EX_codes, ln_CB_names, ln_CB_values, ln_M_tape, ln_M_source, ln_M_wordAt, ln_M_wordEnd, ln_M_names, ln_M_itemCount, ln_M_itemFirst, ln_M_itemWords, ln_M_itemUses, ln_M_keptAt, ln_M_keptEnd, ln_M_needCount, ln_M_axisCount, ln_M_valueCount, ln_M_needed, ln_M_axes, ln_M_values, ln_M_includes, ln_M_excludes, ln_M_pairCount, ln_M_pairName, ln_M_pairValue, ln_M_signCount, ln_M_signs, ln_M_signName, ln_M_signValue, ln_M_whose, ln_M_which, ln_M_pile, ln_M_reaches, ln_M_stepsOf, ln_M_known, ln_JB_needed, ln_JB_axes, ln_JS_used, ln_JS_stepWords, ln_PS_used, ln_PS_stepWords, ln_IN_rows, ln_EC_rows, ln_IR_names, ln_IR_values, ln_ER_names, ln_ER_values, ln_CD_kinds, ln_CD_names, ln_CD_values, ln_AX_values] <;> omega) | assumption) (by first | with_reducible assumption | (simp (disch := omega) only [z_0, z_1, z_2, z_3, z_4, z_5, z_6, z_7, z_8, z_9, z_10, z_12, z_13, z_20, z_21, z_25, z_56, z_350, z_31, z_32, z_36, z_48, z_57, z_61, z_97, z_100, z_122, z_125, z_126, z_144, z_255, z_700, z_1000, z_1548, nI_add, pk_mul, pk_sub, nI_clamp, nI_leI, nI_ltI, nI_eq, z_in, z_m1, z_m1b, lg_cmp_eq, z_cmp, Decidable.not_not, w_ie, w_in, w_il, w_le, w_ln, w_li, w_ir, w_lr, ln_P_tape, ln_W_text, ln_W_starts, ln_W_ends, ln_W_lines, ln_W_names, ln_W_values, ln_PL_jobs, ln_PL_parts, ln_FT_reached, ln_EX_jobs, ln_EX_codes, ln_CB_names, ln_CB_values, ln_M_tape, ln_M_source, ln_M_wordAt, ln_M_wordEnd, ln_M_names, ln_M_itemCount, ln_M_itemFirst, ln_M_itemWords, ln_M_itemUses, ln_M_keptAt, ln_M_keptEnd, ln_M_needCount, ln_M_axisCount, ln_M_valueCount, ln_M_needed, ln_M_axes, ln_M_values, ln_M_includes, ln_M_excludes, ln_M_pairCount, ln_M_pairName, ln_M_pairValue, ln_M_signCount, ln_M_signs, ln_M_signName, ln_M_signValue, ln_M_whose, ln_M_which, ln_M_pile, ln_M_reaches, ln_M_stepsOf, ln_M_known, ln_JB_needed, ln_JB_axes, ln_JS_used, ln_JS_stepWords, ln_PS_used, ln_PS_stepWords, ln_IN_rows, ln_EC_rows, ln_IR_names, ln_IR_values, ln_ER_names, ln_ER_values, ln_CD_kinds, ln_CD_names, ln_CD_values, ln_AX_values] <;> omega) | assumption) (fun c => ?_) (fun c => ?_))
      · simp (disch := omega) only [z_0, z_1, z_2, z_3, z_4, z_5, z_6, z_7, z_8, z_9, z_10, z_12, z_13, z_20, z_21, z_25, z_56, z_350, z_31, z_32, z_36, z_48, z_57, z_61, z_97, z_100, z_122, z_125, z_126, z_144, z_255, z_700, z_1000, z_1548, nI_add, pk_mul, pk_sub, nI_clamp, nI_leI, nI_ltI, nI_eq, z_in, z_m1, z_m1b, lg_cmp_eq, z_cmp, Decidable.not_not, w_ie, w_in, w_il, w_le, w_ln, w_li, w_ir, w_lr, b6, c6] at c
        exact absurd (hs i (by omega)) c
      · refine kb_169_37 ?_
        rw [nI_1]
        exact ih (i + 1) (by omega) (by omega)
  obtain ⟨n, rfl⟩ : ∃ m, n = m + 1 := ⟨n - 1, by omega⟩
  exact loop n 1 (by omega) (by omega)
/-- Words.length -/
theorem s163 (hd : 1 ≤ d) (H : mj_RS h) (hW : WW h X L W) (hw : w < W.length) (k : Q (some (.int (nI ((W.getD w (0, 0, 0)).2.1 - (W.getD w (0, 0, 0)).1)))) h) : mr_C mj_KK d 163 [.ref 2, .int (nI w)] h Q := by
  show mr_M mj_KK d 163 0 [some (.ref 2), some (.int (nI w))] [] h Q
  refine kb_163_0 (by first | with_reducible assumption | with_reducible exact kd_W | assumption) (by omega) (s161 hW hw ?_)
  obtain ⟨a1, a2, a3, a4, a5⟩ := hW
  obtain ⟨b1, b2, b3, b4, b5, b6, b7, b8⟩ := a5 w hw
  refine kb_163_5 (fun c => absurd c (by decide)) (fun _ => kb_163_8 (by first | with_reducible assumption | with_reducible exact kd_W | assumption) (by first | with_reducible assumption | exact rf_W_ends H | assumption) (by first | with_reducible assumption | with_reducible exact kd_W_ends | assumption) (by first | with_reducible assumption | (simp (disch := omega) only [z_0, z_1, z_2, z_3, z_4, z_5, z_6, z_7, z_8, z_9, z_10, z_12, z_13, z_20, z_21, z_25, z_56, z_350, z_31, z_32, z_36, z_48, z_57, z_61, z_97, z_100, z_122, z_125, z_126, z_144, z_255, z_700, z_1000, z_1548, nI_add, pk_mul, pk_sub, nI_clamp, nI_leI, nI_ltI, nI_eq, z_in, z_m1, z_m1b, lg_cmp_eq, z_cmp, Decidable.not_not, w_ie, w_in, w_il, w_le, w_ln, w_li, w_ir, w_lr, ln_P_tape, ln_W_text, ln_W_starts, ln_W_ends, ln_W_lines, ln_W_names, ln_W_values, ln_PL_jobs, ln_PL_parts, ln_FT_reached, ln_EX_jobs, ln_EX_codes, ln_CB_names, ln_CB_values, ln_M_tape, ln_M_source, ln_M_wordAt, ln_M_wordEnd, ln_M_names, ln_M_itemCount, ln_M_itemFirst, ln_M_itemWords, ln_M_itemUses, ln_M_keptAt, ln_M_keptEnd, ln_M_needCount, ln_M_axisCount, ln_M_valueCount, ln_M_needed, ln_M_axes, ln_M_values, ln_M_includes, ln_M_excludes, ln_M_pairCount, ln_M_pairName, ln_M_pairValue, ln_M_signCount, ln_M_signs, ln_M_signName, ln_M_signValue, ln_M_whose, ln_M_which, ln_M_pile, ln_M_reaches, ln_M_stepsOf, ln_M_known, ln_JB_needed, ln_JB_axes, ln_JS_used, ln_JS_stepWords, ln_PS_used, ln_PS_stepWords, ln_IN_rows, ln_EC_rows, ln_IR_names, ln_IR_values, ln_ER_names, ln_ER_values, ln_CD_kinds, ln_CD_names, ln_CD_values, ln_AX_values] <;> omega) | assumption) (by first | with_reducible assumption | exact rf_W_starts H | assumption) (by first | with_reducible assumption | with_reducible exact kd_W_starts | assumption) (by first | with_reducible assumption | (simp (disch := omega) only [z_0, z_1, z_2, z_3, z_4, z_5, z_6, z_7, z_8, z_9, z_10, z_12, z_13, z_20, z_21, z_25, z_56, z_350, z_31, z_32, z_36, z_48, z_57, z_61, z_97, z_100, z_122, z_125, z_126, z_144, z_255, z_700, z_1000, z_1548, nI_add, pk_mul, pk_sub, nI_clamp, nI_leI, nI_ltI, nI_eq, z_in, z_m1, z_m1b, lg_cmp_eq, z_cmp, Decidable.not_not, w_ie, w_in, w_il, w_le, w_ln, w_li, w_ir, w_lr, ln_P_tape, ln_W_text, ln_W_starts, ln_W_ends, ln_W_lines, ln_W_names, ln_W_values, ln_PL_jobs, ln_PL_parts, ln_FT_reached, ln_EX_jobs, ln_EX_codes, ln_CB_names, ln_CB_values, ln_M_tape, ln_M_source, ln_M_wordAt, ln_M_wordEnd, ln_M_names, ln_M_itemCount, ln_M_itemFirst, ln_M_itemWords, ln_M_itemUses, ln_M_keptAt, ln_M_keptEnd, ln_M_needCount, ln_M_axisCount, ln_M_valueCount, ln_M_needed, ln_M_axes, ln_M_values, ln_M_includes, ln_M_excludes, ln_M_pairCount, ln_M_pairName, ln_M_pairValue, ln_M_signCount, ln_M_signs, ln_M_signName, ln_M_signValue, ln_M_whose, ln_M_which, ln_M_pile, ln_M_reaches, ln_M_stepsOf, ln_M_known, ln_JB_needed, ln_JB_axes, ln_JS_used, ln_JS_stepWords, ln_PS_used, ln_PS_stepWords, ln_IN_rows, ln_EC_rows, ln_IR_names, ln_IR_values, ln_ER_names, ln_ER_values, ln_CD_kinds, ln_CD_names, ln_CD_values, ln_AX_values] <;> omega) | assumption) (kb_163_25 ?_))
  simp (disch := omega) only [z_0, z_1, z_2, z_3, z_4, z_5, z_6, z_7, z_8, z_9, z_10, z_12, z_13, z_20, z_21, z_25, z_56, z_350, z_31, z_32, z_36, z_48, z_57, z_61, z_97, z_100, z_122, z_125, z_126, z_144, z_255, z_700, z_1000, z_1548, nI_add, pk_mul, pk_sub, nI_clamp, nI_leI, nI_ltI, nI_eq, z_in, z_m1, z_m1b, lg_cmp_eq, z_cmp, Decidable.not_not, w_ie, w_in, w_il, w_le, w_ln, w_li, w_ir, w_lr, b4, b5]
  exact k
/-- Words.character -/
theorem s164 {q : Nat} (hd : 2 ≤ d) (H : mj_RS h) (hW : WW h X L W) (hw : w < W.length) (hq : q < (W.getD w (0, 0, 0)).2.1 - (W.getD w (0, 0, 0)).1) (k : Q (some (.int (X ((W.getD w (0, 0, 0)).1 + q)))) h) : mr_C mj_KK d 164 [.ref 2, .int (nI w), .int (nI q)] h Q := by
  show mr_M mj_KK d 164 0 [some (.ref 2), some (.int (nI w)), some (.int (nI q))] [] h Q
  obtain ⟨a1, a2, a3, a4, a5⟩ := id hW
  obtain ⟨b1, b2, b3, b4, b5, b6, b7, b8⟩ := a5 w hw
  have e9 := a2 ((W.getD w (0, 0, 0)).1 + q) (by omega)
  refine kb_164_0 (fun c => (by simp (disch := omega) only [z_0, z_1, z_2, z_3, z_4, z_5, z_6, z_7, z_8, z_9, z_10, z_12, z_13, z_20, z_21, z_25, z_56, z_350, z_31, z_32, z_36, z_48, z_57, z_61, z_97, z_100, z_122, z_125, z_126, z_144, z_255, z_700, z_1000, z_1548, nI_add, pk_mul, pk_sub, nI_clamp, nI_leI, nI_ltI, nI_eq, z_in, z_m1, z_m1b, lg_cmp_eq, z_cmp, Decidable.not_not, w_ie, w_in, w_il, w_le, w_ln, w_li, w_ir, w_lr] at c; exfalso; omega)) (fun _ => kb_164_4 (by first | with_reducible assumption | with_reducible exact kd_W | assumption) (by omega) (s163 (by omega) H hW hw ?_))
  refine kb_164_10 (fun _ => kb_164_17 (by first | with_reducible assumption | with_reducible exact kd_W | assumption) (by first | with_reducible assumption | exact rf_W_text H | assumption) (by first | with_reducible assumption | exact rf_W_starts H | assumption) (by first | with_reducible assumption | with_reducible exact kd_W_starts | assumption) (by first | with_reducible assumption | (simp (disch := omega) only [z_0, z_1, z_2, z_3, z_4, z_5, z_6, z_7, z_8, z_9, z_10, z_12, z_13, z_20, z_21, z_25, z_56, z_350, z_31, z_32, z_36, z_48, z_57, z_61, z_97, z_100, z_122, z_125, z_126, z_144, z_255, z_700, z_1000, z_1548, nI_add, pk_mul, pk_sub, nI_clamp, nI_leI, nI_ltI, nI_eq, z_in, z_m1, z_m1b, lg_cmp_eq, z_cmp, Decidable.not_not, w_ie, w_in, w_il, w_le, w_ln, w_li, w_ir, w_lr, b4, ln_P_tape, ln_W_text, ln_W_starts, ln_W_ends, ln_W_lines, ln_W_names, ln_W_values, ln_PL_jobs, ln_PL_parts, ln_FT_reached, ln_EX_jobs, ln_EX_codes, ln_CB_names, ln_CB_values, ln_M_tape, ln_M_source, ln_M_wordAt, ln_M_wordEnd, ln_M_names, ln_M_itemCount, ln_M_itemFirst, ln_M_itemWords, ln_M_itemUses, ln_M_keptAt, ln_M_keptEnd, ln_M_needCount, ln_M_axisCount, ln_M_valueCount, ln_M_needed, ln_M_axes, ln_M_values, ln_M_includes, ln_M_excludes, ln_M_pairCount, ln_M_pairName, ln_M_pairValue, ln_M_signCount, ln_M_signs, ln_M_signName, ln_M_signValue, ln_M_whose, ln_M_which, ln_M_pile, ln_M_reaches, ln_M_stepsOf, ln_M_known, ln_JB_needed, ln_JB_axes, ln_JS_used, ln_JS_stepWords, ln_PS_used, ln_PS_stepWords, ln_IN_rows, ln_EC_rows, ln_IR_names, ln_IR_values, ln_ER_names, ln_ER_values, ln_CD_kinds, ln_CD_names, ln_CD_values, ln_AX_values] <;> omega) | assumption) (by first | with_reducible assumption | with_reducible exact kd_W_text | assumption) (by first | with_reducible assumption | (simp (disch := omega) only [z_0, z_1, z_2, z_3, z_4, z_5, z_6, z_7, z_8, z_9, z_10, z_12, z_13, z_20, z_21, z_25, z_56, z_350, z_31, z_32, z_36, z_48, z_57, z_61, z_97, z_100, z_122, z_125, z_126, z_144, z_255, z_700, z_1000, z_1548, nI_add, pk_mul, pk_sub, nI_clamp, nI_leI, nI_ltI, nI_eq, z_in, z_m1, z_m1b, lg_cmp_eq, z_cmp, Decidable.not_not, w_ie, w_in, w_il, w_le, w_ln, w_li, w_ir, w_lr, b4, ln_P_tape, ln_W_text, ln_W_starts, ln_W_ends, ln_W_lines, ln_W_names, ln_W_values, ln_PL_jobs, ln_PL_parts, ln_FT_reached, ln_EX_jobs, ln_EX_codes, ln_CB_names, ln_CB_values, ln_M_tape, ln_M_source, ln_M_wordAt, ln_M_wordEnd, ln_M_names, ln_M_itemCount, ln_M_itemFirst, ln_M_itemWords, ln_M_itemUses, ln_M_keptAt, ln_M_keptEnd, ln_M_needCount, ln_M_axisCount, ln_M_valueCount, ln_M_needed, ln_M_axes, ln_M_values, ln_M_includes, ln_M_excludes, ln_M_pairCount, ln_M_pairName, ln_M_pairValue, ln_M_signCount, ln_M_signs, ln_M_signName, ln_M_signValue, ln_M_whose, ln_M_which, ln_M_pile, ln_M_reaches, ln_M_stepsOf, ln_M_known, ln_JB_needed, ln_JB_axes, ln_JS_used, ln_JS_stepWords, ln_PS_used, ln_PS_stepWords, ln_IN_rows, ln_EC_rows, ln_IR_names, ln_IR_values, ln_ER_names, ln_ER_values, ln_CD_kinds, ln_CD_names, ln_CD_values, ln_AX_values] <;> omega) | assumption) (kb_164_30 ?_)) (fun c => (by simp (disch := omega) only [z_0, z_1, z_2, z_3, z_4, z_5, z_6, z_7, z_8, z_9, z_10, z_12, z_13, z_20, z_21, z_25, z_56, z_350, z_31, z_32, z_36, z_48, z_57, z_61, z_97, z_100, z_122, z_125, z_126, z_144, z_255, z_700, z_1000, z_1548, nI_add, pk_mul, pk_sub, nI_clamp, nI_leI, nI_ltI, nI_eq, z_in, z_m1, z_m1b, lg_cmp_eq, z_cmp, Decidable.not_not, w_ie, w_in, w_il, w_le, w_ln, w_li, w_ir, w_lr] at c; exfalso; omega))
  simp (disch := omega) only [z_0, z_1, z_2, z_3, z_4, z_5, z_6, z_7, z_8, z_9, z_10, z_12, z_13, z_20, z_21, z_25, z_56, z_350, z_31, z_32, z_36, z_48, z_57, z_61, z_97, z_100, z_122, z_125, z_126, z_144, z_255, z_700, z_1000, z_1548, nI_add, pk_mul, pk_sub, nI_clamp, nI_leI, nI_ltI, nI_eq, z_in, z_m1, z_m1b, lg_cmp_eq, z_cmp, Decidable.not_not, w_ie, w_in, w_il, w_le, w_ln, w_li, w_ir, w_lr, b4, e9]
  exact k
/-- the NAME that a WORD asks for by $, or 0 -/
def dw (X : Nat → Int32) (t : Nat × Nat) : Int64 := if X t.1 = 36 then nm X (t.1 + 1) (t.2 - (t.1 + 1)) else 0
/-- Words.askedName -/
theorem s167 (hd : 1 ≤ d) (H : mj_RS h) (hW : WW h X L W) (hw : w < W.length) (k : Q (some (.long (dw X (sp (W.getD w (0, 0, 0)))))) h) : mr_C mj_KK d 167 [.ref 2, .int (nI w)] h Q := by
  show mr_M mj_KK d 167 0 [some (.ref 2), some (.int (nI w))] [] h Q
  refine kb_167_0 (by first | with_reducible assumption | with_reducible exact kd_W | assumption) (by omega) (s161 hW hw ?_)
  obtain ⟨a1, a2, a3, a4, a5⟩ := hW
  obtain ⟨b1, b2, b3, b4, b5, b6, b7, b8⟩ := a5 w hw
  generalize W.getD w (0, 0, 0) = tt at *
  have e9 := a2 tt.1 (by omega)
  refine kb_167_5 (fun c => absurd c (by decide)) (fun _ => ?_)
  unfold dw sp at k
  refine kb_167_8 (by first | with_reducible assumption | with_reducible exact kd_W | assumption) (by first | with_reducible assumption | exact rf_W_text H | assumption) (by first | with_reducible assumption | exact rf_W_starts H | assumption) (by first | with_reducible assumption | with_reducible exact kd_W_starts | assumption) (by first | with_reducible assumption | (simp (disch := omega) only [z_0, z_1, z_2, z_3, z_4, z_5, z_6, z_7, z_8, z_9, z_10, z_12, z_13, z_20, z_21, z_25, z_56, z_350, z_31, z_32, z_36, z_48, z_57, z_61, z_97, z_100, z_122, z_125, z_126, z_144, z_255, z_700, z_1000, z_1548, nI_add, pk_mul, pk_sub, nI_clamp, nI_leI, nI_ltI, nI_eq, z_in, z_m1, z_m1b, lg_cmp_eq, z_cmp, Decidable.not_not, w_ie, w_in, w_il, w_le, w_ln, w_li, w_ir, w_lr, b4, ln_P_tape, ln_W_text, ln_W_starts, ln_W_ends, ln_W_lines, ln_W_names, ln_W_values, ln_PL_jobs, ln_PL_parts, ln_FT_reached, ln_EX_jobs, ln_EX_codes, ln_CB_names, ln_CB_values, ln_M_tape, ln_M_source, ln_M_wordAt, ln_M_wordEnd, ln_M_names, ln_M_itemCount, ln_M_itemFirst, ln_M_itemWords, ln_M_itemUses, ln_M_keptAt, ln_M_keptEnd, ln_M_needCount, ln_M_axisCount, ln_M_valueCount, ln_M_needed, ln_M_axes, ln_M_values, ln_M_includes, ln_M_excludes, ln_M_pairCount, ln_M_pairName, ln_M_pairValue, ln_M_signCount, ln_M_signs, ln_M_signName, ln_M_signValue, ln_M_whose, ln_M_which, ln_M_pile, ln_M_reaches, ln_M_stepsOf, ln_M_known, ln_JB_needed, ln_JB_axes, ln_JS_used, ln_JS_stepWords, ln_PS_used, ln_PS_stepWords, ln_IN_rows, ln_EC_rows, ln_IR_names, ln_IR_values, ln_ER_names, ln_ER_values, ln_CD_kinds, ln_CD_names, ln_CD_values, ln_AX_values] <;> omega) | assumption) (by first | with_reducible assumption | with_reducible exact kd_W_text | assumption) (by first | with_reducible assumption | (simp (disch := omega) only [z_0, z_1, z_2, z_3, z_4, z_5, z_6, z_7, z_8, z_9, z_10, z_12, z_13, z_20, z_21, z_25, z_56, z_350, z_31, z_32, z_36, z_48, z_57, z_61, z_97, z_100, z_122, z_125, z_126, z_144, z_255, z_700, z_1000, z_1548, nI_add, pk_mul, pk_sub, nI_clamp, nI_leI, nI_ltI, nI_eq, z_in, z_m1, z_m1b, lg_cmp_eq, z_cmp, Decidable.not_not, w_ie, w_in, w_il, w_le, w_ln, w_li, w_ir, w_lr, b4, ln_P_tape, ln_W_text, ln_W_starts, ln_W_ends, ln_W_lines, ln_W_names, ln_W_values, ln_PL_jobs, ln_PL_parts, ln_FT_reached, ln_EX_jobs, ln_EX_codes, ln_CB_names, ln_CB_values, ln_M_tape, ln_M_source, ln_M_wordAt, ln_M_wordEnd, ln_M_names, ln_M_itemCount, ln_M_itemFirst, ln_M_itemWords, ln_M_itemUses, ln_M_keptAt, ln_M_keptEnd, ln_M_needCount, ln_M_axisCount, ln_M_valueCount, ln_M_needed, ln_M_axes, ln_M_values, ln_M_includes, ln_M_excludes, ln_M_pairCount, ln_M_pairName, ln_M_pairValue, ln_M_signCount, ln_M_signs, ln_M_signName, ln_M_signValue, ln_M_whose, ln_M_which, ln_M_pile, ln_M_reaches, ln_M_stepsOf, ln_M_known, ln_JB_needed, ln_JB_axes, ln_JS_used, ln_JS_stepWords, ln_PS_used, ln_PS_stepWords, ln_IN_rows, ln_EC_rows, ln_IR_names, ln_IR_values, ln_ER_names, ln_ER_values, ln_CD_kinds, ln_CD_names, ln_CD_values, ln_AX_values] <;> omega) | assumption) (fun c => ?_) (fun c => ?_)
  · rw [nI_clamp (by omega), b4, nI_clamp (by omega), e9] at c
    rw [if_neg c] at k
    exact kb_167_48 (kb_167_49 k)
  · rw [nI_clamp (by omega), b4, nI_clamp (by omega), e9, Decidable.not_not] at c
    rw [if_pos c] at k
    refine kb_167_24 (by first | with_reducible assumption | with_reducible exact kd_W | assumption) (by first | with_reducible assumption | exact rf_W_text H | assumption) (by first | with_reducible assumption | exact rf_W_starts H | assumption) (by first | with_reducible assumption | with_reducible exact kd_W_starts | assumption) (by first | with_reducible assumption | (simp (disch := omega) only [z_0, z_1, z_2, z_3, z_4, z_5, z_6, z_7, z_8, z_9, z_10, z_12, z_13, z_20, z_21, z_25, z_56, z_350, z_31, z_32, z_36, z_48, z_57, z_61, z_97, z_100, z_122, z_125, z_126, z_144, z_255, z_700, z_1000, z_1548, nI_add, pk_mul, pk_sub, nI_clamp, nI_leI, nI_ltI, nI_eq, z_in, z_m1, z_m1b, lg_cmp_eq, z_cmp, Decidable.not_not, w_ie, w_in, w_il, w_le, w_ln, w_li, w_ir, w_lr, ln_P_tape, ln_W_text, ln_W_starts, ln_W_ends, ln_W_lines, ln_W_names, ln_W_values, ln_PL_jobs, ln_PL_parts, ln_FT_reached, ln_EX_jobs, ln_EX_codes, ln_CB_names, ln_CB_values, ln_M_tape, ln_M_source, ln_M_wordAt, ln_M_wordEnd, ln_M_names, ln_M_itemCount, ln_M_itemFirst, ln_M_itemWords, ln_M_itemUses, ln_M_keptAt, ln_M_keptEnd, ln_M_needCount, ln_M_axisCount, ln_M_valueCount, ln_M_needed, ln_M_axes, ln_M_values, ln_M_includes, ln_M_excludes, ln_M_pairCount, ln_M_pairName, ln_M_pairValue, ln_M_signCount, ln_M_signs, ln_M_signName, ln_M_signValue, ln_M_whose, ln_M_which, ln_M_pile, ln_M_reaches, ln_M_stepsOf, ln_M_known, ln_JB_needed, ln_JB_axes, ln_JS_used, ln_JS_stepWords, ln_PS_used, ln_PS_stepWords, ln_IN_rows, ln_EC_rows, ln_IR_names, ln_IR_values, ln_ER_names, ln_ER_values, ln_CD_kinds, ln_CD_names, ln_CD_values, ln_AX_values] <;> omega) | assumption) (by first | with_reducible assumption | exact rf_W_ends H | assumption) (by first | with_reducible assumption | with_reducible exact kd_W_ends | assumption) (by first | with_reducible assumption | (simp (disch := omega) only [z_0, z_1, z_2, z_3, z_4, z_5, z_6, z_7, z_8, z_9, z_10, z_12, z_13, z_20, z_21, z_25, z_56, z_350, z_31, z_32, z_36, z_48, z_57, z_61, z_97, z_100, z_122, z_125, z_126, z_144, z_255, z_700, z_1000, z_1548, nI_add, pk_mul, pk_sub, nI_clamp, nI_leI, nI_ltI, nI_eq, z_in, z_m1, z_m1b, lg_cmp_eq, z_cmp, Decidable.not_not, w_ie, w_in, w_il, w_le, w_ln, w_li, w_ir, w_lr, ln_P_tape, ln_W_text, ln_W_starts, ln_W_ends, ln_W_lines, ln_W_names, ln_W_values, ln_PL_jobs, ln_PL_parts, ln_FT_reached, ln_EX_jobs, ln_EX_codes, ln_CB_names, ln_CB_values, ln_M_tape, ln_M_source, ln_M_wordAt, ln_M_wordEnd, ln_M_names, ln_M_itemCount, ln_M_itemFirst, ln_M_itemWords, ln_M_itemUses, ln_M_keptAt, ln_M_keptEnd, ln_M_needCount, ln_M_axisCount, ln_M_valueCount, ln_M_needed, ln_M_axes, ln_M_values, ln_M_includes, ln_M_excludes, ln_M_pairCount, ln_M_pairName, ln_M_pairValue, ln_M_signCount, ln_M_signs, ln_M_signName, ln_M_signValue, ln_M_whose, ln_M_which, ln_M_pile, ln_M_reaches, ln_M_stepsOf, ln_M_known, ln_JB_needed, ln_JB_axes, ln_JS_used, ln_JS_stepWords, ln_PS_used, ln_PS_stepWords, ln_IN_rows, ln_EC_rows, ln_IR_names, ln_IR_values, ln_ER_names, ln_ER_values, ln_CD_kinds, ln_CD_names, ln_CD_values, ln_AX_values] <;> omega) | assumption) (by omega) ?_
    rw [nI_clamp (by omega), b4, b5, nI_1]
    refine s19 kd_W_text ln_W_text (by omega) (by omega) (kb_167_45 (kb_167_49 ?_))
    rw [nm_congr (Y := X) (fun i h1 h2 => a2 i (by omega))]
    exact k
end WORDS
