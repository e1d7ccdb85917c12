-- ===== the reference expands =====
def pP (as : Ax) : Nat → Nat
  | 0 => 1
  | n + 1 => pP as n * (axV as n).length
theorem pP_s {as : Ax} {n : Nat} : pP as (n + 1) = pP as n * (axV as n).length := rfl
theorem nA_in {as : Ax} {a : Nat} (h : a < as.length) : nA as a = (axV as a).length := if_pos h
theorem nA_out {as : Ax} {a : Nat} (h : ¬ a < as.length) : nA as a = 1 := if_neg h
theorem pP_prA {as : Ax} (h : as.length ≤ 3) : pP as as.length = prA as := by
  unfold prA
  have hc : as.length = 0 ∨ as.length = 1 ∨ as.length = 2 ∨ as.length = 3 := by omega
  rcases hc with e | e | e | e
  · rw [nA_out (by omega), nA_out (by omega), nA_out (by omega), e]
    rfl
  · rw [nA_in (by omega), nA_out (by omega), nA_out (by omega), e, Nat.mul_one, Nat.mul_one]
    show 1 * _ = _
    rw [Nat.one_mul]
  · rw [nA_in (by omega), nA_in (by omega), nA_out (by omega), e, Nat.mul_one]
    show 1 * _ * _ = _
    rw [Nat.one_mul]
  · rw [nA_in (by omega), nA_in (by omega), nA_in (by omega), e]
    show 1 * _ * _ * _ = _
    rw [Nat.one_mul]
theorem pP_le {as : Ax} (h : axOK as) : ∀ n, n ≤ as.length → pP as n ≤ 5 ^ n := by
  intro n
  induction n with
  | zero => exact fun _ => Nat.le_refl 1
  | succ n ih =>
    intro hn
    rw [pP_s, Nat.pow_succ]
    have := (nA_le (a := n) h).2
    rw [nA_in (by omega)] at this
    exact Nat.mul_le_mul (ih (by omega)) this
def lft (as : Ax) (c : Nat) : Nat → Nat
  | 0 => c
  | k + 1 => lft as c k / (axV as (as.length - 1 - k)).length
theorem lft_s {as : Ax} {c k : Nat} : lft as c (k + 1) = lft as c k / (axV as (as.length - 1 - k)).length := rfl
theorem lft_le {as : Ax} {c k : Nat} : lft as c k ≤ c := by
  induction k with
  | zero => exact Nat.le_refl c
  | succ k ih => exact Nat.le_trans (Nat.div_le_self _ _) ih
theorem lft_dg {as : Ax} {c a : Nat} (h : axOK as) (hc : c < prA as) (ha : a < as.length) : lft as c (as.length - 1 - a) % (axV as a).length = dgA as c a := by
  have h3 := h.1
  have dl := dgA_lt h hc
  unfold dgA at dl ⊢
  have hcs : as.length = 1 ∨ as.length = 2 ∨ as.length = 3 := by omega
  rcases hcs with e | e | e
  · have : a = 0 := by omega
    subst this
    have l0 := dl 0 (by decide)
    rw [nA_in ha, nA_out (by omega), nA_out (by omega)] at l0
    rw [nA_out (by omega), nA_out (by omega), e]
    have l0 : c / 1 / 1 < _ := l0
    rw [Nat.div_one, Nat.div_one] at l0
    show c % _ = c / 1 / 1
    rw [Nat.div_one, Nat.div_one, Nat.mod_eq_of_lt l0]
  · have : a = 0 ∨ a = 1 := by omega
    rcases this with v | v <;> subst v
    · have l0 := dl 0 (by decide)
      rw [nA_in ha, nA_in (by omega), nA_out (by omega)] at l0
      rw [nA_in (by omega), nA_out (by omega), e]
      have l0 : c / 1 / _ < _ := l0
      show c / (axV as (as.length - 1 - 0)).length % _ = c / 1 / _
      rw [Nat.div_one] at l0 ⊢
      rw [e]
      exact Nat.mod_eq_of_lt l0
    · rw [nA_in (by omega), nA_out (by omega), e]
      show c % _ = c / 1 % _
      rw [Nat.div_one]
  · have : a = 0 ∨ a = 1 ∨ a = 2 := by omega
    rcases this with v | v | v <;> subst v
    · have l0 := dl 0 (by decide)
      rw [nA_in ha, nA_in (by omega), nA_in (by omega)] at l0
      rw [nA_in (by omega), nA_in (by omega), e]
      show c / (axV as (as.length - 1 - 0)).length / (axV as (as.length - 1 - 1)).length % _ = c / _ / _
      rw [e]
      exact Nat.mod_eq_of_lt l0
    · rw [nA_in (by omega), nA_in (by omega), e]
      show c / (axV as (as.length - 1 - 0)).length % _ = c / _ % _
      rw [e]
    · rw [nA_in (by omega), nA_in (by omega), e]
      rfl
theorem nI_m1 {b : Nat} : nI (b + 1) + (-1) = nI b := by
  rw [← nI_1, Int32.add_assoc, show ((1 : Int32) + -1) = 0 from by decide, Int32.add_zero]
section
variable {d j kept : Nat} {h h0 : mj_H} {Q : Option Value → mj_H → Prop} {P : mj_P} {W : List Wt}
theorem axM (hP : PlM h W kept P) (hj : j < P.nj) : AsM h j (P.jr j).2.1 := (hP.2.2.2.2 j (by have := hP.1.2.1; omega)).2.1
theorem incM (hP : PlM h W kept P) (hj : j < P.nj) : RwM h j 591 0 (P.jr j).2.2.1 := (hP.2.2.2.2 j (by have := hP.1.2.1; omega)).2.2.1
theorem excM (hP : PlM h W kept P) (hj : j < P.nj) : RwM h j 592 4 (P.jr j).2.2.2.1 := (hP.2.2.2.2 j (by have := hP.1.2.1; omega)).2.2.2.1
/-- products -/
theorem s63 (H : mj_RS h) (hP : PlM h W kept P) (hj : j < P.nj) (hA : axOK (P.jr j).2.1) (kk : Q (some (.int (nI (pdA (P.jr j))))) h) : mr_C mj_KK d 63 [.ref 573, .int (nI j)] h Q := by
  show mr_M mj_KK d 63 0 [some (.ref 573), some (.int (nI j)), none, none] [] h Q
  have hj12 : j < 12 := by have := hP.1.2.1; omega
  obtain ⟨x1, x2, x3⟩ := axM hP hj
  obtain ⟨y1, y2, -⟩ := incM hP hj
  refine kb_63_0 ?_
  have loop : ∀ n a, a + n = (P.jr j).2.1.length → mr_M mj_KK d 63 4 [some (.ref 573), some (.int (nI j)), some (.int (nI (pP (P.jr j).2.1 a))), some (.int (nI a))] [] h Q := by
    intro n
    induction n with
    | zero =>
      intro a ha
      have e : a = (P.jr j).2.1.length := by omega
      subst e
      have pe := pP_prA x2
      refine kb_63_4 (by first | with_reducible assumption | with_reducible exact kd_M | assumption) (by first | with_reducible assumption | exact rf_M_axisCount H | assumption) (by first | with_reducible assumption | with_reducible exact kd_M_axisCount | assumption) (by first | with_reducible assumption | (simp (disch := omega) only [z_0, z_1, z_2, z_3, z_4, z_5, z_6, z_7, z_8, z_9, z_10, z_12, z_13, z_20, z_21, z_25, z_56, z_350, z_31, z_32, z_36, z_48, z_57, z_61, z_97, z_100, z_122, z_125, z_126, z_144, z_255, z_700, z_1000, z_1548, nI_add, pk_mul, pk_sub, nI_clamp, nI_leI, nI_ltI, nI_eq, z_in, z_m1, z_m1b, lg_cmp_eq, z_cmp, Decidable.not_not, w_ie, w_in, w_il, w_le, w_ln, w_li, w_ir, w_lr, ln_P_tape, ln_W_text, ln_W_starts, ln_W_ends, ln_W_lines, ln_W_names, ln_W_values, ln_PL_jobs, ln_PL_parts, ln_FT_reached, ln_EX_jobs, ln_EX_codes, ln_CB_names, ln_CB_values, ln_M_tape, ln_M_source, ln_M_wordAt, ln_M_wordEnd, ln_M_names, ln_M_itemCount, ln_M_itemFirst, ln_M_itemWords, ln_M_itemUses, ln_M_keptAt, ln_M_keptEnd, ln_M_needCount, ln_M_axisCount, ln_M_valueCount, ln_M_needed, ln_M_axes, ln_M_values, ln_M_includes, ln_M_excludes, ln_M_pairCount, ln_M_pairName, ln_M_pairValue, ln_M_signCount, ln_M_signs, ln_M_signName, ln_M_signValue, ln_M_whose, ln_M_which, ln_M_pile, ln_M_reaches, ln_M_stepsOf, ln_M_known, ln_JB_needed, ln_JB_axes, ln_JS_used, ln_JS_stepWords, ln_PS_used, ln_PS_stepWords, ln_IN_rows, ln_EC_rows, ln_IR_names, ln_IR_values, ln_ER_names, ln_ER_values, ln_CD_kinds, ln_CD_names, ln_CD_values, ln_AX_values] <;> omega) | assumption) (fun _ => kb_63_33 (by first | with_reducible assumption | with_reducible exact kd_M | assumption) (by first | with_reducible assumption | exact rf_M_axisCount H | assumption) (by first | with_reducible assumption | with_reducible exact kd_M_axisCount | assumption) (by first | with_reducible assumption | (simp (disch := omega) only [z_0, z_1, z_2, z_3, z_4, z_5, z_6, z_7, z_8, z_9, z_10, z_12, z_13, z_20, z_21, z_25, z_56, z_350, z_31, z_32, z_36, z_48, z_57, z_61, z_97, z_100, z_122, z_125, z_126, z_144, z_255, z_700, z_1000, z_1548, nI_add, pk_mul, pk_sub, nI_clamp, nI_leI, nI_ltI, nI_eq, z_in, z_m1, z_m1b, lg_cmp_eq, z_cmp, Decidable.not_not, w_ie, w_in, w_il, w_le, w_ln, w_li, w_ir, w_lr, ln_P_tape, ln_W_text, ln_W_starts, ln_W_ends, ln_W_lines, ln_W_names, ln_W_values, ln_PL_jobs, ln_PL_parts, ln_FT_reached, ln_EX_jobs, ln_EX_codes, ln_CB_names, ln_CB_values, ln_M_tape, ln_M_source, ln_M_wordAt, ln_M_wordEnd, ln_M_names, ln_M_itemCount, ln_M_itemFirst, ln_M_itemWords, ln_M_itemUses, ln_M_keptAt, ln_M_keptEnd, ln_M_needCount, ln_M_axisCount, ln_M_valueCount, ln_M_needed, ln_M_axes, ln_M_values, ln_M_includes, ln_M_excludes, ln_M_pairCount, ln_M_pairName, ln_M_pairValue, ln_M_signCount, ln_M_signs, ln_M_signName, ln_M_signValue, ln_M_whose, ln_M_which, ln_M_pile, ln_M_reaches, ln_M_stepsOf, ln_M_known, ln_JB_needed, ln_JB_axes, ln_JS_used, ln_JS_stepWords, ln_PS_used, ln_PS_stepWords, ln_IN_rows, ln_EC_rows, ln_IR_names, ln_IR_values, ln_ER_names, ln_ER_values, ln_CD_kinds, ln_CD_names, ln_CD_values, ln_AX_values] <;> omega) | assumption) (fun c => kb_63_55 (kb_63_56 ?_)) (fun c => kb_63_42 (by first | with_reducible assumption | with_reducible exact kd_M | assumption) (by first | with_reducible assumption | exact rf_M_includes H | assumption) (by first | with_reducible assumption | with_reducible exact kd_M_includes | assumption) (by first | with_reducible assumption | (simp (disch := omega) only [z_0, z_1, z_2, z_3, z_4, z_5, z_6, z_7, z_8, z_9, z_10, z_12, z_13, z_20, z_21, z_25, z_56, z_350, z_31, z_32, z_36, z_48, z_57, z_61, z_97, z_100, z_122, z_125, z_126, z_144, z_255, z_700, z_1000, z_1548, nI_add, pk_mul, pk_sub, nI_clamp, nI_leI, nI_ltI, nI_eq, z_in, z_m1, z_m1b, lg_cmp_eq, z_cmp, Decidable.not_not, w_ie, w_in, w_il, w_le, w_ln, w_li, w_ir, w_lr, ln_P_tape, ln_W_text, ln_W_starts, ln_W_ends, ln_W_lines, ln_W_names, ln_W_values, ln_PL_jobs, ln_PL_parts, ln_FT_reached, ln_EX_jobs, ln_EX_codes, ln_CB_names, ln_CB_values, ln_M_tape, ln_M_source, ln_M_wordAt, ln_M_wordEnd, ln_M_names, ln_M_itemCount, ln_M_itemFirst, ln_M_itemWords, ln_M_itemUses, ln_M_keptAt, ln_M_keptEnd, ln_M_needCount, ln_M_axisCount, ln_M_valueCount, ln_M_needed, ln_M_axes, ln_M_values, ln_M_includes, ln_M_excludes, ln_M_pairCount, ln_M_pairName, ln_M_pairValue, ln_M_signCount, ln_M_signs, ln_M_signName, ln_M_signValue, ln_M_whose, ln_M_which, ln_M_pile, ln_M_reaches, ln_M_stepsOf, ln_M_known, ln_JB_needed, ln_JB_axes, ln_JS_used, ln_JS_stepWords, ln_PS_used, ln_PS_stepWords, ln_IN_rows, ln_EC_rows, ln_IR_names, ln_IR_values, ln_ER_names, ln_ER_values, ln_CD_kinds, ln_CD_names, ln_CD_values, ln_AX_values] <;> omega) | assumption) (fun c2 => kb_63_55 (kb_63_56 ?_)) (fun c2 => kb_63_51 (kb_63_56 ?_)))) (fun c => (by simp (disch := omega) only [z_0, z_1, z_2, z_3, z_4, z_5, z_6, z_7, z_8, z_9, z_10, z_12, z_13, z_20, z_21, z_25, z_56, z_350, z_31, z_32, z_36, z_48, z_57, z_61, z_97, z_100, z_122, z_125, z_126, z_144, z_255, z_700, z_1000, z_1548, nI_add, pk_mul, pk_sub, nI_clamp, nI_leI, nI_ltI, nI_eq, z_in, z_m1, z_m1b, lg_cmp_eq, z_cmp, Decidable.not_not, w_ie, w_in, w_il, w_le, w_ln, w_li, w_ir, w_lr, x1] at c; exfalso; omega))
      · simp (disch := omega) only [z_0, z_1, z_2, z_3, z_4, z_5, z_6, z_7, z_8, z_9, z_10, z_12, z_13, z_20, z_21, z_25, z_56, z_350, z_31, z_32, z_36, z_48, z_57, z_61, z_97, z_100, z_122, z_125, z_126, z_144, z_255, z_700, z_1000, z_1548, nI_add, pk_mul, pk_sub, nI_clamp, nI_leI, nI_ltI, nI_eq, z_in, z_m1, z_m1b, lg_cmp_eq, z_cmp, Decidable.not_not, w_ie, w_in, w_il, w_le, w_ln, w_li, w_ir, w_lr, x1] at c
        unfold pdA at kk
        rw [if_neg (by omega), ← pe] at kk
        exact kk
      · simp (disch := omega) only [z_0, z_1, z_2, z_3, z_4, z_5, z_6, z_7, z_8, z_9, z_10, z_12, z_13, z_20, z_21, z_25, z_56, z_350, z_31, z_32, z_36, z_48, z_57, z_61, z_97, z_100, z_122, z_125, z_126, z_144, z_255, z_700, z_1000, z_1548, nI_add, pk_mul, pk_sub, nI_clamp, nI_leI, nI_ltI, nI_eq, z_in, z_m1, z_m1b, lg_cmp_eq, z_cmp, Decidable.not_not, w_ie, w_in, w_il, w_le, w_ln, w_li, w_ir, w_lr, y1] at c2
        unfold pdA at kk
        rw [if_neg (by omega), ← pe] at kk
        exact kk
      · simp (disch := omega) only [z_0, z_1, z_2, z_3, z_4, z_5, z_6, z_7, z_8, z_9, z_10, z_12, z_13, z_20, z_21, z_25, z_56, z_350, z_31, z_32, z_36, z_48, z_57, z_61, z_97, z_100, z_122, z_125, z_126, z_144, z_255, z_700, z_1000, z_1548, nI_add, pk_mul, pk_sub, nI_clamp, nI_leI, nI_ltI, nI_eq, z_in, z_m1, z_m1b, lg_cmp_eq, z_cmp, Decidable.not_not, w_ie, w_in, w_il, w_le, w_ln, w_li, w_ir, w_lr, x1] at c
        simp (disch := omega) only [z_0, z_1, z_2, z_3, z_4, z_5, z_6, z_7, z_8, z_9, z_10, z_12, z_13, z_20, z_21, z_25, z_56, z_350, z_31, z_32, z_36, z_48, z_57, z_61, z_97, z_100, z_122, z_125, z_126, z_144, z_255, z_700, z_1000, z_1548, nI_add, pk_mul, pk_sub, nI_clamp, nI_leI, nI_ltI, nI_eq, z_in, z_m1, z_m1b, lg_cmp_eq, z_cmp, Decidable.not_not, w_ie, w_in, w_il, w_le, w_ln, w_li, w_ir, w_lr, y1] at c2
        unfold pdA at kk
        rw [if_pos (by omega)] at kk
        exact kk
    | succ n ih =>
      intro a ha
      have e9 : h.1 587 (3 * j + a) = nI (axV (P.jr j).2.1 a).length := (x3 a (by omega)).2.1
      refine kb_63_4 (by first | with_reducible assumption | with_reducible exact kd_M | assumption) (by first | with_reducible assumption | exact rf_M_axisCount H | assumption) (by first | with_reducible assumption | with_reducible exact kd_M_axisCount | assumption) (by first | with_reducible assumption | (simp (disch := omega) only [z_0, z_1, z_2, z_3, z_4, z_5, z_6, z_7, z_8, z_9, z_10, z_12, z_13, z_20, z_21, z_25, z_56, z_350, z_31, z_32, z_36, z_48, z_57, z_61, z_97, z_100, z_122, z_125, z_126, z_144, z_255, z_700, z_1000, z_1548, nI_add, pk_mul, pk_sub, nI_clamp, nI_leI, nI_ltI, nI_eq, z_in, z_m1, z_m1b, lg_cmp_eq, z_cmp, Decidable.not_not, w_ie, w_in, w_il, w_le, w_ln, w_li, w_ir, w_lr, ln_P_tape, ln_W_text, ln_W_starts, ln_W_ends, ln_W_lines, ln_W_names, ln_W_values, ln_PL_jobs, ln_PL_parts, ln_FT_reached, ln_EX_jobs, ln_EX_codes, ln_CB_names, ln_CB_values, ln_M_tape, ln_M_source, ln_M_wordAt, ln_M_wordEnd, ln_M_names, ln_M_itemCount, ln_M_itemFirst, ln_M_itemWords, ln_M_itemUses, ln_M_keptAt, ln_M_keptEnd, ln_M_needCount, ln_M_axisCount, ln_M_valueCount, ln_M_needed, ln_M_axes, ln_M_values, ln_M_includes, ln_M_excludes, ln_M_pairCount, ln_M_pairName, ln_M_pairValue, ln_M_signCount, ln_M_signs, ln_M_signName, ln_M_signValue, ln_M_whose, ln_M_which, ln_M_pile, ln_M_reaches, ln_M_stepsOf, ln_M_known, ln_JB_needed, ln_JB_axes, ln_JS_used, ln_JS_stepWords, ln_PS_used, ln_PS_stepWords, ln_IN_rows, ln_EC_rows, ln_IR_names, ln_IR_values, ln_ER_names, ln_ER_values, ln_CD_kinds, ln_CD_names, ln_CD_values, ln_AX_values] <;> omega) | assumption) (fun c => (by simp (disch := omega) only [z_0, z_1, z_2, z_3, z_4, z_5, z_6, z_7, z_8, z_9, z_10, z_12, z_13, z_20, z_21, z_25, z_56, z_350, z_31, z_32, z_36, z_48, z_57, z_61, z_97, z_100, z_122, z_125, z_126, z_144, z_255, z_700, z_1000, z_1548, nI_add, pk_mul, pk_sub, nI_clamp, nI_leI, nI_ltI, nI_eq, z_in, z_m1, z_m1b, lg_cmp_eq, z_cmp, Decidable.not_not, w_ie, w_in, w_il, w_le, w_ln, w_li, w_ir, w_lr, x1] at c; exfalso; omega)) (fun _ => kb_63_14 (by first | with_reducible assumption | with_reducible exact kd_M | assumption) (by first | with_reducible assumption | exact rf_M_valueCount H | assumption) (by first | with_reducible assumption | with_reducible exact kd_M_valueCount | assumption) (by first | with_reducible assumption | (simp (disch := omega) only [z_0, z_1, z_2, z_3, z_4, z_5, z_6, z_7, z_8, z_9, z_10, z_12, z_13, z_20, z_21, z_25, z_56, z_350, z_31, z_32, z_36, z_48, z_57, z_61, z_97, z_100, z_122, z_125, z_126, z_144, z_255, z_700, z_1000, z_1548, nI_add, pk_mul, pk_sub, nI_clamp, nI_leI, nI_ltI, nI_eq, z_in, z_m1, z_m1b, lg_cmp_eq, z_cmp, Decidable.not_not, w_ie, w_in, w_il, w_le, w_ln, w_li, w_ir, w_lr, ln_P_tape, ln_W_text, ln_W_starts, ln_W_ends, ln_W_lines, ln_W_names, ln_W_values, ln_PL_jobs, ln_PL_parts, ln_FT_reached, ln_EX_jobs, ln_EX_codes, ln_CB_names, ln_CB_values, ln_M_tape, ln_M_source, ln_M_wordAt, ln_M_wordEnd, ln_M_names, ln_M_itemCount, ln_M_itemFirst, ln_M_itemWords, ln_M_itemUses, ln_M_keptAt, ln_M_keptEnd, ln_M_needCount, ln_M_axisCount, ln_M_valueCount, ln_M_needed, ln_M_axes, ln_M_values, ln_M_includes, ln_M_excludes, ln_M_pairCount, ln_M_pairName, ln_M_pairValue, ln_M_signCount, ln_M_signs, ln_M_signName, ln_M_signValue, ln_M_whose, ln_M_which, ln_M_pile, ln_M_reaches, ln_M_stepsOf, ln_M_known, ln_JB_needed, ln_JB_axes, ln_JS_used, ln_JS_stepWords, ln_PS_used, ln_PS_stepWords, ln_IN_rows, ln_EC_rows, ln_IR_names, ln_IR_values, ln_ER_names, ln_ER_values, ln_CD_kinds, ln_CD_names, ln_CD_values, ln_AX_values] <;> omega) | assumption) ?_)
      have e3 : (3 : Int32) * nI j + nI a = nI (3 * j + a) := by rw [show (3 : Int32) = nI 3 from rfl, pk_mul, nI_add]
      rw [e3, nI_clamp (by omega), e9, pk_mul, nI_1]
      exact ih (a + 1) (by omega)
  exact loop (P.jr j).2.1.length 0 (by omega)
/-- valueIn -/
theorem s64 {c a : Nat} (H : mj_RS h) (hP : PlM h W kept P) (hj : j < P.nj) (hA : axOK (P.jr j).2.1) (hc : c < prA (P.jr j).2.1) (ha : a < (P.jr j).2.1.length) (kk : Q (some (.int (nI (dgA (P.jr j).2.1 c a)))) h) : mr_C mj_KK d 64 [.ref 573, .int (nI j), .int (nI c), .int (nI a)] h Q := by
  show mr_M mj_KK d 64 0 [some (.ref 573), some (.int (nI j)), some (.int (nI c)), some (.int (nI a)), none, none] [] h Q
  have hj12 : j < 12 := by have := hP.1.2.1; omega
  obtain ⟨x1, x2, x3⟩ := axM hP hj
  have p125 := prA_le hA
  have el := lft_dg hA hc ha
  have ax1 : ∀ b, b < (P.jr j).2.1.length → h.1 587 (3 * j + b) = nI (axV (P.jr j).2.1 b).length ∧ 1 ≤ (axV (P.jr j).2.1 b).length ∧ (axV (P.jr j).2.1 b).length ≤ 5 := by
    intro b hb
    have := nA_le (a := b) hA
    rw [nA_in hb] at this
    exact ⟨(x3 b hb).2.1, this⟩
  refine kb_64_0 (by first | with_reducible assumption | with_reducible exact kd_M | assumption) (by first | with_reducible assumption | exact rf_M_axisCount H | assumption) (by first | with_reducible assumption | with_reducible exact kd_M_axisCount | assumption) (by first | with_reducible assumption | (simp (disch := omega) only [z_0, z_1, z_2, z_3, z_4, z_5, z_6, z_7, z_8, z_9, z_10, z_12, z_13, z_20, z_21, z_25, z_56, z_350, z_31, z_32, z_36, z_48, z_57, z_61, z_97, z_100, z_122, z_125, z_126, z_144, z_255, z_700, z_1000, z_1548, nI_add, pk_mul, pk_sub, nI_clamp, nI_leI, nI_ltI, nI_eq, z_in, z_m1, z_m1b, lg_cmp_eq, z_cmp, Decidable.not_not, w_ie, w_in, w_il, w_le, w_ln, w_li, w_ir, w_lr, ln_P_tape, ln_W_text, ln_W_starts, ln_W_ends, ln_W_lines, ln_W_names, ln_W_values, ln_PL_jobs, ln_PL_parts, ln_FT_reached, ln_EX_jobs, ln_EX_codes, ln_CB_names, ln_CB_values, ln_M_tape, ln_M_source, ln_M_wordAt, ln_M_wordEnd, ln_M_names, ln_M_itemCount, ln_M_itemFirst, ln_M_itemWords, ln_M_itemUses, ln_M_keptAt, ln_M_keptEnd, ln_M_needCount, ln_M_axisCount, ln_M_valueCount, ln_M_needed, ln_M_axes, ln_M_values, ln_M_includes, ln_M_excludes, ln_M_pairCount, ln_M_pairName, ln_M_pairValue, ln_M_signCount, ln_M_signs, ln_M_signName, ln_M_signValue, ln_M_whose, ln_M_which, ln_M_pile, ln_M_reaches, ln_M_stepsOf, ln_M_known, ln_JB_needed, ln_JB_axes, ln_JS_used, ln_JS_stepWords, ln_PS_used, ln_PS_stepWords, ln_IN_rows, ln_EC_rows, ln_IR_names, ln_IR_values, ln_ER_names, ln_ER_values, ln_CD_kinds, ln_CD_names, ln_CD_values, ln_AX_values] <;> omega) | assumption) ?_
  rw [nI_clamp (by omega), x1, show (1 : Int32) = nI 1 from rfl, pk_sub (by omega)]
  have e3 : ∀ b, (3 : Int32) * nI j + nI b = nI (3 * j + b) := fun b => by rw [show (3 : Int32) = nI 3 from rfl, pk_mul, nI_add]
  have loop : ∀ n b, b = a + n → b < (P.jr j).2.1.length → mr_M mj_KK d 64 13 [some (.ref 573), some (.int (nI j)), none, some (.int (nI a)), some (.int (nI (lft (P.jr j).2.1 c ((P.jr j).2.1.length - 1 - b)))), some (.int (nI b))] [] h Q := by
    intro n
    induction n with
    | zero =>
      intro b hb hbl
      have hb : b = a := by omega
      subst hb
      obtain ⟨z1, z2, z3⟩ := ax1 b hbl
      have ll := lft_le (as := (P.jr j).2.1) (c := c) (k := (P.jr j).2.1.length - 1 - b)
      refine kb_64_13 (fun _ => kb_64_41 kd_M (rf_M_valueCount H) kd_M_valueCount (by rw [e3, ln_M_valueCount]; exact mj_inI (by omega) (by omega)) (by rw [e3, nI_clamp (by omega), z1, z_0, nI_eq (by omega) (by omega)]; omega) ?_) (fun c => (by simp (disch := omega) only [z_0, z_1, z_2, z_3, z_4, z_5, z_6, z_7, z_8, z_9, z_10, z_12, z_13, z_20, z_21, z_25, z_56, z_350, z_31, z_32, z_36, z_48, z_57, z_61, z_97, z_100, z_122, z_125, z_126, z_144, z_255, z_700, z_1000, z_1548, nI_add, pk_mul, pk_sub, nI_clamp, nI_leI, nI_ltI, nI_eq, z_in, z_m1, z_m1b, lg_cmp_eq, z_cmp, Decidable.not_not, w_ie, w_in, w_il, w_le, w_ln, w_li, w_ir, w_lr] at c; exfalso; omega))
      rw [e3, nI_clamp (by omega), z1, pk_rem (by omega) (by omega) (by omega), el]
      exact kk
    | succ n ih =>
      intro b hb hbl
      obtain ⟨z1, z2, z3⟩ := ax1 b hbl
      have ll := lft_le (as := (P.jr j).2.1) (c := c) (k := (P.jr j).2.1.length - 1 - b)
      refine kb_64_13 (fun c => (by simp (disch := omega) only [z_0, z_1, z_2, z_3, z_4, z_5, z_6, z_7, z_8, z_9, z_10, z_12, z_13, z_20, z_21, z_25, z_56, z_350, z_31, z_32, z_36, z_48, z_57, z_61, z_97, z_100, z_122, z_125, z_126, z_144, z_255, z_700, z_1000, z_1548, nI_add, pk_mul, pk_sub, nI_clamp, nI_leI, nI_ltI, nI_eq, z_in, z_m1, z_m1b, lg_cmp_eq, z_cmp, Decidable.not_not, w_ie, w_in, w_il, w_le, w_ln, w_li, w_ir, w_lr] at c; exfalso; omega)) (fun _ => kb_64_19 kd_M (rf_M_valueCount H) kd_M_valueCount (by rw [e3, ln_M_valueCount]; exact mj_inI (by omega) (by omega)) (by rw [e3, nI_clamp (by omega), z1, z_0, nI_eq (by omega) (by omega)]; omega) ?_)
      obtain ⟨b', rfl⟩ : ∃ b', b = b' + 1 := ⟨b - 1, by omega⟩
      rw [e3, nI_clamp (by omega), z1, pk_div (by omega) (by omega) (by omega), nI_m1]
      have := ih b' (by omega) (by omega)
      rw [show (P.jr j).2.1.length - 1 - b' = ((P.jr j).2.1.length - 1 - (b' + 1)) + 1 from by omega, lft_s, show (P.jr j).2.1.length - 1 - ((P.jr j).2.1.length - 1 - (b' + 1)) = b' + 1 from by omega] at this
      exact this
  have := loop ((P.jr j).2.1.length - 1 - a) ((P.jr j).2.1.length - 1) (by omega) (by omega)
  rw [Nat.sub_self] at this
  exact this
/-- has -/
theorem s65 {c : Nat} {y v : Int64} (hd : 1 ≤ d) (H : mj_RS h) (hP : PlM h W kept P) (hj : j < P.nj) (hA : axOK (P.jr j).2.1) (hc : c < prA (P.jr j).2.1) (hv : ¬ v = 0) (kk : Q (some (.int (b2i (decide (vO (cbL (P.jr j).2.1 (dgA (P.jr j).2.1 c)) y = v))))) h) : mr_C mj_KK d 65 [.ref 573, .int (nI j), .int (nI c), .long y, .long v] h Q := by
  show mr_M mj_KK d 65 0 [some (.ref 573), some (.int (nI j)), some (.int (nI c)), some (.long y), none, some (.long v), none, none] [] h Q
  have hj12 : j < 12 := by have := hP.1.2.1; omega
  obtain ⟨x1, x2, x3⟩ := id (axM hP hj)
  refine kb_65_0 (by first | with_reducible assumption | with_reducible exact kd_M | assumption) (by omega) (s43 hj12 H (axM hP hj) ?_)
  rcases vO_cb (as := (P.jr j).2.1) (g := dgA (P.jr j).2.1 c) (y := y) with ⟨e1, e2, -⟩ | ⟨a, ha, -, e1, e2⟩
  · rw [e1]
    rw [e2, decide_eq_false (fun r => hv r.symm)] at kk
    exact kb_65_6 (fun _ => kb_65_45 (kb_65_46 (by first | assumption | exact b2i_01 _ | exact Or.inl rfl | exact Or.inr rfl) kk)) (fun c => absurd m1_neg c)
  · rw [e1]
    rw [e2] at kk
    have dl := dgA_lt hA hc a (by omega)
    rw [nA_in ha] at dl
    obtain ⟨-, -, z3, z4⟩ := x3 a ha
    have z3 : (axV (P.jr j).2.1 a).length ≤ 5 := z3
    have e9 : h.2.1 590 (5 * (3 * j + a) + dgA (P.jr j).2.1 c a) = (axV (P.jr j).2.1 a).getD (dgA (P.jr j).2.1 c a) 0 := z4 _ dl
    have e5 : (5 : Int32) * (3 * nI j + nI a) + nI (dgA (P.jr j).2.1 c a) = nI (5 * (3 * j + a) + dgA (P.jr j).2.1 c a) := by rw [show (3 : Int32) = nI 3 from rfl, show (5 : Int32) = nI 5 from rfl, pk_mul, nI_add, pk_mul, nI_add]
    refine kb_65_6 (fun c => absurd c (nI_neg (by omega))) (fun _ => kb_65_13 (by first | with_reducible assumption | with_reducible exact kd_M | assumption) (by first | with_reducible assumption | exact rf_M_values H | assumption) (by omega) (s64 H hP hj hA hc ha ?_))
    refine kb_65_33 kd_M_values (by rw [e5, ln_M_values]; exact mj_inI (by omega) (by omega)) (fun c => kb_65_45 (kb_65_46 (by first | assumption | exact b2i_01 _ | exact Or.inl rfl | exact Or.inr rfl) ?_)) (fun c => kb_65_41 (kb_65_46 (by first | assumption | exact b2i_01 _ | exact Or.inl rfl | exact Or.inr rfl) ?_))
    · rw [e5, nI_clamp (by omega), e9, lg_cmp_eq] at c
      rw [decide_eq_false c] at kk
      exact kk
    · rw [e5, nI_clamp (by omega), e9, lg_cmp_eq, Decidable.not_not] at c
      rw [decide_eq_true c] at kk
      exact kk
/-- hasAll -/
theorem s66 {c s : Nat} {ps : Pp} (hd : 2 ≤ d) (H : mj_RS h) (hP : PlM h W kept P) (hj : j < P.nj) (hx : axOK (P.jr j).2.1) (hc : c < prA (P.jr j).2.1) (hs : s < 96) (hp : PrM h s ps) (hr : rwOK ps) (kk : Q (some (.int (b2i (hA (cbL (P.jr j).2.1 (dgA (P.jr j).2.1 c)) ps)))) h) : mr_C mj_KK d 66 [.ref 573, .int (nI j), .int (nI c), .int (nI s)] h Q := by
  show mr_M mj_KK d 66 0 [some (.ref 573), some (.int (nI j)), some (.int (nI c)), some (.int (nI s)), none] [] h Q
  obtain ⟨x1, x2, x3⟩ := hp
  unfold hA at kk
  refine kb_66_0 ?_
  have loop : ∀ n i, i + n = ps.length → (∀ k, k < i → decide (vO (cbL (P.jr j).2.1 (dgA (P.jr j).2.1 c)) (ps.getD k (0, 0)).1 = (ps.getD k (0, 0)).2) = true) → mr_M mj_KK d 66 3 [some (.ref 573), some (.int (nI j)), some (.int (nI c)), some (.int (nI s)), some (.int (nI i))] [] h Q := by
    intro n
    induction n with
    | zero =>
      intro i hi hq
      rw [all_t (x := (0, 0)) (fun k hk => hq k (by omega))] at kk
      exact kb_66_3 (by first | with_reducible assumption | with_reducible exact kd_M | assumption) (by first | with_reducible assumption | exact rf_M_pairCount H | assumption) (by first | with_reducible assumption | with_reducible exact kd_M_pairCount | assumption) (by first | with_reducible assumption | (simp (disch := omega) only [z_0, z_1, z_2, z_3, z_4, z_5, z_6, z_7, z_8, z_9, z_10, z_12, z_13, z_20, z_21, z_25, z_56, z_350, z_31, z_32, z_36, z_48, z_57, z_61, z_97, z_100, z_122, z_125, z_126, z_144, z_255, z_700, z_1000, z_1548, nI_add, pk_mul, pk_sub, nI_clamp, nI_leI, nI_ltI, nI_eq, z_in, z_m1, z_m1b, lg_cmp_eq, z_cmp, Decidable.not_not, w_ie, w_in, w_il, w_le, w_ln, w_li, w_ir, w_lr, ln_P_tape, ln_W_text, ln_W_starts, ln_W_ends, ln_W_lines, ln_W_names, ln_W_values, ln_PL_jobs, ln_PL_parts, ln_FT_reached, ln_EX_jobs, ln_EX_codes, ln_CB_names, ln_CB_values, ln_M_tape, ln_M_source, ln_M_wordAt, ln_M_wordEnd, ln_M_names, ln_M_itemCount, ln_M_itemFirst, ln_M_itemWords, ln_M_itemUses, ln_M_keptAt, ln_M_keptEnd, ln_M_needCount, ln_M_axisCount, ln_M_valueCount, ln_M_needed, ln_M_axes, ln_M_values, ln_M_includes, ln_M_excludes, ln_M_pairCount, ln_M_pairName, ln_M_pairValue, ln_M_signCount, ln_M_signs, ln_M_signName, ln_M_signValue, ln_M_whose, ln_M_which, ln_M_pile, ln_M_reaches, ln_M_stepsOf, ln_M_known, ln_JB_needed, ln_JB_axes, ln_JS_used, ln_JS_stepWords, ln_PS_used, ln_PS_stepWords, ln_IN_rows, ln_EC_rows, ln_IR_names, ln_IR_values, ln_ER_names, ln_ER_values, ln_CD_kinds, ln_CD_names, ln_CD_values, ln_AX_values] <;> omega) | assumption) (fun _ => kb_66_53 kk) (fun c => (by simp (disch := omega) only [z_0, z_1, z_2, z_3, z_4, z_5, z_6, z_7, z_8, z_9, z_10, z_12, z_13, z_20, z_21, z_25, z_56, z_350, z_31, z_32, z_36, z_48, z_57, z_61, z_97, z_100, z_122, z_125, z_126, z_144, z_255, z_700, z_1000, z_1548, nI_add, pk_mul, pk_sub, nI_clamp, nI_leI, nI_ltI, nI_eq, z_in, z_m1, z_m1b, lg_cmp_eq, z_cmp, Decidable.not_not, w_ie, w_in, w_il, w_le, w_ln, w_li, w_ir, w_lr, x1] at c; exfalso; omega))
    | succ n ih =>
      intro i hi hq
      obtain ⟨e0, e1⟩ := x3 i (by omega)
      have nz := (hr.2.2 _ (getD_mem (x := (0, 0)) (show i < ps.length by omega))).2.1
      refine kb_66_3 (by first | with_reducible assumption | with_reducible exact kd_M | assumption) (by first | with_reducible assumption | exact rf_M_pairCount H | assumption) (by first | with_reducible assumption | with_reducible exact kd_M_pairCount | assumption) (by first | with_reducible assumption | (simp (disch := omega) only [z_0, z_1, z_2, z_3, z_4, z_5, z_6, z_7, z_8, z_9, z_10, z_12, z_13, z_20, z_21, z_25, z_56, z_350, z_31, z_32, z_36, z_48, z_57, z_61, z_97, z_100, z_122, z_125, z_126, z_144, z_255, z_700, z_1000, z_1548, nI_add, pk_mul, pk_sub, nI_clamp, nI_leI, nI_ltI, nI_eq, z_in, z_m1, z_m1b, lg_cmp_eq, z_cmp, Decidable.not_not, w_ie, w_in, w_il, w_le, w_ln, w_li, w_ir, w_lr, ln_P_tape, ln_W_text, ln_W_starts, ln_W_ends, ln_W_lines, ln_W_names, ln_W_values, ln_PL_jobs, ln_PL_parts, ln_FT_reached, ln_EX_jobs, ln_EX_codes, ln_CB_names, ln_CB_values, ln_M_tape, ln_M_source, ln_M_wordAt, ln_M_wordEnd, ln_M_names, ln_M_itemCount, ln_M_itemFirst, ln_M_itemWords, ln_M_itemUses, ln_M_keptAt, ln_M_keptEnd, ln_M_needCount, ln_M_axisCount, ln_M_valueCount, ln_M_needed, ln_M_axes, ln_M_values, ln_M_includes, ln_M_excludes, ln_M_pairCount, ln_M_pairName, ln_M_pairValue, ln_M_signCount, ln_M_signs, ln_M_signName, ln_M_signValue, ln_M_whose, ln_M_which, ln_M_pile, ln_M_reaches, ln_M_stepsOf, ln_M_known, ln_JB_needed, ln_JB_axes, ln_JS_used, ln_JS_stepWords, ln_PS_used, ln_PS_stepWords, ln_IN_rows, ln_EC_rows, ln_IR_names, ln_IR_values, ln_ER_names, ln_ER_values, ln_CD_kinds, ln_CD_names, ln_CD_values, ln_AX_values] <;> omega) | assumption) (fun c => (by simp (disch := omega) only [z_0, z_1, z_2, z_3, z_4, z_5, z_6, z_7, z_8, z_9, z_10, z_12, z_13, z_20, z_21, z_25, z_56, z_350, z_31, z_32, z_36, z_48, z_57, z_61, z_97, z_100, z_122, z_125, z_126, z_144, z_255, z_700, z_1000, z_1548, nI_add, pk_mul, pk_sub, nI_clamp, nI_leI, nI_ltI, nI_eq, z_in, z_m1, z_m1b, lg_cmp_eq, z_cmp, Decidable.not_not, w_ie, w_in, w_il, w_le, w_ln, w_li, w_ir, w_lr, x1] at c; exfalso; omega)) (fun _ => kb_66_14 (by first | with_reducible assumption | with_reducible exact kd_M | assumption) (by first | with_reducible assumption | exact rf_M_pairName H | assumption) (by first | with_reducible assumption | with_reducible exact kd_M_pairName | assumption) (by first | with_reducible assumption | (simp (disch := omega) only [z_0, z_1, z_2, z_3, z_4, z_5, z_6, z_7, z_8, z_9, z_10, z_12, z_13, z_20, z_21, z_25, z_56, z_350, z_31, z_32, z_36, z_48, z_57, z_61, z_97, z_100, z_122, z_125, z_126, z_144, z_255, z_700, z_1000, z_1548, nI_add, pk_mul, pk_sub, nI_clamp, nI_leI, nI_ltI, nI_eq, z_in, z_m1, z_m1b, lg_cmp_eq, z_cmp, Decidable.not_not, w_ie, w_in, w_il, w_le, w_ln, w_li, w_ir, w_lr, ln_P_tape, ln_W_text, ln_W_starts, ln_W_ends, ln_W_lines, ln_W_names, ln_W_values, ln_PL_jobs, ln_PL_parts, ln_FT_reached, ln_EX_jobs, ln_EX_codes, ln_CB_names, ln_CB_values, ln_M_tape, ln_M_source, ln_M_wordAt, ln_M_wordEnd, ln_M_names, ln_M_itemCount, ln_M_itemFirst, ln_M_itemWords, ln_M_itemUses, ln_M_keptAt, ln_M_keptEnd, ln_M_needCount, ln_M_axisCount, ln_M_valueCount, ln_M_needed, ln_M_axes, ln_M_values, ln_M_includes, ln_M_excludes, ln_M_pairCount, ln_M_pairName, ln_M_pairValue, ln_M_signCount, ln_M_signs, ln_M_signName, ln_M_signValue, ln_M_whose, ln_M_which, ln_M_pile, ln_M_reaches, ln_M_stepsOf, ln_M_known, ln_JB_needed, ln_JB_axes, ln_JS_used, ln_JS_stepWords, ln_PS_used, ln_PS_stepWords, ln_IN_rows, ln_EC_rows, ln_IR_names, ln_IR_values, ln_ER_names, ln_ER_values, ln_CD_kinds, ln_CD_names, ln_CD_values, ln_AX_values] <;> omega) | assumption) (by first | with_reducible assumption | exact rf_M_pairValue H | assumption) (by first | with_reducible assumption | with_reducible exact kd_M_pairValue | assumption) (by first | with_reducible assumption | (simp (disch := omega) only [z_0, z_1, z_2, z_3, z_4, z_5, z_6, z_7, z_8, z_9, z_10, z_12, z_13, z_20, z_21, z_25, z_56, z_350, z_31, z_32, z_36, z_48, z_57, z_61, z_97, z_100, z_122, z_125, z_126, z_144, z_255, z_700, z_1000, z_1548, nI_add, pk_mul, pk_sub, nI_clamp, nI_leI, nI_ltI, nI_eq, z_in, z_m1, z_m1b, lg_cmp_eq, z_cmp, Decidable.not_not, w_ie, w_in, w_il, w_le, w_ln, w_li, w_ir, w_lr, ln_P_tape, ln_W_text, ln_W_starts, ln_W_ends, ln_W_lines, ln_W_names, ln_W_values, ln_PL_jobs, ln_PL_parts, ln_FT_reached, ln_EX_jobs, ln_EX_codes, ln_CB_names, ln_CB_values, ln_M_tape, ln_M_source, ln_M_wordAt, ln_M_wordEnd, ln_M_names, ln_M_itemCount, ln_M_itemFirst, ln_M_itemWords, ln_M_itemUses, ln_M_keptAt, ln_M_keptEnd, ln_M_needCount, ln_M_axisCount, ln_M_valueCount, ln_M_needed, ln_M_axes, ln_M_values, ln_M_includes, ln_M_excludes, ln_M_pairCount, ln_M_pairName, ln_M_pairValue, ln_M_signCount, ln_M_signs, ln_M_signName, ln_M_signValue, ln_M_whose, ln_M_which, ln_M_pile, ln_M_reaches, ln_M_stepsOf, ln_M_known, ln_JB_needed, ln_JB_axes, ln_JS_used, ln_JS_stepWords, ln_PS_used, ln_PS_stepWords, ln_IN_rows, ln_EC_rows, ln_IR_names, ln_IR_values, ln_ER_names, ln_ER_values, ln_CD_kinds, ln_CD_names, ln_CD_values, ln_AX_values] <;> omega) | assumption) (by omega) ?_)
      simp (disch := omega) only [z_0, z_1, z_2, z_3, z_4, z_5, z_6, z_7, z_8, z_9, z_10, z_12, z_13, z_20, z_21, z_25, z_56, z_350, z_31, z_32, z_36, z_48, z_57, z_61, z_97, z_100, z_122, z_125, z_126, z_144, z_255, z_700, z_1000, z_1548, nI_add, pk_mul, pk_sub, nI_clamp, nI_leI, nI_ltI, nI_eq, z_in, z_m1, z_m1b, lg_cmp_eq, z_cmp, Decidable.not_not, w_ie, w_in, w_il, w_le, w_ln, w_li, w_ir, w_lr, e0, e1]
      refine s65 (by omega) H hP hj hx hc nz ?_
      cases hb : decide (vO (cbL (P.jr j).2.1 (dgA (P.jr j).2.1 c)) (ps.getD i (0, 0)).1 = (ps.getD i (0, 0)).2) with
      | true =>
        refine kb_66_42 (fun _ => kb_66_47 ?_) (fun c => absurd (by decide) c)
        rw [nI_1]
        exact ih (i + 1) (by omega) (lt_s hq hb)
      | false =>
        rw [all_f (x := (0, 0)) (i := i) (by omega) hb] at kk
        exact kb_66_42 (fun c => absurd rfl c) (fun _ => kb_66_45 kk)
  exact loop ps.length 0 (by omega) lt_0
/-- isExcluded -/
theorem s67 {c : Nat} (hd : 3 ≤ d) (H : mj_RS h) (hP : PlM h W kept P) (hj : j < P.nj) (hJ : JV (P.jr j)) (hc : c < prA (P.jr j).2.1) (kk : Q (some (.int (b2i (xc (P.jr j).2.2.2.1 (cbL (P.jr j).2.1 (dgA (P.jr j).2.1 c)))))) h) : mr_C mj_KK d 67 [.ref 573, .int (nI j), .int (nI c)] h Q := by
  show mr_M mj_KK d 67 0 [some (.ref 573), some (.int (nI j)), some (.int (nI c)), none] [] h Q
  have hj12 : j < 12 := by have := hP.1.2.1; omega
  obtain ⟨x1, x2, x3⟩ := excM hP hj
  unfold xc at kk
  have hex := hJ.2.2.1
  generalize hE : (P.jr j).2.2.2.1 = ex at *
  refine kb_67_0 ?_
  have loop : ∀ n i, i + n = ex.length → (∀ k, k < i → hA (cbL (P.jr j).2.1 (dgA (P.jr j).2.1 c)) (ex.getD k []) = false) → mr_M mj_KK d 67 2 [some (.ref 573), some (.int (nI j)), some (.int (nI c)), some (.int (nI i))] [] h Q := by
    intro n
    induction n with
    | zero =>
      intro i hi hq
      rw [any_f (x := []) (fun k hk => hq k (by omega))] at kk
      exact kb_67_2 (by first | with_reducible assumption | with_reducible exact kd_M | assumption) (by first | with_reducible assumption | exact rf_M_excludes H | assumption) (by first | with_reducible assumption | with_reducible exact kd_M_excludes | assumption) (by first | with_reducible assumption | (simp (disch := omega) only [z_0, z_1, z_2, z_3, z_4, z_5, z_6, z_7, z_8, z_9, z_10, z_12, z_13, z_20, z_21, z_25, z_56, z_350, z_31, z_32, z_36, z_48, z_57, z_61, z_97, z_100, z_122, z_125, z_126, z_144, z_255, z_700, z_1000, z_1548, nI_add, pk_mul, pk_sub, nI_clamp, nI_leI, nI_ltI, nI_eq, z_in, z_m1, z_m1b, lg_cmp_eq, z_cmp, Decidable.not_not, w_ie, w_in, w_il, w_le, w_ln, w_li, w_ir, w_lr, ln_P_tape, ln_W_text, ln_W_starts, ln_W_ends, ln_W_lines, ln_W_names, ln_W_values, ln_PL_jobs, ln_PL_parts, ln_FT_reached, ln_EX_jobs, ln_EX_codes, ln_CB_names, ln_CB_values, ln_M_tape, ln_M_source, ln_M_wordAt, ln_M_wordEnd, ln_M_names, ln_M_itemCount, ln_M_itemFirst, ln_M_itemWords, ln_M_itemUses, ln_M_keptAt, ln_M_keptEnd, ln_M_needCount, ln_M_axisCount, ln_M_valueCount, ln_M_needed, ln_M_axes, ln_M_values, ln_M_includes, ln_M_excludes, ln_M_pairCount, ln_M_pairName, ln_M_pairValue, ln_M_signCount, ln_M_signs, ln_M_signName, ln_M_signValue, ln_M_whose, ln_M_which, ln_M_pile, ln_M_reaches, ln_M_stepsOf, ln_M_known, ln_JB_needed, ln_JB_axes, ln_JS_used, ln_JS_stepWords, ln_PS_used, ln_PS_stepWords, ln_IN_rows, ln_EC_rows, ln_IR_names, ln_IR_values, ln_ER_names, ln_ER_values, ln_CD_kinds, ln_CD_names, ln_CD_values, ln_AX_values] <;> omega) | assumption) (fun _ => kb_67_37 kk) (fun c => (by simp (disch := omega) only [z_0, z_1, z_2, z_3, z_4, z_5, z_6, z_7, z_8, z_9, z_10, z_12, z_13, z_20, z_21, z_25, z_56, z_350, z_31, z_32, z_36, z_48, z_57, z_61, z_97, z_100, z_122, z_125, z_126, z_144, z_255, z_700, z_1000, z_1548, nI_add, pk_mul, pk_sub, nI_clamp, nI_leI, nI_ltI, nI_eq, z_in, z_m1, z_m1b, lg_cmp_eq, z_cmp, Decidable.not_not, w_ie, w_in, w_il, w_le, w_ln, w_li, w_ir, w_lr, x1] at c; exfalso; omega))
    | succ n ih =>
      intro i hi hq
      have e8 : (8 : Int32) * nI j + 4 + nI i = nI (8 * j + 4 + i) := by rw [show (8 : Int32) = nI 8 from rfl, show (4 : Int32) = nI 4 from rfl, pk_mul, nI_add, nI_add]
      refine kb_67_2 (by first | with_reducible assumption | with_reducible exact kd_M | assumption) (by first | with_reducible assumption | exact rf_M_excludes H | assumption) (by first | with_reducible assumption | with_reducible exact kd_M_excludes | assumption) (by first | with_reducible assumption | (simp (disch := omega) only [z_0, z_1, z_2, z_3, z_4, z_5, z_6, z_7, z_8, z_9, z_10, z_12, z_13, z_20, z_21, z_25, z_56, z_350, z_31, z_32, z_36, z_48, z_57, z_61, z_97, z_100, z_122, z_125, z_126, z_144, z_255, z_700, z_1000, z_1548, nI_add, pk_mul, pk_sub, nI_clamp, nI_leI, nI_ltI, nI_eq, z_in, z_m1, z_m1b, lg_cmp_eq, z_cmp, Decidable.not_not, w_ie, w_in, w_il, w_le, w_ln, w_li, w_ir, w_lr, ln_P_tape, ln_W_text, ln_W_starts, ln_W_ends, ln_W_lines, ln_W_names, ln_W_values, ln_PL_jobs, ln_PL_parts, ln_FT_reached, ln_EX_jobs, ln_EX_codes, ln_CB_names, ln_CB_values, ln_M_tape, ln_M_source, ln_M_wordAt, ln_M_wordEnd, ln_M_names, ln_M_itemCount, ln_M_itemFirst, ln_M_itemWords, ln_M_itemUses, ln_M_keptAt, ln_M_keptEnd, ln_M_needCount, ln_M_axisCount, ln_M_valueCount, ln_M_needed, ln_M_axes, ln_M_values, ln_M_includes, ln_M_excludes, ln_M_pairCount, ln_M_pairName, ln_M_pairValue, ln_M_signCount, ln_M_signs, ln_M_signName, ln_M_signValue, ln_M_whose, ln_M_which, ln_M_pile, ln_M_reaches, ln_M_stepsOf, ln_M_known, ln_JB_needed, ln_JB_axes, ln_JS_used, ln_JS_stepWords, ln_PS_used, ln_PS_stepWords, ln_IN_rows, ln_EC_rows, ln_IR_names, ln_IR_values, ln_ER_names, ln_ER_values, ln_CD_kinds, ln_CD_names, ln_CD_values, ln_AX_values] <;> omega) | assumption) (fun c => (by simp (disch := omega) only [z_0, z_1, z_2, z_3, z_4, z_5, z_6, z_7, z_8, z_9, z_10, z_12, z_13, z_20, z_21, z_25, z_56, z_350, z_31, z_32, z_36, z_48, z_57, z_61, z_97, z_100, z_122, z_125, z_126, z_144, z_255, z_700, z_1000, z_1548, nI_add, pk_mul, pk_sub, nI_clamp, nI_leI, nI_ltI, nI_eq, z_in, z_m1, z_m1b, lg_cmp_eq, z_cmp, Decidable.not_not, w_ie, w_in, w_il, w_le, w_ln, w_li, w_ir, w_lr, x1] at c; exfalso; omega)) (fun _ => kb_67_12 (by first | with_reducible assumption | with_reducible exact kd_M | assumption) (by omega) ?_)
      rw [e8]
      refine s66 (by omega) H hP hj hJ.1 hc (by omega) (x3 i (by omega)) (hex.2 _ (getD_mem (by omega))).2 ?_
      cases hb : hA (cbL (P.jr j).2.1 (dgA (P.jr j).2.1 c)) (ex.getD i []) with
      | true =>
        rw [any_t (x := []) (i := i) (by omega) hb] at kk
        exact kb_67_26 (fun c => absurd c (by decide)) (fun _ => kb_67_29 kk)
      | false =>
        refine kb_67_26 (fun _ => kb_67_31 ?_) (fun c => absurd rfl c)
        rw [nI_1]
        exact ih (i + 1) (by omega) (lt_s hq hb)
  exact loop ex.length 0 (by omega) lt_0
end
/-- how often a pair stands in a row -/
def eqP (q p : Int64 × Int64) : Bool := decide (q.1 = p.1) && decide (q.2 = p.2)
theorem eqP_t {q p : Int64 × Int64} : eqP q p = true ↔ q = p := by
  unfold eqP
  rw [Bool.and_eq_true, decide_eq_true_iff, decide_eq_true_iff]
  exact ⟨fun r => Prod.ext r.1 r.2, fun r => by rw [r]; exact ⟨rfl, rfl⟩⟩
theorem fst_nd {ps : Pp} (h : (ps.map Prod.fst).Nodup) {i k : Nat} (hi : i < ps.length) (hk : k < ps.length) (e : (ps.getD i (0, 0)).1 = (ps.getD k (0, 0)).1) : i = k := by
  have g : ∀ a, a < ps.length → (ps.map Prod.fst).getD a 0 = (ps.getD a (0, 0)).1 := by
    intro a ha
    rw [List.getD_eq_getElem?_getD, List.getElem?_map, List.getD_eq_getElem?_getD, List.getElem?_eq_getElem ha]
    rfl
  have l : (ps.map Prod.fst).length = ps.length := List.length_map _
  exact getD_nd h (by omega) (by omega) (by rw [g i hi, g k hk, e])
theorem cT_one {qs : Pp} {q : Int64 × Int64} (h : (qs.map Prod.fst).Nodup) : ∀ n, n ≤ qs.length → (cT (fun k => eqP q (qs.getD k (0, 0))) n = 0 ∧ ∀ k, k < n → ¬ q = qs.getD k (0, 0)) ∨ (cT (fun k => eqP q (qs.getD k (0, 0))) n = 1 ∧ ∃ k, k < n ∧ q = qs.getD k (0, 0)) := by
  intro n
  induction n with
  | zero => exact fun _ => Or.inl ⟨rfl, fun k hk => absurd hk (Nat.not_lt_zero k)⟩
  | succ n ih =>
    intro hn
    have e : cT (fun k => eqP q (qs.getD k (0, 0))) (n + 1) = cT (fun k => eqP q (qs.getD k (0, 0))) n + (if eqP q (qs.getD n (0, 0)) then 1 else 0) := rfl
    rw [e]
    by_cases g : eqP q (qs.getD n (0, 0)) = true
    · have g2 := eqP_t.mp g
      rw [if_pos g]
      rcases ih (by omega) with ⟨a, b⟩ | ⟨a, k, hk, b⟩
      · exact Or.inr ⟨by omega, n, by omega, g2⟩
      · have := fst_nd h (show k < qs.length by omega) (show n < qs.length by omega) (by rw [← b, ← g2])
        omega
    · rw [if_neg g]
      rcases ih (by omega) with ⟨a, b⟩ | ⟨a, k, hk, b⟩
      · refine Or.inl ⟨by omega, fun k hk r => ?_⟩
        rcases Nat.lt_or_ge k n with w | w
        · exact b k w r
        · have : k = n := by omega
          subst this
          exact g (eqP_t.mpr r)
      · exact Or.inr ⟨by omega, k, by omega, b⟩
def oS (ps qs : Pp) : Nat → Nat
  | 0 => 0
  | i + 1 => oS ps qs i + cT (fun k => eqP (ps.getD i (0, 0)) (qs.getD k (0, 0))) qs.length
theorem oS_s {ps qs : Pp} {i : Nat} : oS ps qs (i + 1) = oS ps qs i + cT (fun k => eqP (ps.getD i (0, 0)) (qs.getD k (0, 0))) qs.length := rfl
theorem oS_le {ps qs : Pp} (h : rwOK qs) (hp : rwOK ps) : ∀ n, n ≤ ps.length → oS ps qs n ≤ n ∧ (oS ps qs n = n ↔ ∀ i, i < n → vO qs (ps.getD i (0, 0)).1 = (ps.getD i (0, 0)).2) := by
  intro n
  induction n with
  | zero => exact fun _ => ⟨Nat.le_refl 0, ⟨fun _ i hi => absurd hi (Nat.not_lt_zero i), fun _ => rfl⟩⟩
  | succ n ih =>
    intro hn
    obtain ⟨a, b⟩ := ih (by omega)
    have nz := (hp.2.2 _ (getD_mem (x := (0, 0)) (show n < ps.length by omega))).2.1
    rw [oS_s]
    rcases cT_one (q := ps.getD n (0, 0)) h.2.1 qs.length (Nat.le_refl _) with ⟨u, v⟩ | ⟨u, k, hk, v⟩
    · rw [u]
      refine ⟨by omega, ⟨fun r => absurd r (by omega), fun r => ?_⟩⟩
      have := r n (by omega)
      have m := (vO_in (show ¬ vO qs (ps.getD n (0, 0)).1 = 0 from by rw [this]; exact nz)).2
      rw [this] at m
      obtain ⟨k, hk, ek⟩ := mem_getD (x := (0, 0)) m
      exact absurd ek.symm (v k hk)
    · rw [u]
      have hit : vO qs (ps.getD n (0, 0)).1 = (ps.getD n (0, 0)).2 := vO_hit h.2.1 (by rw [v]; exact getD_mem hk)
      refine ⟨by omega, ⟨fun r i hi => ?_, fun r => ?_⟩⟩
      · rcases Nat.lt_or_ge i n with w | w
        · exact b.mp (by omega) i w
        · have : i = n := by omega
          subst this
          exact hit
      · have := b.mpr (fun i hi => r i (by omega))
        omega
theorem oS_sm {ps qs : Pp} (h : rwOK qs) (hp : rwOK ps) : (oS ps qs ps.length = ps.length ∧ oS ps qs ps.length = qs.length) ↔ sm qs ps = true := by
  obtain ⟨a, b⟩ := oS_le h hp ps.length (Nat.le_refl _)
  unfold sm
  rw [Bool.and_eq_true, decide_eq_true_iff, hA_t]
  constructor
  · intro ⟨r1, r2⟩
    refine ⟨by omega, fun q hq => ?_⟩
    obtain ⟨i, hi, e⟩ := mem_getD (x := (0, 0)) hq
    rw [← e]
    exact b.mp r1 i hi
  · intro ⟨r1, r2⟩
    have := b.mpr (fun i hi => r2 _ (getD_mem hi))
    omega
section
variable {d j kept : Nat} {h h0 : mj_H} {Q : Option Value → mj_H → Prop} {P : mj_P} {W : List Wt}
/-- areAlike -/
theorem s68 {s t : Nat} {ps qs : Pp} (H : mj_RS h) (hs : s < 96) (ht : t < 96) (hp : PrM h s ps) (hq : PrM h t qs) (rp' : rwOK ps) (rq : rwOK qs) (kk : Q (some (.int (b2i (sm qs ps)))) h) : mr_C mj_KK d 68 [.ref 573, .int (nI s), .int (nI t)] h Q := by
  show mr_M mj_KK d 68 0 [some (.ref 573), some (.int (nI s)), some (.int (nI t)), none, none, none] [] h Q
  obtain ⟨x1, x2, x3⟩ := hp
  obtain ⟨y1, y2, y3⟩ := hq
  refine kb_68_0 ?_
  have os := oS_sm rq rp'
  have bnd := fun n hn => (oS_le rq rp' n hn).1
  have outer : ∀ n i, i + n = ps.length → mr_M mj_KK d 68 5 [some (.ref 573), some (.int (nI s)), some (.int (nI t)), some (.int (nI (oS ps qs i))), some (.int (nI i)), none] [] h Q := by
    intro n
    induction n with
    | zero =>
      intro i hi
      have e : i = ps.length := by omega
      subst e
      have b := bnd ps.length (Nat.le_refl _)
      refine kb_68_5 (by first | with_reducible assumption | with_reducible exact kd_M | assumption) (by first | with_reducible assumption | exact rf_M_pairCount H | assumption) (by first | with_reducible assumption | with_reducible exact kd_M_pairCount | assumption) (by first | with_reducible assumption | (simp (disch := omega) only [z_0, z_1, z_2, z_3, z_4, z_5, z_6, z_7, z_8, z_9, z_10, z_12, z_13, z_20, z_21, z_25, z_56, z_350, z_31, z_32, z_36, z_48, z_57, z_61, z_97, z_100, z_122, z_125, z_126, z_144, z_255, z_700, z_1000, z_1548, nI_add, pk_mul, pk_sub, nI_clamp, nI_leI, nI_ltI, nI_eq, z_in, z_m1, z_m1b, lg_cmp_eq, z_cmp, Decidable.not_not, w_ie, w_in, w_il, w_le, w_ln, w_li, w_ir, w_lr, ln_P_tape, ln_W_text, ln_W_starts, ln_W_ends, ln_W_lines, ln_W_names, ln_W_values, ln_PL_jobs, ln_PL_parts, ln_FT_reached, ln_EX_jobs, ln_EX_codes, ln_CB_names, ln_CB_values, ln_M_tape, ln_M_source, ln_M_wordAt, ln_M_wordEnd, ln_M_names, ln_M_itemCount, ln_M_itemFirst, ln_M_itemWords, ln_M_itemUses, ln_M_keptAt, ln_M_keptEnd, ln_M_needCount, ln_M_axisCount, ln_M_valueCount, ln_M_needed, ln_M_axes, ln_M_values, ln_M_includes, ln_M_excludes, ln_M_pairCount, ln_M_pairName, ln_M_pairValue, ln_M_signCount, ln_M_signs, ln_M_signName, ln_M_signValue, ln_M_whose, ln_M_which, ln_M_pile, ln_M_reaches, ln_M_stepsOf, ln_M_known, ln_JB_needed, ln_JB_axes, ln_JS_used, ln_JS_stepWords, ln_PS_used, ln_PS_stepWords, ln_IN_rows, ln_EC_rows, ln_IR_names, ln_IR_values, ln_ER_names, ln_ER_values, ln_CD_kinds, ln_CD_names, ln_CD_values, ln_AX_values] <;> omega) | assumption) (fun _ => kb_68_102 (by first | with_reducible assumption | with_reducible exact kd_M | assumption) (by first | with_reducible assumption | exact rf_M_pairCount H | assumption) (by first | with_reducible assumption | with_reducible exact kd_M_pairCount | assumption) (by first | with_reducible assumption | (simp (disch := omega) only [z_0, z_1, z_2, z_3, z_4, z_5, z_6, z_7, z_8, z_9, z_10, z_12, z_13, z_20, z_21, z_25, z_56, z_350, z_31, z_32, z_36, z_48, z_57, z_61, z_97, z_100, z_122, z_125, z_126, z_144, z_255, z_700, z_1000, z_1548, nI_add, pk_mul, pk_sub, nI_clamp, nI_leI, nI_ltI, nI_eq, z_in, z_m1, z_m1b, lg_cmp_eq, z_cmp, Decidable.not_not, w_ie, w_in, w_il, w_le, w_ln, w_li, w_ir, w_lr, ln_P_tape, ln_W_text, ln_W_starts, ln_W_ends, ln_W_lines, ln_W_names, ln_W_values, ln_PL_jobs, ln_PL_parts, ln_FT_reached, ln_EX_jobs, ln_EX_codes, ln_CB_names, ln_CB_values, ln_M_tape, ln_M_source, ln_M_wordAt, ln_M_wordEnd, ln_M_names, ln_M_itemCount, ln_M_itemFirst, ln_M_itemWords, ln_M_itemUses, ln_M_keptAt, ln_M_keptEnd, ln_M_needCount, ln_M_axisCount, ln_M_valueCount, ln_M_needed, ln_M_axes, ln_M_values, ln_M_includes, ln_M_excludes, ln_M_pairCount, ln_M_pairName, ln_M_pairValue, ln_M_signCount, ln_M_signs, ln_M_signName, ln_M_signValue, ln_M_whose, ln_M_which, ln_M_pile, ln_M_reaches, ln_M_stepsOf, ln_M_known, ln_JB_needed, ln_JB_axes, ln_JS_used, ln_JS_stepWords, ln_PS_used, ln_PS_stepWords, ln_IN_rows, ln_EC_rows, ln_IR_names, ln_IR_values, ln_ER_names, ln_ER_values, ln_CD_kinds, ln_CD_names, ln_CD_values, ln_AX_values] <;> omega) | assumption) (fun c => kb_68_126 (kb_68_127 (by first | assumption | exact b2i_01 _ | exact Or.inl rfl | exact Or.inr rfl) ?_)) (fun c => kb_68_112 (by first | with_reducible assumption | with_reducible exact kd_M | assumption) (by first | with_reducible assumption | exact rf_M_pairCount H | assumption) (by first | with_reducible assumption | with_reducible exact kd_M_pairCount | assumption) (by first | with_reducible assumption | (simp (disch := omega) only [z_0, z_1, z_2, z_3, z_4, z_5, z_6, z_7, z_8, z_9, z_10, z_12, z_13, z_20, z_21, z_25, z_56, z_350, z_31, z_32, z_36, z_48, z_57, z_61, z_97, z_100, z_122, z_125, z_126, z_144, z_255, z_700, z_1000, z_1548, nI_add, pk_mul, pk_sub, nI_clamp, nI_leI, nI_ltI, nI_eq, z_in, z_m1, z_m1b, lg_cmp_eq, z_cmp, Decidable.not_not, w_ie, w_in, w_il, w_le, w_ln, w_li, w_ir, w_lr, ln_P_tape, ln_W_text, ln_W_starts, ln_W_ends, ln_W_lines, ln_W_names, ln_W_values, ln_PL_jobs, ln_PL_parts, ln_FT_reached, ln_EX_jobs, ln_EX_codes, ln_CB_names, ln_CB_values, ln_M_tape, ln_M_source, ln_M_wordAt, ln_M_wordEnd, ln_M_names, ln_M_itemCount, ln_M_itemFirst, ln_M_itemWords, ln_M_itemUses, ln_M_keptAt, ln_M_keptEnd, ln_M_needCount, ln_M_axisCount, ln_M_valueCount, ln_M_needed, ln_M_axes, ln_M_values, ln_M_includes, ln_M_excludes, ln_M_pairCount, ln_M_pairName, ln_M_pairValue, ln_M_signCount, ln_M_signs, ln_M_signName, ln_M_signValue, ln_M_whose, ln_M_which, ln_M_pile, ln_M_reaches, ln_M_stepsOf, ln_M_known, ln_JB_needed, ln_JB_axes, ln_JS_used, ln_JS_stepWords, ln_PS_used, ln_PS_stepWords, ln_IN_rows, ln_EC_rows, ln_IR_names, ln_IR_values, ln_ER_names, ln_ER_values, ln_CD_kinds, ln_CD_names, ln_CD_values, ln_AX_values] <;> omega) | assumption) (fun c2 => kb_68_126 (kb_68_127 (by first | assumption | exact b2i_01 _ | exact Or.inl rfl | exact Or.inr rfl) ?_)) (fun c2 => kb_68_122 (kb_68_127 (by first | assumption | exact b2i_01 _ | exact Or.inl rfl | exact Or.inr rfl) ?_)))) (fun c => (by simp (disch := omega) only [z_0, z_1, z_2, z_3, z_4, z_5, z_6, z_7, z_8, z_9, z_10, z_12, z_13, z_20, z_21, z_25, z_56, z_350, z_31, z_32, z_36, z_48, z_57, z_61, z_97, z_100, z_122, z_125, z_126, z_144, z_255, z_700, z_1000, z_1548, nI_add, pk_mul, pk_sub, nI_clamp, nI_leI, nI_ltI, nI_eq, z_in, z_m1, z_m1b, lg_cmp_eq, z_cmp, Decidable.not_not, w_ie, w_in, w_il, w_le, w_ln, w_li, w_ir, w_lr, x1] at c; exfalso; omega))
      · simp (disch := omega) only [z_0, z_1, z_2, z_3, z_4, z_5, z_6, z_7, z_8, z_9, z_10, z_12, z_13, z_20, z_21, z_25, z_56, z_350, z_31, z_32, z_36, z_48, z_57, z_61, z_97, z_100, z_122, z_125, z_126, z_144, z_255, z_700, z_1000, z_1548, nI_add, pk_mul, pk_sub, nI_clamp, nI_leI, nI_ltI, nI_eq, z_in, z_m1, z_m1b, lg_cmp_eq, z_cmp, Decidable.not_not, w_ie, w_in, w_il, w_le, w_ln, w_li, w_ir, w_lr, x1] at c
        have : sm qs ps = false := by
          cases hb : sm qs ps with
          | false => rfl
          | true => exact absurd (os.mpr hb).1 c
        rw [this] at kk
        exact kk
      · simp (disch := omega) only [z_0, z_1, z_2, z_3, z_4, z_5, z_6, z_7, z_8, z_9, z_10, z_12, z_13, z_20, z_21, z_25, z_56, z_350, z_31, z_32, z_36, z_48, z_57, z_61, z_97, z_100, z_122, z_125, z_126, z_144, z_255, z_700, z_1000, z_1548, nI_add, pk_mul, pk_sub, nI_clamp, nI_leI, nI_ltI, nI_eq, z_in, z_m1, z_m1b, lg_cmp_eq, z_cmp, Decidable.not_not, w_ie, w_in, w_il, w_le, w_ln, w_li, w_ir, w_lr, y1] at c2
        have : sm qs ps = false := by
          cases hb : sm qs ps with
          | false => rfl
          | true => exact absurd (os.mpr hb).2 c2
        rw [this] at kk
        exact kk
      · simp (disch := omega) only [z_0, z_1, z_2, z_3, z_4, z_5, z_6, z_7, z_8, z_9, z_10, z_12, z_13, z_20, z_21, z_25, z_56, z_350, z_31, z_32, z_36, z_48, z_57, z_61, z_97, z_100, z_122, z_125, z_126, z_144, z_255, z_700, z_1000, z_1548, nI_add, pk_mul, pk_sub, nI_clamp, nI_leI, nI_ltI, nI_eq, z_in, z_m1, z_m1b, lg_cmp_eq, z_cmp, Decidable.not_not, w_ie, w_in, w_il, w_le, w_ln, w_li, w_ir, w_lr, x1] at c
        simp (disch := omega) only [z_0, z_1, z_2, z_3, z_4, z_5, z_6, z_7, z_8, z_9, z_10, z_12, z_13, z_20, z_21, z_25, z_56, z_350, z_31, z_32, z_36, z_48, z_57, z_61, z_97, z_100, z_122, z_125, z_126, z_144, z_255, z_700, z_1000, z_1548, nI_add, pk_mul, pk_sub, nI_clamp, nI_leI, nI_ltI, nI_eq, z_in, z_m1, z_m1b, lg_cmp_eq, z_cmp, Decidable.not_not, w_ie, w_in, w_il, w_le, w_ln, w_li, w_ir, w_lr, y1] at c2
        rw [os.mp ⟨c, c2⟩] at kk
        exact kk
    | succ n ih =>
      intro i hi
      obtain ⟨e0, e1⟩ := x3 i (by omega)
      have b := bnd i (by omega)
      refine kb_68_5 (by first | with_reducible assumption | with_reducible exact kd_M | assumption) (by first | with_reducible assumption | exact rf_M_pairCount H | assumption) (by first | with_reducible assumption | with_reducible exact kd_M_pairCount | assumption) (by first | with_reducible assumption | (simp (disch := omega) only [z_0, z_1, z_2, z_3, z_4, z_5, z_6, z_7, z_8, z_9, z_10, z_12, z_13, z_20, z_21, z_25, z_56, z_350, z_31, z_32, z_36, z_48, z_57, z_61, z_97, z_100, z_122, z_125, z_126, z_144, z_255, z_700, z_1000, z_1548, nI_add, pk_mul, pk_sub, nI_clamp, nI_leI, nI_ltI, nI_eq, z_in, z_m1, z_m1b, lg_cmp_eq, z_cmp, Decidable.not_not, w_ie, w_in, w_il, w_le, w_ln, w_li, w_ir, w_lr, ln_P_tape, ln_W_text, ln_W_starts, ln_W_ends, ln_W_lines, ln_W_names, ln_W_values, ln_PL_jobs, ln_PL_parts, ln_FT_reached, ln_EX_jobs, ln_EX_codes, ln_CB_names, ln_CB_values, ln_M_tape, ln_M_source, ln_M_wordAt, ln_M_wordEnd, ln_M_names, ln_M_itemCount, ln_M_itemFirst, ln_M_itemWords, ln_M_itemUses, ln_M_keptAt, ln_M_keptEnd, ln_M_needCount, ln_M_axisCount, ln_M_valueCount, ln_M_needed, ln_M_axes, ln_M_values, ln_M_includes, ln_M_excludes, ln_M_pairCount, ln_M_pairName, ln_M_pairValue, ln_M_signCount, ln_M_signs, ln_M_signName, ln_M_signValue, ln_M_whose, ln_M_which, ln_M_pile, ln_M_reaches, ln_M_stepsOf, ln_M_known, ln_JB_needed, ln_JB_axes, ln_JS_used, ln_JS_stepWords, ln_PS_used, ln_PS_stepWords, ln_IN_rows, ln_EC_rows, ln_IR_names, ln_IR_values, ln_ER_names, ln_ER_values, ln_CD_kinds, ln_CD_names, ln_CD_values, ln_AX_values] <;> omega) | assumption) (fun c => (by simp (disch := omega) only [z_0, z_1, z_2, z_3, z_4, z_5, z_6, z_7, z_8, z_9, z_10, z_12, z_13, z_20, z_21, z_25, z_56, z_350, z_31, z_32, z_36, z_48, z_57, z_61, z_97, z_100, z_122, z_125, z_126, z_144, z_255, z_700, z_1000, z_1548, nI_add, pk_mul, pk_sub, nI_clamp, nI_leI, nI_ltI, nI_eq, z_in, z_m1, z_m1b, lg_cmp_eq, z_cmp, Decidable.not_not, w_ie, w_in, w_il, w_le, w_ln, w_li, w_ir, w_lr, x1] at c; exfalso; omega)) (fun _ => kb_68_16 ?_)
      have inner : ∀ m k, k + m = qs.length → mr_M mj_KK d 68 19 [some (.ref 573), some (.int (nI s)), some (.int (nI t)), some (.int (nI (oS ps qs i + cT (fun k => eqP (ps.getD i (0, 0)) (qs.getD k (0, 0))) k))), some (.int (nI i)), some (.int (nI k))] [] h Q := by
        intro m
        induction m with
        | zero =>
          intro k hk
          have e : k = qs.length := by omega
          subst e
          refine kb_68_19 (by first | with_reducible assumption | with_reducible exact kd_M | assumption) (by first | with_reducible assumption | exact rf_M_pairCount H | assumption) (by first | with_reducible assumption | with_reducible exact kd_M_pairCount | assumption) (by first | with_reducible assumption | (simp (disch := omega) only [z_0, z_1, z_2, z_3, z_4, z_5, z_6, z_7, z_8, z_9, z_10, z_12, z_13, z_20, z_21, z_25, z_56, z_350, z_31, z_32, z_36, z_48, z_57, z_61, z_97, z_100, z_122, z_125, z_126, z_144, z_255, z_700, z_1000, z_1548, nI_add, pk_mul, pk_sub, nI_clamp, nI_leI, nI_ltI, nI_eq, z_in, z_m1, z_m1b, lg_cmp_eq, z_cmp, Decidable.not_not, w_ie, w_in, w_il, w_le, w_ln, w_li, w_ir, w_lr, ln_P_tape, ln_W_text, ln_W_starts, ln_W_ends, ln_W_lines, ln_W_names, ln_W_values, ln_PL_jobs, ln_PL_parts, ln_FT_reached, ln_EX_jobs, ln_EX_codes, ln_CB_names, ln_CB_values, ln_M_tape, ln_M_source, ln_M_wordAt, ln_M_wordEnd, ln_M_names, ln_M_itemCount, ln_M_itemFirst, ln_M_itemWords, ln_M_itemUses, ln_M_keptAt, ln_M_keptEnd, ln_M_needCount, ln_M_axisCount, ln_M_valueCount, ln_M_needed, ln_M_axes, ln_M_values, ln_M_includes, ln_M_excludes, ln_M_pairCount, ln_M_pairName, ln_M_pairValue, ln_M_signCount, ln_M_signs, ln_M_signName, ln_M_signValue, ln_M_whose, ln_M_which, ln_M_pile, ln_M_reaches, ln_M_stepsOf, ln_M_known, ln_JB_needed, ln_JB_axes, ln_JS_used, ln_JS_stepWords, ln_PS_used, ln_PS_stepWords, ln_IN_rows, ln_EC_rows, ln_IR_names, ln_IR_values, ln_ER_names, ln_ER_values, ln_CD_kinds, ln_CD_names, ln_CD_values, ln_AX_values] <;> omega) | assumption) (fun _ => kb_68_96 ?_) (fun c => (by simp (disch := omega) only [z_0, z_1, z_2, z_3, z_4, z_5, z_6, z_7, z_8, z_9, z_10, z_12, z_13, z_20, z_21, z_25, z_56, z_350, z_31, z_32, z_36, z_48, z_57, z_61, z_97, z_100, z_122, z_125, z_126, z_144, z_255, z_700, z_1000, z_1548, nI_add, pk_mul, pk_sub, nI_clamp, nI_leI, nI_ltI, nI_eq, z_in, z_m1, z_m1b, lg_cmp_eq, z_cmp, Decidable.not_not, w_ie, w_in, w_il, w_le, w_ln, w_li, w_ir, w_lr, y1] at c; exfalso; omega))
          rw [nI_1]
          exact ih (i + 1) (by omega)
        | succ m ih2 =>
          intro k hk
          obtain ⟨f0, f1⟩ := y3 k (by omega)
          have es : cT (fun k => eqP (ps.getD i (0, 0)) (qs.getD k (0, 0))) (k + 1) = cT (fun k => eqP (ps.getD i (0, 0)) (qs.getD k (0, 0))) k + (if eqP (ps.getD i (0, 0)) (qs.getD k (0, 0)) then 1 else 0) := rfl
          have nx : ∀ z : Nat, z = (if eqP (ps.getD i (0, 0)) (qs.getD k (0, 0)) then 1 else 0) → mr_M mj_KK d 68 88 [some (.ref 573), some (.int (nI s)), some (.int (nI t)), none, some (.int (nI i)), some (.int (nI k))] [.int (nI z), .int (nI (oS ps qs i + cT (fun k => eqP (ps.getD i (0, 0)) (qs.getD k (0, 0))) k))] h Q := by
            intro z hz
            refine kb_68_88 ?_
            rw [nI_add, nI_1]
            have := ih2 (k + 1) (by omega)
            rw [es, ← hz, ← Nat.add_assoc] at this
            exact this
          refine kb_68_19 (by first | with_reducible assumption | with_reducible exact kd_M | assumption) (by first | with_reducible assumption | exact rf_M_pairCount H | assumption) (by first | with_reducible assumption | with_reducible exact kd_M_pairCount | assumption) (by first | with_reducible assumption | (simp (disch := omega) only [z_0, z_1, z_2, z_3, z_4, z_5, z_6, z_7, z_8, z_9, z_10, z_12, z_13, z_20, z_21, z_25, z_56, z_350, z_31, z_32, z_36, z_48, z_57, z_61, z_97, z_100, z_122, z_125, z_126, z_144, z_255, z_700, z_1000, z_1548, nI_add, pk_mul, pk_sub, nI_clamp, nI_leI, nI_ltI, nI_eq, z_in, z_m1, z_m1b, lg_cmp_eq, z_cmp, Decidable.not_not, w_ie, w_in, w_il, w_le, w_ln, w_li, w_ir, w_lr, ln_P_tape, ln_W_text, ln_W_starts, ln_W_ends, ln_W_lines, ln_W_names, ln_W_values, ln_PL_jobs, ln_PL_parts, ln_FT_reached, ln_EX_jobs, ln_EX_codes, ln_CB_names, ln_CB_values, ln_M_tape, ln_M_source, ln_M_wordAt, ln_M_wordEnd, ln_M_names, ln_M_itemCount, ln_M_itemFirst, ln_M_itemWords, ln_M_itemUses, ln_M_keptAt, ln_M_keptEnd, ln_M_needCount, ln_M_axisCount, ln_M_valueCount, ln_M_needed, ln_M_axes, ln_M_values, ln_M_includes, ln_M_excludes, ln_M_pairCount, ln_M_pairName, ln_M_pairValue, ln_M_signCount, ln_M_signs, ln_M_signName, ln_M_signValue, ln_M_whose, ln_M_which, ln_M_pile, ln_M_reaches, ln_M_stepsOf, ln_M_known, ln_JB_needed, ln_JB_axes, ln_JS_used, ln_JS_stepWords, ln_PS_used, ln_PS_stepWords, ln_IN_rows, ln_EC_rows, ln_IR_names, ln_IR_values, ln_ER_names, ln_ER_values, ln_CD_kinds, ln_CD_names, ln_CD_values, ln_AX_values] <;> omega) | assumption) (fun c => (by simp (disch := omega) only [z_0, z_1, z_2, z_3, z_4, z_5, z_6, z_7, z_8, z_9, z_10, z_12, z_13, z_20, z_21, z_25, z_56, z_350, z_31, z_32, z_36, z_48, z_57, z_61, z_97, z_100, z_122, z_125, z_126, z_144, z_255, z_700, z_1000, z_1548, nI_add, pk_mul, pk_sub, nI_clamp, nI_leI, nI_ltI, nI_eq, z_in, z_m1, z_m1b, lg_cmp_eq, z_cmp, Decidable.not_not, w_ie, w_in, w_il, w_le, w_ln, w_li, w_ir, w_lr, y1] at c; exfalso; omega)) (fun _ => kb_68_30 (by first | with_reducible assumption | with_reducible exact kd_M | assumption) (by first | with_reducible assumption | exact rf_M_pairName H | assumption) (by first | with_reducible assumption | with_reducible exact kd_M_pairName | assumption) (by first | with_reducible assumption | (simp (disch := omega) only [z_0, z_1, z_2, z_3, z_4, z_5, z_6, z_7, z_8, z_9, z_10, z_12, z_13, z_20, z_21, z_25, z_56, z_350, z_31, z_32, z_36, z_48, z_57, z_61, z_97, z_100, z_122, z_125, z_126, z_144, z_255, z_700, z_1000, z_1548, nI_add, pk_mul, pk_sub, nI_clamp, nI_leI, nI_ltI, nI_eq, z_in, z_m1, z_m1b, lg_cmp_eq, z_cmp, Decidable.not_not, w_ie, w_in, w_il, w_le, w_ln, w_li, w_ir, w_lr, ln_P_tape, ln_W_text, ln_W_starts, ln_W_ends, ln_W_lines, ln_W_names, ln_W_values, ln_PL_jobs, ln_PL_parts, ln_FT_reached, ln_EX_jobs, ln_EX_codes, ln_CB_names, ln_CB_values, ln_M_tape, ln_M_source, ln_M_wordAt, ln_M_wordEnd, ln_M_names, ln_M_itemCount, ln_M_itemFirst, ln_M_itemWords, ln_M_itemUses, ln_M_keptAt, ln_M_keptEnd, ln_M_needCount, ln_M_axisCount, ln_M_valueCount, ln_M_needed, ln_M_axes, ln_M_values, ln_M_includes, ln_M_excludes, ln_M_pairCount, ln_M_pairName, ln_M_pairValue, ln_M_signCount, ln_M_signs, ln_M_signName, ln_M_signValue, ln_M_whose, ln_M_which, ln_M_pile, ln_M_reaches, ln_M_stepsOf, ln_M_known, ln_JB_needed, ln_JB_axes, ln_JS_used, ln_JS_stepWords, ln_PS_used, ln_PS_stepWords, ln_IN_rows, ln_EC_rows, ln_IR_names, ln_IR_values, ln_ER_names, ln_ER_values, ln_CD_kinds, ln_CD_names, ln_CD_values, ln_AX_values] <;> omega) | assumption) (by first | with_reducible assumption | (simp (disch := omega) only [z_0, z_1, z_2, z_3, z_4, z_5, z_6, z_7, z_8, z_9, z_10, z_12, z_13, z_20, z_21, z_25, z_56, z_350, z_31, z_32, z_36, z_48, z_57, z_61, z_97, z_100, z_122, z_125, z_126, z_144, z_255, z_700, z_1000, z_1548, nI_add, pk_mul, pk_sub, nI_clamp, nI_leI, nI_ltI, nI_eq, z_in, z_m1, z_m1b, lg_cmp_eq, z_cmp, Decidable.not_not, w_ie, w_in, w_il, w_le, w_ln, w_li, w_ir, w_lr, ln_P_tape, ln_W_text, ln_W_starts, ln_W_ends, ln_W_lines, ln_W_names, ln_W_values, ln_PL_jobs, ln_PL_parts, ln_FT_reached, ln_EX_jobs, ln_EX_codes, ln_CB_names, ln_CB_values, ln_M_tape, ln_M_source, ln_M_wordAt, ln_M_wordEnd, ln_M_names, ln_M_itemCount, ln_M_itemFirst, ln_M_itemWords, ln_M_itemUses, ln_M_keptAt, ln_M_keptEnd, ln_M_needCount, ln_M_axisCount, ln_M_valueCount, ln_M_needed, ln_M_axes, ln_M_values, ln_M_includes, ln_M_excludes, ln_M_pairCount, ln_M_pairName, ln_M_pairValue, ln_M_signCount, ln_M_signs, ln_M_signName, ln_M_signValue, ln_M_whose, ln_M_which, ln_M_pile, ln_M_reaches, ln_M_stepsOf, ln_M_known, ln_JB_needed, ln_JB_axes, ln_JS_used, ln_JS_stepWords, ln_PS_used, ln_PS_stepWords, ln_IN_rows, ln_EC_rows, ln_IR_names, ln_IR_values, ln_ER_names, ln_ER_values, ln_CD_kinds, ln_CD_names, ln_CD_values, ln_AX_values] <;> omega) | assumption) (fun c => kb_68_87 (nx 0 ?_)) (fun c => kb_68_57 (by first | with_reducible assumption | with_reducible exact kd_M | assumption) (by first | with_reducible assumption | exact rf_M_pairValue H | assumption) (by first | with_reducible assumption | with_reducible exact kd_M_pairValue | assumption) (by first | with_reducible assumption | (simp (disch := omega) only [z_0, z_1, z_2, z_3, z_4, z_5, z_6, z_7, z_8, z_9, z_10, z_12, z_13, z_20, z_21, z_25, z_56, z_350, z_31, z_32, z_36, z_48, z_57, z_61, z_97, z_100, z_122, z_125, z_126, z_144, z_255, z_700, z_1000, z_1548, nI_add, pk_mul, pk_sub, nI_clamp, nI_leI, nI_ltI, nI_eq, z_in, z_m1, z_m1b, lg_cmp_eq, z_cmp, Decidable.not_not, w_ie, w_in, w_il, w_le, w_ln, w_li, w_ir, w_lr, ln_P_tape, ln_W_text, ln_W_starts, ln_W_ends, ln_W_lines, ln_W_names, ln_W_values, ln_PL_jobs, ln_PL_parts, ln_FT_reached, ln_EX_jobs, ln_EX_codes, ln_CB_names, ln_CB_values, ln_M_tape, ln_M_source, ln_M_wordAt, ln_M_wordEnd, ln_M_names, ln_M_itemCount, ln_M_itemFirst, ln_M_itemWords, ln_M_itemUses, ln_M_keptAt, ln_M_keptEnd, ln_M_needCount, ln_M_axisCount, ln_M_valueCount, ln_M_needed, ln_M_axes, ln_M_values, ln_M_includes, ln_M_excludes, ln_M_pairCount, ln_M_pairName, ln_M_pairValue, ln_M_signCount, ln_M_signs, ln_M_signName, ln_M_signValue, ln_M_whose, ln_M_which, ln_M_pile, ln_M_reaches, ln_M_stepsOf, ln_M_known, ln_JB_needed, ln_JB_axes, ln_JS_used, ln_JS_stepWords, ln_PS_used, ln_PS_stepWords, ln_IN_rows, ln_EC_rows, ln_IR_names, ln_IR_values, ln_ER_names, ln_ER_values, ln_CD_kinds, ln_CD_names, ln_CD_values, ln_AX_values] <;> omega) | assumption) (by first | with_reducible assumption | (simp (disch := omega) only [z_0, z_1, z_2, z_3, z_4, z_5, z_6, z_7, z_8, z_9, z_10, z_12, z_13, z_20, z_21, z_25, z_56, z_350, z_31, z_32, z_36, z_48, z_57, z_61, z_97, z_100, z_122, z_125, z_126, z_144, z_255, z_700, z_1000, z_1548, nI_add, pk_mul, pk_sub, nI_clamp, nI_leI, nI_ltI, nI_eq, z_in, z_m1, z_m1b, lg_cmp_eq, z_cmp, Decidable.not_not, w_ie, w_in, w_il, w_le, w_ln, w_li, w_ir, w_lr, ln_P_tape, ln_W_text, ln_W_starts, ln_W_ends, ln_W_lines, ln_W_names, ln_W_values, ln_PL_jobs, ln_PL_parts, ln_FT_reached, ln_EX_jobs, ln_EX_codes, ln_CB_names, ln_CB_values, ln_M_tape, ln_M_source, ln_M_wordAt, ln_M_wordEnd, ln_M_names, ln_M_itemCount, ln_M_itemFirst, ln_M_itemWords, ln_M_itemUses, ln_M_keptAt, ln_M_keptEnd, ln_M_needCount, ln_M_axisCount, ln_M_valueCount, ln_M_needed, ln_M_axes, ln_M_values, ln_M_includes, ln_M_excludes, ln_M_pairCount, ln_M_pairName, ln_M_pairValue, ln_M_signCount, ln_M_signs, ln_M_signName, ln_M_signValue, ln_M_whose, ln_M_which, ln_M_pile, ln_M_reaches, ln_M_stepsOf, ln_M_known, ln_JB_needed, ln_JB_axes, ln_JS_used, ln_JS_stepWords, ln_PS_used, ln_PS_stepWords, ln_IN_rows, ln_EC_rows, ln_IR_names, ln_IR_values, ln_ER_names, ln_ER_values, ln_CD_kinds, ln_CD_names, ln_CD_values, ln_AX_values] <;> omega) | assumption) (fun c2 => kb_68_87 (nx 0 ?_)) (fun c2 => kb_68_83 (nx 1 ?_))))
          · simp (disch := omega) only [z_0, z_1, z_2, z_3, z_4, z_5, z_6, z_7, z_8, z_9, z_10, z_12, z_13, z_20, z_21, z_25, z_56, z_350, z_31, z_32, z_36, z_48, z_57, z_61, z_97, z_100, z_122, z_125, z_126, z_144, z_255, z_700, z_1000, z_1548, nI_add, pk_mul, pk_sub, nI_clamp, nI_leI, nI_ltI, nI_eq, z_in, z_m1, z_m1b, lg_cmp_eq, z_cmp, Decidable.not_not, w_ie, w_in, w_il, w_le, w_ln, w_li, w_ir, w_lr, e0, f0] at c
            rw [if_neg (fun r => c (congrArg Prod.fst (eqP_t.mp r)))]
          · simp (disch := omega) only [z_0, z_1, z_2, z_3, z_4, z_5, z_6, z_7, z_8, z_9, z_10, z_12, z_13, z_20, z_21, z_25, z_56, z_350, z_31, z_32, z_36, z_48, z_57, z_61, z_97, z_100, z_122, z_125, z_126, z_144, z_255, z_700, z_1000, z_1548, nI_add, pk_mul, pk_sub, nI_clamp, nI_leI, nI_ltI, nI_eq, z_in, z_m1, z_m1b, lg_cmp_eq, z_cmp, Decidable.not_not, w_ie, w_in, w_il, w_le, w_ln, w_li, w_ir, w_lr, e1, f1] at c2
            rw [if_neg (fun r => c2 (congrArg Prod.snd (eqP_t.mp r)))]
          · simp (disch := omega) only [z_0, z_1, z_2, z_3, z_4, z_5, z_6, z_7, z_8, z_9, z_10, z_12, z_13, z_20, z_21, z_25, z_56, z_350, z_31, z_32, z_36, z_48, z_57, z_61, z_97, z_100, z_122, z_125, z_126, z_144, z_255, z_700, z_1000, z_1548, nI_add, pk_mul, pk_sub, nI_clamp, nI_leI, nI_ltI, nI_eq, z_in, z_m1, z_m1b, lg_cmp_eq, z_cmp, Decidable.not_not, w_ie, w_in, w_il, w_le, w_ln, w_li, w_ir, w_lr, e0, f0] at c
            simp (disch := omega) only [z_0, z_1, z_2, z_3, z_4, z_5, z_6, z_7, z_8, z_9, z_10, z_12, z_13, z_20, z_21, z_25, z_56, z_350, z_31, z_32, z_36, z_48, z_57, z_61, z_97, z_100, z_122, z_125, z_126, z_144, z_255, z_700, z_1000, z_1548, nI_add, pk_mul, pk_sub, nI_clamp, nI_leI, nI_ltI, nI_eq, z_in, z_m1, z_m1b, lg_cmp_eq, z_cmp, Decidable.not_not, w_ie, w_in, w_il, w_le, w_ln, w_li, w_ir, w_lr, e1, f1] at c2
            rw [if_pos (eqP_t.mpr (Prod.ext c c2))]
      exact inner qs.length 0 (by omega)
  exact outer ps.length 0 (by omega)
/-- isThere -/
theorem s69 {i : Nat} (hd : 4 ≤ d) (H : mj_RS h) (hP : PlM h W kept P) (hj : j < P.nj) (hJ : JV (P.jr j)) (hi : i < (P.jr j).2.2.1.length) (kk : Q (some (.int (b2i (rpI (P.jr j) i)))) h) : mr_C mj_KK d 69 [.ref 573, .int (nI j), .int (nI i)] h Q := by
  show mr_M mj_KK d 69 0 [some (.ref 573), some (.int (nI j)), some (.int (nI i)), none, none] [] h Q
  have hj12 : j < 12 := by have := hP.1.2.1; omega
  obtain ⟨x1, x2, x3⟩ := incM hP hj
  obtain ⟨z1, z2, -⟩ := axM hP hj
  have hrw : ∀ r, r < (P.jr j).2.2.1.length → ¬ (P.jr j).2.2.1.getD r [] = [] ∧ rwOK ((P.jr j).2.2.1.getD r []) := fun r hr => hJ.2.1.2 _ (getD_mem hr)
  have x3 : ∀ r, r < (P.jr j).2.2.1.length → PrM h (8 * j + r) ((P.jr j).2.2.1.getD r []) := fun r hr => by have := x3 r hr; rw [Nat.add_zero] at this; exact this
  have e8 : ∀ r, (8 : Int32) * nI j + nI r = nI (8 * j + r) := fun r => by rw [show (8 : Int32) = nI 8 from rfl, pk_mul, nI_add]
  have op := of_prod hJ (hrw i hi).2 (hrw i hi).1 (by omega)
  have p125 := pdA_le hJ.1
  have pdp := pdA_prA (J := P.jr j)
  unfold rpI at kk
  refine kb_69_0 ?_
  rw [e8]
  obtain ⟨y1, y2, -⟩ := id (x3 i hi)
  have second : aT (fun k => sm ((P.jr j).2.2.1.getD k []) ((P.jr j).2.2.1.getD i [])) i = false → ∀ n c, c + n = pdA (P.jr j) → (∀ c2, c2 < c → ¬ (((P.jr j).2.2.1.getD i []).length = (P.jr j).2.1.length ∧ hA (cbL (P.jr j).2.1 (dgA (P.jr j).2.1 c2)) ((P.jr j).2.2.1.getD i []) = true ∧ xc (P.jr j).2.2.2.1 (cbL (P.jr j).2.1 (dgA (P.jr j).2.1 c2)) = false)) → mr_M mj_KK d 69 42 [some (.ref 573), some (.int (nI j)), none, some (.int (nI (8 * j + i))), some (.int (nI c))] [] h Q := by
    intro h1 n
    rw [h1, Bool.false_or] at kk
    have no : (∀ c2, c2 < pdA (P.jr j) → ¬ (((P.jr j).2.2.1.getD i []).length = (P.jr j).2.1.length ∧ hA (cbL (P.jr j).2.1 (dgA (P.jr j).2.1 c2)) ((P.jr j).2.2.1.getD i []) = true ∧ xc (P.jr j).2.2.2.1 (cbL (P.jr j).2.1 (dgA (P.jr j).2.1 c2)) = false)) → Q (some (.int 0)) h := by
      intro hn
      cases hb : (ofA (P.jr j).2.1 ((P.jr j).2.2.1.getD i []) && !xc (P.jr j).2.2.2.1 ((P.jr j).2.2.1.getD i [])) with
      | false =>
        rw [hb] at kk
        exact kk
      | true =>
        obtain ⟨c2, g1, g2⟩ := op.mpr hb
        exact absurd g2 (hn c2 g1)
    induction n with
    | zero =>
      intro c hc hq
      refine kb_69_42 (by first | with_reducible assumption | with_reducible exact kd_M | assumption) (by omega) (s63 H hP hj hJ.1 (kb_69_49 (fun _ => kb_69_96 (no (fun c2 h2 => hq c2 (by omega)))) (fun c => (by simp (disch := omega) only [z_0, z_1, z_2, z_3, z_4, z_5, z_6, z_7, z_8, z_9, z_10, z_12, z_13, z_20, z_21, z_25, z_56, z_350, z_31, z_32, z_36, z_48, z_57, z_61, z_97, z_100, z_122, z_125, z_126, z_144, z_255, z_700, z_1000, z_1548, nI_add, pk_mul, pk_sub, nI_clamp, nI_leI, nI_ltI, nI_eq, z_in, z_m1, z_m1b, lg_cmp_eq, z_cmp, Decidable.not_not, w_ie, w_in, w_il, w_le, w_ln, w_li, w_ir, w_lr] at c; exfalso; omega))))
    | succ n ih =>
      intro c hc hq
      have nx : ¬ (((P.jr j).2.2.1.getD i []).length = (P.jr j).2.1.length ∧ hA (cbL (P.jr j).2.1 (dgA (P.jr j).2.1 c)) ((P.jr j).2.2.1.getD i []) = true ∧ xc (P.jr j).2.2.2.1 (cbL (P.jr j).2.1 (dgA (P.jr j).2.1 c)) = false) → mr_M mj_KK d 69 90 [some (.ref 573), some (.int (nI j)), none, some (.int (nI (8 * j + i))), some (.int (nI c))] [] h Q := by
        intro q
        refine kb_69_90 ?_
        rw [nI_1]
        exact ih (c + 1) (by omega) (lt_s hq q)
      refine kb_69_42 (by first | with_reducible assumption | with_reducible exact kd_M | assumption) (by omega) (s63 H hP hj hJ.1 (kb_69_49 (fun c => (by simp (disch := omega) only [z_0, z_1, z_2, z_3, z_4, z_5, z_6, z_7, z_8, z_9, z_10, z_12, z_13, z_20, z_21, z_25, z_56, z_350, z_31, z_32, z_36, z_48, z_57, z_61, z_97, z_100, z_122, z_125, z_126, z_144, z_255, z_700, z_1000, z_1548, nI_add, pk_mul, pk_sub, nI_clamp, nI_leI, nI_ltI, nI_eq, z_in, z_m1, z_m1b, lg_cmp_eq, z_cmp, Decidable.not_not, w_ie, w_in, w_il, w_le, w_ln, w_li, w_ir, w_lr] at c; exfalso; omega)) (fun _ => kb_69_52 (by first | with_reducible assumption | with_reducible exact kd_M | assumption) (by first | with_reducible assumption | exact rf_M_pairCount H | assumption) (by first | with_reducible assumption | with_reducible exact kd_M_pairCount | assumption) (by first | with_reducible assumption | (simp (disch := omega) only [z_0, z_1, z_2, z_3, z_4, z_5, z_6, z_7, z_8, z_9, z_10, z_12, z_13, z_20, z_21, z_25, z_56, z_350, z_31, z_32, z_36, z_48, z_57, z_61, z_97, z_100, z_122, z_125, z_126, z_144, z_255, z_700, z_1000, z_1548, nI_add, pk_mul, pk_sub, nI_clamp, nI_leI, nI_ltI, nI_eq, z_in, z_m1, z_m1b, lg_cmp_eq, z_cmp, Decidable.not_not, w_ie, w_in, w_il, w_le, w_ln, w_li, w_ir, w_lr, ln_P_tape, ln_W_text, ln_W_starts, ln_W_ends, ln_W_lines, ln_W_names, ln_W_values, ln_PL_jobs, ln_PL_parts, ln_FT_reached, ln_EX_jobs, ln_EX_codes, ln_CB_names, ln_CB_values, ln_M_tape, ln_M_source, ln_M_wordAt, ln_M_wordEnd, ln_M_names, ln_M_itemCount, ln_M_itemFirst, ln_M_itemWords, ln_M_itemUses, ln_M_keptAt, ln_M_keptEnd, ln_M_needCount, ln_M_axisCount, ln_M_valueCount, ln_M_needed, ln_M_axes, ln_M_values, ln_M_includes, ln_M_excludes, ln_M_pairCount, ln_M_pairName, ln_M_pairValue, ln_M_signCount, ln_M_signs, ln_M_signName, ln_M_signValue, ln_M_whose, ln_M_which, ln_M_pile, ln_M_reaches, ln_M_stepsOf, ln_M_known, ln_JB_needed, ln_JB_axes, ln_JS_used, ln_JS_stepWords, ln_PS_used, ln_PS_stepWords, ln_IN_rows, ln_EC_rows, ln_IR_names, ln_IR_values, ln_ER_names, ln_ER_values, ln_CD_kinds, ln_CD_names, ln_CD_values, ln_AX_values] <;> omega) | assumption) (by first | with_reducible assumption | exact rf_M_axisCount H | assumption) (by first | with_reducible assumption | with_reducible exact kd_M_axisCount | assumption) (by first | with_reducible assumption | (simp (disch := omega) only [z_0, z_1, z_2, z_3, z_4, z_5, z_6, z_7, z_8, z_9, z_10, z_12, z_13, z_20, z_21, z_25, z_56, z_350, z_31, z_32, z_36, z_48, z_57, z_61, z_97, z_100, z_122, z_125, z_126, z_144, z_255, z_700, z_1000, z_1548, nI_add, pk_mul, pk_sub, nI_clamp, nI_leI, nI_ltI, nI_eq, z_in, z_m1, z_m1b, lg_cmp_eq, z_cmp, Decidable.not_not, w_ie, w_in, w_il, w_le, w_ln, w_li, w_ir, w_lr, ln_P_tape, ln_W_text, ln_W_starts, ln_W_ends, ln_W_lines, ln_W_names, ln_W_values, ln_PL_jobs, ln_PL_parts, ln_FT_reached, ln_EX_jobs, ln_EX_codes, ln_CB_names, ln_CB_values, ln_M_tape, ln_M_source, ln_M_wordAt, ln_M_wordEnd, ln_M_names, ln_M_itemCount, ln_M_itemFirst, ln_M_itemWords, ln_M_itemUses, ln_M_keptAt, ln_M_keptEnd, ln_M_needCount, ln_M_axisCount, ln_M_valueCount, ln_M_needed, ln_M_axes, ln_M_values, ln_M_includes, ln_M_excludes, ln_M_pairCount, ln_M_pairName, ln_M_pairValue, ln_M_signCount, ln_M_signs, ln_M_signName, ln_M_signValue, ln_M_whose, ln_M_which, ln_M_pile, ln_M_reaches, ln_M_stepsOf, ln_M_known, ln_JB_needed, ln_JB_axes, ln_JS_used, ln_JS_stepWords, ln_PS_used, ln_PS_stepWords, ln_IN_rows, ln_EC_rows, ln_IR_names, ln_IR_values, ln_ER_names, ln_ER_values, ln_CD_kinds, ln_CD_names, ln_CD_values, ln_AX_values] <;> omega) | assumption) (fun c2 => kb_69_96 (no (fun c3 h3 r => ?_))) (fun c2 => ?_))))
      · simp (disch := omega) only [z_0, z_1, z_2, z_3, z_4, z_5, z_6, z_7, z_8, z_9, z_10, z_12, z_13, z_20, z_21, z_25, z_56, z_350, z_31, z_32, z_36, z_48, z_57, z_61, z_97, z_100, z_122, z_125, z_126, z_144, z_255, z_700, z_1000, z_1548, nI_add, pk_mul, pk_sub, nI_clamp, nI_leI, nI_ltI, nI_eq, z_in, z_m1, z_m1b, lg_cmp_eq, z_cmp, Decidable.not_not, w_ie, w_in, w_il, w_le, w_ln, w_li, w_ir, w_lr, y1, z1] at c2
        exact c2 r.1
      · simp (disch := omega) only [z_0, z_1, z_2, z_3, z_4, z_5, z_6, z_7, z_8, z_9, z_10, z_12, z_13, z_20, z_21, z_25, z_56, z_350, z_31, z_32, z_36, z_48, z_57, z_61, z_97, z_100, z_122, z_125, z_126, z_144, z_255, z_700, z_1000, z_1548, nI_add, pk_mul, pk_sub, nI_clamp, nI_leI, nI_ltI, nI_eq, z_in, z_m1, z_m1b, lg_cmp_eq, z_cmp, Decidable.not_not, w_ie, w_in, w_il, w_le, w_ln, w_li, w_ir, w_lr, y1, z1] at c2
        refine kb_69_67 (by first | with_reducible assumption | with_reducible exact kd_M | assumption) (by omega) (s66 (by omega) H hP hj hJ.1 (by omega) (by omega) (x3 i hi) (hrw i hi).2 ?_)
        cases hb : hA (cbL (P.jr j).2.1 (dgA (P.jr j).2.1 c)) ((P.jr j).2.2.1.getD i []) with
        | false => exact kb_69_75 (fun _ => nx (fun r => by rw [hb] at r; cases r.2.1)) (fun c => absurd rfl c)
        | true =>
          refine kb_69_75 (fun c => absurd c (by decide)) (fun _ => kb_69_78 (by first | with_reducible assumption | with_reducible exact kd_M | assumption) (by omega) (s67 (by omega) H hP hj hJ (by omega) ?_))
          cases hb2 : xc (P.jr j).2.2.2.1 (cbL (P.jr j).2.1 (dgA (P.jr j).2.1 c)) with
          | true => exact kb_69_85 (fun _ => nx (fun r => by rw [hb2] at r; cases r.2.2)) (fun c => absurd (by decide) c)
          | false =>
            rw [op.mp ⟨c, by omega, c2, hb, hb2⟩] at kk
            exact kb_69_85 (fun c => absurd rfl c) (fun _ => kb_69_88 kk)
  have first : ∀ n k, k + n = i → aT (fun k => sm ((P.jr j).2.2.1.getD k []) ((P.jr j).2.2.1.getD i [])) k = false → mr_M mj_KK d 69 10 [some (.ref 573), some (.int (nI j)), some (.int (nI i)), some (.int (nI (8 * j + i))), some (.int (nI k))] [] h Q := by
    intro n
    induction n with
    | zero =>
      intro k hk hq
      have e : k = i := by omega
      subst e
      exact kb_69_10 (fun _ => kb_69_39 (second hq (pdA (P.jr j)) 0 (by omega) (fun c2 h2 => absurd h2 (Nat.not_lt_zero c2)))) (fun c => (by simp (disch := omega) only [z_0, z_1, z_2, z_3, z_4, z_5, z_6, z_7, z_8, z_9, z_10, z_12, z_13, z_20, z_21, z_25, z_56, z_350, z_31, z_32, z_36, z_48, z_57, z_61, z_97, z_100, z_122, z_125, z_126, z_144, z_255, z_700, z_1000, z_1548, nI_add, pk_mul, pk_sub, nI_clamp, nI_leI, nI_ltI, nI_eq, z_in, z_m1, z_m1b, lg_cmp_eq, z_cmp, Decidable.not_not, w_ie, w_in, w_il, w_le, w_ln, w_li, w_ir, w_lr] at c; exfalso; omega))
    | succ n ih =>
      intro k hk hq
      refine kb_69_10 (fun c => (by simp (disch := omega) only [z_0, z_1, z_2, z_3, z_4, z_5, z_6, z_7, z_8, z_9, z_10, z_12, z_13, z_20, z_21, z_25, z_56, z_350, z_31, z_32, z_36, z_48, z_57, z_61, z_97, z_100, z_122, z_125, z_126, z_144, z_255, z_700, z_1000, z_1548, nI_add, pk_mul, pk_sub, nI_clamp, nI_leI, nI_ltI, nI_eq, z_in, z_m1, z_m1b, lg_cmp_eq, z_cmp, Decidable.not_not, w_ie, w_in, w_il, w_le, w_ln, w_li, w_ir, w_lr] at c; exfalso; omega)) (fun _ => kb_69_16 (by first | with_reducible assumption | with_reducible exact kd_M | assumption) (by omega) ?_)
      rw [e8]
      refine s68 H (by omega) (by omega) (x3 i hi) (x3 k (by omega)) (hrw i hi).2 (hrw k (by omega)).2 ?_
      cases hb : sm ((P.jr j).2.2.1.getD k []) ((P.jr j).2.2.1.getD i []) with
      | true =>
        have : aT (fun k => sm ((P.jr j).2.2.1.getD k []) ((P.jr j).2.2.1.getD i [])) i = true := aT_t.mpr ⟨k, by omega, hb⟩
        rw [this, Bool.true_or] at kk
        exact kb_69_28 (fun c => absurd c (by decide)) (fun _ => kb_69_31 kk)
      | false =>
        refine kb_69_28 (fun _ => kb_69_33 ?_) (fun c => absurd rfl c)
        rw [nI_1]
        exact ih (k + 1) (by omega) (by rw [aT_s, hq]; exact hb)
  exact first i 0 (by omega) rfl
def cM (e : En) : Nat := if e.2.1 = 0 then e.2.2 else 1000 + e.2.2
def XM (h : mj_H) (X : List En) : Prop := h.1 573 34 = nI X.length ∧ X.length ≤ 1548 ∧ ∀ i, i < X.length → h.1 600 i = nI (X.getD i (0, 0, 0)).1 ∧ h.1 601 i = nI (cM (X.getD i (0, 0, 0)))
def inMx : Nat → Nat → Prop := fun a i => (a = 573 ∧ i = 34) ∨ a = 600 ∨ a = 601
theorem PlM_x {h h' : mj_H} (A : PlM h W kept P) (f : fr inMx h h') : PlM h' W kept P := PlM_fr A f (fun a i q => by unfold inMx; omega)
/-- add -/
theorem s70 {X : List En} {e : En} {c : Nat} (H : mj_RS h) (hX : XM h X) (hl : X.length < 1548) (hc : cM e = c) (kk : ∀ h', XM h' (X ++ [e]) → fr inMx h h' → Q none h') : mr_C mj_KK d 70 [.ref 573, .int (nI e.1), .int (nI c)] h Q := by
  show mr_M mj_KK d 70 0 [some (.ref 573), some (.int (nI e.1)), some (.int (nI c))] [] h Q
  obtain ⟨x1, x2, x3⟩ := hX
  refine kb_70_0 (by first | with_reducible assumption | with_reducible exact kd_M | assumption) (by first | with_reducible assumption | exact rf_M_whose H | assumption) (by first | with_reducible assumption | with_reducible exact kd_M_whose | assumption) (by first | with_reducible assumption | (simp (disch := omega) only [z_0, z_1, z_2, z_3, z_4, z_5, z_6, z_7, z_8, z_9, z_10, z_12, z_13, z_20, z_21, z_25, z_56, z_350, z_31, z_32, z_36, z_48, z_57, z_61, z_97, z_100, z_122, z_125, z_126, z_144, z_255, z_700, z_1000, z_1548, nI_add, pk_mul, pk_sub, nI_clamp, nI_leI, nI_ltI, nI_eq, z_in, z_m1, z_m1b, lg_cmp_eq, z_cmp, Decidable.not_not, w_ie, w_in, w_il, w_le, w_ln, w_li, w_ir, w_lr, x1, ln_P_tape, ln_W_text, ln_W_starts, ln_W_ends, ln_W_lines, ln_W_names, ln_W_values, ln_PL_jobs, ln_PL_parts, ln_FT_reached, ln_EX_jobs, ln_EX_codes, ln_CB_names, ln_CB_values, ln_M_tape, ln_M_source, ln_M_wordAt, ln_M_wordEnd, ln_M_names, ln_M_itemCount, ln_M_itemFirst, ln_M_itemWords, ln_M_itemUses, ln_M_keptAt, ln_M_keptEnd, ln_M_needCount, ln_M_axisCount, ln_M_valueCount, ln_M_needed, ln_M_axes, ln_M_values, ln_M_includes, ln_M_excludes, ln_M_pairCount, ln_M_pairName, ln_M_pairValue, ln_M_signCount, ln_M_signs, ln_M_signName, ln_M_signValue, ln_M_whose, ln_M_which, ln_M_pile, ln_M_reaches, ln_M_stepsOf, ln_M_known, ln_JB_needed, ln_JB_axes, ln_JS_used, ln_JS_stepWords, ln_PS_used, ln_PS_stepWords, ln_IN_rows, ln_EC_rows, ln_IR_names, ln_IR_values, ln_ER_names, ln_ER_values, ln_CD_kinds, ln_CD_names, ln_CD_values, ln_AX_values] <;> omega) | assumption) (by first | with_reducible assumption | exact rf_M_which H | assumption) (by first | with_reducible assumption | with_reducible exact kd_M_which | assumption) (by first | with_reducible assumption | (simp (disch := omega) only [z_0, z_1, z_2, z_3, z_4, z_5, z_6, z_7, z_8, z_9, z_10, z_12, z_13, z_20, z_21, z_25, z_56, z_350, z_31, z_32, z_36, z_48, z_57, z_61, z_97, z_100, z_122, z_125, z_126, z_144, z_255, z_700, z_1000, z_1548, nI_add, pk_mul, pk_sub, nI_clamp, nI_leI, nI_ltI, nI_eq, z_in, z_m1, z_m1b, lg_cmp_eq, z_cmp, Decidable.not_not, w_ie, w_in, w_il, w_le, w_ln, w_li, w_ir, w_lr, x1, ln_P_tape, ln_W_text, ln_W_starts, ln_W_ends, ln_W_lines, ln_W_names, ln_W_values, ln_PL_jobs, ln_PL_parts, ln_FT_reached, ln_EX_jobs, ln_EX_codes, ln_CB_names, ln_CB_values, ln_M_tape, ln_M_source, ln_M_wordAt, ln_M_wordEnd, ln_M_names, ln_M_itemCount, ln_M_itemFirst, ln_M_itemWords, ln_M_itemUses, ln_M_keptAt, ln_M_keptEnd, ln_M_needCount, ln_M_axisCount, ln_M_valueCount, ln_M_needed, ln_M_axes, ln_M_values, ln_M_includes, ln_M_excludes, ln_M_pairCount, ln_M_pairName, ln_M_pairValue, ln_M_signCount, ln_M_signs, ln_M_signName, ln_M_signValue, ln_M_whose, ln_M_which, ln_M_pile, ln_M_reaches, ln_M_stepsOf, ln_M_known, ln_JB_needed, ln_JB_axes, ln_JS_used, ln_JS_stepWords, ln_PS_used, ln_PS_stepWords, ln_IN_rows, ln_EC_rows, ln_IR_names, ln_IR_values, ln_ER_names, ln_ER_values, ln_CD_kinds, ln_CD_names, ln_CD_values, ln_AX_values] <;> omega) | assumption) ?_
  simp (disch := omega) only [z_0, z_1, z_2, z_3, z_4, z_5, z_6, z_7, z_8, z_9, z_10, z_12, z_13, z_20, z_21, z_25, z_56, z_350, z_31, z_32, z_36, z_48, z_57, z_61, z_97, z_100, z_122, z_125, z_126, z_144, z_255, z_700, z_1000, z_1548, nI_add, pk_mul, pk_sub, nI_clamp, nI_leI, nI_ltI, nI_eq, z_in, z_m1, z_m1b, lg_cmp_eq, z_cmp, Decidable.not_not, w_ie, w_in, w_il, w_le, w_ln, w_li, w_ir, w_lr, x1]
  refine kk _ ⟨?_, ?_, fun i hi => ?_⟩ (((fr.wi (P := inMx) fr.rfl' (by unfold inMx; omega)).wi (by unfold inMx; omega)).wi (by unfold inMx; omega))
  · rw [List.length_append]
    simp (disch := omega) only [z_0, z_1, z_2, z_3, z_4, z_5, z_6, z_7, z_8, z_9, z_10, z_12, z_13, z_20, z_21, z_25, z_56, z_350, z_31, z_32, z_36, z_48, z_57, z_61, z_97, z_100, z_122, z_125, z_126, z_144, z_255, z_700, z_1000, z_1548, nI_add, pk_mul, pk_sub, nI_clamp, nI_leI, nI_ltI, nI_eq, z_in, z_m1, z_m1b, lg_cmp_eq, z_cmp, Decidable.not_not, w_ie, w_in, w_il, w_le, w_ln, w_li, w_ir, w_lr]
    rfl
  · rw [List.length_append]
    exact hl
  · rw [List.length_append] at hi
    have hi : i < X.length + 1 := hi
    rcases Nat.lt_or_ge i X.length with q | q
    · rw [getD_app_l q]
      obtain ⟨b1, b2⟩ := x3 i q
      exact ⟨by simp (disch := omega) only [z_0, z_1, z_2, z_3, z_4, z_5, z_6, z_7, z_8, z_9, z_10, z_12, z_13, z_20, z_21, z_25, z_56, z_350, z_31, z_32, z_36, z_48, z_57, z_61, z_97, z_100, z_122, z_125, z_126, z_144, z_255, z_700, z_1000, z_1548, nI_add, pk_mul, pk_sub, nI_clamp, nI_leI, nI_ltI, nI_eq, z_in, z_m1, z_m1b, lg_cmp_eq, z_cmp, Decidable.not_not, w_ie, w_in, w_il, w_le, w_ln, w_li, w_ir, w_lr, b1], by simp (disch := omega) only [z_0, z_1, z_2, z_3, z_4, z_5, z_6, z_7, z_8, z_9, z_10, z_12, z_13, z_20, z_21, z_25, z_56, z_350, z_31, z_32, z_36, z_48, z_57, z_61, z_97, z_100, z_122, z_125, z_126, z_144, z_255, z_700, z_1000, z_1548, nI_add, pk_mul, pk_sub, nI_clamp, nI_leI, nI_ltI, nI_eq, z_in, z_m1, z_m1b, lg_cmp_eq, z_cmp, Decidable.not_not, w_ie, w_in, w_il, w_le, w_ln, w_li, w_ir, w_lr, b2]⟩
    · have ei : i = X.length := by omega
      subst ei
      rw [getD_app_e, hc]
      exact ⟨by simp (disch := omega) only [z_0, z_1, z_2, z_3, z_4, z_5, z_6, z_7, z_8, z_9, z_10, z_12, z_13, z_20, z_21, z_25, z_56, z_350, z_31, z_32, z_36, z_48, z_57, z_61, z_97, z_100, z_122, z_125, z_126, z_144, z_255, z_700, z_1000, z_1548, nI_add, pk_mul, pk_sub, nI_clamp, nI_leI, nI_ltI, nI_eq, z_in, z_m1, z_m1b, lg_cmp_eq, z_cmp, Decidable.not_not, w_ie, w_in, w_il, w_le, w_ln, w_li, w_ir, w_lr], by simp (disch := omega) only [z_0, z_1, z_2, z_3, z_4, z_5, z_6, z_7, z_8, z_9, z_10, z_12, z_13, z_20, z_21, z_25, z_56, z_350, z_31, z_32, z_36, z_48, z_57, z_61, z_97, z_100, z_122, z_125, z_126, z_144, z_255, z_700, z_1000, z_1548, nI_add, pk_mul, pk_sub, nI_clamp, nI_leI, nI_ltI, nI_eq, z_in, z_m1, z_m1b, lg_cmp_eq, z_cmp, Decidable.not_not, w_ie, w_in, w_il, w_le, w_ln, w_li, w_ir, w_lr]⟩
/-- the reference's expand, behind its check -/
theorem s71b {x : Int32} (hd : 6 ≤ d) (H0 : mj_RS h0) (hP : PlM h0 W kept P) (hJ : ∀ j, JV (P.jr j)) (hX : XM h0 []) (kk : ∀ h', XM h' (exA P P.nj) → fr inMx h0 h' → mr_M mj_KK d 71 99 [some (.ref 573), some (.int x), none, none] [] h' Q) : mr_M mj_KK d 71 14 [some (.ref 573), some (.int x), none, none] [] h0 Q := by
  have j12 := hP.1.2.1
  refine kb_71_14 ?_
  have loop : ∀ n j (h : mj_H), j + n = P.nj → fr inMx h0 h → XM h (exA P j) → mr_M mj_KK d 71 16 [some (.ref 573), some (.int x), some (.int (nI j)), none] [] h Q := by
    intro n
    induction n with
    | zero =>
      intro j h hj hf hx
      have a1 := (PlM_x hP hf).1.1
      have e : j = P.nj := by omega
      subst e
      exact kb_71_16 (by first | with_reducible assumption | with_reducible exact kd_M | assumption) (fun _ => kk h hx hf) (fun c => (by simp (disch := omega) only [z_0, z_1, z_2, z_3, z_4, z_5, z_6, z_7, z_8, z_9, z_10, z_12, z_13, z_20, z_21, z_25, z_56, z_350, z_31, z_32, z_36, z_48, z_57, z_61, z_97, z_100, z_122, z_125, z_126, z_144, z_255, z_700, z_1000, z_1548, nI_add, pk_mul, pk_sub, nI_clamp, nI_leI, nI_ltI, nI_eq, z_in, z_m1, z_m1b, lg_cmp_eq, z_cmp, Decidable.not_not, w_ie, w_in, w_il, w_le, w_ln, w_li, w_ir, w_lr, a1] at c; exfalso; omega))
    | succ n ih =>
      intro j h hj hf hx
      have a1 := (PlM_x hP hf).1.1
      have hj2 : j < P.nj := by omega
      have al := exA_len (n := j) hJ
      have pl := axL_len (j := j) (J := P.jr j) (m := pdA (P.jr j))
      have p125 := pdA_le (hJ j).1
      have pdp := pdA_prA (J := P.jr j)
      refine kb_71_16 (by first | with_reducible assumption | with_reducible exact kd_M | assumption) (fun c => (by simp (disch := omega) only [z_0, z_1, z_2, z_3, z_4, z_5, z_6, z_7, z_8, z_9, z_10, z_12, z_13, z_20, z_21, z_25, z_56, z_350, z_31, z_32, z_36, z_48, z_57, z_61, z_97, z_100, z_122, z_125, z_126, z_144, z_255, z_700, z_1000, z_1548, nI_add, pk_mul, pk_sub, nI_clamp, nI_leI, nI_ltI, nI_eq, z_in, z_m1, z_m1b, lg_cmp_eq, z_cmp, Decidable.not_not, w_ie, w_in, w_il, w_le, w_ln, w_li, w_ir, w_lr, a1] at c; exfalso; omega)) (fun _ => kb_71_24 ?_)
      have incs : ∀ m i (h : mj_H), i + m = (P.jr j).2.2.1.length → fr inMx h0 h → XM h (exA P j ++ axL j (P.jr j) (pdA (P.jr j)) ++ inL2 j (P.jr j) i) → mr_M mj_KK d 71 58 [some (.ref 573), some (.int x), some (.int (nI j)), some (.int (nI i))] [] h Q := by
        intro m
        induction m with
        | zero =>
          intro i h hi hf hx
          have H := hf.rs H0
          obtain ⟨x1, x2, -⟩ := incM (PlM_x hP hf) hj2
          have e : i = (P.jr j).2.2.1.length := by omega
          subst e
          refine kb_71_58 (by first | with_reducible assumption | with_reducible exact kd_M | assumption) (by first | with_reducible assumption | exact rf_M_includes H | assumption) (by first | with_reducible assumption | with_reducible exact kd_M_includes | assumption) (by first | with_reducible assumption | (simp (disch := omega) only [z_0, z_1, z_2, z_3, z_4, z_5, z_6, z_7, z_8, z_9, z_10, z_12, z_13, z_20, z_21, z_25, z_56, z_350, z_31, z_32, z_36, z_48, z_57, z_61, z_97, z_100, z_122, z_125, z_126, z_144, z_255, z_700, z_1000, z_1548, nI_add, pk_mul, pk_sub, nI_clamp, nI_leI, nI_ltI, nI_eq, z_in, z_m1, z_m1b, lg_cmp_eq, z_cmp, Decidable.not_not, w_ie, w_in, w_il, w_le, w_ln, w_li, w_ir, w_lr, ln_P_tape, ln_W_text, ln_W_starts, ln_W_ends, ln_W_lines, ln_W_names, ln_W_values, ln_PL_jobs, ln_PL_parts, ln_FT_reached, ln_EX_jobs, ln_EX_codes, ln_CB_names, ln_CB_values, ln_M_tape, ln_M_source, ln_M_wordAt, ln_M_wordEnd, ln_M_names, ln_M_itemCount, ln_M_itemFirst, ln_M_itemWords, ln_M_itemUses, ln_M_keptAt, ln_M_keptEnd, ln_M_needCount, ln_M_axisCount, ln_M_valueCount, ln_M_needed, ln_M_axes, ln_M_values, ln_M_includes, ln_M_excludes, ln_M_pairCount, ln_M_pairName, ln_M_pairValue, ln_M_signCount, ln_M_signs, ln_M_signName, ln_M_signValue, ln_M_whose, ln_M_which, ln_M_pile, ln_M_reaches, ln_M_stepsOf, ln_M_known, ln_JB_needed, ln_JB_axes, ln_JS_used, ln_JS_stepWords, ln_PS_used, ln_PS_stepWords, ln_IN_rows, ln_EC_rows, ln_IR_names, ln_IR_values, ln_ER_names, ln_ER_values, ln_CD_kinds, ln_CD_names, ln_CD_values, ln_AX_values] <;> omega) | assumption) (fun _ => kb_71_93 ?_) (fun c => (by simp (disch := omega) only [z_0, z_1, z_2, z_3, z_4, z_5, z_6, z_7, z_8, z_9, z_10, z_12, z_13, z_20, z_21, z_25, z_56, z_350, z_31, z_32, z_36, z_48, z_57, z_61, z_97, z_100, z_122, z_125, z_126, z_144, z_255, z_700, z_1000, z_1548, nI_add, pk_mul, pk_sub, nI_clamp, nI_leI, nI_ltI, nI_eq, z_in, z_m1, z_m1b, lg_cmp_eq, z_cmp, Decidable.not_not, w_ie, w_in, w_il, w_le, w_ln, w_li, w_ir, w_lr, x1] at c; exfalso; omega))
          rw [nI_1]
          refine ih (j + 1) h (by omega) hf ?_
          rw [exA_s]
          unfold exJ
          rw [← List.append_assoc]
          exact hx
        | succ m ih2 =>
          intro i h hi hf hx
          have H := hf.rs H0
          have hPh := PlM_x hP hf
          obtain ⟨x1, x2, -⟩ := incM hPh hj2
          have il := inL2_len (j := j) (J := P.jr j) (m := i)
          refine kb_71_58 (by first | with_reducible assumption | with_reducible exact kd_M | assumption) (by first | with_reducible assumption | exact rf_M_includes H | assumption) (by first | with_reducible assumption | with_reducible exact kd_M_includes | assumption) (by first | with_reducible assumption | (simp (disch := omega) only [z_0, z_1, z_2, z_3, z_4, z_5, z_6, z_7, z_8, z_9, z_10, z_12, z_13, z_20, z_21, z_25, z_56, z_350, z_31, z_32, z_36, z_48, z_57, z_61, z_97, z_100, z_122, z_125, z_126, z_144, z_255, z_700, z_1000, z_1548, nI_add, pk_mul, pk_sub, nI_clamp, nI_leI, nI_ltI, nI_eq, z_in, z_m1, z_m1b, lg_cmp_eq, z_cmp, Decidable.not_not, w_ie, w_in, w_il, w_le, w_ln, w_li, w_ir, w_lr, ln_P_tape, ln_W_text, ln_W_starts, ln_W_ends, ln_W_lines, ln_W_names, ln_W_values, ln_PL_jobs, ln_PL_parts, ln_FT_reached, ln_EX_jobs, ln_EX_codes, ln_CB_names, ln_CB_values, ln_M_tape, ln_M_source, ln_M_wordAt, ln_M_wordEnd, ln_M_names, ln_M_itemCount, ln_M_itemFirst, ln_M_itemWords, ln_M_itemUses, ln_M_keptAt, ln_M_keptEnd, ln_M_needCount, ln_M_axisCount, ln_M_valueCount, ln_M_needed, ln_M_axes, ln_M_values, ln_M_includes, ln_M_excludes, ln_M_pairCount, ln_M_pairName, ln_M_pairValue, ln_M_signCount, ln_M_signs, ln_M_signName, ln_M_signValue, ln_M_whose, ln_M_which, ln_M_pile, ln_M_reaches, ln_M_stepsOf, ln_M_known, ln_JB_needed, ln_JB_axes, ln_JS_used, ln_JS_stepWords, ln_PS_used, ln_PS_stepWords, ln_IN_rows, ln_EC_rows, ln_IR_names, ln_IR_values, ln_ER_names, ln_ER_values, ln_CD_kinds, ln_CD_names, ln_CD_values, ln_AX_values] <;> omega) | assumption) (fun c => (by simp (disch := omega) only [z_0, z_1, z_2, z_3, z_4, z_5, z_6, z_7, z_8, z_9, z_10, z_12, z_13, z_20, z_21, z_25, z_56, z_350, z_31, z_32, z_36, z_48, z_57, z_61, z_97, z_100, z_122, z_125, z_126, z_144, z_255, z_700, z_1000, z_1548, nI_add, pk_mul, pk_sub, nI_clamp, nI_leI, nI_ltI, nI_eq, z_in, z_m1, z_m1b, lg_cmp_eq, z_cmp, Decidable.not_not, w_ie, w_in, w_il, w_le, w_ln, w_li, w_ir, w_lr, x1] at c; exfalso; omega)) (fun _ => kb_71_68 (by first | with_reducible assumption | with_reducible exact kd_M | assumption) (by omega) (s69 (by omega) H hPh hj2 (hJ j) (by omega) ?_))
          cases hb : rpI (P.jr j) i with
          | true =>
            refine kb_71_74 (fun _ => kb_71_87 ?_) (fun c => absurd (by decide) c)
            rw [nI_1]
            refine ih2 (i + 1) h (by omega) hf ?_
            rw [inL2_s, hb, if_pos rfl, List.append_nil]
            exact hx
          | false =>
            have e1000 : (1000 : Int32) + nI i = nI (1000 + i) := nI_add 1000 i
            refine kb_71_74 (fun c => absurd rfl c) (fun _ => kb_71_77 (by first | with_reducible assumption | with_reducible exact kd_M | assumption) (by omega) ?_)
            rw [e1000]
            refine s70 (e := (j, 1, i)) H hx (by rw [List.length_append, List.length_append]; omega) (if_neg (by show ¬ 1 = 0; decide)) (fun h2 k1 k2 => kb_71_87 ?_)
            rw [nI_1]
            refine ih2 (i + 1) h2 (by omega) (hf.trans k2) ?_
            rw [inL2_s, hb, if_neg Bool.false_ne_true, ← List.append_assoc]
            exact k1
      have combos : ∀ m c (h : mj_H), c + m = pdA (P.jr j) → fr inMx h0 h → XM h (exA P j ++ axL j (P.jr j) c) → mr_M mj_KK d 71 26 [some (.ref 573), some (.int x), some (.int (nI j)), some (.int (nI c))] [] h Q := by
        intro m
        induction m with
        | zero =>
          intro c h hc hf hx
          have H := hf.rs H0
          have hPh := PlM_x hP hf
          have e : c = pdA (P.jr j) := by omega
          subst e
          refine kb_71_26 (by first | with_reducible assumption | with_reducible exact kd_M | assumption) (by omega) (s63 H hPh hj2 (hJ j).1 (kb_71_32 (fun _ => kb_71_56 (incs (P.jr j).2.2.1.length 0 h (by omega) hf ?_)) (fun c => (by simp (disch := omega) only [z_0, z_1, z_2, z_3, z_4, z_5, z_6, z_7, z_8, z_9, z_10, z_12, z_13, z_20, z_21, z_25, z_56, z_350, z_31, z_32, z_36, z_48, z_57, z_61, z_97, z_100, z_122, z_125, z_126, z_144, z_255, z_700, z_1000, z_1548, nI_add, pk_mul, pk_sub, nI_clamp, nI_leI, nI_ltI, nI_eq, z_in, z_m1, z_m1b, lg_cmp_eq, z_cmp, Decidable.not_not, w_ie, w_in, w_il, w_le, w_ln, w_li, w_ir, w_lr] at c; exfalso; omega))))
          show XM h (exA P j ++ axL j (P.jr j) (pdA (P.jr j)) ++ [])
          rw [List.append_nil]
          exact hx
        | succ m ih2 =>
          intro c h hc hf hx
          have H := hf.rs H0
          have hPh := PlM_x hP hf
          have cl := axL_len (j := j) (J := P.jr j) (m := c)
          refine kb_71_26 (by first | with_reducible assumption | with_reducible exact kd_M | assumption) (by omega) (s63 H hPh hj2 (hJ j).1 (kb_71_32 (fun c => (by simp (disch := omega) only [z_0, z_1, z_2, z_3, z_4, z_5, z_6, z_7, z_8, z_9, z_10, z_12, z_13, z_20, z_21, z_25, z_56, z_350, z_31, z_32, z_36, z_48, z_57, z_61, z_97, z_100, z_122, z_125, z_126, z_144, z_255, z_700, z_1000, z_1548, nI_add, pk_mul, pk_sub, nI_clamp, nI_leI, nI_ltI, nI_eq, z_in, z_m1, z_m1b, lg_cmp_eq, z_cmp, Decidable.not_not, w_ie, w_in, w_il, w_le, w_ln, w_li, w_ir, w_lr] at c; exfalso; omega)) (fun _ => kb_71_35 (by first | with_reducible assumption | with_reducible exact kd_M | assumption) (by omega) (s67 (by omega) H hPh hj2 (hJ j) (by omega) ?_))))
          cases hb : xc (P.jr j).2.2.2.1 (cbL (P.jr j).2.1 (dgA (P.jr j).2.1 c)) with
          | true =>
            refine kb_71_41 (fun _ => kb_71_50 ?_) (fun c => absurd (by decide) c)
            rw [nI_1]
            refine ih2 (c + 1) h (by omega) hf ?_
            rw [axL_s, hb, if_pos rfl, List.append_nil]
            exact hx
          | false =>
            refine kb_71_41 (fun c => absurd rfl c) (fun _ => kb_71_44 (by first | with_reducible assumption | with_reducible exact kd_M | assumption) (by omega) (s70 (e := (j, 0, c)) H hx (by rw [List.length_append]; omega) (if_pos rfl) (fun h2 k1 k2 => kb_71_50 ?_)))
            rw [nI_1]
            refine ih2 (c + 1) h2 (by omega) (hf.trans k2) ?_
            rw [axL_s, hb, if_neg Bool.false_ne_true, ← List.append_assoc]
            exact k1
      refine combos (pdA (P.jr j)) 0 h (by omega) hf ?_
      show XM h (exA P j ++ [])
      rw [List.append_nil]
      exact hx
  exact loop P.nj 0 h0 (by omega) fr.rfl' hX
end
