-- ===== the reference reads a condition =====
theorem wdk {X : Nat → Int32} {s : Nat × Nat} {t : Nat} (ht : t < 17) (h : wok X s) : wd X s = lN (pr (mj_str t).reverse) ↔ tx X s = mj_str t := by
  obtain ⟨a, b, c⟩ := str_ok t ht
  exact wd_is h b (fun x hx => ⟨(c x hx).1, (c x hx).2.1⟩) a
theorem kwc {X : Nat → Int32} {s : Nat × Nat} {t : Nat} {y : Int64} (ht : t < 8) (hy : y = lN (pr (mj_str t).reverse)) (h : wok X s) : lg_cmp (wd X s) y = 0 ↔ tkk (tx X s) = t + 1 := by
  rw [lg_cmp_eq, hy, wdk (by omega) h, tkk_is ht]
theorem kwc0 {X : Nat → Int32} {s : Nat × Nat} (h : wok X s) : lg_cmp (wd X s) 28530 = 0 ↔ tkk (tx X s) = 1 := kwc (by decide) (by decide) h
theorem kwc1 {X : Nat → Int32} {s : Nat × Nat} (h : wok X s) : lg_cmp (wd X s) 6385252 = 0 ↔ tkk (tx X s) = 2 := kwc (by decide) (by decide) h
theorem kwc2 {X : Nat → Int32} {s : Nat × Nat} (h : wok X s) : lg_cmp (wd X s) 7237492 = 0 ↔ tkk (tx X s) = 3 := kwc (by decide) (by decide) h
theorem kwc3 {X : Nat → Int32} {s : Nat × Nat} (h : wok X s) : lg_cmp (wd X s) 40 = 0 ↔ tkk (tx X s) = 4 := kwc (by decide) (by decide) h
theorem kwc4 {X : Nat → Int32} {s : Nat × Nat} (h : wok X s) : lg_cmp (wd X s) 41 = 0 ↔ tkk (tx X s) = 5 := kwc (by decide) (by decide) h
theorem kwc5 {X : Nat → Int32} {s : Nat × Nat} (h : wok X s) : lg_cmp (wd X s) 107118487239027 = 0 ↔ tkk (tx X s) = 6 := kwc (by decide) (by decide) h
theorem kwc6 {X : Nat → Int32} {s : Nat × Nat} (h : wok X s) : lg_cmp (wd X s) 28523 = 0 ↔ tkk (tx X s) = 7 := kwc (by decide) (by decide) h
theorem kwc7 {X : Nat → Int32} {s : Nat × Nat} (h : wok X s) : lg_cmp (wd X s) 6447460 = 0 ↔ tkk (tx X s) = 8 := kwc (by decide) (by decide) h
/-- the reference's signs of job j -/
def SgM (h : mj_H) (j : Nat) (t : List Sg) : Prop := h.1 596 j = nI t.length ∧ t.length ≤ 20 ∧ ∀ i, i < t.length → h.1 597 (20 * j + i) = nI (t.getD i (0, 0, 0)).1 ∧ h.2.1 598 (20 * j + i) = (t.getD i (0, 0, 0)).2.1 ∧ h.2.1 599 (20 * j + i) = (t.getD i (0, 0, 0)).2.2
theorem SgM.fr {P : Nat → Nat → Prop} {h h' : mj_H} {j : Nat} {t : List Sg} (A : SgM h j t) (f : fr P h h') (m0 : ¬ P 596 j) (m : ∀ i, i < 20 → ¬ P 597 (20 * j + i) ∧ ¬ P 598 (20 * j + i) ∧ ¬ P 599 (20 * j + i)) : SgM h' j t := by
  obtain ⟨a1, a2, a3⟩ := A
  exact ⟨(f.n m0).trans a1, a2, fun i hi => ⟨(f.n (m i (by omega)).1).trans (a3 i hi).1, (f.l (m i (by omega)).2.1).trans (a3 i hi).2.1, (f.l (m i (by omega)).2.2).trans (a3 i hi).2.2⟩⟩
def inMs (j : Nat) : Nat → Nat → Prop := fun a i => (a = 573 ∧ i = 38) ∨ a = 602 ∨ (a = 596 ∧ i = j) ∨ ((a = 597 ∨ a = 598 ∨ a = 599) ∧ 20 * j ≤ i ∧ i < 20 * j + 20)
/-- sign -/
theorem s46 {d j k : Nat} {h : mj_H} {Q : Option Value → mj_H → Prop} {t : List Sg} {n v : Int64} (hj : j < 12) (H : mj_RS h) (h8 : h.1 573 8 = nI j) (hS : SgM h j t) (hl : t.length < 20) (kk : ∀ h', SgM h' j (t ++ [(k, n, v)]) → fr (fun a i => (a = 596 ∧ i = j) ∨ ((a = 597 ∨ a = 598 ∨ a = 599) ∧ 20 * j ≤ i ∧ i < 20 * j + 20)) h h' → Q none h') : mr_C mj_KK d 46 [.ref 573, .int (nI k), .long n, .long v] h Q := by
  show mr_M mj_KK d 46 0 [some (.ref 573), some (.int (nI k)), some (.long n), none, some (.long v), none, none] [] h Q
  obtain ⟨a1, a2, a3⟩ := hS
  refine kb_46_0 (by first | with_reducible assumption | with_reducible exact kd_M | assumption) (by first | with_reducible assumption | exact rf_M_signCount H | assumption) (by first | with_reducible assumption | with_reducible exact kd_M_signCount | assumption) (by first | with_reducible assumption | (simp (disch := omega) only [z_0, z_1, z_2, z_3, z_4, z_5, z_6, z_7, z_8, z_9, z_10, z_12, z_13, z_20, z_21, z_25, z_56, z_350, z_31, z_32, z_36, z_48, z_57, z_61, z_97, z_100, z_122, z_125, z_126, z_144, z_255, z_700, z_1000, z_1548, nI_add, pk_mul, pk_sub, nI_clamp, nI_leI, nI_ltI, nI_eq, z_in, z_m1, z_m1b, lg_cmp_eq, z_cmp, Decidable.not_not, w_ie, w_in, w_il, w_le, w_ln, w_li, w_ir, w_lr, h8, a1, ln_P_tape, ln_W_text, ln_W_starts, ln_W_ends, ln_W_lines, ln_W_names, ln_W_values, ln_PL_jobs, ln_PL_parts, ln_FT_reached, ln_EX_jobs, ln_EX_codes, ln_CB_names, ln_CB_values, ln_M_tape, ln_M_source, ln_M_wordAt, ln_M_wordEnd, ln_M_names, ln_M_itemCount, ln_M_itemFirst, ln_M_itemWords, ln_M_itemUses, ln_M_keptAt, ln_M_keptEnd, ln_M_needCount, ln_M_axisCount, ln_M_valueCount, ln_M_needed, ln_M_axes, ln_M_values, ln_M_includes, ln_M_excludes, ln_M_pairCount, ln_M_pairName, ln_M_pairValue, ln_M_signCount, ln_M_signs, ln_M_signName, ln_M_signValue, ln_M_whose, ln_M_which, ln_M_pile, ln_M_reaches, ln_M_stepsOf, ln_M_known, ln_JB_needed, ln_JB_axes, ln_JS_used, ln_JS_stepWords, ln_PS_used, ln_PS_stepWords, ln_IN_rows, ln_EC_rows, ln_IR_names, ln_IR_values, ln_ER_names, ln_ER_values, ln_CD_kinds, ln_CD_names, ln_CD_values, ln_AX_values, ln_P_tape, ln_W_text, ln_W_starts, ln_W_ends, ln_W_lines, ln_W_names, ln_W_values, ln_PL_jobs, ln_PL_parts, ln_FT_reached, ln_EX_jobs, ln_EX_codes, ln_CB_names, ln_CB_values, ln_M_tape, ln_M_source, ln_M_wordAt, ln_M_wordEnd, ln_M_names, ln_M_itemCount, ln_M_itemFirst, ln_M_itemWords, ln_M_itemUses, ln_M_keptAt, ln_M_keptEnd, ln_M_needCount, ln_M_axisCount, ln_M_valueCount, ln_M_needed, ln_M_axes, ln_M_values, ln_M_includes, ln_M_excludes, ln_M_pairCount, ln_M_pairName, ln_M_pairValue, ln_M_signCount, ln_M_signs, ln_M_signName, ln_M_signValue, ln_M_whose, ln_M_which, ln_M_pile, ln_M_reaches, ln_M_stepsOf, ln_M_known, ln_JB_needed, ln_JB_axes, ln_JS_used, ln_JS_stepWords, ln_PS_used, ln_PS_stepWords, ln_IN_rows, ln_EC_rows, ln_IR_names, ln_IR_values, ln_ER_names, ln_ER_values, ln_CD_kinds, ln_CD_names, ln_CD_values, ln_AX_values] <;> omega) | assumption) (by first | with_reducible assumption | exact rf_M_signs H | assumption) (by first | with_reducible assumption | with_reducible exact kd_M_signs | assumption) (by first | with_reducible assumption | (simp (disch := omega) only [z_0, z_1, z_2, z_3, z_4, z_5, z_6, z_7, z_8, z_9, z_10, z_12, z_13, z_20, z_21, z_25, z_56, z_350, z_31, z_32, z_36, z_48, z_57, z_61, z_97, z_100, z_122, z_125, z_126, z_144, z_255, z_700, z_1000, z_1548, nI_add, pk_mul, pk_sub, nI_clamp, nI_leI, nI_ltI, nI_eq, z_in, z_m1, z_m1b, lg_cmp_eq, z_cmp, Decidable.not_not, w_ie, w_in, w_il, w_le, w_ln, w_li, w_ir, w_lr, h8, a1, ln_P_tape, ln_W_text, ln_W_starts, ln_W_ends, ln_W_lines, ln_W_names, ln_W_values, ln_PL_jobs, ln_PL_parts, ln_FT_reached, ln_EX_jobs, ln_EX_codes, ln_CB_names, ln_CB_values, ln_M_tape, ln_M_source, ln_M_wordAt, ln_M_wordEnd, ln_M_names, ln_M_itemCount, ln_M_itemFirst, ln_M_itemWords, ln_M_itemUses, ln_M_keptAt, ln_M_keptEnd, ln_M_needCount, ln_M_axisCount, ln_M_valueCount, ln_M_needed, ln_M_axes, ln_M_values, ln_M_includes, ln_M_excludes, ln_M_pairCount, ln_M_pairName, ln_M_pairValue, ln_M_signCount, ln_M_signs, ln_M_signName, ln_M_signValue, ln_M_whose, ln_M_which, ln_M_pile, ln_M_reaches, ln_M_stepsOf, ln_M_known, ln_JB_needed, ln_JB_axes, ln_JS_used, ln_JS_stepWords, ln_PS_used, ln_PS_stepWords, ln_IN_rows, ln_EC_rows, ln_IR_names, ln_IR_values, ln_ER_names, ln_ER_values, ln_CD_kinds, ln_CD_names, ln_CD_values, ln_AX_values, ln_P_tape, ln_W_text, ln_W_starts, ln_W_ends, ln_W_lines, ln_W_names, ln_W_values, ln_PL_jobs, ln_PL_parts, ln_FT_reached, ln_EX_jobs, ln_EX_codes, ln_CB_names, ln_CB_values, ln_M_tape, ln_M_source, ln_M_wordAt, ln_M_wordEnd, ln_M_names, ln_M_itemCount, ln_M_itemFirst, ln_M_itemWords, ln_M_itemUses, ln_M_keptAt, ln_M_keptEnd, ln_M_needCount, ln_M_axisCount, ln_M_valueCount, ln_M_needed, ln_M_axes, ln_M_values, ln_M_includes, ln_M_excludes, ln_M_pairCount, ln_M_pairName, ln_M_pairValue, ln_M_signCount, ln_M_signs, ln_M_signName, ln_M_signValue, ln_M_whose, ln_M_which, ln_M_pile, ln_M_reaches, ln_M_stepsOf, ln_M_known, ln_JB_needed, ln_JB_axes, ln_JS_used, ln_JS_stepWords, ln_PS_used, ln_PS_stepWords, ln_IN_rows, ln_EC_rows, ln_IR_names, ln_IR_values, ln_ER_names, ln_ER_values, ln_CD_kinds, ln_CD_names, ln_CD_values, ln_AX_values] <;> omega) | assumption) (by first | with_reducible assumption | exact rf_M_signName H | assumption) (by first | with_reducible assumption | with_reducible exact kd_M_signName | assumption) (by first | with_reducible assumption | (simp (disch := omega) only [z_0, z_1, z_2, z_3, z_4, z_5, z_6, z_7, z_8, z_9, z_10, z_12, z_13, z_20, z_21, z_25, z_56, z_350, z_31, z_32, z_36, z_48, z_57, z_61, z_97, z_100, z_122, z_125, z_126, z_144, z_255, z_700, z_1000, z_1548, nI_add, pk_mul, pk_sub, nI_clamp, nI_leI, nI_ltI, nI_eq, z_in, z_m1, z_m1b, lg_cmp_eq, z_cmp, Decidable.not_not, w_ie, w_in, w_il, w_le, w_ln, w_li, w_ir, w_lr, h8, a1, ln_P_tape, ln_W_text, ln_W_starts, ln_W_ends, ln_W_lines, ln_W_names, ln_W_values, ln_PL_jobs, ln_PL_parts, ln_FT_reached, ln_EX_jobs, ln_EX_codes, ln_CB_names, ln_CB_values, ln_M_tape, ln_M_source, ln_M_wordAt, ln_M_wordEnd, ln_M_names, ln_M_itemCount, ln_M_itemFirst, ln_M_itemWords, ln_M_itemUses, ln_M_keptAt, ln_M_keptEnd, ln_M_needCount, ln_M_axisCount, ln_M_valueCount, ln_M_needed, ln_M_axes, ln_M_values, ln_M_includes, ln_M_excludes, ln_M_pairCount, ln_M_pairName, ln_M_pairValue, ln_M_signCount, ln_M_signs, ln_M_signName, ln_M_signValue, ln_M_whose, ln_M_which, ln_M_pile, ln_M_reaches, ln_M_stepsOf, ln_M_known, ln_JB_needed, ln_JB_axes, ln_JS_used, ln_JS_stepWords, ln_PS_used, ln_PS_stepWords, ln_IN_rows, ln_EC_rows, ln_IR_names, ln_IR_values, ln_ER_names, ln_ER_values, ln_CD_kinds, ln_CD_names, ln_CD_values, ln_AX_values, ln_P_tape, ln_W_text, ln_W_starts, ln_W_ends, ln_W_lines, ln_W_names, ln_W_values, ln_PL_jobs, ln_PL_parts, ln_FT_reached, ln_EX_jobs, ln_EX_codes, ln_CB_names, ln_CB_values, ln_M_tape, ln_M_source, ln_M_wordAt, ln_M_wordEnd, ln_M_names, ln_M_itemCount, ln_M_itemFirst, ln_M_itemWords, ln_M_itemUses, ln_M_keptAt, ln_M_keptEnd, ln_M_needCount, ln_M_axisCount, ln_M_valueCount, ln_M_needed, ln_M_axes, ln_M_values, ln_M_includes, ln_M_excludes, ln_M_pairCount, ln_M_pairName, ln_M_pairValue, ln_M_signCount, ln_M_signs, ln_M_signName, ln_M_signValue, ln_M_whose, ln_M_which, ln_M_pile, ln_M_reaches, ln_M_stepsOf, ln_M_known, ln_JB_needed, ln_JB_axes, ln_JS_used, ln_JS_stepWords, ln_PS_used, ln_PS_stepWords, ln_IN_rows, ln_EC_rows, ln_IR_names, ln_IR_values, ln_ER_names, ln_ER_values, ln_CD_kinds, ln_CD_names, ln_CD_values, ln_AX_values] <;> omega) | assumption) (by first | with_reducible assumption | exact rf_M_signValue H | assumption) (by first | with_reducible assumption | with_reducible exact kd_M_signValue | assumption) (by first | with_reducible assumption | (simp (disch := omega) only [z_0, z_1, z_2, z_3, z_4, z_5, z_6, z_7, z_8, z_9, z_10, z_12, z_13, z_20, z_21, z_25, z_56, z_350, z_31, z_32, z_36, z_48, z_57, z_61, z_97, z_100, z_122, z_125, z_126, z_144, z_255, z_700, z_1000, z_1548, nI_add, pk_mul, pk_sub, nI_clamp, nI_leI, nI_ltI, nI_eq, z_in, z_m1, z_m1b, lg_cmp_eq, z_cmp, Decidable.not_not, w_ie, w_in, w_il, w_le, w_ln, w_li, w_ir, w_lr, h8, a1, ln_P_tape, ln_W_text, ln_W_starts, ln_W_ends, ln_W_lines, ln_W_names, ln_W_values, ln_PL_jobs, ln_PL_parts, ln_FT_reached, ln_EX_jobs, ln_EX_codes, ln_CB_names, ln_CB_values, ln_M_tape, ln_M_source, ln_M_wordAt, ln_M_wordEnd, ln_M_names, ln_M_itemCount, ln_M_itemFirst, ln_M_itemWords, ln_M_itemUses, ln_M_keptAt, ln_M_keptEnd, ln_M_needCount, ln_M_axisCount, ln_M_valueCount, ln_M_needed, ln_M_axes, ln_M_values, ln_M_includes, ln_M_excludes, ln_M_pairCount, ln_M_pairName, ln_M_pairValue, ln_M_signCount, ln_M_signs, ln_M_signName, ln_M_signValue, ln_M_whose, ln_M_which, ln_M_pile, ln_M_reaches, ln_M_stepsOf, ln_M_known, ln_JB_needed, ln_JB_axes, ln_JS_used, ln_JS_stepWords, ln_PS_used, ln_PS_stepWords, ln_IN_rows, ln_EC_rows, ln_IR_names, ln_IR_values, ln_ER_names, ln_ER_values, ln_CD_kinds, ln_CD_names, ln_CD_values, ln_AX_values, ln_P_tape, ln_W_text, ln_W_starts, ln_W_ends, ln_W_lines, ln_W_names, ln_W_values, ln_PL_jobs, ln_PL_parts, ln_FT_reached, ln_EX_jobs, ln_EX_codes, ln_CB_names, ln_CB_values, ln_M_tape, ln_M_source, ln_M_wordAt, ln_M_wordEnd, ln_M_names, ln_M_itemCount, ln_M_itemFirst, ln_M_itemWords, ln_M_itemUses, ln_M_keptAt, ln_M_keptEnd, ln_M_needCount, ln_M_axisCount, ln_M_valueCount, ln_M_needed, ln_M_axes, ln_M_values, ln_M_includes, ln_M_excludes, ln_M_pairCount, ln_M_pairName, ln_M_pairValue, ln_M_signCount, ln_M_signs, ln_M_signName, ln_M_signValue, ln_M_whose, ln_M_which, ln_M_pile, ln_M_reaches, ln_M_stepsOf, ln_M_known, ln_JB_needed, ln_JB_axes, ln_JS_used, ln_JS_stepWords, ln_PS_used, ln_PS_stepWords, ln_IN_rows, ln_EC_rows, ln_IR_names, ln_IR_values, ln_ER_names, ln_ER_values, ln_CD_kinds, ln_CD_names, ln_CD_values, ln_AX_values] <;> omega) | assumption) (by first | with_reducible assumption | (simp (disch := omega) only [z_0, z_1, z_2, z_3, z_4, z_5, z_6, z_7, z_8, z_9, z_10, z_12, z_13, z_20, z_21, z_25, z_56, z_350, z_31, z_32, z_36, z_48, z_57, z_61, z_97, z_100, z_122, z_125, z_126, z_144, z_255, z_700, z_1000, z_1548, nI_add, pk_mul, pk_sub, nI_clamp, nI_leI, nI_ltI, nI_eq, z_in, z_m1, z_m1b, lg_cmp_eq, z_cmp, Decidable.not_not, w_ie, w_in, w_il, w_le, w_ln, w_li, w_ir, w_lr, h8, a1, ln_P_tape, ln_W_text, ln_W_starts, ln_W_ends, ln_W_lines, ln_W_names, ln_W_values, ln_PL_jobs, ln_PL_parts, ln_FT_reached, ln_EX_jobs, ln_EX_codes, ln_CB_names, ln_CB_values, ln_M_tape, ln_M_source, ln_M_wordAt, ln_M_wordEnd, ln_M_names, ln_M_itemCount, ln_M_itemFirst, ln_M_itemWords, ln_M_itemUses, ln_M_keptAt, ln_M_keptEnd, ln_M_needCount, ln_M_axisCount, ln_M_valueCount, ln_M_needed, ln_M_axes, ln_M_values, ln_M_includes, ln_M_excludes, ln_M_pairCount, ln_M_pairName, ln_M_pairValue, ln_M_signCount, ln_M_signs, ln_M_signName, ln_M_signValue, ln_M_whose, ln_M_which, ln_M_pile, ln_M_reaches, ln_M_stepsOf, ln_M_known, ln_JB_needed, ln_JB_axes, ln_JS_used, ln_JS_stepWords, ln_PS_used, ln_PS_stepWords, ln_IN_rows, ln_EC_rows, ln_IR_names, ln_IR_values, ln_ER_names, ln_ER_values, ln_CD_kinds, ln_CD_names, ln_CD_values, ln_AX_values, ln_P_tape, ln_W_text, ln_W_starts, ln_W_ends, ln_W_lines, ln_W_names, ln_W_values, ln_PL_jobs, ln_PL_parts, ln_FT_reached, ln_EX_jobs, ln_EX_codes, ln_CB_names, ln_CB_values, ln_M_tape, ln_M_source, ln_M_wordAt, ln_M_wordEnd, ln_M_names, ln_M_itemCount, ln_M_itemFirst, ln_M_itemWords, ln_M_itemUses, ln_M_keptAt, ln_M_keptEnd, ln_M_needCount, ln_M_axisCount, ln_M_valueCount, ln_M_needed, ln_M_axes, ln_M_values, ln_M_includes, ln_M_excludes, ln_M_pairCount, ln_M_pairName, ln_M_pairValue, ln_M_signCount, ln_M_signs, ln_M_signName, ln_M_signValue, ln_M_whose, ln_M_which, ln_M_pile, ln_M_reaches, ln_M_stepsOf, ln_M_known, ln_JB_needed, ln_JB_axes, ln_JS_used, ln_JS_stepWords, ln_PS_used, ln_PS_stepWords, ln_IN_rows, ln_EC_rows, ln_IR_names, ln_IR_values, ln_ER_names, ln_ER_values, ln_CD_kinds, ln_CD_names, ln_CD_values, ln_AX_values] <;> omega) | assumption) (by first | with_reducible assumption | (simp (disch := omega) only [z_0, z_1, z_2, z_3, z_4, z_5, z_6, z_7, z_8, z_9, z_10, z_12, z_13, z_20, z_21, z_25, z_56, z_350, z_31, z_32, z_36, z_48, z_57, z_61, z_97, z_100, z_122, z_125, z_126, z_144, z_255, z_700, z_1000, z_1548, nI_add, pk_mul, pk_sub, nI_clamp, nI_leI, nI_ltI, nI_eq, z_in, z_m1, z_m1b, lg_cmp_eq, z_cmp, Decidable.not_not, w_ie, w_in, w_il, w_le, w_ln, w_li, w_ir, w_lr, h8, a1, ln_P_tape, ln_W_text, ln_W_starts, ln_W_ends, ln_W_lines, ln_W_names, ln_W_values, ln_PL_jobs, ln_PL_parts, ln_FT_reached, ln_EX_jobs, ln_EX_codes, ln_CB_names, ln_CB_values, ln_M_tape, ln_M_source, ln_M_wordAt, ln_M_wordEnd, ln_M_names, ln_M_itemCount, ln_M_itemFirst, ln_M_itemWords, ln_M_itemUses, ln_M_keptAt, ln_M_keptEnd, ln_M_needCount, ln_M_axisCount, ln_M_valueCount, ln_M_needed, ln_M_axes, ln_M_values, ln_M_includes, ln_M_excludes, ln_M_pairCount, ln_M_pairName, ln_M_pairValue, ln_M_signCount, ln_M_signs, ln_M_signName, ln_M_signValue, ln_M_whose, ln_M_which, ln_M_pile, ln_M_reaches, ln_M_stepsOf, ln_M_known, ln_JB_needed, ln_JB_axes, ln_JS_used, ln_JS_stepWords, ln_PS_used, ln_PS_stepWords, ln_IN_rows, ln_EC_rows, ln_IR_names, ln_IR_values, ln_ER_names, ln_ER_values, ln_CD_kinds, ln_CD_names, ln_CD_values, ln_AX_values, ln_P_tape, ln_W_text, ln_W_starts, ln_W_ends, ln_W_lines, ln_W_names, ln_W_values, ln_PL_jobs, ln_PL_parts, ln_FT_reached, ln_EX_jobs, ln_EX_codes, ln_CB_names, ln_CB_values, ln_M_tape, ln_M_source, ln_M_wordAt, ln_M_wordEnd, ln_M_names, ln_M_itemCount, ln_M_itemFirst, ln_M_itemWords, ln_M_itemUses, ln_M_keptAt, ln_M_keptEnd, ln_M_needCount, ln_M_axisCount, ln_M_valueCount, ln_M_needed, ln_M_axes, ln_M_values, ln_M_includes, ln_M_excludes, ln_M_pairCount, ln_M_pairName, ln_M_pairValue, ln_M_signCount, ln_M_signs, ln_M_signName, ln_M_signValue, ln_M_whose, ln_M_which, ln_M_pile, ln_M_reaches, ln_M_stepsOf, ln_M_known, ln_JB_needed, ln_JB_axes, ln_JS_used, ln_JS_stepWords, ln_PS_used, ln_PS_stepWords, ln_IN_rows, ln_EC_rows, ln_IR_names, ln_IR_values, ln_ER_names, ln_ER_values, ln_CD_kinds, ln_CD_names, ln_CD_values, ln_AX_values] <;> omega) | assumption) ?_
  simp (disch := omega) only [z_0, z_1, z_2, z_3, z_4, z_5, z_6, z_7, z_8, z_9, z_10, z_12, z_13, z_20, z_21, z_25, z_56, z_350, z_31, z_32, z_36, z_48, z_57, z_61, z_97, z_100, z_122, z_125, z_126, z_144, z_255, z_700, z_1000, z_1548, nI_add, pk_mul, pk_sub, nI_clamp, nI_leI, nI_ltI, nI_eq, z_in, z_m1, z_m1b, lg_cmp_eq, z_cmp, Decidable.not_not, w_ie, w_in, w_il, w_le, w_ln, w_li, w_ir, w_lr, h8, a1]
  refine kk _ ⟨?_, ?_, fun i hi => ?_⟩ ((((fr.wi (P := fun a i => (a = 596 ∧ i = j) ∨ ((a = 597 ∨ a = 598 ∨ a = 599) ∧ 20 * j ≤ i ∧ i < 20 * j + 20)) fr.rfl' (by omega)).wl (by omega)).wl (by omega)).wi (by omega))
  · rw [List.length_append]
    simp (disch := omega) only [z_0, z_1, z_2, z_3, z_4, z_5, z_6, z_7, z_8, z_9, z_10, z_12, z_13, z_20, z_21, z_25, z_56, z_350, z_31, z_32, z_36, z_48, z_57, z_61, z_97, z_100, z_122, z_125, z_126, z_144, z_255, z_700, z_1000, z_1548, nI_add, pk_mul, pk_sub, nI_clamp, nI_leI, nI_ltI, nI_eq, z_in, z_m1, z_m1b, lg_cmp_eq, z_cmp, Decidable.not_not, w_ie, w_in, w_il, w_le, w_ln, w_li, w_ir, w_lr]
    rfl
  · rw [List.length_append]
    exact hl
  · rw [List.length_append] at hi
    have hi : i < t.length + 1 := hi
    rcases Nat.lt_or_ge i t.length with q | q
    · rw [getD_app_l q]
      obtain ⟨b1, b2, b3⟩ := a3 i q
      exact ⟨by simp (disch := omega) only [z_0, z_1, z_2, z_3, z_4, z_5, z_6, z_7, z_8, z_9, z_10, z_12, z_13, z_20, z_21, z_25, z_56, z_350, z_31, z_32, z_36, z_48, z_57, z_61, z_97, z_100, z_122, z_125, z_126, z_144, z_255, z_700, z_1000, z_1548, nI_add, pk_mul, pk_sub, nI_clamp, nI_leI, nI_ltI, nI_eq, z_in, z_m1, z_m1b, lg_cmp_eq, z_cmp, Decidable.not_not, w_ie, w_in, w_il, w_le, w_ln, w_li, w_ir, w_lr, b1], by simp (disch := omega) only [z_0, z_1, z_2, z_3, z_4, z_5, z_6, z_7, z_8, z_9, z_10, z_12, z_13, z_20, z_21, z_25, z_56, z_350, z_31, z_32, z_36, z_48, z_57, z_61, z_97, z_100, z_122, z_125, z_126, z_144, z_255, z_700, z_1000, z_1548, nI_add, pk_mul, pk_sub, nI_clamp, nI_leI, nI_ltI, nI_eq, z_in, z_m1, z_m1b, lg_cmp_eq, z_cmp, Decidable.not_not, w_ie, w_in, w_il, w_le, w_ln, w_li, w_ir, w_lr, b2], by simp (disch := omega) only [z_0, z_1, z_2, z_3, z_4, z_5, z_6, z_7, z_8, z_9, z_10, z_12, z_13, z_20, z_21, z_25, z_56, z_350, z_31, z_32, z_36, z_48, z_57, z_61, z_97, z_100, z_122, z_125, z_126, z_144, z_255, z_700, z_1000, z_1548, nI_add, pk_mul, pk_sub, nI_clamp, nI_leI, nI_ltI, nI_eq, z_in, z_m1, z_m1b, lg_cmp_eq, z_cmp, Decidable.not_not, w_ie, w_in, w_il, w_le, w_ln, w_li, w_ir, w_lr, b3]⟩
    · have ei : i = t.length := by omega
      subst ei
      rw [getD_app_e]
      exact ⟨by simp (disch := omega) only [z_0, z_1, z_2, z_3, z_4, z_5, z_6, z_7, z_8, z_9, z_10, z_12, z_13, z_20, z_21, z_25, z_56, z_350, z_31, z_32, z_36, z_48, z_57, z_61, z_97, z_100, z_122, z_125, z_126, z_144, z_255, z_700, z_1000, z_1548, nI_add, pk_mul, pk_sub, nI_clamp, nI_leI, nI_ltI, nI_eq, z_in, z_m1, z_m1b, lg_cmp_eq, z_cmp, Decidable.not_not, w_ie, w_in, w_il, w_le, w_ln, w_li, w_ir, w_lr], by simp (disch := omega) only [z_0, z_1, z_2, z_3, z_4, z_5, z_6, z_7, z_8, z_9, z_10, z_12, z_13, z_20, z_21, z_25, z_56, z_350, z_31, z_32, z_36, z_48, z_57, z_61, z_97, z_100, z_122, z_125, z_126, z_144, z_255, z_700, z_1000, z_1548, nI_add, pk_mul, pk_sub, nI_clamp, nI_leI, nI_ltI, nI_eq, z_in, z_m1, z_m1b, lg_cmp_eq, z_cmp, Decidable.not_not, w_ie, w_in, w_il, w_le, w_ln, w_li, w_ir, w_lr], by simp (disch := omega) only [z_0, z_1, z_2, z_3, z_4, z_5, z_6, z_7, z_8, z_9, z_10, z_12, z_13, z_20, z_21, z_25, z_56, z_350, z_31, z_32, z_36, z_48, z_57, z_61, z_97, z_100, z_122, z_125, z_126, z_144, z_255, z_700, z_1000, z_1548, nI_add, pk_mul, pk_sub, nI_clamp, nI_leI, nI_ltI, nI_eq, z_in, z_m1, z_m1b, lg_cmp_eq, z_cmp, Decidable.not_not, w_ie, w_in, w_il, w_le, w_ln, w_li, w_ir, w_lr]⟩
/-- the pile, its top first -/
def PiL (h : mj_H) : List Nat → Prop
  | [] => True
  | s :: r => h.1 602 r.length = nI s ∧ PiL h r
theorem PiL.of {h h' : mj_H} : ∀ {π : List Nat}, PiL h π → (∀ i, i < π.length → h'.1 602 i = h.1 602 i) → PiL h' π
  | [], _, _ => trivial
  | _ :: r, A, m => ⟨(m r.length (Nat.lt_succ_self _)).trans A.1, PiL.of A.2 (fun i hi => m i (Nat.lt_succ_of_lt hi))⟩
def PiM (h : mj_H) (π : List Nat) : Prop := h.1 573 38 = nI π.length ∧ π.length ≤ 23 ∧ (∀ s ∈ π, s < 6) ∧ PiL h π
theorem sN_len : ∀ {π : List Nat}, (sN π).length ≤ π.length
  | [] => Nat.le_refl 0
  | s :: r => by
    unfold sN
    split
    · exact Nat.le_succ_of_le sN_len
    · exact Nat.le_refl _
/-- ends -/
theorem s47 {d : Nat} {h : mj_H} {Q : Option Value → mj_H → Prop} {π : List Nat} (H : mj_RS h) (hP : PiM h π) (k : ∀ h', PiM h' (sN π) → fr (fun a i => a = 573 ∧ i = 38) h h' → Q none h') : mr_C mj_KK d 47 [.ref 573] h Q := by
  show mr_M mj_KK d 47 0 [some (.ref 573)] [] h Q
  induction π generalizing h with
  | nil =>
    have a1 := hP.1
    exact kb_47_0 (by first | with_reducible assumption | with_reducible exact kd_M | assumption) (fun _ => kb_47_35 (k h hP fr.rfl')) (fun c => by rw [a1] at c; exact absurd (by decide) c)
  | cons s r ih =>
    obtain ⟨a1, a2, a3, a4, a5⟩ := id hP
    have a1 : h.1 573 38 = nI (r.length + 1) := a1
    have a2 : r.length + 1 ≤ 23 := a2
    have s6 := a3 s List.mem_cons_self
    have es : r.length + 1 - 1 = r.length := by omega
    unfold sN at k
    refine kb_47_0 (by first | with_reducible assumption | with_reducible exact kd_M | assumption) (fun c => (by simp (disch := omega) only [z_0, z_1, z_2, z_3, z_4, z_5, z_6, z_7, z_8, z_9, z_10, z_12, z_13, z_20, z_21, z_25, z_56, z_350, z_31, z_32, z_36, z_48, z_57, z_61, z_97, z_100, z_122, z_125, z_126, z_144, z_255, z_700, z_1000, z_1548, nI_add, pk_mul, pk_sub, nI_clamp, nI_leI, nI_ltI, nI_eq, z_in, z_m1, z_m1b, lg_cmp_eq, z_cmp, Decidable.not_not, w_ie, w_in, w_il, w_le, w_ln, w_li, w_ir, w_lr, a1] at c; exfalso; omega)) (fun _ => kb_47_7 (by first | with_reducible assumption | with_reducible exact kd_M | assumption) (by first | with_reducible assumption | exact rf_M_pile H | assumption) (by first | with_reducible assumption | with_reducible exact kd_M_pile | assumption) (by first | with_reducible assumption | (simp (disch := omega) only [z_0, z_1, z_2, z_3, z_4, z_5, z_6, z_7, z_8, z_9, z_10, z_12, z_13, z_20, z_21, z_25, z_56, z_350, z_31, z_32, z_36, z_48, z_57, z_61, z_97, z_100, z_122, z_125, z_126, z_144, z_255, z_700, z_1000, z_1548, nI_add, pk_mul, pk_sub, nI_clamp, nI_leI, nI_ltI, nI_eq, z_in, z_m1, z_m1b, lg_cmp_eq, z_cmp, Decidable.not_not, w_ie, w_in, w_il, w_le, w_ln, w_li, w_ir, w_lr, a1, ln_P_tape, ln_W_text, ln_W_starts, ln_W_ends, ln_W_lines, ln_W_names, ln_W_values, ln_PL_jobs, ln_PL_parts, ln_FT_reached, ln_EX_jobs, ln_EX_codes, ln_CB_names, ln_CB_values, ln_M_tape, ln_M_source, ln_M_wordAt, ln_M_wordEnd, ln_M_names, ln_M_itemCount, ln_M_itemFirst, ln_M_itemWords, ln_M_itemUses, ln_M_keptAt, ln_M_keptEnd, ln_M_needCount, ln_M_axisCount, ln_M_valueCount, ln_M_needed, ln_M_axes, ln_M_values, ln_M_includes, ln_M_excludes, ln_M_pairCount, ln_M_pairName, ln_M_pairValue, ln_M_signCount, ln_M_signs, ln_M_signName, ln_M_signValue, ln_M_whose, ln_M_which, ln_M_pile, ln_M_reaches, ln_M_stepsOf, ln_M_known, ln_JB_needed, ln_JB_axes, ln_JS_used, ln_JS_stepWords, ln_PS_used, ln_PS_stepWords, ln_IN_rows, ln_EC_rows, ln_IR_names, ln_IR_values, ln_ER_names, ln_ER_values, ln_CD_kinds, ln_CD_names, ln_CD_values, ln_AX_values] <;> omega) | assumption) (fun c => ?_) (fun c => ?_))
    · simp (disch := omega) only [z_0, z_1, z_2, z_3, z_4, z_5, z_6, z_7, z_8, z_9, z_10, z_12, z_13, z_20, z_21, z_25, z_56, z_350, z_31, z_32, z_36, z_48, z_57, z_61, z_97, z_100, z_122, z_125, z_126, z_144, z_255, z_700, z_1000, z_1548, nI_add, pk_mul, pk_sub, nI_clamp, nI_leI, nI_ltI, nI_eq, z_in, z_m1, z_m1b, lg_cmp_eq, z_cmp, Decidable.not_not, w_ie, w_in, w_il, w_le, w_ln, w_li, w_ir, w_lr, a1, es, a4] at c
      rw [if_neg c] at k
      exact kb_47_35 (k h hP fr.rfl')
    · simp (disch := omega) only [z_0, z_1, z_2, z_3, z_4, z_5, z_6, z_7, z_8, z_9, z_10, z_12, z_13, z_20, z_21, z_25, z_56, z_350, z_31, z_32, z_36, z_48, z_57, z_61, z_97, z_100, z_122, z_125, z_126, z_144, z_255, z_700, z_1000, z_1548, nI_add, pk_mul, pk_sub, nI_clamp, nI_leI, nI_ltI, nI_eq, z_in, z_m1, z_m1b, lg_cmp_eq, z_cmp, Decidable.not_not, w_ie, w_in, w_il, w_le, w_ln, w_li, w_ir, w_lr, a1, es, a4] at c
      rw [if_pos c] at k
      refine kb_47_22 (by first | with_reducible assumption | with_reducible exact kd_M | assumption) ?_
      simp (disch := omega) only [z_0, z_1, z_2, z_3, z_4, z_5, z_6, z_7, z_8, z_9, z_10, z_12, z_13, z_20, z_21, z_25, z_56, z_350, z_31, z_32, z_36, z_48, z_57, z_61, z_97, z_100, z_122, z_125, z_126, z_144, z_255, z_700, z_1000, z_1548, nI_add, pk_mul, pk_sub, nI_clamp, nI_leI, nI_ltI, nI_eq, z_in, z_m1, z_m1b, lg_cmp_eq, z_cmp, Decidable.not_not, w_ie, w_in, w_il, w_le, w_ln, w_li, w_ir, w_lr, a1, es]
      refine ih ?_ ⟨by simp (disch := omega) only [z_0, z_1, z_2, z_3, z_4, z_5, z_6, z_7, z_8, z_9, z_10, z_12, z_13, z_20, z_21, z_25, z_56, z_350, z_31, z_32, z_36, z_48, z_57, z_61, z_97, z_100, z_122, z_125, z_126, z_144, z_255, z_700, z_1000, z_1548, nI_add, pk_mul, pk_sub, nI_clamp, nI_leI, nI_ltI, nI_eq, z_in, z_m1, z_m1b, lg_cmp_eq, z_cmp, Decidable.not_not, w_ie, w_in, w_il, w_le, w_ln, w_li, w_ir, w_lr], by omega, fun x hx => a3 x (List.mem_cons_of_mem _ hx), a5.of (fun i hi => by simp (disch := omega) only [z_0, z_1, z_2, z_3, z_4, z_5, z_6, z_7, z_8, z_9, z_10, z_12, z_13, z_20, z_21, z_25, z_56, z_350, z_31, z_32, z_36, z_48, z_57, z_61, z_97, z_100, z_122, z_125, z_126, z_144, z_255, z_700, z_1000, z_1548, nI_add, pk_mul, pk_sub, nI_clamp, nI_leI, nI_ltI, nI_eq, z_in, z_m1, z_m1b, lg_cmp_eq, z_cmp, Decidable.not_not, w_ie, w_in, w_il, w_le, w_ln, w_li, w_ir, w_lr])⟩ (fun h' g1 g2 => k h' g1 ((fr.wi (P := fun a i => a = 573 ∧ i = 38) fr.rfl' ⟨rfl, rfl⟩).trans g2))
      exact H
/-- what a due word gives: how many words, the sign, the pile -/
def duS (T : Nat → Tk) (e k : Nat) (π : List Nat) : Option (Nat × Sg × List Nat) :=
  if (T k).1 = 3 ∨ (T k).1 = 4 then (if π.length < 6 then some (1, ((T k).1, 0, 0), (T k).1 :: π) else none)
  else if (T k).1 = 6 then some (1, (6, 0, 0), π)
  else if (T k).1 = 7 ∨ (T k).1 = 8 then (if k + 1 < e ∧ (T (k + 1)).2.1 ≠ 0 then some (2, ((T k).1, (T (k + 1)).2.1, 0), π) else none)
  else if (T k).2.2.2 ≠ 0 then some (1, (9, (T k).2.2.1, (T k).2.2.2), π) else none
theorem rp_du {T : Nat → Tk} {n k e : Nat} {π : List Nat} {t : List Sg} (he : k + (n + 1) = e) : rp T (n + 1) true k π t = (duS T e k π).bind (fun r => if r.2.1.1 = 3 ∨ r.2.1.1 = 4 then rp T n true (k + 1) r.2.2 (t ++ [r.2.1]) else rp T (n + 1 - r.1) false (k + r.1) (sN r.2.2) (t ++ [r.2.1])) := by
  rw [rp_t]
  unfold duS
  by_cases q3 : (T k).1 = 3 ∨ (T k).1 = 4
  · rw [if_pos q3, if_pos q3]
    by_cases q : π.length < 6
    · rw [if_pos q, if_pos q, bd_s]
      show _ = if (T k).1 = 3 ∨ (T k).1 = 4 then _ else _
      rw [if_pos q3]
    · rw [if_neg q, if_neg q]
      rfl
  · rw [if_neg q3, if_neg q3]
    by_cases q6 : (T k).1 = 6
    · rw [if_pos q6, if_pos q6, bd_s]
      rfl
    · rw [if_neg q6, if_neg q6]
      by_cases q7 : (T k).1 = 7 ∨ (T k).1 = 8
      · rw [if_pos q7, if_pos q7]
        match n, he with
        | 0, he =>
          rw [if_neg (fun r => absurd r.1 (by omega))]
          rfl
        | m + 1, he =>
          by_cases q : (T (k + 1)).2.1 = 0
          · rw [if_neg (fun r => r.2 q)]
            show (if (T (k + 1)).2.1 ≠ 0 then _ else none) = _
            rw [if_neg (fun r => r q)]
            rfl
          · rw [if_pos ⟨by omega, q⟩, bd_s]
            show (if (T (k + 1)).2.1 ≠ 0 then _ else none) = if (T k).1 = 3 ∨ (T k).1 = 4 then _ else _
            rw [if_pos q, if_neg q3]
            rfl
      · rw [if_neg q7, if_neg q7]
        by_cases q : (T k).2.2.2 = 0
        · rw [if_neg (fun r => r q), if_neg (fun r => r q)]
          rfl
        · rw [if_pos q, if_pos q, bd_s]
          rfl
section
variable {d j L w n i : Nat} {h : mj_H} {Q : Option Value → mj_H → Prop} {X : Nat → Int32} {W : List Wt} {t : List Sg} {π : List Nat}
/-- due -/
theorem s48 (hd : 4 ≤ d) (hj : j < 12) (H : mj_RS h) (h8 : h.1 573 8 = nI j) (hR : RW h X L W w n) (hk : wks X W) (hi : i < n) (hS : SgM h j t) (hl : t.length < 20) (hP : PiM h π) (h6 : π.length ≤ 6) (k0 : duS (tkW X W) (w + n) (w + i) π = none → ∀ h', fr (inMs j) h h' → Q (some (.int 0)) h') (k1 : ∀ r, duS (tkW X W) (w + n) (w + i) π = some r → ∀ h', SgM h' j (t ++ [r.2.1]) → PiM h' r.2.2 → fr (inMs j) h h' → Q (some (.int (nI r.1))) h') : mr_C mj_KK d 48 [.ref 573, .int (nI i)] h Q := by
  show mr_M mj_KK d 48 0 [some (.ref 573), some (.int (nI i)), none, none] [] h Q
  have hw := hR.2.2.2.1
  have hw5 := hR.2.2.2.2.1
  have ok := hk (w + i) (by omega)
  obtain ⟨p1, p2, p3, p4⟩ := id hP
  have mono : ∀ a i, ((a = 596 ∧ i = j) ∨ ((a = 597 ∨ a = 598 ∨ a = 599) ∧ 20 * j ≤ i ∧ i < 20 * j + 20)) → inMs j a i := fun a i q => by unfold inMs; omega
  have et : tkk (tx X (sp (W.getD (w + i) (0, 0, 0)))) = (tkW X W (w + i)).1 := rfl
  refine kb_48_0 (by first | with_reducible assumption | with_reducible exact kd_M | assumption) (by omega) (s30 (by omega) H hR hi ?_)
  unfold duS at k0 k1
  have push : ∀ s : Nat, (tkW X W (w + i)).1 = s → (s = 3 ∨ s = 4) → π.length < 6 → mr_M mj_KK d 48 54 [some (.ref 573), none, none, none] [.int (nI s), .int (h.1 573 38), .ref 602] h Q := by
    intro s e1 e2 e3
    simp only [e1, if_pos e2, if_pos e3] at k1
    refine kb_48_54 (by first | with_reducible assumption | with_reducible exact kd_W_starts | with_reducible exact kd_W_ends | with_reducible exact kd_W_lines | with_reducible exact kd_FT_reached | with_reducible exact kd_EX_jobs | with_reducible exact kd_EX_codes | with_reducible exact kd_M_tape | with_reducible exact kd_M_source | with_reducible exact kd_M_wordAt | with_reducible exact kd_M_wordEnd | with_reducible exact kd_M_itemCount | with_reducible exact kd_M_itemFirst | with_reducible exact kd_M_itemWords | with_reducible exact kd_M_keptAt | with_reducible exact kd_M_keptEnd | with_reducible exact kd_M_needCount | with_reducible exact kd_M_axisCount | with_reducible exact kd_M_valueCount | with_reducible exact kd_M_includes | with_reducible exact kd_M_excludes | with_reducible exact kd_M_pairCount | with_reducible exact kd_M_signCount | with_reducible exact kd_M_signs | with_reducible exact kd_M_whose | with_reducible exact kd_M_which | with_reducible exact kd_M_pile | with_reducible exact kd_M_stepsOf | with_reducible exact kd_JS_stepWords _ (by omega) | with_reducible exact kd_PS_stepWords _ (by omega) | with_reducible exact kd_CD_kinds _ (by omega) | assumption) (by first | with_reducible assumption | (simp (disch := omega) only [z_0, z_1, z_2, z_3, z_4, z_5, z_6, z_7, z_8, z_9, z_10, z_12, z_13, z_20, z_21, z_25, z_56, z_350, z_31, z_32, z_36, z_48, z_57, z_61, z_97, z_100, z_122, z_125, z_126, z_144, z_255, z_700, z_1000, z_1548, nI_add, pk_mul, pk_sub, nI_clamp, nI_leI, nI_ltI, nI_eq, z_in, z_m1, z_m1b, lg_cmp_eq, z_cmp, Decidable.not_not, w_ie, w_in, w_il, w_le, w_ln, w_li, w_ir, w_lr, p1, ln_P_tape, ln_W_text, ln_W_starts, ln_W_ends, ln_W_lines, ln_W_names, ln_W_values, ln_PL_jobs, ln_PL_parts, ln_FT_reached, ln_EX_jobs, ln_EX_codes, ln_CB_names, ln_CB_values, ln_M_tape, ln_M_source, ln_M_wordAt, ln_M_wordEnd, ln_M_names, ln_M_itemCount, ln_M_itemFirst, ln_M_itemWords, ln_M_itemUses, ln_M_keptAt, ln_M_keptEnd, ln_M_needCount, ln_M_axisCount, ln_M_valueCount, ln_M_needed, ln_M_axes, ln_M_values, ln_M_includes, ln_M_excludes, ln_M_pairCount, ln_M_pairName, ln_M_pairValue, ln_M_signCount, ln_M_signs, ln_M_signName, ln_M_signValue, ln_M_whose, ln_M_which, ln_M_pile, ln_M_reaches, ln_M_stepsOf, ln_M_known, ln_JB_needed, ln_JB_axes, ln_JS_used, ln_JS_stepWords, ln_PS_used, ln_PS_stepWords, ln_IN_rows, ln_EC_rows, ln_IR_names, ln_IR_values, ln_ER_names, ln_ER_values, ln_CD_kinds, ln_CD_names, ln_CD_values, ln_AX_values] <;> omega) | assumption) (by first | with_reducible assumption | with_reducible exact kd_M | assumption) (by first | with_reducible assumption | exact rf_M_pile H | assumption) (by first | with_reducible assumption | with_reducible exact kd_M_pile | assumption) (by first | with_reducible assumption | (simp (disch := omega) only [z_0, z_1, z_2, z_3, z_4, z_5, z_6, z_7, z_8, z_9, z_10, z_12, z_13, z_20, z_21, z_25, z_56, z_350, z_31, z_32, z_36, z_48, z_57, z_61, z_97, z_100, z_122, z_125, z_126, z_144, z_255, z_700, z_1000, z_1548, nI_add, pk_mul, pk_sub, nI_clamp, nI_leI, nI_ltI, nI_eq, z_in, z_m1, z_m1b, lg_cmp_eq, z_cmp, Decidable.not_not, w_ie, w_in, w_il, w_le, w_ln, w_li, w_ir, w_lr, p1, ln_P_tape, ln_W_text, ln_W_starts, ln_W_ends, ln_W_lines, ln_W_names, ln_W_values, ln_PL_jobs, ln_PL_parts, ln_FT_reached, ln_EX_jobs, ln_EX_codes, ln_CB_names, ln_CB_values, ln_M_tape, ln_M_source, ln_M_wordAt, ln_M_wordEnd, ln_M_names, ln_M_itemCount, ln_M_itemFirst, ln_M_itemWords, ln_M_itemUses, ln_M_keptAt, ln_M_keptEnd, ln_M_needCount, ln_M_axisCount, ln_M_valueCount, ln_M_needed, ln_M_axes, ln_M_values, ln_M_includes, ln_M_excludes, ln_M_pairCount, ln_M_pairName, ln_M_pairValue, ln_M_signCount, ln_M_signs, ln_M_signName, ln_M_signValue, ln_M_whose, ln_M_which, ln_M_pile, ln_M_reaches, ln_M_stepsOf, ln_M_known, ln_JB_needed, ln_JB_axes, ln_JS_used, ln_JS_stepWords, ln_PS_used, ln_PS_stepWords, ln_IN_rows, ln_EC_rows, ln_IR_names, ln_IR_values, ln_ER_names, ln_ER_values, ln_CD_kinds, ln_CD_names, ln_CD_values, ln_AX_values] <;> omega) | assumption) (by omega) ?_
    simp (disch := omega) only [z_0, z_1, z_2, z_3, z_4, z_5, z_6, z_7, z_8, z_9, z_10, z_12, z_13, z_20, z_21, z_25, z_56, z_350, z_31, z_32, z_36, z_48, z_57, z_61, z_97, z_100, z_122, z_125, z_126, z_144, z_255, z_700, z_1000, z_1548, nI_add, pk_mul, pk_sub, nI_clamp, nI_leI, nI_ltI, nI_eq, z_in, z_m1, z_m1b, lg_cmp_eq, z_cmp, Decidable.not_not, w_ie, w_in, w_il, w_le, w_ln, w_li, w_ir, w_lr, p1]
    have g : fr (inMs j) h (mj_w h 602 π.length (.int (nI s))) := fr.wi (P := inMs j) fr.rfl' (by unfold inMs; omega)
    have gS : SgM (mj_w h 602 π.length (.int (nI s))) j t := hS.fr (fr.wi (P := fun a _ => a = 602) fr.rfl' rfl) (by omega) (fun i hi => by omega)
    refine s46 (k := s) hj (g.rs H) (by simp (disch := omega) only [z_0, z_1, z_2, z_3, z_4, z_5, z_6, z_7, z_8, z_9, z_10, z_12, z_13, z_20, z_21, z_25, z_56, z_350, z_31, z_32, z_36, z_48, z_57, z_61, z_97, z_100, z_122, z_125, z_126, z_144, z_255, z_700, z_1000, z_1548, nI_add, pk_mul, pk_sub, nI_clamp, nI_leI, nI_ltI, nI_eq, z_in, z_m1, z_m1b, lg_cmp_eq, z_cmp, Decidable.not_not, w_ie, w_in, w_il, w_le, w_ln, w_li, w_ir, w_lr, h8]) gS hl (fun h' g1 g2 => kb_48_70 (by first | with_reducible assumption | with_reducible exact kd_M | assumption) ?_)
    have e38 : h'.1 573 38 = nI π.length := by rw [g2.n (by omega)]; simp (disch := omega) only [z_0, z_1, z_2, z_3, z_4, z_5, z_6, z_7, z_8, z_9, z_10, z_12, z_13, z_20, z_21, z_25, z_56, z_350, z_31, z_32, z_36, z_48, z_57, z_61, z_97, z_100, z_122, z_125, z_126, z_144, z_255, z_700, z_1000, z_1548, nI_add, pk_mul, pk_sub, nI_clamp, nI_leI, nI_ltI, nI_eq, z_in, z_m1, z_m1b, lg_cmp_eq, z_cmp, Decidable.not_not, w_ie, w_in, w_il, w_le, w_ln, w_li, w_ir, w_lr, p1]
    simp (disch := omega) only [z_0, z_1, z_2, z_3, z_4, z_5, z_6, z_7, z_8, z_9, z_10, z_12, z_13, z_20, z_21, z_25, z_56, z_350, z_31, z_32, z_36, z_48, z_57, z_61, z_97, z_100, z_122, z_125, z_126, z_144, z_255, z_700, z_1000, z_1548, nI_add, pk_mul, pk_sub, nI_clamp, nI_leI, nI_ltI, nI_eq, z_in, z_m1, z_m1b, lg_cmp_eq, z_cmp, Decidable.not_not, w_ie, w_in, w_il, w_le, w_ln, w_li, w_ir, w_lr, e38]
    refine k1 _ rfl _ (g1.fr (fr.wi (P := fun a i => a = 573) fr.rfl' rfl) (by omega) (fun i hi => by omega)) ⟨by simp (disch := omega) only [z_0, z_1, z_2, z_3, z_4, z_5, z_6, z_7, z_8, z_9, z_10, z_12, z_13, z_20, z_21, z_25, z_56, z_350, z_31, z_32, z_36, z_48, z_57, z_61, z_97, z_100, z_122, z_125, z_126, z_144, z_255, z_700, z_1000, z_1548, nI_add, pk_mul, pk_sub, nI_clamp, nI_leI, nI_ltI, nI_eq, z_in, z_m1, z_m1b, lg_cmp_eq, z_cmp, Decidable.not_not, w_ie, w_in, w_il, w_le, w_ln, w_li, w_ir, w_lr]; rfl, by show π.length + 1 ≤ 23; omega, fun x hx => ?_, ?_, p4.of (fun i hi => ?_)⟩ ((g.trans (g2.mono mono)).wi (by unfold inMs; omega))
    · rcases List.mem_cons.mp hx with r | r
      · rw [r]
        omega
      · exact p3 x r
    · have : h'.1 602 π.length = nI s := by rw [g2.n (by omega)]; simp (disch := omega) only [z_0, z_1, z_2, z_3, z_4, z_5, z_6, z_7, z_8, z_9, z_10, z_12, z_13, z_20, z_21, z_25, z_56, z_350, z_31, z_32, z_36, z_48, z_57, z_61, z_97, z_100, z_122, z_125, z_126, z_144, z_255, z_700, z_1000, z_1548, nI_add, pk_mul, pk_sub, nI_clamp, nI_leI, nI_ltI, nI_eq, z_in, z_m1, z_m1b, lg_cmp_eq, z_cmp, Decidable.not_not, w_ie, w_in, w_il, w_le, w_ln, w_li, w_ir, w_lr]
      simp (disch := omega) only [z_0, z_1, z_2, z_3, z_4, z_5, z_6, z_7, z_8, z_9, z_10, z_12, z_13, z_20, z_21, z_25, z_56, z_350, z_31, z_32, z_36, z_48, z_57, z_61, z_97, z_100, z_122, z_125, z_126, z_144, z_255, z_700, z_1000, z_1548, nI_add, pk_mul, pk_sub, nI_clamp, nI_leI, nI_ltI, nI_eq, z_in, z_m1, z_m1b, lg_cmp_eq, z_cmp, Decidable.not_not, w_ie, w_in, w_il, w_le, w_ln, w_li, w_ir, w_lr, this]
    · have : h'.1 602 i = h.1 602 i := by rw [g2.n (by omega)]; simp (disch := omega) only [z_0, z_1, z_2, z_3, z_4, z_5, z_6, z_7, z_8, z_9, z_10, z_12, z_13, z_20, z_21, z_25, z_56, z_350, z_31, z_32, z_36, z_48, z_57, z_61, z_97, z_100, z_122, z_125, z_126, z_144, z_255, z_700, z_1000, z_1548, nI_add, pk_mul, pk_sub, nI_clamp, nI_leI, nI_ltI, nI_eq, z_in, z_m1, z_m1b, lg_cmp_eq, z_cmp, Decidable.not_not, w_ie, w_in, w_il, w_le, w_ln, w_li, w_ir, w_lr]
      simp (disch := omega) only [z_0, z_1, z_2, z_3, z_4, z_5, z_6, z_7, z_8, z_9, z_10, z_12, z_13, z_20, z_21, z_25, z_56, z_350, z_31, z_32, z_36, z_48, z_57, z_61, z_97, z_100, z_122, z_125, z_126, z_144, z_255, z_700, z_1000, z_1548, nI_add, pk_mul, pk_sub, nI_clamp, nI_leI, nI_ltI, nI_eq, z_in, z_m1, z_m1b, lg_cmp_eq, z_cmp, Decidable.not_not, w_ie, w_in, w_il, w_le, w_ln, w_li, w_ir, w_lr, this]
  have pp : ∀ s : Nat, (tkW X W (w + i)).1 = s → (s = 3 ∨ s = 4) → mr_M mj_KK d 48 22 [some (.ref 573), none, some (.long (wd X (sp (W.getD (w + i) (0, 0, 0))))), none] [] h Q := by
    intro s e1 e2
    refine kb_48_22 (by first | with_reducible assumption | with_reducible exact kd_M | assumption) (fun c => ?_) (fun c => ?_)
    · simp (disch := omega) only [z_0, z_1, z_2, z_3, z_4, z_5, z_6, z_7, z_8, z_9, z_10, z_12, z_13, z_20, z_21, z_25, z_56, z_350, z_31, z_32, z_36, z_48, z_57, z_61, z_97, z_100, z_122, z_125, z_126, z_144, z_255, z_700, z_1000, z_1548, nI_add, pk_mul, pk_sub, nI_clamp, nI_leI, nI_ltI, nI_eq, z_in, z_m1, z_m1b, lg_cmp_eq, z_cmp, Decidable.not_not, w_ie, w_in, w_il, w_le, w_ln, w_li, w_ir, w_lr, p1] at c
      refine kb_48_33 (by first | with_reducible assumption | with_reducible exact kd_M | assumption) (by first | with_reducible assumption | exact rf_M_pile H | assumption) (fun c2 => ?_) (fun c2 => ?_)
      · rw [kwc3 ok, et] at c2
        have : s = 3 := by omega
        subst this
        exact kb_48_53 (push 3 e1 e2 (by omega))
      · rw [kwc3 ok, et, Decidable.not_not] at c2
        have : s = 4 := by omega
        subst this
        exact kb_48_49 (push 4 e1 e2 (by omega))
    · simp (disch := omega) only [z_0, z_1, z_2, z_3, z_4, z_5, z_6, z_7, z_8, z_9, z_10, z_12, z_13, z_20, z_21, z_25, z_56, z_350, z_31, z_32, z_36, z_48, z_57, z_61, z_97, z_100, z_122, z_125, z_126, z_144, z_255, z_700, z_1000, z_1548, nI_add, pk_mul, pk_sub, nI_clamp, nI_leI, nI_ltI, nI_eq, z_in, z_m1, z_m1b, lg_cmp_eq, z_cmp, Decidable.not_not, w_ie, w_in, w_il, w_le, w_ln, w_li, w_ir, w_lr, p1] at c
      simp only [e1, if_pos e2, if_neg (show ¬ π.length < 6 by omega)] at k0
      exact kb_48_31 (k0 (by trivial) h fr.rfl')
  refine kb_48_5 (fun c => ?_) (fun c => ?_)
  · rw [kwc2 ok, et] at c
    exact pp 3 c (Or.inl rfl)
  rw [kwc2 ok, et] at c
  refine kb_48_14 (fun c4 => ?_) (fun c4 => ?_)
  rotate_left
  · rw [kwc3 ok, et, Decidable.not_not] at c4
    exact pp 4 c4 (Or.inr rfl)
  rw [kwc3 ok, et] at c4
  simp only [if_neg (show ¬ ((tkW X W (w + i)).1 = 3 ∨ (tkW X W (w + i)).1 = 4) from fun r => r.elim c c4)] at k0 k1
  refine kb_48_82 (fun c6 => ?_) (fun c6 => ?_)
  rotate_left
  · rw [kwc5 ok, et, Decidable.not_not] at c6
    simp only [if_pos c6] at k1
    exact kb_48_90 (by first | with_reducible assumption | with_reducible exact kd_M | assumption) (by omega) (s46 (k := 6) hj H h8 hS hl (fun h' g1 g2 => kb_48_98 (k1 _ rfl h' g1 ⟨(g2.n (by omega)).trans p1, p2, p3, p4.of (fun i hi => g2.n (by omega))⟩ (g2.mono mono))))
  rw [kwc5 ok, et] at c6
  simp only [if_neg c6] at k0 k1
  have okbad : ∀ s : Nat, (tkW X W (w + i)).1 = s → (s = 7 ∨ s = 8) → mr_M mj_KK d 48 132 [some (.ref 573), some (.int (nI i)), none, none] [.int (nI s), .ref 573] h Q := by
    intro s e1 e2
    simp only [e1, if_pos e2] at k0 k1
    refine kb_48_132 (by first | with_reducible assumption | with_reducible exact kd_M | assumption) (by omega) ?_
    rw [nI_1]
    rcases Nat.lt_or_ge (i + 1) n with hi1 | hi1
    · refine s31 (by omega) H hR hi1 ?_
      have en : nw X (sp (W.getD (w + (i + 1)) (0, 0, 0))) = (tkW X W (w + i + 1)).2.1 := rfl
      rw [en]
      refine kb_48_139 (by first | with_reducible assumption | with_reducible exact kd_M | assumption) (by omega) (s46 (k := s) hj H h8 hS hl (fun h' g1 g2 => ?_))
      have H' := g2.rs H
      have hR' : RW h' X L W w n := hR.fr g2 (fun i => by omega) (by omega)
      refine kb_48_143 (by first | with_reducible assumption | with_reducible exact kd_M | assumption) (by omega) ?_
      rw [nI_1]
      refine s31 (by omega) H' hR' hi1 ?_
      rw [en]
      refine kb_48_150 (fun c => ?_) (fun c => ?_)
      · rw [lg_cmp_eq] at c
        simp only [if_neg (show ¬ (w + i + 1 < w + n ∧ (tkW X W (w + i + 1)).2.1 ≠ 0) from fun r => r.2 c)] at k0
        exact kb_48_159 (kb_48_160 (k0 (by trivial) h' (g2.mono mono)))
      · rw [lg_cmp_eq] at c
        simp only [if_pos (show (w + i + 1 < w + n ∧ (tkW X W (w + i + 1)).2.1 ≠ 0) from ⟨by omega, c⟩)] at k1
        exact kb_48_155 (kb_48_160 (k1 _ rfl h' g1 ⟨(g2.n (by omega)).trans p1, p2, p3, p4.of (fun i hi => g2.n (by omega))⟩ (g2.mono mono)))
    · simp only [if_neg (show ¬ (w + i + 1 < w + n ∧ (tkW X W (w + i + 1)).2.1 ≠ 0) from fun r => absurd r.1 (by omega))] at k0
      refine s31o H hR hi1 (by omega) ?_
      refine kb_48_139 (by first | with_reducible assumption | with_reducible exact kd_M | assumption) (by omega) (s46 (k := s) hj H h8 hS hl (fun h' g1 g2 => ?_))
      have H' := g2.rs H
      have hR' : RW h' X L W w n := hR.fr g2 (fun i => by omega) (by omega)
      refine kb_48_143 (by first | with_reducible assumption | with_reducible exact kd_M | assumption) (by omega) ?_
      rw [nI_1]
      exact s31o H' hR' hi1 (by omega) (kb_48_150 (fun _ => kb_48_159 (kb_48_160 (k0 (by trivial) h' (g2.mono mono)))) (fun c => absurd (by decide) c))
  have ok2 : ((tkW X W (w + i)).1 = 7 ∨ (tkW X W (w + i)).1 = 8) → mr_M mj_KK d 48 116 [some (.ref 573), some (.int (nI i)), some (.long (wd X (sp (W.getD (w + i) (0, 0, 0))))), none] [] h Q := by
    intro e2
    refine kb_48_116 (fun c => ?_) (fun c => ?_)
    · rw [kwc6 ok, et] at c
      have : (tkW X W (w + i)).1 = 8 := e2.elim (fun r => absurd r c) id
      exact kb_48_130 (okbad 8 this (Or.inr rfl))
    · rw [kwc6 ok, et, Decidable.not_not] at c
      exact kb_48_125 (okbad 7 c (Or.inl rfl))
  refine kb_48_100 (fun c7 => ?_) (fun c7 => ?_)
  · rw [kwc6 ok, et] at c7
    exact ok2 (Or.inl c7)
  rw [kwc6 ok, et] at c7
  refine kb_48_108 (fun c8 => ?_) (fun c8 => ?_)
  rotate_left
  · rw [kwc7 ok, et, Decidable.not_not] at c8
    exact ok2 (Or.inr c8)
  rw [kwc7 ok, et] at c8
  simp only [if_neg (show ¬ ((tkW X W (w + i)).1 = 7 ∨ (tkW X W (w + i)).1 = 8) from fun r => r.elim c7 c8)] at k0 k1
  have ep : (tkW X W (w + i)).2.2 = pw X (sp (W.getD (w + i) (0, 0, 0))) := rfl
  refine kb_48_161 (by first | with_reducible assumption | with_reducible exact kd_M | assumption) (by omega) (s33 (by omega) H hR hi ?_)
  rcases pw_LR (X := X) (t := sp (W.getD (w + i) (0, 0, 0))) with ⟨q1, q2⟩ | ⟨q1, q2, q3⟩
  · simp only [ep, q2, if_neg (show ¬ ((0 : Int64) ≠ 0) from fun r => r rfl)] at k0
    refine kb_48_166 (fun c => kb_48_181 (k0 (by trivial) h fr.rfl')) (fun c => kb_48_171 (by first | with_reducible assumption | with_reducible exact kd_M | assumption) (by omega) (s34 (by omega) H hR hi ?_))
    rw [lg_cmp_eq] at c
    refine kb_48_176 (fun c2 => ?_) (fun c2 => kb_48_181 (k0 (by trivial) h fr.rfl'))
    rw [lg_cmp_eq] at c2
    exact absurd q1 (fun r => r.elim c c2)
  · have q1' : ¬ wL X (W.getD (w + i) (0, 0, 0)).1 (W.getD (w + i) (0, 0, 0)).2.1 = 0 := q1
    have q2' : ¬ wR X (W.getD (w + i) (0, 0, 0)).1 (W.getD (w + i) (0, 0, 0)).2.1 = 0 := q2
    simp only [ep, q3, if_pos (show wR X (sp (W.getD (w + i) (0, 0, 0))).1 (sp (W.getD (w + i) (0, 0, 0))).2 ≠ 0 from q2)] at k1
    refine kb_48_166 (fun c => ?_) (fun c => kb_48_171 (by first | with_reducible assumption | with_reducible exact kd_M | assumption) (by omega) (s34 (by omega) H hR hi ?_))
    · rw [lg_cmp_eq] at c
      exact absurd c q1'
    refine kb_48_176 (fun c2 => ?_) (fun c2 => ?_)
    · refine kb_48_183 (by first | with_reducible assumption | with_reducible exact kd_M | assumption) (by omega) (s33 (by omega) H hR hi (kb_48_191 (by first | with_reducible assumption | with_reducible exact kd_M | assumption) (by omega) (s34 (by omega) H hR hi (kb_48_196 (by first | with_reducible assumption | with_reducible exact kd_M | assumption) (by omega) ?_))))
      exact s46 (k := 9) hj H h8 hS hl (fun h' g1 g2 => kb_48_199 (k1 _ rfl h' g1 ⟨(g2.n (by omega)).trans p1, p2, p3, p4.of (fun i hi => g2.n (by omega))⟩ (g2.mono mono)))
    · rw [lg_cmp_eq, Decidable.not_not] at c2
      exact absurd c2 q2'
/-- condition -/
theorem s49 {h0 : mj_H} (hd : 5 ≤ d) (hj : j < 12) (H0 : mj_RS h0) (h80 : h0.1 573 8 = nI j) (hR0 : RW h0 X L W w n) (hk : wks X W) (hS0 : SgM h0 j t) (k0 : (n < 2 ∨ 21 < n ∨ ¬ t = [] ∨ rp (tkW X W) (n - 1) true (w + 1) [] [] = none) → ∀ h', fr (inMs j) h0 h' → Q (some (.int 0)) h') (k1 : t = [] → 2 ≤ n → n ≤ 21 → ∀ u, rp (tkW X W) (n - 1) true (w + 1) [] [] = some u → ∀ h', SgM h' j u → fr (inMs j) h0 h' → Q (some (.int 1)) h') : mr_C mj_KK d 49 [.ref 573] h0 Q := by
  show mr_M mj_KK d 49 0 [some (.ref 573), none, none, none, none, none] [] h0 Q
  have a7 := hR0.2.2.1
  have hw := hR0.2.2.2.1
  have hw5 := hR0.2.2.2.2.1
  obtain ⟨x1, x2, x3⟩ := id hS0
  have H := H0
  refine kb_49_0 (by first | with_reducible assumption | with_reducible exact kd_M | assumption) (fun c => kb_49_29 (k0 (Or.inl ?_) h0 fr.rfl')) (fun c => ?_)
  · simp (disch := omega) only [z_0, z_1, z_2, z_3, z_4, z_5, z_6, z_7, z_8, z_9, z_10, z_12, z_13, z_20, z_21, z_25, z_56, z_350, z_31, z_32, z_36, z_48, z_57, z_61, z_97, z_100, z_122, z_125, z_126, z_144, z_255, z_700, z_1000, z_1548, nI_add, pk_mul, pk_sub, nI_clamp, nI_leI, nI_ltI, nI_eq, z_in, z_m1, z_m1b, lg_cmp_eq, z_cmp, Decidable.not_not, w_ie, w_in, w_il, w_le, w_ln, w_li, w_ir, w_lr, a7] at c
    exact c
  simp (disch := omega) only [z_0, z_1, z_2, z_3, z_4, z_5, z_6, z_7, z_8, z_9, z_10, z_12, z_13, z_20, z_21, z_25, z_56, z_350, z_31, z_32, z_36, z_48, z_57, z_61, z_97, z_100, z_122, z_125, z_126, z_144, z_255, z_700, z_1000, z_1548, nI_add, pk_mul, pk_sub, nI_clamp, nI_leI, nI_ltI, nI_eq, z_in, z_m1, z_m1b, lg_cmp_eq, z_cmp, Decidable.not_not, w_ie, w_in, w_il, w_le, w_ln, w_li, w_ir, w_lr, a7] at c
  refine kb_49_8 (by first | with_reducible assumption | with_reducible exact kd_M | assumption) (fun c2 => kb_49_29 (k0 (Or.inr (Or.inl ?_)) h0 fr.rfl')) (fun c2 => ?_)
  · simp (disch := omega) only [z_0, z_1, z_2, z_3, z_4, z_5, z_6, z_7, z_8, z_9, z_10, z_12, z_13, z_20, z_21, z_25, z_56, z_350, z_31, z_32, z_36, z_48, z_57, z_61, z_97, z_100, z_122, z_125, z_126, z_144, z_255, z_700, z_1000, z_1548, nI_add, pk_mul, pk_sub, nI_clamp, nI_leI, nI_ltI, nI_eq, z_in, z_m1, z_m1b, lg_cmp_eq, z_cmp, Decidable.not_not, w_ie, w_in, w_il, w_le, w_ln, w_li, w_ir, w_lr, a7] at c2
    exact c2
  simp (disch := omega) only [z_0, z_1, z_2, z_3, z_4, z_5, z_6, z_7, z_8, z_9, z_10, z_12, z_13, z_20, z_21, z_25, z_56, z_350, z_31, z_32, z_36, z_48, z_57, z_61, z_97, z_100, z_122, z_125, z_126, z_144, z_255, z_700, z_1000, z_1548, nI_add, pk_mul, pk_sub, nI_clamp, nI_leI, nI_ltI, nI_eq, z_in, z_m1, z_m1b, lg_cmp_eq, z_cmp, Decidable.not_not, w_ie, w_in, w_il, w_le, w_ln, w_li, w_ir, w_lr, a7] at c2
  refine kb_49_17 (by first | with_reducible assumption | with_reducible exact kd_M | assumption) (by first | with_reducible assumption | exact rf_M_signCount H | assumption) (by first | with_reducible assumption | with_reducible exact kd_M_signCount | assumption) (by first | with_reducible assumption | (simp (disch := omega) only [z_0, z_1, z_2, z_3, z_4, z_5, z_6, z_7, z_8, z_9, z_10, z_12, z_13, z_20, z_21, z_25, z_56, z_350, z_31, z_32, z_36, z_48, z_57, z_61, z_97, z_100, z_122, z_125, z_126, z_144, z_255, z_700, z_1000, z_1548, nI_add, pk_mul, pk_sub, nI_clamp, nI_leI, nI_ltI, nI_eq, z_in, z_m1, z_m1b, lg_cmp_eq, z_cmp, Decidable.not_not, w_ie, w_in, w_il, w_le, w_ln, w_li, w_ir, w_lr, h80, ln_P_tape, ln_W_text, ln_W_starts, ln_W_ends, ln_W_lines, ln_W_names, ln_W_values, ln_PL_jobs, ln_PL_parts, ln_FT_reached, ln_EX_jobs, ln_EX_codes, ln_CB_names, ln_CB_values, ln_M_tape, ln_M_source, ln_M_wordAt, ln_M_wordEnd, ln_M_names, ln_M_itemCount, ln_M_itemFirst, ln_M_itemWords, ln_M_itemUses, ln_M_keptAt, ln_M_keptEnd, ln_M_needCount, ln_M_axisCount, ln_M_valueCount, ln_M_needed, ln_M_axes, ln_M_values, ln_M_includes, ln_M_excludes, ln_M_pairCount, ln_M_pairName, ln_M_pairValue, ln_M_signCount, ln_M_signs, ln_M_signName, ln_M_signValue, ln_M_whose, ln_M_which, ln_M_pile, ln_M_reaches, ln_M_stepsOf, ln_M_known, ln_JB_needed, ln_JB_axes, ln_JS_used, ln_JS_stepWords, ln_PS_used, ln_PS_stepWords, ln_IN_rows, ln_EC_rows, ln_IR_names, ln_IR_values, ln_ER_names, ln_ER_values, ln_CD_kinds, ln_CD_names, ln_CD_values, ln_AX_values] <;> omega) | assumption) (fun c3 => ?_) (fun c3 => kb_49_29 (k0 (Or.inr (Or.inr (Or.inl ?_))) h0 fr.rfl'))
  rotate_left
  · simp (disch := omega) only [z_0, z_1, z_2, z_3, z_4, z_5, z_6, z_7, z_8, z_9, z_10, z_12, z_13, z_20, z_21, z_25, z_56, z_350, z_31, z_32, z_36, z_48, z_57, z_61, z_97, z_100, z_122, z_125, z_126, z_144, z_255, z_700, z_1000, z_1548, nI_add, pk_mul, pk_sub, nI_clamp, nI_leI, nI_ltI, nI_eq, z_in, z_m1, z_m1b, lg_cmp_eq, z_cmp, Decidable.not_not, w_ie, w_in, w_il, w_le, w_ln, w_li, w_ir, w_lr, h80, x1] at c3
    intro r
    rw [r] at c3
    exact c3 (Nat.le_refl 0)
  simp (disch := omega) only [z_0, z_1, z_2, z_3, z_4, z_5, z_6, z_7, z_8, z_9, z_10, z_12, z_13, z_20, z_21, z_25, z_56, z_350, z_31, z_32, z_36, z_48, z_57, z_61, z_97, z_100, z_122, z_125, z_126, z_144, z_255, z_700, z_1000, z_1548, nI_add, pk_mul, pk_sub, nI_clamp, nI_leI, nI_ltI, nI_eq, z_in, z_m1, z_m1b, lg_cmp_eq, z_cmp, Decidable.not_not, w_ie, w_in, w_il, w_le, w_ln, w_li, w_ir, w_lr, h80, x1] at c3
  have ht : t = [] := List.length_eq_zero_iff.mp (by omega)
  subst ht
  refine kb_49_31 (by first | with_reducible assumption | with_reducible exact kd_M | assumption) ?_
  have loop : ∀ m i (due : Bool) (π : List Nat) (u : List Sg) (h : mj_H), m ≤ n → i + m = n → u.length < i → i ≤ n → π.length ≤ 6 → PiM h π → SgM h j u → fr (inMs j) h0 h → rp (tkW X W) m due (w + i) π u = rp (tkW X W) (n - 1) true (w + 1) [] [] → mr_M mj_KK d 49 40 [some (.ref 573), some (.int (b2i due)), some (.int (nI i)), none, none, none] [] h Q := by
    intro m
    induction m using Nat.strongRecOn with
    | _ m ih =>
      intro i due π u h hm hi hu hin h6 hP hS hf he
      have H := hf.rs H0
      have a8 : h.1 573 8 = nI j := (hf.n (by unfold inMs; omega)).trans h80
      have hR : RW h X L W w n := hR0.fr hf (fun i => by unfold inMs; omega) (by unfold inMs; omega)
      have a7 := hR.2.2.1
      have p1 := hP.1
      match m, ih with
      | 0, ih =>
        rw [rp_0] at he
        refine kb_49_40 (by first | with_reducible assumption | with_reducible exact kd_M | assumption) (fun _ => ?_) (fun c => (by simp (disch := omega) only [z_0, z_1, z_2, z_3, z_4, z_5, z_6, z_7, z_8, z_9, z_10, z_12, z_13, z_20, z_21, z_25, z_56, z_350, z_31, z_32, z_36, z_48, z_57, z_61, z_97, z_100, z_122, z_125, z_126, z_144, z_255, z_700, z_1000, z_1548, nI_add, pk_mul, pk_sub, nI_clamp, nI_leI, nI_ltI, nI_eq, z_in, z_m1, z_m1b, lg_cmp_eq, z_cmp, Decidable.not_not, w_ie, w_in, w_il, w_le, w_ln, w_li, w_ir, w_lr, a7] at c; exfalso; omega))
        cases due with
        | true =>
          rw [if_neg (fun r => absurd r.1 (by decide))] at he
          exact kb_49_240 (fun _ => kb_49_255 (kb_49_256 (by first | assumption | exact b2i_01 _ | exact Or.inl rfl | exact Or.inr rfl) (k0 (Or.inr (Or.inr (Or.inr he.symm))) h hf))) (fun c => absurd (by decide) c)
        | false =>
          refine kb_49_240 (fun c => absurd rfl c) (fun _ => kb_49_244 (by first | with_reducible assumption | with_reducible exact kd_M | assumption) (fun c => ?_) (fun c => ?_))
          · rw [p1, z_0, nI_eq (by omega) (by omega)] at c
            rw [if_neg (fun r => c (by rw [r.2]; rfl))] at he
            exact kb_49_255 (kb_49_256 (by first | assumption | exact b2i_01 _ | exact Or.inl rfl | exact Or.inr rfl) (k0 (Or.inr (Or.inr (Or.inr he.symm))) h hf))
          · rw [p1, z_0, nI_eq (by omega) (by omega), Decidable.not_not] at c
            have : π = [] := List.length_eq_zero_iff.mp c
            rw [if_pos ⟨rfl, this⟩] at he
            exact kb_49_251 (kb_49_256 (by first | assumption | exact b2i_01 _ | exact Or.inl rfl | exact Or.inr rfl) (k1 rfl (by omega) (by omega) u he.symm h hS hf))
      | m + 1, ih =>
        have ok := hk (w + i) (by omega)
        have et : tkk (tx X (sp (W.getD (w + i) (0, 0, 0)))) = (tkW X W (w + i)).1 := rfl
        refine kb_49_40 (by first | with_reducible assumption | with_reducible exact kd_M | assumption) (fun c => (by simp (disch := omega) only [z_0, z_1, z_2, z_3, z_4, z_5, z_6, z_7, z_8, z_9, z_10, z_12, z_13, z_20, z_21, z_25, z_56, z_350, z_31, z_32, z_36, z_48, z_57, z_61, z_97, z_100, z_122, z_125, z_126, z_144, z_255, z_700, z_1000, z_1548, nI_add, pk_mul, pk_sub, nI_clamp, nI_leI, nI_ltI, nI_eq, z_in, z_m1, z_m1b, lg_cmp_eq, z_cmp, Decidable.not_not, w_ie, w_in, w_il, w_le, w_ln, w_li, w_ir, w_lr, a7] at c; exfalso; omega)) (fun _ => kb_49_48 (by first | with_reducible assumption | with_reducible exact kd_M | assumption) (by omega) (s30 (by omega) H hR (by omega) ?_))
        cases due with
        | true =>
          rw [rp_du (e := w + n) (by omega)] at he
          refine kb_49_53 (fun c => absurd c (by decide)) (fun _ => kb_49_58 (by first | with_reducible assumption | with_reducible exact kd_M | assumption) (by omega) (s48 (by omega) hj H a8 hR hk (by omega) hS (by omega) hP h6 (fun q h' g => ?_) (fun r q h' g1 g2 g3 => ?_)))
          · rw [q] at he
            exact kb_49_63 (fun c => absurd rfl c) (fun _ => kb_49_70 (k0 (Or.inr (Or.inr (Or.inr he.symm))) h' (hf.trans g)))
          · rw [q, bd_s] at he
            have H := g3.rs H
            have b8 : h'.1 573 8 = nI j := (g3.n (by unfold inMs; omega)).trans a8
            obtain ⟨y1, y2, y3⟩ := id g1
            rw [List.length_append] at y1 y2
            have y1 : h'.1 596 j = nI (u.length + 1) := y1
            have y4 := (y3 u.length (by rw [List.length_append]; exact Nat.lt_succ_self _)).1
            rw [getD_app_e] at y4
            have hr : (r.1 = 1 ∨ r.1 = 2) ∧ (r.2.1.1 = 3 ∨ r.2.1.1 = 4 → r.1 = 1 ∧ r.2.2.length ≤ 6) ∧ (¬ (r.2.1.1 = 3 ∨ r.2.1.1 = 4) → r.2.2 = π) ∧ r.2.1.1 < 10 ∧ i + r.1 ≤ n := by
              unfold duS at q
              split at q
              · rename_i q34
                split at q
                · rename_i q6
                  cases q
                  exact ⟨Or.inl rfl, fun _ => ⟨rfl, by show π.length + 1 ≤ 6; omega⟩, fun w => absurd q34 w, by show (tkW X W (w + i)).1 < 10; omega, by show i + 1 ≤ n; omega⟩
                · cases q
              · rename_i q34
                split at q
                · cases q
                  exact ⟨Or.inl rfl, fun w => absurd w (by show ¬ (6 = 3 ∨ 6 = 4); decide), fun _ => rfl, by show 6 < 10; decide, by show i + 1 ≤ n; omega⟩
                · split at q
                  · rename_i q78
                    split at q
                    · rename_i qq
                      cases q
                      exact ⟨Or.inr rfl, fun w => absurd w q34, fun _ => rfl, by show (tkW X W (w + i)).1 < 10; omega, by show i + 2 ≤ n; omega⟩
                    · cases q
                  · split at q
                    · cases q
                      exact ⟨Or.inl rfl, fun w => absurd w (by show ¬ (9 = 3 ∨ 9 = 4); decide), fun _ => rfl, by show 9 < 10; decide, by show i + 1 ≤ n; omega⟩
                    · cases q
            obtain ⟨r1, r2, r3, r4, r5⟩ := hr
            have nz : ¬ nI r.1 = 0 := by rw [z_0, nI_eq (by omega) (by omega)]; omega
            have es : 20 * j + (u.length + 1) - 1 = 20 * j + u.length := by omega
            refine kb_49_63 (fun _ => ?_) (fun c => absurd nz c)
            have yes : (r.2.1.1 = 3 ∨ r.2.1.1 = 4) → mr_M mj_KK d 49 133 [some (.ref 573), none, some (.int (nI i)), none, none, some (.int (nI r.1))] [.int 1] h' Q := by
              intro q34
              rw [if_pos q34] at he
              obtain ⟨v1, v2⟩ := r2 q34
              refine kb_49_133 (fun _ => kb_49_142 (kb_49_237 ?_)) (fun c => absurd (by decide) c)
              rw [v1, nI_add]
              exact ih m (by omega) (i + 1) true r.2.2 (u ++ [r.2.1]) h' (by omega) (by omega) (by rw [List.length_append]; show u.length + 1 < i + 1; omega) (by omega) v2 g2 g1 (hf.trans g3) he
            refine kb_49_72 (by first | with_reducible assumption | with_reducible exact kd_M | assumption) (by first | with_reducible assumption | exact rf_M_signs H | assumption) (by first | with_reducible assumption | exact rf_M_signCount H | assumption) (by first | with_reducible assumption | with_reducible exact kd_M_signCount | assumption) (by first | with_reducible assumption | (simp (disch := omega) only [z_0, z_1, z_2, z_3, z_4, z_5, z_6, z_7, z_8, z_9, z_10, z_12, z_13, z_20, z_21, z_25, z_56, z_350, z_31, z_32, z_36, z_48, z_57, z_61, z_97, z_100, z_122, z_125, z_126, z_144, z_255, z_700, z_1000, z_1548, nI_add, pk_mul, pk_sub, nI_clamp, nI_leI, nI_ltI, nI_eq, z_in, z_m1, z_m1b, lg_cmp_eq, z_cmp, Decidable.not_not, w_ie, w_in, w_il, w_le, w_ln, w_li, w_ir, w_lr, b8, y1, es, ln_P_tape, ln_W_text, ln_W_starts, ln_W_ends, ln_W_lines, ln_W_names, ln_W_values, ln_PL_jobs, ln_PL_parts, ln_FT_reached, ln_EX_jobs, ln_EX_codes, ln_CB_names, ln_CB_values, ln_M_tape, ln_M_source, ln_M_wordAt, ln_M_wordEnd, ln_M_names, ln_M_itemCount, ln_M_itemFirst, ln_M_itemWords, ln_M_itemUses, ln_M_keptAt, ln_M_keptEnd, ln_M_needCount, ln_M_axisCount, ln_M_valueCount, ln_M_needed, ln_M_axes, ln_M_values, ln_M_includes, ln_M_excludes, ln_M_pairCount, ln_M_pairName, ln_M_pairValue, ln_M_signCount, ln_M_signs, ln_M_signName, ln_M_signValue, ln_M_whose, ln_M_which, ln_M_pile, ln_M_reaches, ln_M_stepsOf, ln_M_known, ln_JB_needed, ln_JB_axes, ln_JS_used, ln_JS_stepWords, ln_PS_used, ln_PS_stepWords, ln_IN_rows, ln_EC_rows, ln_IR_names, ln_IR_values, ln_ER_names, ln_ER_values, ln_CD_kinds, ln_CD_names, ln_CD_values, ln_AX_values] <;> omega) | assumption) (by first | with_reducible assumption | with_reducible exact kd_M_signs | assumption) (by first | with_reducible assumption | (simp (disch := omega) only [z_0, z_1, z_2, z_3, z_4, z_5, z_6, z_7, z_8, z_9, z_10, z_12, z_13, z_20, z_21, z_25, z_56, z_350, z_31, z_32, z_36, z_48, z_57, z_61, z_97, z_100, z_122, z_125, z_126, z_144, z_255, z_700, z_1000, z_1548, nI_add, pk_mul, pk_sub, nI_clamp, nI_leI, nI_ltI, nI_eq, z_in, z_m1, z_m1b, lg_cmp_eq, z_cmp, Decidable.not_not, w_ie, w_in, w_il, w_le, w_ln, w_li, w_ir, w_lr, b8, y1, es, ln_P_tape, ln_W_text, ln_W_starts, ln_W_ends, ln_W_lines, ln_W_names, ln_W_values, ln_PL_jobs, ln_PL_parts, ln_FT_reached, ln_EX_jobs, ln_EX_codes, ln_CB_names, ln_CB_values, ln_M_tape, ln_M_source, ln_M_wordAt, ln_M_wordEnd, ln_M_names, ln_M_itemCount, ln_M_itemFirst, ln_M_itemWords, ln_M_itemUses, ln_M_keptAt, ln_M_keptEnd, ln_M_needCount, ln_M_axisCount, ln_M_valueCount, ln_M_needed, ln_M_axes, ln_M_values, ln_M_includes, ln_M_excludes, ln_M_pairCount, ln_M_pairName, ln_M_pairValue, ln_M_signCount, ln_M_signs, ln_M_signName, ln_M_signValue, ln_M_whose, ln_M_which, ln_M_pile, ln_M_reaches, ln_M_stepsOf, ln_M_known, ln_JB_needed, ln_JB_axes, ln_JS_used, ln_JS_stepWords, ln_PS_used, ln_PS_stepWords, ln_IN_rows, ln_EC_rows, ln_IR_names, ln_IR_values, ln_ER_names, ln_ER_values, ln_CD_kinds, ln_CD_names, ln_CD_values, ln_AX_values] <;> omega) | assumption) (fun c => ?_) (fun c => kb_49_100 (by first | with_reducible assumption | with_reducible exact kd_M | assumption) (by first | with_reducible assumption | exact rf_M_signs H | assumption) (by first | with_reducible assumption | exact rf_M_signCount H | assumption) (by first | with_reducible assumption | with_reducible exact kd_M_signCount | assumption) (by first | with_reducible assumption | (simp (disch := omega) only [z_0, z_1, z_2, z_3, z_4, z_5, z_6, z_7, z_8, z_9, z_10, z_12, z_13, z_20, z_21, z_25, z_56, z_350, z_31, z_32, z_36, z_48, z_57, z_61, z_97, z_100, z_122, z_125, z_126, z_144, z_255, z_700, z_1000, z_1548, nI_add, pk_mul, pk_sub, nI_clamp, nI_leI, nI_ltI, nI_eq, z_in, z_m1, z_m1b, lg_cmp_eq, z_cmp, Decidable.not_not, w_ie, w_in, w_il, w_le, w_ln, w_li, w_ir, w_lr, b8, y1, es, ln_P_tape, ln_W_text, ln_W_starts, ln_W_ends, ln_W_lines, ln_W_names, ln_W_values, ln_PL_jobs, ln_PL_parts, ln_FT_reached, ln_EX_jobs, ln_EX_codes, ln_CB_names, ln_CB_values, ln_M_tape, ln_M_source, ln_M_wordAt, ln_M_wordEnd, ln_M_names, ln_M_itemCount, ln_M_itemFirst, ln_M_itemWords, ln_M_itemUses, ln_M_keptAt, ln_M_keptEnd, ln_M_needCount, ln_M_axisCount, ln_M_valueCount, ln_M_needed, ln_M_axes, ln_M_values, ln_M_includes, ln_M_excludes, ln_M_pairCount, ln_M_pairName, ln_M_pairValue, ln_M_signCount, ln_M_signs, ln_M_signName, ln_M_signValue, ln_M_whose, ln_M_which, ln_M_pile, ln_M_reaches, ln_M_stepsOf, ln_M_known, ln_JB_needed, ln_JB_axes, ln_JS_used, ln_JS_stepWords, ln_PS_used, ln_PS_stepWords, ln_IN_rows, ln_EC_rows, ln_IR_names, ln_IR_values, ln_ER_names, ln_ER_values, ln_CD_kinds, ln_CD_names, ln_CD_values, ln_AX_values] <;> omega) | assumption) (by first | with_reducible assumption | with_reducible exact kd_M_signs | assumption) (by first | with_reducible assumption | (simp (disch := omega) only [z_0, z_1, z_2, z_3, z_4, z_5, z_6, z_7, z_8, z_9, z_10, z_12, z_13, z_20, z_21, z_25, z_56, z_350, z_31, z_32, z_36, z_48, z_57, z_61, z_97, z_100, z_122, z_125, z_126, z_144, z_255, z_700, z_1000, z_1548, nI_add, pk_mul, pk_sub, nI_clamp, nI_leI, nI_ltI, nI_eq, z_in, z_m1, z_m1b, lg_cmp_eq, z_cmp, Decidable.not_not, w_ie, w_in, w_il, w_le, w_ln, w_li, w_ir, w_lr, b8, y1, es, ln_P_tape, ln_W_text, ln_W_starts, ln_W_ends, ln_W_lines, ln_W_names, ln_W_values, ln_PL_jobs, ln_PL_parts, ln_FT_reached, ln_EX_jobs, ln_EX_codes, ln_CB_names, ln_CB_values, ln_M_tape, ln_M_source, ln_M_wordAt, ln_M_wordEnd, ln_M_names, ln_M_itemCount, ln_M_itemFirst, ln_M_itemWords, ln_M_itemUses, ln_M_keptAt, ln_M_keptEnd, ln_M_needCount, ln_M_axisCount, ln_M_valueCount, ln_M_needed, ln_M_axes, ln_M_values, ln_M_includes, ln_M_excludes, ln_M_pairCount, ln_M_pairName, ln_M_pairValue, ln_M_signCount, ln_M_signs, ln_M_signName, ln_M_signValue, ln_M_whose, ln_M_which, ln_M_pile, ln_M_reaches, ln_M_stepsOf, ln_M_known, ln_JB_needed, ln_JB_axes, ln_JS_used, ln_JS_stepWords, ln_PS_used, ln_PS_stepWords, ln_IN_rows, ln_EC_rows, ln_IR_names, ln_IR_values, ln_ER_names, ln_ER_values, ln_CD_kinds, ln_CD_names, ln_CD_values, ln_AX_values] <;> omega) | assumption) (fun c2 => ?_) (fun c2 => ?_))
            · simp (disch := omega) only [z_0, z_1, z_2, z_3, z_4, z_5, z_6, z_7, z_8, z_9, z_10, z_12, z_13, z_20, z_21, z_25, z_56, z_350, z_31, z_32, z_36, z_48, z_57, z_61, z_97, z_100, z_122, z_125, z_126, z_144, z_255, z_700, z_1000, z_1548, nI_add, pk_mul, pk_sub, nI_clamp, nI_leI, nI_ltI, nI_eq, z_in, z_m1, z_m1b, lg_cmp_eq, z_cmp, Decidable.not_not, w_ie, w_in, w_il, w_le, w_ln, w_li, w_ir, w_lr, b8, y1, es, y4] at c
              exact kb_49_128 (yes (Or.inl c))
            · simp (disch := omega) only [z_0, z_1, z_2, z_3, z_4, z_5, z_6, z_7, z_8, z_9, z_10, z_12, z_13, z_20, z_21, z_25, z_56, z_350, z_31, z_32, z_36, z_48, z_57, z_61, z_97, z_100, z_122, z_125, z_126, z_144, z_255, z_700, z_1000, z_1548, nI_add, pk_mul, pk_sub, nI_clamp, nI_leI, nI_ltI, nI_eq, z_in, z_m1, z_m1b, lg_cmp_eq, z_cmp, Decidable.not_not, w_ie, w_in, w_il, w_le, w_ln, w_li, w_ir, w_lr, b8, y1, es, y4] at c c2
              have n34 : ¬ (r.2.1.1 = 3 ∨ r.2.1.1 = 4) := fun v => v.elim c c2
              rw [if_neg n34, r3 n34] at he
              rw [r3 n34] at g2
              refine kb_49_132 (kb_49_133 (fun c => absurd rfl c) (fun _ => kb_49_138 (by first | with_reducible assumption | with_reducible exact kd_M | assumption) (by omega) (s47 H g2 (fun h2 g4 g5 => kb_49_142 (kb_49_237 ?_)))))
              rw [nI_add]
              have g5' : fr (inMs j) h' h2 := g5.mono (fun a i q => by unfold inMs; omega)
              have l6 : (sN π).length ≤ 6 := Nat.le_trans (sN_len) h6
              exact ih (m + 1 - r.1) (by omega) (i + r.1) false (sN π) (u ++ [r.2.1]) h2 (by omega) (by omega) (by rw [List.length_append]; show u.length + 1 < i + r.1; omega) r5 l6 g4 (g1.fr g5 (by omega) (fun i hi => by omega)) ((hf.trans g3).trans g5') (by rw [Nat.add_assoc] at he; exact he)
            · simp (disch := omega) only [z_0, z_1, z_2, z_3, z_4, z_5, z_6, z_7, z_8, z_9, z_10, z_12, z_13, z_20, z_21, z_25, z_56, z_350, z_31, z_32, z_36, z_48, z_57, z_61, z_97, z_100, z_122, z_125, z_126, z_144, z_255, z_700, z_1000, z_1548, nI_add, pk_mul, pk_sub, nI_clamp, nI_leI, nI_ltI, nI_eq, z_in, z_m1, z_m1b, lg_cmp_eq, z_cmp, Decidable.not_not, w_ie, w_in, w_il, w_le, w_ln, w_li, w_ir, w_lr, b8, y1, es, y4] at c2
              exact kb_49_128 (yes (Or.inr c2))
        | false =>
          rw [rp_f] at he
          refine kb_49_53 (fun _ => ?_) (fun c => absurd rfl c)
          have join : ∀ s : Nat, (tkW X W (w + i)).1 = s → (s = 1 ∨ s = 2) → mr_M mj_KK d 49 180 [some (.ref 573), none, some (.int (nI i)), none, none, none] [.int (nI s), .ref 573] h Q := by
            intro s e1 e2
            rw [e1, if_pos e2] at he
            refine kb_49_180 (by first | with_reducible assumption | with_reducible exact kd_M | assumption) (by omega) (s46 (k := s) hj H a8 hS (by omega) (fun h' g1 g2 => kb_49_185 (kb_49_237 ?_)))
            rw [nI_1]
            have g2' : fr (inMs j) h h' := g2.mono (fun a i q => by unfold inMs; omega)
            exact ih m (by omega) (i + 1) true π _ h' (by omega) (by omega) (by rw [List.length_append]; show u.length + 1 < i + 1; omega) (by omega) h6 ⟨(g2.n (by omega)).trans p1, hP.2.1, hP.2.2.1, hP.2.2.2.of (fun i hi => g2.n (by omega))⟩ g1 (hf.trans g2') he
          have jn : ((tkW X W (w + i)).1 = 1 ∨ (tkW X W (w + i)).1 = 2) → mr_M mj_KK d 49 166 [some (.ref 573), none, some (.int (nI i)), some (.long (wd X (sp (W.getD (w + i) (0, 0, 0))))), none, none] [] h Q := by
            intro e2
            refine kb_49_166 (fun c => ?_) (fun c => ?_)
            · rw [kwc0 ok, et] at c
              exact kb_49_179 (join 2 (e2.elim (fun r => absurd r c) id) (Or.inr rfl))
            · rw [kwc0 ok, et, Decidable.not_not] at c
              exact kb_49_175 (join 1 c (Or.inl rfl))
          refine kb_49_150 (fun c => ?_) (fun c => kb_49_158 (fun c2 => ?_) (fun c2 => ?_))
          · rw [kwc0 ok, et] at c
            exact jn (Or.inl c)
          · rw [kwc0 ok, et] at c
            rw [kwc1 ok, et] at c2
            rw [if_neg (fun r => r.elim c c2)] at he
            refine kb_49_193 (fun c5 => ?_) (fun c5 => ?_)
            · rw [kwc4 ok, et] at c5
              rw [if_neg (fun r => c5 r.1)] at he
              exact kb_49_235 (k0 (Or.inr (Or.inr (Or.inr he.symm))) h hf)
            · rw [kwc4 ok, et, Decidable.not_not] at c5
              match π, h6, hP, p1, he with
              | [], h6, hP, p1, he =>
                rw [if_neg (fun r => r.2 rfl)] at he
                refine kb_49_201 (by first | with_reducible assumption | with_reducible exact kd_M | assumption) (fun _ => kb_49_235 (k0 (Or.inr (Or.inr (Or.inr he.symm))) h hf)) (fun c => ?_)
                rw [p1] at c
                exact absurd (by decide) c
              | s :: r, h6, hP, p1, he =>
                rw [if_pos ⟨c5, List.cons_ne_nil _ _⟩] at he
                have p1 : h.1 573 38 = nI (r.length + 1) := p1
                have h6 : r.length + 1 ≤ 6 := h6
                refine kb_49_201 (by first | with_reducible assumption | with_reducible exact kd_M | assumption) (fun c => (by simp (disch := omega) only [z_0, z_1, z_2, z_3, z_4, z_5, z_6, z_7, z_8, z_9, z_10, z_12, z_13, z_20, z_21, z_25, z_56, z_350, z_31, z_32, z_36, z_48, z_57, z_61, z_97, z_100, z_122, z_125, z_126, z_144, z_255, z_700, z_1000, z_1548, nI_add, pk_mul, pk_sub, nI_clamp, nI_leI, nI_ltI, nI_eq, z_in, z_m1, z_m1b, lg_cmp_eq, z_cmp, Decidable.not_not, w_ie, w_in, w_il, w_le, w_ln, w_li, w_ir, w_lr, p1] at c; exfalso; omega)) (fun _ => kb_49_208 (by first | with_reducible assumption | with_reducible exact kd_M | assumption) (by omega) (s46 (k := 5) hj H a8 hS (by omega) (fun h' g1 g2 => ?_)))
                have q1 : h'.1 573 38 = nI (r.length + 1) := (g2.n (by omega)).trans p1
                have H := g2.rs H
                have es : r.length + 1 - 1 = r.length := by omega
                refine kb_49_215 (by first | with_reducible assumption | with_reducible exact kd_M | assumption) (by omega) ?_
                simp (disch := omega) only [z_0, z_1, z_2, z_3, z_4, z_5, z_6, z_7, z_8, z_9, z_10, z_12, z_13, z_20, z_21, z_25, z_56, z_350, z_31, z_32, z_36, z_48, z_57, z_61, z_97, z_100, z_122, z_125, z_126, z_144, z_255, z_700, z_1000, z_1548, nI_add, pk_mul, pk_sub, nI_clamp, nI_leI, nI_ltI, nI_eq, z_in, z_m1, z_m1b, lg_cmp_eq, z_cmp, Decidable.not_not, w_ie, w_in, w_il, w_le, w_ln, w_li, w_ir, w_lr, q1, es]
                have g3 : fr (fun a i => a = 573 ∧ i = 38) h' (mj_w h' 573 38 (.int (nI r.length))) := fr.wi (P := fun a i => a = 573 ∧ i = 38) fr.rfl' ⟨rfl, rfl⟩
                refine s47 (π := r) (g3.rs H) ⟨by simp (disch := omega) only [z_0, z_1, z_2, z_3, z_4, z_5, z_6, z_7, z_8, z_9, z_10, z_12, z_13, z_20, z_21, z_25, z_56, z_350, z_31, z_32, z_36, z_48, z_57, z_61, z_97, z_100, z_122, z_125, z_126, z_144, z_255, z_700, z_1000, z_1548, nI_add, pk_mul, pk_sub, nI_clamp, nI_leI, nI_ltI, nI_eq, z_in, z_m1, z_m1b, lg_cmp_eq, z_cmp, Decidable.not_not, w_ie, w_in, w_il, w_le, w_ln, w_li, w_ir, w_lr], by omega, fun x hx => hP.2.2.1 x (List.mem_cons_of_mem _ hx), hP.2.2.2.2.of (fun i hi => ?_)⟩ (fun h2 g4 g5 => kb_49_229 (kb_49_237 ?_))
                · rw [w_in (Or.inl (by decide))]
                  exact g2.n (by omega)
                rw [nI_1]
                have g2' : fr (inMs j) h h' := g2.mono (fun a i q => by unfold inMs; omega)
                have g3' : fr (inMs j) h' h2 := (g3.trans g5).mono (fun a i q => by unfold inMs; omega)
                exact ih m (by omega) (i + 1) false (sN r) _ h2 (by omega) (by omega) (by rw [List.length_append]; show u.length + 1 < i + 1; omega) (by omega) (Nat.le_trans sN_len (by omega)) g4 (g1.fr (g3.trans g5) (by omega) (fun i hi => by omega)) ((hf.trans g2').trans g3') he
          · rw [kwc1 ok, et, Decidable.not_not] at c2
            exact jn (Or.inr c2)
  refine loop (n - 1) 1 true [] [] _ (by omega) (by omega) (by decide) (by omega) (by decide) ⟨by simp (disch := omega) only [z_0, z_1, z_2, z_3, z_4, z_5, z_6, z_7, z_8, z_9, z_10, z_12, z_13, z_20, z_21, z_25, z_56, z_350, z_31, z_32, z_36, z_48, z_57, z_61, z_97, z_100, z_122, z_125, z_126, z_144, z_255, z_700, z_1000, z_1548, nI_add, pk_mul, pk_sub, nI_clamp, nI_leI, nI_ltI, nI_eq, z_in, z_m1, z_m1b, lg_cmp_eq, z_cmp, Decidable.not_not, w_ie, w_in, w_il, w_le, w_ln, w_li, w_ir, w_lr]; rfl, by decide, fun x hx => absurd hx List.not_mem_nil, trivial⟩ ⟨by simp (disch := omega) only [z_0, z_1, z_2, z_3, z_4, z_5, z_6, z_7, z_8, z_9, z_10, z_12, z_13, z_20, z_21, z_25, z_56, z_350, z_31, z_32, z_36, z_48, z_57, z_61, z_97, z_100, z_122, z_125, z_126, z_144, z_255, z_700, z_1000, z_1548, nI_add, pk_mul, pk_sub, nI_clamp, nI_leI, nI_ltI, nI_eq, z_in, z_m1, z_m1b, lg_cmp_eq, z_cmp, Decidable.not_not, w_ie, w_in, w_il, w_le, w_ln, w_li, w_ir, w_lr, x1], by decide, fun i hi => absurd hi (Nat.not_lt_zero i)⟩ (fr.wi (P := inMs j) fr.rfl' (by unfold inMs; omega)) rfl
end
