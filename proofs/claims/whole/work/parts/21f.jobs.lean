-- ===== job, needs, expand =====
theorem in_cases {x : Int32} {N : Nat} (hN : N < 100000) : decide (0 ≤ x ∧ x < nI N) = false ∨ ∃ j, j < N ∧ x = nI j := by
  by_cases c : 0 ≤ x ∧ x < nI N
  · obtain ⟨k, e, h1, h2⟩ := mr_swN (x := x) (l2 := 0) (h2 := 100000) 0 100000 rfl rfl (by
      rw [Int32.le_iff_toInt_le, Int32.lt_iff_toInt_lt] at c
      rw [nI_toInt (by omega)] at c
      have e0 : (0 : Int32).toInt = 0 := by decide
      omega) (by decide)
    subst e
    have c2 := c.2
    simp (disch := omega) only [z_0, z_1, z_2, z_3, z_4, z_5, z_6, z_7, z_8, z_9, z_10, z_12, z_13, z_20, z_21, z_25, z_56, z_350, z_31, z_32, z_36, z_48, z_57, z_61, z_97, z_100, z_122, z_125, z_126, z_144, z_255, z_700, z_1000, z_1548, nI_add, pk_mul, pk_sub, nI_clamp, nI_leI, nI_ltI, nI_eq, z_in, z_m1, z_m1b, lg_cmp_eq, z_cmp, Decidable.not_not, w_ie, w_in, w_il, w_le, w_ln, w_li, w_ir, w_lr] at c2
    exact Or.inr ⟨k, c2, rfl⟩
  · exact Or.inl (decide_eq_false c)
theorem in_yes {j N : Nat} (h : j < N) (hN : N < 100000) : decide (0 ≤ nI j ∧ nI j < nI N) = true := by
  refine decide_eq_true ⟨?_, ?_⟩
  · rw [z_0, nI_leI (by omega) (by omega)]
    omega
  · rw [nI_ltI (by omega) (by omega)]
    exact h
section
variable {d j kept : Nat} {h : mj_H} {Q : Option Value → mj_H → Prop} {P : mj_P} {W : List Wt} {x : Int32}
theorem s141 (h1 : h.1 9 1 = x) {y : Int32} (kk : Q (some (.int (b2i (decide (0 ≤ y ∧ y < x))))) h) : mr_C mj_KK d 141 [.ref 9, .int y] h Q := by
  show mr_M mj_KK d 141 0 [some (.ref 9), some (.int y)] [] h Q
  have f : ∀ b : Bool, decide (0 ≤ y ∧ y < x) = b → mr_M mj_KK d 141 17 [none, none] [.int (b2i b)] h Q := fun b e => kb_141_17 (b2i_01 b) (e ▸ kk)
  refine kb_141_0 (fun c1 => kb_141_16 (f false (decide_eq_false fun q => i_nlt c1 q.1))) (fun c1 => kb_141_4 (by first | with_reducible assumption | with_reducible exact kd_PL | assumption) (fun c2 => kb_141_16 (f false (decide_eq_false fun q => i_nlt q.2 (h1 ▸ c2)))) (fun c2 => kb_141_12 (f true (decide_eq_true ⟨i_nle c1, i_lt (h1 ▸ c2)⟩))))
theorem s103 (h1 : h.1 567 2 = x) {y : Int32} (kk : Q (some (.int (b2i (decide (0 ≤ y ∧ y < x))))) h) : mr_C mj_KK d 103 [.ref 567, .int y] h Q := by
  show mr_M mj_KK d 103 0 [some (.ref 567), some (.int y)] [] h Q
  have f : ∀ b : Bool, decide (0 ≤ y ∧ y < x) = b → mr_M mj_KK d 103 17 [none, none] [.int (b2i b)] h Q := fun b e => kb_103_17 (b2i_01 b) (e ▸ kk)
  refine kb_103_0 (fun c1 => kb_103_16 (f false (decide_eq_false fun q => i_nlt c1 q.1))) (fun c1 => kb_103_4 (by first | with_reducible assumption | with_reducible exact kd_EX | assumption) (fun c2 => kb_103_16 (f false (decide_eq_false fun q => i_nlt q.2 (h1 ▸ c2)))) (fun c2 => kb_103_12 (f true (decide_eq_true ⟨i_nle c1, i_lt (h1 ▸ c2)⟩))))
/-- what job answers -/
def jW (P : mj_P) (j : Nat) (x : Int32) : Int32 := if x = nI 0 then nI (P.jr j).1.length else if x = nI 1 then nI (P.jr j).2.1.length else if x = nI 2 then nI (P.jr j).2.2.1.length else if x = nI 3 then nI (P.jr j).2.2.2.1.length else if x = nI 4 then nI (P.sc j).2.length else if x = nI 5 then (if (P.jr j).2.2.2.2.1 = [] then 0 else 1) else -1
theorem jW_d (c : x.toInt < 0 ∨ 5 < x.toInt) : jW P j x = -1 := by
  have n : ∀ k, k < 6 → ¬ x = nI k := by
    intro k hk e
    subst e
    rw [nI_toInt (by omega)] at c
    omega
  unfold jW
  rw [if_neg (n 0 (by decide)), if_neg (n 1 (by decide)), if_neg (n 2 (by decide)), if_neg (n 3 (by decide)), if_neg (n 4 (by decide)), if_neg (n 5 (by decide))]
theorem s4 (hd : 1 ≤ d) (H : mj_RS h) (hP : PlC h P) (hj : j < P.nj) (hV : JV (P.jr j)) (kk : Q (some (.int (jW P j x))) h) : mr_M mj_KK d 4 13 [some (.ref 0), some (.int (nI j)), some (.int x), none] [] h Q := by
  have hj12 : j < 12 := by have := hP.2.1; omega
  obtain ⟨a1, a2, a3, a4, a5⟩ := (hP.2.2.2.2.1 j hj).2
  have a6 := (hP.2.2.2.2.1 j hj).1
  have cr := hV.2.2.2.1
  refine kb_4_13 (by first | with_reducible assumption | with_reducible exact kd_P | assumption) (by first | with_reducible assumption | exact rf_P_plan H | assumption) (by first | with_reducible assumption | with_reducible exact kd_PL | assumption) (by first | with_reducible assumption | exact rf_PL_jobs H | assumption) (by first | with_reducible assumption | with_reducible exact kd_PL_jobs | assumption) (by first | with_reducible assumption | (simp (disch := omega) only [z_0, z_1, z_2, z_3, z_4, z_5, z_6, z_7, z_8, z_9, z_10, z_12, z_13, z_20, z_21, z_25, z_56, z_350, z_31, z_32, z_36, z_48, z_57, z_61, z_97, z_100, z_122, z_125, z_126, z_144, z_255, z_700, z_1000, z_1548, nI_add, pk_mul, pk_sub, nI_clamp, nI_leI, nI_ltI, nI_eq, z_in, z_m1, z_m1b, lg_cmp_eq, z_cmp, Decidable.not_not, w_ie, w_in, w_il, w_le, w_ln, w_li, w_ir, w_lr, ln_P_tape, ln_W_text, ln_W_starts, ln_W_ends, ln_W_lines, ln_W_names, ln_W_values, ln_PL_jobs, ln_PL_parts, ln_FT_reached, ln_EX_jobs, ln_EX_codes, ln_CB_names, ln_CB_values, ln_M_tape, ln_M_source, ln_M_wordAt, ln_M_wordEnd, ln_M_names, ln_M_itemCount, ln_M_itemFirst, ln_M_itemWords, ln_M_itemUses, ln_M_keptAt, ln_M_keptEnd, ln_M_needCount, ln_M_axisCount, ln_M_valueCount, ln_M_needed, ln_M_axes, ln_M_values, ln_M_includes, ln_M_excludes, ln_M_pairCount, ln_M_pairName, ln_M_pairValue, ln_M_signCount, ln_M_signs, ln_M_signName, ln_M_signValue, ln_M_whose, ln_M_which, ln_M_pile, ln_M_reaches, ln_M_stepsOf, ln_M_known, ln_JB_needed, ln_JB_axes, ln_JS_used, ln_JS_stepWords, ln_PS_used, ln_PS_stepWords, ln_IN_rows, ln_EC_rows, ln_IR_names, ln_IR_values, ln_ER_names, ln_ER_values, ln_CD_kinds, ln_CD_names, ln_CD_values, ln_AX_values] <;> omega) | assumption) (by first | with_reducible assumption | exact rf_jobs H (by omega) | (simp (disch := omega) only [z_0, z_1, z_2, z_3, z_4, z_5, z_6, z_7, z_8, z_9, z_10, z_12, z_13, z_20, z_21, z_25, z_56, z_350, z_31, z_32, z_36, z_48, z_57, z_61, z_97, z_100, z_122, z_125, z_126, z_144, z_255, z_700, z_1000, z_1548, nI_add, pk_mul, pk_sub, nI_clamp, nI_leI, nI_ltI, nI_eq, z_in, z_m1, z_m1b, lg_cmp_eq, z_cmp, Decidable.not_not, w_ie, w_in, w_il, w_le, w_ln, w_li, w_ir, w_lr]; exact rf_jobs H (by omega)) | (simp (disch := omega) only [z_0, z_1, z_2, z_3, z_4, z_5, z_6, z_7, z_8, z_9, z_10, z_12, z_13, z_20, z_21, z_25, z_56, z_350, z_31, z_32, z_36, z_48, z_57, z_61, z_97, z_100, z_122, z_125, z_126, z_144, z_255, z_700, z_1000, z_1548, nI_add, pk_mul, pk_sub, nI_clamp, nI_leI, nI_ltI, nI_eq, z_in, z_m1, z_m1b, lg_cmp_eq, z_cmp, Decidable.not_not, w_ie, w_in, w_il, w_le, w_ln, w_li, w_ir, w_lr]; assumption) | assumption) (fun c => kb_4_114 ?_) (fun e => kb_4_64 (by first | with_reducible assumption | with_reducible exact kd_JB _ (by omega) | assumption) ?_) (fun e => kb_4_69 (by first | with_reducible assumption | with_reducible exact kd_JB _ (by omega) | assumption) ?_) (fun e => kb_4_74 (by first | with_reducible assumption | with_reducible exact kd_JB _ (by omega) | assumption) (by first | with_reducible assumption | exact rf_JB_includes H (by omega) | assumption) (by first | with_reducible assumption | with_reducible exact kd_IN _ (by omega) | assumption) ?_) (fun e => kb_4_82 (by first | with_reducible assumption | with_reducible exact kd_JB _ (by omega) | assumption) (by first | with_reducible assumption | exact rf_JB_excludes H (by omega) | assumption) (by first | with_reducible assumption | with_reducible exact kd_EC _ (by omega) | assumption) ?_) (fun e => kb_4_90 (by first | with_reducible assumption | with_reducible exact kd_JB _ (by omega) | assumption) (by first | with_reducible assumption | exact rf_JB_section H (by omega) | assumption) (by first | with_reducible assumption | with_reducible exact kd_JS _ (by omega) | assumption) ?_) (fun e => kb_4_98 (by first | with_reducible assumption | with_reducible exact kd_JB _ (by omega) | assumption) (by first | with_reducible assumption | exact rf_JB_condition H (by omega) | assumption) (by first | with_reducible assumption | with_reducible exact kd_CD _ (by omega) | assumption) (fun c => kb_4_112 (kb_4_113 ?_)) (fun c => kb_4_108 (kb_4_113 ?_)))
  · rw [jW_d c] at kk
    exact kk
  · subst e
    rw [a1.1]
    exact kk
  · subst e
    rw [a2.1]
    exact kk
  · subst e
    rw [a3.1]
    exact kk
  · subst e
    rw [a4.1]
    exact kk
  · subst e
    rw [a6.2.1]
    exact kk
  · subst e
    have l20 := cr.2.1
    have a51 := a5.1
    simp (disch := omega) only [z_0, z_1, z_2, z_3, z_4, z_5, z_6, z_7, z_8, z_9, z_10, z_12, z_13, z_20, z_21, z_25, z_56, z_350, z_31, z_32, z_36, z_48, z_57, z_61, z_97, z_100, z_122, z_125, z_126, z_144, z_255, z_700, z_1000, z_1548, nI_add, pk_mul, pk_sub, nI_clamp, nI_leI, nI_ltI, nI_eq, z_in, z_m1, z_m1b, lg_cmp_eq, z_cmp, Decidable.not_not, w_ie, w_in, w_il, w_le, w_ln, w_li, w_ir, w_lr, a51] at c
    have e1 := cr.2.2.1.mpr (List.eq_nil_of_length_eq_zero (by omega))
    have kk : Q (some (.int (if (P.jr j).2.2.2.2.1 = [] then 0 else 1))) h := kk
    rw [if_pos e1] at kk
    exact kk
  · subst e
    have l20 := cr.2.1
    have a51 := a5.1
    simp (disch := omega) only [z_0, z_1, z_2, z_3, z_4, z_5, z_6, z_7, z_8, z_9, z_10, z_12, z_13, z_20, z_21, z_25, z_56, z_350, z_31, z_32, z_36, z_48, z_57, z_61, z_97, z_100, z_122, z_125, z_126, z_144, z_255, z_700, z_1000, z_1548, nI_add, pk_mul, pk_sub, nI_clamp, nI_leI, nI_ltI, nI_eq, z_in, z_m1, z_m1b, lg_cmp_eq, z_cmp, Decidable.not_not, w_ie, w_in, w_il, w_le, w_ln, w_li, w_ir, w_lr, a51] at c
    have kk : Q (some (.int (if (P.jr j).2.2.2.2.1 = [] then 0 else 1))) h := kk
    rw [if_neg (fun q => absurd (cr.2.2.1.mp q) (fun q2 => by rw [q2] at c; exact c (Nat.le_refl 0)))] at kk
    exact kk
theorem s53 (H : mj_RS h) (hP : PlM h W kept P) (hj : j < P.nj) (hV : JV (P.jr j)) (kk : Q (some (.int (jW P j x))) h) : mr_M mj_KK d 53 13 [some (.ref 573), some (.int (nI j)), some (.int x)] [] h Q := by
  have hj12 : j < 12 := by have := hP.1.2.1; omega
  obtain ⟨a1, a2, a3, a4, a5⟩ := hP.2.2.2.2 j hj12
  have a6 := hP.2.2.2.1 j (by omega)
  have cl : (nI j).toNatClampNeg = j := nI_clamp (by omega)
  refine kb_53_13 (fun c => kb_53_102 ?_) (fun e => kb_53_52 (by first | with_reducible assumption | with_reducible exact kd_M | assumption) (by first | with_reducible assumption | exact rf_M_needCount H | assumption) (by first | with_reducible assumption | with_reducible exact kd_M_needCount | assumption) (by first | with_reducible assumption | (simp (disch := omega) only [z_0, z_1, z_2, z_3, z_4, z_5, z_6, z_7, z_8, z_9, z_10, z_12, z_13, z_20, z_21, z_25, z_56, z_350, z_31, z_32, z_36, z_48, z_57, z_61, z_97, z_100, z_122, z_125, z_126, z_144, z_255, z_700, z_1000, z_1548, nI_add, pk_mul, pk_sub, nI_clamp, nI_leI, nI_ltI, nI_eq, z_in, z_m1, z_m1b, lg_cmp_eq, z_cmp, Decidable.not_not, w_ie, w_in, w_il, w_le, w_ln, w_li, w_ir, w_lr, ln_P_tape, ln_W_text, ln_W_starts, ln_W_ends, ln_W_lines, ln_W_names, ln_W_values, ln_PL_jobs, ln_PL_parts, ln_FT_reached, ln_EX_jobs, ln_EX_codes, ln_CB_names, ln_CB_values, ln_M_tape, ln_M_source, ln_M_wordAt, ln_M_wordEnd, ln_M_names, ln_M_itemCount, ln_M_itemFirst, ln_M_itemWords, ln_M_itemUses, ln_M_keptAt, ln_M_keptEnd, ln_M_needCount, ln_M_axisCount, ln_M_valueCount, ln_M_needed, ln_M_axes, ln_M_values, ln_M_includes, ln_M_excludes, ln_M_pairCount, ln_M_pairName, ln_M_pairValue, ln_M_signCount, ln_M_signs, ln_M_signName, ln_M_signValue, ln_M_whose, ln_M_which, ln_M_pile, ln_M_reaches, ln_M_stepsOf, ln_M_known, ln_JB_needed, ln_JB_axes, ln_JS_used, ln_JS_stepWords, ln_PS_used, ln_PS_stepWords, ln_IN_rows, ln_EC_rows, ln_IR_names, ln_IR_values, ln_ER_names, ln_ER_values, ln_CD_kinds, ln_CD_names, ln_CD_values, ln_AX_values] <;> omega) | assumption) ?_) (fun e => kb_53_59 (by first | with_reducible assumption | with_reducible exact kd_M | assumption) (by first | with_reducible assumption | exact rf_M_axisCount H | assumption) (by first | with_reducible assumption | with_reducible exact kd_M_axisCount | assumption) (by first | with_reducible assumption | (simp (disch := omega) only [z_0, z_1, z_2, z_3, z_4, z_5, z_6, z_7, z_8, z_9, z_10, z_12, z_13, z_20, z_21, z_25, z_56, z_350, z_31, z_32, z_36, z_48, z_57, z_61, z_97, z_100, z_122, z_125, z_126, z_144, z_255, z_700, z_1000, z_1548, nI_add, pk_mul, pk_sub, nI_clamp, nI_leI, nI_ltI, nI_eq, z_in, z_m1, z_m1b, lg_cmp_eq, z_cmp, Decidable.not_not, w_ie, w_in, w_il, w_le, w_ln, w_li, w_ir, w_lr, ln_P_tape, ln_W_text, ln_W_starts, ln_W_ends, ln_W_lines, ln_W_names, ln_W_values, ln_PL_jobs, ln_PL_parts, ln_FT_reached, ln_EX_jobs, ln_EX_codes, ln_CB_names, ln_CB_values, ln_M_tape, ln_M_source, ln_M_wordAt, ln_M_wordEnd, ln_M_names, ln_M_itemCount, ln_M_itemFirst, ln_M_itemWords, ln_M_itemUses, ln_M_keptAt, ln_M_keptEnd, ln_M_needCount, ln_M_axisCount, ln_M_valueCount, ln_M_needed, ln_M_axes, ln_M_values, ln_M_includes, ln_M_excludes, ln_M_pairCount, ln_M_pairName, ln_M_pairValue, ln_M_signCount, ln_M_signs, ln_M_signName, ln_M_signValue, ln_M_whose, ln_M_which, ln_M_pile, ln_M_reaches, ln_M_stepsOf, ln_M_known, ln_JB_needed, ln_JB_axes, ln_JS_used, ln_JS_stepWords, ln_PS_used, ln_PS_stepWords, ln_IN_rows, ln_EC_rows, ln_IR_names, ln_IR_values, ln_ER_names, ln_ER_values, ln_CD_kinds, ln_CD_names, ln_CD_values, ln_AX_values] <;> omega) | assumption) ?_) (fun e => kb_53_66 (by first | with_reducible assumption | with_reducible exact kd_M | assumption) (by first | with_reducible assumption | exact rf_M_includes H | assumption) (by first | with_reducible assumption | with_reducible exact kd_M_includes | assumption) (by first | with_reducible assumption | (simp (disch := omega) only [z_0, z_1, z_2, z_3, z_4, z_5, z_6, z_7, z_8, z_9, z_10, z_12, z_13, z_20, z_21, z_25, z_56, z_350, z_31, z_32, z_36, z_48, z_57, z_61, z_97, z_100, z_122, z_125, z_126, z_144, z_255, z_700, z_1000, z_1548, nI_add, pk_mul, pk_sub, nI_clamp, nI_leI, nI_ltI, nI_eq, z_in, z_m1, z_m1b, lg_cmp_eq, z_cmp, Decidable.not_not, w_ie, w_in, w_il, w_le, w_ln, w_li, w_ir, w_lr, ln_P_tape, ln_W_text, ln_W_starts, ln_W_ends, ln_W_lines, ln_W_names, ln_W_values, ln_PL_jobs, ln_PL_parts, ln_FT_reached, ln_EX_jobs, ln_EX_codes, ln_CB_names, ln_CB_values, ln_M_tape, ln_M_source, ln_M_wordAt, ln_M_wordEnd, ln_M_names, ln_M_itemCount, ln_M_itemFirst, ln_M_itemWords, ln_M_itemUses, ln_M_keptAt, ln_M_keptEnd, ln_M_needCount, ln_M_axisCount, ln_M_valueCount, ln_M_needed, ln_M_axes, ln_M_values, ln_M_includes, ln_M_excludes, ln_M_pairCount, ln_M_pairName, ln_M_pairValue, ln_M_signCount, ln_M_signs, ln_M_signName, ln_M_signValue, ln_M_whose, ln_M_which, ln_M_pile, ln_M_reaches, ln_M_stepsOf, ln_M_known, ln_JB_needed, ln_JB_axes, ln_JS_used, ln_JS_stepWords, ln_PS_used, ln_PS_stepWords, ln_IN_rows, ln_EC_rows, ln_IR_names, ln_IR_values, ln_ER_names, ln_ER_values, ln_CD_kinds, ln_CD_names, ln_CD_values, ln_AX_values] <;> omega) | assumption) ?_) (fun e => kb_53_73 (by first | with_reducible assumption | with_reducible exact kd_M | assumption) (by first | with_reducible assumption | exact rf_M_excludes H | assumption) (by first | with_reducible assumption | with_reducible exact kd_M_excludes | assumption) (by first | with_reducible assumption | (simp (disch := omega) only [z_0, z_1, z_2, z_3, z_4, z_5, z_6, z_7, z_8, z_9, z_10, z_12, z_13, z_20, z_21, z_25, z_56, z_350, z_31, z_32, z_36, z_48, z_57, z_61, z_97, z_100, z_122, z_125, z_126, z_144, z_255, z_700, z_1000, z_1548, nI_add, pk_mul, pk_sub, nI_clamp, nI_leI, nI_ltI, nI_eq, z_in, z_m1, z_m1b, lg_cmp_eq, z_cmp, Decidable.not_not, w_ie, w_in, w_il, w_le, w_ln, w_li, w_ir, w_lr, ln_P_tape, ln_W_text, ln_W_starts, ln_W_ends, ln_W_lines, ln_W_names, ln_W_values, ln_PL_jobs, ln_PL_parts, ln_FT_reached, ln_EX_jobs, ln_EX_codes, ln_CB_names, ln_CB_values, ln_M_tape, ln_M_source, ln_M_wordAt, ln_M_wordEnd, ln_M_names, ln_M_itemCount, ln_M_itemFirst, ln_M_itemWords, ln_M_itemUses, ln_M_keptAt, ln_M_keptEnd, ln_M_needCount, ln_M_axisCount, ln_M_valueCount, ln_M_needed, ln_M_axes, ln_M_values, ln_M_includes, ln_M_excludes, ln_M_pairCount, ln_M_pairName, ln_M_pairValue, ln_M_signCount, ln_M_signs, ln_M_signName, ln_M_signValue, ln_M_whose, ln_M_which, ln_M_pile, ln_M_reaches, ln_M_stepsOf, ln_M_known, ln_JB_needed, ln_JB_axes, ln_JS_used, ln_JS_stepWords, ln_PS_used, ln_PS_stepWords, ln_IN_rows, ln_EC_rows, ln_IR_names, ln_IR_values, ln_ER_names, ln_ER_values, ln_CD_kinds, ln_CD_names, ln_CD_values, ln_AX_values] <;> omega) | assumption) ?_) (fun e => kb_53_80 (by first | with_reducible assumption | with_reducible exact kd_M | assumption) (by first | with_reducible assumption | exact rf_M_itemCount H | assumption) (by first | with_reducible assumption | with_reducible exact kd_M_itemCount | assumption) (by first | with_reducible assumption | (simp (disch := omega) only [z_0, z_1, z_2, z_3, z_4, z_5, z_6, z_7, z_8, z_9, z_10, z_12, z_13, z_20, z_21, z_25, z_56, z_350, z_31, z_32, z_36, z_48, z_57, z_61, z_97, z_100, z_122, z_125, z_126, z_144, z_255, z_700, z_1000, z_1548, nI_add, pk_mul, pk_sub, nI_clamp, nI_leI, nI_ltI, nI_eq, z_in, z_m1, z_m1b, lg_cmp_eq, z_cmp, Decidable.not_not, w_ie, w_in, w_il, w_le, w_ln, w_li, w_ir, w_lr, ln_P_tape, ln_W_text, ln_W_starts, ln_W_ends, ln_W_lines, ln_W_names, ln_W_values, ln_PL_jobs, ln_PL_parts, ln_FT_reached, ln_EX_jobs, ln_EX_codes, ln_CB_names, ln_CB_values, ln_M_tape, ln_M_source, ln_M_wordAt, ln_M_wordEnd, ln_M_names, ln_M_itemCount, ln_M_itemFirst, ln_M_itemWords, ln_M_itemUses, ln_M_keptAt, ln_M_keptEnd, ln_M_needCount, ln_M_axisCount, ln_M_valueCount, ln_M_needed, ln_M_axes, ln_M_values, ln_M_includes, ln_M_excludes, ln_M_pairCount, ln_M_pairName, ln_M_pairValue, ln_M_signCount, ln_M_signs, ln_M_signName, ln_M_signValue, ln_M_whose, ln_M_which, ln_M_pile, ln_M_reaches, ln_M_stepsOf, ln_M_known, ln_JB_needed, ln_JB_axes, ln_JS_used, ln_JS_stepWords, ln_PS_used, ln_PS_stepWords, ln_IN_rows, ln_EC_rows, ln_IR_names, ln_IR_values, ln_ER_names, ln_ER_values, ln_CD_kinds, ln_CD_names, ln_CD_values, ln_AX_values] <;> omega) | assumption) ?_) (fun e => kb_53_87 (by first | with_reducible assumption | with_reducible exact kd_M | assumption) (by first | with_reducible assumption | exact rf_M_signCount H | assumption) (by first | with_reducible assumption | with_reducible exact kd_M_signCount | assumption) (by first | with_reducible assumption | (simp (disch := omega) only [z_0, z_1, z_2, z_3, z_4, z_5, z_6, z_7, z_8, z_9, z_10, z_12, z_13, z_20, z_21, z_25, z_56, z_350, z_31, z_32, z_36, z_48, z_57, z_61, z_97, z_100, z_122, z_125, z_126, z_144, z_255, z_700, z_1000, z_1548, nI_add, pk_mul, pk_sub, nI_clamp, nI_leI, nI_ltI, nI_eq, z_in, z_m1, z_m1b, lg_cmp_eq, z_cmp, Decidable.not_not, w_ie, w_in, w_il, w_le, w_ln, w_li, w_ir, w_lr, ln_P_tape, ln_W_text, ln_W_starts, ln_W_ends, ln_W_lines, ln_W_names, ln_W_values, ln_PL_jobs, ln_PL_parts, ln_FT_reached, ln_EX_jobs, ln_EX_codes, ln_CB_names, ln_CB_values, ln_M_tape, ln_M_source, ln_M_wordAt, ln_M_wordEnd, ln_M_names, ln_M_itemCount, ln_M_itemFirst, ln_M_itemWords, ln_M_itemUses, ln_M_keptAt, ln_M_keptEnd, ln_M_needCount, ln_M_axisCount, ln_M_valueCount, ln_M_needed, ln_M_axes, ln_M_values, ln_M_includes, ln_M_excludes, ln_M_pairCount, ln_M_pairName, ln_M_pairValue, ln_M_signCount, ln_M_signs, ln_M_signName, ln_M_signValue, ln_M_whose, ln_M_which, ln_M_pile, ln_M_reaches, ln_M_stepsOf, ln_M_known, ln_JB_needed, ln_JB_axes, ln_JS_used, ln_JS_stepWords, ln_PS_used, ln_PS_stepWords, ln_IN_rows, ln_EC_rows, ln_IR_names, ln_IR_values, ln_ER_names, ln_ER_values, ln_CD_kinds, ln_CD_names, ln_CD_values, ln_AX_values] <;> omega) | assumption) (fun c => kb_53_100 (kb_53_101 ?_)) (fun c => kb_53_96 (kb_53_101 ?_)))
  · rw [jW_d c] at kk
    exact kk
  · subst e
    rw [cl, a1.1]
    exact kk
  · subst e
    rw [cl, a2.1]
    exact kk
  · subst e
    rw [cl, a3.1]
    exact kk
  · subst e
    rw [cl, a4.1]
    exact kk
  · subst e
    rw [cl, a6.1]
    exact kk
  · subst e
    have l20 := hV.2.2.2.1.1
    have a51 := a5.1
    simp (disch := omega) only [z_0, z_1, z_2, z_3, z_4, z_5, z_6, z_7, z_8, z_9, z_10, z_12, z_13, z_20, z_21, z_25, z_56, z_350, z_31, z_32, z_36, z_48, z_57, z_61, z_97, z_100, z_122, z_125, z_126, z_144, z_255, z_700, z_1000, z_1548, nI_add, pk_mul, pk_sub, nI_clamp, nI_leI, nI_ltI, nI_eq, z_in, z_m1, z_m1b, lg_cmp_eq, z_cmp, Decidable.not_not, w_ie, w_in, w_il, w_le, w_ln, w_li, w_ir, w_lr, a51] at c
    have kk : Q (some (.int (if (P.jr j).2.2.2.2.1 = [] then 0 else 1))) h := kk
    rw [if_pos (List.eq_nil_of_length_eq_zero (by omega))] at kk
    exact kk
  · subst e
    have l20 := hV.2.2.2.1.1
    have a51 := a5.1
    simp (disch := omega) only [z_0, z_1, z_2, z_3, z_4, z_5, z_6, z_7, z_8, z_9, z_10, z_12, z_13, z_20, z_21, z_25, z_56, z_350, z_31, z_32, z_36, z_48, z_57, z_61, z_97, z_100, z_122, z_125, z_126, z_144, z_255, z_700, z_1000, z_1548, nI_add, pk_mul, pk_sub, nI_clamp, nI_leI, nI_ltI, nI_eq, z_in, z_m1, z_m1b, lg_cmp_eq, z_cmp, Decidable.not_not, w_ie, w_in, w_il, w_le, w_ln, w_li, w_ir, w_lr, a51] at c
    have kk : Q (some (.int (if (P.jr j).2.2.2.2.1 = [] then 0 else 1))) h := kk
    rw [if_neg (fun q => by rw [q] at c; exact c (Nat.le_refl 0))] at kk
    exact kk
end
theorem b2i_n0 : ¬ b2i true = 0 := by decide
theorem mj_op4 (x y : Int32) : mj_Op mj_J mj_KK 573 4 53 [.int x, .int y] := by
  refine mj_op_of (fun h hJ => ?_)
  obtain ⟨H, b, t, P, X, L, W, kept, XE, r, e⟩ := id hJ
  obtain ⟨r1, r2, r3, r4, r5, r6, r7, r8, r9, r10⟩ := r
  have n12 := r4.1
  show mr_M mj_KK 60 4 0 [some (.ref 0), some (.int x), some (.int y), none] [] h _
  refine kb_4_0 (by first | with_reducible assumption | with_reducible exact kd_P | assumption) (by first | with_reducible assumption | exact rf_P_plan H | assumption) (by first | with_reducible assumption | with_reducible exact kd_PL | assumption) (by omega) (s141 r5.1 ?_)
  rcases in_cases (x := x) (N := P.nj) (by omega) with q | ⟨j, hj, rfl⟩
  · rw [q]
    refine kb_4_8 (fun c => absurd rfl c) (fun _ => kb_4_11 ⟨_, rfl, ?_⟩)
    show mr_M mj_KK 60 53 0 [some (.ref 573), some (.int x), some (.int y)] [] h _
    refine kb_53_0 (by first | with_reducible assumption | with_reducible exact kd_M | assumption) (by omega) (s23 ?_)
    rw [r6.1.1, q]
    exact kb_53_8 (fun c => absurd rfl c) (fun _ => kb_53_11 ⟨rfl, hJ⟩)
  · rw [in_yes hj (by omega)]
    refine kb_4_8 (fun _ => ?_) (fun c => absurd b2i_n0 c)
    refine s4 (by decide) H r5 hj (r4.2.2.2.2.2 j) ⟨_, rfl, ?_⟩
    show mr_M mj_KK 60 53 0 [some (.ref 573), some (.int (nI j)), some (.int y)] [] h _
    refine kb_53_0 (by first | with_reducible assumption | with_reducible exact kd_M | assumption) (by omega) (s23 ?_)
    rw [r6.1.1, in_yes hj (by omega)]
    exact kb_53_8 (fun _ => s53 H r6 hj (r4.2.2.2.2.2 j) ⟨rfl, hJ⟩) (fun c => absurd b2i_n0 c)
theorem mj_op5 (x y : Int32) : mj_Op mj_J mj_KK 573 5 54 [.int x, .int y] := by
  refine mj_op_of (fun h hJ => ?_)
  obtain ⟨H, b, t, P, X, L, W, kept, XE, r, e⟩ := id hJ
  obtain ⟨r1, r2, r3, r4, r5, r6, r7, r8, r9, r10⟩ := r
  have n12 := r4.1
  show mr_M mj_KK 60 5 0 [some (.ref 0), some (.int x), some (.int y)] [] h _
  refine kb_5_0 (by first | with_reducible assumption | with_reducible exact kd_P | assumption) (by first | with_reducible assumption | exact rf_P_plan H | assumption) (by first | with_reducible assumption | with_reducible exact kd_PL | assumption) (by omega) (s141 r5.1 ?_)
  rcases in_cases (x := x) (N := P.nj) (by omega) with q | ⟨j, hj, rfl⟩
  · rw [q]
    refine kb_5_8 (fun _ => kb_5_31 ⟨_, rfl, ?_⟩) (fun c => absurd rfl c)
    show mr_M mj_KK 60 54 0 [some (.ref 573), some (.int x), some (.int y)] [] h _
    refine kb_54_0 (by first | with_reducible assumption | with_reducible exact kd_M | assumption) (by omega) (s23 ?_)
    rw [r6.1.1, q]
    exact kb_54_8 (fun _ => kb_54_42 (kb_54_43 ⟨rfl, hJ⟩)) (fun c => absurd rfl c)
  · rw [in_yes hj (by omega)]
    refine kb_5_8 (fun c => absurd c b2i_n0) (fun _ => ?_)
    have hj12 : j < 12 := by omega
    obtain ⟨a1, a2, a3⟩ := (r5.2.2.2.2.1 j hj).2.1
    obtain ⟨m1, m2, m3⟩ := (r6.2.2.2.2 j hj12).1
    have cl : (nI j).toNatClampNeg = j := nI_clamp (by omega)
    rcases in_cases (x := y) (N := (P.jr j).1.length) (by omega) with q | ⟨i, hi, rfl⟩
    · have bad : ∃ r, some (Value.int (-1)) = some (Value.int r) ∧ mr_C mj_KK 60 54 (.ref 573 :: [.int (nI j), .int y]) h (fun v2 h2 => v2 = some (.int r) ∧ mj_J h2) := by
        refine ⟨_, rfl, ?_⟩
        show mr_M mj_KK 60 54 0 [some (.ref 573), some (.int (nI j)), some (.int y)] [] h _
        refine kb_54_0 (by first | with_reducible assumption | with_reducible exact kd_M | assumption) (by omega) (s23 ?_)
        rw [r6.1.1, in_yes hj (by omega)]
        refine kb_54_8 (fun c => absurd c b2i_n0) (fun _ => kb_54_11 (by first | with_reducible assumption | with_reducible exact kd_M | assumption) (by first | with_reducible assumption | exact rf_M_needCount H | assumption) (by first | with_reducible assumption | with_reducible exact kd_M_needCount | assumption) (by first | with_reducible assumption | (simp (disch := omega) only [z_0, z_1, z_2, z_3, z_4, z_5, z_6, z_7, z_8, z_9, z_10, z_12, z_13, z_20, z_21, z_25, z_56, z_350, z_31, z_32, z_36, z_48, z_57, z_61, z_97, z_100, z_122, z_125, z_126, z_144, z_255, z_700, z_1000, z_1548, nI_add, pk_mul, pk_sub, nI_clamp, nI_leI, nI_ltI, nI_eq, z_in, z_m1, z_m1b, lg_cmp_eq, z_cmp, Decidable.not_not, w_ie, w_in, w_il, w_le, w_ln, w_li, w_ir, w_lr, ln_P_tape, ln_W_text, ln_W_starts, ln_W_ends, ln_W_lines, ln_W_names, ln_W_values, ln_PL_jobs, ln_PL_parts, ln_FT_reached, ln_EX_jobs, ln_EX_codes, ln_CB_names, ln_CB_values, ln_M_tape, ln_M_source, ln_M_wordAt, ln_M_wordEnd, ln_M_names, ln_M_itemCount, ln_M_itemFirst, ln_M_itemWords, ln_M_itemUses, ln_M_keptAt, ln_M_keptEnd, ln_M_needCount, ln_M_axisCount, ln_M_valueCount, ln_M_needed, ln_M_axes, ln_M_values, ln_M_includes, ln_M_excludes, ln_M_pairCount, ln_M_pairName, ln_M_pairValue, ln_M_signCount, ln_M_signs, ln_M_signName, ln_M_signValue, ln_M_whose, ln_M_which, ln_M_pile, ln_M_reaches, ln_M_stepsOf, ln_M_known, ln_JB_needed, ln_JB_axes, ln_JS_used, ln_JS_stepWords, ln_PS_used, ln_PS_stepWords, ln_IN_rows, ln_EC_rows, ln_IR_names, ln_IR_values, ln_ER_names, ln_ER_values, ln_CD_kinds, ln_CD_names, ln_CD_values, ln_AX_values] <;> omega) | assumption) (by omega) (s23 ?_))
        rw [cl, m1, q]
        exact kb_54_21 (fun _ => kb_54_42 (kb_54_43 ⟨rfl, hJ⟩)) (fun c => absurd rfl c)
      refine kb_5_11 (fun _ => kb_5_31 bad) (fun c => kb_5_15 (by first | with_reducible assumption | with_reducible exact kd_P | assumption) (by first | with_reducible assumption | exact rf_P_plan H | assumption) (by first | with_reducible assumption | with_reducible exact kd_PL | assumption) (by first | with_reducible assumption | exact rf_PL_jobs H | assumption) (by first | with_reducible assumption | with_reducible exact kd_PL_jobs | assumption) (by first | with_reducible assumption | (simp (disch := omega) only [z_0, z_1, z_2, z_3, z_4, z_5, z_6, z_7, z_8, z_9, z_10, z_12, z_13, z_20, z_21, z_25, z_56, z_350, z_31, z_32, z_36, z_48, z_57, z_61, z_97, z_100, z_122, z_125, z_126, z_144, z_255, z_700, z_1000, z_1548, nI_add, pk_mul, pk_sub, nI_clamp, nI_leI, nI_ltI, nI_eq, z_in, z_m1, z_m1b, lg_cmp_eq, z_cmp, Decidable.not_not, w_ie, w_in, w_il, w_le, w_ln, w_li, w_ir, w_lr, ln_P_tape, ln_W_text, ln_W_starts, ln_W_ends, ln_W_lines, ln_W_names, ln_W_values, ln_PL_jobs, ln_PL_parts, ln_FT_reached, ln_EX_jobs, ln_EX_codes, ln_CB_names, ln_CB_values, ln_M_tape, ln_M_source, ln_M_wordAt, ln_M_wordEnd, ln_M_names, ln_M_itemCount, ln_M_itemFirst, ln_M_itemWords, ln_M_itemUses, ln_M_keptAt, ln_M_keptEnd, ln_M_needCount, ln_M_axisCount, ln_M_valueCount, ln_M_needed, ln_M_axes, ln_M_values, ln_M_includes, ln_M_excludes, ln_M_pairCount, ln_M_pairName, ln_M_pairValue, ln_M_signCount, ln_M_signs, ln_M_signName, ln_M_signValue, ln_M_whose, ln_M_which, ln_M_pile, ln_M_reaches, ln_M_stepsOf, ln_M_known, ln_JB_needed, ln_JB_axes, ln_JS_used, ln_JS_stepWords, ln_PS_used, ln_PS_stepWords, ln_IN_rows, ln_EC_rows, ln_IR_names, ln_IR_values, ln_ER_names, ln_ER_values, ln_CD_kinds, ln_CD_names, ln_CD_values, ln_AX_values] <;> omega) | assumption) (by first | with_reducible assumption | exact rf_jobs H (by omega) | (simp (disch := omega) only [z_0, z_1, z_2, z_3, z_4, z_5, z_6, z_7, z_8, z_9, z_10, z_12, z_13, z_20, z_21, z_25, z_56, z_350, z_31, z_32, z_36, z_48, z_57, z_61, z_97, z_100, z_122, z_125, z_126, z_144, z_255, z_700, z_1000, z_1548, nI_add, pk_mul, pk_sub, nI_clamp, nI_leI, nI_ltI, nI_eq, z_in, z_m1, z_m1b, lg_cmp_eq, z_cmp, Decidable.not_not, w_ie, w_in, w_il, w_le, w_ln, w_li, w_ir, w_lr]; exact rf_jobs H (by omega)) | (simp (disch := omega) only [z_0, z_1, z_2, z_3, z_4, z_5, z_6, z_7, z_8, z_9, z_10, z_12, z_13, z_20, z_21, z_25, z_56, z_350, z_31, z_32, z_36, z_48, z_57, z_61, z_97, z_100, z_122, z_125, z_126, z_144, z_255, z_700, z_1000, z_1548, nI_add, pk_mul, pk_sub, nI_clamp, nI_leI, nI_ltI, nI_eq, z_in, z_m1, z_m1b, lg_cmp_eq, z_cmp, Decidable.not_not, w_ie, w_in, w_il, w_le, w_ln, w_li, w_ir, w_lr]; assumption) | assumption) (by first | with_reducible assumption | with_reducible exact kd_JB _ (by omega) | assumption) (fun c2 => ?_) (fun _ => kb_5_31 bad))
      rw [cl, a1] at c2
      exact absurd (decide_eq_true (show 0 ≤ y ∧ y < nI (P.jr j).1.length from ⟨i_nle c, c2⟩)) (by rw [q]; decide)
    · refine kb_5_11 (fun c => (by simp (disch := omega) only [z_0, z_1, z_2, z_3, z_4, z_5, z_6, z_7, z_8, z_9, z_10, z_12, z_13, z_20, z_21, z_25, z_56, z_350, z_31, z_32, z_36, z_48, z_57, z_61, z_97, z_100, z_122, z_125, z_126, z_144, z_255, z_700, z_1000, z_1548, nI_add, pk_mul, pk_sub, nI_clamp, nI_leI, nI_ltI, nI_eq, z_in, z_m1, z_m1b, lg_cmp_eq, z_cmp, Decidable.not_not, w_ie, w_in, w_il, w_le, w_ln, w_li, w_ir, w_lr] at c; exfalso; omega)) (fun _ => kb_5_15 (by first | with_reducible assumption | with_reducible exact kd_P | assumption) (by first | with_reducible assumption | exact rf_P_plan H | assumption) (by first | with_reducible assumption | with_reducible exact kd_PL | assumption) (by first | with_reducible assumption | exact rf_PL_jobs H | assumption) (by first | with_reducible assumption | with_reducible exact kd_PL_jobs | assumption) (by first | with_reducible assumption | (simp (disch := omega) only [z_0, z_1, z_2, z_3, z_4, z_5, z_6, z_7, z_8, z_9, z_10, z_12, z_13, z_20, z_21, z_25, z_56, z_350, z_31, z_32, z_36, z_48, z_57, z_61, z_97, z_100, z_122, z_125, z_126, z_144, z_255, z_700, z_1000, z_1548, nI_add, pk_mul, pk_sub, nI_clamp, nI_leI, nI_ltI, nI_eq, z_in, z_m1, z_m1b, lg_cmp_eq, z_cmp, Decidable.not_not, w_ie, w_in, w_il, w_le, w_ln, w_li, w_ir, w_lr, ln_P_tape, ln_W_text, ln_W_starts, ln_W_ends, ln_W_lines, ln_W_names, ln_W_values, ln_PL_jobs, ln_PL_parts, ln_FT_reached, ln_EX_jobs, ln_EX_codes, ln_CB_names, ln_CB_values, ln_M_tape, ln_M_source, ln_M_wordAt, ln_M_wordEnd, ln_M_names, ln_M_itemCount, ln_M_itemFirst, ln_M_itemWords, ln_M_itemUses, ln_M_keptAt, ln_M_keptEnd, ln_M_needCount, ln_M_axisCount, ln_M_valueCount, ln_M_needed, ln_M_axes, ln_M_values, ln_M_includes, ln_M_excludes, ln_M_pairCount, ln_M_pairName, ln_M_pairValue, ln_M_signCount, ln_M_signs, ln_M_signName, ln_M_signValue, ln_M_whose, ln_M_which, ln_M_pile, ln_M_reaches, ln_M_stepsOf, ln_M_known, ln_JB_needed, ln_JB_axes, ln_JS_used, ln_JS_stepWords, ln_PS_used, ln_PS_stepWords, ln_IN_rows, ln_EC_rows, ln_IR_names, ln_IR_values, ln_ER_names, ln_ER_values, ln_CD_kinds, ln_CD_names, ln_CD_values, ln_AX_values] <;> omega) | assumption) (by first | with_reducible assumption | exact rf_jobs H (by omega) | (simp (disch := omega) only [z_0, z_1, z_2, z_3, z_4, z_5, z_6, z_7, z_8, z_9, z_10, z_12, z_13, z_20, z_21, z_25, z_56, z_350, z_31, z_32, z_36, z_48, z_57, z_61, z_97, z_100, z_122, z_125, z_126, z_144, z_255, z_700, z_1000, z_1548, nI_add, pk_mul, pk_sub, nI_clamp, nI_leI, nI_ltI, nI_eq, z_in, z_m1, z_m1b, lg_cmp_eq, z_cmp, Decidable.not_not, w_ie, w_in, w_il, w_le, w_ln, w_li, w_ir, w_lr]; exact rf_jobs H (by omega)) | (simp (disch := omega) only [z_0, z_1, z_2, z_3, z_4, z_5, z_6, z_7, z_8, z_9, z_10, z_12, z_13, z_20, z_21, z_25, z_56, z_350, z_31, z_32, z_36, z_48, z_57, z_61, z_97, z_100, z_122, z_125, z_126, z_144, z_255, z_700, z_1000, z_1548, nI_add, pk_mul, pk_sub, nI_clamp, nI_leI, nI_ltI, nI_eq, z_in, z_m1, z_m1b, lg_cmp_eq, z_cmp, Decidable.not_not, w_ie, w_in, w_il, w_le, w_ln, w_li, w_ir, w_lr]; assumption) | assumption) (by first | with_reducible assumption | with_reducible exact kd_JB _ (by omega) | assumption) (fun _ => kb_5_33 (by first | with_reducible assumption | with_reducible exact kd_P | assumption) (by first | with_reducible assumption | exact rf_P_plan H | assumption) (by first | with_reducible assumption | with_reducible exact kd_PL | assumption) (by first | with_reducible assumption | exact rf_PL_jobs H | assumption) (by first | with_reducible assumption | with_reducible exact kd_PL_jobs | assumption) (by first | with_reducible assumption | (simp (disch := omega) only [z_0, z_1, z_2, z_3, z_4, z_5, z_6, z_7, z_8, z_9, z_10, z_12, z_13, z_20, z_21, z_25, z_56, z_350, z_31, z_32, z_36, z_48, z_57, z_61, z_97, z_100, z_122, z_125, z_126, z_144, z_255, z_700, z_1000, z_1548, nI_add, pk_mul, pk_sub, nI_clamp, nI_leI, nI_ltI, nI_eq, z_in, z_m1, z_m1b, lg_cmp_eq, z_cmp, Decidable.not_not, w_ie, w_in, w_il, w_le, w_ln, w_li, w_ir, w_lr, ln_P_tape, ln_W_text, ln_W_starts, ln_W_ends, ln_W_lines, ln_W_names, ln_W_values, ln_PL_jobs, ln_PL_parts, ln_FT_reached, ln_EX_jobs, ln_EX_codes, ln_CB_names, ln_CB_values, ln_M_tape, ln_M_source, ln_M_wordAt, ln_M_wordEnd, ln_M_names, ln_M_itemCount, ln_M_itemFirst, ln_M_itemWords, ln_M_itemUses, ln_M_keptAt, ln_M_keptEnd, ln_M_needCount, ln_M_axisCount, ln_M_valueCount, ln_M_needed, ln_M_axes, ln_M_values, ln_M_includes, ln_M_excludes, ln_M_pairCount, ln_M_pairName, ln_M_pairValue, ln_M_signCount, ln_M_signs, ln_M_signName, ln_M_signValue, ln_M_whose, ln_M_which, ln_M_pile, ln_M_reaches, ln_M_stepsOf, ln_M_known, ln_JB_needed, ln_JB_axes, ln_JS_used, ln_JS_stepWords, ln_PS_used, ln_PS_stepWords, ln_IN_rows, ln_EC_rows, ln_IR_names, ln_IR_values, ln_ER_names, ln_ER_values, ln_CD_kinds, ln_CD_names, ln_CD_values, ln_AX_values] <;> omega) | assumption) (by first | with_reducible assumption | exact rf_jobs H (by omega) | (simp (disch := omega) only [z_0, z_1, z_2, z_3, z_4, z_5, z_6, z_7, z_8, z_9, z_10, z_12, z_13, z_20, z_21, z_25, z_56, z_350, z_31, z_32, z_36, z_48, z_57, z_61, z_97, z_100, z_122, z_125, z_126, z_144, z_255, z_700, z_1000, z_1548, nI_add, pk_mul, pk_sub, nI_clamp, nI_leI, nI_ltI, nI_eq, z_in, z_m1, z_m1b, lg_cmp_eq, z_cmp, Decidable.not_not, w_ie, w_in, w_il, w_le, w_ln, w_li, w_ir, w_lr]; exact rf_jobs H (by omega)) | (simp (disch := omega) only [z_0, z_1, z_2, z_3, z_4, z_5, z_6, z_7, z_8, z_9, z_10, z_12, z_13, z_20, z_21, z_25, z_56, z_350, z_31, z_32, z_36, z_48, z_57, z_61, z_97, z_100, z_122, z_125, z_126, z_144, z_255, z_700, z_1000, z_1548, nI_add, pk_mul, pk_sub, nI_clamp, nI_leI, nI_ltI, nI_eq, z_in, z_m1, z_m1b, lg_cmp_eq, z_cmp, Decidable.not_not, w_ie, w_in, w_il, w_le, w_ln, w_li, w_ir, w_lr]; assumption) | assumption) (by first | with_reducible assumption | with_reducible exact kd_JB _ (by omega) | assumption) (by first | with_reducible assumption | exact rf_JB_needed H (by omega) | assumption) (by first | with_reducible assumption | with_reducible exact kd_JB_needed _ (by omega) | assumption) (by first | with_reducible assumption | (simp (disch := omega) only [z_0, z_1, z_2, z_3, z_4, z_5, z_6, z_7, z_8, z_9, z_10, z_12, z_13, z_20, z_21, z_25, z_56, z_350, z_31, z_32, z_36, z_48, z_57, z_61, z_97, z_100, z_122, z_125, z_126, z_144, z_255, z_700, z_1000, z_1548, nI_add, pk_mul, pk_sub, nI_clamp, nI_leI, nI_ltI, nI_eq, z_in, z_m1, z_m1b, lg_cmp_eq, z_cmp, Decidable.not_not, w_ie, w_in, w_il, w_le, w_ln, w_li, w_ir, w_lr, ln_P_tape, ln_W_text, ln_W_starts, ln_W_ends, ln_W_lines, ln_W_names, ln_W_values, ln_PL_jobs, ln_PL_parts, ln_FT_reached, ln_EX_jobs, ln_EX_codes, ln_CB_names, ln_CB_values, ln_M_tape, ln_M_source, ln_M_wordAt, ln_M_wordEnd, ln_M_names, ln_M_itemCount, ln_M_itemFirst, ln_M_itemWords, ln_M_itemUses, ln_M_keptAt, ln_M_keptEnd, ln_M_needCount, ln_M_axisCount, ln_M_valueCount, ln_M_needed, ln_M_axes, ln_M_values, ln_M_includes, ln_M_excludes, ln_M_pairCount, ln_M_pairName, ln_M_pairValue, ln_M_signCount, ln_M_signs, ln_M_signName, ln_M_signValue, ln_M_whose, ln_M_which, ln_M_pile, ln_M_reaches, ln_M_stepsOf, ln_M_known, ln_JB_needed, ln_JB_axes, ln_JS_used, ln_JS_stepWords, ln_PS_used, ln_PS_stepWords, ln_IN_rows, ln_EC_rows, ln_IR_names, ln_IR_values, ln_ER_names, ln_ER_values, ln_CD_kinds, ln_CD_names, ln_CD_values, ln_AX_values] <;> omega) | assumption) (by omega) (s142P H r5 (kb_5_54 ⟨_, rfl, ?_⟩))) (fun c => (by simp (disch := omega) only [z_0, z_1, z_2, z_3, z_4, z_5, z_6, z_7, z_8, z_9, z_10, z_12, z_13, z_20, z_21, z_25, z_56, z_350, z_31, z_32, z_36, z_48, z_57, z_61, z_97, z_100, z_122, z_125, z_126, z_144, z_255, z_700, z_1000, z_1548, nI_add, pk_mul, pk_sub, nI_clamp, nI_leI, nI_ltI, nI_eq, z_in, z_m1, z_m1b, lg_cmp_eq, z_cmp, Decidable.not_not, w_ie, w_in, w_il, w_le, w_ln, w_li, w_ir, w_lr, a1] at c; exfalso; omega)))
      show mr_M mj_KK 60 54 0 [some (.ref 573), some (.int (nI j)), some (.int (nI i))] [] h _
      refine kb_54_0 (by first | with_reducible assumption | with_reducible exact kd_M | assumption) (by omega) (s23 ?_)
      rw [r6.1.1, in_yes hj (by omega)]
      refine kb_54_8 (fun c => absurd c b2i_n0) (fun _ => kb_54_11 (by first | with_reducible assumption | with_reducible exact kd_M | assumption) (by first | with_reducible assumption | exact rf_M_needCount H | assumption) (by first | with_reducible assumption | with_reducible exact kd_M_needCount | assumption) (by first | with_reducible assumption | (simp (disch := omega) only [z_0, z_1, z_2, z_3, z_4, z_5, z_6, z_7, z_8, z_9, z_10, z_12, z_13, z_20, z_21, z_25, z_56, z_350, z_31, z_32, z_36, z_48, z_57, z_61, z_97, z_100, z_122, z_125, z_126, z_144, z_255, z_700, z_1000, z_1548, nI_add, pk_mul, pk_sub, nI_clamp, nI_leI, nI_ltI, nI_eq, z_in, z_m1, z_m1b, lg_cmp_eq, z_cmp, Decidable.not_not, w_ie, w_in, w_il, w_le, w_ln, w_li, w_ir, w_lr, ln_P_tape, ln_W_text, ln_W_starts, ln_W_ends, ln_W_lines, ln_W_names, ln_W_values, ln_PL_jobs, ln_PL_parts, ln_FT_reached, ln_EX_jobs, ln_EX_codes, ln_CB_names, ln_CB_values, ln_M_tape, ln_M_source, ln_M_wordAt, ln_M_wordEnd, ln_M_names, ln_M_itemCount, ln_M_itemFirst, ln_M_itemWords, ln_M_itemUses, ln_M_keptAt, ln_M_keptEnd, ln_M_needCount, ln_M_axisCount, ln_M_valueCount, ln_M_needed, ln_M_axes, ln_M_values, ln_M_includes, ln_M_excludes, ln_M_pairCount, ln_M_pairName, ln_M_pairValue, ln_M_signCount, ln_M_signs, ln_M_signName, ln_M_signValue, ln_M_whose, ln_M_which, ln_M_pile, ln_M_reaches, ln_M_stepsOf, ln_M_known, ln_JB_needed, ln_JB_axes, ln_JS_used, ln_JS_stepWords, ln_PS_used, ln_PS_stepWords, ln_IN_rows, ln_EC_rows, ln_IR_names, ln_IR_values, ln_ER_names, ln_ER_values, ln_CD_kinds, ln_CD_names, ln_CD_values, ln_AX_values] <;> omega) | assumption) (by omega) (s23 ?_))
      rw [cl, m1, in_yes hi (by omega)]
      refine kb_54_21 (fun c => absurd c b2i_n0) (fun _ => kb_54_24 (by first | with_reducible assumption | with_reducible exact kd_M | assumption) (by first | with_reducible assumption | exact rf_M_needed H | assumption) (by first | with_reducible assumption | with_reducible exact kd_M_needed | assumption) (by first | with_reducible assumption | (simp (disch := omega) only [z_0, z_1, z_2, z_3, z_4, z_5, z_6, z_7, z_8, z_9, z_10, z_12, z_13, z_20, z_21, z_25, z_56, z_350, z_31, z_32, z_36, z_48, z_57, z_61, z_97, z_100, z_122, z_125, z_126, z_144, z_255, z_700, z_1000, z_1548, nI_add, pk_mul, pk_sub, nI_clamp, nI_leI, nI_ltI, nI_eq, z_in, z_m1, z_m1b, lg_cmp_eq, z_cmp, Decidable.not_not, w_ie, w_in, w_il, w_le, w_ln, w_li, w_ir, w_lr, ln_P_tape, ln_W_text, ln_W_starts, ln_W_ends, ln_W_lines, ln_W_names, ln_W_values, ln_PL_jobs, ln_PL_parts, ln_FT_reached, ln_EX_jobs, ln_EX_codes, ln_CB_names, ln_CB_values, ln_M_tape, ln_M_source, ln_M_wordAt, ln_M_wordEnd, ln_M_names, ln_M_itemCount, ln_M_itemFirst, ln_M_itemWords, ln_M_itemUses, ln_M_keptAt, ln_M_keptEnd, ln_M_needCount, ln_M_axisCount, ln_M_valueCount, ln_M_needed, ln_M_axes, ln_M_values, ln_M_includes, ln_M_excludes, ln_M_pairCount, ln_M_pairName, ln_M_pairValue, ln_M_signCount, ln_M_signs, ln_M_signName, ln_M_signValue, ln_M_whose, ln_M_which, ln_M_pile, ln_M_reaches, ln_M_stepsOf, ln_M_known, ln_JB_needed, ln_JB_axes, ln_JS_used, ln_JS_stepWords, ln_PS_used, ln_PS_stepWords, ln_IN_rows, ln_EC_rows, ln_IR_names, ln_IR_values, ln_ER_names, ln_ER_values, ln_CD_kinds, ln_CD_names, ln_CD_values, ln_AX_values] <;> omega) | assumption) (by omega) ?_)
      have e6 : (6 : Int32) * nI j + nI i = nI (6 * j + i) := by rw [show (6 : Int32) = nI 6 from rfl, pk_mul, nI_add]
      rw [e6, nI_clamp (by omega), m3 i hi]
      refine s36P H r6 (kb_54_39 (kb_54_43 ⟨?_, hJ⟩))
      rw [nI_clamp (show i < 2 ^ 31 by omega), show (P.jr j).1.getD i 0 = h.2.1 (16 + 44 * j) i from by have := a3 i hi; rw [Nat.zero_add] at this; exact this.symm]
theorem mj_op8 (x : Int32) : mj_Op mj_J mj_KK 573 8 71 [.int x] := by
  refine mj_op_of (fun h hJ => ?_)
  obtain ⟨H, b, ⟨n, t⟩, P, X, L, W, kept, XE, r, e⟩ := id hJ
  have r0 := r
  obtain ⟨r1, r2, r3, r4, r5, r6, r7, r8, r9, r10⟩ := r
  show mr_M mj_KK 60 8 0 [some (.ref 0), some (.int x)] [] h _
  have f1 : fr inX h (mj_w h 567 2 (.int 0)) := fr.wi (P := inX) fr.rfl' (by unfold inX; omega)
  have q1 : (mj_w h 567 2 (.int 0)).1 565 1 = (fc P).1 := (w_in (by omega)).trans r7
  have fin : ∀ (h2 : mj_H) (XE2 : List En), fr (fun a i => inX a i ∨ inMx a i ∨ inMg a i) h h2 → JE h2 P XE2 → mj_J h2 := by
    intro h2 XE2 f e2
    refine ⟨f.rs H, ?_, ⟨n, JT_fr t f (fun a i q => by unfold inX inMx inMg; omega)⟩, P, X, L, W, kept, XE2, JR_fr r0 f (fun a i q => by unfold inX inMx inMg; omega), e2⟩
    rw [f.l (by unfold inX inMx inMg; omega), f.l (by unfold inX inMx inMg; omega)]
    exact b
  have n12 := r4.1
  have hV := r4.2.2.2.2.2
  have lx := exA_len (P := P) (n := P.nj) hV
  have XC0 : ∀ {h}, h.1 567 2 = nI 0 → XC h P [] := fun z => ⟨z, by decide, fun i hi => absurd hi (Nat.not_lt_zero i)⟩
  have XM0 : ∀ {h}, h.1 573 34 = nI 0 → XM h [] := fun z => ⟨z, by decide, fun i hi => absurd hi (Nat.not_lt_zero i)⟩
  refine kb_8_0 (by first | with_reducible assumption | with_reducible exact kd_P | assumption) (by first | with_reducible assumption | exact rf_P_expansion H | assumption) (by first | with_reducible assumption | with_reducible exact kd_EX | assumption) (by first | with_reducible assumption | exact rf_P_faults H | assumption) (by first | with_reducible assumption | with_reducible exact kd_FT | assumption) (fun c => ?_) (fun c => kb_8_18 ⟨_, rfl, ?_⟩)
  · rw [q1] at c
    have H1 := f1.rs H
    have P1 := PlC_X r5 f1
    have z1 : (mj_w h 567 2 (.int 0)).1 567 2 = nI 0 := w_ie ⟨rfl, rfl⟩
    have M1 := PlM_fr r6 f1 (fun a i q => by unfold inX; omega)
    generalize mj_w h 567 2 (.int 0) = h1 at *
    have H := H1
    refine kb_8_20 (by first | with_reducible assumption | with_reducible exact kd_P | assumption) (by first | with_reducible assumption | exact rf_P_expansion H | assumption) (by first | with_reducible assumption | exact rf_P_plan H | assumption) (by first | with_reducible assumption | with_reducible exact kd_EX | assumption) (by omega) (s104 (by decide) H P1 hV (XC0 z1) (fun h2 g1 f2 => ?_))
    have H := f2.rs H1
    have f12 := f1.trans f2
    have M2 := PlM_fr M1 f2 (fun a i q => by unfold inX; omega)
    have H2 := H
    have g11 := g1.1
    have mrun : ∀ (h3 : mj_H) (Q : Option Value → mj_H → Prop), fr inX h2 h3 → (∀ h4, XM h4 (exA P P.nj) → fr (fun a i => inMx a i ∨ inMg a i) h3 h4 → mr_M mj_KK 60 71 99 [some (.ref 573), some (.int x), none, none] [] h4 Q) → mr_M mj_KK 60 71 0 [some (.ref 573), some (.int x), none, none] [] h3 Q := by
      intro h3 Q f3 kk
      have H3 := f3.rs H2
      have M3 := PlM_fr M2 f3 (fun a i q => by unfold inX; omega)
      have w4 : fr inMx h3 (mj_w h3 573 34 (.int 0)) := fr.wi (P := inMx) fr.rfl' (by unfold inMx; omega)
      have M4 := PlM_x M3 w4
      have H4 := w4.rs H3
      refine kb_71_0 (by first | with_reducible assumption | with_reducible exact kd_M | assumption) (by omega) (s61 (by decide) H4 M4 hV (fun h5 k1 k2 => ?_))
      have z5 : h5.1 573 34 = nI 0 := (k2.n (by unfold inMg; omega)).trans (w_ie ⟨rfl, rfl⟩)
      rw [c]
      refine kb_71_9 (fun _ => s71b (by decide) (k2.rs H4) (PlM_g M4 k2) hV (XM0 z5) (fun h6 k3 k4 => kk h6 k3 ?_)) (fun c => absurd (by decide) c)
      exact ((w4.mono (fun a i q => Or.inl q)).trans (k2.mono (fun a i q => Or.inr q))).trans (k4.mono (fun a i q => Or.inl q))
    refine kb_8_31 (by first | with_reducible assumption | with_reducible exact kd_P | assumption) (by first | with_reducible assumption | exact rf_P_expansion H | assumption) (by first | with_reducible assumption | with_reducible exact kd_EX | assumption) (fun c3 => kb_8_52 (by first | with_reducible assumption | with_reducible exact kd_P | assumption) (by first | with_reducible assumption | exact rf_P_expansion H | assumption) (by first | with_reducible assumption | with_reducible exact kd_EX | assumption) ⟨_, rfl, ?_⟩) (fun c3 => kb_8_42 (by first | with_reducible assumption | with_reducible exact kd_P | assumption) (by first | with_reducible assumption | exact rf_P_expansion H | assumption) (by first | with_reducible assumption | with_reducible exact kd_EX | assumption) ⟨_, rfl, ?_⟩)
    · rw [g11] at c3 ⊢
      refine mrun h2 _ fr.rfl' (fun h4 k1 k2 => kb_71_99 (by first | with_reducible assumption | with_reducible exact kd_M | assumption) (fun _ => kb_71_114 (by first | with_reducible assumption | with_reducible exact kd_M | assumption) ⟨?_, ?_⟩) (fun c4 => ?_))
      · rw [k1.1]
      · exact fin h4 (exA P P.nj) ((f12.mono (fun a i q => Or.inl q)).trans (k2.mono (fun a i q => Or.inr q))) ⟨⟨(k2.n (by unfold inMx inMg; omega)).trans g1.1, g1.2.1, fun i hi => ⟨(k2.n (by unfold inMx inMg; omega)).trans (g1.2.2 i hi).1, (k2.n (by unfold inMx inMg; omega)).trans (g1.2.2 i hi).2⟩⟩, k1, Or.inr ⟨rfl, c⟩⟩
      · rw [k1.1] at c4
        exact absurd c3 c4
    · rw [g11] at c3
      have f3 : fr inX h2 (mj_w h2 567 2 (.int 0)) := fr.wi (P := inX) fr.rfl' (by unfold inX; omega)
      have z3 : (mj_w h2 567 2 (.int 0)).1 567 2 = nI 0 := w_ie ⟨rfl, rfl⟩
      refine mrun _ _ f3 (fun h4 k1 k2 => kb_71_99 (by first | with_reducible assumption | with_reducible exact kd_M | assumption) (fun c4 => ?_) (fun _ => kb_71_107 (by first | with_reducible assumption | with_reducible exact kd_M | assumption) ⟨rfl, ?_⟩))
      · rw [k1.1] at c4
        exact absurd c4 c3
      · have w5 : fr (fun a i => inMx a i ∨ inMg a i) h4 (mj_w h4 573 34 (.int 0)) := fr.wi (P := fun a i => inMx a i ∨ inMg a i) fr.rfl' (by unfold inMx; omega)
        exact fin _ [] ((((f12.trans f3).mono (fun a i q => Or.inl q)).trans (k2.mono (fun a i q => Or.inr q))).trans (w5.mono (fun a i q => Or.inr q))) ⟨XC0 (((w5.n (by unfold inMx inMg; omega)).trans (k2.n (by unfold inMx inMg; omega))).trans z3), XM0 (w_ie ⟨rfl, rfl⟩), Or.inl rfl⟩
  · rw [q1] at c
    have H1 := f1.rs H
    have z1 : (mj_w h 567 2 (.int 0)).1 567 2 = nI 0 := w_ie ⟨rfl, rfl⟩
    have M1 := PlM_fr r6 f1 (fun a i q => by unfold inX; omega)
    generalize mj_w h 567 2 (.int 0) = h1 at *
    show mr_M mj_KK 60 71 0 [some (.ref 573), some (.int x), none, none] [] h1 _
    have w4 : fr inMx h1 (mj_w h1 573 34 (.int 0)) := fr.wi (P := inMx) fr.rfl' (by unfold inMx; omega)
    have M4 := PlM_x M1 w4
    have H4 := w4.rs H1
    refine kb_71_0 (by first | with_reducible assumption | with_reducible exact kd_M | assumption) (by omega) (s61 (by decide) H4 M4 hV (fun h5 k1 k2 => ?_))
    have z5 : h5.1 573 34 = nI 0 := (k2.n (by unfold inMg; omega)).trans (w_ie ⟨rfl, rfl⟩)
    refine kb_71_9 (fun c2 => ?_) (fun _ => kb_71_12 ⟨rfl, ?_⟩)
    · rcases fc_cases (P := P) with q | q
      · exact absurd q.1 c
      · exact absurd c2 q
    · exact fin h5 [] (((f1.mono (fun a i q => Or.inl q)).trans (w4.mono (fun a i q => Or.inr (Or.inl q)))).trans (k2.mono (fun a i q => Or.inr (Or.inr q)))) ⟨XC0 (((k2.n (by unfold inMg; omega)).trans (w4.n (by unfold inMx; omega))).trans z1), XM0 z5, Or.inl rfl⟩
