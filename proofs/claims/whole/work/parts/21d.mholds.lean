-- ===== the reference's condition asked =====
theorem bt_sr {x : Int32} {k b : Nat} (hk : k < 30) (hb : b ≤ 1) : bt ((x >>> (nI k &&& 31)) >>> (nI b &&& 31)) 0 = bt x (k + b) := by
  rw [b_sshr b (by omega) _ (by decide), if_pos (by omega), b_sshr k (by omega) x (by omega), if_pos (by omega), Nat.add_zero]
section
variable {d i j kept : Nat} {h : mj_H} {Q : Option Value → mj_H → Prop} {P : mj_P} {W : List Wt} {br : Int64} {out : Int32} {e : En}
/-- isTrue -/
theorem s84 {x : Nat} {s : Sg} (hd : 3 ≤ d) (H : mj_RS h) (hP : PlM h W kept P) (hE : EnM h i e) (ho : enOK P e) (hV : JV (P.jr e.1)) (hbr : h.2.1 573 4 = br) (hx : x < 240) (e0 : h.1 597 x = nI (s.1 + 6)) (e1 : h.2.1 598 x = s.2.1) (e2 : h.2.1 599 x = s.2.2) (h3 : s.1 < 4) (hn : (s.1 = 1 ∨ s.1 = 2) → ¬ jN P s.2.1 = -1) (kk : Q (some (.int (b2i (tQ P (cmb P e) br out s)))) h) : mr_C mj_KK d 84 [.ref 573, .int (nI i), .int (nI x), .int out] h Q := by
  show mr_M mj_KK d 84 0 [some (.ref 573), some (.int (nI i)), some (.int (nI x)), some (.int out), none, none] [] h Q
  have j12 := hP.1.2.1
  unfold tQ at kk
  refine kb_84_0 (by first | with_reducible assumption | with_reducible exact kd_M | assumption) (by first | with_reducible assumption | exact rf_M_signs H | assumption) (by first | with_reducible assumption | with_reducible exact kd_M_signs | assumption) (by first | with_reducible assumption | (simp (disch := omega) only [z_0, z_1, z_2, z_3, z_4, z_5, z_6, z_7, z_8, z_9, z_10, z_12, z_13, z_20, z_21, z_25, z_56, z_350, z_31, z_32, z_36, z_48, z_57, z_61, z_97, z_100, z_122, z_125, z_126, z_144, z_255, z_700, z_1000, z_1548, nI_add, pk_mul, pk_sub, nI_clamp, nI_leI, nI_ltI, nI_eq, z_in, z_m1, z_m1b, lg_cmp_eq, z_cmp, Decidable.not_not, w_ie, w_in, w_il, w_le, w_ln, w_li, w_ir, w_lr, ln_P_tape, ln_W_text, ln_W_starts, ln_W_ends, ln_W_lines, ln_W_names, ln_W_values, ln_PL_jobs, ln_PL_parts, ln_FT_reached, ln_EX_jobs, ln_EX_codes, ln_CB_names, ln_CB_values, ln_M_tape, ln_M_source, ln_M_wordAt, ln_M_wordEnd, ln_M_names, ln_M_itemCount, ln_M_itemFirst, ln_M_itemWords, ln_M_itemUses, ln_M_keptAt, ln_M_keptEnd, ln_M_needCount, ln_M_axisCount, ln_M_valueCount, ln_M_needed, ln_M_axes, ln_M_values, ln_M_includes, ln_M_excludes, ln_M_pairCount, ln_M_pairName, ln_M_pairValue, ln_M_signCount, ln_M_signs, ln_M_signName, ln_M_signValue, ln_M_whose, ln_M_which, ln_M_pile, ln_M_reaches, ln_M_stepsOf, ln_M_known, ln_JB_needed, ln_JB_axes, ln_JS_used, ln_JS_stepWords, ln_PS_used, ln_PS_stepWords, ln_IN_rows, ln_EC_rows, ln_IR_names, ln_IR_values, ln_ER_names, ln_ER_values, ln_CD_kinds, ln_CD_names, ln_CD_values, ln_AX_values] <;> omega) | assumption) (fun c => ?_) (fun c => kb_84_11 ?_)
  rotate_left
  · simp (disch := omega) only [z_0, z_1, z_2, z_3, z_4, z_5, z_6, z_7, z_8, z_9, z_10, z_12, z_13, z_20, z_21, z_25, z_56, z_350, z_31, z_32, z_36, z_48, z_57, z_61, z_97, z_100, z_122, z_125, z_126, z_144, z_255, z_700, z_1000, z_1548, nI_add, pk_mul, pk_sub, nI_clamp, nI_leI, nI_ltI, nI_eq, z_in, z_m1, z_m1b, lg_cmp_eq, z_cmp, Decidable.not_not, w_ie, w_in, w_il, w_le, w_ln, w_li, w_ir, w_lr, e0] at c
    rw [if_pos (by omega)] at kk
    exact kk
  simp (disch := omega) only [z_0, z_1, z_2, z_3, z_4, z_5, z_6, z_7, z_8, z_9, z_10, z_12, z_13, z_20, z_21, z_25, z_56, z_350, z_31, z_32, z_36, z_48, z_57, z_61, z_97, z_100, z_122, z_125, z_126, z_144, z_255, z_700, z_1000, z_1548, nI_add, pk_mul, pk_sub, nI_clamp, nI_leI, nI_ltI, nI_eq, z_in, z_m1, z_m1b, lg_cmp_eq, z_cmp, Decidable.not_not, w_ie, w_in, w_il, w_le, w_ln, w_li, w_ir, w_lr, e0] at c
  rw [if_neg (by omega)] at kk
  refine kb_84_13 (by first | with_reducible assumption | with_reducible exact kd_M | assumption) (by first | with_reducible assumption | exact rf_M_signs H | assumption) (by first | with_reducible assumption | with_reducible exact kd_M_signs | assumption) (by first | with_reducible assumption | (simp (disch := omega) only [z_0, z_1, z_2, z_3, z_4, z_5, z_6, z_7, z_8, z_9, z_10, z_12, z_13, z_20, z_21, z_25, z_56, z_350, z_31, z_32, z_36, z_48, z_57, z_61, z_97, z_100, z_122, z_125, z_126, z_144, z_255, z_700, z_1000, z_1548, nI_add, pk_mul, pk_sub, nI_clamp, nI_leI, nI_ltI, nI_eq, z_in, z_m1, z_m1b, lg_cmp_eq, z_cmp, Decidable.not_not, w_ie, w_in, w_il, w_le, w_ln, w_li, w_ir, w_lr, ln_P_tape, ln_W_text, ln_W_starts, ln_W_ends, ln_W_lines, ln_W_names, ln_W_values, ln_PL_jobs, ln_PL_parts, ln_FT_reached, ln_EX_jobs, ln_EX_codes, ln_CB_names, ln_CB_values, ln_M_tape, ln_M_source, ln_M_wordAt, ln_M_wordEnd, ln_M_names, ln_M_itemCount, ln_M_itemFirst, ln_M_itemWords, ln_M_itemUses, ln_M_keptAt, ln_M_keptEnd, ln_M_needCount, ln_M_axisCount, ln_M_valueCount, ln_M_needed, ln_M_axes, ln_M_values, ln_M_includes, ln_M_excludes, ln_M_pairCount, ln_M_pairName, ln_M_pairValue, ln_M_signCount, ln_M_signs, ln_M_signName, ln_M_signValue, ln_M_whose, ln_M_which, ln_M_pile, ln_M_reaches, ln_M_stepsOf, ln_M_known, ln_JB_needed, ln_JB_axes, ln_JS_used, ln_JS_stepWords, ln_PS_used, ln_PS_stepWords, ln_IN_rows, ln_EC_rows, ln_IR_names, ln_IR_values, ln_ER_names, ln_ER_values, ln_CD_kinds, ln_CD_names, ln_CD_values, ln_AX_values] <;> omega) | assumption) (fun c2 => ?_) (fun c2 => ?_)
  · simp (disch := omega) only [z_0, z_1, z_2, z_3, z_4, z_5, z_6, z_7, z_8, z_9, z_10, z_12, z_13, z_20, z_21, z_25, z_56, z_350, z_31, z_32, z_36, z_48, z_57, z_61, z_97, z_100, z_122, z_125, z_126, z_144, z_255, z_700, z_1000, z_1548, nI_add, pk_mul, pk_sub, nI_clamp, nI_leI, nI_ltI, nI_eq, z_in, z_m1, z_m1b, lg_cmp_eq, z_cmp, Decidable.not_not, w_ie, w_in, w_il, w_le, w_ln, w_li, w_ir, w_lr, e0] at c2
    rw [if_neg (show ¬ s.1 = 3 by omega)] at kk
    refine kb_84_97 (by first | with_reducible assumption | with_reducible exact kd_M | assumption) (by first | with_reducible assumption | exact rf_M_signName H | assumption) (by first | with_reducible assumption | with_reducible exact kd_M_signName | assumption) (by first | with_reducible assumption | (simp (disch := omega) only [z_0, z_1, z_2, z_3, z_4, z_5, z_6, z_7, z_8, z_9, z_10, z_12, z_13, z_20, z_21, z_25, z_56, z_350, z_31, z_32, z_36, z_48, z_57, z_61, z_97, z_100, z_122, z_125, z_126, z_144, z_255, z_700, z_1000, z_1548, nI_add, pk_mul, pk_sub, nI_clamp, nI_leI, nI_ltI, nI_eq, z_in, z_m1, z_m1b, lg_cmp_eq, z_cmp, Decidable.not_not, w_ie, w_in, w_il, w_le, w_ln, w_li, w_ir, w_lr, ln_P_tape, ln_W_text, ln_W_starts, ln_W_ends, ln_W_lines, ln_W_names, ln_W_values, ln_PL_jobs, ln_PL_parts, ln_FT_reached, ln_EX_jobs, ln_EX_codes, ln_CB_names, ln_CB_values, ln_M_tape, ln_M_source, ln_M_wordAt, ln_M_wordEnd, ln_M_names, ln_M_itemCount, ln_M_itemFirst, ln_M_itemWords, ln_M_itemUses, ln_M_keptAt, ln_M_keptEnd, ln_M_needCount, ln_M_axisCount, ln_M_valueCount, ln_M_needed, ln_M_axes, ln_M_values, ln_M_includes, ln_M_excludes, ln_M_pairCount, ln_M_pairName, ln_M_pairValue, ln_M_signCount, ln_M_signs, ln_M_signName, ln_M_signValue, ln_M_whose, ln_M_which, ln_M_pile, ln_M_reaches, ln_M_stepsOf, ln_M_known, ln_JB_needed, ln_JB_axes, ln_JS_used, ln_JS_stepWords, ln_PS_used, ln_PS_stepWords, ln_IN_rows, ln_EC_rows, ln_IR_names, ln_IR_values, ln_ER_names, ln_ER_values, ln_CD_kinds, ln_CD_names, ln_CD_values, ln_AX_values] <;> omega) | assumption) (by omega) ?_
    rw [nI_clamp (by omega), e1]
    refine s36P H hP ?_
    rcases jN_of (P := P) (y := s.2.1) with v | ⟨q, q1, q2⟩
    · exact absurd v (hn (by omega))
    · rw [q2] at kk ⊢
      rw [nI_clamp (by omega)] at kk
      have e2q : (2 : Int32) * nI q = nI (2 * q) := pk_mul 2 q
      have fin : ∀ b : Nat, b ≤ 1 → b = (if s.1 = 2 then 1 else 0) → mr_M mj_KK d 84 127 [none, none, none, none, none, none] [.int (nI b), .int (out >>> ((2 * nI q) &&& 31))] h Q := by
        intro b hb hb2
        rw [← hb2] at kk
        have b1 := bt_ext1 (z := ((out >>> (nI (2 * q) &&& 31)) >>> (nI b &&& 31)))
        rw [bt_sr (by omega) hb] at b1
        refine kb_84_127 (fun c => kb_84_138 (kb_84_139 (by first | assumption | exact b2i_01 _ | exact Or.inl rfl | exact Or.inr rfl) ?_)) (fun c => kb_84_134 (kb_84_139 (by first | assumption | exact b2i_01 _ | exact Or.inl rfl | exact Or.inr rfl) ?_))
        · rw [e2q, b1.2, Bool.not_eq_true] at c
          rw [c] at kk
          exact kk
        · rw [e2q, b1.2, Decidable.not_not] at c
          rw [c] at kk
          exact kk
      refine kb_84_109 (by first | with_reducible assumption | with_reducible exact kd_M | assumption) (by first | with_reducible assumption | exact rf_M_signs H | assumption) (by first | with_reducible assumption | with_reducible exact kd_M_signs | assumption) (by first | with_reducible assumption | (simp (disch := omega) only [z_0, z_1, z_2, z_3, z_4, z_5, z_6, z_7, z_8, z_9, z_10, z_12, z_13, z_20, z_21, z_25, z_56, z_350, z_31, z_32, z_36, z_48, z_57, z_61, z_97, z_100, z_122, z_125, z_126, z_144, z_255, z_700, z_1000, z_1548, nI_add, pk_mul, pk_sub, nI_clamp, nI_leI, nI_ltI, nI_eq, z_in, z_m1, z_m1b, lg_cmp_eq, z_cmp, Decidable.not_not, w_ie, w_in, w_il, w_le, w_ln, w_li, w_ir, w_lr, ln_P_tape, ln_W_text, ln_W_starts, ln_W_ends, ln_W_lines, ln_W_names, ln_W_values, ln_PL_jobs, ln_PL_parts, ln_FT_reached, ln_EX_jobs, ln_EX_codes, ln_CB_names, ln_CB_values, ln_M_tape, ln_M_source, ln_M_wordAt, ln_M_wordEnd, ln_M_names, ln_M_itemCount, ln_M_itemFirst, ln_M_itemWords, ln_M_itemUses, ln_M_keptAt, ln_M_keptEnd, ln_M_needCount, ln_M_axisCount, ln_M_valueCount, ln_M_needed, ln_M_axes, ln_M_values, ln_M_includes, ln_M_excludes, ln_M_pairCount, ln_M_pairName, ln_M_pairValue, ln_M_signCount, ln_M_signs, ln_M_signName, ln_M_signValue, ln_M_whose, ln_M_which, ln_M_pile, ln_M_reaches, ln_M_stepsOf, ln_M_known, ln_JB_needed, ln_JB_axes, ln_JS_used, ln_JS_stepWords, ln_PS_used, ln_PS_stepWords, ln_IN_rows, ln_EC_rows, ln_IR_names, ln_IR_values, ln_ER_names, ln_ER_values, ln_CD_kinds, ln_CD_names, ln_CD_values, ln_AX_values] <;> omega) | assumption) (fun c3 => kb_84_126 (fin 0 (by decide) ?_)) (fun c3 => kb_84_122 (fin 1 (by decide) ?_))
      · simp (disch := omega) only [z_0, z_1, z_2, z_3, z_4, z_5, z_6, z_7, z_8, z_9, z_10, z_12, z_13, z_20, z_21, z_25, z_56, z_350, z_31, z_32, z_36, z_48, z_57, z_61, z_97, z_100, z_122, z_125, z_126, z_144, z_255, z_700, z_1000, z_1548, nI_add, pk_mul, pk_sub, nI_clamp, nI_leI, nI_ltI, nI_eq, z_in, z_m1, z_m1b, lg_cmp_eq, z_cmp, Decidable.not_not, w_ie, w_in, w_il, w_le, w_ln, w_li, w_ir, w_lr, e0] at c3
        rw [if_neg (by omega)]
      · simp (disch := omega) only [z_0, z_1, z_2, z_3, z_4, z_5, z_6, z_7, z_8, z_9, z_10, z_12, z_13, z_20, z_21, z_25, z_56, z_350, z_31, z_32, z_36, z_48, z_57, z_61, z_97, z_100, z_122, z_125, z_126, z_144, z_255, z_700, z_1000, z_1548, nI_add, pk_mul, pk_sub, nI_clamp, nI_leI, nI_ltI, nI_eq, z_in, z_m1, z_m1b, lg_cmp_eq, z_cmp, Decidable.not_not, w_ie, w_in, w_il, w_le, w_ln, w_li, w_ir, w_lr, e0] at c3
        rw [if_pos (by omega)]
  · simp (disch := omega) only [z_0, z_1, z_2, z_3, z_4, z_5, z_6, z_7, z_8, z_9, z_10, z_12, z_13, z_20, z_21, z_25, z_56, z_350, z_31, z_32, z_36, z_48, z_57, z_61, z_97, z_100, z_122, z_125, z_126, z_144, z_255, z_700, z_1000, z_1548, nI_add, pk_mul, pk_sub, nI_clamp, nI_leI, nI_ltI, nI_eq, z_in, z_m1, z_m1b, lg_cmp_eq, z_cmp, Decidable.not_not, w_ie, w_in, w_il, w_le, w_ln, w_li, w_ir, w_lr, e0] at c2
    rw [if_pos (by omega)] at kk
    refine kb_84_24 (by first | with_reducible assumption | with_reducible exact kd_M | assumption) (by first | with_reducible assumption | exact rf_M_signName H | assumption) (by first | with_reducible assumption | with_reducible exact kd_M_signName | assumption) (by first | with_reducible assumption | (simp (disch := omega) only [z_0, z_1, z_2, z_3, z_4, z_5, z_6, z_7, z_8, z_9, z_10, z_12, z_13, z_20, z_21, z_25, z_56, z_350, z_31, z_32, z_36, z_48, z_57, z_61, z_97, z_100, z_122, z_125, z_126, z_144, z_255, z_700, z_1000, z_1548, nI_add, pk_mul, pk_sub, nI_clamp, nI_leI, nI_ltI, nI_eq, z_in, z_m1, z_m1b, lg_cmp_eq, z_cmp, Decidable.not_not, w_ie, w_in, w_il, w_le, w_ln, w_li, w_ir, w_lr, ln_P_tape, ln_W_text, ln_W_starts, ln_W_ends, ln_W_lines, ln_W_names, ln_W_values, ln_PL_jobs, ln_PL_parts, ln_FT_reached, ln_EX_jobs, ln_EX_codes, ln_CB_names, ln_CB_values, ln_M_tape, ln_M_source, ln_M_wordAt, ln_M_wordEnd, ln_M_names, ln_M_itemCount, ln_M_itemFirst, ln_M_itemWords, ln_M_itemUses, ln_M_keptAt, ln_M_keptEnd, ln_M_needCount, ln_M_axisCount, ln_M_valueCount, ln_M_needed, ln_M_axes, ln_M_values, ln_M_includes, ln_M_excludes, ln_M_pairCount, ln_M_pairName, ln_M_pairValue, ln_M_signCount, ln_M_signs, ln_M_signName, ln_M_signValue, ln_M_whose, ln_M_which, ln_M_pile, ln_M_reaches, ln_M_stepsOf, ln_M_known, ln_JB_needed, ln_JB_axes, ln_JS_used, ln_JS_stepWords, ln_PS_used, ln_PS_stepWords, ln_IN_rows, ln_EC_rows, ln_IR_names, ln_IR_values, ln_ER_names, ln_ER_values, ln_CD_kinds, ln_CD_names, ln_CD_values, ln_AX_values] <;> omega) | assumption) (by omega) ?_
    rw [nI_clamp (by omega), e1]
    refine s79 (by omega) H hP hE ho hV ?_
    generalize vO (cmb P e) s.2.1 = v at kk ⊢
    refine kb_84_35 (fun c3 => ?_) (fun c3 => ?_)
    · rw [lg_cmp_eq] at c3
      rw [if_neg (fun r => r c3)] at kk
      refine kb_84_64 (by first | with_reducible assumption | with_reducible exact kd_M | assumption) (by first | with_reducible assumption | exact rf_M_signName H | assumption) (by first | with_reducible assumption | with_reducible exact kd_M_signName | assumption) (by first | with_reducible assumption | (simp (disch := omega) only [z_0, z_1, z_2, z_3, z_4, z_5, z_6, z_7, z_8, z_9, z_10, z_12, z_13, z_20, z_21, z_25, z_56, z_350, z_31, z_32, z_36, z_48, z_57, z_61, z_97, z_100, z_122, z_125, z_126, z_144, z_255, z_700, z_1000, z_1548, nI_add, pk_mul, pk_sub, nI_clamp, nI_leI, nI_ltI, nI_eq, z_in, z_m1, z_m1b, lg_cmp_eq, z_cmp, Decidable.not_not, w_ie, w_in, w_il, w_le, w_ln, w_li, w_ir, w_lr, ln_P_tape, ln_W_text, ln_W_starts, ln_W_ends, ln_W_lines, ln_W_names, ln_W_values, ln_PL_jobs, ln_PL_parts, ln_FT_reached, ln_EX_jobs, ln_EX_codes, ln_CB_names, ln_CB_values, ln_M_tape, ln_M_source, ln_M_wordAt, ln_M_wordEnd, ln_M_names, ln_M_itemCount, ln_M_itemFirst, ln_M_itemWords, ln_M_itemUses, ln_M_keptAt, ln_M_keptEnd, ln_M_needCount, ln_M_axisCount, ln_M_valueCount, ln_M_needed, ln_M_axes, ln_M_values, ln_M_includes, ln_M_excludes, ln_M_pairCount, ln_M_pairName, ln_M_pairValue, ln_M_signCount, ln_M_signs, ln_M_signName, ln_M_signValue, ln_M_whose, ln_M_which, ln_M_pile, ln_M_reaches, ln_M_stepsOf, ln_M_known, ln_JB_needed, ln_JB_axes, ln_JS_used, ln_JS_stepWords, ln_PS_used, ln_PS_stepWords, ln_IN_rows, ln_EC_rows, ln_IR_names, ln_IR_values, ln_ER_names, ln_ER_values, ln_CD_kinds, ln_CD_names, ln_CD_values, ln_AX_values] <;> omega) | assumption) (fun c4 => kb_84_95 (kb_84_96 (by first | assumption | exact b2i_01 _ | exact Or.inl rfl | exact Or.inr rfl) ?_)) (fun c4 => kb_84_77 (by first | with_reducible assumption | with_reducible exact kd_M | assumption) (by first | with_reducible assumption | exact rf_M_signValue H | assumption) (by first | with_reducible assumption | with_reducible exact kd_M_signValue | assumption) (by first | with_reducible assumption | (simp (disch := omega) only [z_0, z_1, z_2, z_3, z_4, z_5, z_6, z_7, z_8, z_9, z_10, z_12, z_13, z_20, z_21, z_25, z_56, z_350, z_31, z_32, z_36, z_48, z_57, z_61, z_97, z_100, z_122, z_125, z_126, z_144, z_255, z_700, z_1000, z_1548, nI_add, pk_mul, pk_sub, nI_clamp, nI_leI, nI_ltI, nI_eq, z_in, z_m1, z_m1b, lg_cmp_eq, z_cmp, Decidable.not_not, w_ie, w_in, w_il, w_le, w_ln, w_li, w_ir, w_lr, ln_P_tape, ln_W_text, ln_W_starts, ln_W_ends, ln_W_lines, ln_W_names, ln_W_values, ln_PL_jobs, ln_PL_parts, ln_FT_reached, ln_EX_jobs, ln_EX_codes, ln_CB_names, ln_CB_values, ln_M_tape, ln_M_source, ln_M_wordAt, ln_M_wordEnd, ln_M_names, ln_M_itemCount, ln_M_itemFirst, ln_M_itemWords, ln_M_itemUses, ln_M_keptAt, ln_M_keptEnd, ln_M_needCount, ln_M_axisCount, ln_M_valueCount, ln_M_needed, ln_M_axes, ln_M_values, ln_M_includes, ln_M_excludes, ln_M_pairCount, ln_M_pairName, ln_M_pairValue, ln_M_signCount, ln_M_signs, ln_M_signName, ln_M_signValue, ln_M_whose, ln_M_which, ln_M_pile, ln_M_reaches, ln_M_stepsOf, ln_M_known, ln_JB_needed, ln_JB_axes, ln_JS_used, ln_JS_stepWords, ln_PS_used, ln_PS_stepWords, ln_IN_rows, ln_EC_rows, ln_IR_names, ln_IR_values, ln_ER_names, ln_ER_values, ln_CD_kinds, ln_CD_names, ln_CD_values, ln_AX_values] <;> omega) | assumption) (fun c5 => kb_84_95 (kb_84_96 (by first | assumption | exact b2i_01 _ | exact Or.inl rfl | exact Or.inr rfl) ?_)) (fun c5 => kb_84_91 (kb_84_96 (by first | assumption | exact b2i_01 _ | exact Or.inl rfl | exact Or.inr rfl) ?_)))
      · rw [nI_clamp (by omega), e1, lg_cmp_eq] at c4
        rw [decide_eq_false (show ¬ s.2.1 = BRN from c4), Bool.false_and] at kk
        exact kk
      · rw [nI_clamp (by omega), e2, hbr, lg_cmp_eq] at c5
        rw [decide_eq_false c5, Bool.and_false] at kk
        exact kk
      · rw [nI_clamp (by omega), e1, lg_cmp_eq, Decidable.not_not] at c4
        rw [nI_clamp (by omega), e2, hbr, lg_cmp_eq, Decidable.not_not] at c5
        rw [decide_eq_true (show s.2.1 = BRN from c4), decide_eq_true c5] at kk
        exact kk
    · rw [lg_cmp_eq] at c3
      rw [if_pos c3] at kk
      refine kb_84_44 (by first | with_reducible assumption | with_reducible exact kd_M | assumption) (by first | with_reducible assumption | exact rf_M_signValue H | assumption) (by first | with_reducible assumption | with_reducible exact kd_M_signValue | assumption) (by first | with_reducible assumption | (simp (disch := omega) only [z_0, z_1, z_2, z_3, z_4, z_5, z_6, z_7, z_8, z_9, z_10, z_12, z_13, z_20, z_21, z_25, z_56, z_350, z_31, z_32, z_36, z_48, z_57, z_61, z_97, z_100, z_122, z_125, z_126, z_144, z_255, z_700, z_1000, z_1548, nI_add, pk_mul, pk_sub, nI_clamp, nI_leI, nI_ltI, nI_eq, z_in, z_m1, z_m1b, lg_cmp_eq, z_cmp, Decidable.not_not, w_ie, w_in, w_il, w_le, w_ln, w_li, w_ir, w_lr, ln_P_tape, ln_W_text, ln_W_starts, ln_W_ends, ln_W_lines, ln_W_names, ln_W_values, ln_PL_jobs, ln_PL_parts, ln_FT_reached, ln_EX_jobs, ln_EX_codes, ln_CB_names, ln_CB_values, ln_M_tape, ln_M_source, ln_M_wordAt, ln_M_wordEnd, ln_M_names, ln_M_itemCount, ln_M_itemFirst, ln_M_itemWords, ln_M_itemUses, ln_M_keptAt, ln_M_keptEnd, ln_M_needCount, ln_M_axisCount, ln_M_valueCount, ln_M_needed, ln_M_axes, ln_M_values, ln_M_includes, ln_M_excludes, ln_M_pairCount, ln_M_pairName, ln_M_pairValue, ln_M_signCount, ln_M_signs, ln_M_signName, ln_M_signValue, ln_M_whose, ln_M_which, ln_M_pile, ln_M_reaches, ln_M_stepsOf, ln_M_known, ln_JB_needed, ln_JB_axes, ln_JS_used, ln_JS_stepWords, ln_PS_used, ln_PS_stepWords, ln_IN_rows, ln_EC_rows, ln_IR_names, ln_IR_values, ln_ER_names, ln_ER_values, ln_CD_kinds, ln_CD_names, ln_CD_values, ln_AX_values] <;> omega) | assumption) (fun c4 => kb_84_60 (kb_84_96 (by first | assumption | exact b2i_01 _ | exact Or.inl rfl | exact Or.inr rfl) ?_)) (fun c4 => kb_84_56 (kb_84_96 (by first | assumption | exact b2i_01 _ | exact Or.inl rfl | exact Or.inr rfl) ?_))
      · rw [nI_clamp (by omega), e2, lg_cmp_eq] at c4
        rw [decide_eq_false c4] at kk
        exact kk
      · rw [nI_clamp (by omega), e2, lg_cmp_eq, Decidable.not_not] at c4
        rw [decide_eq_true c4] at kk
        exact kk
end
/-- the known answers, the latest first -/
def KnL (h : mj_H) : List Bool → Prop
  | [] => True
  | b :: r => h.1 605 r.length = b2i b ∧ KnL h r
theorem KnL_of {h h' : mj_H} : ∀ {ks : List Bool}, KnL h ks → (∀ i, i < ks.length → h'.1 605 i = h.1 605 i) → KnL h' ks
  | [], _, _ => trivial
  | _ :: r, A, m => ⟨(m r.length (Nat.lt_succ_self _)).trans A.1, KnL_of A.2 (fun i hi => m i (Nat.lt_succ_of_lt hi))⟩
def KnM (h : mj_H) (ks : List Bool) : Prop := h.1 573 43 = nI ks.length ∧ ks.length ≤ 23 ∧ KnL h ks
def inMe : Nat → Nat → Prop := fun a i => (a = 573 ∧ (i = 38 ∨ i = 43)) ∨ a = 602 ∨ a = 605
theorem PlM_e {h h' : mj_H} {W : List Wt} {kept : Nat} {P : mj_P} (A : PlM h W kept P) (f : fr inMe h h') : PlM h' W kept P := PlM_fr A f (fun a i q => by unfold inMe; omega)
theorem ap_le {l : Nat} : ∀ {π : List Nat} {ks : List Bool} {r : List Nat × List Bool}, ap l π ks = some r → r.1.length ≤ π.length ∧ r.2.length ≤ ks.length ∧ ∀ s ∈ r.1, s ∈ π
  | [], ks, r, h => by
    cases h
    exact ⟨Nat.le_refl _, Nat.le_refl _, fun s hs => hs⟩
  | s :: π, ks, r, h => by
    rw [ap_s] at h
    split at h
    · cases h
      exact ⟨Nat.le_refl _, Nat.le_refl _, fun s hs => hs⟩
    · split at h
      · match ks, h with
        | [], h => cases h
        | b :: t, h =>
          obtain ⟨a1, a2, a3⟩ := ap_le h
          exact ⟨Nat.le_succ_of_le a1, a2, fun s hs => List.mem_cons_of_mem _ (a3 s hs)⟩
      · match ks, h with
        | [], h => cases h
        | [b], h => cases h
        | b :: a :: t, h =>
          obtain ⟨a1, a2, a3⟩ := ap_le h
          exact ⟨Nat.le_succ_of_le a1, Nat.le_succ_of_le a2, fun s hs => List.mem_cons_of_mem _ (a3 s hs)⟩
section
variable {d : Nat} {Q : Option Value → mj_H → Prop}
/-- apply -/
theorem s85 {l : Nat} (hl : l < 10) : ∀ {π : List Nat} {ks : List Bool} {h : mj_H} {r : List Nat × List Bool}, mj_RS h → PiM h π → KnM h ks → ap l π ks = some r → (∀ h', PiM h' r.1 → KnM h' r.2 → fr inMe h h' → Q none h') → mr_C mj_KK d 85 [.ref 573, .int (nI l)] h Q := by
  intro π
  induction π with
  | nil =>
    intro ks h r H hP hK he kk
    show mr_M mj_KK d 85 0 [some (.ref 573), some (.int (nI l))] [] h Q
    have a1 := hP.1
    have he : some ([], ks) = some r := he
    have he := Option.some.inj he
    subst he
    exact kb_85_0 (by first | with_reducible assumption | with_reducible exact kd_M | assumption) (fun _ => kb_85_195 (kk h hP hK fr.rfl')) (fun c => by rw [a1] at c; exact absurd (by decide) c)
  | cons s r0 ih =>
    intro ks h r H hP hK he kk
    show mr_M mj_KK d 85 0 [some (.ref 573), some (.int (nI l))] [] h Q
    obtain ⟨a1, a2, a3, a4, a5⟩ := id hP
    have a1 : h.1 573 38 = nI (r0.length + 1) := a1
    have a2 : r0.length + 1 ≤ 23 := a2
    have s6 := a3 s List.mem_cons_self
    have es : r0.length + 1 - 1 = r0.length := by omega
    rw [ap_s] at he
    have pop : fr (fun a i => a = 573 ∧ i = 38) h (mj_w h 573 38 (.int (nI r0.length))) := fr.wi (P := fun a i => a = 573 ∧ i = 38) fr.rfl' ⟨rfl, rfl⟩
    have pP : PiM (mj_w h 573 38 (.int (nI r0.length))) r0 := ⟨w_ie ⟨rfl, rfl⟩, by omega, fun x hx => a3 x (List.mem_cons_of_mem _ hx), a5.of (fun i hi => w_in (Or.inl (by decide)))⟩
    have pt : (mj_w h 573 38 (.int (nI r0.length))).1 602 r0.length = nI s := (w_in (Or.inl (by decide))).trans a4
    by_cases q : s = 4 ∨ s < l
    · rw [if_pos q] at he
      have he := Option.some.inj he
      subst he
      refine kb_85_0 (by first | with_reducible assumption | with_reducible exact kd_M | assumption) (fun c => (by simp (disch := omega) only [z_0, z_1, z_2, z_3, z_4, z_5, z_6, z_7, z_8, z_9, z_10, z_12, z_13, z_20, z_21, z_25, z_56, z_350, z_31, z_32, z_36, z_48, z_57, z_61, z_97, z_100, z_122, z_125, z_126, z_144, z_255, z_700, z_1000, z_1548, nI_add, pk_mul, pk_sub, nI_clamp, nI_leI, nI_ltI, nI_eq, z_in, z_m1, z_m1b, lg_cmp_eq, z_cmp, Decidable.not_not, w_ie, w_in, w_il, w_le, w_ln, w_li, w_ir, w_lr, a1] at c; exfalso; omega)) (fun _ => kb_85_7 (by first | with_reducible assumption | with_reducible exact kd_M | assumption) (by first | with_reducible assumption | exact rf_M_pile H | assumption) (by first | with_reducible assumption | with_reducible exact kd_M_pile | assumption) (by first | with_reducible assumption | (simp (disch := omega) only [z_0, z_1, z_2, z_3, z_4, z_5, z_6, z_7, z_8, z_9, z_10, z_12, z_13, z_20, z_21, z_25, z_56, z_350, z_31, z_32, z_36, z_48, z_57, z_61, z_97, z_100, z_122, z_125, z_126, z_144, z_255, z_700, z_1000, z_1548, nI_add, pk_mul, pk_sub, nI_clamp, nI_leI, nI_ltI, nI_eq, z_in, z_m1, z_m1b, lg_cmp_eq, z_cmp, Decidable.not_not, w_ie, w_in, w_il, w_le, w_ln, w_li, w_ir, w_lr, a1, ln_P_tape, ln_W_text, ln_W_starts, ln_W_ends, ln_W_lines, ln_W_names, ln_W_values, ln_PL_jobs, ln_PL_parts, ln_FT_reached, ln_EX_jobs, ln_EX_codes, ln_CB_names, ln_CB_values, ln_M_tape, ln_M_source, ln_M_wordAt, ln_M_wordEnd, ln_M_names, ln_M_itemCount, ln_M_itemFirst, ln_M_itemWords, ln_M_itemUses, ln_M_keptAt, ln_M_keptEnd, ln_M_needCount, ln_M_axisCount, ln_M_valueCount, ln_M_needed, ln_M_axes, ln_M_values, ln_M_includes, ln_M_excludes, ln_M_pairCount, ln_M_pairName, ln_M_pairValue, ln_M_signCount, ln_M_signs, ln_M_signName, ln_M_signValue, ln_M_whose, ln_M_which, ln_M_pile, ln_M_reaches, ln_M_stepsOf, ln_M_known, ln_JB_needed, ln_JB_axes, ln_JS_used, ln_JS_stepWords, ln_PS_used, ln_PS_stepWords, ln_IN_rows, ln_EC_rows, ln_IR_names, ln_IR_values, ln_ER_names, ln_ER_values, ln_CD_kinds, ln_CD_names, ln_CD_values, ln_AX_values] <;> omega) | assumption) (fun _ => kb_85_195 (kk h hP hK fr.rfl')) (fun c => kb_85_22 (by first | with_reducible assumption | with_reducible exact kd_M | assumption) (by first | with_reducible assumption | exact rf_M_pile H | assumption) (by first | with_reducible assumption | with_reducible exact kd_M_pile | assumption) (by first | with_reducible assumption | (simp (disch := omega) only [z_0, z_1, z_2, z_3, z_4, z_5, z_6, z_7, z_8, z_9, z_10, z_12, z_13, z_20, z_21, z_25, z_56, z_350, z_31, z_32, z_36, z_48, z_57, z_61, z_97, z_100, z_122, z_125, z_126, z_144, z_255, z_700, z_1000, z_1548, nI_add, pk_mul, pk_sub, nI_clamp, nI_leI, nI_ltI, nI_eq, z_in, z_m1, z_m1b, lg_cmp_eq, z_cmp, Decidable.not_not, w_ie, w_in, w_il, w_le, w_ln, w_li, w_ir, w_lr, a1, ln_P_tape, ln_W_text, ln_W_starts, ln_W_ends, ln_W_lines, ln_W_names, ln_W_values, ln_PL_jobs, ln_PL_parts, ln_FT_reached, ln_EX_jobs, ln_EX_codes, ln_CB_names, ln_CB_values, ln_M_tape, ln_M_source, ln_M_wordAt, ln_M_wordEnd, ln_M_names, ln_M_itemCount, ln_M_itemFirst, ln_M_itemWords, ln_M_itemUses, ln_M_keptAt, ln_M_keptEnd, ln_M_needCount, ln_M_axisCount, ln_M_valueCount, ln_M_needed, ln_M_axes, ln_M_values, ln_M_includes, ln_M_excludes, ln_M_pairCount, ln_M_pairName, ln_M_pairValue, ln_M_signCount, ln_M_signs, ln_M_signName, ln_M_signValue, ln_M_whose, ln_M_which, ln_M_pile, ln_M_reaches, ln_M_stepsOf, ln_M_known, ln_JB_needed, ln_JB_axes, ln_JS_used, ln_JS_stepWords, ln_PS_used, ln_PS_stepWords, ln_IN_rows, ln_EC_rows, ln_IR_names, ln_IR_values, ln_ER_names, ln_ER_values, ln_CD_kinds, ln_CD_names, ln_CD_values, ln_AX_values] <;> omega) | assumption) (fun _ => kb_85_195 (kk h hP hK fr.rfl')) (fun c2 => ?_)))
      simp (disch := omega) only [z_0, z_1, z_2, z_3, z_4, z_5, z_6, z_7, z_8, z_9, z_10, z_12, z_13, z_20, z_21, z_25, z_56, z_350, z_31, z_32, z_36, z_48, z_57, z_61, z_97, z_100, z_122, z_125, z_126, z_144, z_255, z_700, z_1000, z_1548, nI_add, pk_mul, pk_sub, nI_clamp, nI_leI, nI_ltI, nI_eq, z_in, z_m1, z_m1b, lg_cmp_eq, z_cmp, Decidable.not_not, w_ie, w_in, w_il, w_le, w_ln, w_li, w_ir, w_lr, a1, es, a4] at c c2
      omega
    · rw [if_neg q] at he
      refine kb_85_0 (by first | with_reducible assumption | with_reducible exact kd_M | assumption) (fun c => (by simp (disch := omega) only [z_0, z_1, z_2, z_3, z_4, z_5, z_6, z_7, z_8, z_9, z_10, z_12, z_13, z_20, z_21, z_25, z_56, z_350, z_31, z_32, z_36, z_48, z_57, z_61, z_97, z_100, z_122, z_125, z_126, z_144, z_255, z_700, z_1000, z_1548, nI_add, pk_mul, pk_sub, nI_clamp, nI_leI, nI_ltI, nI_eq, z_in, z_m1, z_m1b, lg_cmp_eq, z_cmp, Decidable.not_not, w_ie, w_in, w_il, w_le, w_ln, w_li, w_ir, w_lr, a1] at c; exfalso; omega)) (fun _ => kb_85_7 (by first | with_reducible assumption | with_reducible exact kd_M | assumption) (by first | with_reducible assumption | exact rf_M_pile H | assumption) (by first | with_reducible assumption | with_reducible exact kd_M_pile | assumption) (by first | with_reducible assumption | (simp (disch := omega) only [z_0, z_1, z_2, z_3, z_4, z_5, z_6, z_7, z_8, z_9, z_10, z_12, z_13, z_20, z_21, z_25, z_56, z_350, z_31, z_32, z_36, z_48, z_57, z_61, z_97, z_100, z_122, z_125, z_126, z_144, z_255, z_700, z_1000, z_1548, nI_add, pk_mul, pk_sub, nI_clamp, nI_leI, nI_ltI, nI_eq, z_in, z_m1, z_m1b, lg_cmp_eq, z_cmp, Decidable.not_not, w_ie, w_in, w_il, w_le, w_ln, w_li, w_ir, w_lr, a1, ln_P_tape, ln_W_text, ln_W_starts, ln_W_ends, ln_W_lines, ln_W_names, ln_W_values, ln_PL_jobs, ln_PL_parts, ln_FT_reached, ln_EX_jobs, ln_EX_codes, ln_CB_names, ln_CB_values, ln_M_tape, ln_M_source, ln_M_wordAt, ln_M_wordEnd, ln_M_names, ln_M_itemCount, ln_M_itemFirst, ln_M_itemWords, ln_M_itemUses, ln_M_keptAt, ln_M_keptEnd, ln_M_needCount, ln_M_axisCount, ln_M_valueCount, ln_M_needed, ln_M_axes, ln_M_values, ln_M_includes, ln_M_excludes, ln_M_pairCount, ln_M_pairName, ln_M_pairValue, ln_M_signCount, ln_M_signs, ln_M_signName, ln_M_signValue, ln_M_whose, ln_M_which, ln_M_pile, ln_M_reaches, ln_M_stepsOf, ln_M_known, ln_JB_needed, ln_JB_axes, ln_JS_used, ln_JS_stepWords, ln_PS_used, ln_PS_stepWords, ln_IN_rows, ln_EC_rows, ln_IR_names, ln_IR_values, ln_ER_names, ln_ER_values, ln_CD_kinds, ln_CD_names, ln_CD_values, ln_AX_values] <;> omega) | assumption) (fun c => ?_) (fun c => kb_85_22 (by first | with_reducible assumption | with_reducible exact kd_M | assumption) (by first | with_reducible assumption | exact rf_M_pile H | assumption) (by first | with_reducible assumption | with_reducible exact kd_M_pile | assumption) (by first | with_reducible assumption | (simp (disch := omega) only [z_0, z_1, z_2, z_3, z_4, z_5, z_6, z_7, z_8, z_9, z_10, z_12, z_13, z_20, z_21, z_25, z_56, z_350, z_31, z_32, z_36, z_48, z_57, z_61, z_97, z_100, z_122, z_125, z_126, z_144, z_255, z_700, z_1000, z_1548, nI_add, pk_mul, pk_sub, nI_clamp, nI_leI, nI_ltI, nI_eq, z_in, z_m1, z_m1b, lg_cmp_eq, z_cmp, Decidable.not_not, w_ie, w_in, w_il, w_le, w_ln, w_li, w_ir, w_lr, a1, ln_P_tape, ln_W_text, ln_W_starts, ln_W_ends, ln_W_lines, ln_W_names, ln_W_values, ln_PL_jobs, ln_PL_parts, ln_FT_reached, ln_EX_jobs, ln_EX_codes, ln_CB_names, ln_CB_values, ln_M_tape, ln_M_source, ln_M_wordAt, ln_M_wordEnd, ln_M_names, ln_M_itemCount, ln_M_itemFirst, ln_M_itemWords, ln_M_itemUses, ln_M_keptAt, ln_M_keptEnd, ln_M_needCount, ln_M_axisCount, ln_M_valueCount, ln_M_needed, ln_M_axes, ln_M_values, ln_M_includes, ln_M_excludes, ln_M_pairCount, ln_M_pairName, ln_M_pairValue, ln_M_signCount, ln_M_signs, ln_M_signName, ln_M_signValue, ln_M_whose, ln_M_which, ln_M_pile, ln_M_reaches, ln_M_stepsOf, ln_M_known, ln_JB_needed, ln_JB_axes, ln_JS_used, ln_JS_stepWords, ln_PS_used, ln_PS_stepWords, ln_IN_rows, ln_EC_rows, ln_IR_names, ln_IR_values, ln_ER_names, ln_ER_values, ln_CD_kinds, ln_CD_names, ln_CD_values, ln_AX_values] <;> omega) | assumption) (fun c2 => ?_) (fun c2 => ?_)))
      · simp (disch := omega) only [z_0, z_1, z_2, z_3, z_4, z_5, z_6, z_7, z_8, z_9, z_10, z_12, z_13, z_20, z_21, z_25, z_56, z_350, z_31, z_32, z_36, z_48, z_57, z_61, z_97, z_100, z_122, z_125, z_126, z_144, z_255, z_700, z_1000, z_1548, nI_add, pk_mul, pk_sub, nI_clamp, nI_leI, nI_ltI, nI_eq, z_in, z_m1, z_m1b, lg_cmp_eq, z_cmp, Decidable.not_not, w_ie, w_in, w_il, w_le, w_ln, w_li, w_ir, w_lr, a1, es, a4] at c
        omega
      · simp (disch := omega) only [z_0, z_1, z_2, z_3, z_4, z_5, z_6, z_7, z_8, z_9, z_10, z_12, z_13, z_20, z_21, z_25, z_56, z_350, z_31, z_32, z_36, z_48, z_57, z_61, z_97, z_100, z_122, z_125, z_126, z_144, z_255, z_700, z_1000, z_1548, nI_add, pk_mul, pk_sub, nI_clamp, nI_leI, nI_ltI, nI_eq, z_in, z_m1, z_m1b, lg_cmp_eq, z_cmp, Decidable.not_not, w_ie, w_in, w_il, w_le, w_ln, w_li, w_ir, w_lr, a1, es, a4] at c2
        omega
      have b38 : (mj_w h 573 38 (.int (nI r0.length))).1 573 38 = nI r0.length := w_ie ⟨rfl, rfl⟩
      have hpop : fr inMe h (mj_w h 573 38 (.int (nI r0.length))) := pop.mono (fun a i q => by unfold inMe; omega)
      have K2 : KnM (mj_w h 573 38 (.int (nI r0.length))) ks := ⟨(pop.n (by omega)).trans hK.1, hK.2.1, KnL_of hK.2.2 (fun i hi => pop.n (by omega))⟩
      have H2 := pop.rs H
      have step : mr_M mj_KK d 85 37 [some (.ref 573), some (.int (nI l))] [] h Q := by
        have e38 : (mj_w h 573 38 (.int (h.1 573 38 - 1))) = mj_w h 573 38 (.int (nI r0.length)) := by rw [a1, show (1 : Int32) = nI 1 from rfl, pk_sub (by omega), es]
        refine kb_85_37 kd_M (rf_M_pile H) kd_M_pile (by rw [e38, b38, ln_M_pile]; exact mj_inI (by omega) (by omega)) (fun c => ?_) (fun c => ?_)
        · rw [e38, b38, nI_clamp (by omega), pt] at c
          rw [e38]
          simp (disch := omega) only [z_0, z_1, z_2, z_3, z_4, z_5, z_6, z_7, z_8, z_9, z_10, z_12, z_13, z_20, z_21, z_25, z_56, z_350, z_31, z_32, z_36, z_48, z_57, z_61, z_97, z_100, z_122, z_125, z_126, z_144, z_255, z_700, z_1000, z_1548, nI_add, pk_mul, pk_sub, nI_clamp, nI_leI, nI_ltI, nI_eq, z_in, z_m1, z_m1b, lg_cmp_eq, z_cmp, Decidable.not_not, w_ie, w_in, w_il, w_le, w_ln, w_li, w_ir, w_lr] at c
          rw [if_neg c] at he
          have H := H2
          generalize mj_w h 573 38 (.int (nI r0.length)) = h2 at *
          match ks, hK, K2, he with
          | [], hK, K2, he => cases he
          | [b], hK, K2, he => cases he
          | b :: a :: t, hK, K2, he =>
            obtain ⟨k1, k2, k3, k4, k5⟩ := K2
            have k1 : h2.1 573 43 = nI (t.length + 1 + 1) := k1
            have k2 : t.length + 1 + 1 ≤ 23 := k2
            have k3 : h2.1 605 (t.length + 1) = b2i b := k3
            have e2 : t.length + 1 + 1 - 1 = t.length + 1 := by omega
            have e3 : t.length + 1 - 1 = t.length := by omega
            have e43 : (mj_w h2 573 43 (.int (h2.1 573 43 - 1))) = mj_w h2 573 43 (.int (nI (t.length + 1))) := by rw [k1, show (1 : Int32) = nI 1 from rfl, pk_sub (by omega), e2]
            have p43 : fr (fun a i => a = 573 ∧ i = 43) h2 (mj_w h2 573 43 (.int (nI (t.length + 1)))) := fr.wi (P := fun a i => a = 573 ∧ i = 43) fr.rfl' ⟨rfl, rfl⟩
            have c43 : (mj_w h2 573 43 (.int (nI (t.length + 1)))).1 573 43 = nI (t.length + 1) := w_ie ⟨rfl, rfl⟩
            have c38 : (mj_w h2 573 43 (.int (nI (t.length + 1)))).1 573 38 = nI r0.length := (p43.n (by omega)).trans pP.1
            have ct : (mj_w h2 573 43 (.int (nI (t.length + 1)))).1 602 r0.length = nI s := (p43.n (by omega)).trans pt
            have ca : (mj_w h2 573 43 (.int (nI (t.length + 1)))).1 605 t.length = b2i a := (p43.n (by omega)).trans k4
            have cbb : (mj_w h2 573 43 (.int (nI (t.length + 1)))).1 605 (t.length + 1) = b2i b := (p43.n (by omega)).trans k3
            have ck : KnL (mj_w h2 573 43 (.int (nI (t.length + 1)))) t := KnL_of k5 (fun i hi => p43.n (by omega))
            have cP : PiM (mj_w h2 573 43 (.int (nI (t.length + 1)))) r0 := ⟨c38, pP.2.1, pP.2.2.1, pP.2.2.2.of (fun i hi => p43.n (by omega))⟩
            have fr3 : fr inMe h (mj_w h2 573 43 (.int (nI (t.length + 1)))) := hpop.trans (p43.mono (fun a i q => by unfold inMe; omega))
            have H := p43.rs H
            have es1 : nI (t.length + 1) - 1 = nI t.length := by rw [show (1 : Int32) = nI 1 from rfl, pk_sub (by omega), e3]
            have fin : ∀ z : Bool, ap l r0 (z :: t) = some r → mr_M mj_KK d 85 191 [some (.ref 573), some (.int (nI l))] [.int (b2i z), .int (nI t.length), .ref 605] (mj_w h2 573 43 (.int (nI (t.length + 1)))) Q := by
              intro z hz
              generalize mj_w h2 573 43 (.int (nI (t.length + 1))) = h3 at *
              refine kb_85_191 kd_M_known (by rw [ln_M_known]; exact mj_inI (by omega) (by omega)) ?_
              rw [nI_clamp (by omega), narb]
              have pk9 : fr (fun a i => a = 605 ∧ i = t.length) h3 (mj_w h3 605 t.length (.int (b2i z))) := fr.wi (P := fun a i => a = 605 ∧ i = t.length) fr.rfl' ⟨rfl, rfl⟩
              exact ih (ks := z :: t) (pk9.rs H) ⟨(pk9.n (by omega)).trans c38, cP.2.1, cP.2.2.1, cP.2.2.2.of (fun i hi => pk9.n (by omega))⟩ ⟨(pk9.n (by omega)).trans c43, by show t.length + 1 ≤ 23; omega, w_ie ⟨rfl, rfl⟩, KnL_of ck (fun i hi => pk9.n (by omega))⟩ hz (fun h' g1 g2 g3 => kk h' g1 g2 ((fr3.trans (pk9.mono (fun a i q => by unfold inMe; omega))).trans g3))
            refine kb_85_93 kd_M (rf_M_known H2) (rf_M_pile H2) kd_M_pile (by rw [e43, c38, ln_M_pile]; exact mj_inI (by omega) (by omega)) (fun c => ?_) (fun c => ?_)
            · rw [e43, c38, nI_clamp (by omega), ct] at c
              rw [e43, c43, es1]
              simp (disch := omega) only [z_0, z_1, z_2, z_3, z_4, z_5, z_6, z_7, z_8, z_9, z_10, z_12, z_13, z_20, z_21, z_25, z_56, z_350, z_31, z_32, z_36, z_48, z_57, z_61, z_97, z_100, z_122, z_125, z_126, z_144, z_255, z_700, z_1000, z_1548, nI_add, pk_mul, pk_sub, nI_clamp, nI_leI, nI_ltI, nI_eq, z_in, z_m1, z_m1b, lg_cmp_eq, z_cmp, Decidable.not_not, w_ie, w_in, w_il, w_le, w_ln, w_li, w_ir, w_lr] at c
              have s1 : ¬ s = 2 := c
              have he : ap l r0 ((if s = 2 then a && b else a || b) :: t) = some r := he
              rw [show (if s = 2 then a && b else a || b) = (a || b) from if_neg s1] at he
              have f := fin (a || b) he
              generalize mj_w h2 573 43 (.int (nI (t.length + 1))) = h3 at *
              refine kb_85_160 kd_M (rf_M_known H) kd_M_known (by rw [c43, es1, ln_M_known]; exact mj_inI (by omega) (by omega)) (fun c => kb_85_186 ?_) (fun c => kb_85_174 kd_M (rf_M_known H) kd_M_known (by rw [c43, ln_M_known]; exact mj_inI (by omega) (by omega)) (fun c2 => kb_85_190 ?_) (fun c2 => kb_85_186 ?_))
              · rw [c43, es1, nI_clamp (by omega), ca, b2i_0, Bool.not_eq_false] at c
                rw [c, Bool.true_or] at f
                exact f
              · rw [c43, es1, nI_clamp (by omega), ca, b2i_0, Decidable.not_not] at c
                rw [c43, nI_clamp (by omega), cbb, b2i_0] at c2
                rw [c, c2] at f
                exact f
              · rw [c43, nI_clamp (by omega), cbb, b2i_0, Bool.not_eq_false] at c2
                rw [c2, Bool.or_true] at f
                exact f
            · rw [e43, c38, nI_clamp (by omega), ct] at c
              rw [e43, c43, es1]
              simp (disch := omega) only [z_0, z_1, z_2, z_3, z_4, z_5, z_6, z_7, z_8, z_9, z_10, z_12, z_13, z_20, z_21, z_25, z_56, z_350, z_31, z_32, z_36, z_48, z_57, z_61, z_97, z_100, z_122, z_125, z_126, z_144, z_255, z_700, z_1000, z_1548, nI_add, pk_mul, pk_sub, nI_clamp, nI_leI, nI_ltI, nI_eq, z_in, z_m1, z_m1b, lg_cmp_eq, z_cmp, Decidable.not_not, w_ie, w_in, w_il, w_le, w_ln, w_li, w_ir, w_lr] at c
              have he : ap l r0 ((if s = 2 then a && b else a || b) :: t) = some r := he
              rw [show (if s = 2 then a && b else a || b) = (a && b) from if_pos c] at he
              have f := fin (a && b) he
              generalize mj_w h2 573 43 (.int (nI (t.length + 1))) = h3 at *
              refine kb_85_126 kd_M (rf_M_known H) kd_M_known (by rw [c43, es1, ln_M_known]; exact mj_inI (by omega) (by omega)) (fun c => kb_85_156 ?_) (fun c => kb_85_140 kd_M (rf_M_known H) kd_M_known (by rw [c43, ln_M_known]; exact mj_inI (by omega) (by omega)) (fun c2 => kb_85_156 ?_) (fun c2 => kb_85_152 ?_))
              · rw [c43, es1, nI_clamp (by omega), ca, b2i_0] at c
                rw [c, Bool.false_and] at f
                exact f
              · rw [c43, nI_clamp (by omega), cbb, b2i_0] at c2
                rw [c2, Bool.and_false] at f
                exact f
              · rw [c43, es1, nI_clamp (by omega), ca, b2i_0, Bool.not_eq_false] at c
                rw [c43, nI_clamp (by omega), cbb, b2i_0, Bool.not_eq_false] at c2
                rw [c, c2] at f
                exact f
        · rw [e38, b38, nI_clamp (by omega), pt] at c
          rw [e38]
          simp (disch := omega) only [z_0, z_1, z_2, z_3, z_4, z_5, z_6, z_7, z_8, z_9, z_10, z_12, z_13, z_20, z_21, z_25, z_56, z_350, z_31, z_32, z_36, z_48, z_57, z_61, z_97, z_100, z_122, z_125, z_126, z_144, z_255, z_700, z_1000, z_1548, nI_add, pk_mul, pk_sub, nI_clamp, nI_leI, nI_ltI, nI_eq, z_in, z_m1, z_m1b, lg_cmp_eq, z_cmp, Decidable.not_not, w_ie, w_in, w_il, w_le, w_ln, w_li, w_ir, w_lr] at c
          rw [if_pos c] at he
          have H := H2
          generalize mj_w h 573 38 (.int (nI r0.length)) = h2 at *
          match ks, hK, K2, he with
          | [], hK, K2, he => cases he
          | b :: t, hK, K2, he =>
            obtain ⟨k1, k2, k3, k4⟩ := K2
            have k1 : h2.1 573 43 = nI (t.length + 1) := k1
            have k2 : t.length + 1 ≤ 23 := k2
            have es1 : nI (t.length + 1) - 1 = nI t.length := by rw [show (1 : Int32) = nI 1 from rfl, pk_sub (by omega), Nat.add_sub_cancel]
            have fin : ∀ z : Bool, z = (!b) → mr_M mj_KK d 85 89 [some (.ref 573), some (.int (nI l))] [.int (b2i z), .int (nI t.length), .ref 605] h2 Q := by
              intro z hz
              subst hz
              refine kb_85_89 kd_M_known (by rw [ln_M_known]; exact mj_inI (by omega) (by omega)) ?_
              rw [nI_clamp (by omega), narb]
              have pk9 : fr (fun a i => a = 605 ∧ i = t.length) h2 (mj_w h2 605 t.length (.int (b2i (!b)))) := fr.wi (P := fun a i => a = 605 ∧ i = t.length) fr.rfl' ⟨rfl, rfl⟩
              have he : ap l r0 ((!b) :: t) = some r := he
              exact ih (ks := (!b) :: t) (pk9.rs H) ⟨(pk9.n (by omega)).trans pP.1, pP.2.1, pP.2.2.1, pP.2.2.2.of (fun i hi => pk9.n (by omega))⟩ ⟨(pk9.n (by omega)).trans k1, k2, w_ie ⟨rfl, rfl⟩, KnL_of k4 (fun i hi => pk9.n (by omega))⟩ he (fun h' g1 g2 g3 => kk h' g1 g2 ((hpop.trans (pk9.mono (fun a i q => by unfold inMe; omega))).trans g3))
            refine kb_85_60 kd_M (rf_M_known H) kd_M_known (by rw [k1, es1, ln_M_known]; exact mj_inI (by omega) (by omega)) (fun c => ?_) (fun c => ?_)
            · rw [k1, es1, nI_clamp (by omega), k3, b2i_0, Bool.not_eq_false] at c
              rw [k1, es1]
              exact kb_85_88 (fin false (by rw [c]; rfl))
            · rw [k1, es1, nI_clamp (by omega), k3, b2i_0, Decidable.not_not] at c
              rw [k1, es1]
              exact kb_85_84 (fin true (by rw [c]; rfl))
      exact step
end
section
variable {d i kept : Nat} {h0 : mj_H} {Q : Option Value → mj_H → Prop} {P : mj_P} {W : List Wt} {br : Int64} {out : Int32} {e : En}
/-- holds -/
theorem s86 {t : List Sg} {v : Bool} (hd : 5 ≤ d) (H0 : mj_RS h0) (hP : PlM h0 W kept P) (hE : EnM h0 i e) (ho : enOK P e) (hV : JV (P.jr e.1)) (hbr : h0.2.1 573 4 = br) (hT : SgM h0 e.1 t) (hB : ∀ s ∈ t, SB s) (hn : ∀ s ∈ t, (s.1 = 7 ∨ s.1 = 8) → ¬ jN P s.2.1 = -1) (hv : (re (tQ P (cmb P e) br out) t [] []).bind (fun s => ap 1 s.1 s.2) = some ([], [v])) (kk : ∀ h', fr inMe h0 h' → Q (some (.int (b2i v))) h') : mr_C mj_KK d 86 [.ref 573, .int (nI i), .int out] h0 Q := by
  show mr_M mj_KK d 86 0 [some (.ref 573), some (.int (nI i)), some (.int out), none, none, none] [] h0 Q
  have H := H0
  obtain ⟨i5, e1, e2⟩ := id hE
  obtain ⟨x1, x2, x3⟩ := id hT
  have hj12 : e.1 < 12 := by have := hP.1.2.1; have := ho.1; omega
  refine kb_86_0 (by first | with_reducible assumption | with_reducible exact kd_M | assumption) (by first | with_reducible assumption | exact rf_M_whose H | assumption) (by first | with_reducible assumption | with_reducible exact kd_M_whose | assumption) (by first | with_reducible assumption | (simp (disch := omega) only [z_0, z_1, z_2, z_3, z_4, z_5, z_6, z_7, z_8, z_9, z_10, z_12, z_13, z_20, z_21, z_25, z_56, z_350, z_31, z_32, z_36, z_48, z_57, z_61, z_97, z_100, z_122, z_125, z_126, z_144, z_255, z_700, z_1000, z_1548, nI_add, pk_mul, pk_sub, nI_clamp, nI_leI, nI_ltI, nI_eq, z_in, z_m1, z_m1b, lg_cmp_eq, z_cmp, Decidable.not_not, w_ie, w_in, w_il, w_le, w_ln, w_li, w_ir, w_lr, ln_P_tape, ln_W_text, ln_W_starts, ln_W_ends, ln_W_lines, ln_W_names, ln_W_values, ln_PL_jobs, ln_PL_parts, ln_FT_reached, ln_EX_jobs, ln_EX_codes, ln_CB_names, ln_CB_values, ln_M_tape, ln_M_source, ln_M_wordAt, ln_M_wordEnd, ln_M_names, ln_M_itemCount, ln_M_itemFirst, ln_M_itemWords, ln_M_itemUses, ln_M_keptAt, ln_M_keptEnd, ln_M_needCount, ln_M_axisCount, ln_M_valueCount, ln_M_needed, ln_M_axes, ln_M_values, ln_M_includes, ln_M_excludes, ln_M_pairCount, ln_M_pairName, ln_M_pairValue, ln_M_signCount, ln_M_signs, ln_M_signName, ln_M_signValue, ln_M_whose, ln_M_which, ln_M_pile, ln_M_reaches, ln_M_stepsOf, ln_M_known, ln_JB_needed, ln_JB_axes, ln_JS_used, ln_JS_stepWords, ln_PS_used, ln_PS_stepWords, ln_IN_rows, ln_EC_rows, ln_IR_names, ln_IR_values, ln_ER_names, ln_ER_values, ln_CD_kinds, ln_CD_names, ln_CD_values, ln_AX_values] <;> omega) | assumption) ?_
  have e20 : (20 : Int32) * nI e.1 = nI (20 * e.1) := pk_mul 20 e.1
  rw [nI_clamp (by omega), e1, e20]
  have loop : ∀ n k (π : List Nat) (ks : List Bool) (h : mj_H), k + n = t.length → π.length ≤ k → ks.length ≤ k → PiM h π → KnM h ks → fr inMe h0 h → (re (tQ P (cmb P e) br out) (t.drop k) π ks).bind (fun s => ap 1 s.1 s.2) = some ([], [v]) → mr_M mj_KK d 86 23 [some (.ref 573), some (.int (nI i)), some (.int out), some (.int (nI (20 * e.1))), some (.int (nI (20 * e.1 + k))), none] [] h Q := by
    intro n
    induction n with
    | zero =>
      intro k π ks h hk l1 l2 hPi hKn hf he
      have H := hf.rs H0
      have y1 : h.1 600 i = nI e.1 := (hf.n (by unfold inMe; omega)).trans e1
      have y2 : h.1 596 e.1 = nI t.length := (hf.n (by unfold inMe; omega)).trans x1
      have ed : t.drop k = [] := List.drop_eq_nil_of_le (by omega)
      rw [ed] at he
      have he : ap 1 π ks = some ([], [v]) := he
      refine kb_86_23 (by first | with_reducible assumption | with_reducible exact kd_M | assumption) (by first | with_reducible assumption | exact rf_M_signCount H | assumption) (by first | with_reducible assumption | exact rf_M_whose H | assumption) (by first | with_reducible assumption | with_reducible exact kd_M_whose | assumption) (by first | with_reducible assumption | (simp (disch := omega) only [z_0, z_1, z_2, z_3, z_4, z_5, z_6, z_7, z_8, z_9, z_10, z_12, z_13, z_20, z_21, z_25, z_56, z_350, z_31, z_32, z_36, z_48, z_57, z_61, z_97, z_100, z_122, z_125, z_126, z_144, z_255, z_700, z_1000, z_1548, nI_add, pk_mul, pk_sub, nI_clamp, nI_leI, nI_ltI, nI_eq, z_in, z_m1, z_m1b, lg_cmp_eq, z_cmp, Decidable.not_not, w_ie, w_in, w_il, w_le, w_ln, w_li, w_ir, w_lr, y1, ln_P_tape, ln_W_text, ln_W_starts, ln_W_ends, ln_W_lines, ln_W_names, ln_W_values, ln_PL_jobs, ln_PL_parts, ln_FT_reached, ln_EX_jobs, ln_EX_codes, ln_CB_names, ln_CB_values, ln_M_tape, ln_M_source, ln_M_wordAt, ln_M_wordEnd, ln_M_names, ln_M_itemCount, ln_M_itemFirst, ln_M_itemWords, ln_M_itemUses, ln_M_keptAt, ln_M_keptEnd, ln_M_needCount, ln_M_axisCount, ln_M_valueCount, ln_M_needed, ln_M_axes, ln_M_values, ln_M_includes, ln_M_excludes, ln_M_pairCount, ln_M_pairName, ln_M_pairValue, ln_M_signCount, ln_M_signs, ln_M_signName, ln_M_signValue, ln_M_whose, ln_M_which, ln_M_pile, ln_M_reaches, ln_M_stepsOf, ln_M_known, ln_JB_needed, ln_JB_axes, ln_JS_used, ln_JS_stepWords, ln_PS_used, ln_PS_stepWords, ln_IN_rows, ln_EC_rows, ln_IR_names, ln_IR_values, ln_ER_names, ln_ER_values, ln_CD_kinds, ln_CD_names, ln_CD_values, ln_AX_values] <;> omega) | assumption) (by first | with_reducible assumption | with_reducible exact kd_M_signCount | assumption) (by first | with_reducible assumption | (simp (disch := omega) only [z_0, z_1, z_2, z_3, z_4, z_5, z_6, z_7, z_8, z_9, z_10, z_12, z_13, z_20, z_21, z_25, z_56, z_350, z_31, z_32, z_36, z_48, z_57, z_61, z_97, z_100, z_122, z_125, z_126, z_144, z_255, z_700, z_1000, z_1548, nI_add, pk_mul, pk_sub, nI_clamp, nI_leI, nI_ltI, nI_eq, z_in, z_m1, z_m1b, lg_cmp_eq, z_cmp, Decidable.not_not, w_ie, w_in, w_il, w_le, w_ln, w_li, w_ir, w_lr, y1, ln_P_tape, ln_W_text, ln_W_starts, ln_W_ends, ln_W_lines, ln_W_names, ln_W_values, ln_PL_jobs, ln_PL_parts, ln_FT_reached, ln_EX_jobs, ln_EX_codes, ln_CB_names, ln_CB_values, ln_M_tape, ln_M_source, ln_M_wordAt, ln_M_wordEnd, ln_M_names, ln_M_itemCount, ln_M_itemFirst, ln_M_itemWords, ln_M_itemUses, ln_M_keptAt, ln_M_keptEnd, ln_M_needCount, ln_M_axisCount, ln_M_valueCount, ln_M_needed, ln_M_axes, ln_M_values, ln_M_includes, ln_M_excludes, ln_M_pairCount, ln_M_pairName, ln_M_pairValue, ln_M_signCount, ln_M_signs, ln_M_signName, ln_M_signValue, ln_M_whose, ln_M_which, ln_M_pile, ln_M_reaches, ln_M_stepsOf, ln_M_known, ln_JB_needed, ln_JB_axes, ln_JS_used, ln_JS_stepWords, ln_PS_used, ln_PS_stepWords, ln_IN_rows, ln_EC_rows, ln_IR_names, ln_IR_values, ln_ER_names, ln_ER_values, ln_CD_kinds, ln_CD_names, ln_CD_values, ln_AX_values] <;> omega) | assumption) (fun _ => kb_86_195 (by first | with_reducible assumption | with_reducible exact kd_M | assumption) (by omega) (s85 (l := 1) (by decide) H hPi hKn he (fun h' g1 g2 g3 => ?_))) (fun c => (by simp (disch := omega) only [z_0, z_1, z_2, z_3, z_4, z_5, z_6, z_7, z_8, z_9, z_10, z_12, z_13, z_20, z_21, z_25, z_56, z_350, z_31, z_32, z_36, z_48, z_57, z_61, z_97, z_100, z_122, z_125, z_126, z_144, z_255, z_700, z_1000, z_1548, nI_add, pk_mul, pk_sub, nI_clamp, nI_leI, nI_ltI, nI_eq, z_in, z_m1, z_m1b, lg_cmp_eq, z_cmp, Decidable.not_not, w_ie, w_in, w_il, w_le, w_ln, w_li, w_ir, w_lr, y1, y2] at c; exfalso; omega))
      have k0 : h'.1 605 0 = b2i v := g2.2.2.1
      have H := g3.rs H
      have ez : (0 : Int32).toNatClampNeg = 0 := by decide
      refine kb_86_200 kd_M (rf_M_known H) kd_M_known (by rw [ln_M_known]; decide) (by rw [ez, k0]; exact b2i_01 v) ?_
      rw [ez, k0]
      exact kk h' (hf.trans g3)
    | succ n ih =>
      intro k π ks h hk l1 l2 hPi hKn hf he
      have H := hf.rs H0
      have hkl : k < t.length := by omega
      have y1 : h.1 600 i = nI e.1 := (hf.n (by unfold inMe; omega)).trans e1
      have y2 : h.1 596 e.1 = nI t.length := (hf.n (by unfold inMe; omega)).trans x1
      obtain ⟨z0, z1, z2⟩ := x3 k hkl
      have z0 : h.1 597 (20 * e.1 + k) = nI (t.getD k (0, 0, 0)).1 := (hf.n (by unfold inMe; omega)).trans z0
      have z1 : h.2.1 598 (20 * e.1 + k) = (t.getD k (0, 0, 0)).2.1 := (hf.l (by unfold inMe; omega)).trans z1
      have z2 : h.2.1 599 (20 * e.1 + k) = (t.getD k (0, 0, 0)).2.2 := (hf.l (by unfold inMe; omega)).trans z2
      have hm := getD_mem (x := (0, 0, 0)) hkl
      obtain ⟨sb1, sb9⟩ := hB _ hm
      have hnn := hn _ hm
      rw [drop_s (x := (0, 0, 0)) hkl, re_s] at he
      generalize t.getD k (0, 0, 0) = s at *
      have nx : ∀ (π2 : List Nat) (ks2 : List Bool) (h2 : mj_H), π2.length ≤ k + 1 → ks2.length ≤ k + 1 → PiM h2 π2 → KnM h2 ks2 → fr inMe h0 h2 → (re (tQ P (cmb P e) br out) (t.drop (k + 1)) π2 ks2).bind (fun s => ap 1 s.1 s.2) = some ([], [v]) → mr_M mj_KK d 86 189 [some (.ref 573), some (.int (nI i)), some (.int out), some (.int (nI (20 * e.1))), some (.int (nI (20 * e.1 + k))), none] [] h2 Q := by
        intro π2 ks2 h2 g1 g2 g3 g4 g5 g6
        refine kb_86_189 ?_
        rw [nI_1]
        exact ih (k + 1) π2 ks2 h2 (by omega) g1 g2 g3 g4 g5 g6
      have push : ∀ (π2 : List Nat) (ks2 : List Bool) (h2 : mj_H), π2.length ≤ k → ks2.length ≤ k → PiM h2 π2 → KnM h2 ks2 → s.1 < 6 → PiM (mj_w (mj_w h2 602 π2.length (.int (nI s.1))) 573 38 (.int (nI (π2.length + 1)))) (s.1 :: π2) ∧ KnM (mj_w (mj_w h2 602 π2.length (.int (nI s.1))) 573 38 (.int (nI (π2.length + 1)))) ks2 ∧ fr inMe h2 (mj_w (mj_w h2 602 π2.length (.int (nI s.1))) 573 38 (.int (nI (π2.length + 1)))) := by
        intro π2 ks2 h2 g1 g2 g3 g4 g5
        have w : fr (fun a i => (a = 602 ∧ i = π2.length) ∨ (a = 573 ∧ i = 38)) h2 (mj_w (mj_w h2 602 π2.length (.int (nI s.1))) 573 38 (.int (nI (π2.length + 1)))) := (fr.wi (P := fun a i => (a = 602 ∧ i = π2.length) ∨ (a = 573 ∧ i = 38)) fr.rfl' (Or.inl ⟨rfl, rfl⟩)).wi (Or.inr ⟨rfl, rfl⟩)
        refine ⟨⟨w_ie ⟨rfl, rfl⟩, by show π2.length + 1 ≤ 23; omega, fun x hx => ?_, ?_, g3.2.2.2.of (fun i hi => w.n (by omega))⟩, ⟨(w.n (by omega)).trans g4.1, g4.2.1, KnL_of g4.2.2 (fun i hi => w.n (by omega))⟩, w.mono (fun a i q => by unfold inMe; omega)⟩
        · rcases List.mem_cons.mp hx with r | r
          · rw [r]
            exact g5
          · exact g3.2.2.1 x r
        · rw [w_in (by omega), w_ie ⟨rfl, rfl⟩]
      refine kb_86_23 (by first | with_reducible assumption | with_reducible exact kd_M | assumption) (by first | with_reducible assumption | exact rf_M_signCount H | assumption) (by first | with_reducible assumption | exact rf_M_whose H | assumption) (by first | with_reducible assumption | with_reducible exact kd_M_whose | assumption) (by first | with_reducible assumption | (simp (disch := omega) only [z_0, z_1, z_2, z_3, z_4, z_5, z_6, z_7, z_8, z_9, z_10, z_12, z_13, z_20, z_21, z_25, z_56, z_350, z_31, z_32, z_36, z_48, z_57, z_61, z_97, z_100, z_122, z_125, z_126, z_144, z_255, z_700, z_1000, z_1548, nI_add, pk_mul, pk_sub, nI_clamp, nI_leI, nI_ltI, nI_eq, z_in, z_m1, z_m1b, lg_cmp_eq, z_cmp, Decidable.not_not, w_ie, w_in, w_il, w_le, w_ln, w_li, w_ir, w_lr, y1, ln_P_tape, ln_W_text, ln_W_starts, ln_W_ends, ln_W_lines, ln_W_names, ln_W_values, ln_PL_jobs, ln_PL_parts, ln_FT_reached, ln_EX_jobs, ln_EX_codes, ln_CB_names, ln_CB_values, ln_M_tape, ln_M_source, ln_M_wordAt, ln_M_wordEnd, ln_M_names, ln_M_itemCount, ln_M_itemFirst, ln_M_itemWords, ln_M_itemUses, ln_M_keptAt, ln_M_keptEnd, ln_M_needCount, ln_M_axisCount, ln_M_valueCount, ln_M_needed, ln_M_axes, ln_M_values, ln_M_includes, ln_M_excludes, ln_M_pairCount, ln_M_pairName, ln_M_pairValue, ln_M_signCount, ln_M_signs, ln_M_signName, ln_M_signValue, ln_M_whose, ln_M_which, ln_M_pile, ln_M_reaches, ln_M_stepsOf, ln_M_known, ln_JB_needed, ln_JB_axes, ln_JS_used, ln_JS_stepWords, ln_PS_used, ln_PS_stepWords, ln_IN_rows, ln_EC_rows, ln_IR_names, ln_IR_values, ln_ER_names, ln_ER_values, ln_CD_kinds, ln_CD_names, ln_CD_values, ln_AX_values] <;> omega) | assumption) (by first | with_reducible assumption | with_reducible exact kd_M_signCount | assumption) (by first | with_reducible assumption | (simp (disch := omega) only [z_0, z_1, z_2, z_3, z_4, z_5, z_6, z_7, z_8, z_9, z_10, z_12, z_13, z_20, z_21, z_25, z_56, z_350, z_31, z_32, z_36, z_48, z_57, z_61, z_97, z_100, z_122, z_125, z_126, z_144, z_255, z_700, z_1000, z_1548, nI_add, pk_mul, pk_sub, nI_clamp, nI_leI, nI_ltI, nI_eq, z_in, z_m1, z_m1b, lg_cmp_eq, z_cmp, Decidable.not_not, w_ie, w_in, w_il, w_le, w_ln, w_li, w_ir, w_lr, y1, ln_P_tape, ln_W_text, ln_W_starts, ln_W_ends, ln_W_lines, ln_W_names, ln_W_values, ln_PL_jobs, ln_PL_parts, ln_FT_reached, ln_EX_jobs, ln_EX_codes, ln_CB_names, ln_CB_values, ln_M_tape, ln_M_source, ln_M_wordAt, ln_M_wordEnd, ln_M_names, ln_M_itemCount, ln_M_itemFirst, ln_M_itemWords, ln_M_itemUses, ln_M_keptAt, ln_M_keptEnd, ln_M_needCount, ln_M_axisCount, ln_M_valueCount, ln_M_needed, ln_M_axes, ln_M_values, ln_M_includes, ln_M_excludes, ln_M_pairCount, ln_M_pairName, ln_M_pairValue, ln_M_signCount, ln_M_signs, ln_M_signName, ln_M_signValue, ln_M_whose, ln_M_which, ln_M_pile, ln_M_reaches, ln_M_stepsOf, ln_M_known, ln_JB_needed, ln_JB_axes, ln_JS_used, ln_JS_stepWords, ln_PS_used, ln_PS_stepWords, ln_IN_rows, ln_EC_rows, ln_IR_names, ln_IR_values, ln_ER_names, ln_ER_values, ln_CD_kinds, ln_CD_names, ln_CD_values, ln_AX_values] <;> omega) | assumption) (fun c => (by simp (disch := omega) only [z_0, z_1, z_2, z_3, z_4, z_5, z_6, z_7, z_8, z_9, z_10, z_12, z_13, z_20, z_21, z_25, z_56, z_350, z_31, z_32, z_36, z_48, z_57, z_61, z_97, z_100, z_122, z_125, z_126, z_144, z_255, z_700, z_1000, z_1548, nI_add, pk_mul, pk_sub, nI_clamp, nI_leI, nI_ltI, nI_eq, z_in, z_m1, z_m1b, lg_cmp_eq, z_cmp, Decidable.not_not, w_ie, w_in, w_il, w_le, w_ln, w_li, w_ir, w_lr, y1, y2] at c; exfalso; omega)) (fun _ => ?_)
      have p1 := hPi.1
      have open_ : (s.1 = 3 ∨ s.1 = 4) → mr_M mj_KK d 86 62 [some (.ref 573), some (.int (nI i)), some (.int out), some (.int (nI (20 * e.1))), some (.int (nI (20 * e.1 + k))), some (.int (nI s.1))] [] h Q := by
        intro q
        rw [if_pos q] at he
        refine kb_86_62 (by first | with_reducible assumption | with_reducible exact kd_M | assumption) (by first | with_reducible assumption | exact rf_M_pile H | assumption) (by first | with_reducible assumption | with_reducible exact kd_M_pile | assumption) (by first | with_reducible assumption | (simp (disch := omega) only [z_0, z_1, z_2, z_3, z_4, z_5, z_6, z_7, z_8, z_9, z_10, z_12, z_13, z_20, z_21, z_25, z_56, z_350, z_31, z_32, z_36, z_48, z_57, z_61, z_97, z_100, z_122, z_125, z_126, z_144, z_255, z_700, z_1000, z_1548, nI_add, pk_mul, pk_sub, nI_clamp, nI_leI, nI_ltI, nI_eq, z_in, z_m1, z_m1b, lg_cmp_eq, z_cmp, Decidable.not_not, w_ie, w_in, w_il, w_le, w_ln, w_li, w_ir, w_lr, p1, ln_P_tape, ln_W_text, ln_W_starts, ln_W_ends, ln_W_lines, ln_W_names, ln_W_values, ln_PL_jobs, ln_PL_parts, ln_FT_reached, ln_EX_jobs, ln_EX_codes, ln_CB_names, ln_CB_values, ln_M_tape, ln_M_source, ln_M_wordAt, ln_M_wordEnd, ln_M_names, ln_M_itemCount, ln_M_itemFirst, ln_M_itemWords, ln_M_itemUses, ln_M_keptAt, ln_M_keptEnd, ln_M_needCount, ln_M_axisCount, ln_M_valueCount, ln_M_needed, ln_M_axes, ln_M_values, ln_M_includes, ln_M_excludes, ln_M_pairCount, ln_M_pairName, ln_M_pairValue, ln_M_signCount, ln_M_signs, ln_M_signName, ln_M_signValue, ln_M_whose, ln_M_which, ln_M_pile, ln_M_reaches, ln_M_stepsOf, ln_M_known, ln_JB_needed, ln_JB_axes, ln_JS_used, ln_JS_stepWords, ln_PS_used, ln_PS_stepWords, ln_IN_rows, ln_EC_rows, ln_IR_names, ln_IR_values, ln_ER_names, ln_ER_values, ln_CD_kinds, ln_CD_names, ln_CD_values, ln_AX_values] <;> omega) | assumption) ?_
        simp (disch := omega) only [p1, w_in, nI_clamp, nI_1]
        obtain ⟨g1, g2, g3⟩ := push π ks h l1 l2 hPi hKn (by omega)
        exact nx (s.1 :: π) ks _ (by show π.length + 1 ≤ k + 1; omega) (by omega) g1 g2 (hf.trans g3) he
      refine kb_86_41 (by first | with_reducible assumption | with_reducible exact kd_M | assumption) (by first | with_reducible assumption | exact rf_M_signs H | assumption) (by first | with_reducible assumption | with_reducible exact kd_M_signs | assumption) (by first | with_reducible assumption | (simp (disch := omega) only [z_0, z_1, z_2, z_3, z_4, z_5, z_6, z_7, z_8, z_9, z_10, z_12, z_13, z_20, z_21, z_25, z_56, z_350, z_31, z_32, z_36, z_48, z_57, z_61, z_97, z_100, z_122, z_125, z_126, z_144, z_255, z_700, z_1000, z_1548, nI_add, pk_mul, pk_sub, nI_clamp, nI_leI, nI_ltI, nI_eq, z_in, z_m1, z_m1b, lg_cmp_eq, z_cmp, Decidable.not_not, w_ie, w_in, w_il, w_le, w_ln, w_li, w_ir, w_lr, ln_P_tape, ln_W_text, ln_W_starts, ln_W_ends, ln_W_lines, ln_W_names, ln_W_values, ln_PL_jobs, ln_PL_parts, ln_FT_reached, ln_EX_jobs, ln_EX_codes, ln_CB_names, ln_CB_values, ln_M_tape, ln_M_source, ln_M_wordAt, ln_M_wordEnd, ln_M_names, ln_M_itemCount, ln_M_itemFirst, ln_M_itemWords, ln_M_itemUses, ln_M_keptAt, ln_M_keptEnd, ln_M_needCount, ln_M_axisCount, ln_M_valueCount, ln_M_needed, ln_M_axes, ln_M_values, ln_M_includes, ln_M_excludes, ln_M_pairCount, ln_M_pairName, ln_M_pairValue, ln_M_signCount, ln_M_signs, ln_M_signName, ln_M_signValue, ln_M_whose, ln_M_which, ln_M_pile, ln_M_reaches, ln_M_stepsOf, ln_M_known, ln_JB_needed, ln_JB_axes, ln_JS_used, ln_JS_stepWords, ln_PS_used, ln_PS_stepWords, ln_IN_rows, ln_EC_rows, ln_IR_names, ln_IR_values, ln_ER_names, ln_ER_values, ln_CD_kinds, ln_CD_names, ln_CD_values, ln_AX_values] <;> omega) | assumption) (fun c => ?_) (fun c => ?_)
      · simp (disch := omega) only [z_0, z_1, z_2, z_3, z_4, z_5, z_6, z_7, z_8, z_9, z_10, z_12, z_13, z_20, z_21, z_25, z_56, z_350, z_31, z_32, z_36, z_48, z_57, z_61, z_97, z_100, z_122, z_125, z_126, z_144, z_255, z_700, z_1000, z_1548, nI_add, pk_mul, pk_sub, nI_clamp, nI_leI, nI_ltI, nI_eq, z_in, z_m1, z_m1b, lg_cmp_eq, z_cmp, Decidable.not_not, w_ie, w_in, w_il, w_le, w_ln, w_li, w_ir, w_lr, z0] at c
        rw [nI_clamp (by omega), z0]
        exact open_ (Or.inl c)
      simp (disch := omega) only [z_0, z_1, z_2, z_3, z_4, z_5, z_6, z_7, z_8, z_9, z_10, z_12, z_13, z_20, z_21, z_25, z_56, z_350, z_31, z_32, z_36, z_48, z_57, z_61, z_97, z_100, z_122, z_125, z_126, z_144, z_255, z_700, z_1000, z_1548, nI_add, pk_mul, pk_sub, nI_clamp, nI_leI, nI_ltI, nI_eq, z_in, z_m1, z_m1b, lg_cmp_eq, z_cmp, Decidable.not_not, w_ie, w_in, w_il, w_le, w_ln, w_li, w_ir, w_lr, z0] at c
      rw [nI_clamp (by omega), z0]
      refine kb_86_56 (fun c2 => ?_) (fun c2 => ?_)
      rotate_left
      · simp (disch := omega) only [z_0, z_1, z_2, z_3, z_4, z_5, z_6, z_7, z_8, z_9, z_10, z_12, z_13, z_20, z_21, z_25, z_56, z_350, z_31, z_32, z_36, z_48, z_57, z_61, z_97, z_100, z_122, z_125, z_126, z_144, z_255, z_700, z_1000, z_1548, nI_add, pk_mul, pk_sub, nI_clamp, nI_leI, nI_ltI, nI_eq, z_in, z_m1, z_m1b, lg_cmp_eq, z_cmp, Decidable.not_not, w_ie, w_in, w_il, w_le, w_ln, w_li, w_ir, w_lr] at c2
        exact open_ (Or.inr c2)
      simp (disch := omega) only [z_0, z_1, z_2, z_3, z_4, z_5, z_6, z_7, z_8, z_9, z_10, z_12, z_13, z_20, z_21, z_25, z_56, z_350, z_31, z_32, z_36, z_48, z_57, z_61, z_97, z_100, z_122, z_125, z_126, z_144, z_255, z_700, z_1000, z_1548, nI_add, pk_mul, pk_sub, nI_clamp, nI_leI, nI_ltI, nI_eq, z_in, z_m1, z_m1b, lg_cmp_eq, z_cmp, Decidable.not_not, w_ie, w_in, w_il, w_le, w_ln, w_li, w_ir, w_lr] at c2
      rw [if_neg (fun r => r.elim c c2)] at he
      have join : (s.1 = 1 ∨ s.1 = 2) → mr_M mj_KK d 86 98 [some (.ref 573), some (.int (nI i)), some (.int out), some (.int (nI (20 * e.1))), some (.int (nI (20 * e.1 + k))), some (.int (nI s.1))] [] h Q := by
        intro q
        rw [if_pos q] at he
        obtain ⟨r, hr, he2⟩ := bd_some he
        obtain ⟨r1, hr1, he3⟩ := bd_some hr
        obtain ⟨u1, u2, u3⟩ := ap_le hr1
        refine kb_86_98 (by first | with_reducible assumption | with_reducible exact kd_M | assumption) (by omega) (s85 (l := s.1) (by omega) H hPi hKn hr1 (fun h2 g1 g2 g3 => ?_))
        have H := g3.rs H
        have p1 := g1.1
        refine kb_86_104 (by first | with_reducible assumption | with_reducible exact kd_M | assumption) (by first | with_reducible assumption | exact rf_M_pile H | assumption) (by first | with_reducible assumption | with_reducible exact kd_M_pile | assumption) (by first | with_reducible assumption | (simp (disch := omega) only [z_0, z_1, z_2, z_3, z_4, z_5, z_6, z_7, z_8, z_9, z_10, z_12, z_13, z_20, z_21, z_25, z_56, z_350, z_31, z_32, z_36, z_48, z_57, z_61, z_97, z_100, z_122, z_125, z_126, z_144, z_255, z_700, z_1000, z_1548, nI_add, pk_mul, pk_sub, nI_clamp, nI_leI, nI_ltI, nI_eq, z_in, z_m1, z_m1b, lg_cmp_eq, z_cmp, Decidable.not_not, w_ie, w_in, w_il, w_le, w_ln, w_li, w_ir, w_lr, p1, ln_P_tape, ln_W_text, ln_W_starts, ln_W_ends, ln_W_lines, ln_W_names, ln_W_values, ln_PL_jobs, ln_PL_parts, ln_FT_reached, ln_EX_jobs, ln_EX_codes, ln_CB_names, ln_CB_values, ln_M_tape, ln_M_source, ln_M_wordAt, ln_M_wordEnd, ln_M_names, ln_M_itemCount, ln_M_itemFirst, ln_M_itemWords, ln_M_itemUses, ln_M_keptAt, ln_M_keptEnd, ln_M_needCount, ln_M_axisCount, ln_M_valueCount, ln_M_needed, ln_M_axes, ln_M_values, ln_M_includes, ln_M_excludes, ln_M_pairCount, ln_M_pairName, ln_M_pairValue, ln_M_signCount, ln_M_signs, ln_M_signName, ln_M_signValue, ln_M_whose, ln_M_which, ln_M_pile, ln_M_reaches, ln_M_stepsOf, ln_M_known, ln_JB_needed, ln_JB_axes, ln_JS_used, ln_JS_stepWords, ln_PS_used, ln_PS_stepWords, ln_IN_rows, ln_EC_rows, ln_IR_names, ln_IR_values, ln_ER_names, ln_ER_values, ln_CD_kinds, ln_CD_names, ln_CD_values, ln_AX_values] <;> omega) | assumption) ?_
        simp (disch := omega) only [p1, w_in, nI_clamp, nI_1]
        obtain ⟨w1, w2, w3⟩ := push r1.1 r1.2 h2 (by omega) (by omega) g1 g2 (by omega)
        refine nx (s.1 :: r1.1) r1.2 _ (by show r1.1.length + 1 ≤ k + 1; omega) (by omega) w1 w2 ((hf.trans g3).trans w3) ?_
        rw [he3]
        exact he2
      refine kb_86_86 (fun c3 => ?_) (fun c3 => kb_86_92 (fun c4 => ?_) (fun c4 => ?_))
      · simp (disch := omega) only [z_0, z_1, z_2, z_3, z_4, z_5, z_6, z_7, z_8, z_9, z_10, z_12, z_13, z_20, z_21, z_25, z_56, z_350, z_31, z_32, z_36, z_48, z_57, z_61, z_97, z_100, z_122, z_125, z_126, z_144, z_255, z_700, z_1000, z_1548, nI_add, pk_mul, pk_sub, nI_clamp, nI_leI, nI_ltI, nI_eq, z_in, z_m1, z_m1b, lg_cmp_eq, z_cmp, Decidable.not_not, w_ie, w_in, w_il, w_le, w_ln, w_li, w_ir, w_lr] at c3
        exact join (Or.inl c3)
      rotate_left
      · simp (disch := omega) only [z_0, z_1, z_2, z_3, z_4, z_5, z_6, z_7, z_8, z_9, z_10, z_12, z_13, z_20, z_21, z_25, z_56, z_350, z_31, z_32, z_36, z_48, z_57, z_61, z_97, z_100, z_122, z_125, z_126, z_144, z_255, z_700, z_1000, z_1548, nI_add, pk_mul, pk_sub, nI_clamp, nI_leI, nI_ltI, nI_eq, z_in, z_m1, z_m1b, lg_cmp_eq, z_cmp, Decidable.not_not, w_ie, w_in, w_il, w_le, w_ln, w_li, w_ir, w_lr] at c4
        exact join (Or.inr c4)
      simp (disch := omega) only [z_0, z_1, z_2, z_3, z_4, z_5, z_6, z_7, z_8, z_9, z_10, z_12, z_13, z_20, z_21, z_25, z_56, z_350, z_31, z_32, z_36, z_48, z_57, z_61, z_97, z_100, z_122, z_125, z_126, z_144, z_255, z_700, z_1000, z_1548, nI_add, pk_mul, pk_sub, nI_clamp, nI_leI, nI_ltI, nI_eq, z_in, z_m1, z_m1b, lg_cmp_eq, z_cmp, Decidable.not_not, w_ie, w_in, w_il, w_le, w_ln, w_li, w_ir, w_lr] at c3 c4
      rw [if_neg (fun r => r.elim c3 c4)] at he
      refine kb_86_128 (fun c5 => ?_) (fun c5 => ?_)
      · simp (disch := omega) only [z_0, z_1, z_2, z_3, z_4, z_5, z_6, z_7, z_8, z_9, z_10, z_12, z_13, z_20, z_21, z_25, z_56, z_350, z_31, z_32, z_36, z_48, z_57, z_61, z_97, z_100, z_122, z_125, z_126, z_144, z_255, z_700, z_1000, z_1548, nI_add, pk_mul, pk_sub, nI_clamp, nI_leI, nI_ltI, nI_eq, z_in, z_m1, z_m1b, lg_cmp_eq, z_cmp, Decidable.not_not, w_ie, w_in, w_il, w_le, w_ln, w_li, w_ir, w_lr] at c5
        rw [if_neg c5] at he
        obtain ⟨r, hr, he2⟩ := bd_some he
        obtain ⟨r1, hr1, he3⟩ := bd_some hr
        obtain ⟨u1, u2, u3⟩ := ap_le hr1
        have u2 : r1.2.length ≤ ks.length + 1 := u2
        have k1 := hKn.1
        refine kb_86_157 (by first | with_reducible assumption | with_reducible exact kd_M | assumption) (by first | with_reducible assumption | exact rf_M_known H | assumption) (by omega) (s84 (s := (s.1 - 6, s.2)) (by omega) H (PlM_e hP hf) ⟨i5, y1, (hf.n (by unfold inMe; omega)).trans e2⟩ ho hV ((hf.l (by unfold inMe; omega)).trans hbr) (by omega) (by rw [z0]; congr 1; show s.1 = s.1 - 6 + 6; omega) z1 z2 (by show s.1 - 6 < 4; omega) (fun q => hnn (by have q : s.1 - 6 = 1 ∨ s.1 - 6 = 2 := q; omega)) ?_)
        rw [k1]
        have H9 := H
        refine kb_86_173 (by first | with_reducible assumption | with_reducible exact kd_M_reaches | with_reducible exact kd_M_known | assumption) (by first | with_reducible assumption | (simp (disch := omega) only [z_0, z_1, z_2, z_3, z_4, z_5, z_6, z_7, z_8, z_9, z_10, z_12, z_13, z_20, z_21, z_25, z_56, z_350, z_31, z_32, z_36, z_48, z_57, z_61, z_97, z_100, z_122, z_125, z_126, z_144, z_255, z_700, z_1000, z_1548, nI_add, pk_mul, pk_sub, nI_clamp, nI_leI, nI_ltI, nI_eq, z_in, z_m1, z_m1b, lg_cmp_eq, z_cmp, Decidable.not_not, w_ie, w_in, w_il, w_le, w_ln, w_li, w_ir, w_lr, k1, ln_P_tape, ln_W_text, ln_W_starts, ln_W_ends, ln_W_lines, ln_W_names, ln_W_values, ln_PL_jobs, ln_PL_parts, ln_FT_reached, ln_EX_jobs, ln_EX_codes, ln_CB_names, ln_CB_values, ln_M_tape, ln_M_source, ln_M_wordAt, ln_M_wordEnd, ln_M_names, ln_M_itemCount, ln_M_itemFirst, ln_M_itemWords, ln_M_itemUses, ln_M_keptAt, ln_M_keptEnd, ln_M_needCount, ln_M_axisCount, ln_M_valueCount, ln_M_needed, ln_M_axes, ln_M_values, ln_M_includes, ln_M_excludes, ln_M_pairCount, ln_M_pairName, ln_M_pairValue, ln_M_signCount, ln_M_signs, ln_M_signName, ln_M_signValue, ln_M_whose, ln_M_which, ln_M_pile, ln_M_reaches, ln_M_stepsOf, ln_M_known, ln_JB_needed, ln_JB_axes, ln_JS_used, ln_JS_stepWords, ln_PS_used, ln_PS_stepWords, ln_IN_rows, ln_EC_rows, ln_IR_names, ln_IR_values, ln_ER_names, ln_ER_values, ln_CD_kinds, ln_CD_names, ln_CD_values, ln_AX_values] <;> omega) | assumption) (by first | with_reducible assumption | with_reducible exact kd_M | assumption) (by omega) ?_
        rw [nI_clamp (by omega), narb]
        generalize tQ P (cmb P e) br out (s.1 - 6, s.2) = z at *
        have k1' : (mj_w h 605 ks.length (.int (b2i z))).1 573 43 = nI ks.length := (w_in (Or.inl (by decide))).trans k1
        rw [k1', nI_1]
        have w : fr (fun a i => (a = 605 ∧ i = ks.length) ∨ (a = 573 ∧ i = 43)) h (mj_w (mj_w h 605 ks.length (.int (b2i z))) 573 43 (.int (nI (ks.length + 1)))) := (fr.wi (P := fun a i => (a = 605 ∧ i = ks.length) ∨ (a = 573 ∧ i = 43)) fr.rfl' (Or.inl ⟨rfl, rfl⟩)).wi (Or.inr ⟨rfl, rfl⟩)
        have wf9 : fr inMe h (mj_w (mj_w h 605 ks.length (.int (b2i z))) 573 43 (.int (nI (ks.length + 1)))) := w.mono (fun a i q => by unfold inMe; omega)
        refine s85 (l := 3) (ks := z :: ks) (by decide) (w.rs H) ⟨(w.n (by omega)).trans hPi.1, hPi.2.1, hPi.2.2.1, hPi.2.2.2.of (fun i hi => w.n (by omega))⟩ ⟨w_ie ⟨rfl, rfl⟩, by show ks.length + 1 ≤ 23; omega, by rw [w_in (by omega), w_ie ⟨rfl, rfl⟩], KnL_of hKn.2.2 (fun i hi => w.n (by omega))⟩ hr1 (fun h2 g1 g2 g3 => ?_)
        refine nx r1.1 r1.2 h2 (by omega) (by omega) g1 g2 ((hf.trans wf9).trans g3) ?_
        rw [he3]
        exact he2
      · simp (disch := omega) only [z_0, z_1, z_2, z_3, z_4, z_5, z_6, z_7, z_8, z_9, z_10, z_12, z_13, z_20, z_21, z_25, z_56, z_350, z_31, z_32, z_36, z_48, z_57, z_61, z_97, z_100, z_122, z_125, z_126, z_144, z_255, z_700, z_1000, z_1548, nI_add, pk_mul, pk_sub, nI_clamp, nI_leI, nI_ltI, nI_eq, z_in, z_m1, z_m1b, lg_cmp_eq, z_cmp, Decidable.not_not, w_ie, w_in, w_il, w_le, w_ln, w_li, w_ir, w_lr] at c5
        rw [if_pos c5] at he
        obtain ⟨r, hr, he2⟩ := bd_some he
        obtain ⟨r1, hr1, he3⟩ := bd_some hr
        obtain ⟨u1, u2, u3⟩ := ap_le hr1
        match hq : r1.1, he3 with
        | [], he3 => cases he3
        | o :: π3, he3 =>
          obtain ⟨r2, hr2, he4⟩ := bd_some he3
          obtain ⟨v1, v2, v3⟩ := ap_le hr2
          rw [hq] at u1
          have u1 : π3.length + 1 ≤ π.length := u1
          refine kb_86_134 (by first | with_reducible assumption | with_reducible exact kd_M | assumption) (by omega) (s85 (l := 1) (by decide) H hPi hKn hr1 (fun h2 g1 g2 g3 => ?_))
          rw [hq] at g1
          have H := g3.rs H
          have p1 : h2.1 573 38 = nI (π3.length + 1) := g1.1
          have es1 : h2.1 573 38 - 1 = nI π3.length := by rw [p1, show (1 : Int32) = nI 1 from rfl, pk_sub (by omega), Nat.add_sub_cancel]
          refine kb_86_139 (by first | with_reducible assumption | with_reducible exact kd_M | assumption) (by omega) ?_
          rw [es1]
          have w : fr (fun a i => a = 573 ∧ i = 38) h2 (mj_w h2 573 38 (.int (nI π3.length))) := fr.wi (P := fun a i => a = 573 ∧ i = 38) fr.rfl' ⟨rfl, rfl⟩
          refine s85 (l := 3) (by decide) (w.rs H) ⟨w_ie ⟨rfl, rfl⟩, by have := g1.2.1; have : π3.length + 1 ≤ 23 := this; omega, fun x hx => g1.2.2.1 x (List.mem_cons_of_mem _ hx), g1.2.2.2.2.of (fun i hi => w.n (by omega))⟩ ⟨(w.n (by omega)).trans g2.1, g2.2.1, KnL_of g2.2.2 (fun i hi => w.n (by omega))⟩ hr2 (fun h3 f1 f2 f3 => kb_86_154 ?_)
          refine nx r2.1 r2.2 h3 (by omega) (by omega) f1 f2 (((hf.trans g3).trans (w.mono (fun a i q => by unfold inMe; omega))).trans f3) ?_
          rw [he4]
          exact he2
  have w0 : fr inMe h0 (mj_w (mj_w h0 573 38 (.int 0)) 573 43 (.int 0)) := (fr.wi (P := inMe) fr.rfl' (by unfold inMe; omega)).wi (by unfold inMe; omega)
  exact loop t.length 0 [] [] _ (by omega) (Nat.le_refl 0) (Nat.le_refl 0) ⟨by rw [w_in (by omega), w_ie ⟨rfl, rfl⟩]; rfl, by decide, fun x hx => absurd hx List.not_mem_nil, trivial⟩ ⟨w_ie ⟨rfl, rfl⟩, by decide, trivial⟩ w0 hv
end
