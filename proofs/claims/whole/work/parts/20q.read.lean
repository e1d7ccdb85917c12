-- ===== reading: the reference's, and the class's loop =====
def inK : Nat → Nat → Prop := fun a i => (a = 573 ∧ (i = 9 ∨ i = 10 ∨ i = 18 ∨ i = 34)) ∨ a = 579 ∨ a = 585 ∨ a = 586 ∨ a = 591 ∨ a = 592 ∨ a = 596
/-- clear -/
theorem s35 {d : Nat} {h0 : mj_H} {Q : Option Value → mj_H → Prop} {W : List Wt} (H0 : mj_RS h0) (k : ∀ h', PlM h' W 0 P0 → h'.1 573 34 = nI 0 → fr inK h0 h' → Q none h') : mr_C mj_KK d 35 [.ref 573] h0 Q := by
  show mr_M mj_KK d 35 0 [some (.ref 573), none] [] h0 Q
  refine kb_35_0 (by first | with_reducible assumption | with_reducible exact kd_M | assumption) ?_
  have g0 : fr inK h0 (mj_w (mj_w (mj_w (mj_w h0 573 9 (.int 0)) 573 10 (.int 0)) 573 18 (.int 0)) 573 34 (.int 0)) := (((fr.wi (P := inK) fr.rfl' (by unfold inK; omega)).wi (by unfold inK; omega)).wi (by unfold inK; omega)).wi (by unfold inK; omega)
  have loop2 : ∀ m i (h : mj_H), i + m = 12 → fr inK h0 h → (h.1 573 9 = nI 0 ∧ h.1 573 10 = nI 0 ∧ h.1 573 18 = nI 0 ∧ h.1 573 34 = nI 0) → (∀ k, k < 20 → h.1 579 k = nI 0) → (∀ j, j < i → h.1 585 j = nI 0 ∧ h.1 586 j = nI 0 ∧ h.1 591 j = nI 0 ∧ h.1 592 j = nI 0 ∧ h.1 596 j = nI 0) → mr_M mj_KK d 35 43 [some (.ref 573), some (.int (nI i))] [] h Q := by
    intro m
    induction m with
    | zero =>
      intro i h hi hf hz h20 hj
      refine kb_35_43 (fun _ => kb_35_90 (k h ⟨⟨hz.1, by decide, hz.2.1, by decide, hz.2.2.1⟩, fun j q => absurd q (Nat.not_lt_zero j), fun j q => absurd q (Nat.not_lt_zero j), fun k hk => ⟨h20 k hk, Nat.zero_le _, fun i q => absurd q (Nat.not_lt_zero i)⟩, fun j hj2 => ?_⟩ hz.2.2.2 hf)) (fun c => (by simp (disch := omega) only [z_0, z_1, z_2, z_3, z_4, z_5, z_6, z_7, z_8, z_9, z_10, z_12, z_13, z_20, z_21, z_25, z_56, z_350, z_31, z_32, z_36, z_48, z_57, z_61, z_97, z_100, z_122, z_125, z_126, z_144, z_255, z_700, z_1000, z_1548, nI_add, pk_mul, pk_sub, nI_clamp, nI_leI, nI_ltI, nI_eq, z_in, z_m1, z_m1b, lg_cmp_eq, z_cmp, Decidable.not_not, w_ie, w_in, w_il, w_le, w_ln, w_li, w_ir, w_lr] at c; exfalso; omega))
      obtain ⟨b1, b2, b3, b4, b5⟩ := hj j (by omega)
      exact ⟨⟨b1, Nat.zero_le _, Lh.nil⟩, ⟨b2, Nat.zero_le _, fun i q => absurd q (Nat.not_lt_zero i)⟩, ⟨b3, Nat.zero_le _, fun i q => absurd q (Nat.not_lt_zero i)⟩, ⟨b4, Nat.zero_le _, fun i q => absurd q (Nat.not_lt_zero i)⟩, ⟨b5, Nat.zero_le _, fun i q => absurd q (Nat.not_lt_zero i)⟩⟩
    | succ m ih =>
      intro i h hi hf hz h20 hj
      have H := hf.rs H0
      refine kb_35_43 (fun c => (by simp (disch := omega) only [z_0, z_1, z_2, z_3, z_4, z_5, z_6, z_7, z_8, z_9, z_10, z_12, z_13, z_20, z_21, z_25, z_56, z_350, z_31, z_32, z_36, z_48, z_57, z_61, z_97, z_100, z_122, z_125, z_126, z_144, z_255, z_700, z_1000, z_1548, nI_add, pk_mul, pk_sub, nI_clamp, nI_leI, nI_ltI, nI_eq, z_in, z_m1, z_m1b, lg_cmp_eq, z_cmp, Decidable.not_not, w_ie, w_in, w_il, w_le, w_ln, w_li, w_ir, w_lr] at c; exfalso; omega)) (fun _ => kb_35_49 (by first | with_reducible assumption | with_reducible exact kd_M | assumption) (by first | with_reducible assumption | exact rf_M_needCount H | assumption) (by first | with_reducible assumption | with_reducible exact kd_M_needCount | assumption) (by first | with_reducible assumption | (simp (disch := omega) only [z_0, z_1, z_2, z_3, z_4, z_5, z_6, z_7, z_8, z_9, z_10, z_12, z_13, z_20, z_21, z_25, z_56, z_350, z_31, z_32, z_36, z_48, z_57, z_61, z_97, z_100, z_122, z_125, z_126, z_144, z_255, z_700, z_1000, z_1548, nI_add, pk_mul, pk_sub, nI_clamp, nI_leI, nI_ltI, nI_eq, z_in, z_m1, z_m1b, lg_cmp_eq, z_cmp, Decidable.not_not, w_ie, w_in, w_il, w_le, w_ln, w_li, w_ir, w_lr, ln_P_tape, ln_W_text, ln_W_starts, ln_W_ends, ln_W_lines, ln_W_names, ln_W_values, ln_PL_jobs, ln_PL_parts, ln_FT_reached, ln_EX_jobs, ln_EX_codes, ln_CB_names, ln_CB_values, ln_M_tape, ln_M_source, ln_M_wordAt, ln_M_wordEnd, ln_M_names, ln_M_itemCount, ln_M_itemFirst, ln_M_itemWords, ln_M_itemUses, ln_M_keptAt, ln_M_keptEnd, ln_M_needCount, ln_M_axisCount, ln_M_valueCount, ln_M_needed, ln_M_axes, ln_M_values, ln_M_includes, ln_M_excludes, ln_M_pairCount, ln_M_pairName, ln_M_pairValue, ln_M_signCount, ln_M_signs, ln_M_signName, ln_M_signValue, ln_M_whose, ln_M_which, ln_M_pile, ln_M_reaches, ln_M_stepsOf, ln_M_known, ln_JB_needed, ln_JB_axes, ln_JS_used, ln_JS_stepWords, ln_PS_used, ln_PS_stepWords, ln_IN_rows, ln_EC_rows, ln_IR_names, ln_IR_values, ln_ER_names, ln_ER_values, ln_CD_kinds, ln_CD_names, ln_CD_values, ln_AX_values] <;> omega) | assumption) (by first | with_reducible assumption | exact rf_M_axisCount H | assumption) (by first | with_reducible assumption | with_reducible exact kd_M_axisCount | assumption) (by first | with_reducible assumption | (simp (disch := omega) only [z_0, z_1, z_2, z_3, z_4, z_5, z_6, z_7, z_8, z_9, z_10, z_12, z_13, z_20, z_21, z_25, z_56, z_350, z_31, z_32, z_36, z_48, z_57, z_61, z_97, z_100, z_122, z_125, z_126, z_144, z_255, z_700, z_1000, z_1548, nI_add, pk_mul, pk_sub, nI_clamp, nI_leI, nI_ltI, nI_eq, z_in, z_m1, z_m1b, lg_cmp_eq, z_cmp, Decidable.not_not, w_ie, w_in, w_il, w_le, w_ln, w_li, w_ir, w_lr, ln_P_tape, ln_W_text, ln_W_starts, ln_W_ends, ln_W_lines, ln_W_names, ln_W_values, ln_PL_jobs, ln_PL_parts, ln_FT_reached, ln_EX_jobs, ln_EX_codes, ln_CB_names, ln_CB_values, ln_M_tape, ln_M_source, ln_M_wordAt, ln_M_wordEnd, ln_M_names, ln_M_itemCount, ln_M_itemFirst, ln_M_itemWords, ln_M_itemUses, ln_M_keptAt, ln_M_keptEnd, ln_M_needCount, ln_M_axisCount, ln_M_valueCount, ln_M_needed, ln_M_axes, ln_M_values, ln_M_includes, ln_M_excludes, ln_M_pairCount, ln_M_pairName, ln_M_pairValue, ln_M_signCount, ln_M_signs, ln_M_signName, ln_M_signValue, ln_M_whose, ln_M_which, ln_M_pile, ln_M_reaches, ln_M_stepsOf, ln_M_known, ln_JB_needed, ln_JB_axes, ln_JS_used, ln_JS_stepWords, ln_PS_used, ln_PS_stepWords, ln_IN_rows, ln_EC_rows, ln_IR_names, ln_IR_values, ln_ER_names, ln_ER_values, ln_CD_kinds, ln_CD_names, ln_CD_values, ln_AX_values] <;> omega) | assumption) (by first | with_reducible assumption | exact rf_M_includes H | assumption) (by first | with_reducible assumption | with_reducible exact kd_M_includes | assumption) (by first | with_reducible assumption | (simp (disch := omega) only [z_0, z_1, z_2, z_3, z_4, z_5, z_6, z_7, z_8, z_9, z_10, z_12, z_13, z_20, z_21, z_25, z_56, z_350, z_31, z_32, z_36, z_48, z_57, z_61, z_97, z_100, z_122, z_125, z_126, z_144, z_255, z_700, z_1000, z_1548, nI_add, pk_mul, pk_sub, nI_clamp, nI_leI, nI_ltI, nI_eq, z_in, z_m1, z_m1b, lg_cmp_eq, z_cmp, Decidable.not_not, w_ie, w_in, w_il, w_le, w_ln, w_li, w_ir, w_lr, ln_P_tape, ln_W_text, ln_W_starts, ln_W_ends, ln_W_lines, ln_W_names, ln_W_values, ln_PL_jobs, ln_PL_parts, ln_FT_reached, ln_EX_jobs, ln_EX_codes, ln_CB_names, ln_CB_values, ln_M_tape, ln_M_source, ln_M_wordAt, ln_M_wordEnd, ln_M_names, ln_M_itemCount, ln_M_itemFirst, ln_M_itemWords, ln_M_itemUses, ln_M_keptAt, ln_M_keptEnd, ln_M_needCount, ln_M_axisCount, ln_M_valueCount, ln_M_needed, ln_M_axes, ln_M_values, ln_M_includes, ln_M_excludes, ln_M_pairCount, ln_M_pairName, ln_M_pairValue, ln_M_signCount, ln_M_signs, ln_M_signName, ln_M_signValue, ln_M_whose, ln_M_which, ln_M_pile, ln_M_reaches, ln_M_stepsOf, ln_M_known, ln_JB_needed, ln_JB_axes, ln_JS_used, ln_JS_stepWords, ln_PS_used, ln_PS_stepWords, ln_IN_rows, ln_EC_rows, ln_IR_names, ln_IR_values, ln_ER_names, ln_ER_values, ln_CD_kinds, ln_CD_names, ln_CD_values, ln_AX_values] <;> omega) | assumption) (by first | with_reducible assumption | exact rf_M_excludes H | assumption) (by first | with_reducible assumption | with_reducible exact kd_M_excludes | assumption) (by first | with_reducible assumption | (simp (disch := omega) only [z_0, z_1, z_2, z_3, z_4, z_5, z_6, z_7, z_8, z_9, z_10, z_12, z_13, z_20, z_21, z_25, z_56, z_350, z_31, z_32, z_36, z_48, z_57, z_61, z_97, z_100, z_122, z_125, z_126, z_144, z_255, z_700, z_1000, z_1548, nI_add, pk_mul, pk_sub, nI_clamp, nI_leI, nI_ltI, nI_eq, z_in, z_m1, z_m1b, lg_cmp_eq, z_cmp, Decidable.not_not, w_ie, w_in, w_il, w_le, w_ln, w_li, w_ir, w_lr, ln_P_tape, ln_W_text, ln_W_starts, ln_W_ends, ln_W_lines, ln_W_names, ln_W_values, ln_PL_jobs, ln_PL_parts, ln_FT_reached, ln_EX_jobs, ln_EX_codes, ln_CB_names, ln_CB_values, ln_M_tape, ln_M_source, ln_M_wordAt, ln_M_wordEnd, ln_M_names, ln_M_itemCount, ln_M_itemFirst, ln_M_itemWords, ln_M_itemUses, ln_M_keptAt, ln_M_keptEnd, ln_M_needCount, ln_M_axisCount, ln_M_valueCount, ln_M_needed, ln_M_axes, ln_M_values, ln_M_includes, ln_M_excludes, ln_M_pairCount, ln_M_pairName, ln_M_pairValue, ln_M_signCount, ln_M_signs, ln_M_signName, ln_M_signValue, ln_M_whose, ln_M_which, ln_M_pile, ln_M_reaches, ln_M_stepsOf, ln_M_known, ln_JB_needed, ln_JB_axes, ln_JS_used, ln_JS_stepWords, ln_PS_used, ln_PS_stepWords, ln_IN_rows, ln_EC_rows, ln_IR_names, ln_IR_values, ln_ER_names, ln_ER_values, ln_CD_kinds, ln_CD_names, ln_CD_values, ln_AX_values] <;> omega) | assumption) (by first | with_reducible assumption | exact rf_M_signCount H | assumption) (by first | with_reducible assumption | with_reducible exact kd_M_signCount | assumption) (by first | with_reducible assumption | (simp (disch := omega) only [z_0, z_1, z_2, z_3, z_4, z_5, z_6, z_7, z_8, z_9, z_10, z_12, z_13, z_20, z_21, z_25, z_56, z_350, z_31, z_32, z_36, z_48, z_57, z_61, z_97, z_100, z_122, z_125, z_126, z_144, z_255, z_700, z_1000, z_1548, nI_add, pk_mul, pk_sub, nI_clamp, nI_leI, nI_ltI, nI_eq, z_in, z_m1, z_m1b, lg_cmp_eq, z_cmp, Decidable.not_not, w_ie, w_in, w_il, w_le, w_ln, w_li, w_ir, w_lr, ln_P_tape, ln_W_text, ln_W_starts, ln_W_ends, ln_W_lines, ln_W_names, ln_W_values, ln_PL_jobs, ln_PL_parts, ln_FT_reached, ln_EX_jobs, ln_EX_codes, ln_CB_names, ln_CB_values, ln_M_tape, ln_M_source, ln_M_wordAt, ln_M_wordEnd, ln_M_names, ln_M_itemCount, ln_M_itemFirst, ln_M_itemWords, ln_M_itemUses, ln_M_keptAt, ln_M_keptEnd, ln_M_needCount, ln_M_axisCount, ln_M_valueCount, ln_M_needed, ln_M_axes, ln_M_values, ln_M_includes, ln_M_excludes, ln_M_pairCount, ln_M_pairName, ln_M_pairValue, ln_M_signCount, ln_M_signs, ln_M_signName, ln_M_signValue, ln_M_whose, ln_M_which, ln_M_pile, ln_M_reaches, ln_M_stepsOf, ln_M_known, ln_JB_needed, ln_JB_axes, ln_JS_used, ln_JS_stepWords, ln_PS_used, ln_PS_stepWords, ln_IN_rows, ln_EC_rows, ln_IR_names, ln_IR_values, ln_ER_names, ln_ER_values, ln_CD_kinds, ln_CD_names, ln_CD_values, ln_AX_values] <;> omega) | assumption) ?_)
      rw [nI_1, nI_clamp (by omega)]
      have g : fr (fun a i2 => (a = 585 ∨ a = 586 ∨ a = 591 ∨ a = 592 ∨ a = 596) ∧ i2 = i) h (mj_w (mj_w (mj_w (mj_w (mj_w h 585 i (.int 0)) 586 i (.int 0)) 591 i (.int 0)) 592 i (.int 0)) 596 i (.int 0)) := ((((fr.wi (P := fun a i2 => (a = 585 ∨ a = 586 ∨ a = 591 ∨ a = 592 ∨ a = 596) ∧ i2 = i) fr.rfl' (by omega)).wi (by omega)).wi (by omega)).wi (by omega)).wi (by omega)
      refine ih (i + 1) _ (by omega) (hf.trans (g.mono (fun a i q => by unfold inK; omega))) ⟨(g.n (by omega)).trans hz.1, (g.n (by omega)).trans hz.2.1, (g.n (by omega)).trans hz.2.2.1, (g.n (by omega)).trans hz.2.2.2⟩ (fun k hk => (g.n (by omega)).trans (h20 k hk)) (fun j hj2 => ?_)
      rcases Nat.lt_or_ge j i with v | v
      · obtain ⟨b1, b2, b3, b4, b5⟩ := hj j v
        exact ⟨(g.n (by omega)).trans b1, (g.n (by omega)).trans b2, (g.n (by omega)).trans b3, (g.n (by omega)).trans b4, (g.n (by omega)).trans b5⟩
      · have e : j = i := by omega
        subst e
        exact ⟨by simp (disch := omega) only [z_0, z_1, z_2, z_3, z_4, z_5, z_6, z_7, z_8, z_9, z_10, z_12, z_13, z_20, z_21, z_25, z_56, z_350, z_31, z_32, z_36, z_48, z_57, z_61, z_97, z_100, z_122, z_125, z_126, z_144, z_255, z_700, z_1000, z_1548, nI_add, pk_mul, pk_sub, nI_clamp, nI_leI, nI_ltI, nI_eq, z_in, z_m1, z_m1b, lg_cmp_eq, z_cmp, Decidable.not_not, w_ie, w_in, w_il, w_le, w_ln, w_li, w_ir, w_lr], by simp (disch := omega) only [z_0, z_1, z_2, z_3, z_4, z_5, z_6, z_7, z_8, z_9, z_10, z_12, z_13, z_20, z_21, z_25, z_56, z_350, z_31, z_32, z_36, z_48, z_57, z_61, z_97, z_100, z_122, z_125, z_126, z_144, z_255, z_700, z_1000, z_1548, nI_add, pk_mul, pk_sub, nI_clamp, nI_leI, nI_ltI, nI_eq, z_in, z_m1, z_m1b, lg_cmp_eq, z_cmp, Decidable.not_not, w_ie, w_in, w_il, w_le, w_ln, w_li, w_ir, w_lr], by simp (disch := omega) only [z_0, z_1, z_2, z_3, z_4, z_5, z_6, z_7, z_8, z_9, z_10, z_12, z_13, z_20, z_21, z_25, z_56, z_350, z_31, z_32, z_36, z_48, z_57, z_61, z_97, z_100, z_122, z_125, z_126, z_144, z_255, z_700, z_1000, z_1548, nI_add, pk_mul, pk_sub, nI_clamp, nI_leI, nI_ltI, nI_eq, z_in, z_m1, z_m1b, lg_cmp_eq, z_cmp, Decidable.not_not, w_ie, w_in, w_il, w_le, w_ln, w_li, w_ir, w_lr], by simp (disch := omega) only [z_0, z_1, z_2, z_3, z_4, z_5, z_6, z_7, z_8, z_9, z_10, z_12, z_13, z_20, z_21, z_25, z_56, z_350, z_31, z_32, z_36, z_48, z_57, z_61, z_97, z_100, z_122, z_125, z_126, z_144, z_255, z_700, z_1000, z_1548, nI_add, pk_mul, pk_sub, nI_clamp, nI_leI, nI_ltI, nI_eq, z_in, z_m1, z_m1b, lg_cmp_eq, z_cmp, Decidable.not_not, w_ie, w_in, w_il, w_le, w_ln, w_li, w_ir, w_lr], by simp (disch := omega) only [z_0, z_1, z_2, z_3, z_4, z_5, z_6, z_7, z_8, z_9, z_10, z_12, z_13, z_20, z_21, z_25, z_56, z_350, z_31, z_32, z_36, z_48, z_57, z_61, z_97, z_100, z_122, z_125, z_126, z_144, z_255, z_700, z_1000, z_1548, nI_add, pk_mul, pk_sub, nI_clamp, nI_leI, nI_ltI, nI_eq, z_in, z_m1, z_m1b, lg_cmp_eq, z_cmp, Decidable.not_not, w_ie, w_in, w_il, w_le, w_ln, w_li, w_ir, w_lr]⟩
  have loop1 : ∀ m i (h : mj_H), i + m = 20 → fr inK h0 h → (h.1 573 9 = nI 0 ∧ h.1 573 10 = nI 0 ∧ h.1 573 18 = nI 0 ∧ h.1 573 34 = nI 0) → (∀ k, k < i → h.1 579 k = nI 0) → mr_M mj_KK d 35 22 [some (.ref 573), some (.int (nI i))] [] h Q := by
    intro m
    induction m with
    | zero =>
      intro i h hi hf hz h20
      exact kb_35_22 (fun _ => kb_35_41 (loop2 12 0 h rfl hf hz (fun k hk => h20 k (by omega)) (fun j q => absurd q (Nat.not_lt_zero j)))) (fun c => (by simp (disch := omega) only [z_0, z_1, z_2, z_3, z_4, z_5, z_6, z_7, z_8, z_9, z_10, z_12, z_13, z_20, z_21, z_25, z_56, z_350, z_31, z_32, z_36, z_48, z_57, z_61, z_97, z_100, z_122, z_125, z_126, z_144, z_255, z_700, z_1000, z_1548, nI_add, pk_mul, pk_sub, nI_clamp, nI_leI, nI_ltI, nI_eq, z_in, z_m1, z_m1b, lg_cmp_eq, z_cmp, Decidable.not_not, w_ie, w_in, w_il, w_le, w_ln, w_li, w_ir, w_lr] at c; exfalso; omega))
    | succ m ih =>
      intro i h hi hf hz h20
      have H := hf.rs H0
      refine kb_35_22 (fun c => (by simp (disch := omega) only [z_0, z_1, z_2, z_3, z_4, z_5, z_6, z_7, z_8, z_9, z_10, z_12, z_13, z_20, z_21, z_25, z_56, z_350, z_31, z_32, z_36, z_48, z_57, z_61, z_97, z_100, z_122, z_125, z_126, z_144, z_255, z_700, z_1000, z_1548, nI_add, pk_mul, pk_sub, nI_clamp, nI_leI, nI_ltI, nI_eq, z_in, z_m1, z_m1b, lg_cmp_eq, z_cmp, Decidable.not_not, w_ie, w_in, w_il, w_le, w_ln, w_li, w_ir, w_lr] at c; exfalso; omega)) (fun _ => kb_35_28 (by first | with_reducible assumption | with_reducible exact kd_M | assumption) (by first | with_reducible assumption | exact rf_M_itemCount H | assumption) (by first | with_reducible assumption | with_reducible exact kd_M_itemCount | assumption) (by first | with_reducible assumption | (simp (disch := omega) only [z_0, z_1, z_2, z_3, z_4, z_5, z_6, z_7, z_8, z_9, z_10, z_12, z_13, z_20, z_21, z_25, z_56, z_350, z_31, z_32, z_36, z_48, z_57, z_61, z_97, z_100, z_122, z_125, z_126, z_144, z_255, z_700, z_1000, z_1548, nI_add, pk_mul, pk_sub, nI_clamp, nI_leI, nI_ltI, nI_eq, z_in, z_m1, z_m1b, lg_cmp_eq, z_cmp, Decidable.not_not, w_ie, w_in, w_il, w_le, w_ln, w_li, w_ir, w_lr, ln_P_tape, ln_W_text, ln_W_starts, ln_W_ends, ln_W_lines, ln_W_names, ln_W_values, ln_PL_jobs, ln_PL_parts, ln_FT_reached, ln_EX_jobs, ln_EX_codes, ln_CB_names, ln_CB_values, ln_M_tape, ln_M_source, ln_M_wordAt, ln_M_wordEnd, ln_M_names, ln_M_itemCount, ln_M_itemFirst, ln_M_itemWords, ln_M_itemUses, ln_M_keptAt, ln_M_keptEnd, ln_M_needCount, ln_M_axisCount, ln_M_valueCount, ln_M_needed, ln_M_axes, ln_M_values, ln_M_includes, ln_M_excludes, ln_M_pairCount, ln_M_pairName, ln_M_pairValue, ln_M_signCount, ln_M_signs, ln_M_signName, ln_M_signValue, ln_M_whose, ln_M_which, ln_M_pile, ln_M_reaches, ln_M_stepsOf, ln_M_known, ln_JB_needed, ln_JB_axes, ln_JS_used, ln_JS_stepWords, ln_PS_used, ln_PS_stepWords, ln_IN_rows, ln_EC_rows, ln_IR_names, ln_IR_values, ln_ER_names, ln_ER_values, ln_CD_kinds, ln_CD_names, ln_CD_values, ln_AX_values] <;> omega) | assumption) ?_)
      rw [nI_1, nI_clamp (by omega)]
      have g : fr (fun a i2 => a = 579 ∧ i2 = i) h (mj_w h 579 i (.int 0)) := fr.wi (P := fun a i2 => a = 579 ∧ i2 = i) fr.rfl' ⟨rfl, rfl⟩
      refine ih (i + 1) _ (by omega) (hf.trans (g.mono (fun a i q => by unfold inK; omega))) ⟨(g.n (by omega)).trans hz.1, (g.n (by omega)).trans hz.2.1, (g.n (by omega)).trans hz.2.2.1, (g.n (by omega)).trans hz.2.2.2⟩ (fun j hj2 => ?_)
      rcases Nat.lt_or_ge j i with v | v
      · exact (g.n (by omega)).trans (h20 j v)
      · have e : j = i := by omega
        subst e
        simp (disch := omega) only [z_0, z_1, z_2, z_3, z_4, z_5, z_6, z_7, z_8, z_9, z_10, z_12, z_13, z_20, z_21, z_25, z_56, z_350, z_31, z_32, z_36, z_48, z_57, z_61, z_97, z_100, z_122, z_125, z_126, z_144, z_255, z_700, z_1000, z_1548, nI_add, pk_mul, pk_sub, nI_clamp, nI_leI, nI_ltI, nI_eq, z_in, z_m1, z_m1b, lg_cmp_eq, z_cmp, Decidable.not_not, w_ie, w_in, w_il, w_le, w_ln, w_li, w_ir, w_lr]
  exact loop1 20 0 _ rfl g0 ⟨by simp (disch := omega) only [z_0, z_1, z_2, z_3, z_4, z_5, z_6, z_7, z_8, z_9, z_10, z_12, z_13, z_20, z_21, z_25, z_56, z_350, z_31, z_32, z_36, z_48, z_57, z_61, z_97, z_100, z_122, z_125, z_126, z_144, z_255, z_700, z_1000, z_1548, nI_add, pk_mul, pk_sub, nI_clamp, nI_leI, nI_ltI, nI_eq, z_in, z_m1, z_m1b, lg_cmp_eq, z_cmp, Decidable.not_not, w_ie, w_in, w_il, w_le, w_ln, w_li, w_ir, w_lr], by simp (disch := omega) only [z_0, z_1, z_2, z_3, z_4, z_5, z_6, z_7, z_8, z_9, z_10, z_12, z_13, z_20, z_21, z_25, z_56, z_350, z_31, z_32, z_36, z_48, z_57, z_61, z_97, z_100, z_122, z_125, z_126, z_144, z_255, z_700, z_1000, z_1548, nI_add, pk_mul, pk_sub, nI_clamp, nI_leI, nI_ltI, nI_eq, z_in, z_m1, z_m1b, lg_cmp_eq, z_cmp, Decidable.not_not, w_ie, w_in, w_il, w_le, w_ln, w_li, w_ir, w_lr], by simp (disch := omega) only [z_0, z_1, z_2, z_3, z_4, z_5, z_6, z_7, z_8, z_9, z_10, z_12, z_13, z_20, z_21, z_25, z_56, z_350, z_31, z_32, z_36, z_48, z_57, z_61, z_97, z_100, z_122, z_125, z_126, z_144, z_255, z_700, z_1000, z_1548, nI_add, pk_mul, pk_sub, nI_clamp, nI_leI, nI_ltI, nI_eq, z_in, z_m1, z_m1b, lg_cmp_eq, z_cmp, Decidable.not_not, w_ie, w_in, w_il, w_le, w_ln, w_li, w_ir, w_lr], by simp (disch := omega) only [z_0, z_1, z_2, z_3, z_4, z_5, z_6, z_7, z_8, z_9, z_10, z_12, z_13, z_20, z_21, z_25, z_56, z_350, z_31, z_32, z_36, z_48, z_57, z_61, z_97, z_100, z_122, z_125, z_126, z_144, z_255, z_700, z_1000, z_1548, nI_add, pk_mul, pk_sub, nI_clamp, nI_leI, nI_ltI, nI_eq, z_in, z_m1, z_m1b, lg_cmp_eq, z_cmp, Decidable.not_not, w_ie, w_in, w_il, w_le, w_ln, w_li, w_ir, w_lr]⟩ (fun k q => absurd q (Nat.not_lt_zero k))
theorem getD_r {α : Type} {xs ys : List α} {x : α} {i : Nat} : (xs ++ ys).getD (xs.length + i) x = ys.getD i x := by
  rw [List.getD_eq_getElem?_getD, List.getElem?_append_right (Nat.le_add_right _ _), List.getD_eq_getElem?_getD, Nat.add_sub_cancel_left]
theorem getD_l {α : Type} {xs ys : List α} {x : α} {i : Nat} (h : i < xs.length) : (xs ++ ys).getD i x = xs.getD i x := by
  rw [List.getD_eq_getElem?_getD, List.getElem?_append_left h, List.getD_eq_getElem?_getD]
theorem isL_of {W pre V rest : List Wt} {l : Nat} (hW : W = pre ++ (V ++ rest)) (h0 : 0 < V.length) (hV : ∀ t ∈ V, t.2.2 = l) (hr : ∀ t ∈ rest, l + 1 ≤ t.2.2) : isL W pre.length V.length ∧ lnW W pre.length = l := by
  have e1 : ∀ i, i < V.length → lnW W (pre.length + i) = l := by
    intro i hi
    unfold lnW
    rw [hW, getD_r, getD_l hi]
    exact hV _ (getD_mem hi)
  have e0 : lnW W pre.length = l := by
    have := e1 0 h0
    rw [Nat.add_zero] at this
    exact this
  refine ⟨⟨h0, ?_, fun i hi => by rw [e1 i hi, e0], ?_⟩, e0⟩
  · rw [hW, List.length_append, List.length_append]
    omega
  · match rest, hr, hW with
    | [], hr, hW =>
      left
      rw [hW, List.append_nil, List.length_append]
    | t :: r, hr, hW =>
      right
      have : lnW W (pre.length + V.length) = t.2.2 := by
        unfold lnW
        rw [hW, getD_r, ← Nat.add_zero V.length, getD_r]
        rfl
      rw [this, e0]
      have := hr t List.mem_cons_self
      omega
/-- the words of a text are words -/
theorem wks_ws {X : Nat → Int32} {L : Nat} (ht : ∀ i, i < L → tch2 (X i)) : wks X (ws X 0 0 0 L) := by
  intro w hw
  exact (ws_ok (Nat.le_refl 0) (fun i h1 h2 => absurd h2 (Nat.not_lt_zero i)) (fun i h1 h2 => ht i (by omega)) (getD_mem hw)).2.2
def inRd : Nat → Nat → Prop := fun a i => (a = 573 ∧ ¬ i = 4) ∨ (575 ≤ a ∧ a ≤ 602)
/-- the reference's read -/
theorem s51 {d L : Nat} {h0 : mj_H} {Q : Option Value → mj_H → Prop} {X : Nat → Int32} {W : List Wt} (hd : 9 ≤ d) (H0 : mj_RS h0) (hL : L ≤ 700) (h2 : h0.1 573 2 = nI L) (hX : ∀ i, i < L → h0.1 574 i = X i) (ht : ∀ i, i < L → tch2 (X i)) (hW : W = ws X 0 0 0 L) (hW5 : W.length ≤ 350)
    (kI : ∀ l, rdA X W L (L + 1) 0 0 0 P0 = .inl l → ∀ h', PlM h' W 0 P0 → h'.1 573 34 = nI 0 → h'.1 573 2 = nI 0 → (∀ i, i < L → h'.1 575 i = X i) → fr inRd h0 h' → Q (some (.int (-1 - nI l))) h')
    (kP : ∀ P, rdA X W L (L + 1) 0 0 0 P0 = .inr P → VP W P → ∀ h' kept, kept ≤ 350 → PlM h' W kept P → h'.1 573 34 = nI 0 → h'.1 573 2 = nI 0 → (∀ i, i < L → h'.1 575 i = X i) → fr inRd h0 h' → Q (some (.int (nI P.nj))) h') : mr_C mj_KK d 51 [.ref 573] h0 Q := by
  show mr_M mj_KK d 51 0 [some (.ref 573), none, none, none] [] h0 Q
  have H := H0
  have hk : wks X W := by rw [hW]; exact wks_ws ht
  refine kb_51_0 (by first | with_reducible assumption | with_reducible exact kd_M | assumption) (by omega) (s35 (W := W) H (fun h1 p1 p2 p3 => ?_))
  have q2 : h1.1 573 2 = nI L := (p3.n (by unfold inK; omega)).trans h2
  have H := p3.rs H0
  refine kb_51_4 (by first | with_reducible assumption | with_reducible exact kd_M | assumption) ?_
  rw [q2]
  have f1 : fr inRd h0 (mj_w h1 573 3 (.int (nI L))) := (p3.mono (fun a i q => by unfold inK at q; unfold inRd; omega)).wi (by unfold inRd; omega)
  have g1 : fr (fun a i => a = 573 ∧ i = 3) h1 (mj_w h1 573 3 (.int (nI L))) := fr.wi (P := fun a i => a = 573 ∧ i = 3) fr.rfl' ⟨rfl, rfl⟩
  -- PlM under changes elsewhere
  have plm : ∀ {R : Nat → Nat → Prop} {h h' : mj_H} {kept : Nat} {P : mj_P}, PlM h W kept P → fr R h h' → (∀ a i, R a i → (a = 573 ∧ (i = 2 ∨ i = 3 ∨ i = 7 ∨ i = 8)) ∨ a = 575 ∨ a = 576 ∨ a = 577) → PlM h' W kept P := by
    intro R h h' kept P A f m
    have n1 : ∀ a i, (¬ a = 573 ∨ i = 9 ∨ i = 10 ∨ i = 18) → ¬ a = 575 → ¬ a = 576 → ¬ a = 577 → ¬ R a i := fun a i q1 q2 q3 q4 r => by have := m a i r; omega
    obtain ⟨⟨a1, a2, a3, a4, a5⟩, a6, a7, a8, a9⟩ := A
    refine ⟨⟨(f.n (n1 _ _ (by omega) (by omega) (by omega) (by omega))).trans a1, a2, (f.n (n1 _ _ (by omega) (by omega) (by omega) (by omega))).trans a3, a4, (f.n (n1 _ _ (by omega) (by omega) (by omega) (by omega))).trans a5⟩, fun j hj => (f.l (n1 _ _ (by omega) (by omega) (by omega) (by omega))).trans (a6 j hj), fun p hp => (f.l (n1 _ _ (by omega) (by omega) (by omega) (by omega))).trans (a7 p hp), fun k hk => (a8 k hk).fr f (Nat.le_refl _) ⟨n1 _ _ (by omega) (by omega) (by omega) (by omega), fun i hi => ⟨n1 _ _ (by omega) (by omega) (by omega) (by omega), n1 _ _ (by omega) (by omega) (by omega) (by omega), n1 _ _ (by omega) (by omega) (by omega) (by omega)⟩, fun q hq => ⟨n1 _ _ (by omega) (by omega) (by omega) (by omega), n1 _ _ (by omega) (by omega) (by omega) (by omega)⟩⟩, fun j hj => ?_⟩
    obtain ⟨c1, c2, c3, c4, c5⟩ := a9 j hj
    refine ⟨c1.fr f ⟨?_, fun i hi => ?_⟩, c2.fr f ⟨?_, fun a ha => ⟨?_, ?_, fun i hi => ?_⟩⟩, c3.fr f ⟨?_, fun r hr => ⟨?_, fun i hi => ⟨?_, ?_⟩⟩⟩, c4.fr f ⟨?_, fun r hr => ⟨?_, fun i hi => ⟨?_, ?_⟩⟩⟩, c5.fr f ?_ (fun i hi => ⟨?_, ?_, ?_⟩)⟩ <;> exact n1 _ _ (by omega) (by omega) (by omega) (by omega)
  -- the lines
  have lines : ∀ f l a w (pre : List Wt) (P : mj_P) (kept : Nat) (h : mj_H), L + 1 ≤ a + f → a ≤ L + 1 → l ≤ a → pre.length = w → W = pre ++ ws X l a a (L - a) → kept ≤ w → VP W P → PlM h W kept P → OwM h P.own → fr inRd h0 h → h.1 573 3 = nI L → h.1 573 2 = nI 0 → h.1 573 34 = nI 0 → (∀ i, i < L → h.1 575 i = X i) → rdA X W L f l a w P = rdA X W L (L + 1) 0 0 0 P0 → mr_M mj_KK d 51 54 [some (.ref 573), some (.int (nI l)), some (.int (nI a)), none] [] h Q := by
    intro f
    induction f with
    | zero =>
      intro l a w pre P kept h hf ha hla hpw hWp hkw hV hP hO hfr h3 h22 h34 hs he
      refine kb_51_54 (by first | with_reducible assumption | with_reducible exact kd_M | assumption) (fun _ => kb_51_127 (by first | with_reducible assumption | with_reducible exact kd_M | assumption) ?_) (fun c => (by simp (disch := omega) only [z_0, z_1, z_2, z_3, z_4, z_5, z_6, z_7, z_8, z_9, z_10, z_12, z_13, z_20, z_21, z_25, z_56, z_350, z_31, z_32, z_36, z_48, z_57, z_61, z_97, z_100, z_122, z_125, z_126, z_144, z_255, z_700, z_1000, z_1548, nI_add, pk_mul, pk_sub, nI_clamp, nI_leI, nI_ltI, nI_eq, z_in, z_m1, z_m1b, lg_cmp_eq, z_cmp, Decidable.not_not, w_ie, w_in, w_il, w_le, w_ln, w_li, w_ir, w_lr, h3] at c; exfalso; omega))
      rw [hP.1.1]
      have hpl : w ≤ 350 := by
        have := congrArg List.length hWp
        rw [List.length_append] at this
        omega
      exact kP P he.symm hV h kept (by omega) hP h34 h22 hs hfr
    | succ f ih =>
      intro l a w pre P kept h hf ha hla hpw hWp hkw hV hP hO hfr h3 h22 h34 hs he
      have hpl : w ≤ 350 := by
        have := congrArg List.length hWp
        rw [List.length_append] at this
        omega
      have H := hfr.rs H0
      rw [rdA_s] at he
      rcases Nat.lt_or_ge a L with hal | hal
      rotate_left
      · rw [if_neg (by omega)] at he
        refine kb_51_54 (by first | with_reducible assumption | with_reducible exact kd_M | assumption) (fun _ => kb_51_127 (by first | with_reducible assumption | with_reducible exact kd_M | assumption) ?_) (fun c => (by simp (disch := omega) only [z_0, z_1, z_2, z_3, z_4, z_5, z_6, z_7, z_8, z_9, z_10, z_12, z_13, z_20, z_21, z_25, z_56, z_350, z_31, z_32, z_36, z_48, z_57, z_61, z_97, z_100, z_122, z_125, z_126, z_144, z_255, z_700, z_1000, z_1548, nI_add, pk_mul, pk_sub, nI_clamp, nI_leI, nI_ltI, nI_eq, z_in, z_m1, z_m1b, lg_cmp_eq, z_cmp, Decidable.not_not, w_ie, w_in, w_il, w_le, w_ln, w_li, w_ir, w_lr, h3] at c; exfalso; omega))
        rw [hP.1.1]
        exact kP P he.symm hV h kept (by omega) hP h34 h22 hs hfr
      rw [if_pos hal] at he
      obtain ⟨b1, b2, b3, b4⟩ := nlA_ok (X := X) (n := L - a) (a := a)
      have hsp := ws_line (X := X) (l := l) hal
      -- the search for the line's end
      have seek : ∀ m t, t + m = L → a ≤ t → nlA X t m = nlA X a (L - a) → mr_M mj_KK d 51 89 [some (.ref 573), some (.int (nI l)), some (.int (nI a)), some (.int (nI (nlA X a (L - a))))] [] h Q → mr_M mj_KK d 51 64 [some (.ref 573), some (.int (nI l)), some (.int (nI a)), some (.int (nI t))] [] h Q := by
        intro m
        induction m with
        | zero =>
          intro t hm hat hq kk
          have hq : t = nlA X a (L - a) := hq
          rw [← hq] at kk
          exact kb_51_64 (by first | with_reducible assumption | with_reducible exact kd_M | assumption) (fun _ => kk) (fun c => (by simp (disch := omega) only [z_0, z_1, z_2, z_3, z_4, z_5, z_6, z_7, z_8, z_9, z_10, z_12, z_13, z_20, z_21, z_25, z_56, z_350, z_31, z_32, z_36, z_48, z_57, z_61, z_97, z_100, z_122, z_125, z_126, z_144, z_255, z_700, z_1000, z_1548, nI_add, pk_mul, pk_sub, nI_clamp, nI_leI, nI_ltI, nI_eq, z_in, z_m1, z_m1b, lg_cmp_eq, z_cmp, Decidable.not_not, w_ie, w_in, w_il, w_le, w_ln, w_li, w_ir, w_lr, h3] at c; exfalso; omega))
        | succ m ih2 =>
          intro t hm hat hq kk
          have e9 := hs t (by omega)
          rw [nlA_s] at hq
          refine kb_51_64 (by first | with_reducible assumption | with_reducible exact kd_M | assumption) (fun c => (by simp (disch := omega) only [z_0, z_1, z_2, z_3, z_4, z_5, z_6, z_7, z_8, z_9, z_10, z_12, z_13, z_20, z_21, z_25, z_56, z_350, z_31, z_32, z_36, z_48, z_57, z_61, z_97, z_100, z_122, z_125, z_126, z_144, z_255, z_700, z_1000, z_1548, nI_add, pk_mul, pk_sub, nI_clamp, nI_leI, nI_ltI, nI_eq, z_in, z_m1, z_m1b, lg_cmp_eq, z_cmp, Decidable.not_not, w_ie, w_in, w_il, w_le, w_ln, w_li, w_ir, w_lr, h3] at c; exfalso; omega)) (fun _ => kb_51_72 (by first | with_reducible assumption | with_reducible exact kd_M | assumption) (by first | with_reducible assumption | exact rf_M_source H | assumption) (by first | with_reducible assumption | with_reducible exact kd_M_source | assumption) (by first | with_reducible assumption | (simp (disch := omega) only [z_0, z_1, z_2, z_3, z_4, z_5, z_6, z_7, z_8, z_9, z_10, z_12, z_13, z_20, z_21, z_25, z_56, z_350, z_31, z_32, z_36, z_48, z_57, z_61, z_97, z_100, z_122, z_125, z_126, z_144, z_255, z_700, z_1000, z_1548, nI_add, pk_mul, pk_sub, nI_clamp, nI_leI, nI_ltI, nI_eq, z_in, z_m1, z_m1b, lg_cmp_eq, z_cmp, Decidable.not_not, w_ie, w_in, w_il, w_le, w_ln, w_li, w_ir, w_lr, ln_P_tape, ln_W_text, ln_W_starts, ln_W_ends, ln_W_lines, ln_W_names, ln_W_values, ln_PL_jobs, ln_PL_parts, ln_FT_reached, ln_EX_jobs, ln_EX_codes, ln_CB_names, ln_CB_values, ln_M_tape, ln_M_source, ln_M_wordAt, ln_M_wordEnd, ln_M_names, ln_M_itemCount, ln_M_itemFirst, ln_M_itemWords, ln_M_itemUses, ln_M_keptAt, ln_M_keptEnd, ln_M_needCount, ln_M_axisCount, ln_M_valueCount, ln_M_needed, ln_M_axes, ln_M_values, ln_M_includes, ln_M_excludes, ln_M_pairCount, ln_M_pairName, ln_M_pairValue, ln_M_signCount, ln_M_signs, ln_M_signName, ln_M_signValue, ln_M_whose, ln_M_which, ln_M_pile, ln_M_reaches, ln_M_stepsOf, ln_M_known, ln_JB_needed, ln_JB_axes, ln_JS_used, ln_JS_stepWords, ln_PS_used, ln_PS_stepWords, ln_IN_rows, ln_EC_rows, ln_IR_names, ln_IR_values, ln_ER_names, ln_ER_values, ln_CD_kinds, ln_CD_names, ln_CD_values, ln_AX_values] <;> omega) | assumption) (fun c => ?_) (fun c => kb_51_83 ?_))
          · rw [nI_clamp (by omega), e9] at c
            rw [if_pos c] at hq
            rw [hq]
            exact kk
          · rw [nI_clamp (by omega), e9] at c
            rw [if_neg c] at hq
            rw [nI_1]
            exact ih2 (t + 1) (by omega) (by omega) hq kk
      refine kb_51_54 (by first | with_reducible assumption | with_reducible exact kd_M | assumption) (fun c => (by simp (disch := omega) only [z_0, z_1, z_2, z_3, z_4, z_5, z_6, z_7, z_8, z_9, z_10, z_12, z_13, z_20, z_21, z_25, z_56, z_350, z_31, z_32, z_36, z_48, z_57, z_61, z_97, z_100, z_122, z_125, z_126, z_144, z_255, z_700, z_1000, z_1548, nI_add, pk_mul, pk_sub, nI_clamp, nI_leI, nI_ltI, nI_eq, z_in, z_m1, z_m1b, lg_cmp_eq, z_cmp, Decidable.not_not, w_ie, w_in, w_il, w_le, w_ln, w_li, w_ir, w_lr, h3] at c; exfalso; omega)) (fun _ => kb_51_62 (seek (L - a) a (by omega) (Nat.le_refl a) rfl ?_))
      generalize nlA X a (L - a) = t at *
      have e1 : t = a + (t - a) := by omega
      refine kb_51_89 (by first | with_reducible assumption | with_reducible exact kd_M | assumption) (by omega) ?_
      rw [show (Value.int (nI t)) = Value.int (nI (a + (t - a))) from by rw [← e1]]
      refine s38 (X := X) (l := l) H (fun i h1 h2 => hs i (by omega)) (fun i h1 h2 => b3 i h1 (by omega)) (by omega) (fun hc c1 c2 => ?_)
      rw [← e1]
      generalize hVV : ws X l a a (t - a) = V at *
      have VL : ∀ u ∈ V, u.2.2 = l := fun u hu => ws_same (fun i h1 h2 => b3 i h1 (by omega)) (hVV ▸ hu)
      have RL : ∀ u ∈ ws X (l + 1) (t + 1) (t + 1) (L - (t + 1)), l + 1 ≤ u.2.2 := fun u hu => ws_lines hu
      rw [hsp] at hWp
      have frc : fr inRd h0 hc := hfr.trans (c2.mono (fun a i q => by unfold inMw at q; unfold inRd; omega))
      have hPc := plm hP c2 (fun a i q => by unfold inMw at q; omega)
      have hOc : OwM hc P.own := ⟨fun v => (c2.n (by unfold inMw; omega)).trans (hO.1 v), fun v => (c2.n (by unfold inMw; omega)).trans (hO.2 v)⟩
      have hsc : ∀ i, i < L → hc.1 575 i = X i := fun i hi => (c2.n (by unfold inMw; omega)).trans (hs i hi)
      have H := frc.rs H0
      have vlen : w + V.length ≤ W.length := by
        rw [hWp, List.length_append, List.length_append]
        omega
      have c7 := c1.1
      have nxt : ∀ (P2 : mj_P) (kept2 w2 : Nat) (pre2 : List Wt) (h9 : mj_H), pre2.length = w2 → W = pre2 ++ ws X (l + 1) (t + 1) (t + 1) (L - (t + 1)) → kept2 ≤ w2 → VP W P2 → PlM h9 W kept2 P2 → OwM h9 P2.own → fr inRd h0 h9 → h9.1 573 3 = nI L → h9.1 573 2 = nI 0 → h9.1 573 34 = nI 0 → (∀ i, i < L → h9.1 575 i = X i) → rdA X W L f (l + 1) (t + 1) w2 P2 = rdA X W L (L + 1) 0 0 0 P0 → mr_M mj_KK d 51 117 [some (.ref 573), some (.int (nI l)), none, some (.int (nI t))] [] h9 Q := by
        intro P2 kept2 w2 pre2 h9 z1 z2 z3 z4 z5 z6 z7 z8 z9 z10 z11 z12
        refine kb_51_117 ?_
        rw [nI_1, nI_1]
        exact ih (l + 1) (t + 1) w2 pre2 P2 kept2 h9 (by omega) (by omega) (by omega) z1 z2 z3 z4 z5 z6 z7 z8 z9 z10 z11 z12
      by_cases hv : V.length = 0
      · rw [if_pos hv] at he
        have hv0 : V = [] := List.length_eq_zero_iff.mp hv
        refine kb_51_95 (by first | with_reducible assumption | with_reducible exact kd_M | assumption) (fun _ => nxt P kept w pre hc hpw (by rw [hv0, List.nil_append] at hWp; exact hWp) hkw hV hPc hOc frc ((c2.n (by unfold inMw; omega)).trans h3) ((c2.n (by unfold inMw; omega)).trans h22) ((c2.n (by unfold inMw; omega)).trans h34) hsc he) (fun c => ?_)
        rw [c7, hv] at c
        exact absurd (by decide) c
      · rw [if_neg hv] at he
        have hR : RW hc X L W w V.length := by
          refine ⟨hL, hsc, c7, vlen, hW5, fun i hi => ?_⟩
          have eg : W.getD (w + i) (0, 0, 0) = V.getD i (0, 0, 0) := by rw [hWp, ← hpw, getD_r, getD_l hi]
          have hm : V.getD i (0, 0, 0) ∈ ws X l a a (t - a) := by rw [hVV]; exact getD_mem hi
          obtain ⟨d1, d2, d3⟩ := ws_ok (Nat.le_refl a) (fun i h1 h2 => absurd h2 (by omega)) (fun i h1 h2 => ht i (by omega)) hm
          rw [eg]
          exact ⟨d3.1, by omega, (c1.2 i hi).1, (c1.2 i hi).2⟩
        have isl := (isL_of hWp (by omega) VL RL).1
        rw [hpw] at isl
        refine kb_51_95 (by first | with_reducible assumption | with_reducible exact kd_M | assumption) (fun c => (by simp (disch := omega) only [z_0, z_1, z_2, z_3, z_4, z_5, z_6, z_7, z_8, z_9, z_10, z_12, z_13, z_20, z_21, z_25, z_56, z_350, z_31, z_32, z_36, z_48, z_57, z_61, z_97, z_100, z_122, z_125, z_126, z_144, z_255, z_700, z_1000, z_1548, nI_add, pk_mul, pk_sub, nI_clamp, nI_leI, nI_ltI, nI_eq, z_in, z_m1, z_m1b, lg_cmp_eq, z_cmp, Decidable.not_not, w_ie, w_in, w_il, w_le, w_ln, w_li, w_ir, w_lr, c7] at c; exfalso; omega)) (fun _ => kb_51_102 (by first | with_reducible assumption | with_reducible exact kd_M | assumption) (by omega) (s50 (by omega) H hR hk (by omega) hPc hOc hV.2.2.1 hV.2.2.2.1 hkw (fun _ => (hV.2.2.2.2.2 P.own).2.2.2.1.2.2.1) (fun q h9 g => ?_) (fun P2 q h9 kept2 g1 g2 g3 g4 => ?_)))
        · rw [q] at he
          have H := g.rs H
          refine kb_51_106 (fun c => absurd rfl c) (fun _ => kb_51_109 (by first | with_reducible assumption | with_reducible exact kd_M | assumption) (by omega) (s35 (W := W) H (fun h10 r1 r2 r3 => kb_51_113 (kI l he.symm h10 r1 r2 ?_ (fun i hi => ?_) ?_))))
          · rw [r3.n (by unfold inK; omega), g.n (by unfold inL; omega), c2.n (by unfold inMw; omega)]
            exact h22
          · rw [r3.n (by unfold inK; omega), g.n (by unfold inL; omega)]
            exact hsc i hi
          · exact (frc.trans (g.mono (fun a i q => by unfold inL at q; unfold inRd; omega))).trans (r3.mono (fun a i q => by unfold inK at q; unfold inRd; omega))
        · rw [q] at he
          refine kb_51_106 (fun _ => nxt P2 kept2 (w + V.length) (pre ++ V) h9 (by rw [List.length_append, hpw]) (by rw [List.append_assoc]; exact hWp) g2 (rdL_VP hk isl hV q) g1 g3 (frc.trans (g4.mono (fun a i q => by unfold inL at q; unfold inRd; omega))) ?_ ?_ ?_ (fun i hi => (g4.n (by unfold inL; omega)).trans (hsc i hi)) he) (fun c => absurd (by decide) c)
          · rw [g4.n (by unfold inL; omega), c2.n (by unfold inMw; omega)]
            exact h3
          · rw [g4.n (by unfold inL; omega), c2.n (by unfold inMw; omega)]
            exact h22
          · rw [g4.n (by unfold inL; omega), c2.n (by unfold inMw; omega)]
            exact h34
  -- the copy of the tape
  have copy : ∀ m i (h : mj_H), i + m = L → fr inRd h0 h → h.1 573 2 = nI L → h.1 573 3 = nI L → h.1 573 34 = nI 0 → PlM h W 0 P0 → (∀ q, q < i → h.1 575 q = X q) → mr_M mj_KK d 51 14 [some (.ref 573), some (.int (nI i)), none, none] [] h Q := by
    intro m
    induction m with
    | zero =>
      intro i h hi hf q2 q3 q34 hP hs
      have H := hf.rs H0
      have e : i = L := by omega
      subst e
      refine kb_51_14 (by first | with_reducible assumption | with_reducible exact kd_M | assumption) (fun _ => kb_51_40 (by first | with_reducible assumption | with_reducible exact kd_M | assumption) ?_) (fun c => (by simp (disch := omega) only [z_0, z_1, z_2, z_3, z_4, z_5, z_6, z_7, z_8, z_9, z_10, z_12, z_13, z_20, z_21, z_25, z_56, z_350, z_31, z_32, z_36, z_48, z_57, z_61, z_97, z_100, z_122, z_125, z_126, z_144, z_255, z_700, z_1000, z_1548, nI_add, pk_mul, pk_sub, nI_clamp, nI_leI, nI_ltI, nI_eq, z_in, z_m1, z_m1b, lg_cmp_eq, z_cmp, Decidable.not_not, w_ie, w_in, w_il, w_le, w_ln, w_li, w_ir, w_lr, q2] at c; exfalso; omega))
      have g : fr (fun a i => a = 573 ∧ (i = 2 ∨ i = 8)) h (mj_w (mj_w h 573 2 (.int 0)) 573 8 (.int (-1))) := (fr.wi (P := fun a i => a = 573 ∧ (i = 2 ∨ i = 8)) fr.rfl' (by omega)).wi (by omega)
      refine lines (i + 1) 0 0 0 [] P0 0 _ (by omega) (by omega) (by omega) rfl (by rw [Nat.sub_zero]; exact hW) (by omega) VP_0 (plm hP g (fun a i q => by omega)) ⟨fun v => absurd v (by decide), fun _ => w_ie ⟨rfl, rfl⟩⟩ (hf.trans (g.mono (fun a i q => by unfold inRd; omega))) ((g.n (by omega)).trans q3) ?_ ((g.n (by omega)).trans q34) (fun r hr => (g.n (by omega)).trans (hs r hr)) rfl
      rw [w_in (by omega), w_ie ⟨rfl, rfl⟩]
      rfl
    | succ m ih =>
      intro i h hi hf q2 q3 q34 hP hs
      have H := hf.rs H0
      have e9 : h.1 574 i = X i := (hf.n (by unfold inRd; omega)).trans (hX i (by omega))
      refine kb_51_14 (by first | with_reducible assumption | with_reducible exact kd_M | assumption) (fun c => (by simp (disch := omega) only [z_0, z_1, z_2, z_3, z_4, z_5, z_6, z_7, z_8, z_9, z_10, z_12, z_13, z_20, z_21, z_25, z_56, z_350, z_31, z_32, z_36, z_48, z_57, z_61, z_97, z_100, z_122, z_125, z_126, z_144, z_255, z_700, z_1000, z_1548, nI_add, pk_mul, pk_sub, nI_clamp, nI_leI, nI_ltI, nI_eq, z_in, z_m1, z_m1b, lg_cmp_eq, z_cmp, Decidable.not_not, w_ie, w_in, w_il, w_le, w_ln, w_li, w_ir, w_lr, q2] at c; exfalso; omega)) (fun _ => kb_51_22 (by first | with_reducible assumption | with_reducible exact kd_M | assumption) (by first | with_reducible assumption | exact rf_M_source H | assumption) (by first | with_reducible assumption | exact rf_M_tape H | assumption) (by first | with_reducible assumption | with_reducible exact kd_M_tape | assumption) (by first | with_reducible assumption | (simp (disch := omega) only [z_0, z_1, z_2, z_3, z_4, z_5, z_6, z_7, z_8, z_9, z_10, z_12, z_13, z_20, z_21, z_25, z_56, z_350, z_31, z_32, z_36, z_48, z_57, z_61, z_97, z_100, z_122, z_125, z_126, z_144, z_255, z_700, z_1000, z_1548, nI_add, pk_mul, pk_sub, nI_clamp, nI_leI, nI_ltI, nI_eq, z_in, z_m1, z_m1b, lg_cmp_eq, z_cmp, Decidable.not_not, w_ie, w_in, w_il, w_le, w_ln, w_li, w_ir, w_lr, ln_P_tape, ln_W_text, ln_W_starts, ln_W_ends, ln_W_lines, ln_W_names, ln_W_values, ln_PL_jobs, ln_PL_parts, ln_FT_reached, ln_EX_jobs, ln_EX_codes, ln_CB_names, ln_CB_values, ln_M_tape, ln_M_source, ln_M_wordAt, ln_M_wordEnd, ln_M_names, ln_M_itemCount, ln_M_itemFirst, ln_M_itemWords, ln_M_itemUses, ln_M_keptAt, ln_M_keptEnd, ln_M_needCount, ln_M_axisCount, ln_M_valueCount, ln_M_needed, ln_M_axes, ln_M_values, ln_M_includes, ln_M_excludes, ln_M_pairCount, ln_M_pairName, ln_M_pairValue, ln_M_signCount, ln_M_signs, ln_M_signName, ln_M_signValue, ln_M_whose, ln_M_which, ln_M_pile, ln_M_reaches, ln_M_stepsOf, ln_M_known, ln_JB_needed, ln_JB_axes, ln_JS_used, ln_JS_stepWords, ln_PS_used, ln_PS_stepWords, ln_IN_rows, ln_EC_rows, ln_IR_names, ln_IR_values, ln_ER_names, ln_ER_values, ln_CD_kinds, ln_CD_names, ln_CD_values, ln_AX_values] <;> omega) | assumption) (by first | with_reducible assumption | with_reducible exact kd_M_source | assumption) (by first | with_reducible assumption | (simp (disch := omega) only [z_0, z_1, z_2, z_3, z_4, z_5, z_6, z_7, z_8, z_9, z_10, z_12, z_13, z_20, z_21, z_25, z_56, z_350, z_31, z_32, z_36, z_48, z_57, z_61, z_97, z_100, z_122, z_125, z_126, z_144, z_255, z_700, z_1000, z_1548, nI_add, pk_mul, pk_sub, nI_clamp, nI_leI, nI_ltI, nI_eq, z_in, z_m1, z_m1b, lg_cmp_eq, z_cmp, Decidable.not_not, w_ie, w_in, w_il, w_le, w_ln, w_li, w_ir, w_lr, ln_P_tape, ln_W_text, ln_W_starts, ln_W_ends, ln_W_lines, ln_W_names, ln_W_values, ln_PL_jobs, ln_PL_parts, ln_FT_reached, ln_EX_jobs, ln_EX_codes, ln_CB_names, ln_CB_values, ln_M_tape, ln_M_source, ln_M_wordAt, ln_M_wordEnd, ln_M_names, ln_M_itemCount, ln_M_itemFirst, ln_M_itemWords, ln_M_itemUses, ln_M_keptAt, ln_M_keptEnd, ln_M_needCount, ln_M_axisCount, ln_M_valueCount, ln_M_needed, ln_M_axes, ln_M_values, ln_M_includes, ln_M_excludes, ln_M_pairCount, ln_M_pairName, ln_M_pairValue, ln_M_signCount, ln_M_signs, ln_M_signName, ln_M_signValue, ln_M_whose, ln_M_which, ln_M_pile, ln_M_reaches, ln_M_stepsOf, ln_M_known, ln_JB_needed, ln_JB_axes, ln_JS_used, ln_JS_stepWords, ln_PS_used, ln_PS_stepWords, ln_IN_rows, ln_EC_rows, ln_IR_names, ln_IR_values, ln_ER_names, ln_ER_values, ln_CD_kinds, ln_CD_names, ln_CD_values, ln_AX_values] <;> omega) | assumption) ?_)
      rw [nI_clamp (by omega), e9, nI_1]
      have g : fr (fun a i2 => a = 575 ∧ i2 = i) h (mj_w h 575 i (.int (X i))) := fr.wi (P := fun a i2 => a = 575 ∧ i2 = i) fr.rfl' ⟨rfl, rfl⟩
      refine ih (i + 1) _ (by omega) (hf.trans (g.mono (fun a i q => by unfold inRd; omega))) ((g.n (by omega)).trans q2) ((g.n (by omega)).trans q3) ((g.n (by omega)).trans q34) (plm hP g (fun a i q => by omega)) (fun r hr => ?_)
      rcases Nat.lt_or_ge r i with v | v
      · exact (g.n (by omega)).trans (hs r v)
      · have e : r = i := by omega
        subst e
        exact w_ie ⟨rfl, rfl⟩
  exact copy L 0 _ (by omega) f1 ((g1.n (by omega)).trans q2) (by simp (disch := omega) only [z_0, z_1, z_2, z_3, z_4, z_5, z_6, z_7, z_8, z_9, z_10, z_12, z_13, z_20, z_21, z_25, z_56, z_350, z_31, z_32, z_36, z_48, z_57, z_61, z_97, z_100, z_122, z_125, z_126, z_144, z_255, z_700, z_1000, z_1548, nI_add, pk_mul, pk_sub, nI_clamp, nI_leI, nI_ltI, nI_eq, z_in, z_m1, z_m1b, lg_cmp_eq, z_cmp, Decidable.not_not, w_ie, w_in, w_il, w_le, w_ln, w_li, w_ir, w_lr]) ((g1.n (by omega)).trans p2) (plm p1 g1 (fun a i q => by omega)) (fun q hq => absurd hq (Nat.not_lt_zero q))
