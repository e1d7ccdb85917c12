-- ===== the reference's steps =====
def SM (h : mj_H) (σ : Nat → Nat) : Prop := ∀ p, p < 8 → h.1 604 p = nI (σ p)
def inMt : Nat → Nat → Prop := fun a _ => a = 604
section
variable {d k i kept : Nat} {h h0 : mj_H} {Q : Option Value → mj_H → Prop} {P : mj_P} {σ : Nat → Nat} {W : List Wt}
theorem PlM_t {h h' : mj_H} (A : PlM h W kept P) (f : fr inMt h h') : PlM h' W kept P := PlM_fr A f (fun a i q => by unfold inMt; omega)
/-- size -/
theorem s72 (hd : 1 ≤ d) (H : mj_RS h) (hP : PlM h W kept P) (hk : k < 20) (hm : f2 P k = false) (hσ : SM h σ) (hi : i < (P.sc k).2.length) (kk : Q (some (.int (nI (szI P σ ((P.sc k).2.getD i (0, 0, 0)))))) h) : mr_C mj_KK d 72 [.ref 573, .int (nI (8 * k + i))] h Q := by
  show mr_M mj_KK d 72 0 [some (.ref 573), some (.int (nI (8 * k + i)))] [] h Q
  have p8 := hP.1.2.2.2.1
  obtain ⟨x1, x2, x3⟩ := hP.2.2.2.1 k hk
  have e0 := (x3 i hi).1
  unfold szI at kk
  refine kb_72_0 (by first | with_reducible assumption | with_reducible exact kd_M | assumption) (by first | with_reducible assumption | exact rf_M_itemUses H | assumption) (by first | with_reducible assumption | with_reducible exact kd_M_itemUses | assumption) (by first | with_reducible assumption | (simp (disch := omega) only [z_0, z_1, z_2, z_3, z_4, z_5, z_6, z_7, z_8, z_9, z_10, z_12, z_13, z_20, z_21, z_25, z_56, z_350, z_31, z_32, z_36, z_48, z_57, z_61, z_97, z_100, z_122, z_125, z_126, z_144, z_255, z_700, z_1000, z_1548, nI_add, pk_mul, pk_sub, nI_clamp, nI_leI, nI_ltI, nI_eq, z_in, z_m1, z_m1b, lg_cmp_eq, z_cmp, Decidable.not_not, w_ie, w_in, w_il, w_le, w_ln, w_li, w_ir, w_lr, ln_P_tape, ln_W_text, ln_W_starts, ln_W_ends, ln_W_lines, ln_W_names, ln_W_values, ln_PL_jobs, ln_PL_parts, ln_FT_reached, ln_EX_jobs, ln_EX_codes, ln_CB_names, ln_CB_values, ln_M_tape, ln_M_source, ln_M_wordAt, ln_M_wordEnd, ln_M_names, ln_M_itemCount, ln_M_itemFirst, ln_M_itemWords, ln_M_itemUses, ln_M_keptAt, ln_M_keptEnd, ln_M_needCount, ln_M_axisCount, ln_M_valueCount, ln_M_needed, ln_M_axes, ln_M_values, ln_M_includes, ln_M_excludes, ln_M_pairCount, ln_M_pairName, ln_M_pairValue, ln_M_signCount, ln_M_signs, ln_M_signName, ln_M_signValue, ln_M_whose, ln_M_which, ln_M_pile, ln_M_reaches, ln_M_stepsOf, ln_M_known, ln_JB_needed, ln_JB_axes, ln_JS_used, ln_JS_stepWords, ln_PS_used, ln_PS_stepWords, ln_IN_rows, ln_EC_rows, ln_IR_names, ln_IR_values, ln_ER_names, ln_ER_values, ln_CD_kinds, ln_CD_names, ln_CD_values, ln_AX_values] <;> omega) | assumption) (fun c => kb_72_15 (by first | with_reducible assumption | with_reducible exact kd_M | assumption) (by first | with_reducible assumption | exact rf_M_stepsOf H | assumption) (by first | with_reducible assumption | exact rf_M_itemUses H | assumption) (by first | with_reducible assumption | with_reducible exact kd_M_itemUses | assumption) (by first | with_reducible assumption | (simp (disch := omega) only [z_0, z_1, z_2, z_3, z_4, z_5, z_6, z_7, z_8, z_9, z_10, z_12, z_13, z_20, z_21, z_25, z_56, z_350, z_31, z_32, z_36, z_48, z_57, z_61, z_97, z_100, z_122, z_125, z_126, z_144, z_255, z_700, z_1000, z_1548, nI_add, pk_mul, pk_sub, nI_clamp, nI_leI, nI_ltI, nI_eq, z_in, z_m1, z_m1b, lg_cmp_eq, z_cmp, Decidable.not_not, w_ie, w_in, w_il, w_le, w_ln, w_li, w_ir, w_lr, ln_P_tape, ln_W_text, ln_W_starts, ln_W_ends, ln_W_lines, ln_W_names, ln_W_values, ln_PL_jobs, ln_PL_parts, ln_FT_reached, ln_EX_jobs, ln_EX_codes, ln_CB_names, ln_CB_values, ln_M_tape, ln_M_source, ln_M_wordAt, ln_M_wordEnd, ln_M_names, ln_M_itemCount, ln_M_itemFirst, ln_M_itemWords, ln_M_itemUses, ln_M_keptAt, ln_M_keptEnd, ln_M_needCount, ln_M_axisCount, ln_M_valueCount, ln_M_needed, ln_M_axes, ln_M_values, ln_M_includes, ln_M_excludes, ln_M_pairCount, ln_M_pairName, ln_M_pairValue, ln_M_signCount, ln_M_signs, ln_M_signName, ln_M_signValue, ln_M_whose, ln_M_which, ln_M_pile, ln_M_reaches, ln_M_stepsOf, ln_M_known, ln_JB_needed, ln_JB_axes, ln_JS_used, ln_JS_stepWords, ln_PS_used, ln_PS_stepWords, ln_IN_rows, ln_EC_rows, ln_IR_names, ln_IR_values, ln_ER_names, ln_ER_values, ln_CD_kinds, ln_CD_names, ln_CD_values, ln_AX_values] <;> omega) | assumption) (by omega) ?_) (fun c => kb_72_11 (kb_72_30 ?_))
  · simp (disch := omega) only [z_0, z_1, z_2, z_3, z_4, z_5, z_6, z_7, z_8, z_9, z_10, z_12, z_13, z_20, z_21, z_25, z_56, z_350, z_31, z_32, z_36, z_48, z_57, z_61, z_97, z_100, z_122, z_125, z_126, z_144, z_255, z_700, z_1000, z_1548, nI_add, pk_mul, pk_sub, nI_clamp, nI_leI, nI_ltI, nI_eq, z_in, z_m1, z_m1b, lg_cmp_eq, z_cmp, Decidable.not_not, w_ie, w_in, w_il, w_le, w_ln, w_li, w_ir, w_lr, e0] at c
    rw [nI_clamp (by omega), e0]
    obtain ⟨q, q1, q2⟩ := f2_use hm hi c
    rw [if_neg c, if_neg (by rw [q2]; exact m1_ne (by omega)), q2, nI_clamp (by omega)] at kk
    refine s37P H hP ?_
    rw [q2]
    refine kb_72_29 (by first | with_reducible assumption | with_reducible exact kd_W_starts | with_reducible exact kd_W_ends | with_reducible exact kd_W_lines | with_reducible exact kd_FT_reached | with_reducible exact kd_EX_jobs | with_reducible exact kd_EX_codes | with_reducible exact kd_M_tape | with_reducible exact kd_M_source | with_reducible exact kd_M_wordAt | with_reducible exact kd_M_wordEnd | with_reducible exact kd_M_itemCount | with_reducible exact kd_M_itemFirst | with_reducible exact kd_M_itemWords | with_reducible exact kd_M_keptAt | with_reducible exact kd_M_keptEnd | with_reducible exact kd_M_needCount | with_reducible exact kd_M_axisCount | with_reducible exact kd_M_valueCount | with_reducible exact kd_M_includes | with_reducible exact kd_M_excludes | with_reducible exact kd_M_pairCount | with_reducible exact kd_M_signCount | with_reducible exact kd_M_signs | with_reducible exact kd_M_whose | with_reducible exact kd_M_which | with_reducible exact kd_M_pile | with_reducible exact kd_M_stepsOf | with_reducible exact kd_JS_stepWords _ (by omega) | with_reducible exact kd_PS_stepWords _ (by omega) | with_reducible exact kd_CD_kinds _ (by omega) | assumption) (by first | with_reducible assumption | (simp (disch := omega) only [z_0, z_1, z_2, z_3, z_4, z_5, z_6, z_7, z_8, z_9, z_10, z_12, z_13, z_20, z_21, z_25, z_56, z_350, z_31, z_32, z_36, z_48, z_57, z_61, z_97, z_100, z_122, z_125, z_126, z_144, z_255, z_700, z_1000, z_1548, nI_add, pk_mul, pk_sub, nI_clamp, nI_leI, nI_ltI, nI_eq, z_in, z_m1, z_m1b, lg_cmp_eq, z_cmp, Decidable.not_not, w_ie, w_in, w_il, w_le, w_ln, w_li, w_ir, w_lr, ln_P_tape, ln_W_text, ln_W_starts, ln_W_ends, ln_W_lines, ln_W_names, ln_W_values, ln_PL_jobs, ln_PL_parts, ln_FT_reached, ln_EX_jobs, ln_EX_codes, ln_CB_names, ln_CB_values, ln_M_tape, ln_M_source, ln_M_wordAt, ln_M_wordEnd, ln_M_names, ln_M_itemCount, ln_M_itemFirst, ln_M_itemWords, ln_M_itemUses, ln_M_keptAt, ln_M_keptEnd, ln_M_needCount, ln_M_axisCount, ln_M_valueCount, ln_M_needed, ln_M_axes, ln_M_values, ln_M_includes, ln_M_excludes, ln_M_pairCount, ln_M_pairName, ln_M_pairValue, ln_M_signCount, ln_M_signs, ln_M_signName, ln_M_signValue, ln_M_whose, ln_M_which, ln_M_pile, ln_M_reaches, ln_M_stepsOf, ln_M_known, ln_JB_needed, ln_JB_axes, ln_JS_used, ln_JS_stepWords, ln_PS_used, ln_PS_stepWords, ln_IN_rows, ln_EC_rows, ln_IR_names, ln_IR_values, ln_ER_names, ln_ER_values, ln_CD_kinds, ln_CD_names, ln_CD_values, ln_AX_values] <;> omega) | assumption) (kb_72_30 ?_)
    rw [nI_clamp (by omega), hσ q (by omega)]
    exact kk
  · simp (disch := omega) only [z_0, z_1, z_2, z_3, z_4, z_5, z_6, z_7, z_8, z_9, z_10, z_12, z_13, z_20, z_21, z_25, z_56, z_350, z_31, z_32, z_36, z_48, z_57, z_61, z_97, z_100, z_122, z_125, z_126, z_144, z_255, z_700, z_1000, z_1548, nI_add, pk_mul, pk_sub, nI_clamp, nI_leI, nI_ltI, nI_eq, z_in, z_m1, z_m1b, lg_cmp_eq, z_cmp, Decidable.not_not, w_ie, w_in, w_il, w_le, w_ln, w_li, w_ir, w_lr, e0] at c
    rw [if_pos c] at kk
    exact kk
/-- total -/
theorem s73 (hd : 2 ≤ d) (H : mj_RS h) (hP : PlM h W kept P) (hk : k < 20) (hm : f2 P k = false) (hσ : SM h σ) (hp : pf P σ) (kk : Q (some (.int (nI (totI P σ (P.sc k).2)))) h) : mr_C mj_KK d 73 [.ref 573, .int (nI k)] h Q := by
  show mr_M mj_KK d 73 0 [some (.ref 573), some (.int (nI k)), none, none] [] h Q
  obtain ⟨x1, x2, x3⟩ := hP.2.2.2.1 k hk
  refine kb_73_0 ?_
  have e9 : (8 : Int32) * nI k = nI (8 * k + 0) := pk_mul 8 k
  rw [e9]
  have loop : ∀ n i, i + n = (P.sc k).2.length → mr_M mj_KK d 73 7 [some (.ref 573), some (.int (nI k)), some (.int (nI (sI P σ (P.sc k).2 i))), some (.int (nI (8 * k + i)))] [] h Q := by
    intro n
    induction n with
    | zero =>
      intro i hi
      have ei : i = (P.sc k).2.length := by omega
      subst ei
      have b := sI_le (xs := (P.sc k).2) (n := (P.sc k).2.length) hp
      unfold totI at kk
      refine kb_73_7 (by first | with_reducible assumption | with_reducible exact kd_M | assumption) (by first | with_reducible assumption | exact rf_M_itemCount H | assumption) (by first | with_reducible assumption | with_reducible exact kd_M_itemCount | assumption) (by first | with_reducible assumption | (simp (disch := omega) only [z_0, z_1, z_2, z_3, z_4, z_5, z_6, z_7, z_8, z_9, z_10, z_12, z_13, z_20, z_21, z_25, z_56, z_350, z_31, z_32, z_36, z_48, z_57, z_61, z_97, z_100, z_122, z_125, z_126, z_144, z_255, z_700, z_1000, z_1548, nI_add, pk_mul, pk_sub, nI_clamp, nI_leI, nI_ltI, nI_eq, z_in, z_m1, z_m1b, lg_cmp_eq, z_cmp, Decidable.not_not, w_ie, w_in, w_il, w_le, w_ln, w_li, w_ir, w_lr, ln_P_tape, ln_W_text, ln_W_starts, ln_W_ends, ln_W_lines, ln_W_names, ln_W_values, ln_PL_jobs, ln_PL_parts, ln_FT_reached, ln_EX_jobs, ln_EX_codes, ln_CB_names, ln_CB_values, ln_M_tape, ln_M_source, ln_M_wordAt, ln_M_wordEnd, ln_M_names, ln_M_itemCount, ln_M_itemFirst, ln_M_itemWords, ln_M_itemUses, ln_M_keptAt, ln_M_keptEnd, ln_M_needCount, ln_M_axisCount, ln_M_valueCount, ln_M_needed, ln_M_axes, ln_M_values, ln_M_includes, ln_M_excludes, ln_M_pairCount, ln_M_pairName, ln_M_pairValue, ln_M_signCount, ln_M_signs, ln_M_signName, ln_M_signValue, ln_M_whose, ln_M_which, ln_M_pile, ln_M_reaches, ln_M_stepsOf, ln_M_known, ln_JB_needed, ln_JB_axes, ln_JS_used, ln_JS_stepWords, ln_PS_used, ln_PS_stepWords, ln_IN_rows, ln_EC_rows, ln_IR_names, ln_IR_values, ln_ER_names, ln_ER_values, ln_CD_kinds, ln_CD_names, ln_CD_values, ln_AX_values] <;> omega) | assumption) (fun _ => kb_73_36 (fun c => kb_73_49 (kb_73_50 ?_)) (fun c => kb_73_43 (kb_73_50 ?_))) (fun c => (by simp (disch := omega) only [z_0, z_1, z_2, z_3, z_4, z_5, z_6, z_7, z_8, z_9, z_10, z_12, z_13, z_20, z_21, z_25, z_56, z_350, z_31, z_32, z_36, z_48, z_57, z_61, z_97, z_100, z_122, z_125, z_126, z_144, z_255, z_700, z_1000, z_1548, nI_add, pk_mul, pk_sub, nI_clamp, nI_leI, nI_ltI, nI_eq, z_in, z_m1, z_m1b, lg_cmp_eq, z_cmp, Decidable.not_not, w_ie, w_in, w_il, w_le, w_ln, w_li, w_ir, w_lr, x1] at c; exfalso; omega))
      · simp (disch := omega) only [z_0, z_1, z_2, z_3, z_4, z_5, z_6, z_7, z_8, z_9, z_10, z_12, z_13, z_20, z_21, z_25, z_56, z_350, z_31, z_32, z_36, z_48, z_57, z_61, z_97, z_100, z_122, z_125, z_126, z_144, z_255, z_700, z_1000, z_1548, nI_add, pk_mul, pk_sub, nI_clamp, nI_leI, nI_ltI, nI_eq, z_in, z_m1, z_m1b, lg_cmp_eq, z_cmp, Decidable.not_not, w_ie, w_in, w_il, w_le, w_ln, w_li, w_ir, w_lr] at c
        rw [if_neg (by omega)] at kk
        exact kk
      · simp (disch := omega) only [z_0, z_1, z_2, z_3, z_4, z_5, z_6, z_7, z_8, z_9, z_10, z_12, z_13, z_20, z_21, z_25, z_56, z_350, z_31, z_32, z_36, z_48, z_57, z_61, z_97, z_100, z_122, z_125, z_126, z_144, z_255, z_700, z_1000, z_1548, nI_add, pk_mul, pk_sub, nI_clamp, nI_leI, nI_ltI, nI_eq, z_in, z_m1, z_m1b, lg_cmp_eq, z_cmp, Decidable.not_not, w_ie, w_in, w_il, w_le, w_ln, w_li, w_ir, w_lr] at c
        rw [if_pos (by omega)] at kk
        exact kk
    | succ n ih =>
      intro i hi
      refine kb_73_7 (by first | with_reducible assumption | with_reducible exact kd_M | assumption) (by first | with_reducible assumption | exact rf_M_itemCount H | assumption) (by first | with_reducible assumption | with_reducible exact kd_M_itemCount | assumption) (by first | with_reducible assumption | (simp (disch := omega) only [z_0, z_1, z_2, z_3, z_4, z_5, z_6, z_7, z_8, z_9, z_10, z_12, z_13, z_20, z_21, z_25, z_56, z_350, z_31, z_32, z_36, z_48, z_57, z_61, z_97, z_100, z_122, z_125, z_126, z_144, z_255, z_700, z_1000, z_1548, nI_add, pk_mul, pk_sub, nI_clamp, nI_leI, nI_ltI, nI_eq, z_in, z_m1, z_m1b, lg_cmp_eq, z_cmp, Decidable.not_not, w_ie, w_in, w_il, w_le, w_ln, w_li, w_ir, w_lr, ln_P_tape, ln_W_text, ln_W_starts, ln_W_ends, ln_W_lines, ln_W_names, ln_W_values, ln_PL_jobs, ln_PL_parts, ln_FT_reached, ln_EX_jobs, ln_EX_codes, ln_CB_names, ln_CB_values, ln_M_tape, ln_M_source, ln_M_wordAt, ln_M_wordEnd, ln_M_names, ln_M_itemCount, ln_M_itemFirst, ln_M_itemWords, ln_M_itemUses, ln_M_keptAt, ln_M_keptEnd, ln_M_needCount, ln_M_axisCount, ln_M_valueCount, ln_M_needed, ln_M_axes, ln_M_values, ln_M_includes, ln_M_excludes, ln_M_pairCount, ln_M_pairName, ln_M_pairValue, ln_M_signCount, ln_M_signs, ln_M_signName, ln_M_signValue, ln_M_whose, ln_M_which, ln_M_pile, ln_M_reaches, ln_M_stepsOf, ln_M_known, ln_JB_needed, ln_JB_axes, ln_JS_used, ln_JS_stepWords, ln_PS_used, ln_PS_stepWords, ln_IN_rows, ln_EC_rows, ln_IR_names, ln_IR_values, ln_ER_names, ln_ER_values, ln_CD_kinds, ln_CD_names, ln_CD_values, ln_AX_values] <;> omega) | assumption) (fun c => (by simp (disch := omega) only [z_0, z_1, z_2, z_3, z_4, z_5, z_6, z_7, z_8, z_9, z_10, z_12, z_13, z_20, z_21, z_25, z_56, z_350, z_31, z_32, z_36, z_48, z_57, z_61, z_97, z_100, z_122, z_125, z_126, z_144, z_255, z_700, z_1000, z_1548, nI_add, pk_mul, pk_sub, nI_clamp, nI_leI, nI_ltI, nI_eq, z_in, z_m1, z_m1b, lg_cmp_eq, z_cmp, Decidable.not_not, w_ie, w_in, w_il, w_le, w_ln, w_li, w_ir, w_lr, x1] at c; exfalso; omega)) (fun _ => kb_73_22 (by first | with_reducible assumption | with_reducible exact kd_M | assumption) (by omega) (s72 (by omega) H hP hk hm hσ (by omega) (kb_73_28 ?_)))
      rw [nI_add, nI_1]
      exact ih (i + 1) (by omega)
  exact loop (P.sc k).2.length 0 (by omega)
/-- steps -/
theorem s74 {j : Nat} (hd : 3 ≤ d) (H0 : mj_RS h0) (hP : PlM h0 W kept P) (hj : j < P.nj) (h0f : (fc P).1 = 0) (kk : ∀ h', SM h' (σF P) → fr inMt h0 h' → Q (some (.int (nI (totI P (σF P) (P.sc j).2)))) h') : mr_C mj_KK d 74 [.ref 573, .int (nI j)] h0 Q := by
  show mr_M mj_KK d 74 0 [some (.ref 573), some (.int (nI j)), none, none] [] h0 Q
  have j12 := hP.1.2.1
  have p8 := hP.1.2.2.2.1
  obtain ⟨-, g2', g3', -, -⟩ := fc_0 h0f
  have fJ := fi_all (by omega) g2'
  have fP := fi_all (by omega) g3'
  refine kb_74_0 ?_
  have outer : ∀ m r (h : mj_H), r + m = P.np → fr inMt h0 h → SM h (rdS P r) → mr_M mj_KK d 74 23 [some (.ref 573), some (.int (nI j)), some (.int (nI r)), none] [] h Q := by
    intro m
    induction m with
    | zero =>
      intro r h hr hf hs
      have H := hf.rs H0
      have hPh := PlM_t hP hf
      have a3 := hPh.1.2.2.1
      have e : r = P.np := by omega
      subst e
      exact kb_74_23 (by first | with_reducible assumption | with_reducible exact kd_M | assumption) (fun _ => kb_74_67 (by first | with_reducible assumption | with_reducible exact kd_M | assumption) (by omega) (s73 (by omega) H hPh (by omega) (fJ j hj) hs pf_rd (kb_74_72 (kk h hs hf)))) (fun c => (by simp (disch := omega) only [z_0, z_1, z_2, z_3, z_4, z_5, z_6, z_7, z_8, z_9, z_10, z_12, z_13, z_20, z_21, z_25, z_56, z_350, z_31, z_32, z_36, z_48, z_57, z_61, z_97, z_100, z_122, z_125, z_126, z_144, z_255, z_700, z_1000, z_1548, nI_add, pk_mul, pk_sub, nI_clamp, nI_leI, nI_ltI, nI_eq, z_in, z_m1, z_m1b, lg_cmp_eq, z_cmp, Decidable.not_not, w_ie, w_in, w_il, w_le, w_ln, w_li, w_ir, w_lr, a3] at c; exfalso; omega))
    | succ m ih =>
      intro r h hr hf hs
      have a3 := (PlM_t hP hf).1.2.2.1
      refine kb_74_23 (by first | with_reducible assumption | with_reducible exact kd_M | assumption) (fun c => (by simp (disch := omega) only [z_0, z_1, z_2, z_3, z_4, z_5, z_6, z_7, z_8, z_9, z_10, z_12, z_13, z_20, z_21, z_25, z_56, z_350, z_31, z_32, z_36, z_48, z_57, z_61, z_97, z_100, z_122, z_125, z_126, z_144, z_255, z_700, z_1000, z_1548, nI_add, pk_mul, pk_sub, nI_clamp, nI_leI, nI_ltI, nI_eq, z_in, z_m1, z_m1b, lg_cmp_eq, z_cmp, Decidable.not_not, w_ie, w_in, w_il, w_le, w_ln, w_li, w_ir, w_lr, a3] at c; exfalso; omega)) (fun _ => kb_74_31 ?_)
      have inner : ∀ n p (h : mj_H), p + n = P.np → fr inMt h0 h → SM h (sw P (rdS P r) p) → mr_M mj_KK d 74 33 [some (.ref 573), some (.int (nI j)), some (.int (nI r)), some (.int (nI p))] [] h Q := by
        intro n
        induction n with
        | zero =>
          intro p h hp hf hs
          have a3 := (PlM_t hP hf).1.2.2.1
          have e : p = P.np := by omega
          subst e
          refine kb_74_33 (by first | with_reducible assumption | with_reducible exact kd_M | assumption) (fun _ => kb_74_61 ?_) (fun c => (by simp (disch := omega) only [z_0, z_1, z_2, z_3, z_4, z_5, z_6, z_7, z_8, z_9, z_10, z_12, z_13, z_20, z_21, z_25, z_56, z_350, z_31, z_32, z_36, z_48, z_57, z_61, z_97, z_100, z_122, z_125, z_126, z_144, z_255, z_700, z_1000, z_1548, nI_add, pk_mul, pk_sub, nI_clamp, nI_leI, nI_ltI, nI_eq, z_in, z_m1, z_m1b, lg_cmp_eq, z_cmp, Decidable.not_not, w_ie, w_in, w_il, w_le, w_ln, w_li, w_ir, w_lr, a3] at c; exfalso; omega))
          rw [nI_1]
          exact ih (r + 1) h (by omega) hf hs
        | succ n ih2 =>
          intro p h hp hf hs
          have H := hf.rs H0
          have hPh := PlM_t hP hf
          have a3 := hPh.1.2.2.1
          have e12 : (12 : Int32) + nI p = nI (12 + p) := nI_add 12 p
          refine kb_74_33 (by first | with_reducible assumption | with_reducible exact kd_M | assumption) (fun c => (by simp (disch := omega) only [z_0, z_1, z_2, z_3, z_4, z_5, z_6, z_7, z_8, z_9, z_10, z_12, z_13, z_20, z_21, z_25, z_56, z_350, z_31, z_32, z_36, z_48, z_57, z_61, z_97, z_100, z_122, z_125, z_126, z_144, z_255, z_700, z_1000, z_1548, nI_add, pk_mul, pk_sub, nI_clamp, nI_leI, nI_ltI, nI_eq, z_in, z_m1, z_m1b, lg_cmp_eq, z_cmp, Decidable.not_not, w_ie, w_in, w_il, w_le, w_ln, w_li, w_ir, w_lr, a3] at c; exfalso; omega)) (fun _ => kb_74_41 (by first | with_reducible assumption | with_reducible exact kd_M | assumption) (by first | with_reducible assumption | exact rf_M_stepsOf H | assumption) (by omega) ?_)
          rw [e12]
          refine s73 (k := 12 + p) (by omega) H hPh (by omega) (fP p (by omega)) hs (pf_sw pf_rd (by omega)) (kb_74_54 (by first | with_reducible assumption | with_reducible exact kd_W_starts | with_reducible exact kd_W_ends | with_reducible exact kd_W_lines | with_reducible exact kd_FT_reached | with_reducible exact kd_EX_jobs | with_reducible exact kd_EX_codes | with_reducible exact kd_M_tape | with_reducible exact kd_M_source | with_reducible exact kd_M_wordAt | with_reducible exact kd_M_wordEnd | with_reducible exact kd_M_itemCount | with_reducible exact kd_M_itemFirst | with_reducible exact kd_M_itemWords | with_reducible exact kd_M_keptAt | with_reducible exact kd_M_keptEnd | with_reducible exact kd_M_needCount | with_reducible exact kd_M_axisCount | with_reducible exact kd_M_valueCount | with_reducible exact kd_M_includes | with_reducible exact kd_M_excludes | with_reducible exact kd_M_pairCount | with_reducible exact kd_M_signCount | with_reducible exact kd_M_signs | with_reducible exact kd_M_whose | with_reducible exact kd_M_which | with_reducible exact kd_M_pile | with_reducible exact kd_M_stepsOf | with_reducible exact kd_JS_stepWords _ (by omega) | with_reducible exact kd_PS_stepWords _ (by omega) | with_reducible exact kd_CD_kinds _ (by omega) | assumption) (by first | with_reducible assumption | (simp (disch := omega) only [z_0, z_1, z_2, z_3, z_4, z_5, z_6, z_7, z_8, z_9, z_10, z_12, z_13, z_20, z_21, z_25, z_56, z_350, z_31, z_32, z_36, z_48, z_57, z_61, z_97, z_100, z_122, z_125, z_126, z_144, z_255, z_700, z_1000, z_1548, nI_add, pk_mul, pk_sub, nI_clamp, nI_leI, nI_ltI, nI_eq, z_in, z_m1, z_m1b, lg_cmp_eq, z_cmp, Decidable.not_not, w_ie, w_in, w_il, w_le, w_ln, w_li, w_ir, w_lr, ln_P_tape, ln_W_text, ln_W_starts, ln_W_ends, ln_W_lines, ln_W_names, ln_W_values, ln_PL_jobs, ln_PL_parts, ln_FT_reached, ln_EX_jobs, ln_EX_codes, ln_CB_names, ln_CB_values, ln_M_tape, ln_M_source, ln_M_wordAt, ln_M_wordEnd, ln_M_names, ln_M_itemCount, ln_M_itemFirst, ln_M_itemWords, ln_M_itemUses, ln_M_keptAt, ln_M_keptEnd, ln_M_needCount, ln_M_axisCount, ln_M_valueCount, ln_M_needed, ln_M_axes, ln_M_values, ln_M_includes, ln_M_excludes, ln_M_pairCount, ln_M_pairName, ln_M_pairValue, ln_M_signCount, ln_M_signs, ln_M_signName, ln_M_signValue, ln_M_whose, ln_M_which, ln_M_pile, ln_M_reaches, ln_M_stepsOf, ln_M_known, ln_JB_needed, ln_JB_axes, ln_JS_used, ln_JS_stepWords, ln_PS_used, ln_PS_stepWords, ln_IN_rows, ln_EC_rows, ln_IR_names, ln_IR_values, ln_ER_names, ln_ER_values, ln_CD_kinds, ln_CD_names, ln_CD_values, ln_AX_values] <;> omega) | assumption) ?_)
          rw [nI_1, nI_clamp (by omega)]
          refine ih2 (p + 1) _ (by omega) (hf.wi rfl) (fun q hq => ?_)
          rw [sw_s]
          by_cases v : q = p
          · subst v
            rw [w_ie ⟨rfl, rfl⟩, up_e]
          · rw [w_in (by omega), up_n v]
            exact hs q hq
      exact inner P.np 0 h (by omega) hf hs
  have zero : ∀ m i (h : mj_H), i + m = 8 → fr inMt h0 h → (∀ p, p < i → h.1 604 p = nI 0) → mr_M mj_KK d 74 2 [some (.ref 573), some (.int (nI j)), some (.int (nI i)), none] [] h Q := by
    intro m
    induction m with
    | zero =>
      intro i h hi hf hz
      exact kb_74_2 (fun _ => kb_74_21 (outer P.np 0 h (by omega) hf (fun p hp => hz p (by omega)))) (fun c => (by simp (disch := omega) only [z_0, z_1, z_2, z_3, z_4, z_5, z_6, z_7, z_8, z_9, z_10, z_12, z_13, z_20, z_21, z_25, z_56, z_350, z_31, z_32, z_36, z_48, z_57, z_61, z_97, z_100, z_122, z_125, z_126, z_144, z_255, z_700, z_1000, z_1548, nI_add, pk_mul, pk_sub, nI_clamp, nI_leI, nI_ltI, nI_eq, z_in, z_m1, z_m1b, lg_cmp_eq, z_cmp, Decidable.not_not, w_ie, w_in, w_il, w_le, w_ln, w_li, w_ir, w_lr] at c; exfalso; omega))
    | succ m ih =>
      intro i h hi hf hz
      have H := hf.rs H0
      refine kb_74_2 (fun c => (by simp (disch := omega) only [z_0, z_1, z_2, z_3, z_4, z_5, z_6, z_7, z_8, z_9, z_10, z_12, z_13, z_20, z_21, z_25, z_56, z_350, z_31, z_32, z_36, z_48, z_57, z_61, z_97, z_100, z_122, z_125, z_126, z_144, z_255, z_700, z_1000, z_1548, nI_add, pk_mul, pk_sub, nI_clamp, nI_leI, nI_ltI, nI_eq, z_in, z_m1, z_m1b, lg_cmp_eq, z_cmp, Decidable.not_not, w_ie, w_in, w_il, w_le, w_ln, w_li, w_ir, w_lr] at c; exfalso; omega)) (fun _ => kb_74_8 (by first | with_reducible assumption | with_reducible exact kd_M | assumption) (by first | with_reducible assumption | exact rf_M_stepsOf H | assumption) (by first | with_reducible assumption | with_reducible exact kd_M_stepsOf | assumption) (by first | with_reducible assumption | (simp (disch := omega) only [z_0, z_1, z_2, z_3, z_4, z_5, z_6, z_7, z_8, z_9, z_10, z_12, z_13, z_20, z_21, z_25, z_56, z_350, z_31, z_32, z_36, z_48, z_57, z_61, z_97, z_100, z_122, z_125, z_126, z_144, z_255, z_700, z_1000, z_1548, nI_add, pk_mul, pk_sub, nI_clamp, nI_leI, nI_ltI, nI_eq, z_in, z_m1, z_m1b, lg_cmp_eq, z_cmp, Decidable.not_not, w_ie, w_in, w_il, w_le, w_ln, w_li, w_ir, w_lr, ln_P_tape, ln_W_text, ln_W_starts, ln_W_ends, ln_W_lines, ln_W_names, ln_W_values, ln_PL_jobs, ln_PL_parts, ln_FT_reached, ln_EX_jobs, ln_EX_codes, ln_CB_names, ln_CB_values, ln_M_tape, ln_M_source, ln_M_wordAt, ln_M_wordEnd, ln_M_names, ln_M_itemCount, ln_M_itemFirst, ln_M_itemWords, ln_M_itemUses, ln_M_keptAt, ln_M_keptEnd, ln_M_needCount, ln_M_axisCount, ln_M_valueCount, ln_M_needed, ln_M_axes, ln_M_values, ln_M_includes, ln_M_excludes, ln_M_pairCount, ln_M_pairName, ln_M_pairValue, ln_M_signCount, ln_M_signs, ln_M_signName, ln_M_signValue, ln_M_whose, ln_M_which, ln_M_pile, ln_M_reaches, ln_M_stepsOf, ln_M_known, ln_JB_needed, ln_JB_axes, ln_JS_used, ln_JS_stepWords, ln_PS_used, ln_PS_stepWords, ln_IN_rows, ln_EC_rows, ln_IR_names, ln_IR_values, ln_ER_names, ln_ER_values, ln_CD_kinds, ln_CD_names, ln_CD_values, ln_AX_values] <;> omega) | assumption) ?_)
      rw [nI_1, nI_clamp (by omega)]
      refine ih (i + 1) _ (by omega) (hf.wi rfl) (fun p hp => ?_)
      by_cases v : p = i
      · rw [v, w_ie ⟨rfl, rfl⟩]
        rfl
      · rw [w_in (by omega)]
        exact hz p (by omega)
  exact zero 8 0 h0 rfl fr.rfl' (fun p hp => absurd hp (Nat.not_lt_zero p))
/-- find -/
theorem s75 {j l : Nat} {r : Nat × Nat} (hd : 2 ≤ d) (H : mj_RS h) (hP : PlM h W kept P) (hj : j < P.nj) (h0f : (fc P).1 = 0) (hσ : SM h σ) (hp : pf P σ) (hl : l < 100000) (hr : fd P σ 9 j l = some r) (kk : Q (some (.int (nI (8 * r.1 + r.2)))) h) : mr_C mj_KK d 75 [.ref 573, .int (nI j), .int (nI l)] h Q := by
  show mr_M mj_KK d 75 0 [some (.ref 573), some (.int (nI j)), some (.int (nI l)), none, none] [] h Q
  have j12 := hP.1.2.1
  have p8 := hP.1.2.2.2.1
  obtain ⟨-, g2', g3', -, -⟩ := fc_0 h0f
  have fJ := fi_all (by omega) g2'
  have fP := fi_all (by omega) g3'
  refine kb_75_0 ?_
  have e9 : (8 : Int32) * nI j = nI (8 * j + 0) := pk_mul 8 j
  rw [e9]
  have outer : ∀ f k l, (k < P.nj ∨ (12 ≤ k ∧ k < 12 + P.np)) → l < 100000 → fd P σ f k l = some r → mr_M mj_KK d 75 8 [some (.ref 573), none, none, some (.int (nI l)), some (.int (nI (8 * k + 0)))] [] h Q := by
    intro f
    induction f with
    | zero =>
      intro k l hk hl hr
      cases hr
    | succ f ih =>
      intro k l hk hl hr
      have hk20 : k < 20 := by omega
      have hm : f2 P k = false := by
        rcases hk with v | v
        · exact fJ k v
        · have := fP (k - 12) (by omega)
          rw [show 12 + (k - 12) = k from by omega] at this
          exact this
      obtain ⟨x1, x2, x3⟩ := hP.2.2.2.1 k hk20
      rw [fd_s] at hr
      have inner : ∀ n i l2, i + n = (P.sc k).2.length → l2 < 100000 → scn P σ (P.sc k).2 n i l2 = scn P σ (P.sc k).2 (P.sc k).2.length 0 l → mr_M mj_KK d 75 8 [some (.ref 573), none, none, some (.int (nI l2)), some (.int (nI (8 * k + i)))] [] h Q := by
        intro n
        induction n with
        | zero =>
          intro i l2 hi hl2 he2
          have he2 : (i, l2) = _ := he2
          rw [← he2, if_neg (by show ¬ i < _; omega)] at hr
          cases hr
        | succ n ih2 =>
          intro i l2 hi hl2 he2
          rw [scn_s] at he2
          have hi2 : i < (P.sc k).2.length := by omega
          have e0 := (x3 i hi2).1
          have b := sz_le (t := (P.sc k).2.getD i (0, 0, 0)) hp
          have sz : mr_M mj_KK d 75 24 [some (.ref 573), none, none, some (.int (nI l2)), some (.int (nI (8 * k + i)))] [] h Q ∨ (((P.sc k).2.getD i (0, 0, 0)).1 = 0 ∧ l2 = 0) := by
            by_cases q : ((P.sc k).2.getD i (0, 0, 0)).1 = 0 ∧ l2 = 0
            · exact Or.inr q
            · left
              refine kb_75_24 (by first | with_reducible assumption | with_reducible exact kd_M | assumption) (by omega) (s72 (by omega) H hP hk20 hm hσ hi2 (kb_75_31 (fun c => ?_) (fun c => kb_75_34 (by first | with_reducible assumption | with_reducible exact kd_M | assumption) (by omega) (s72 (by omega) H hP hk20 hm hσ hi2 (kb_75_41 ?_)))))
              · simp (disch := omega) only [z_0, z_1, z_2, z_3, z_4, z_5, z_6, z_7, z_8, z_9, z_10, z_12, z_13, z_20, z_21, z_25, z_56, z_350, z_31, z_32, z_36, z_48, z_57, z_61, z_97, z_100, z_122, z_125, z_126, z_144, z_255, z_700, z_1000, z_1548, nI_add, pk_mul, pk_sub, nI_clamp, nI_leI, nI_ltI, nI_eq, z_in, z_m1, z_m1b, lg_cmp_eq, z_cmp, Decidable.not_not, w_ie, w_in, w_il, w_le, w_ln, w_li, w_ir, w_lr] at c
                rw [if_pos c] at he2
                have hu : ¬ ((P.sc k).2.getD i (0, 0, 0)).1 = 0 := by
                  intro v
                  unfold szI at c
                  rw [if_pos v] at c
                  exact q ⟨v, by omega⟩
                obtain ⟨z, z1, z2⟩ := f2_use hm hi2 hu
                rw [← he2, if_pos (show (i, l2).1 < (P.sc k).2.length from hi2), if_neg (show ¬ ((P.sc k).2.getD (i, l2).1 (0, 0, 0)).1 = 0 from hu), if_neg (show ¬ pN P ((P.sc k).2.getD (i, l2).1 (0, 0, 0)).1 = -1 from by rw [z2]; exact m1_ne (by omega)), show (pN P ((P.sc k).2.getD (i, l2).1 (0, 0, 0)).1).toNatClampNeg = z from nI_cl z2 (by omega)] at hr
                refine kb_75_49 (by first | with_reducible assumption | with_reducible exact kd_M | assumption) (by first | with_reducible assumption | exact rf_M_itemUses H | assumption) (by first | with_reducible assumption | with_reducible exact kd_M_itemUses | assumption) (by first | with_reducible assumption | (simp (disch := omega) only [z_0, z_1, z_2, z_3, z_4, z_5, z_6, z_7, z_8, z_9, z_10, z_12, z_13, z_20, z_21, z_25, z_56, z_350, z_31, z_32, z_36, z_48, z_57, z_61, z_97, z_100, z_122, z_125, z_126, z_144, z_255, z_700, z_1000, z_1548, nI_add, pk_mul, pk_sub, nI_clamp, nI_leI, nI_ltI, nI_eq, z_in, z_m1, z_m1b, lg_cmp_eq, z_cmp, Decidable.not_not, w_ie, w_in, w_il, w_le, w_ln, w_li, w_ir, w_lr, ln_P_tape, ln_W_text, ln_W_starts, ln_W_ends, ln_W_lines, ln_W_names, ln_W_values, ln_PL_jobs, ln_PL_parts, ln_FT_reached, ln_EX_jobs, ln_EX_codes, ln_CB_names, ln_CB_values, ln_M_tape, ln_M_source, ln_M_wordAt, ln_M_wordEnd, ln_M_names, ln_M_itemCount, ln_M_itemFirst, ln_M_itemWords, ln_M_itemUses, ln_M_keptAt, ln_M_keptEnd, ln_M_needCount, ln_M_axisCount, ln_M_valueCount, ln_M_needed, ln_M_axes, ln_M_values, ln_M_includes, ln_M_excludes, ln_M_pairCount, ln_M_pairName, ln_M_pairValue, ln_M_signCount, ln_M_signs, ln_M_signName, ln_M_signValue, ln_M_whose, ln_M_which, ln_M_pile, ln_M_reaches, ln_M_stepsOf, ln_M_known, ln_JB_needed, ln_JB_axes, ln_JS_used, ln_JS_stepWords, ln_PS_used, ln_PS_stepWords, ln_IN_rows, ln_EC_rows, ln_IR_names, ln_IR_values, ln_ER_names, ln_ER_values, ln_CD_kinds, ln_CD_names, ln_CD_values, ln_AX_values] <;> omega) | assumption) (by omega) ?_
                rw [nI_clamp (by omega), e0]
                refine s37P H hP ?_
                rw [z2]
                refine kb_75_64 ?_
                have e8 : (8 : Int32) * (12 + nI z) = nI (8 * (12 + z) + 0) := by rw [show (12 : Int32) = nI 12 from rfl, show (8 : Int32) = nI 8 from rfl, nI_add, pk_mul]; rfl
                rw [e8]
                exact ih (12 + z) l2 (Or.inr ⟨by omega, by omega⟩) hl2 hr
              · simp (disch := omega) only [z_0, z_1, z_2, z_3, z_4, z_5, z_6, z_7, z_8, z_9, z_10, z_12, z_13, z_20, z_21, z_25, z_56, z_350, z_31, z_32, z_36, z_48, z_57, z_61, z_97, z_100, z_122, z_125, z_126, z_144, z_255, z_700, z_1000, z_1548, nI_add, pk_mul, pk_sub, nI_clamp, nI_leI, nI_ltI, nI_eq, z_in, z_m1, z_m1b, lg_cmp_eq, z_cmp, Decidable.not_not, w_ie, w_in, w_il, w_le, w_ln, w_li, w_ir, w_lr] at c
                rw [if_neg c] at he2
                rw [pk_sub (by omega), nI_1]
                exact ih2 (i + 1) _ (by omega) (by omega) he2
          rcases sz with sz | ⟨v1, v2⟩
          · refine kb_75_8 (by first | with_reducible assumption | with_reducible exact kd_M | assumption) (by first | with_reducible assumption | exact rf_M_itemUses H | assumption) (by first | with_reducible assumption | with_reducible exact kd_M_itemUses | assumption) (by first | with_reducible assumption | (simp (disch := omega) only [z_0, z_1, z_2, z_3, z_4, z_5, z_6, z_7, z_8, z_9, z_10, z_12, z_13, z_20, z_21, z_25, z_56, z_350, z_31, z_32, z_36, z_48, z_57, z_61, z_97, z_100, z_122, z_125, z_126, z_144, z_255, z_700, z_1000, z_1548, nI_add, pk_mul, pk_sub, nI_clamp, nI_leI, nI_ltI, nI_eq, z_in, z_m1, z_m1b, lg_cmp_eq, z_cmp, Decidable.not_not, w_ie, w_in, w_il, w_le, w_ln, w_li, w_ir, w_lr, ln_P_tape, ln_W_text, ln_W_starts, ln_W_ends, ln_W_lines, ln_W_names, ln_W_values, ln_PL_jobs, ln_PL_parts, ln_FT_reached, ln_EX_jobs, ln_EX_codes, ln_CB_names, ln_CB_values, ln_M_tape, ln_M_source, ln_M_wordAt, ln_M_wordEnd, ln_M_names, ln_M_itemCount, ln_M_itemFirst, ln_M_itemWords, ln_M_itemUses, ln_M_keptAt, ln_M_keptEnd, ln_M_needCount, ln_M_axisCount, ln_M_valueCount, ln_M_needed, ln_M_axes, ln_M_values, ln_M_includes, ln_M_excludes, ln_M_pairCount, ln_M_pairName, ln_M_pairValue, ln_M_signCount, ln_M_signs, ln_M_signName, ln_M_signValue, ln_M_whose, ln_M_which, ln_M_pile, ln_M_reaches, ln_M_stepsOf, ln_M_known, ln_JB_needed, ln_JB_axes, ln_JS_used, ln_JS_stepWords, ln_PS_used, ln_PS_stepWords, ln_IN_rows, ln_EC_rows, ln_IR_names, ln_IR_values, ln_ER_names, ln_ER_values, ln_CD_kinds, ln_CD_names, ln_CD_values, ln_AX_values] <;> omega) | assumption) (fun _ => sz) (fun c => kb_75_20 (fun c2 => ?_) (fun _ => sz))
            simp (disch := omega) only [z_0, z_1, z_2, z_3, z_4, z_5, z_6, z_7, z_8, z_9, z_10, z_12, z_13, z_20, z_21, z_25, z_56, z_350, z_31, z_32, z_36, z_48, z_57, z_61, z_97, z_100, z_122, z_125, z_126, z_144, z_255, z_700, z_1000, z_1548, nI_add, pk_mul, pk_sub, nI_clamp, nI_leI, nI_ltI, nI_eq, z_in, z_m1, z_m1b, lg_cmp_eq, z_cmp, Decidable.not_not, w_ie, w_in, w_il, w_le, w_ln, w_li, w_ir, w_lr, e0] at c
            simp (disch := omega) only [z_0, z_1, z_2, z_3, z_4, z_5, z_6, z_7, z_8, z_9, z_10, z_12, z_13, z_20, z_21, z_25, z_56, z_350, z_31, z_32, z_36, z_48, z_57, z_61, z_97, z_100, z_122, z_125, z_126, z_144, z_255, z_700, z_1000, z_1548, nI_add, pk_mul, pk_sub, nI_clamp, nI_leI, nI_ltI, nI_eq, z_in, z_m1, z_m1b, lg_cmp_eq, z_cmp, Decidable.not_not, w_ie, w_in, w_il, w_le, w_ln, w_li, w_ir, w_lr] at c2
            have c2 : l2 = 0 := by omega
            have s1 : szI P σ ((P.sc k).2.getD i (0, 0, 0)) = 1 := by
              unfold szI
              rw [if_pos c]
            rw [if_pos (by omega)] at he2
            rw [← he2, if_pos (show (i, l2).1 < (P.sc k).2.length from hi2), if_pos (show ((P.sc k).2.getD (i, l2).1 (0, 0, 0)).1 = 0 from c)] at hr
            cases hr
            exact kb_75_71 kk
          · subst v2
            have s1 : szI P σ ((P.sc k).2.getD i (0, 0, 0)) = 1 := by
              unfold szI
              rw [if_pos v1]
            rw [if_pos (by omega)] at he2
            rw [← he2, if_pos (show (i, 0).1 < (P.sc k).2.length from hi2), if_pos (show ((P.sc k).2.getD (i, 0).1 (0, 0, 0)).1 = 0 from v1)] at hr
            cases hr
            refine kb_75_8 (by first | with_reducible assumption | with_reducible exact kd_M | assumption) (by first | with_reducible assumption | exact rf_M_itemUses H | assumption) (by first | with_reducible assumption | with_reducible exact kd_M_itemUses | assumption) (by first | with_reducible assumption | (simp (disch := omega) only [z_0, z_1, z_2, z_3, z_4, z_5, z_6, z_7, z_8, z_9, z_10, z_12, z_13, z_20, z_21, z_25, z_56, z_350, z_31, z_32, z_36, z_48, z_57, z_61, z_97, z_100, z_122, z_125, z_126, z_144, z_255, z_700, z_1000, z_1548, nI_add, pk_mul, pk_sub, nI_clamp, nI_leI, nI_ltI, nI_eq, z_in, z_m1, z_m1b, lg_cmp_eq, z_cmp, Decidable.not_not, w_ie, w_in, w_il, w_le, w_ln, w_li, w_ir, w_lr, ln_P_tape, ln_W_text, ln_W_starts, ln_W_ends, ln_W_lines, ln_W_names, ln_W_values, ln_PL_jobs, ln_PL_parts, ln_FT_reached, ln_EX_jobs, ln_EX_codes, ln_CB_names, ln_CB_values, ln_M_tape, ln_M_source, ln_M_wordAt, ln_M_wordEnd, ln_M_names, ln_M_itemCount, ln_M_itemFirst, ln_M_itemWords, ln_M_itemUses, ln_M_keptAt, ln_M_keptEnd, ln_M_needCount, ln_M_axisCount, ln_M_valueCount, ln_M_needed, ln_M_axes, ln_M_values, ln_M_includes, ln_M_excludes, ln_M_pairCount, ln_M_pairName, ln_M_pairValue, ln_M_signCount, ln_M_signs, ln_M_signName, ln_M_signValue, ln_M_whose, ln_M_which, ln_M_pile, ln_M_reaches, ln_M_stepsOf, ln_M_known, ln_JB_needed, ln_JB_axes, ln_JS_used, ln_JS_stepWords, ln_PS_used, ln_PS_stepWords, ln_IN_rows, ln_EC_rows, ln_IR_names, ln_IR_values, ln_ER_names, ln_ER_values, ln_CD_kinds, ln_CD_names, ln_CD_values, ln_AX_values] <;> omega) | assumption) (fun c => ?_) (fun _ => kb_75_20 (fun _ => kb_75_71 kk) (fun c => absurd (by decide) c))
            simp (disch := omega) only [z_0, z_1, z_2, z_3, z_4, z_5, z_6, z_7, z_8, z_9, z_10, z_12, z_13, z_20, z_21, z_25, z_56, z_350, z_31, z_32, z_36, z_48, z_57, z_61, z_97, z_100, z_122, z_125, z_126, z_144, z_255, z_700, z_1000, z_1548, nI_add, pk_mul, pk_sub, nI_clamp, nI_leI, nI_ltI, nI_eq, z_in, z_m1, z_m1b, lg_cmp_eq, z_cmp, Decidable.not_not, w_ie, w_in, w_il, w_le, w_ln, w_li, w_ir, w_lr, e0] at c
            exact absurd v1 c
      exact inner (P.sc k).2.length 0 l (by omega) hl rfl
  exact outer 9 j l (Or.inl hj) hl hr
end
