-- ===== the class expands =====
theorem ups_snoc {α : Type} {f : Nat → α} {a n : Nat} : ups f a (n + 1) = ups f a n ++ [f (a + n)] := by
  induction n generalizing a with
  | zero => rfl
  | succ n ih =>
    rw [ups_s, ih, ups_s, List.cons_append, show a + 1 + n = a + (n + 1) from by omega]
def cbF (as : Ax) (g : Nat → Nat) : Nat → Int64 × Int64 := fun a => (axN as a, (axV as a).getD (g a) 0)
/-- the class's number of a combination, of an entry -/
def cC (as : Ax) (m : Nat) : Nat := (dgA as m 0 * 5 + dgA as m 1) * 5 + dgA as m 2
def cEn (P : mj_P) (e : En) : Nat := if e.2.1 = 0 then cC (P.jr e.1).2.1 e.2.2 else 125 + e.2.2
/-- an entry's combination -/
def cmb (P : mj_P) (e : En) : Pp := if e.2.1 = 0 then cbL (P.jr e.1).2.1 (dgA (P.jr e.1).2.1 e.2.2) else (P.jr e.1).2.2.1.getD e.2.2 []
def inX : Nat → Nat → Prop := fun a _ => 567 ≤ a ∧ a ≤ 572
theorem PlC_X {h h' : mj_H} {P : mj_P} (A : PlC h P) (f : fr inX h h') : PlC h' P := A.fr f (fun a i h1 h2 h3 => by unfold inX; omega)
theorem PlC_P {h h' : mj_H} {P : mj_P} (A : PlC h P) (f : fr (inP 570) h h') : PlC h' P := A.fr f (fun a i h1 h2 h3 => by unfold inP; omega)
theorem inP_X {a i : Nat} (h : inP 570 a i) : inX a i := by
  unfold inP at h
  unfold inX
  omega
section
variable {d j : Nat} {h h0 : mj_H} {Q : Option Value → mj_H → Prop} {P : mj_P}
theorem axC (hP : PlC h P) (hj : j < P.nj) : AsC h j (P.jr j).2.1 := (hP.2.2.2.2.1 j hj).2.2.1
/-- Job.choices -/
theorem s125 {a : Nat} (H : mj_RS h) (hP : PlC h P) (hj : j < P.nj) (ha : a < 3) (kk : Q (some (.int (nI (nA (P.jr j).2.1 a)))) h) : mr_C mj_KK d 125 [.ref (12 + 44 * j), .int (nI a)] h Q := by
  show mr_M mj_KK d 125 0 [some (.ref (12 + 44 * j)), some (.int (nI a))] [] h Q
  have hj12 : j < 12 := by have := hP.2.1; omega
  obtain ⟨x1, x2, x3⟩ := axC hP hj
  unfold nA at kk
  generalize (P.jr j).2.1 = as at *
  refine kb_125_0 (fun c => (by simp (disch := omega) only [z_0, z_1, z_2, z_3, z_4, z_5, z_6, z_7, z_8, z_9, z_10, z_12, z_13, z_20, z_21, z_25, z_56, z_350, z_31, z_32, z_36, z_48, z_57, z_61, z_97, z_100, z_122, z_125, z_126, z_144, z_255, z_700, z_1000, z_1548, nI_add, pk_mul, pk_sub, nI_clamp, nI_leI, nI_ltI, nI_eq, z_in, z_m1, z_m1b, lg_cmp_eq, z_cmp, Decidable.not_not, w_ie, w_in, w_il, w_le, w_ln, w_li, w_ir, w_lr] at c; exfalso; omega)) (fun _ => kb_125_4 (by first | with_reducible assumption | with_reducible exact kd_JB _ (by omega) | assumption) (fun c => kb_125_24 (kb_125_25 ?_)) (fun c => ?_))
  · simp (disch := omega) only [z_0, z_1, z_2, z_3, z_4, z_5, z_6, z_7, z_8, z_9, z_10, z_12, z_13, z_20, z_21, z_25, z_56, z_350, z_31, z_32, z_36, z_48, z_57, z_61, z_97, z_100, z_122, z_125, z_126, z_144, z_255, z_700, z_1000, z_1548, nI_add, pk_mul, pk_sub, nI_clamp, nI_leI, nI_ltI, nI_eq, z_in, z_m1, z_m1b, lg_cmp_eq, z_cmp, Decidable.not_not, w_ie, w_in, w_il, w_le, w_ln, w_li, w_ir, w_lr, x1] at c
    rw [if_neg (by omega)] at kk
    exact kk
  · simp (disch := omega) only [z_0, z_1, z_2, z_3, z_4, z_5, z_6, z_7, z_8, z_9, z_10, z_12, z_13, z_20, z_21, z_25, z_56, z_350, z_31, z_32, z_36, z_48, z_57, z_61, z_97, z_100, z_122, z_125, z_126, z_144, z_255, z_700, z_1000, z_1548, nI_add, pk_mul, pk_sub, nI_clamp, nI_leI, nI_ltI, nI_eq, z_in, z_m1, z_m1b, lg_cmp_eq, z_cmp, Decidable.not_not, w_ie, w_in, w_il, w_le, w_ln, w_li, w_ir, w_lr, x1] at c
    rw [if_pos (by omega)] at kk
    have e := (x3 a (by omega)).2.1
    refine kb_125_12 (by first | with_reducible assumption | with_reducible exact kd_JB _ (by omega) | assumption) (by first | with_reducible assumption | exact rf_JB_axes H (by omega) | assumption) (by first | with_reducible assumption | with_reducible exact kd_JB_axes _ (by omega) | assumption) (by first | with_reducible assumption | (simp (disch := omega) only [z_0, z_1, z_2, z_3, z_4, z_5, z_6, z_7, z_8, z_9, z_10, z_12, z_13, z_20, z_21, z_25, z_56, z_350, z_31, z_32, z_36, z_48, z_57, z_61, z_97, z_100, z_122, z_125, z_126, z_144, z_255, z_700, z_1000, z_1548, nI_add, pk_mul, pk_sub, nI_clamp, nI_leI, nI_ltI, nI_eq, z_in, z_m1, z_m1b, lg_cmp_eq, z_cmp, Decidable.not_not, w_ie, w_in, w_il, w_le, w_ln, w_li, w_ir, w_lr, ln_P_tape, ln_W_text, ln_W_starts, ln_W_ends, ln_W_lines, ln_W_names, ln_W_values, ln_PL_jobs, ln_PL_parts, ln_FT_reached, ln_EX_jobs, ln_EX_codes, ln_CB_names, ln_CB_values, ln_M_tape, ln_M_source, ln_M_wordAt, ln_M_wordEnd, ln_M_names, ln_M_itemCount, ln_M_itemFirst, ln_M_itemWords, ln_M_itemUses, ln_M_keptAt, ln_M_keptEnd, ln_M_needCount, ln_M_axisCount, ln_M_valueCount, ln_M_needed, ln_M_axes, ln_M_values, ln_M_includes, ln_M_excludes, ln_M_pairCount, ln_M_pairName, ln_M_pairValue, ln_M_signCount, ln_M_signs, ln_M_signName, ln_M_signValue, ln_M_whose, ln_M_which, ln_M_pile, ln_M_reaches, ln_M_stepsOf, ln_M_known, ln_JB_needed, ln_JB_axes, ln_JS_used, ln_JS_stepWords, ln_PS_used, ln_PS_stepWords, ln_IN_rows, ln_EC_rows, ln_IR_names, ln_IR_values, ln_ER_names, ln_ER_values, ln_CD_kinds, ln_CD_names, ln_CD_values, ln_AX_values] <;> omega) | assumption) (by first | with_reducible assumption | exact rf_axes H (by omega) (by omega) | (simp (disch := omega) only [z_0, z_1, z_2, z_3, z_4, z_5, z_6, z_7, z_8, z_9, z_10, z_12, z_13, z_20, z_21, z_25, z_56, z_350, z_31, z_32, z_36, z_48, z_57, z_61, z_97, z_100, z_122, z_125, z_126, z_144, z_255, z_700, z_1000, z_1548, nI_add, pk_mul, pk_sub, nI_clamp, nI_leI, nI_ltI, nI_eq, z_in, z_m1, z_m1b, lg_cmp_eq, z_cmp, Decidable.not_not, w_ie, w_in, w_il, w_le, w_ln, w_li, w_ir, w_lr]; exact rf_axes H (by omega) (by omega)) | (simp (disch := omega) only [z_0, z_1, z_2, z_3, z_4, z_5, z_6, z_7, z_8, z_9, z_10, z_12, z_13, z_20, z_21, z_25, z_56, z_350, z_31, z_32, z_36, z_48, z_57, z_61, z_97, z_100, z_122, z_125, z_126, z_144, z_255, z_700, z_1000, z_1548, nI_add, pk_mul, pk_sub, nI_clamp, nI_leI, nI_ltI, nI_eq, z_in, z_m1, z_m1b, lg_cmp_eq, z_cmp, Decidable.not_not, w_ie, w_in, w_il, w_le, w_ln, w_li, w_ir, w_lr]; assumption) | assumption) (by first | with_reducible assumption | with_reducible exact kd_AX _ (by omega) _ (by omega) | assumption) (kb_125_25 ?_)
    rw [e]
    exact kk
/-- Job.addValue -/
theorem s127 {a : Nat} {g : Nat → Nat} (hd : 2 ≤ d) (H : mj_RS h) (hP : PlC h P) (hj : j < P.nj) (hA : axOK (P.jr j).2.1) (ha : a < 3) (hg : a < (P.jr j).2.1.length → g a < (axV (P.jr j).2.1 a).length) (hg5 : g a < 1000) (hC : PrC h 570 (ups (cbF (P.jr j).2.1 g) 0 (min a (P.jr j).2.1.length))) (kk : ∀ h', PrC h' 570 (ups (cbF (P.jr j).2.1 g) 0 (min (a + 1) (P.jr j).2.1.length)) → fr (inP 570) h h' → Q none h') : mr_C mj_KK d 127 [.ref (12 + 44 * j), .int (nI a), .int (nI (g a)), .ref 570] h Q := by
  show mr_M mj_KK d 127 0 [some (.ref (12 + 44 * j)), some (.int (nI a)), some (.int (nI (g a))), some (.ref 570)] [] h Q
  have hj12 : j < 12 := by have := hP.2.1; omega
  obtain ⟨x1, x2, x3⟩ := axC hP hj
  generalize (P.jr j).2.1 = as at *
  rcases Nat.lt_or_ge a as.length with q | q
  · obtain ⟨y1, y2, y3, y4⟩ := x3 a q
    have isa := isA_AX hj12 ha
    have kAX := isa.1
    have gl := hg q
    have e2 : h.1 (50 + 44 * j + 2 * a) 2 = nI (axV as a).length := y2
    have e1 : h.2.1 (50 + 44 * j + 2 * a) 0 = axN as a := y1
    have y5 : (axV as a).length ≤ 5 := y3
    have e3 : h.2.1 (51 + 44 * j + 2 * a) (g a) = (axV as a).getD (g a) 0 := by
      have := y4 (g a) gl
      rw [Nat.zero_add] at this
      rw [show 51 + 44 * j + 2 * a = 50 + 44 * j + 2 * a + 1 from by omega]
      exact this
    have kp : mj_kd mj_KK 570 = 6 := kd_CB
    have m1 : min a as.length = a := by omega
    have m2 : min (a + 1) as.length = a + 1 := by omega
    rw [m1] at hC
    rw [m2, ups_snoc, Nat.zero_add] at kk
    refine kb_127_0 (by first | with_reducible assumption | with_reducible exact kd_JB _ (by omega) | assumption) (fun c => (by simp (disch := omega) only [z_0, z_1, z_2, z_3, z_4, z_5, z_6, z_7, z_8, z_9, z_10, z_12, z_13, z_20, z_21, z_25, z_56, z_350, z_31, z_32, z_36, z_48, z_57, z_61, z_97, z_100, z_122, z_125, z_126, z_144, z_255, z_700, z_1000, z_1548, nI_add, pk_mul, pk_sub, nI_clamp, nI_leI, nI_ltI, nI_eq, z_in, z_m1, z_m1b, lg_cmp_eq, z_cmp, Decidable.not_not, w_ie, w_in, w_il, w_le, w_ln, w_li, w_ir, w_lr, x1] at c; exfalso; omega)) (fun _ => kb_127_8 (fun c => (by simp (disch := omega) only [z_0, z_1, z_2, z_3, z_4, z_5, z_6, z_7, z_8, z_9, z_10, z_12, z_13, z_20, z_21, z_25, z_56, z_350, z_31, z_32, z_36, z_48, z_57, z_61, z_97, z_100, z_122, z_125, z_126, z_144, z_255, z_700, z_1000, z_1548, nI_add, pk_mul, pk_sub, nI_clamp, nI_leI, nI_ltI, nI_eq, z_in, z_m1, z_m1b, lg_cmp_eq, z_cmp, Decidable.not_not, w_ie, w_in, w_il, w_le, w_ln, w_li, w_ir, w_lr] at c; exfalso; omega)) (fun _ => kb_127_12 (by first | with_reducible assumption | with_reducible exact kd_JB _ (by omega) | assumption) (by first | with_reducible assumption | exact rf_JB_axes H (by omega) | assumption) (by first | with_reducible assumption | with_reducible exact kd_JB_axes _ (by omega) | assumption) (by first | with_reducible assumption | (simp (disch := omega) only [z_0, z_1, z_2, z_3, z_4, z_5, z_6, z_7, z_8, z_9, z_10, z_12, z_13, z_20, z_21, z_25, z_56, z_350, z_31, z_32, z_36, z_48, z_57, z_61, z_97, z_100, z_122, z_125, z_126, z_144, z_255, z_700, z_1000, z_1548, nI_add, pk_mul, pk_sub, nI_clamp, nI_leI, nI_ltI, nI_eq, z_in, z_m1, z_m1b, lg_cmp_eq, z_cmp, Decidable.not_not, w_ie, w_in, w_il, w_le, w_ln, w_li, w_ir, w_lr, ln_P_tape, ln_W_text, ln_W_starts, ln_W_ends, ln_W_lines, ln_W_names, ln_W_values, ln_PL_jobs, ln_PL_parts, ln_FT_reached, ln_EX_jobs, ln_EX_codes, ln_CB_names, ln_CB_values, ln_M_tape, ln_M_source, ln_M_wordAt, ln_M_wordEnd, ln_M_names, ln_M_itemCount, ln_M_itemFirst, ln_M_itemWords, ln_M_itemUses, ln_M_keptAt, ln_M_keptEnd, ln_M_needCount, ln_M_axisCount, ln_M_valueCount, ln_M_needed, ln_M_axes, ln_M_values, ln_M_includes, ln_M_excludes, ln_M_pairCount, ln_M_pairName, ln_M_pairValue, ln_M_signCount, ln_M_signs, ln_M_signName, ln_M_signValue, ln_M_whose, ln_M_which, ln_M_pile, ln_M_reaches, ln_M_stepsOf, ln_M_known, ln_JB_needed, ln_JB_axes, ln_JS_used, ln_JS_stepWords, ln_PS_used, ln_PS_stepWords, ln_IN_rows, ln_EC_rows, ln_IR_names, ln_IR_values, ln_ER_names, ln_ER_values, ln_CD_kinds, ln_CD_names, ln_CD_values, ln_AX_values] <;> omega) | assumption) (by first | with_reducible assumption | exact rf_axes H (by omega) (by omega) | (simp (disch := omega) only [z_0, z_1, z_2, z_3, z_4, z_5, z_6, z_7, z_8, z_9, z_10, z_12, z_13, z_20, z_21, z_25, z_56, z_350, z_31, z_32, z_36, z_48, z_57, z_61, z_97, z_100, z_122, z_125, z_126, z_144, z_255, z_700, z_1000, z_1548, nI_add, pk_mul, pk_sub, nI_clamp, nI_leI, nI_ltI, nI_eq, z_in, z_m1, z_m1b, lg_cmp_eq, z_cmp, Decidable.not_not, w_ie, w_in, w_il, w_le, w_ln, w_li, w_ir, w_lr]; exact rf_axes H (by omega) (by omega)) | (simp (disch := omega) only [z_0, z_1, z_2, z_3, z_4, z_5, z_6, z_7, z_8, z_9, z_10, z_12, z_13, z_20, z_21, z_25, z_56, z_350, z_31, z_32, z_36, z_48, z_57, z_61, z_97, z_100, z_122, z_125, z_126, z_144, z_255, z_700, z_1000, z_1548, nI_add, pk_mul, pk_sub, nI_clamp, nI_leI, nI_ltI, nI_eq, z_in, z_m1, z_m1b, lg_cmp_eq, z_cmp, Decidable.not_not, w_ie, w_in, w_il, w_le, w_ln, w_li, w_ir, w_lr]; assumption) | assumption) (by first | with_reducible assumption | with_reducible exact kd_AX _ (by omega) _ (by omega) | assumption) (fun c => (by simp (disch := omega) only [z_0, z_1, z_2, z_3, z_4, z_5, z_6, z_7, z_8, z_9, z_10, z_12, z_13, z_20, z_21, z_25, z_56, z_350, z_31, z_32, z_36, z_48, z_57, z_61, z_97, z_100, z_122, z_125, z_126, z_144, z_255, z_700, z_1000, z_1548, nI_add, pk_mul, pk_sub, nI_clamp, nI_leI, nI_ltI, nI_eq, z_in, z_m1, z_m1b, lg_cmp_eq, z_cmp, Decidable.not_not, w_ie, w_in, w_il, w_le, w_ln, w_li, w_ir, w_lr, e2] at c; exfalso; omega)) (fun _ => kb_127_25 (by first | with_reducible assumption | with_reducible exact kd_JB _ (by omega) | assumption) (by first | with_reducible assumption | exact rf_JB_axes H (by omega) | assumption) (by first | with_reducible assumption | with_reducible exact kd_JB_axes _ (by omega) | assumption) (by first | with_reducible assumption | (simp (disch := omega) only [z_0, z_1, z_2, z_3, z_4, z_5, z_6, z_7, z_8, z_9, z_10, z_12, z_13, z_20, z_21, z_25, z_56, z_350, z_31, z_32, z_36, z_48, z_57, z_61, z_97, z_100, z_122, z_125, z_126, z_144, z_255, z_700, z_1000, z_1548, nI_add, pk_mul, pk_sub, nI_clamp, nI_leI, nI_ltI, nI_eq, z_in, z_m1, z_m1b, lg_cmp_eq, z_cmp, Decidable.not_not, w_ie, w_in, w_il, w_le, w_ln, w_li, w_ir, w_lr, ln_P_tape, ln_W_text, ln_W_starts, ln_W_ends, ln_W_lines, ln_W_names, ln_W_values, ln_PL_jobs, ln_PL_parts, ln_FT_reached, ln_EX_jobs, ln_EX_codes, ln_CB_names, ln_CB_values, ln_M_tape, ln_M_source, ln_M_wordAt, ln_M_wordEnd, ln_M_names, ln_M_itemCount, ln_M_itemFirst, ln_M_itemWords, ln_M_itemUses, ln_M_keptAt, ln_M_keptEnd, ln_M_needCount, ln_M_axisCount, ln_M_valueCount, ln_M_needed, ln_M_axes, ln_M_values, ln_M_includes, ln_M_excludes, ln_M_pairCount, ln_M_pairName, ln_M_pairValue, ln_M_signCount, ln_M_signs, ln_M_signName, ln_M_signValue, ln_M_whose, ln_M_which, ln_M_pile, ln_M_reaches, ln_M_stepsOf, ln_M_known, ln_JB_needed, ln_JB_axes, ln_JS_used, ln_JS_stepWords, ln_PS_used, ln_PS_stepWords, ln_IN_rows, ln_EC_rows, ln_IR_names, ln_IR_values, ln_ER_names, ln_ER_values, ln_CD_kinds, ln_CD_names, ln_CD_values, ln_AX_values] <;> omega) | assumption) (by first | with_reducible assumption | exact rf_axes H (by omega) (by omega) | (simp (disch := omega) only [z_0, z_1, z_2, z_3, z_4, z_5, z_6, z_7, z_8, z_9, z_10, z_12, z_13, z_20, z_21, z_25, z_56, z_350, z_31, z_32, z_36, z_48, z_57, z_61, z_97, z_100, z_122, z_125, z_126, z_144, z_255, z_700, z_1000, z_1548, nI_add, pk_mul, pk_sub, nI_clamp, nI_leI, nI_ltI, nI_eq, z_in, z_m1, z_m1b, lg_cmp_eq, z_cmp, Decidable.not_not, w_ie, w_in, w_il, w_le, w_ln, w_li, w_ir, w_lr]; exact rf_axes H (by omega) (by omega)) | (simp (disch := omega) only [z_0, z_1, z_2, z_3, z_4, z_5, z_6, z_7, z_8, z_9, z_10, z_12, z_13, z_20, z_21, z_25, z_56, z_350, z_31, z_32, z_36, z_48, z_57, z_61, z_97, z_100, z_122, z_125, z_126, z_144, z_255, z_700, z_1000, z_1548, nI_add, pk_mul, pk_sub, nI_clamp, nI_leI, nI_ltI, nI_eq, z_in, z_m1, z_m1b, lg_cmp_eq, z_cmp, Decidable.not_not, w_ie, w_in, w_il, w_le, w_ln, w_li, w_ir, w_lr]; assumption) | assumption) (by first | with_reducible assumption | with_reducible exact kd_AX _ (by omega) _ (by omega) | assumption) (by first | with_reducible assumption | (simp (disch := omega) only [z_0, z_1, z_2, z_3, z_4, z_5, z_6, z_7, z_8, z_9, z_10, z_12, z_13, z_20, z_21, z_25, z_56, z_350, z_31, z_32, z_36, z_48, z_57, z_61, z_97, z_100, z_122, z_125, z_126, z_144, z_255, z_700, z_1000, z_1548, nI_add, pk_mul, pk_sub, nI_clamp, nI_leI, nI_ltI, nI_eq, z_in, z_m1, z_m1b, lg_cmp_eq, z_cmp, Decidable.not_not, w_ie, w_in, w_il, w_le, w_ln, w_li, w_ir, w_lr, ln_P_tape, ln_W_text, ln_W_starts, ln_W_ends, ln_W_lines, ln_W_names, ln_W_values, ln_PL_jobs, ln_PL_parts, ln_FT_reached, ln_EX_jobs, ln_EX_codes, ln_CB_names, ln_CB_values, ln_M_tape, ln_M_source, ln_M_wordAt, ln_M_wordEnd, ln_M_names, ln_M_itemCount, ln_M_itemFirst, ln_M_itemWords, ln_M_itemUses, ln_M_keptAt, ln_M_keptEnd, ln_M_needCount, ln_M_axisCount, ln_M_valueCount, ln_M_needed, ln_M_axes, ln_M_values, ln_M_includes, ln_M_excludes, ln_M_pairCount, ln_M_pairName, ln_M_pairValue, ln_M_signCount, ln_M_signs, ln_M_signName, ln_M_signValue, ln_M_whose, ln_M_which, ln_M_pile, ln_M_reaches, ln_M_stepsOf, ln_M_known, ln_JB_needed, ln_JB_axes, ln_JS_used, ln_JS_stepWords, ln_PS_used, ln_PS_stepWords, ln_IN_rows, ln_EC_rows, ln_IR_names, ln_IR_values, ln_ER_names, ln_ER_values, ln_CD_kinds, ln_CD_names, ln_CD_values, ln_AX_values] <;> omega) | assumption) (by first | with_reducible assumption | exact rf_axes H (by omega) (by omega) | (simp (disch := omega) only [z_0, z_1, z_2, z_3, z_4, z_5, z_6, z_7, z_8, z_9, z_10, z_12, z_13, z_20, z_21, z_25, z_56, z_350, z_31, z_32, z_36, z_48, z_57, z_61, z_97, z_100, z_122, z_125, z_126, z_144, z_255, z_700, z_1000, z_1548, nI_add, pk_mul, pk_sub, nI_clamp, nI_leI, nI_ltI, nI_eq, z_in, z_m1, z_m1b, lg_cmp_eq, z_cmp, Decidable.not_not, w_ie, w_in, w_il, w_le, w_ln, w_li, w_ir, w_lr]; exact rf_axes H (by omega) (by omega)) | (simp (disch := omega) only [z_0, z_1, z_2, z_3, z_4, z_5, z_6, z_7, z_8, z_9, z_10, z_12, z_13, z_20, z_21, z_25, z_56, z_350, z_31, z_32, z_36, z_48, z_57, z_61, z_97, z_100, z_122, z_125, z_126, z_144, z_255, z_700, z_1000, z_1548, nI_add, pk_mul, pk_sub, nI_clamp, nI_leI, nI_ltI, nI_eq, z_in, z_m1, z_m1b, lg_cmp_eq, z_cmp, Decidable.not_not, w_ie, w_in, w_il, w_le, w_ln, w_li, w_ir, w_lr]; assumption) | assumption) (by first | with_reducible assumption | with_reducible exact kd_AX _ (by omega) _ (by omega) | assumption) (by first | with_reducible assumption | exact rf_AX_values H (by omega) (by omega) | assumption) (by first | with_reducible assumption | with_reducible exact kd_AX_values _ (by omega) _ (by omega) | assumption) (by first | with_reducible assumption | (simp (disch := omega) only [z_0, z_1, z_2, z_3, z_4, z_5, z_6, z_7, z_8, z_9, z_10, z_12, z_13, z_20, z_21, z_25, z_56, z_350, z_31, z_32, z_36, z_48, z_57, z_61, z_97, z_100, z_122, z_125, z_126, z_144, z_255, z_700, z_1000, z_1548, nI_add, pk_mul, pk_sub, nI_clamp, nI_leI, nI_ltI, nI_eq, z_in, z_m1, z_m1b, lg_cmp_eq, z_cmp, Decidable.not_not, w_ie, w_in, w_il, w_le, w_ln, w_li, w_ir, w_lr, ln_P_tape, ln_W_text, ln_W_starts, ln_W_ends, ln_W_lines, ln_W_names, ln_W_values, ln_PL_jobs, ln_PL_parts, ln_FT_reached, ln_EX_jobs, ln_EX_codes, ln_CB_names, ln_CB_values, ln_M_tape, ln_M_source, ln_M_wordAt, ln_M_wordEnd, ln_M_names, ln_M_itemCount, ln_M_itemFirst, ln_M_itemWords, ln_M_itemUses, ln_M_keptAt, ln_M_keptEnd, ln_M_needCount, ln_M_axisCount, ln_M_valueCount, ln_M_needed, ln_M_axes, ln_M_values, ln_M_includes, ln_M_excludes, ln_M_pairCount, ln_M_pairName, ln_M_pairValue, ln_M_signCount, ln_M_signs, ln_M_signName, ln_M_signValue, ln_M_whose, ln_M_which, ln_M_pile, ln_M_reaches, ln_M_stepsOf, ln_M_known, ln_JB_needed, ln_JB_axes, ln_JS_used, ln_JS_stepWords, ln_PS_used, ln_PS_stepWords, ln_IN_rows, ln_EC_rows, ln_IR_names, ln_IR_values, ln_ER_names, ln_ER_values, ln_CD_kinds, ln_CD_names, ln_CD_values, ln_AX_values] <;> omega) | assumption) (by first | with_reducible assumption | with_reducible exact kd_CB | with_reducible exact kd_IR _ (by omega) _ (by omega) | with_reducible exact kd_ER _ (by omega) _ (by omega) | assumption) (by omega) ?_)))
    rw [nI_clamp (by omega), e1, e3]
    refine s134 (by omega) isP_CB H hC (fun r => ?_) (fun r1 r2 h' g1 g2 => kb_127_49 (kb_127_50 (kk h' g1 g2)))
    exfalso
    rcases r with r | r
    · rw [ups_len] at r
      omega
    · refine r (vO_none (fun i hi => ?_))
      rw [ups_len] at hi
      rw [ups_get hi, Nat.zero_add]
      intro e
      have := axN_inj hA (show i < as.length by omega) q e
      omega
  · have m1 : min (a + 1) as.length = min a as.length := by omega
    rw [m1] at kk
    exact kb_127_0 (by first | with_reducible assumption | with_reducible exact kd_JB _ (by omega) | assumption) (fun _ => kb_127_50 (kk h hC fr.rfl')) (fun c => (by simp (disch := omega) only [z_0, z_1, z_2, z_3, z_4, z_5, z_6, z_7, z_8, z_9, z_10, z_12, z_13, z_20, z_21, z_25, z_56, z_350, z_31, z_32, z_36, z_48, z_57, z_61, z_97, z_100, z_122, z_125, z_126, z_144, z_255, z_700, z_1000, z_1548, nI_add, pk_mul, pk_sub, nI_clamp, nI_leI, nI_ltI, nI_eq, z_in, z_m1, z_m1b, lg_cmp_eq, z_cmp, Decidable.not_not, w_ie, w_in, w_il, w_le, w_ln, w_li, w_ir, w_lr, x1] at c; exfalso; omega))
/-- Job.fillCombination, of the axes -/
theorem s126a {m : Nat} (hd : 3 ≤ d) (H0 : mj_RS h0) (hP : PlC h0 P) (hj : j < P.nj) (hA : axOK (P.jr j).2.1) (hm : m < prA (P.jr j).2.1) (kk : ∀ h', PrC h' 570 (cbL (P.jr j).2.1 (dgA (P.jr j).2.1 m)) → fr (inP 570) h0 h' → Q none h') : mr_C mj_KK d 126 [.ref (12 + 44 * j), .int (nI (cC (P.jr j).2.1 m)), .ref 570] h0 Q := by
  show mr_M mj_KK d 126 0 [some (.ref (12 + 44 * j)), some (.int (nI (cC (P.jr j).2.1 m))), some (.ref 570)] [] h0 Q
  have hj12 : j < 12 := by have := hP.2.1; omega
  have dl := dgA_lt hA hm
  have l0 := dl 0 (by decide)
  have l1 := dl 1 (by decide)
  have l2 := dl 2 (by decide)
  have b0 := (nA_le (a := 0) hA).2
  have b1 := (nA_le (a := 1) hA).2
  have b2 := (nA_le (a := 2) hA).2
  have nAl : ∀ a, a < (P.jr j).2.1.length → nA (P.jr j).2.1 a = (axV (P.jr j).2.1 a).length := fun a ha => by unfold nA; rw [if_pos ha]
  have hA3 := hA.1
  unfold cC
  generalize hg : dgA (P.jr j).2.1 m = g at *
  have ec : (g 0 * 5 + g 1) * 5 + g 2 < 125 := by omega
  refine kb_126_0 (by first | with_reducible assumption | with_reducible exact kd_CB | with_reducible exact kd_IR _ (by omega) _ (by omega) | with_reducible exact kd_ER _ (by omega) _ (by omega) | assumption) (fun c => (by simp (disch := omega) only [z_0, z_1, z_2, z_3, z_4, z_5, z_6, z_7, z_8, z_9, z_10, z_12, z_13, z_20, z_21, z_25, z_56, z_350, z_31, z_32, z_36, z_48, z_57, z_61, z_97, z_100, z_122, z_125, z_126, z_144, z_255, z_700, z_1000, z_1548, nI_add, pk_mul, pk_sub, nI_clamp, nI_leI, nI_ltI, nI_eq, z_in, z_m1, z_m1b, lg_cmp_eq, z_cmp, Decidable.not_not, w_ie, w_in, w_il, w_le, w_ln, w_li, w_ir, w_lr] at c; exfalso; omega)) (fun _ => ?_)
  have f0 : fr (inP 570) h0 (mj_w h0 570 2 (.int 0)) := fr.wi (P := inP 570) fr.rfl' (Or.inl rfl)
  have c0 : PrC (mj_w h0 570 2 (.int 0)) 570 (ups (cbF (P.jr j).2.1 g) 0 (min 0 (P.jr j).2.1.length)) := by
    rw [Nat.zero_min]
    exact ⟨by simp (disch := omega) only [z_0, z_1, z_2, z_3, z_4, z_5, z_6, z_7, z_8, z_9, z_10, z_12, z_13, z_20, z_21, z_25, z_56, z_350, z_31, z_32, z_36, z_48, z_57, z_61, z_97, z_100, z_122, z_125, z_126, z_144, z_255, z_700, z_1000, z_1548, nI_add, pk_mul, pk_sub, nI_clamp, nI_leI, nI_ltI, nI_eq, z_in, z_m1, z_m1b, lg_cmp_eq, z_cmp, Decidable.not_not, w_ie, w_in, w_il, w_le, w_ln, w_li, w_ir, w_lr]; rfl, Nat.zero_le _, fun i hi => absurd hi (Nat.not_lt_zero i)⟩
  generalize mj_w h0 570 2 (.int 0) = h at f0 c0
  have H := f0.rs H0
  have d0 : nI ((g 0 * 5 + g 1) * 5 + g 2) / 25 = nI (g 0) := by
    rw [show (25 : Int32) = nI 25 from rfl, pk_div (by omega) (by decide) (by decide)]
    congr 1
    omega
  have d1 : nI ((g 0 * 5 + g 1) * 5 + g 2) / 5 - nI ((g 0 * 5 + g 1) * 5 + g 2) / 5 / 5 * 5 = nI (g 1) := by
    rw [show (5 : Int32) = nI 5 from rfl, pk_div (by omega) (by decide) (by decide), pk_rem (by omega) (by decide) (by decide)]
    congr 1
    omega
  have d2 : nI ((g 0 * 5 + g 1) * 5 + g 2) - nI ((g 0 * 5 + g 1) * 5 + g 2) / 5 * 5 = nI (g 2) := by
    rw [show (5 : Int32) = nI 5 from rfl, pk_rem (by omega) (by decide) (by decide)]
    congr 1
    omega
  refine kb_126_11 (by first | decide | assumption | (simp (disch := omega) only [z_0, z_1, z_2, z_3, z_4, z_5, z_6, z_7, z_8, z_9, z_10, z_12, z_13, z_20, z_21, z_25, z_56, z_350, z_31, z_32, z_36, z_48, z_57, z_61, z_97, z_100, z_122, z_125, z_126, z_144, z_255, z_700, z_1000, z_1548, nI_add, pk_mul, pk_sub, nI_clamp, nI_leI, nI_ltI, nI_eq, z_in, z_m1, z_m1b, lg_cmp_eq, z_cmp, Decidable.not_not, w_ie, w_in, w_il, w_le, w_ln, w_li, w_ir, w_lr] <;> omega)) (by first | with_reducible assumption | with_reducible exact kd_JB _ (by omega) | assumption) (by omega) ?_
  rw [d0]
  refine s127 (a := 0) (g := g) (by omega) H (PlC_P hP f0) hj hA (by decide) (fun q => by rw [← nAl 0 q]; exact l0) (by omega) c0 (fun h1 c1 f1 => ?_)
  have f1 := f0.trans f1
  have H := f1.rs H0
  refine kb_126_21 (by first | decide | assumption | (simp (disch := omega) only [z_0, z_1, z_2, z_3, z_4, z_5, z_6, z_7, z_8, z_9, z_10, z_12, z_13, z_20, z_21, z_25, z_56, z_350, z_31, z_32, z_36, z_48, z_57, z_61, z_97, z_100, z_122, z_125, z_126, z_144, z_255, z_700, z_1000, z_1548, nI_add, pk_mul, pk_sub, nI_clamp, nI_leI, nI_ltI, nI_eq, z_in, z_m1, z_m1b, lg_cmp_eq, z_cmp, Decidable.not_not, w_ie, w_in, w_il, w_le, w_ln, w_li, w_ir, w_lr] <;> omega)) (by first | decide | assumption | (simp (disch := omega) only [z_0, z_1, z_2, z_3, z_4, z_5, z_6, z_7, z_8, z_9, z_10, z_12, z_13, z_20, z_21, z_25, z_56, z_350, z_31, z_32, z_36, z_48, z_57, z_61, z_97, z_100, z_122, z_125, z_126, z_144, z_255, z_700, z_1000, z_1548, nI_add, pk_mul, pk_sub, nI_clamp, nI_leI, nI_ltI, nI_eq, z_in, z_m1, z_m1b, lg_cmp_eq, z_cmp, Decidable.not_not, w_ie, w_in, w_il, w_le, w_ln, w_li, w_ir, w_lr] <;> omega)) (by first | with_reducible assumption | with_reducible exact kd_JB _ (by omega) | assumption) (by omega) ?_
  rw [d1]
  refine s127 (a := 1) (g := g) (by omega) H (PlC_P hP f1) hj hA (by decide) (fun q => by rw [← nAl 1 q]; exact l1) (by omega) c1 (fun h2 c2 f2 => ?_)
  have f2 := f1.trans f2
  have H := f2.rs H0
  refine kb_126_32 (by first | decide | assumption | (simp (disch := omega) only [z_0, z_1, z_2, z_3, z_4, z_5, z_6, z_7, z_8, z_9, z_10, z_12, z_13, z_20, z_21, z_25, z_56, z_350, z_31, z_32, z_36, z_48, z_57, z_61, z_97, z_100, z_122, z_125, z_126, z_144, z_255, z_700, z_1000, z_1548, nI_add, pk_mul, pk_sub, nI_clamp, nI_leI, nI_ltI, nI_eq, z_in, z_m1, z_m1b, lg_cmp_eq, z_cmp, Decidable.not_not, w_ie, w_in, w_il, w_le, w_ln, w_li, w_ir, w_lr] <;> omega)) (by first | with_reducible assumption | with_reducible exact kd_JB _ (by omega) | assumption) (by omega) ?_
  rw [d2]
  refine s127 (a := 2) (g := g) (by omega) H (PlC_P hP f2) hj hA (by decide) (fun q => by rw [← nAl 2 q]; exact l2) (by omega) c2 (fun h3 c3 f3 => ?_)
  have m3 : min (2 + 1) (P.jr j).2.1.length = (P.jr j).2.1.length := by omega
  rw [m3] at c3
  exact kb_126_41 (kb_126_74 (kk h3 c3 (f2.trans f3)))
/-- Job.fillCombination, of an include -/
theorem s126i {i : Nat} (hd : 3 ≤ d) (H0 : mj_RS h0) (hP : PlC h0 P) (hj : j < P.nj) (hi : i < (P.jr j).2.2.1.length) (kk : ∀ h', PrC h' 570 ((P.jr j).2.2.1.getD i []) → fr (inP 570) h0 h' → Q none h') : mr_C mj_KK d 126 [.ref (12 + 44 * j), .int (nI (125 + i)), .ref 570] h0 Q := by
  show mr_M mj_KK d 126 0 [some (.ref (12 + 44 * j)), some (.int (nI (125 + i))), some (.ref 570)] [] h0 Q
  have hj12 : j < 12 := by have := hP.2.1; omega
  have i4 := (hP.2.2.2.2.1 j hj).2.2.2.1.2.1
  refine kb_126_0 (by first | with_reducible assumption | with_reducible exact kd_CB | with_reducible exact kd_IR _ (by omega) _ (by omega) | with_reducible exact kd_ER _ (by omega) _ (by omega) | assumption) (fun _ => ?_) (fun c => (by simp (disch := omega) only [z_0, z_1, z_2, z_3, z_4, z_5, z_6, z_7, z_8, z_9, z_10, z_12, z_13, z_20, z_21, z_25, z_56, z_350, z_31, z_32, z_36, z_48, z_57, z_61, z_97, z_100, z_122, z_125, z_126, z_144, z_255, z_700, z_1000, z_1548, nI_add, pk_mul, pk_sub, nI_clamp, nI_leI, nI_ltI, nI_eq, z_in, z_m1, z_m1b, lg_cmp_eq, z_cmp, Decidable.not_not, w_ie, w_in, w_il, w_le, w_ln, w_li, w_ir, w_lr] at c; exfalso; omega))
  have f0 : fr (inP 570) h0 (mj_w h0 570 2 (.int 0)) := fr.wi (P := inP 570) fr.rfl' (Or.inl rfl)
  generalize mj_w h0 570 2 (.int 0) = h at f0
  have H := f0.rs H0
  have hPh := PlC_P hP f0
  obtain ⟨-, -, ⟨x1, x2, x3⟩, -⟩ := (hPh.2.2.2.2.1 j hj).2
  have es : nI (125 + i) - 125 = nI i := by
    rw [show (125 : Int32) = nI 125 from rfl, pk_sub (by omega), Nat.add_sub_cancel_left]
  refine kb_126_44 (by first | with_reducible assumption | with_reducible exact kd_JB _ (by omega) | assumption) (by first | with_reducible assumption | exact rf_JB_includes H (by omega) | assumption) (by first | with_reducible assumption | with_reducible exact kd_IN _ (by omega) | assumption) (fun c => ?_) (fun _ => ?_)
  · rw [es] at c
    exact (by simp (disch := omega) only [z_0, z_1, z_2, z_3, z_4, z_5, z_6, z_7, z_8, z_9, z_10, z_12, z_13, z_20, z_21, z_25, z_56, z_350, z_31, z_32, z_36, z_48, z_57, z_61, z_97, z_100, z_122, z_125, z_126, z_144, z_255, z_700, z_1000, z_1548, nI_add, pk_mul, pk_sub, nI_clamp, nI_leI, nI_ltI, nI_eq, z_in, z_m1, z_m1b, lg_cmp_eq, z_cmp, Decidable.not_not, w_ie, w_in, w_il, w_le, w_ln, w_li, w_ir, w_lr, x1] at c; exfalso; omega)
  refine kb_126_58 (q1 := 19 + 44 * j) (q2 := 20 + 44 * j + 3 * i) (kd_JB j hj12) (rf_JB_includes H hj12) (kd_IN j hj12) (rf_IN_rows H hj12) (kd_IN_rows j hj12) (by rw [es]; simp (disch := omega) only [z_0, z_1, z_2, z_3, z_4, z_5, z_6, z_7, z_8, z_9, z_10, z_12, z_13, z_20, z_21, z_25, z_56, z_350, z_31, z_32, z_36, z_48, z_57, z_61, z_97, z_100, z_122, z_125, z_126, z_144, z_255, z_700, z_1000, z_1548, nI_add, pk_mul, pk_sub, nI_clamp, nI_leI, nI_ltI, nI_eq, z_in, z_m1, z_m1b, lg_cmp_eq, z_cmp, Decidable.not_not, w_ie, w_in, w_il, w_le, w_ln, w_li, w_ir, w_lr, ln_IN_rows] <;> omega) (by rw [es, nI_clamp (by omega)]; exact rf_irows H hj12 (by omega)) kd_CB (by omega) ?_
  have p := x3 i hi
  rw [show 18 + 44 * j + 2 + 3 * i = 20 + 44 * j + 3 * i from by omega] at p
  exact s135 isP_CB (isP_IR hj12 (by omega)) (by omega) H p (fun h' g1 g2 => kb_126_74 (kk h' g1 (f0.trans g2)))
/-- Job.isExcluded -/
theorem s128 {p : Nat} {ps : Pp} (hd : 2 ≤ d) (H : mj_RS h) (hP : PlC h P) (hj : j < P.nj) (hp : isP p) (hC : PrC h p ps) (kk : Q (some (.int (b2i (xc (P.jr j).2.2.2.1 ps)))) h) : mr_C mj_KK d 128 [.ref (12 + 44 * j), .ref p] h Q := by
  show mr_M mj_KK d 128 0 [some (.ref (12 + 44 * j)), some (.ref p), none] [] h Q
  have hj12 : j < 12 := by have := hP.2.1; omega
  obtain ⟨-, -, -, ⟨x1, x2, x3⟩, -⟩ := (hP.2.2.2.2.1 j hj).2
  have kp := hp.1
  unfold xc at kk
  generalize (P.jr j).2.2.2.1 = ex at *
  refine kb_128_0 ?_
  have loop : ∀ n i, i + n = ex.length → (∀ k, k < i → hA ps (ex.getD k []) = false) → mr_M mj_KK d 128 2 [some (.ref (12 + 44 * j)), some (.ref p), some (.int (nI i))] [] h Q := by
    intro n
    induction n with
    | zero =>
      intro i hi hq
      rw [any_f (x := []) (fun k hk => hq k (by omega))] at kk
      exact kb_128_2 (kd_JB j hj12) (rf_JB_excludes H hj12) (kd_EC j hj12) (fun _ => kb_128_37 kk) (fun c => (by simp (disch := omega) only [z_0, z_1, z_2, z_3, z_4, z_5, z_6, z_7, z_8, z_9, z_10, z_12, z_13, z_20, z_21, z_25, z_56, z_350, z_31, z_32, z_36, z_48, z_57, z_61, z_97, z_100, z_122, z_125, z_126, z_144, z_255, z_700, z_1000, z_1548, nI_add, pk_mul, pk_sub, nI_clamp, nI_leI, nI_ltI, nI_eq, z_in, z_m1, z_m1b, lg_cmp_eq, z_cmp, Decidable.not_not, w_ie, w_in, w_il, w_le, w_ln, w_li, w_ir, w_lr, x1] at c; exfalso; omega))
    | succ n ih =>
      intro i hi hq
      have pe := x3 i (by omega)
      rw [show 32 + 44 * j + 2 + 3 * i = 34 + 44 * j + 3 * i from by omega] at pe
      refine kb_128_2 (kd_JB j hj12) (rf_JB_excludes H hj12) (kd_EC j hj12) (fun c => (by simp (disch := omega) only [z_0, z_1, z_2, z_3, z_4, z_5, z_6, z_7, z_8, z_9, z_10, z_12, z_13, z_20, z_21, z_25, z_56, z_350, z_31, z_32, z_36, z_48, z_57, z_61, z_97, z_100, z_122, z_125, z_126, z_144, z_255, z_700, z_1000, z_1548, nI_add, pk_mul, pk_sub, nI_clamp, nI_leI, nI_ltI, nI_eq, z_in, z_m1, z_m1b, lg_cmp_eq, z_cmp, Decidable.not_not, w_ie, w_in, w_il, w_le, w_ln, w_li, w_ir, w_lr, x1] at c; exfalso; omega)) (fun _ => kb_128_13 (q1 := 33 + 44 * j) (q2 := 34 + 44 * j + 3 * i) (kd_JB j hj12) (rf_JB_excludes H hj12) (kd_EC j hj12) (rf_EC_rows H hj12) (kd_EC_rows j hj12) (by simp (disch := omega) only [z_0, z_1, z_2, z_3, z_4, z_5, z_6, z_7, z_8, z_9, z_10, z_12, z_13, z_20, z_21, z_25, z_56, z_350, z_31, z_32, z_36, z_48, z_57, z_61, z_97, z_100, z_122, z_125, z_126, z_144, z_255, z_700, z_1000, z_1548, nI_add, pk_mul, pk_sub, nI_clamp, nI_leI, nI_ltI, nI_eq, z_in, z_m1, z_m1b, lg_cmp_eq, z_cmp, Decidable.not_not, w_ie, w_in, w_il, w_le, w_ln, w_li, w_ir, w_lr, ln_EC_rows] <;> omega) (by rw [nI_clamp (by omega)]; exact rf_erows H hj12 (by omega)) kp (by omega) (s137 (by omega) hp (isP_ER hj12 (by omega)) H hC pe ?_))
      cases hb : hA ps (ex.getD i []) with
      | true =>
        rw [any_t (x := []) (i := i) (by omega) hb] at kk
        exact kb_128_26 (fun c => absurd c (by decide)) (fun _ => kb_128_29 kk)
      | false =>
        refine kb_128_26 (fun _ => kb_128_31 ?_) (fun c => absurd rfl c)
        rw [nI_1]
        exact ih (i + 1) (by omega) (lt_s hq hb)
  exact loop ex.length 0 (by omega) lt_0
/-- Job.isOfAxes -/
theorem s130 {p : Nat} {ps : Pp} (hd : 2 ≤ d) (H : mj_RS h) (hP : PlC h P) (hj : j < P.nj) (hp : isP p) (hC : PrC h p ps) (kk : Q (some (.int (b2i (ofA (P.jr j).2.1 ps)))) h) : mr_C mj_KK d 130 [.ref (12 + 44 * j), .ref p] h Q := by
  show mr_M mj_KK d 130 0 [some (.ref (12 + 44 * j)), some (.ref p), none] [] h Q
  have hj12 : j < 12 := by have := hP.2.1; omega
  obtain ⟨x1, x2, x3⟩ := axC hP hj
  have kp := hp.1
  obtain ⟨c1, c2, -⟩ := id hC
  unfold ofA at kk
  generalize (P.jr j).2.1 = as at *
  refine kb_130_0 ?_
  have loop : ∀ n i, i + n = as.length → (∀ k, k < i → decide (vO ps (as.getD k (0, [])).1 ∈ (as.getD k (0, [])).2) = true) → mr_M mj_KK d 130 2 [some (.ref (12 + 44 * j)), some (.ref p), some (.int (nI i))] [] h Q := by
    intro n
    induction n with
    | zero =>
      intro i hi hq
      rw [all_t (x := (0, [])) (fun k hk => hq k (by omega)), Bool.and_true] at kk
      refine kb_130_2 (by first | with_reducible assumption | with_reducible exact kd_JB _ (by omega) | assumption) (fun _ => kb_130_43 (by first | with_reducible assumption | with_reducible exact kd_CB | with_reducible exact kd_IR _ (by omega) _ (by omega) | with_reducible exact kd_ER _ (by omega) _ (by omega) | assumption) (by first | with_reducible assumption | with_reducible exact kd_JB _ (by omega) | assumption) (fun c => kb_130_58 (kb_130_59 (by first | assumption | exact b2i_01 _ | exact Or.inl rfl | exact Or.inr rfl) ?_)) (fun c => kb_130_54 (kb_130_59 (by first | assumption | exact b2i_01 _ | exact Or.inl rfl | exact Or.inr rfl) ?_))) (fun c => (by simp (disch := omega) only [z_0, z_1, z_2, z_3, z_4, z_5, z_6, z_7, z_8, z_9, z_10, z_12, z_13, z_20, z_21, z_25, z_56, z_350, z_31, z_32, z_36, z_48, z_57, z_61, z_97, z_100, z_122, z_125, z_126, z_144, z_255, z_700, z_1000, z_1548, nI_add, pk_mul, pk_sub, nI_clamp, nI_leI, nI_ltI, nI_eq, z_in, z_m1, z_m1b, lg_cmp_eq, z_cmp, Decidable.not_not, w_ie, w_in, w_il, w_le, w_ln, w_li, w_ir, w_lr, x1] at c; exfalso; omega))
      · simp (disch := omega) only [z_0, z_1, z_2, z_3, z_4, z_5, z_6, z_7, z_8, z_9, z_10, z_12, z_13, z_20, z_21, z_25, z_56, z_350, z_31, z_32, z_36, z_48, z_57, z_61, z_97, z_100, z_122, z_125, z_126, z_144, z_255, z_700, z_1000, z_1548, nI_add, pk_mul, pk_sub, nI_clamp, nI_leI, nI_ltI, nI_eq, z_in, z_m1, z_m1b, lg_cmp_eq, z_cmp, Decidable.not_not, w_ie, w_in, w_il, w_le, w_ln, w_li, w_ir, w_lr, c1, x1] at c
        rw [decide_eq_false c] at kk
        exact kk
      · simp (disch := omega) only [z_0, z_1, z_2, z_3, z_4, z_5, z_6, z_7, z_8, z_9, z_10, z_12, z_13, z_20, z_21, z_25, z_56, z_350, z_31, z_32, z_36, z_48, z_57, z_61, z_97, z_100, z_122, z_125, z_126, z_144, z_255, z_700, z_1000, z_1548, nI_add, pk_mul, pk_sub, nI_clamp, nI_leI, nI_ltI, nI_eq, z_in, z_m1, z_m1b, lg_cmp_eq, z_cmp, Decidable.not_not, w_ie, w_in, w_il, w_le, w_ln, w_li, w_ir, w_lr, c1, x1] at c
        rw [decide_eq_true c] at kk
        exact kk
    | succ n ih =>
      intro i hi hq
      obtain ⟨y1, y2, y3, y4⟩ := x3 i (by omega)
      have isa := isA_AX (r := i) hj12 (by omega)
      have kAX := isa.1
      refine kb_130_2 (by first | with_reducible assumption | with_reducible exact kd_JB _ (by omega) | assumption) (fun c => (by simp (disch := omega) only [z_0, z_1, z_2, z_3, z_4, z_5, z_6, z_7, z_8, z_9, z_10, z_12, z_13, z_20, z_21, z_25, z_56, z_350, z_31, z_32, z_36, z_48, z_57, z_61, z_97, z_100, z_122, z_125, z_126, z_144, z_255, z_700, z_1000, z_1548, nI_add, pk_mul, pk_sub, nI_clamp, nI_leI, nI_ltI, nI_eq, z_in, z_m1, z_m1b, lg_cmp_eq, z_cmp, Decidable.not_not, w_ie, w_in, w_il, w_le, w_ln, w_li, w_ir, w_lr, x1] at c; exfalso; omega)) (fun _ => kb_130_10 (by first | with_reducible assumption | with_reducible exact kd_JB _ (by omega) | assumption) (by first | with_reducible assumption | exact rf_JB_axes H (by omega) | assumption) (by first | with_reducible assumption | with_reducible exact kd_JB_axes _ (by omega) | assumption) (by first | with_reducible assumption | (simp (disch := omega) only [z_0, z_1, z_2, z_3, z_4, z_5, z_6, z_7, z_8, z_9, z_10, z_12, z_13, z_20, z_21, z_25, z_56, z_350, z_31, z_32, z_36, z_48, z_57, z_61, z_97, z_100, z_122, z_125, z_126, z_144, z_255, z_700, z_1000, z_1548, nI_add, pk_mul, pk_sub, nI_clamp, nI_leI, nI_ltI, nI_eq, z_in, z_m1, z_m1b, lg_cmp_eq, z_cmp, Decidable.not_not, w_ie, w_in, w_il, w_le, w_ln, w_li, w_ir, w_lr, ln_P_tape, ln_W_text, ln_W_starts, ln_W_ends, ln_W_lines, ln_W_names, ln_W_values, ln_PL_jobs, ln_PL_parts, ln_FT_reached, ln_EX_jobs, ln_EX_codes, ln_CB_names, ln_CB_values, ln_M_tape, ln_M_source, ln_M_wordAt, ln_M_wordEnd, ln_M_names, ln_M_itemCount, ln_M_itemFirst, ln_M_itemWords, ln_M_itemUses, ln_M_keptAt, ln_M_keptEnd, ln_M_needCount, ln_M_axisCount, ln_M_valueCount, ln_M_needed, ln_M_axes, ln_M_values, ln_M_includes, ln_M_excludes, ln_M_pairCount, ln_M_pairName, ln_M_pairValue, ln_M_signCount, ln_M_signs, ln_M_signName, ln_M_signValue, ln_M_whose, ln_M_which, ln_M_pile, ln_M_reaches, ln_M_stepsOf, ln_M_known, ln_JB_needed, ln_JB_axes, ln_JS_used, ln_JS_stepWords, ln_PS_used, ln_PS_stepWords, ln_IN_rows, ln_EC_rows, ln_IR_names, ln_IR_values, ln_ER_names, ln_ER_values, ln_CD_kinds, ln_CD_names, ln_CD_values, ln_AX_values] <;> omega) | assumption) (by first | with_reducible assumption | exact rf_axes H (by omega) (by omega) | (simp (disch := omega) only [z_0, z_1, z_2, z_3, z_4, z_5, z_6, z_7, z_8, z_9, z_10, z_12, z_13, z_20, z_21, z_25, z_56, z_350, z_31, z_32, z_36, z_48, z_57, z_61, z_97, z_100, z_122, z_125, z_126, z_144, z_255, z_700, z_1000, z_1548, nI_add, pk_mul, pk_sub, nI_clamp, nI_leI, nI_ltI, nI_eq, z_in, z_m1, z_m1b, lg_cmp_eq, z_cmp, Decidable.not_not, w_ie, w_in, w_il, w_le, w_ln, w_li, w_ir, w_lr]; exact rf_axes H (by omega) (by omega)) | (simp (disch := omega) only [z_0, z_1, z_2, z_3, z_4, z_5, z_6, z_7, z_8, z_9, z_10, z_12, z_13, z_20, z_21, z_25, z_56, z_350, z_31, z_32, z_36, z_48, z_57, z_61, z_97, z_100, z_122, z_125, z_126, z_144, z_255, z_700, z_1000, z_1548, nI_add, pk_mul, pk_sub, nI_clamp, nI_leI, nI_ltI, nI_eq, z_in, z_m1, z_m1b, lg_cmp_eq, z_cmp, Decidable.not_not, w_ie, w_in, w_il, w_le, w_ln, w_li, w_ir, w_lr]; assumption) | assumption) (by first | with_reducible assumption | (simp (disch := omega) only [z_0, z_1, z_2, z_3, z_4, z_5, z_6, z_7, z_8, z_9, z_10, z_12, z_13, z_20, z_21, z_25, z_56, z_350, z_31, z_32, z_36, z_48, z_57, z_61, z_97, z_100, z_122, z_125, z_126, z_144, z_255, z_700, z_1000, z_1548, nI_add, pk_mul, pk_sub, nI_clamp, nI_leI, nI_ltI, nI_eq, z_in, z_m1, z_m1b, lg_cmp_eq, z_cmp, Decidable.not_not, w_ie, w_in, w_il, w_le, w_ln, w_li, w_ir, w_lr, ln_P_tape, ln_W_text, ln_W_starts, ln_W_ends, ln_W_lines, ln_W_names, ln_W_values, ln_PL_jobs, ln_PL_parts, ln_FT_reached, ln_EX_jobs, ln_EX_codes, ln_CB_names, ln_CB_values, ln_M_tape, ln_M_source, ln_M_wordAt, ln_M_wordEnd, ln_M_names, ln_M_itemCount, ln_M_itemFirst, ln_M_itemWords, ln_M_itemUses, ln_M_keptAt, ln_M_keptEnd, ln_M_needCount, ln_M_axisCount, ln_M_valueCount, ln_M_needed, ln_M_axes, ln_M_values, ln_M_includes, ln_M_excludes, ln_M_pairCount, ln_M_pairName, ln_M_pairValue, ln_M_signCount, ln_M_signs, ln_M_signName, ln_M_signValue, ln_M_whose, ln_M_which, ln_M_pile, ln_M_reaches, ln_M_stepsOf, ln_M_known, ln_JB_needed, ln_JB_axes, ln_JS_used, ln_JS_stepWords, ln_PS_used, ln_PS_stepWords, ln_IN_rows, ln_EC_rows, ln_IR_names, ln_IR_values, ln_ER_names, ln_ER_values, ln_CD_kinds, ln_CD_names, ln_CD_values, ln_AX_values] <;> omega) | assumption) (by first | with_reducible assumption | exact rf_axes H (by omega) (by omega) | (simp (disch := omega) only [z_0, z_1, z_2, z_3, z_4, z_5, z_6, z_7, z_8, z_9, z_10, z_12, z_13, z_20, z_21, z_25, z_56, z_350, z_31, z_32, z_36, z_48, z_57, z_61, z_97, z_100, z_122, z_125, z_126, z_144, z_255, z_700, z_1000, z_1548, nI_add, pk_mul, pk_sub, nI_clamp, nI_leI, nI_ltI, nI_eq, z_in, z_m1, z_m1b, lg_cmp_eq, z_cmp, Decidable.not_not, w_ie, w_in, w_il, w_le, w_ln, w_li, w_ir, w_lr]; exact rf_axes H (by omega) (by omega)) | (simp (disch := omega) only [z_0, z_1, z_2, z_3, z_4, z_5, z_6, z_7, z_8, z_9, z_10, z_12, z_13, z_20, z_21, z_25, z_56, z_350, z_31, z_32, z_36, z_48, z_57, z_61, z_97, z_100, z_122, z_125, z_126, z_144, z_255, z_700, z_1000, z_1548, nI_add, pk_mul, pk_sub, nI_clamp, nI_leI, nI_ltI, nI_eq, z_in, z_m1, z_m1b, lg_cmp_eq, z_cmp, Decidable.not_not, w_ie, w_in, w_il, w_le, w_ln, w_li, w_ir, w_lr]; assumption) | assumption) (by first | with_reducible assumption | with_reducible exact kd_AX _ (by omega) _ (by omega) | assumption) (by first | with_reducible assumption | with_reducible exact kd_CB | with_reducible exact kd_IR _ (by omega) _ (by omega) | with_reducible exact kd_ER _ (by omega) _ (by omega) | assumption) (by omega) ?_)
      rw [y1]
      refine s136 hp H hC (kb_130_29 (by first | with_reducible assumption | with_reducible exact kd_AX _ (by omega) _ (by omega) | assumption) (by omega) (s90 isa H y2 y3 y4 (fun q => ?_) (fun q => ?_)))
      · refine kb_130_32 (fun _ => kb_130_37 ?_) (fun c => absurd (by decide) c)
        rw [nI_1]
        exact ih (i + 1) (by omega) (lt_s hq (decide_eq_true q))
      · rw [all_f (x := (0, [])) (i := i) (by omega) (decide_eq_false q), Bool.and_false] at kk
        exact kb_130_32 (fun c => absurd rfl c) (fun _ => kb_130_35 kk)
  exact loop as.length 0 (by omega) lt_0
/-- Job.isRepeated -/
theorem s129 {i : Nat} (hd : 4 ≤ d) (H : mj_RS h) (hP : PlC h P) (hj : j < P.nj) (hi : i < (P.jr j).2.2.1.length) (kk : Q (some (.int (b2i (rpI (P.jr j) i)))) h) : mr_C mj_KK d 129 [.ref (12 + 44 * j), .int (nI i)] h Q := by
  show mr_M mj_KK d 129 0 [some (.ref (12 + 44 * j)), some (.int (nI i)), none, none] [] h Q
  have hj12 : j < 12 := by have := hP.2.1; omega
  obtain ⟨-, -, ⟨x1, x2, x3⟩, -⟩ := (hP.2.2.2.2.1 j hj).2
  have pr : ∀ r, r < (P.jr j).2.2.1.length → PrC h (20 + 44 * j + 3 * r) ((P.jr j).2.2.1.getD r []) := by
    intro r hr
    have p := x3 r hr
    rw [show 18 + 44 * j + 2 + 3 * r = 20 + 44 * j + 3 * r from by omega] at p
    exact p
  unfold rpI at kk
  refine kb_129_0 (q1 := 19 + 44 * j) (q2 := 20 + 44 * j + 3 * i) (kd_JB j hj12) (rf_JB_includes H hj12) (kd_IN j hj12) (rf_IN_rows H hj12) (kd_IN_rows j hj12) (by simp (disch := omega) only [z_0, z_1, z_2, z_3, z_4, z_5, z_6, z_7, z_8, z_9, z_10, z_12, z_13, z_20, z_21, z_25, z_56, z_350, z_31, z_32, z_36, z_48, z_57, z_61, z_97, z_100, z_122, z_125, z_126, z_144, z_255, z_700, z_1000, z_1548, nI_add, pk_mul, pk_sub, nI_clamp, nI_leI, nI_ltI, nI_eq, z_in, z_m1, z_m1b, lg_cmp_eq, z_cmp, Decidable.not_not, w_ie, w_in, w_il, w_le, w_ln, w_li, w_ir, w_lr, ln_IN_rows] <;> omega) (by rw [nI_clamp (by omega)]; exact rf_irows H hj12 (by omega)) ?_
  have loop : ∀ n k, k + n = i → aT (fun k => sm ((P.jr j).2.2.1.getD k []) ((P.jr j).2.2.1.getD i [])) k = false → mr_M mj_KK d 129 12 [some (.ref (12 + 44 * j)), some (.int (nI i)), some (.ref (20 + 44 * j + 3 * i)), some (.int (nI k))] [] h Q := by
    intro n
    induction n with
    | zero =>
      intro k hk hq
      have e : k = i := by omega
      subst e
      rw [hq, Bool.false_or] at kk
      refine kb_129_12 (fun _ => kb_129_41 (by first | with_reducible assumption | with_reducible exact kd_JB _ (by omega) | assumption) (by omega) (s130 (by omega) H hP hj (isP_IR hj12 (by omega)) (pr k hi) ?_)) (fun c => (by simp (disch := omega) only [z_0, z_1, z_2, z_3, z_4, z_5, z_6, z_7, z_8, z_9, z_10, z_12, z_13, z_20, z_21, z_25, z_56, z_350, z_31, z_32, z_36, z_48, z_57, z_61, z_97, z_100, z_122, z_125, z_126, z_144, z_255, z_700, z_1000, z_1548, nI_add, pk_mul, pk_sub, nI_clamp, nI_leI, nI_ltI, nI_eq, z_in, z_m1, z_m1b, lg_cmp_eq, z_cmp, Decidable.not_not, w_ie, w_in, w_il, w_le, w_ln, w_li, w_ir, w_lr] at c; exfalso; omega))
      cases hb : ofA (P.jr j).2.1 ((P.jr j).2.2.1.getD k []) with
      | false =>
        rw [hb, Bool.false_and] at kk
        exact kb_129_46 (fun _ => kb_129_61 (kb_129_62 (by first | assumption | exact b2i_01 _ | exact Or.inl rfl | exact Or.inr rfl) kk)) (fun c => absurd rfl c)
      | true =>
        rw [hb, Bool.true_and] at kk
        refine kb_129_46 (fun c => absurd c (by decide)) (fun _ => kb_129_49 (by first | with_reducible assumption | with_reducible exact kd_JB _ (by omega) | assumption) (by omega) (s128 (by omega) H hP hj (isP_IR hj12 (by omega)) (pr k hi) ?_))
        cases hb2 : xc (P.jr j).2.2.2.1 ((P.jr j).2.2.1.getD k []) with
        | true =>
          rw [hb2] at kk
          exact kb_129_54 (fun _ => kb_129_61 (kb_129_62 (by first | assumption | exact b2i_01 _ | exact Or.inl rfl | exact Or.inr rfl) kk)) (fun c => absurd (by decide) c)
        | false =>
          rw [hb2] at kk
          exact kb_129_54 (fun c => absurd rfl c) (fun _ => kb_129_57 (kb_129_62 (by first | assumption | exact b2i_01 _ | exact Or.inl rfl | exact Or.inr rfl) kk))
    | succ n ih =>
      intro k hk hq
      refine kb_129_12 (fun c => (by simp (disch := omega) only [z_0, z_1, z_2, z_3, z_4, z_5, z_6, z_7, z_8, z_9, z_10, z_12, z_13, z_20, z_21, z_25, z_56, z_350, z_31, z_32, z_36, z_48, z_57, z_61, z_97, z_100, z_122, z_125, z_126, z_144, z_255, z_700, z_1000, z_1548, nI_add, pk_mul, pk_sub, nI_clamp, nI_leI, nI_ltI, nI_eq, z_in, z_m1, z_m1b, lg_cmp_eq, z_cmp, Decidable.not_not, w_ie, w_in, w_il, w_le, w_ln, w_li, w_ir, w_lr] at c; exfalso; omega)) (fun _ => kb_129_17 (q1 := 19 + 44 * j) (q2 := 20 + 44 * j + 3 * k) (kd_JB j hj12) (rf_JB_includes H hj12) (kd_IN j hj12) (rf_IN_rows H hj12) (kd_IN_rows j hj12) (by simp (disch := omega) only [z_0, z_1, z_2, z_3, z_4, z_5, z_6, z_7, z_8, z_9, z_10, z_12, z_13, z_20, z_21, z_25, z_56, z_350, z_31, z_32, z_36, z_48, z_57, z_61, z_97, z_100, z_122, z_125, z_126, z_144, z_255, z_700, z_1000, z_1548, nI_add, pk_mul, pk_sub, nI_clamp, nI_leI, nI_ltI, nI_eq, z_in, z_m1, z_m1b, lg_cmp_eq, z_cmp, Decidable.not_not, w_ie, w_in, w_il, w_le, w_ln, w_li, w_ir, w_lr, ln_IN_rows] <;> omega) (by rw [nI_clamp (by omega)]; exact rf_irows H hj12 (by omega)) (isP_IR hj12 (by omega)).1 (by omega) (s138 (by omega) (isP_IR hj12 (by omega)) (isP_IR hj12 (by omega)) H (pr k (by omega)) (pr i hi) ?_))
      have es : (decide (((P.jr j).2.2.1.getD k []).length = ((P.jr j).2.2.1.getD i []).length) && hA ((P.jr j).2.2.1.getD k []) ((P.jr j).2.2.1.getD i [])) = sm ((P.jr j).2.2.1.getD k []) ((P.jr j).2.2.1.getD i []) := rfl
      rw [es]
      cases hb : sm ((P.jr j).2.2.1.getD k []) ((P.jr j).2.2.1.getD i []) with
      | true =>
        have : aT (fun k => sm ((P.jr j).2.2.1.getD k []) ((P.jr j).2.2.1.getD i [])) i = true := aT_t.mpr ⟨k, by omega, hb⟩
        rw [this, Bool.true_or] at kk
        exact kb_129_30 (fun c => absurd c (by decide)) (fun _ => kb_129_33 kk)
      | false =>
        refine kb_129_30 (fun _ => kb_129_35 ?_) (fun c => absurd rfl c)
        rw [nI_1]
        exact ih (k + 1) (by omega) (by rw [aT_s, hq]; exact hb)
  exact loop i 0 (by omega) rfl
def XC (h : mj_H) (P : mj_P) (X : List En) : Prop := h.1 567 2 = nI X.length ∧ X.length ≤ 1548 ∧ ∀ i, i < X.length → h.1 568 i = nI (X.getD i (0, 0, 0)).1 ∧ h.1 569 i = nI (cEn P (X.getD i (0, 0, 0)))
theorem XC_P {X : List En} {h' : mj_H} (A : XC h P X) (f : fr (inP 570) h h') : XC h' P X := ⟨(f.n (by unfold inP; omega)).trans A.1, A.2.1, fun i hi => ⟨(f.n (by unfold inP; omega)).trans (A.2.2 i hi).1, (f.n (by unfold inP; omega)).trans (A.2.2 i hi).2⟩⟩
/-- Expansion.add -/
theorem s107 {X : List En} {e : En} {c : Nat} (H : mj_RS h) (hX : XC h P X) (hl : X.length < 1548) (hc : cEn P e = c) (kk : ∀ h', XC h' P (X ++ [e]) → fr inX h h' → Q none h') : mr_C mj_KK d 107 [.ref 567, .int (nI e.1), .int (nI c)] h Q := by
  show mr_M mj_KK d 107 0 [some (.ref 567), some (.int (nI e.1)), some (.int (nI c))] [] h Q
  obtain ⟨x1, x2, x3⟩ := hX
  refine kb_107_0 (by first | with_reducible assumption | with_reducible exact kd_EX | assumption) (fun c => (by simp (disch := omega) only [z_0, z_1, z_2, z_3, z_4, z_5, z_6, z_7, z_8, z_9, z_10, z_12, z_13, z_20, z_21, z_25, z_56, z_350, z_31, z_32, z_36, z_48, z_57, z_61, z_97, z_100, z_122, z_125, z_126, z_144, z_255, z_700, z_1000, z_1548, nI_add, pk_mul, pk_sub, nI_clamp, nI_leI, nI_ltI, nI_eq, z_in, z_m1, z_m1b, lg_cmp_eq, z_cmp, Decidable.not_not, w_ie, w_in, w_il, w_le, w_ln, w_li, w_ir, w_lr, x1] at c; exfalso; omega)) (fun _ => kb_107_10 (by first | with_reducible assumption | with_reducible exact kd_EX | assumption) (by first | with_reducible assumption | exact rf_EX_jobs H | assumption) (by first | with_reducible assumption | with_reducible exact kd_EX_jobs | assumption) (by first | with_reducible assumption | (simp (disch := omega) only [z_0, z_1, z_2, z_3, z_4, z_5, z_6, z_7, z_8, z_9, z_10, z_12, z_13, z_20, z_21, z_25, z_56, z_350, z_31, z_32, z_36, z_48, z_57, z_61, z_97, z_100, z_122, z_125, z_126, z_144, z_255, z_700, z_1000, z_1548, nI_add, pk_mul, pk_sub, nI_clamp, nI_leI, nI_ltI, nI_eq, z_in, z_m1, z_m1b, lg_cmp_eq, z_cmp, Decidable.not_not, w_ie, w_in, w_il, w_le, w_ln, w_li, w_ir, w_lr, x1, ln_P_tape, ln_W_text, ln_W_starts, ln_W_ends, ln_W_lines, ln_W_names, ln_W_values, ln_PL_jobs, ln_PL_parts, ln_FT_reached, ln_EX_jobs, ln_EX_codes, ln_CB_names, ln_CB_values, ln_M_tape, ln_M_source, ln_M_wordAt, ln_M_wordEnd, ln_M_names, ln_M_itemCount, ln_M_itemFirst, ln_M_itemWords, ln_M_itemUses, ln_M_keptAt, ln_M_keptEnd, ln_M_needCount, ln_M_axisCount, ln_M_valueCount, ln_M_needed, ln_M_axes, ln_M_values, ln_M_includes, ln_M_excludes, ln_M_pairCount, ln_M_pairName, ln_M_pairValue, ln_M_signCount, ln_M_signs, ln_M_signName, ln_M_signValue, ln_M_whose, ln_M_which, ln_M_pile, ln_M_reaches, ln_M_stepsOf, ln_M_known, ln_JB_needed, ln_JB_axes, ln_JS_used, ln_JS_stepWords, ln_PS_used, ln_PS_stepWords, ln_IN_rows, ln_EC_rows, ln_IR_names, ln_IR_values, ln_ER_names, ln_ER_values, ln_CD_kinds, ln_CD_names, ln_CD_values, ln_AX_values] <;> omega) | assumption) (by first | with_reducible assumption | exact rf_EX_codes H | assumption) (by first | with_reducible assumption | with_reducible exact kd_EX_codes | assumption) (by first | with_reducible assumption | (simp (disch := omega) only [z_0, z_1, z_2, z_3, z_4, z_5, z_6, z_7, z_8, z_9, z_10, z_12, z_13, z_20, z_21, z_25, z_56, z_350, z_31, z_32, z_36, z_48, z_57, z_61, z_97, z_100, z_122, z_125, z_126, z_144, z_255, z_700, z_1000, z_1548, nI_add, pk_mul, pk_sub, nI_clamp, nI_leI, nI_ltI, nI_eq, z_in, z_m1, z_m1b, lg_cmp_eq, z_cmp, Decidable.not_not, w_ie, w_in, w_il, w_le, w_ln, w_li, w_ir, w_lr, x1, ln_P_tape, ln_W_text, ln_W_starts, ln_W_ends, ln_W_lines, ln_W_names, ln_W_values, ln_PL_jobs, ln_PL_parts, ln_FT_reached, ln_EX_jobs, ln_EX_codes, ln_CB_names, ln_CB_values, ln_M_tape, ln_M_source, ln_M_wordAt, ln_M_wordEnd, ln_M_names, ln_M_itemCount, ln_M_itemFirst, ln_M_itemWords, ln_M_itemUses, ln_M_keptAt, ln_M_keptEnd, ln_M_needCount, ln_M_axisCount, ln_M_valueCount, ln_M_needed, ln_M_axes, ln_M_values, ln_M_includes, ln_M_excludes, ln_M_pairCount, ln_M_pairName, ln_M_pairValue, ln_M_signCount, ln_M_signs, ln_M_signName, ln_M_signValue, ln_M_whose, ln_M_which, ln_M_pile, ln_M_reaches, ln_M_stepsOf, ln_M_known, ln_JB_needed, ln_JB_axes, ln_JS_used, ln_JS_stepWords, ln_PS_used, ln_PS_stepWords, ln_IN_rows, ln_EC_rows, ln_IR_names, ln_IR_values, ln_ER_names, ln_ER_values, ln_CD_kinds, ln_CD_names, ln_CD_values, ln_AX_values] <;> omega) | assumption) (kb_107_40 ?_))
  simp (disch := omega) only [z_0, z_1, z_2, z_3, z_4, z_5, z_6, z_7, z_8, z_9, z_10, z_12, z_13, z_20, z_21, z_25, z_56, z_350, z_31, z_32, z_36, z_48, z_57, z_61, z_97, z_100, z_122, z_125, z_126, z_144, z_255, z_700, z_1000, z_1548, nI_add, pk_mul, pk_sub, nI_clamp, nI_leI, nI_ltI, nI_eq, z_in, z_m1, z_m1b, lg_cmp_eq, z_cmp, Decidable.not_not, w_ie, w_in, w_il, w_le, w_ln, w_li, w_ir, w_lr, x1]
  refine kk _ ⟨?_, ?_, fun i hi => ?_⟩ (((fr.wi (P := inX) fr.rfl' (by unfold inX; omega)).wi (by unfold inX; omega)).wi (by unfold inX; omega))
  · rw [List.length_append]
    simp (disch := omega) only [z_0, z_1, z_2, z_3, z_4, z_5, z_6, z_7, z_8, z_9, z_10, z_12, z_13, z_20, z_21, z_25, z_56, z_350, z_31, z_32, z_36, z_48, z_57, z_61, z_97, z_100, z_122, z_125, z_126, z_144, z_255, z_700, z_1000, z_1548, nI_add, pk_mul, pk_sub, nI_clamp, nI_leI, nI_ltI, nI_eq, z_in, z_m1, z_m1b, lg_cmp_eq, z_cmp, Decidable.not_not, w_ie, w_in, w_il, w_le, w_ln, w_li, w_ir, w_lr]
    rfl
  · rw [List.length_append]
    exact hl
  · rw [List.length_append] at hi
    have hi : i < X.length + 1 := hi
    rcases Nat.lt_or_ge i X.length with q | q
    · rw [getD_app_l q]
      obtain ⟨b1, b2⟩ := x3 i q
      exact ⟨by simp (disch := omega) only [z_0, z_1, z_2, z_3, z_4, z_5, z_6, z_7, z_8, z_9, z_10, z_12, z_13, z_20, z_21, z_25, z_56, z_350, z_31, z_32, z_36, z_48, z_57, z_61, z_97, z_100, z_122, z_125, z_126, z_144, z_255, z_700, z_1000, z_1548, nI_add, pk_mul, pk_sub, nI_clamp, nI_leI, nI_ltI, nI_eq, z_in, z_m1, z_m1b, lg_cmp_eq, z_cmp, Decidable.not_not, w_ie, w_in, w_il, w_le, w_ln, w_li, w_ir, w_lr, b1], by simp (disch := omega) only [z_0, z_1, z_2, z_3, z_4, z_5, z_6, z_7, z_8, z_9, z_10, z_12, z_13, z_20, z_21, z_25, z_56, z_350, z_31, z_32, z_36, z_48, z_57, z_61, z_97, z_100, z_122, z_125, z_126, z_144, z_255, z_700, z_1000, z_1548, nI_add, pk_mul, pk_sub, nI_clamp, nI_leI, nI_ltI, nI_eq, z_in, z_m1, z_m1b, lg_cmp_eq, z_cmp, Decidable.not_not, w_ie, w_in, w_il, w_le, w_ln, w_li, w_ir, w_lr, b2]⟩
    · have ei : i = X.length := by omega
      subst ei
      rw [getD_app_e, hc]
      exact ⟨by simp (disch := omega) only [z_0, z_1, z_2, z_3, z_4, z_5, z_6, z_7, z_8, z_9, z_10, z_12, z_13, z_20, z_21, z_25, z_56, z_350, z_31, z_32, z_36, z_48, z_57, z_61, z_97, z_100, z_122, z_125, z_126, z_144, z_255, z_700, z_1000, z_1548, nI_add, pk_mul, pk_sub, nI_clamp, nI_leI, nI_ltI, nI_eq, z_in, z_m1, z_m1b, lg_cmp_eq, z_cmp, Decidable.not_not, w_ie, w_in, w_il, w_le, w_ln, w_li, w_ir, w_lr], by simp (disch := omega) only [z_0, z_1, z_2, z_3, z_4, z_5, z_6, z_7, z_8, z_9, z_10, z_12, z_13, z_20, z_21, z_25, z_56, z_350, z_31, z_32, z_36, z_48, z_57, z_61, z_97, z_100, z_122, z_125, z_126, z_144, z_255, z_700, z_1000, z_1548, nI_add, pk_mul, pk_sub, nI_clamp, nI_leI, nI_ltI, nI_eq, z_in, z_m1, z_m1b, lg_cmp_eq, z_cmp, Decidable.not_not, w_ie, w_in, w_il, w_le, w_ln, w_li, w_ir, w_lr]⟩
/-- Expansion.addOfAxes -/
theorem s105 {X : List En} (hd : 4 ≤ d) (H0 : mj_RS h0) (hP : PlC h0 P) (hj : j < P.nj) (hJ : JV (P.jr j)) (hX : XC h0 P X) (hl : X.length + 129 ≤ 1548) (kk : ∀ h', XC h' P (X ++ axL j (P.jr j) (prA (P.jr j).2.1)) → fr inX h0 h' → Q none h') : mr_C mj_KK d 105 [.ref 567, .int (nI j), .ref (12 + 44 * j)] h0 Q := by
  show mr_M mj_KK d 105 0 [some (.ref 567), some (.int (nI j)), some (.ref (12 + 44 * j)), none, none, none, none] [] h0 Q
  have hj12 : j < 12 := by have := hP.2.1; omega
  have hA := hJ.1
  have b0 := nA_le (a := 0) hA
  have b1 := nA_le (a := 1) hA
  have b2 := nA_le (a := 2) hA
  have p125 := prA_le hA
  have hpr : prA (P.jr j).2.1 = nA (P.jr j).2.1 0 * nA (P.jr j).2.1 1 * nA (P.jr j).2.1 2 := rfl
  have hcc : ∀ f s t, s < nA (P.jr j).2.1 1 → t < nA (P.jr j).2.1 2 → cC (P.jr j).2.1 ((f * nA (P.jr j).2.1 1 + s) * nA (P.jr j).2.1 2 + t) = (f * 5 + s) * 5 + t := by
    intro f s t h1 h2
    unfold cC dgA
    obtain ⟨a, b, c⟩ := d3_of (f := f) h1 h2
    rw [a, b, c]
  generalize hn0 : nA (P.jr j).2.1 0 = n0 at *
  generalize hn1 : nA (P.jr j).2.1 1 = n1 at *
  generalize hn2 : nA (P.jr j).2.1 2 = n2 at *
  refine kb_105_0 ?_
  have L1 : ∀ r f (h : mj_H), f + r = n0 → fr inX h0 h → XC h P (X ++ axL j (P.jr j) ((f * n1 + 0) * n2 + 0)) → mr_M mj_KK d 105 2 [some (.ref 567), some (.int (nI j)), some (.ref (12 + 44 * j)), some (.int (nI f)), none, none, none] [] h Q := by
    intro r
    induction r with
    | zero =>
      intro f h hf hfr hx
      have H := hfr.rs H0
      refine kb_105_2 (by first | with_reducible assumption | with_reducible exact kd_JB _ (by omega) | assumption) (by omega) (s125 (a := 0) H (PlC_X hP hfr) hj (by decide) ?_)
      rw [hn0]
      refine kb_105_8 (fun _ => kb_105_96 (kk h ?_ hfr)) (fun c => (by simp (disch := omega) only [z_0, z_1, z_2, z_3, z_4, z_5, z_6, z_7, z_8, z_9, z_10, z_12, z_13, z_20, z_21, z_25, z_56, z_350, z_31, z_32, z_36, z_48, z_57, z_61, z_97, z_100, z_122, z_125, z_126, z_144, z_255, z_700, z_1000, z_1548, nI_add, pk_mul, pk_sub, nI_clamp, nI_leI, nI_ltI, nI_eq, z_in, z_m1, z_m1b, lg_cmp_eq, z_cmp, Decidable.not_not, w_ie, w_in, w_il, w_le, w_ln, w_li, w_ir, w_lr] at c; exfalso; omega))
      have e : f = n0 := by omega
      rw [hpr]
      rw [Nat.add_zero, Nat.add_zero, e] at hx
      exact hx
    | succ r ih =>
      intro f h hf hfr hx
      have H := hfr.rs H0
      refine kb_105_2 (by first | with_reducible assumption | with_reducible exact kd_JB _ (by omega) | assumption) (by omega) (s125 (a := 0) H (PlC_X hP hfr) hj (by decide) ?_)
      rw [hn0]
      refine kb_105_8 (fun c => (by simp (disch := omega) only [z_0, z_1, z_2, z_3, z_4, z_5, z_6, z_7, z_8, z_9, z_10, z_12, z_13, z_20, z_21, z_25, z_56, z_350, z_31, z_32, z_36, z_48, z_57, z_61, z_97, z_100, z_122, z_125, z_126, z_144, z_255, z_700, z_1000, z_1548, nI_add, pk_mul, pk_sub, nI_clamp, nI_leI, nI_ltI, nI_eq, z_in, z_m1, z_m1b, lg_cmp_eq, z_cmp, Decidable.not_not, w_ie, w_in, w_il, w_le, w_ln, w_li, w_ir, w_lr] at c; exfalso; omega)) (fun _ => kb_105_11 ?_)
      have L2 : ∀ r s (h : mj_H), s + r = n1 → fr inX h0 h → XC h P (X ++ axL j (P.jr j) ((f * n1 + s) * n2 + 0)) → mr_M mj_KK d 105 14 [some (.ref 567), some (.int (nI j)), some (.ref (12 + 44 * j)), some (.int (nI f)), some (.int (nI s)), none, none] [] h Q := by
        intro r2
        induction r2 with
        | zero =>
          intro s h hs hfr hx
          have H := hfr.rs H0
          refine kb_105_14 (by first | with_reducible assumption | with_reducible exact kd_JB _ (by omega) | assumption) (by omega) (s125 (a := 1) H (PlC_X hP hfr) hj (by decide) ?_)
          rw [hn1]
          refine kb_105_21 (fun _ => kb_105_90 ?_) (fun c => (by simp (disch := omega) only [z_0, z_1, z_2, z_3, z_4, z_5, z_6, z_7, z_8, z_9, z_10, z_12, z_13, z_20, z_21, z_25, z_56, z_350, z_31, z_32, z_36, z_48, z_57, z_61, z_97, z_100, z_122, z_125, z_126, z_144, z_255, z_700, z_1000, z_1548, nI_add, pk_mul, pk_sub, nI_clamp, nI_leI, nI_ltI, nI_eq, z_in, z_m1, z_m1b, lg_cmp_eq, z_cmp, Decidable.not_not, w_ie, w_in, w_il, w_le, w_ln, w_li, w_ir, w_lr] at c; exfalso; omega))
          rw [nI_1]
          have e : s = n1 := by omega
          subst e
          refine ih (f + 1) h (by omega) hfr ?_
          rw [Nat.add_mul f 1, Nat.one_mul, Nat.add_zero]
          exact hx
        | succ r2 ih2 =>
          intro s h hs hfr hx
          have H := hfr.rs H0
          refine kb_105_14 (by first | with_reducible assumption | with_reducible exact kd_JB _ (by omega) | assumption) (by omega) (s125 (a := 1) H (PlC_X hP hfr) hj (by decide) ?_)
          rw [hn1]
          refine kb_105_21 (fun c => (by simp (disch := omega) only [z_0, z_1, z_2, z_3, z_4, z_5, z_6, z_7, z_8, z_9, z_10, z_12, z_13, z_20, z_21, z_25, z_56, z_350, z_31, z_32, z_36, z_48, z_57, z_61, z_97, z_100, z_122, z_125, z_126, z_144, z_255, z_700, z_1000, z_1548, nI_add, pk_mul, pk_sub, nI_clamp, nI_leI, nI_ltI, nI_eq, z_in, z_m1, z_m1b, lg_cmp_eq, z_cmp, Decidable.not_not, w_ie, w_in, w_il, w_le, w_ln, w_li, w_ir, w_lr] at c; exfalso; omega)) (fun _ => kb_105_24 ?_)
          have L3 : ∀ r t (h : mj_H), t + r = n2 → fr inX h0 h → XC h P (X ++ axL j (P.jr j) ((f * n1 + s) * n2 + t)) → mr_M mj_KK d 105 27 [some (.ref 567), some (.int (nI j)), some (.ref (12 + 44 * j)), some (.int (nI f)), some (.int (nI s)), some (.int (nI t)), none] [] h Q := by
            intro r3
            induction r3 with
            | zero =>
              intro t h ht hfr hx
              have H := hfr.rs H0
              refine kb_105_27 (by first | with_reducible assumption | with_reducible exact kd_JB _ (by omega) | assumption) (by omega) (s125 (a := 2) H (PlC_X hP hfr) hj (by decide) ?_)
              rw [hn2]
              refine kb_105_34 (fun _ => kb_105_84 ?_) (fun c => (by simp (disch := omega) only [z_0, z_1, z_2, z_3, z_4, z_5, z_6, z_7, z_8, z_9, z_10, z_12, z_13, z_20, z_21, z_25, z_56, z_350, z_31, z_32, z_36, z_48, z_57, z_61, z_97, z_100, z_122, z_125, z_126, z_144, z_255, z_700, z_1000, z_1548, nI_add, pk_mul, pk_sub, nI_clamp, nI_leI, nI_ltI, nI_eq, z_in, z_m1, z_m1b, lg_cmp_eq, z_cmp, Decidable.not_not, w_ie, w_in, w_il, w_le, w_ln, w_li, w_ir, w_lr] at c; exfalso; omega))
              rw [nI_1]
              have e : t = n2 := by omega
              subst e
              refine ih2 (s + 1) h (by omega) hfr ?_
              rw [← Nat.add_assoc, Nat.add_mul (f * n1 + s) 1, Nat.one_mul, Nat.add_zero]
              exact hx
            | succ r3 ih3 =>
              intro t h ht hfr hx
              have H := hfr.rs H0
              have hPh := PlC_X hP hfr
              refine kb_105_27 (by first | with_reducible assumption | with_reducible exact kd_JB _ (by omega) | assumption) (by omega) (s125 (a := 2) H hPh hj (by decide) ?_)
              rw [hn2]
              have hm : (f * n1 + s) * n2 + t < n0 * n1 * n2 := by
                have m1 : f * n1 + s < n0 * n1 := by
                  have : (f + 1) * n1 ≤ n0 * n1 := Nat.mul_le_mul (by omega) (Nat.le_refl _)
                  rw [Nat.add_mul, Nat.one_mul] at this
                  omega
                have : (f * n1 + s + 1) * n2 ≤ n0 * n1 * n2 := Nat.mul_le_mul m1 (Nat.le_refl _)
                rw [Nat.add_mul, Nat.one_mul] at this
                omega
              have ec := hcc f s t (by omega) (by omega)
              have en : ((nI f * 5 + nI s) * 5 + nI t : Int32) = nI (cC (P.jr j).2.1 ((f * n1 + s) * n2 + t)) := by
                rw [ec, show (5 : Int32) = nI 5 from rfl, pk_mul, nI_add, pk_mul, nI_add]
              refine kb_105_34 (fun c => (by simp (disch := omega) only [z_0, z_1, z_2, z_3, z_4, z_5, z_6, z_7, z_8, z_9, z_10, z_12, z_13, z_20, z_21, z_25, z_56, z_350, z_31, z_32, z_36, z_48, z_57, z_61, z_97, z_100, z_122, z_125, z_126, z_144, z_255, z_700, z_1000, z_1548, nI_add, pk_mul, pk_sub, nI_clamp, nI_leI, nI_ltI, nI_eq, z_in, z_m1, z_m1b, lg_cmp_eq, z_cmp, Decidable.not_not, w_ie, w_in, w_il, w_le, w_ln, w_li, w_ir, w_lr] at c; exfalso; omega)) (fun _ => kb_105_37 (by first | with_reducible assumption | with_reducible exact kd_EX | assumption) (by first | with_reducible assumption | exact rf_EX_combination H | assumption) (by first | with_reducible assumption | with_reducible exact kd_JB _ (by omega) | assumption) (by omega) ?_)
              rw [en]
              generalize hmm : (f * n1 + s) * n2 + t = m at *
              refine s126a (by omega) H hPh hj hA (by rw [hpr]; exact hm) (fun h1 g1 g2 => ?_)
              have f1 := hfr.trans (g2.mono (fun a i q => inP_X q))
              have H := f1.rs H0
              have hx1 := XC_P hx g2
              have al := axL_len (j := j) (J := P.jr j) (m := m)
              refine kb_105_60 (by first | with_reducible assumption | with_reducible exact kd_EX | assumption) (by first | with_reducible assumption | exact rf_EX_combination H | assumption) (by first | with_reducible assumption | with_reducible exact kd_JB _ (by omega) | assumption) (by omega) (s128 (by omega) H (PlC_X hP f1) hj isP_CB g1 ?_)
              cases hb : xc (P.jr j).2.2.2.1 (cbL (P.jr j).2.1 (dgA (P.jr j).2.1 m)) with
              | true =>
                refine kb_105_68 (fun _ => kb_105_78 ?_) (fun c => absurd (by decide) c)
                rw [nI_1]
                refine ih3 (t + 1) h1 (by omega) f1 ?_
                rw [← Nat.add_assoc, hmm, axL_s, hb, if_pos rfl, List.append_nil]
                exact hx1
              | false =>
                refine kb_105_68 (fun c => absurd rfl c) (fun _ => kb_105_71 (by first | with_reducible assumption | with_reducible exact kd_EX | assumption) (by omega) (s107 (e := (j, 0, m)) H hx1 (by rw [List.length_append]; omega) (if_pos rfl) (fun h2 k1 k2 => kb_105_78 ?_)))
                rw [nI_1]
                refine ih3 (t + 1) h2 (by omega) (f1.trans k2) ?_
                rw [← Nat.add_assoc, hmm, axL_s, hb, if_neg Bool.false_ne_true, ← List.append_assoc]
                exact k1
          exact L3 n2 0 h (by omega) hfr hx
      exact L2 n1 0 h (by omega) hfr hx
  refine L1 n0 0 h0 (by omega) fr.rfl' ?_
  have e0 : (0 * n1 + 0) * n2 + 0 = 0 := by rw [Nat.zero_mul, Nat.zero_add, Nat.zero_mul]
  have e1 : axL j (P.jr j) 0 = [] := rfl
  rw [e0, e1, List.append_nil]
  exact hX
/-- Expansion.addIncludes -/
theorem s106 {X : List En} (hd : 5 ≤ d) (H0 : mj_RS h0) (hP : PlC h0 P) (hj : j < P.nj) (hJ : JV (P.jr j)) (hX : XC h0 P X) (hl : X.length + 4 ≤ 1548) (kk : ∀ h', XC h' P (X ++ inL2 j (P.jr j) (P.jr j).2.2.1.length) → fr inX h0 h' → Q none h') : mr_C mj_KK d 106 [.ref 567, .int (nI j), .ref (12 + 44 * j)] h0 Q := by
  show mr_M mj_KK d 106 0 [some (.ref 567), some (.int (nI j)), some (.ref (12 + 44 * j)), none] [] h0 Q
  have hj12 : j < 12 := by have := hP.2.1; omega
  refine kb_106_0 ?_
  have loop : ∀ n i (h : mj_H), i + n = (P.jr j).2.2.1.length → fr inX h0 h → XC h P (X ++ inL2 j (P.jr j) i) → mr_M mj_KK d 106 2 [some (.ref 567), some (.int (nI j)), some (.ref (12 + 44 * j)), some (.int (nI i))] [] h Q := by
    intro n
    induction n with
    | zero =>
      intro i h hi hf hx
      have H := hf.rs H0
      obtain ⟨-, -, ⟨x1, x2, x3⟩, -⟩ := ((PlC_X hP hf).2.2.2.2.1 j hj).2
      have e : i = (P.jr j).2.2.1.length := by omega
      subst e
      exact kb_106_2 (kd_JB j hj12) (rf_JB_includes H hj12) (kd_IN j hj12) (fun _ => kb_106_36 (kk h hx hf)) (fun c => (by simp (disch := omega) only [z_0, z_1, z_2, z_3, z_4, z_5, z_6, z_7, z_8, z_9, z_10, z_12, z_13, z_20, z_21, z_25, z_56, z_350, z_31, z_32, z_36, z_48, z_57, z_61, z_97, z_100, z_122, z_125, z_126, z_144, z_255, z_700, z_1000, z_1548, nI_add, pk_mul, pk_sub, nI_clamp, nI_leI, nI_ltI, nI_eq, z_in, z_m1, z_m1b, lg_cmp_eq, z_cmp, Decidable.not_not, w_ie, w_in, w_il, w_le, w_ln, w_li, w_ir, w_lr, x1] at c; exfalso; omega))
    | succ n ih =>
      intro i h hi hf hx
      have H := hf.rs H0
      have hPh := PlC_X hP hf
      obtain ⟨-, -, ⟨x1, x2, x3⟩, -⟩ := (hPh.2.2.2.2.1 j hj).2
      have al := inL2_len (j := j) (J := P.jr j) (m := i)
      refine kb_106_2 (kd_JB j hj12) (rf_JB_includes H hj12) (kd_IN j hj12) (fun c => (by simp (disch := omega) only [z_0, z_1, z_2, z_3, z_4, z_5, z_6, z_7, z_8, z_9, z_10, z_12, z_13, z_20, z_21, z_25, z_56, z_350, z_31, z_32, z_36, z_48, z_57, z_61, z_97, z_100, z_122, z_125, z_126, z_144, z_255, z_700, z_1000, z_1548, nI_add, pk_mul, pk_sub, nI_clamp, nI_leI, nI_ltI, nI_eq, z_in, z_m1, z_m1b, lg_cmp_eq, z_cmp, Decidable.not_not, w_ie, w_in, w_il, w_le, w_ln, w_li, w_ir, w_lr, x1] at c; exfalso; omega)) (fun _ => kb_106_13 (by first | with_reducible assumption | with_reducible exact kd_JB _ (by omega) | assumption) (by omega) (s129 (by omega) H hPh hj (by omega) ?_))
      cases hb : rpI (P.jr j) i with
      | true =>
        refine kb_106_18 (fun _ => kb_106_30 ?_) (fun c => absurd (by decide) c)
        rw [nI_1]
        refine ih (i + 1) h (by omega) hf ?_
        rw [inL2_s, hb, if_pos rfl, List.append_nil]
        exact hx
      | false =>
        have e125 : (125 : Int32) + nI i = nI (125 + i) := nI_add 125 i
        refine kb_106_18 (fun c => absurd rfl c) (fun _ => kb_106_21 (by first | with_reducible assumption | with_reducible exact kd_EX | assumption) (by omega) ?_)
        rw [e125]
        refine s107 (e := (j, 1, i)) H hx (by rw [List.length_append]; omega) (if_neg (by show ¬ 1 = 0; decide)) (fun h2 k1 k2 => kb_106_30 ?_)
        rw [nI_1]
        refine ih (i + 1) h2 (by omega) (hf.trans k2) ?_
        rw [inL2_s, hb, if_neg Bool.false_ne_true, ← List.append_assoc]
        exact k1
  exact loop (P.jr j).2.2.1.length 0 h0 (by omega) fr.rfl' (by
    have e1 : inL2 j (P.jr j) 0 = [] := rfl
    rw [e1, List.append_nil]
    exact hX)
/-- Expansion.addJobs -/
theorem s104 (hd : 6 ≤ d) (H0 : mj_RS h0) (hP : PlC h0 P) (hJ : ∀ j, JV (P.jr j)) (hX : XC h0 P []) (kk : ∀ h', XC h' P (exA P P.nj) → fr inX h0 h' → Q none h') : mr_C mj_KK d 104 [.ref 567, .ref 9] h0 Q := by
  show mr_M mj_KK d 104 0 [some (.ref 567), some (.ref 9), none, none] [] h0 Q
  have j12 := hP.2.1
  refine kb_104_0 ?_
  have loop : ∀ n j (h : mj_H), j + n = P.nj → fr inX h0 h → XC h P (exA P j) → mr_M mj_KK d 104 2 [some (.ref 567), some (.ref 9), some (.int (nI j)), none] [] h Q := by
    intro n
    induction n with
    | zero =>
      intro j h hj hf hx
      have a1 := (PlC_X hP hf).1
      have e : j = P.nj := by omega
      subst e
      exact kb_104_2 (by first | with_reducible assumption | with_reducible exact kd_PL | assumption) (fun _ => kb_104_52 (kk h hx hf)) (fun c => (by simp (disch := omega) only [z_0, z_1, z_2, z_3, z_4, z_5, z_6, z_7, z_8, z_9, z_10, z_12, z_13, z_20, z_21, z_25, z_56, z_350, z_31, z_32, z_36, z_48, z_57, z_61, z_97, z_100, z_122, z_125, z_126, z_144, z_255, z_700, z_1000, z_1548, nI_add, pk_mul, pk_sub, nI_clamp, nI_leI, nI_ltI, nI_eq, z_in, z_m1, z_m1b, lg_cmp_eq, z_cmp, Decidable.not_not, w_ie, w_in, w_il, w_le, w_ln, w_li, w_ir, w_lr, a1] at c; exfalso; omega))
    | succ n ih =>
      intro j h hj hf hx
      have H := hf.rs H0
      have hPh := PlC_X hP hf
      have a1 := hPh.1
      have hj2 : j < P.nj := by omega
      have hj12 : j < 12 := by omega
      obtain ⟨-, ⟨y1, y2, -⟩, ⟨x1, x2, -⟩, -⟩ := (hPh.2.2.2.2.1 j hj2).2
      have al := exA_len (n := j) hJ
      have pl := axL_len (j := j) (J := P.jr j) (m := pdA (P.jr j))
      have p125 := pdA_le (hJ j).1
      have inc : ∀ h, fr inX h0 h → XC h P (exA P j ++ axL j (P.jr j) (pdA (P.jr j))) → mr_M mj_KK d 104 40 [some (.ref 567), some (.ref 9), some (.int (nI j)), some (.ref (12 + 44 * j))] [] h Q := by
        intro h hf hx
        have H := hf.rs H0
        refine kb_104_40 (by first | with_reducible assumption | with_reducible exact kd_EX | assumption) (by omega) (s106 (by omega) H (PlC_X hP hf) hj2 (hJ j) hx (by rw [List.length_append]; omega) (fun h2 k1 k2 => kb_104_46 ?_))
        rw [nI_1]
        refine ih (j + 1) h2 (by omega) (hf.trans k2) ?_
        rw [exA_s]
        unfold exJ
        rw [← List.append_assoc]
        exact k1
      have axes : pdA (P.jr j) = prA (P.jr j).2.1 → mr_M mj_KK d 104 34 [some (.ref 567), some (.ref 9), some (.int (nI j)), some (.ref (12 + 44 * j))] [] h Q := by
        intro e
        refine kb_104_34 (by first | with_reducible assumption | with_reducible exact kd_EX | assumption) (by omega) (s105 (by omega) H hPh hj2 (hJ j) hx (by omega) (fun h2 k1 k2 => inc h2 (hf.trans k2) ?_))
        rw [e]
        exact k1
      refine kb_104_2 (by first | with_reducible assumption | with_reducible exact kd_PL | assumption) (fun c => (by simp (disch := omega) only [z_0, z_1, z_2, z_3, z_4, z_5, z_6, z_7, z_8, z_9, z_10, z_12, z_13, z_20, z_21, z_25, z_56, z_350, z_31, z_32, z_36, z_48, z_57, z_61, z_97, z_100, z_122, z_125, z_126, z_144, z_255, z_700, z_1000, z_1548, nI_add, pk_mul, pk_sub, nI_clamp, nI_leI, nI_ltI, nI_eq, z_in, z_m1, z_m1b, lg_cmp_eq, z_cmp, Decidable.not_not, w_ie, w_in, w_il, w_le, w_ln, w_li, w_ir, w_lr, a1] at c; exfalso; omega)) (fun _ => kb_104_10 (by first | with_reducible assumption | with_reducible exact kd_PL | assumption) (by first | with_reducible assumption | exact rf_PL_jobs H | assumption) (by first | with_reducible assumption | with_reducible exact kd_PL_jobs | assumption) (by first | with_reducible assumption | (simp (disch := omega) only [z_0, z_1, z_2, z_3, z_4, z_5, z_6, z_7, z_8, z_9, z_10, z_12, z_13, z_20, z_21, z_25, z_56, z_350, z_31, z_32, z_36, z_48, z_57, z_61, z_97, z_100, z_122, z_125, z_126, z_144, z_255, z_700, z_1000, z_1548, nI_add, pk_mul, pk_sub, nI_clamp, nI_leI, nI_ltI, nI_eq, z_in, z_m1, z_m1b, lg_cmp_eq, z_cmp, Decidable.not_not, w_ie, w_in, w_il, w_le, w_ln, w_li, w_ir, w_lr, ln_P_tape, ln_W_text, ln_W_starts, ln_W_ends, ln_W_lines, ln_W_names, ln_W_values, ln_PL_jobs, ln_PL_parts, ln_FT_reached, ln_EX_jobs, ln_EX_codes, ln_CB_names, ln_CB_values, ln_M_tape, ln_M_source, ln_M_wordAt, ln_M_wordEnd, ln_M_names, ln_M_itemCount, ln_M_itemFirst, ln_M_itemWords, ln_M_itemUses, ln_M_keptAt, ln_M_keptEnd, ln_M_needCount, ln_M_axisCount, ln_M_valueCount, ln_M_needed, ln_M_axes, ln_M_values, ln_M_includes, ln_M_excludes, ln_M_pairCount, ln_M_pairName, ln_M_pairValue, ln_M_signCount, ln_M_signs, ln_M_signName, ln_M_signValue, ln_M_whose, ln_M_which, ln_M_pile, ln_M_reaches, ln_M_stepsOf, ln_M_known, ln_JB_needed, ln_JB_axes, ln_JS_used, ln_JS_stepWords, ln_PS_used, ln_PS_stepWords, ln_IN_rows, ln_EC_rows, ln_IR_names, ln_IR_values, ln_ER_names, ln_ER_values, ln_CD_kinds, ln_CD_names, ln_CD_values, ln_AX_values] <;> omega) | assumption) (by first | with_reducible assumption | exact rf_jobs H (by omega) | (simp (disch := omega) only [z_0, z_1, z_2, z_3, z_4, z_5, z_6, z_7, z_8, z_9, z_10, z_12, z_13, z_20, z_21, z_25, z_56, z_350, z_31, z_32, z_36, z_48, z_57, z_61, z_97, z_100, z_122, z_125, z_126, z_144, z_255, z_700, z_1000, z_1548, nI_add, pk_mul, pk_sub, nI_clamp, nI_leI, nI_ltI, nI_eq, z_in, z_m1, z_m1b, lg_cmp_eq, z_cmp, Decidable.not_not, w_ie, w_in, w_il, w_le, w_ln, w_li, w_ir, w_lr]; exact rf_jobs H (by omega)) | (simp (disch := omega) only [z_0, z_1, z_2, z_3, z_4, z_5, z_6, z_7, z_8, z_9, z_10, z_12, z_13, z_20, z_21, z_25, z_56, z_350, z_31, z_32, z_36, z_48, z_57, z_61, z_97, z_100, z_122, z_125, z_126, z_144, z_255, z_700, z_1000, z_1548, nI_add, pk_mul, pk_sub, nI_clamp, nI_leI, nI_ltI, nI_eq, z_in, z_m1, z_m1b, lg_cmp_eq, z_cmp, Decidable.not_not, w_ie, w_in, w_il, w_le, w_ln, w_li, w_ir, w_lr]; assumption) | assumption) (by first | with_reducible assumption | with_reducible exact kd_JB _ (by omega) | assumption) (fun c => axes ?_) (fun c => kb_104_24 (kd_JB j hj12) (rf_JB_includes H hj12) (kd_IN j hj12) (fun c2 => inc h hf ?_) (fun c2 => axes ?_)))
      · simp (disch := omega) only [z_0, z_1, z_2, z_3, z_4, z_5, z_6, z_7, z_8, z_9, z_10, z_12, z_13, z_20, z_21, z_25, z_56, z_350, z_31, z_32, z_36, z_48, z_57, z_61, z_97, z_100, z_122, z_125, z_126, z_144, z_255, z_700, z_1000, z_1548, nI_add, pk_mul, pk_sub, nI_clamp, nI_leI, nI_ltI, nI_eq, z_in, z_m1, z_m1b, lg_cmp_eq, z_cmp, Decidable.not_not, w_ie, w_in, w_il, w_le, w_ln, w_li, w_ir, w_lr, y1] at c
        unfold pdA
        rw [if_neg (by omega)]
      · simp (disch := omega) only [z_0, z_1, z_2, z_3, z_4, z_5, z_6, z_7, z_8, z_9, z_10, z_12, z_13, z_20, z_21, z_25, z_56, z_350, z_31, z_32, z_36, z_48, z_57, z_61, z_97, z_100, z_122, z_125, z_126, z_144, z_255, z_700, z_1000, z_1548, nI_add, pk_mul, pk_sub, nI_clamp, nI_leI, nI_ltI, nI_eq, z_in, z_m1, z_m1b, lg_cmp_eq, z_cmp, Decidable.not_not, w_ie, w_in, w_il, w_le, w_ln, w_li, w_ir, w_lr, y1] at c
        simp (disch := omega) only [z_0, z_1, z_2, z_3, z_4, z_5, z_6, z_7, z_8, z_9, z_10, z_12, z_13, z_20, z_21, z_25, z_56, z_350, z_31, z_32, z_36, z_48, z_57, z_61, z_97, z_100, z_122, z_125, z_126, z_144, z_255, z_700, z_1000, z_1548, nI_add, pk_mul, pk_sub, nI_clamp, nI_leI, nI_ltI, nI_eq, z_in, z_m1, z_m1b, lg_cmp_eq, z_cmp, Decidable.not_not, w_ie, w_in, w_il, w_le, w_ln, w_li, w_ir, w_lr, x1] at c2
        have : pdA (P.jr j) = 0 := by
          unfold pdA
          rw [if_pos (by omega)]
        rw [this]
        show XC h P (exA P j ++ [])
        rw [List.append_nil]
        exact hx
      · simp (disch := omega) only [z_0, z_1, z_2, z_3, z_4, z_5, z_6, z_7, z_8, z_9, z_10, z_12, z_13, z_20, z_21, z_25, z_56, z_350, z_31, z_32, z_36, z_48, z_57, z_61, z_97, z_100, z_122, z_125, z_126, z_144, z_255, z_700, z_1000, z_1548, nI_add, pk_mul, pk_sub, nI_clamp, nI_leI, nI_ltI, nI_eq, z_in, z_m1, z_m1b, lg_cmp_eq, z_cmp, Decidable.not_not, w_ie, w_in, w_il, w_le, w_ln, w_li, w_ir, w_lr, x1] at c2
        unfold pdA
        rw [if_neg (by omega)]
  exact loop P.nj 0 h0 (by omega) fr.rfl' hX
end
