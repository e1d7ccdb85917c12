-- ===== a condition is asked =====
theorem bt_ext1 {z : Int32} : (z &&& 1 = 0 ↔ bt z 0 = false) ∧ (z &&& 1 = 1 ↔ bt z 0 = true) := by
  have b1 : ∀ i, i < 32 → bt (z &&& 1) i = (bt z i && decide (i = 0)) := fun i hi => by rw [b_and, bt_1 i hi]
  cases hz : bt z 0 with
  | false =>
    have e : z &&& 1 = 0 := b_ext (fun i hi => by
      rw [b1 i hi, b_0]
      by_cases q : i = 0
      · rw [q, hz, Bool.false_and]
      · rw [decide_eq_false q, Bool.and_false])
    rw [e]
    exact ⟨⟨fun _ => rfl, fun _ => rfl⟩, ⟨fun r => absurd r (by decide), fun r => by cases r⟩⟩
  | true =>
    have e : z &&& 1 = 1 := b_ext (fun i hi => by
      rw [b1 i hi, bt_1 i hi]
      by_cases q : i = 0
      · rw [q, hz, Bool.true_and]
      · rw [decide_eq_false q, Bool.and_false])
    rw [e]
    exact ⟨⟨fun r => absurd r (by decide), fun r => by cases r⟩, ⟨fun _ => rfl, fun _ => rfl⟩⟩
section
variable {d : Nat} {h : mj_H} {Q : Option Value → mj_H → Prop} {out : Int32}
/-- isOk -/
theorem s17 {j : Nat} (hj : j < 12) (kk : Q (some (.int (b2i (bt out (2 * j))))) h) : mr_C mj_KK d 17 [.int (nI j), .int out] h Q := by
  show mr_M mj_KK d 17 0 [some (.int (nI j)), some (.int out)] [] h Q
  have e2 : (2 : Int32) * nI j = nI (2 * j) := pk_mul 2 j
  have eb : bt ((out.toUInt32 >>> ((nI (2 * j)).toUInt32 &&& Int32.toUInt32 31)).toInt32) 0 = bt out (2 * j) := by rw [b_ushr (2 * j) (by omega), Nat.add_zero]
  have b1 := bt_ext1 (z := (out.toUInt32 >>> ((nI (2 * j)).toUInt32 &&& Int32.toUInt32 31)).toInt32)
  rw [eb] at b1
  refine kb_17_0 (fun c => (by simp (disch := omega) only [z_0, z_1, z_2, z_3, z_4, z_5, z_6, z_7, z_8, z_9, z_10, z_12, z_13, z_20, z_21, z_25, z_56, z_350, z_31, z_32, z_36, z_48, z_57, z_61, z_97, z_100, z_122, z_125, z_126, z_144, z_255, z_700, z_1000, z_1548, nI_add, pk_mul, pk_sub, nI_clamp, nI_leI, nI_ltI, nI_eq, z_in, z_m1, z_m1b, lg_cmp_eq, z_cmp, Decidable.not_not, w_ie, w_in, w_il, w_le, w_ln, w_li, w_ir, w_lr] at c; exfalso; omega)) (fun _ => kb_17_4 (fun c => (by simp (disch := omega) only [z_0, z_1, z_2, z_3, z_4, z_5, z_6, z_7, z_8, z_9, z_10, z_12, z_13, z_20, z_21, z_25, z_56, z_350, z_31, z_32, z_36, z_48, z_57, z_61, z_97, z_100, z_122, z_125, z_126, z_144, z_255, z_700, z_1000, z_1548, nI_add, pk_mul, pk_sub, nI_clamp, nI_leI, nI_ltI, nI_eq, z_in, z_m1, z_m1b, lg_cmp_eq, z_cmp, Decidable.not_not, w_ie, w_in, w_il, w_le, w_ln, w_li, w_ir, w_lr] at c; exfalso; omega)) (fun _ => kb_17_10 (fun c => kb_17_24 (kb_17_25 (by first | assumption | exact b2i_01 _ | exact Or.inl rfl | exact Or.inr rfl) ?_)) (fun c => kb_17_20 (kb_17_25 (by first | assumption | exact b2i_01 _ | exact Or.inl rfl | exact Or.inr rfl) ?_))))
  · rw [e2, b1.1] at c
    rw [c] at kk
    exact kk
  · rw [e2, b1.1, Bool.not_eq_false] at c
    rw [c] at kk
    exact kk
/-- isBad -/
theorem s18 {j : Nat} (hj : j < 12) (kk : Q (some (.int (b2i (bt out (2 * j + 1))))) h) : mr_C mj_KK d 18 [.int (nI j), .int out] h Q := by
  show mr_M mj_KK d 18 0 [some (.int (nI j)), some (.int out)] [] h Q
  have e2 : (2 : Int32) * nI j + 1 = nI (2 * j + 1) := by rw [show (2 : Int32) = nI 2 from rfl, pk_mul, nI_1]
  have eb : bt ((out.toUInt32 >>> ((nI (2 * j + 1)).toUInt32 &&& Int32.toUInt32 31)).toInt32) 0 = bt out (2 * j + 1) := by rw [b_ushr (2 * j + 1) (by omega), Nat.add_zero]
  have b1 := bt_ext1 (z := (out.toUInt32 >>> ((nI (2 * j + 1)).toUInt32 &&& Int32.toUInt32 31)).toInt32)
  rw [eb] at b1
  refine kb_18_0 (fun c => (by simp (disch := omega) only [z_0, z_1, z_2, z_3, z_4, z_5, z_6, z_7, z_8, z_9, z_10, z_12, z_13, z_20, z_21, z_25, z_56, z_350, z_31, z_32, z_36, z_48, z_57, z_61, z_97, z_100, z_122, z_125, z_126, z_144, z_255, z_700, z_1000, z_1548, nI_add, pk_mul, pk_sub, nI_clamp, nI_leI, nI_ltI, nI_eq, z_in, z_m1, z_m1b, lg_cmp_eq, z_cmp, Decidable.not_not, w_ie, w_in, w_il, w_le, w_ln, w_li, w_ir, w_lr] at c; exfalso; omega)) (fun _ => kb_18_4 (fun c => (by simp (disch := omega) only [z_0, z_1, z_2, z_3, z_4, z_5, z_6, z_7, z_8, z_9, z_10, z_12, z_13, z_20, z_21, z_25, z_56, z_350, z_31, z_32, z_36, z_48, z_57, z_61, z_97, z_100, z_122, z_125, z_126, z_144, z_255, z_700, z_1000, z_1548, nI_add, pk_mul, pk_sub, nI_clamp, nI_leI, nI_ltI, nI_eq, z_in, z_m1, z_m1b, lg_cmp_eq, z_cmp, Decidable.not_not, w_ie, w_in, w_il, w_le, w_ln, w_li, w_ir, w_lr] at c; exfalso; omega)) (fun _ => kb_18_10 (fun c => kb_18_26 (kb_18_27 (by first | assumption | exact b2i_01 _ | exact Or.inl rfl | exact Or.inr rfl) ?_)) (fun c => kb_18_22 (kb_18_27 (by first | assumption | exact b2i_01 _ | exact Or.inl rfl | exact Or.inr rfl) ?_))))
  · rw [e2, b1.1] at c
    rw [c] at kk
    exact kk
  · rw [e2, b1.1, Bool.not_eq_false] at c
    rw [c] at kk
    exact kk
end
def BRN : Int64 := 108243400418152
/-- the truth of an asking -/
def tQ (P : mj_P) (cb : Pp) (br : Int64) (out : Int32) (s : Sg) : Bool :=
  if s.1 = 0 then true
  else if s.1 = 3 then (if ¬ vO cb s.2.1 = 0 then decide (vO cb s.2.1 = s.2.2) else decide (s.2.1 = BRN) && decide (s.2.2 = br))
  else bt out (2 * (jN P s.2.1).toNatClampNeg + (if s.1 = 2 then 1 else 0))
section
variable {d j : Nat} {h : mj_H} {Q : Option Value → mj_H → Prop} {P : mj_P} {cb : Pp} {br : Int64} {out : Int32}
/-- Condition.isHad -/
theorem s100 {i : Nat} {s : Sg} (hd : 1 ≤ d) (H : mj_RS h) (hj : j < 12) (hi : i < 20) (hC : PrC h 570 cb) (e1 : h.2.1 (48 + 44 * j) i = s.2.1) (e2 : h.2.1 (49 + 44 * j) i = s.2.2) (h3 : s.1 = 3) (hv : ¬ s.2.2 = 0) (kk : Q (some (.int (b2i (tQ P cb br out s)))) h) : mr_C mj_KK d 100 [.ref (46 + 44 * j), .int (nI i), .ref 570, .long br] h Q := by
  show mr_M mj_KK d 100 0 [some (.ref (46 + 44 * j)), some (.int (nI i)), some (.ref 570), some (.long br), none, none, none] [] h Q
  unfold tQ at kk
  rw [if_neg (by omega), if_pos h3] at kk
  refine kb_100_0 (by first | with_reducible assumption | with_reducible exact kd_CD _ (by omega) | assumption) (by first | with_reducible assumption | exact rf_CD_names H (by omega) | assumption) (by first | with_reducible assumption | with_reducible exact kd_CD_names _ (by omega) | assumption) (by first | with_reducible assumption | (simp (disch := omega) only [z_0, z_1, z_2, z_3, z_4, z_5, z_6, z_7, z_8, z_9, z_10, z_12, z_13, z_20, z_21, z_25, z_56, z_350, z_31, z_32, z_36, z_48, z_57, z_61, z_97, z_100, z_122, z_125, z_126, z_144, z_255, z_700, z_1000, z_1548, nI_add, pk_mul, pk_sub, nI_clamp, nI_leI, nI_ltI, nI_eq, z_in, z_m1, z_m1b, lg_cmp_eq, z_cmp, Decidable.not_not, w_ie, w_in, w_il, w_le, w_ln, w_li, w_ir, w_lr, ln_P_tape, ln_W_text, ln_W_starts, ln_W_ends, ln_W_lines, ln_W_names, ln_W_values, ln_PL_jobs, ln_PL_parts, ln_FT_reached, ln_EX_jobs, ln_EX_codes, ln_CB_names, ln_CB_values, ln_M_tape, ln_M_source, ln_M_wordAt, ln_M_wordEnd, ln_M_names, ln_M_itemCount, ln_M_itemFirst, ln_M_itemWords, ln_M_itemUses, ln_M_keptAt, ln_M_keptEnd, ln_M_needCount, ln_M_axisCount, ln_M_valueCount, ln_M_needed, ln_M_axes, ln_M_values, ln_M_includes, ln_M_excludes, ln_M_pairCount, ln_M_pairName, ln_M_pairValue, ln_M_signCount, ln_M_signs, ln_M_signName, ln_M_signValue, ln_M_whose, ln_M_which, ln_M_pile, ln_M_reaches, ln_M_stepsOf, ln_M_known, ln_JB_needed, ln_JB_axes, ln_JS_used, ln_JS_stepWords, ln_PS_used, ln_PS_stepWords, ln_IN_rows, ln_EC_rows, ln_IR_names, ln_IR_values, ln_ER_names, ln_ER_values, ln_CD_kinds, ln_CD_names, ln_CD_values, ln_AX_values] <;> omega) | assumption) (by first | with_reducible assumption | with_reducible exact kd_CB | with_reducible exact kd_IR _ (by omega) _ (by omega) | with_reducible exact kd_ER _ (by omega) _ (by omega) | assumption) (by omega) ?_
  rw [nI_clamp (by omega), e1]
  refine s136 isP_CB H hC ?_
  generalize vO cb s.2.1 = v at kk ⊢
  have fin : ∀ (w : Int64) (b : Bool), decide (s.2.2 = w) = b → Q (some (.int (b2i b))) h → mr_M mj_KK d 100 44 [none, none, none, none, none, none, none] [.long w, .long s.2.2] h Q := by
    intro w b hb k
    refine kb_100_44 (fun c => kb_100_52 (kb_100_53 (by first | assumption | exact b2i_01 _ | exact Or.inl rfl | exact Or.inr rfl) ?_)) (fun c => kb_100_48 (kb_100_53 (by first | assumption | exact b2i_01 _ | exact Or.inl rfl | exact Or.inr rfl) ?_))
    · rw [lg_cmp_eq] at c
      rw [decide_eq_false c] at hb
      rw [← hb] at k
      exact k
    · rw [lg_cmp_eq, Decidable.not_not] at c
      rw [decide_eq_true c] at hb
      rw [← hb] at k
      exact k
  refine kb_100_10 (by first | with_reducible assumption | with_reducible exact kd_CD _ (by omega) | assumption) (by first | with_reducible assumption | exact rf_CD_values H (by omega) | assumption) (by first | with_reducible assumption | with_reducible exact kd_CD_values _ (by omega) | assumption) (by first | with_reducible assumption | (simp (disch := omega) only [z_0, z_1, z_2, z_3, z_4, z_5, z_6, z_7, z_8, z_9, z_10, z_12, z_13, z_20, z_21, z_25, z_56, z_350, z_31, z_32, z_36, z_48, z_57, z_61, z_97, z_100, z_122, z_125, z_126, z_144, z_255, z_700, z_1000, z_1548, nI_add, pk_mul, pk_sub, nI_clamp, nI_leI, nI_ltI, nI_eq, z_in, z_m1, z_m1b, lg_cmp_eq, z_cmp, Decidable.not_not, w_ie, w_in, w_il, w_le, w_ln, w_li, w_ir, w_lr, ln_P_tape, ln_W_text, ln_W_starts, ln_W_ends, ln_W_lines, ln_W_names, ln_W_values, ln_PL_jobs, ln_PL_parts, ln_FT_reached, ln_EX_jobs, ln_EX_codes, ln_CB_names, ln_CB_values, ln_M_tape, ln_M_source, ln_M_wordAt, ln_M_wordEnd, ln_M_names, ln_M_itemCount, ln_M_itemFirst, ln_M_itemWords, ln_M_itemUses, ln_M_keptAt, ln_M_keptEnd, ln_M_needCount, ln_M_axisCount, ln_M_valueCount, ln_M_needed, ln_M_axes, ln_M_values, ln_M_includes, ln_M_excludes, ln_M_pairCount, ln_M_pairName, ln_M_pairValue, ln_M_signCount, ln_M_signs, ln_M_signName, ln_M_signValue, ln_M_whose, ln_M_which, ln_M_pile, ln_M_reaches, ln_M_stepsOf, ln_M_known, ln_JB_needed, ln_JB_axes, ln_JS_used, ln_JS_stepWords, ln_PS_used, ln_PS_stepWords, ln_IN_rows, ln_EC_rows, ln_IR_names, ln_IR_values, ln_ER_names, ln_ER_values, ln_CD_kinds, ln_CD_names, ln_CD_values, ln_AX_values] <;> omega) | assumption) (fun c => kb_100_42 ?_) (fun c => kb_100_25 (by first | with_reducible assumption | with_reducible exact kd_CD _ (by omega) | assumption) (by first | with_reducible assumption | exact rf_CD_names H (by omega) | assumption) (by first | with_reducible assumption | with_reducible exact kd_CD_names _ (by omega) | assumption) (by first | with_reducible assumption | (simp (disch := omega) only [z_0, z_1, z_2, z_3, z_4, z_5, z_6, z_7, z_8, z_9, z_10, z_12, z_13, z_20, z_21, z_25, z_56, z_350, z_31, z_32, z_36, z_48, z_57, z_61, z_97, z_100, z_122, z_125, z_126, z_144, z_255, z_700, z_1000, z_1548, nI_add, pk_mul, pk_sub, nI_clamp, nI_leI, nI_ltI, nI_eq, z_in, z_m1, z_m1b, lg_cmp_eq, z_cmp, Decidable.not_not, w_ie, w_in, w_il, w_le, w_ln, w_li, w_ir, w_lr, ln_P_tape, ln_W_text, ln_W_starts, ln_W_ends, ln_W_lines, ln_W_names, ln_W_values, ln_PL_jobs, ln_PL_parts, ln_FT_reached, ln_EX_jobs, ln_EX_codes, ln_CB_names, ln_CB_values, ln_M_tape, ln_M_source, ln_M_wordAt, ln_M_wordEnd, ln_M_names, ln_M_itemCount, ln_M_itemFirst, ln_M_itemWords, ln_M_itemUses, ln_M_keptAt, ln_M_keptEnd, ln_M_needCount, ln_M_axisCount, ln_M_valueCount, ln_M_needed, ln_M_axes, ln_M_values, ln_M_includes, ln_M_excludes, ln_M_pairCount, ln_M_pairName, ln_M_pairValue, ln_M_signCount, ln_M_signs, ln_M_signName, ln_M_signValue, ln_M_whose, ln_M_which, ln_M_pile, ln_M_reaches, ln_M_stepsOf, ln_M_known, ln_JB_needed, ln_JB_axes, ln_JS_used, ln_JS_stepWords, ln_PS_used, ln_PS_stepWords, ln_IN_rows, ln_EC_rows, ln_IR_names, ln_IR_values, ln_ER_names, ln_ER_values, ln_CD_kinds, ln_CD_names, ln_CD_values, ln_AX_values] <;> omega) | assumption) (fun c2 => kb_100_42 ?_) (fun c2 => kb_100_38 ?_))
  · rw [lg_cmp_eq] at c
    rw [if_pos c] at kk
    rw [nI_clamp (by omega), e2]
    refine fin v _ ?_ kk
    by_cases q : v = s.2.2
    · rw [decide_eq_true q, decide_eq_true q.symm]
    · rw [decide_eq_false q, decide_eq_false (fun r => q r.symm)]
  · rw [lg_cmp_eq, Decidable.not_not] at c
    rw [if_neg (fun r => r c)] at kk
    rw [nI_clamp (by omega), e1, lg_cmp_eq] at c2
    rw [nI_clamp (by omega), e2, c]
    refine fin 0 _ (decide_eq_false hv) ?_
    rw [decide_eq_false (show ¬ s.2.1 = BRN from c2), Bool.false_and] at kk
    exact kk
  · rw [lg_cmp_eq, Decidable.not_not] at c
    rw [if_neg (fun r => r c)] at kk
    rw [nI_clamp (by omega), e1, lg_cmp_eq, Decidable.not_not] at c2
    rw [nI_clamp (by omega), e2]
    rw [decide_eq_true (show s.2.1 = BRN from c2), Bool.true_and] at kk
    exact fin br _ rfl kk
/-- Condition.isOutcome -/
theorem s101 {i : Nat} {s : Sg} (hd : 1 ≤ d) (H : mj_RS h) (hP : PlC h P) (hj : j < 12) (hi : i < 20) (e0 : h.1 (47 + 44 * j) i = nI s.1) (e1 : h.2.1 (48 + 44 * j) i = s.2.1) (h3 : s.1 < 3) (hn : ¬ s.1 = 0 → ¬ jN P s.2.1 = -1) (kk : Q (some (.int (b2i (tQ P cb br out s)))) h) : mr_C mj_KK d 101 [.ref (46 + 44 * j), .int (nI i), .ref 9, .int out] h Q := by
  show mr_M mj_KK d 101 0 [some (.ref (46 + 44 * j)), some (.int (nI i)), some (.ref 9), some (.int out), none] [] h Q
  have j12 := hP.2.1
  unfold tQ at kk
  refine kb_101_0 (by first | with_reducible assumption | with_reducible exact kd_CD _ (by omega) | assumption) (by first | with_reducible assumption | exact rf_CD_kinds H (by omega) | assumption) (by first | with_reducible assumption | with_reducible exact kd_CD_kinds _ (by omega) | assumption) (by first | with_reducible assumption | (simp (disch := omega) only [z_0, z_1, z_2, z_3, z_4, z_5, z_6, z_7, z_8, z_9, z_10, z_12, z_13, z_20, z_21, z_25, z_56, z_350, z_31, z_32, z_36, z_48, z_57, z_61, z_97, z_100, z_122, z_125, z_126, z_144, z_255, z_700, z_1000, z_1548, nI_add, pk_mul, pk_sub, nI_clamp, nI_leI, nI_ltI, nI_eq, z_in, z_m1, z_m1b, lg_cmp_eq, z_cmp, Decidable.not_not, w_ie, w_in, w_il, w_le, w_ln, w_li, w_ir, w_lr, ln_P_tape, ln_W_text, ln_W_starts, ln_W_ends, ln_W_lines, ln_W_names, ln_W_values, ln_PL_jobs, ln_PL_parts, ln_FT_reached, ln_EX_jobs, ln_EX_codes, ln_CB_names, ln_CB_values, ln_M_tape, ln_M_source, ln_M_wordAt, ln_M_wordEnd, ln_M_names, ln_M_itemCount, ln_M_itemFirst, ln_M_itemWords, ln_M_itemUses, ln_M_keptAt, ln_M_keptEnd, ln_M_needCount, ln_M_axisCount, ln_M_valueCount, ln_M_needed, ln_M_axes, ln_M_values, ln_M_includes, ln_M_excludes, ln_M_pairCount, ln_M_pairName, ln_M_pairValue, ln_M_signCount, ln_M_signs, ln_M_signName, ln_M_signValue, ln_M_whose, ln_M_which, ln_M_pile, ln_M_reaches, ln_M_stepsOf, ln_M_known, ln_JB_needed, ln_JB_axes, ln_JS_used, ln_JS_stepWords, ln_PS_used, ln_PS_stepWords, ln_IN_rows, ln_EC_rows, ln_IR_names, ln_IR_values, ln_ER_names, ln_ER_values, ln_CD_kinds, ln_CD_names, ln_CD_values, ln_AX_values] <;> omega) | assumption) (fun c => ?_) (fun c => kb_101_9 ?_)
  · simp (disch := omega) only [z_0, z_1, z_2, z_3, z_4, z_5, z_6, z_7, z_8, z_9, z_10, z_12, z_13, z_20, z_21, z_25, z_56, z_350, z_31, z_32, z_36, z_48, z_57, z_61, z_97, z_100, z_122, z_125, z_126, z_144, z_255, z_700, z_1000, z_1548, nI_add, pk_mul, pk_sub, nI_clamp, nI_leI, nI_ltI, nI_eq, z_in, z_m1, z_m1b, lg_cmp_eq, z_cmp, Decidable.not_not, w_ie, w_in, w_il, w_le, w_ln, w_li, w_ir, w_lr, e0] at c
    rw [if_neg c, if_neg (show ¬ s.1 = 3 by omega)] at kk
    refine kb_101_11 (by first | with_reducible assumption | with_reducible exact kd_CD _ (by omega) | assumption) (by first | with_reducible assumption | exact rf_CD_names H (by omega) | assumption) (by first | with_reducible assumption | with_reducible exact kd_CD_names _ (by omega) | assumption) (by first | with_reducible assumption | (simp (disch := omega) only [z_0, z_1, z_2, z_3, z_4, z_5, z_6, z_7, z_8, z_9, z_10, z_12, z_13, z_20, z_21, z_25, z_56, z_350, z_31, z_32, z_36, z_48, z_57, z_61, z_97, z_100, z_122, z_125, z_126, z_144, z_255, z_700, z_1000, z_1548, nI_add, pk_mul, pk_sub, nI_clamp, nI_leI, nI_ltI, nI_eq, z_in, z_m1, z_m1b, lg_cmp_eq, z_cmp, Decidable.not_not, w_ie, w_in, w_il, w_le, w_ln, w_li, w_ir, w_lr, ln_P_tape, ln_W_text, ln_W_starts, ln_W_ends, ln_W_lines, ln_W_names, ln_W_values, ln_PL_jobs, ln_PL_parts, ln_FT_reached, ln_EX_jobs, ln_EX_codes, ln_CB_names, ln_CB_values, ln_M_tape, ln_M_source, ln_M_wordAt, ln_M_wordEnd, ln_M_names, ln_M_itemCount, ln_M_itemFirst, ln_M_itemWords, ln_M_itemUses, ln_M_keptAt, ln_M_keptEnd, ln_M_needCount, ln_M_axisCount, ln_M_valueCount, ln_M_needed, ln_M_axes, ln_M_values, ln_M_includes, ln_M_excludes, ln_M_pairCount, ln_M_pairName, ln_M_pairValue, ln_M_signCount, ln_M_signs, ln_M_signName, ln_M_signValue, ln_M_whose, ln_M_which, ln_M_pile, ln_M_reaches, ln_M_stepsOf, ln_M_known, ln_JB_needed, ln_JB_axes, ln_JS_used, ln_JS_stepWords, ln_PS_used, ln_PS_stepWords, ln_IN_rows, ln_EC_rows, ln_IR_names, ln_IR_values, ln_ER_names, ln_ER_values, ln_CD_kinds, ln_CD_names, ln_CD_values, ln_AX_values] <;> omega) | assumption) (by first | with_reducible assumption | with_reducible exact kd_PL | assumption) (by omega) ?_
    rw [nI_clamp (by omega), e1]
    refine s142P H hP ?_
    rcases jN_of (P := P) (y := s.2.1) with v | ⟨q, q1, q2⟩
    · exact absurd v (hn c)
    · rw [q2] at kk ⊢
      rw [nI_clamp (by omega)] at kk
      refine kb_101_21 (by first | with_reducible assumption | with_reducible exact kd_CD _ (by omega) | assumption) (by first | with_reducible assumption | exact rf_CD_kinds H (by omega) | assumption) (by first | with_reducible assumption | with_reducible exact kd_CD_kinds _ (by omega) | assumption) (by first | with_reducible assumption | (simp (disch := omega) only [z_0, z_1, z_2, z_3, z_4, z_5, z_6, z_7, z_8, z_9, z_10, z_12, z_13, z_20, z_21, z_25, z_56, z_350, z_31, z_32, z_36, z_48, z_57, z_61, z_97, z_100, z_122, z_125, z_126, z_144, z_255, z_700, z_1000, z_1548, nI_add, pk_mul, pk_sub, nI_clamp, nI_leI, nI_ltI, nI_eq, z_in, z_m1, z_m1b, lg_cmp_eq, z_cmp, Decidable.not_not, w_ie, w_in, w_il, w_le, w_ln, w_li, w_ir, w_lr, ln_P_tape, ln_W_text, ln_W_starts, ln_W_ends, ln_W_lines, ln_W_names, ln_W_values, ln_PL_jobs, ln_PL_parts, ln_FT_reached, ln_EX_jobs, ln_EX_codes, ln_CB_names, ln_CB_values, ln_M_tape, ln_M_source, ln_M_wordAt, ln_M_wordEnd, ln_M_names, ln_M_itemCount, ln_M_itemFirst, ln_M_itemWords, ln_M_itemUses, ln_M_keptAt, ln_M_keptEnd, ln_M_needCount, ln_M_axisCount, ln_M_valueCount, ln_M_needed, ln_M_axes, ln_M_values, ln_M_includes, ln_M_excludes, ln_M_pairCount, ln_M_pairName, ln_M_pairValue, ln_M_signCount, ln_M_signs, ln_M_signName, ln_M_signValue, ln_M_whose, ln_M_which, ln_M_pile, ln_M_reaches, ln_M_stepsOf, ln_M_known, ln_JB_needed, ln_JB_axes, ln_JS_used, ln_JS_stepWords, ln_PS_used, ln_PS_stepWords, ln_IN_rows, ln_EC_rows, ln_IR_names, ln_IR_values, ln_ER_names, ln_ER_values, ln_CD_kinds, ln_CD_names, ln_CD_values, ln_AX_values] <;> omega) | assumption) (fun c2 => kb_101_42 (by omega) (s18 (by omega) (kb_101_48 (by first | assumption | exact b2i_01 _ | exact Or.inl rfl | exact Or.inr rfl) ?_))) (fun c2 => kb_101_33 (by omega) (s17 (by omega) (kb_101_39 (kb_101_48 (by first | assumption | exact b2i_01 _ | exact Or.inl rfl | exact Or.inr rfl) ?_))))
      · simp (disch := omega) only [z_0, z_1, z_2, z_3, z_4, z_5, z_6, z_7, z_8, z_9, z_10, z_12, z_13, z_20, z_21, z_25, z_56, z_350, z_31, z_32, z_36, z_48, z_57, z_61, z_97, z_100, z_122, z_125, z_126, z_144, z_255, z_700, z_1000, z_1548, nI_add, pk_mul, pk_sub, nI_clamp, nI_leI, nI_ltI, nI_eq, z_in, z_m1, z_m1b, lg_cmp_eq, z_cmp, Decidable.not_not, w_ie, w_in, w_il, w_le, w_ln, w_li, w_ir, w_lr, e0] at c2
        rw [if_pos (by omega)] at kk
        exact kk
      · simp (disch := omega) only [z_0, z_1, z_2, z_3, z_4, z_5, z_6, z_7, z_8, z_9, z_10, z_12, z_13, z_20, z_21, z_25, z_56, z_350, z_31, z_32, z_36, z_48, z_57, z_61, z_97, z_100, z_122, z_125, z_126, z_144, z_255, z_700, z_1000, z_1548, nI_add, pk_mul, pk_sub, nI_clamp, nI_leI, nI_ltI, nI_eq, z_in, z_m1, z_m1b, lg_cmp_eq, z_cmp, Decidable.not_not, w_ie, w_in, w_il, w_le, w_ln, w_li, w_ir, w_lr, e0] at c2
        rw [if_neg (by omega)] at kk
        exact kk
  · simp (disch := omega) only [z_0, z_1, z_2, z_3, z_4, z_5, z_6, z_7, z_8, z_9, z_10, z_12, z_13, z_20, z_21, z_25, z_56, z_350, z_31, z_32, z_36, z_48, z_57, z_61, z_97, z_100, z_122, z_125, z_126, z_144, z_255, z_700, z_1000, z_1548, nI_add, pk_mul, pk_sub, nI_clamp, nI_leI, nI_ltI, nI_eq, z_in, z_m1, z_m1b, lg_cmp_eq, z_cmp, Decidable.not_not, w_ie, w_in, w_il, w_le, w_ln, w_li, w_ir, w_lr, e0] at c
    rw [if_pos c] at kk
    exact kk
end
/-- the bits of the answers that wait -/
def BK (x : Int32) (ks : List Bool) : Prop := ∀ i, i < 32 → bt x i = ks.getD i false
theorem BK_push {x z : Int32} {ks : List Bool} {b : Bool} (h : BK x ks) (hz : z = b2i b) : BK ((x <<< ((1 : Int32) &&& 31)) ||| z) (b :: ks) := by
  intro i hi
  have e1 : bt (x <<< ((1 : Int32) &&& 31)) i = (decide (1 ≤ i) && bt x (i - 1)) := b_shl 1 (by decide) x hi
  have ez : bt z i = (b && decide (i = 0)) := by
    rw [hz]
    cases b with
    | true =>
      rw [Bool.true_and]
      exact bt_1 i hi
    | false => exact b_0 i
  rw [b_or, e1, ez]
  cases i with
  | zero =>
    show (decide (1 ≤ 0) && _ || (b && decide (0 = 0))) = b
    rw [decide_eq_false (by decide), Bool.false_and, Bool.false_or, decide_eq_true rfl, Bool.and_true]
  | succ i =>
    rw [decide_eq_true (by omega), Bool.true_and, decide_eq_false (by omega), Bool.and_false, Bool.or_false, Nat.add_sub_cancel, h i (by omega)]
    rfl
theorem bt_m2 : ∀ i, i < 32 → bt (-2) i = decide (¬ i = 0) := by decide +kernel
theorem BK_not {x : Int32} {ks : List Bool} {b : Bool} (h : BK x (b :: ks)) : BK (x ^^^ 1) ((!b) :: ks) := by
  intro i hi
  rw [b_xor, bt_1 i hi, h i hi]
  cases i with
  | zero =>
    show (b ^^ decide (0 = 0)) = !b
    rw [decide_eq_true rfl]
    cases b <;> rfl
  | succ i =>
    rw [decide_eq_false (by omega), Bool.xor_false]
    rfl
theorem sh1 {x : Int32} {ks : List Bool} {b : Bool} (h : BK x (b :: ks)) (hl : ks.length ≤ 30) {i : Nat} (hi : i < 32) : bt ((x.toUInt32 >>> ((1 : Int32).toUInt32 &&& Int32.toUInt32 31)).toInt32) i = ks.getD i false := by
  have e : bt ((x.toUInt32 >>> ((1 : Int32).toUInt32 &&& Int32.toUInt32 31)).toInt32) i = bt x (1 + i) := b_ushr 1 (by decide) x i
  rw [e]
  rcases Nat.lt_or_ge (1 + i) 32 with q | q
  · rw [h _ q, Nat.add_comm]
    rfl
  · rw [b_big q, getD_out (by omega)]
theorem lat {x : Int32} {ks : List Bool} {b : Bool} (h : BK x (b :: ks)) {i : Nat} (hi : i < 32) : bt (x &&& 1) i = (b && decide (i = 0)) := by
  rw [b_and, bt_1 i hi]
  by_cases q : i = 0
  · rw [q, h 0 (by decide)]
    rfl
  · rw [decide_eq_false q, Bool.and_false, Bool.and_false]
theorem BK_and {x : Int32} {ks : List Bool} {a b : Bool} (h : BK x (b :: a :: ks)) (hl : ks.length ≤ 20) : BK (((x.toUInt32 >>> ((1 : Int32).toUInt32 &&& Int32.toUInt32 31)).toInt32) &&& ((x &&& 1) ||| (-2))) ((a && b) :: ks) := by
  intro i hi
  rw [b_and, sh1 h (by show ks.length + 1 ≤ 30; omega) hi, b_or, lat h hi, bt_m2 i hi]
  cases i with
  | zero =>
    show (a && (b && decide (0 = 0) || decide (¬ 0 = 0))) = (a && b)
    rw [decide_eq_true rfl, Bool.and_true, decide_eq_false (by decide), Bool.or_false]
  | succ i =>
    rw [decide_eq_true (show ¬ i + 1 = 0 by omega), Bool.or_true, Bool.and_true]
    rfl
theorem BK_or {x : Int32} {ks : List Bool} {a b : Bool} (h : BK x (b :: a :: ks)) (hl : ks.length ≤ 20) : BK (((x.toUInt32 >>> ((1 : Int32).toUInt32 &&& Int32.toUInt32 31)).toInt32) ||| (x &&& 1)) ((a || b) :: ks) := by
  intro i hi
  rw [b_or, sh1 h (by show ks.length + 1 ≤ 30; omega) hi, lat h hi]
  cases i with
  | zero =>
    show (a || (b && decide (0 = 0))) = (a || b)
    rw [decide_eq_true rfl, Bool.and_true]
  | succ i =>
    rw [decide_eq_false (show ¬ i + 1 = 0 by omega), Bool.and_false, Bool.or_false]
    rfl
theorem drop_s {α : Type} {xs : List α} {x : α} {i : Nat} (h : i < xs.length) : xs.drop i = xs.getD i x :: xs.drop (i + 1) := by
  rw [List.drop_eq_getElem_cons h, List.getD_eq_getElem?_getD, List.getElem?_eq_getElem h]
  rfl
section
variable {d j : Nat} {h : mj_H} {Q : Option Value → mj_H → Prop} {P : mj_P} {cb : Pp} {br : Int64} {out : Int32}
/-- Condition.holds -/
theorem s99 {p : List Sg} {v : Bool} (hd : 3 ≤ d) (H : mj_RS h) (hP : PlC h P) (hj : j < 12) (hD : CdC h (46 + 44 * j) p) (hC : PrC h 570 cb) (hA : ∀ s ∈ p, SA s) (hn : ∀ s ∈ p, (s.1 = 1 ∨ s.1 = 2) → ¬ jN P s.2.1 = -1) (hv : pe (tQ P cb br out) p [] = some [v]) (kk : Q (some (.int (b2i v))) h) : mr_C mj_KK d 99 [.ref (46 + 44 * j), .ref 9, .ref 570, .long br, .int out] h Q := by
  show mr_M mj_KK d 99 0 [some (.ref (46 + 44 * j)), some (.ref 9), some (.ref 570), some (.long br), none, some (.int out), none, none, none] [] h Q
  obtain ⟨x1, x2, x3⟩ := hD
  refine kb_99_0 ?_
  have loop : ∀ n i (x : Int32) (ks : List Bool), i + n = p.length → ks.length ≤ i → BK x ks → pe (tQ P cb br out) (p.drop i) ks = some [v] → mr_M mj_KK d 99 6 [some (.ref (46 + 44 * j)), some (.ref 9), some (.ref 570), some (.long br), none, some (.int out), some (.int x), some (.int (nI i)), none] [] h Q := by
    intro n
    induction n with
    | zero =>
      intro i x ks hi hk hb he
      have ed : p.drop i = [] := List.drop_eq_nil_of_le (by omega)
      rw [ed] at he
      have he : some ks = some [v] := he
      have he := Option.some.inj he
      subst he
      have b0 : bt x 0 = v := hb 0 (by decide)
      have b1 := bt_ext1 (z := x)
      rw [b0] at b1
      refine kb_99_6 (by first | with_reducible assumption | with_reducible exact kd_CD _ (by omega) | assumption) (fun _ => kb_99_152 (fun c => kb_99_163 (kb_99_164 (by first | assumption | exact b2i_01 _ | exact Or.inl rfl | exact Or.inr rfl) ?_)) (fun c => kb_99_159 (kb_99_164 (by first | assumption | exact b2i_01 _ | exact Or.inl rfl | exact Or.inr rfl) ?_))) (fun c => (by simp (disch := omega) only [z_0, z_1, z_2, z_3, z_4, z_5, z_6, z_7, z_8, z_9, z_10, z_12, z_13, z_20, z_21, z_25, z_56, z_350, z_31, z_32, z_36, z_48, z_57, z_61, z_97, z_100, z_122, z_125, z_126, z_144, z_255, z_700, z_1000, z_1548, nI_add, pk_mul, pk_sub, nI_clamp, nI_leI, nI_ltI, nI_eq, z_in, z_m1, z_m1b, lg_cmp_eq, z_cmp, Decidable.not_not, w_ie, w_in, w_il, w_le, w_ln, w_li, w_ir, w_lr, x1] at c; exfalso; omega))
      · rw [b1.1] at c
        rw [c] at kk
        exact kk
      · rw [b1.1, Bool.not_eq_false] at c
        rw [c] at kk
        exact kk
    | succ n ih =>
      intro i x ks hi hk hb he
      have hil : i < p.length := by omega
      obtain ⟨e0, e1, e2⟩ := x3 i hil
      have hm := getD_mem (x := (0, 0, 0)) hil
      obtain ⟨s6, s3⟩ := hA _ hm
      have hnn := hn _ hm
      rw [drop_s (x := (0, 0, 0)) hil, pe_s] at he
      have e0 : h.1 (47 + 44 * j) i = nI (p.getD i (0, 0, 0)).1 := by rw [show 47 + 44 * j = 46 + 44 * j + 1 from by omega]; exact e0
      have e1 : h.2.1 (48 + 44 * j) i = (p.getD i (0, 0, 0)).2.1 := by rw [show 48 + 44 * j = 46 + 44 * j + 2 from by omega]; exact e1
      have e2 : h.2.1 (49 + 44 * j) i = (p.getD i (0, 0, 0)).2.2 := by rw [show 49 + 44 * j = 46 + 44 * j + 3 from by omega]; exact e2
      generalize p.getD i (0, 0, 0) = s at *
      have nx : ∀ (y : Int32) (ks2 : List Bool), ks2.length ≤ i + 1 → BK y ks2 → pe (tQ P cb br out) (p.drop (i + 1)) ks2 = some [v] → mr_M mj_KK d 99 146 [some (.ref (46 + 44 * j)), some (.ref 9), some (.ref 570), some (.long br), none, some (.int out), some (.int y), some (.int (nI i)), none] [] h Q := by
        intro y ks2 g1 g2 g3
        refine kb_99_146 ?_
        rw [nI_1]
        exact ih (i + 1) y ks2 (by omega) g1 g2 g3
      refine kb_99_6 (by first | with_reducible assumption | with_reducible exact kd_CD _ (by omega) | assumption) (fun c => (by simp (disch := omega) only [z_0, z_1, z_2, z_3, z_4, z_5, z_6, z_7, z_8, z_9, z_10, z_12, z_13, z_20, z_21, z_25, z_56, z_350, z_31, z_32, z_36, z_48, z_57, z_61, z_97, z_100, z_122, z_125, z_126, z_144, z_255, z_700, z_1000, z_1548, nI_add, pk_mul, pk_sub, nI_clamp, nI_leI, nI_ltI, nI_eq, z_in, z_m1, z_m1b, lg_cmp_eq, z_cmp, Decidable.not_not, w_ie, w_in, w_il, w_le, w_ln, w_li, w_ir, w_lr, x1] at c; exfalso; omega)) (fun _ => ?_)
      have ec : h.1 (47 + 44 * j) (nI i).toNatClampNeg = nI s.1 := by rw [nI_clamp (by omega), e0]
      refine kb_99_15 (by first | with_reducible assumption | with_reducible exact kd_CD _ (by omega) | assumption) (by first | with_reducible assumption | exact rf_CD_kinds H (by omega) | assumption) (by first | with_reducible assumption | with_reducible exact kd_CD_kinds _ (by omega) | assumption) (by first | with_reducible assumption | (simp (disch := omega) only [z_0, z_1, z_2, z_3, z_4, z_5, z_6, z_7, z_8, z_9, z_10, z_12, z_13, z_20, z_21, z_25, z_56, z_350, z_31, z_32, z_36, z_48, z_57, z_61, z_97, z_100, z_122, z_125, z_126, z_144, z_255, z_700, z_1000, z_1548, nI_add, pk_mul, pk_sub, nI_clamp, nI_leI, nI_ltI, nI_eq, z_in, z_m1, z_m1b, lg_cmp_eq, z_cmp, Decidable.not_not, w_ie, w_in, w_il, w_le, w_ln, w_li, w_ir, w_lr, ln_P_tape, ln_W_text, ln_W_starts, ln_W_ends, ln_W_lines, ln_W_names, ln_W_values, ln_PL_jobs, ln_PL_parts, ln_FT_reached, ln_EX_jobs, ln_EX_codes, ln_CB_names, ln_CB_values, ln_M_tape, ln_M_source, ln_M_wordAt, ln_M_wordEnd, ln_M_names, ln_M_itemCount, ln_M_itemFirst, ln_M_itemWords, ln_M_itemUses, ln_M_keptAt, ln_M_keptEnd, ln_M_needCount, ln_M_axisCount, ln_M_valueCount, ln_M_needed, ln_M_axes, ln_M_values, ln_M_includes, ln_M_excludes, ln_M_pairCount, ln_M_pairName, ln_M_pairValue, ln_M_signCount, ln_M_signs, ln_M_signName, ln_M_signValue, ln_M_whose, ln_M_which, ln_M_pile, ln_M_reaches, ln_M_stepsOf, ln_M_known, ln_JB_needed, ln_JB_axes, ln_JS_used, ln_JS_stepWords, ln_PS_used, ln_PS_stepWords, ln_IN_rows, ln_EC_rows, ln_IR_names, ln_IR_values, ln_ER_names, ln_ER_values, ln_CD_kinds, ln_CD_names, ln_CD_values, ln_AX_values] <;> omega) | assumption) (fun c => ?_) (fun c => ?_) (fun c => ?_) (fun c => ?_) (fun c => ?_)
      · rw [ec, nI_toInt (by omega)] at c
        have s2 : s.1 < 3 := by omega
        rw [if_neg (by omega), if_neg (by omega), if_neg (by omega)] at he
        refine kb_99_122 (by first | with_reducible assumption | with_reducible exact kd_CD _ (by omega) | assumption) (by omega) (s101 (cb := cb) (br := br) (s := s) (by omega) H hP hj (by omega) e0 e1 s2 (fun q => hnn (by omega)) ?_)
        have push := nx _ (tQ P cb br out s :: ks) (by show ks.length + 1 ≤ i + 1; omega) (BK_push (b := tQ P cb br out s) hb rfl) he
        refine kb_99_135 (fun c => kb_99_142 (kb_99_143 ?_)) (fun c => kb_99_138 (kb_99_143 ?_))
        · rw [b2i_0] at c
          rw [c] at push
          exact push
        · rw [b2i_0, Bool.not_eq_false] at c
          rw [c] at push
          exact push
      · rw [ec, nI_eq (by omega) (by omega)] at c
        rw [if_neg (by omega), if_neg (by omega), if_neg (by omega)] at he
        refine kb_99_96 (by first | with_reducible assumption | with_reducible exact kd_CD _ (by omega) | assumption) (by omega) (s100 (P := P) (out := out) (s := s) (by omega) H hj (by omega) hC e1 e2 c (s3 c) ?_)
        have push := nx _ (tQ P cb br out s :: ks) (by show ks.length + 1 ≤ i + 1; omega) (BK_push (b := tQ P cb br out s) hb rfl) he
        refine kb_99_108 (fun c => kb_99_115 (kb_99_116 ?_)) (fun c => kb_99_111 (kb_99_116 ?_))
        · rw [b2i_0] at c
          rw [c] at push
          exact push
        · rw [b2i_0, Bool.not_eq_false] at c
          rw [c] at push
          exact push
      · rw [ec, nI_eq (by omega) (by omega)] at c
        rw [if_pos c] at he
        match ks, hk, hb, he with
        | [], hk, hb, he => cases he
        | b :: r, hk, hb, he =>
          exact kb_99_60 (nx _ ((!b) :: r) (by have hk : r.length + 1 ≤ i := hk; show r.length + 1 ≤ i + 1; omega) (BK_not hb) he)
      · rw [ec, nI_eq (by omega) (by omega)] at c
        rw [if_neg (by omega), if_pos c] at he
        match ks, hk, hb, he with
        | [], hk, hb, he => cases he
        | [b], hk, hb, he => cases he
        | b :: a :: r, hk, hb, he =>
          have hk : r.length + 1 + 1 ≤ i := hk
          exact kb_99_69 (nx _ ((a && b) :: r) (by show r.length + 1 ≤ i + 1; omega) (BK_and hb (by omega)) he)
      · rw [ec, nI_eq (by omega) (by omega)] at c
        rw [if_neg (by omega), if_neg (by omega), if_pos c] at he
        match ks, hk, hb, he with
        | [], hk, hb, he => cases he
        | [b], hk, hb, he => cases he
        | b :: a :: r, hk, hb, he =>
          have hk : r.length + 1 + 1 ≤ i := hk
          exact kb_99_84 (nx _ ((a || b) :: r) (by show r.length + 1 ≤ i + 1; omega) (BK_or hb (by omega)) he)
  exact loop p.length 0 0 [] (by omega) (Nat.le_refl 0) (fun i hi => by rw [b_0]; rfl) hv
end
