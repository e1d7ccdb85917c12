-- ===== the class reads a condition =====
/-- what a word is in a condition -/
def tkk (l : List Nat) : Nat := if l = mj_str 0 then 1 else if l = mj_str 1 then 2 else if l = mj_str 2 then 3 else if l = mj_str 3 then 4 else if l = mj_str 4 then 5 else if l = mj_str 5 then 6 else if l = mj_str 6 then 7 else if l = mj_str 7 then 8 else 0
theorem tkk_at : ∀ t, t < 8 → tkk (mj_str t) = t + 1 := by decide
theorem tkk_of {l : List Nat} : tkk l = 0 ∨ ∃ t, t < 8 ∧ l = mj_str t := by
  unfold tkk
  by_cases q0 : l = mj_str 0
  · exact Or.inr ⟨0, by decide, q0⟩
  by_cases q1 : l = mj_str 1
  · exact Or.inr ⟨1, by decide, q1⟩
  by_cases q2 : l = mj_str 2
  · exact Or.inr ⟨2, by decide, q2⟩
  by_cases q3 : l = mj_str 3
  · exact Or.inr ⟨3, by decide, q3⟩
  by_cases q4 : l = mj_str 4
  · exact Or.inr ⟨4, by decide, q4⟩
  by_cases q5 : l = mj_str 5
  · exact Or.inr ⟨5, by decide, q5⟩
  by_cases q6 : l = mj_str 6
  · exact Or.inr ⟨6, by decide, q6⟩
  by_cases q7 : l = mj_str 7
  · exact Or.inr ⟨7, by decide, q7⟩
  · rw [if_neg q0, if_neg q1, if_neg q2, if_neg q3, if_neg q4, if_neg q5, if_neg q6, if_neg q7]
    exact Or.inl rfl
theorem tkk_is {l : List Nat} {t : Nat} (ht : t < 8) : tkk l = t + 1 ↔ l = mj_str t := by
  constructor
  · intro q
    rcases tkk_of (l := l) with w | ⟨u, hu, w⟩
    · rw [w] at q
      omega
    · rw [w, tkk_at u hu] at q
      have : u = t := by omega
      rw [w, this]
  · intro q
    rw [q, tkk_at t ht]
theorem str_ok : ∀ t, t < 17 → (0 < (mj_str t).length ∧ (mj_str t).length ≤ 8 ∧ ∀ x ∈ mj_str t, 0 < x ∧ x < 128 ∧ x ≠ 61) := by decide
def tkW (X : Nat → Int32) (W : List Wt) (w : Nat) : Tk := (tkk (tx X (sp (W.getD w (0, 0, 0)))), nw X (sp (W.getD w (0, 0, 0))), pw X (sp (W.getD w (0, 0, 0))))
/-- every word is made of characters of words -/
def wks (X : Nat → Int32) (W : List Wt) : Prop := ∀ w, w < W.length → wok X (sp (W.getD w (0, 0, 0)))
theorem getD_out {α : Type} {xs : List α} {x : α} {i : Nat} (h : xs.length ≤ i) : xs.getD i x = x := by
  rw [List.getD_eq_getElem?_getD, List.getElem?_eq_none h]
  rfl
theorem tkW_p {X : Nat → Int32} {W : List Wt} (hk : wks X W) (w : Nat) : (tkW X W w).1 ≠ 0 → (tkW X W w).2.2.2 = 0 := by
  intro q
  unfold tkW at q ⊢
  rcases tkk_of (l := tx X (sp (W.getD w (0, 0, 0)))) with r | ⟨t, ht, r⟩
  · exact absurd r q
  · have hs : (sp (W.getD w (0, 0, 0))).1 ≤ (sp (W.getD w (0, 0, 0))).2 := by
      rcases Nat.lt_or_ge w W.length with v | v
      · exact Nat.le_of_lt (hk w v).1
      · rw [getD_out v]
        decide
    show (pw X (sp (W.getD w (0, 0, 0)))).2 = 0
    rw [pw_no hs (by rw [r]; exact fun m => ((str_ok t (by omega)).2.2 61 m).2.2 rfl)]
section
variable {d : Nat} {h : mj_H} {Q : Option Value → mj_H → Prop} {X : Nat → Int32} {L w : Nat} {W : List Wt}
theorem s162t {t : Nat} (hd : 8 ≤ d) (H : mj_RS h) (hW : WW h X L W) (hk : wks X W) (hw : w < W.length) (ht : t < 17) (k : Q (some (.int (b2i (decide (tx X (sp (W.getD w (0, 0, 0))) = mj_str t))))) h) : mr_C mj_KK d 162 [.ref 2, .int (nI w), .retAddr t] h Q := by
  obtain ⟨a, b, c⟩ := str_ok t ht
  refine s162 hd H hW hw ht (by omega) ?_
  rw [isT_is (hk w hw) (fun x hx => (c x hx).2.1)]
  exact k
theorem s162k {t : Nat} (hd : 8 ≤ d) (H : mj_RS h) (hW : WW h X L W) (hk : wks X W) (hw : w < W.length) (ht : t < 8) (k1 : (tkW X W w).1 = t + 1 → Q (some (.int 1)) h) (k0 : ¬ (tkW X W w).1 = t + 1 → Q (some (.int 0)) h) : mr_C mj_KK d 162 [.ref 2, .int (nI w), .retAddr t] h Q := by
  refine s162t hd H hW hk hw (by omega) ?_
  by_cases q : tx X (sp (W.getD w (0, 0, 0))) = mj_str t
  · rw [decide_eq_true q]
    exact k1 ((tkk_is ht).mpr q)
  · rw [decide_eq_false q]
    exact k0 (fun r => q ((tkk_is ht).mp r))
end
def CS (h : mj_H) (j a e : Nat) (p : List Sg) : Prop := h.1 (46 + 44 * j) 4 = nI a ∧ h.1 (46 + 44 * j) 5 = nI e ∧ CdC h (46 + 44 * j) p
def inC (j : Nat) : Nat → Nat → Prop := fun b _ => 46 + 44 * j ≤ b ∧ b ≤ 49 + 44 * j
theorem CS.inc {h : mj_H} {j a e : Nat} {p : List Sg} (A : CS h j a e p) : CS (mj_w h (46 + 44 * j) 4 (.int (nI (a + 1)))) j (a + 1) e p := by
  obtain ⟨a1, a2, a3, a4, a5⟩ := A
  refine ⟨by simp (disch := omega) only [z_0, z_1, z_2, z_3, z_4, z_5, z_6, z_7, z_8, z_9, z_10, z_12, z_13, z_20, z_21, z_25, z_56, z_350, z_31, z_32, z_36, z_48, z_57, z_61, z_97, z_100, z_122, z_125, z_126, z_144, z_255, z_700, z_1000, z_1548, nI_add, pk_mul, pk_sub, nI_clamp, nI_leI, nI_ltI, nI_eq, z_in, z_m1, z_m1b, lg_cmp_eq, z_cmp, Decidable.not_not, w_ie, w_in, w_il, w_le, w_ln, w_li, w_ir, w_lr], by simp (disch := omega) only [z_0, z_1, z_2, z_3, z_4, z_5, z_6, z_7, z_8, z_9, z_10, z_12, z_13, z_20, z_21, z_25, z_56, z_350, z_31, z_32, z_36, z_48, z_57, z_61, z_97, z_100, z_122, z_125, z_126, z_144, z_255, z_700, z_1000, z_1548, nI_add, pk_mul, pk_sub, nI_clamp, nI_leI, nI_ltI, nI_eq, z_in, z_m1, z_m1b, lg_cmp_eq, z_cmp, Decidable.not_not, w_ie, w_in, w_il, w_le, w_ln, w_li, w_ir, w_lr, a2], by simp (disch := omega) only [z_0, z_1, z_2, z_3, z_4, z_5, z_6, z_7, z_8, z_9, z_10, z_12, z_13, z_20, z_21, z_25, z_56, z_350, z_31, z_32, z_36, z_48, z_57, z_61, z_97, z_100, z_122, z_125, z_126, z_144, z_255, z_700, z_1000, z_1548, nI_add, pk_mul, pk_sub, nI_clamp, nI_leI, nI_ltI, nI_eq, z_in, z_m1, z_m1b, lg_cmp_eq, z_cmp, Decidable.not_not, w_ie, w_in, w_il, w_le, w_ln, w_li, w_ir, w_lr, a3], a4, fun i hi => ?_⟩
  obtain ⟨b1, b2, b3⟩ := a5 i hi
  exact ⟨by simp (disch := omega) only [z_0, z_1, z_2, z_3, z_4, z_5, z_6, z_7, z_8, z_9, z_10, z_12, z_13, z_20, z_21, z_25, z_56, z_350, z_31, z_32, z_36, z_48, z_57, z_61, z_97, z_100, z_122, z_125, z_126, z_144, z_255, z_700, z_1000, z_1548, nI_add, pk_mul, pk_sub, nI_clamp, nI_leI, nI_ltI, nI_eq, z_in, z_m1, z_m1b, lg_cmp_eq, z_cmp, Decidable.not_not, w_ie, w_in, w_il, w_le, w_ln, w_li, w_ir, w_lr, b1], by simp (disch := omega) only [z_0, z_1, z_2, z_3, z_4, z_5, z_6, z_7, z_8, z_9, z_10, z_12, z_13, z_20, z_21, z_25, z_56, z_350, z_31, z_32, z_36, z_48, z_57, z_61, z_97, z_100, z_122, z_125, z_126, z_144, z_255, z_700, z_1000, z_1548, nI_add, pk_mul, pk_sub, nI_clamp, nI_leI, nI_ltI, nI_eq, z_in, z_m1, z_m1b, lg_cmp_eq, z_cmp, Decidable.not_not, w_ie, w_in, w_il, w_le, w_ln, w_li, w_ir, w_lr, b2], by simp (disch := omega) only [z_0, z_1, z_2, z_3, z_4, z_5, z_6, z_7, z_8, z_9, z_10, z_12, z_13, z_20, z_21, z_25, z_56, z_350, z_31, z_32, z_36, z_48, z_57, z_61, z_97, z_100, z_122, z_125, z_126, z_144, z_255, z_700, z_1000, z_1548, nI_add, pk_mul, pk_sub, nI_clamp, nI_leI, nI_ltI, nI_eq, z_in, z_m1, z_m1b, lg_cmp_eq, z_cmp, Decidable.not_not, w_ie, w_in, w_il, w_le, w_ln, w_li, w_ir, w_lr, b3]⟩
/-- Condition.add -/
theorem s97 {d j a e k : Nat} {h : mj_H} {Q : Option Value → mj_H → Prop} {p : List Sg} {n v : Int64} (hj : j < 12) (H : mj_RS h) (hS : CS h j a e p) (hl : p.length < 20) (kk : ∀ h', CS h' j a e (p ++ [(k, n, v)]) → fr (inC j) h h' → Q (some (.int 1)) h') : mr_C mj_KK d 97 [.ref (46 + 44 * j), .int (nI k), .long n, .long v] h Q := by
  show mr_M mj_KK d 97 0 [some (.ref (46 + 44 * j)), some (.int (nI k)), some (.long n), none, some (.long v), none] [] h Q
  obtain ⟨a1, a2, a3, a4, a5⟩ := hS
  refine kb_97_0 (by first | with_reducible assumption | with_reducible exact kd_CD _ (by omega) | assumption) (fun _ => kb_97_11 (by first | with_reducible assumption | with_reducible exact kd_CD _ (by omega) | assumption) (by first | with_reducible assumption | exact rf_CD_kinds H (by omega) | assumption) (by first | with_reducible assumption | with_reducible exact kd_CD_kinds _ (by omega) | assumption) (by first | with_reducible assumption | (simp (disch := omega) only [z_0, z_1, z_2, z_3, z_4, z_5, z_6, z_7, z_8, z_9, z_10, z_12, z_13, z_20, z_21, z_25, z_56, z_350, z_31, z_32, z_36, z_48, z_57, z_61, z_97, z_100, z_122, z_125, z_126, z_144, z_255, z_700, z_1000, z_1548, nI_add, pk_mul, pk_sub, nI_clamp, nI_leI, nI_ltI, nI_eq, z_in, z_m1, z_m1b, lg_cmp_eq, z_cmp, Decidable.not_not, w_ie, w_in, w_il, w_le, w_ln, w_li, w_ir, w_lr, a3, ln_P_tape, ln_W_text, ln_W_starts, ln_W_ends, ln_W_lines, ln_W_names, ln_W_values, ln_PL_jobs, ln_PL_parts, ln_FT_reached, ln_EX_jobs, ln_EX_codes, ln_CB_names, ln_CB_values, ln_M_tape, ln_M_source, ln_M_wordAt, ln_M_wordEnd, ln_M_names, ln_M_itemCount, ln_M_itemFirst, ln_M_itemWords, ln_M_itemUses, ln_M_keptAt, ln_M_keptEnd, ln_M_needCount, ln_M_axisCount, ln_M_valueCount, ln_M_needed, ln_M_axes, ln_M_values, ln_M_includes, ln_M_excludes, ln_M_pairCount, ln_M_pairName, ln_M_pairValue, ln_M_signCount, ln_M_signs, ln_M_signName, ln_M_signValue, ln_M_whose, ln_M_which, ln_M_pile, ln_M_reaches, ln_M_stepsOf, ln_M_known, ln_JB_needed, ln_JB_axes, ln_JS_used, ln_JS_stepWords, ln_PS_used, ln_PS_stepWords, ln_IN_rows, ln_EC_rows, ln_IR_names, ln_IR_values, ln_ER_names, ln_ER_values, ln_CD_kinds, ln_CD_names, ln_CD_values, ln_AX_values, ln_P_tape, ln_W_text, ln_W_starts, ln_W_ends, ln_W_lines, ln_W_names, ln_W_values, ln_PL_jobs, ln_PL_parts, ln_FT_reached, ln_EX_jobs, ln_EX_codes, ln_CB_names, ln_CB_values, ln_M_tape, ln_M_source, ln_M_wordAt, ln_M_wordEnd, ln_M_names, ln_M_itemCount, ln_M_itemFirst, ln_M_itemWords, ln_M_itemUses, ln_M_keptAt, ln_M_keptEnd, ln_M_needCount, ln_M_axisCount, ln_M_valueCount, ln_M_needed, ln_M_axes, ln_M_values, ln_M_includes, ln_M_excludes, ln_M_pairCount, ln_M_pairName, ln_M_pairValue, ln_M_signCount, ln_M_signs, ln_M_signName, ln_M_signValue, ln_M_whose, ln_M_which, ln_M_pile, ln_M_reaches, ln_M_stepsOf, ln_M_known, ln_JB_needed, ln_JB_axes, ln_JS_used, ln_JS_stepWords, ln_PS_used, ln_PS_stepWords, ln_IN_rows, ln_EC_rows, ln_IR_names, ln_IR_values, ln_ER_names, ln_ER_values, ln_CD_kinds, ln_CD_names, ln_CD_values, ln_AX_values] <;> omega) | assumption) (by first | with_reducible assumption | exact rf_CD_names H (by omega) | assumption) (by first | with_reducible assumption | with_reducible exact kd_CD_names _ (by omega) | assumption) (by first | with_reducible assumption | (simp (disch := omega) only [z_0, z_1, z_2, z_3, z_4, z_5, z_6, z_7, z_8, z_9, z_10, z_12, z_13, z_20, z_21, z_25, z_56, z_350, z_31, z_32, z_36, z_48, z_57, z_61, z_97, z_100, z_122, z_125, z_126, z_144, z_255, z_700, z_1000, z_1548, nI_add, pk_mul, pk_sub, nI_clamp, nI_leI, nI_ltI, nI_eq, z_in, z_m1, z_m1b, lg_cmp_eq, z_cmp, Decidable.not_not, w_ie, w_in, w_il, w_le, w_ln, w_li, w_ir, w_lr, a3, ln_P_tape, ln_W_text, ln_W_starts, ln_W_ends, ln_W_lines, ln_W_names, ln_W_values, ln_PL_jobs, ln_PL_parts, ln_FT_reached, ln_EX_jobs, ln_EX_codes, ln_CB_names, ln_CB_values, ln_M_tape, ln_M_source, ln_M_wordAt, ln_M_wordEnd, ln_M_names, ln_M_itemCount, ln_M_itemFirst, ln_M_itemWords, ln_M_itemUses, ln_M_keptAt, ln_M_keptEnd, ln_M_needCount, ln_M_axisCount, ln_M_valueCount, ln_M_needed, ln_M_axes, ln_M_values, ln_M_includes, ln_M_excludes, ln_M_pairCount, ln_M_pairName, ln_M_pairValue, ln_M_signCount, ln_M_signs, ln_M_signName, ln_M_signValue, ln_M_whose, ln_M_which, ln_M_pile, ln_M_reaches, ln_M_stepsOf, ln_M_known, ln_JB_needed, ln_JB_axes, ln_JS_used, ln_JS_stepWords, ln_PS_used, ln_PS_stepWords, ln_IN_rows, ln_EC_rows, ln_IR_names, ln_IR_values, ln_ER_names, ln_ER_values, ln_CD_kinds, ln_CD_names, ln_CD_values, ln_AX_values, ln_P_tape, ln_W_text, ln_W_starts, ln_W_ends, ln_W_lines, ln_W_names, ln_W_values, ln_PL_jobs, ln_PL_parts, ln_FT_reached, ln_EX_jobs, ln_EX_codes, ln_CB_names, ln_CB_values, ln_M_tape, ln_M_source, ln_M_wordAt, ln_M_wordEnd, ln_M_names, ln_M_itemCount, ln_M_itemFirst, ln_M_itemWords, ln_M_itemUses, ln_M_keptAt, ln_M_keptEnd, ln_M_needCount, ln_M_axisCount, ln_M_valueCount, ln_M_needed, ln_M_axes, ln_M_values, ln_M_includes, ln_M_excludes, ln_M_pairCount, ln_M_pairName, ln_M_pairValue, ln_M_signCount, ln_M_signs, ln_M_signName, ln_M_signValue, ln_M_whose, ln_M_which, ln_M_pile, ln_M_reaches, ln_M_stepsOf, ln_M_known, ln_JB_needed, ln_JB_axes, ln_JS_used, ln_JS_stepWords, ln_PS_used, ln_PS_stepWords, ln_IN_rows, ln_EC_rows, ln_IR_names, ln_IR_values, ln_ER_names, ln_ER_values, ln_CD_kinds, ln_CD_names, ln_CD_values, ln_AX_values] <;> omega) | assumption) (by first | with_reducible assumption | exact rf_CD_values H (by omega) | assumption) (by first | with_reducible assumption | with_reducible exact kd_CD_values _ (by omega) | assumption) (by first | with_reducible assumption | (simp (disch := omega) only [z_0, z_1, z_2, z_3, z_4, z_5, z_6, z_7, z_8, z_9, z_10, z_12, z_13, z_20, z_21, z_25, z_56, z_350, z_31, z_32, z_36, z_48, z_57, z_61, z_97, z_100, z_122, z_125, z_126, z_144, z_255, z_700, z_1000, z_1548, nI_add, pk_mul, pk_sub, nI_clamp, nI_leI, nI_ltI, nI_eq, z_in, z_m1, z_m1b, lg_cmp_eq, z_cmp, Decidable.not_not, w_ie, w_in, w_il, w_le, w_ln, w_li, w_ir, w_lr, a3, ln_P_tape, ln_W_text, ln_W_starts, ln_W_ends, ln_W_lines, ln_W_names, ln_W_values, ln_PL_jobs, ln_PL_parts, ln_FT_reached, ln_EX_jobs, ln_EX_codes, ln_CB_names, ln_CB_values, ln_M_tape, ln_M_source, ln_M_wordAt, ln_M_wordEnd, ln_M_names, ln_M_itemCount, ln_M_itemFirst, ln_M_itemWords, ln_M_itemUses, ln_M_keptAt, ln_M_keptEnd, ln_M_needCount, ln_M_axisCount, ln_M_valueCount, ln_M_needed, ln_M_axes, ln_M_values, ln_M_includes, ln_M_excludes, ln_M_pairCount, ln_M_pairName, ln_M_pairValue, ln_M_signCount, ln_M_signs, ln_M_signName, ln_M_signValue, ln_M_whose, ln_M_which, ln_M_pile, ln_M_reaches, ln_M_stepsOf, ln_M_known, ln_JB_needed, ln_JB_axes, ln_JS_used, ln_JS_stepWords, ln_PS_used, ln_PS_stepWords, ln_IN_rows, ln_EC_rows, ln_IR_names, ln_IR_values, ln_ER_names, ln_ER_values, ln_CD_kinds, ln_CD_names, ln_CD_values, ln_AX_values, ln_P_tape, ln_W_text, ln_W_starts, ln_W_ends, ln_W_lines, ln_W_names, ln_W_values, ln_PL_jobs, ln_PL_parts, ln_FT_reached, ln_EX_jobs, ln_EX_codes, ln_CB_names, ln_CB_values, ln_M_tape, ln_M_source, ln_M_wordAt, ln_M_wordEnd, ln_M_names, ln_M_itemCount, ln_M_itemFirst, ln_M_itemWords, ln_M_itemUses, ln_M_keptAt, ln_M_keptEnd, ln_M_needCount, ln_M_axisCount, ln_M_valueCount, ln_M_needed, ln_M_axes, ln_M_values, ln_M_includes, ln_M_excludes, ln_M_pairCount, ln_M_pairName, ln_M_pairValue, ln_M_signCount, ln_M_signs, ln_M_signName, ln_M_signValue, ln_M_whose, ln_M_which, ln_M_pile, ln_M_reaches, ln_M_stepsOf, ln_M_known, ln_JB_needed, ln_JB_axes, ln_JS_used, ln_JS_stepWords, ln_PS_used, ln_PS_stepWords, ln_IN_rows, ln_EC_rows, ln_IR_names, ln_IR_values, ln_ER_names, ln_ER_values, ln_CD_kinds, ln_CD_names, ln_CD_values, ln_AX_values] <;> omega) | assumption) ?_) (fun c => (by simp (disch := omega) only [z_0, z_1, z_2, z_3, z_4, z_5, z_6, z_7, z_8, z_9, z_10, z_12, z_13, z_20, z_21, z_25, z_56, z_350, z_31, z_32, z_36, z_48, z_57, z_61, z_97, z_100, z_122, z_125, z_126, z_144, z_255, z_700, z_1000, z_1548, nI_add, pk_mul, pk_sub, nI_clamp, nI_leI, nI_ltI, nI_eq, z_in, z_m1, z_m1b, lg_cmp_eq, z_cmp, Decidable.not_not, w_ie, w_in, w_il, w_le, w_ln, w_li, w_ir, w_lr, a3] at c; exfalso; omega))
  simp (disch := omega) only [z_0, z_1, z_2, z_3, z_4, z_5, z_6, z_7, z_8, z_9, z_10, z_12, z_13, z_20, z_21, z_25, z_56, z_350, z_31, z_32, z_36, z_48, z_57, z_61, z_97, z_100, z_122, z_125, z_126, z_144, z_255, z_700, z_1000, z_1548, nI_add, pk_mul, pk_sub, nI_clamp, nI_leI, nI_ltI, nI_eq, z_in, z_m1, z_m1b, lg_cmp_eq, z_cmp, Decidable.not_not, w_ie, w_in, w_il, w_le, w_ln, w_li, w_ir, w_lr, a3]
  refine kk _ ⟨by simp (disch := omega) only [z_0, z_1, z_2, z_3, z_4, z_5, z_6, z_7, z_8, z_9, z_10, z_12, z_13, z_20, z_21, z_25, z_56, z_350, z_31, z_32, z_36, z_48, z_57, z_61, z_97, z_100, z_122, z_125, z_126, z_144, z_255, z_700, z_1000, z_1548, nI_add, pk_mul, pk_sub, nI_clamp, nI_leI, nI_ltI, nI_eq, z_in, z_m1, z_m1b, lg_cmp_eq, z_cmp, Decidable.not_not, w_ie, w_in, w_il, w_le, w_ln, w_li, w_ir, w_lr, a1], by simp (disch := omega) only [z_0, z_1, z_2, z_3, z_4, z_5, z_6, z_7, z_8, z_9, z_10, z_12, z_13, z_20, z_21, z_25, z_56, z_350, z_31, z_32, z_36, z_48, z_57, z_61, z_97, z_100, z_122, z_125, z_126, z_144, z_255, z_700, z_1000, z_1548, nI_add, pk_mul, pk_sub, nI_clamp, nI_leI, nI_ltI, nI_eq, z_in, z_m1, z_m1b, lg_cmp_eq, z_cmp, Decidable.not_not, w_ie, w_in, w_il, w_le, w_ln, w_li, w_ir, w_lr, a2], ?_, ?_, fun i hi => ?_⟩ (((fr.wi (P := inC j) fr.rfl' (by unfold inC; omega)).wl (by unfold inC; omega)).wl (by unfold inC; omega) |>.wi (by unfold inC; omega))
  · rw [List.length_append]
    simp (disch := omega) only [z_0, z_1, z_2, z_3, z_4, z_5, z_6, z_7, z_8, z_9, z_10, z_12, z_13, z_20, z_21, z_25, z_56, z_350, z_31, z_32, z_36, z_48, z_57, z_61, z_97, z_100, z_122, z_125, z_126, z_144, z_255, z_700, z_1000, z_1548, nI_add, pk_mul, pk_sub, nI_clamp, nI_leI, nI_ltI, nI_eq, z_in, z_m1, z_m1b, lg_cmp_eq, z_cmp, Decidable.not_not, w_ie, w_in, w_il, w_le, w_ln, w_li, w_ir, w_lr]
    rfl
  · rw [List.length_append]
    exact hl
  · rw [List.length_append] at hi
    have hi : i < p.length + 1 := hi
    rcases Nat.lt_or_ge i p.length with q | q
    · rw [getD_app_l q]
      obtain ⟨b1, b2, b3⟩ := a5 i q
      exact ⟨by simp (disch := omega) only [z_0, z_1, z_2, z_3, z_4, z_5, z_6, z_7, z_8, z_9, z_10, z_12, z_13, z_20, z_21, z_25, z_56, z_350, z_31, z_32, z_36, z_48, z_57, z_61, z_97, z_100, z_122, z_125, z_126, z_144, z_255, z_700, z_1000, z_1548, nI_add, pk_mul, pk_sub, nI_clamp, nI_leI, nI_ltI, nI_eq, z_in, z_m1, z_m1b, lg_cmp_eq, z_cmp, Decidable.not_not, w_ie, w_in, w_il, w_le, w_ln, w_li, w_ir, w_lr, b1], by simp (disch := omega) only [z_0, z_1, z_2, z_3, z_4, z_5, z_6, z_7, z_8, z_9, z_10, z_12, z_13, z_20, z_21, z_25, z_56, z_350, z_31, z_32, z_36, z_48, z_57, z_61, z_97, z_100, z_122, z_125, z_126, z_144, z_255, z_700, z_1000, z_1548, nI_add, pk_mul, pk_sub, nI_clamp, nI_leI, nI_ltI, nI_eq, z_in, z_m1, z_m1b, lg_cmp_eq, z_cmp, Decidable.not_not, w_ie, w_in, w_il, w_le, w_ln, w_li, w_ir, w_lr, b2], by simp (disch := omega) only [z_0, z_1, z_2, z_3, z_4, z_5, z_6, z_7, z_8, z_9, z_10, z_12, z_13, z_20, z_21, z_25, z_56, z_350, z_31, z_32, z_36, z_48, z_57, z_61, z_97, z_100, z_122, z_125, z_126, z_144, z_255, z_700, z_1000, z_1548, nI_add, pk_mul, pk_sub, nI_clamp, nI_leI, nI_ltI, nI_eq, z_in, z_m1, z_m1b, lg_cmp_eq, z_cmp, Decidable.not_not, w_ie, w_in, w_il, w_le, w_ln, w_li, w_ir, w_lr, b3]⟩
    · have ei : i = p.length := by omega
      subst ei
      rw [getD_app_e]
      exact ⟨by simp (disch := omega) only [z_0, z_1, z_2, z_3, z_4, z_5, z_6, z_7, z_8, z_9, z_10, z_12, z_13, z_20, z_21, z_25, z_56, z_350, z_31, z_32, z_36, z_48, z_57, z_61, z_97, z_100, z_122, z_125, z_126, z_144, z_255, z_700, z_1000, z_1548, nI_add, pk_mul, pk_sub, nI_clamp, nI_leI, nI_ltI, nI_eq, z_in, z_m1, z_m1b, lg_cmp_eq, z_cmp, Decidable.not_not, w_ie, w_in, w_il, w_le, w_ln, w_li, w_ir, w_lr], by simp (disch := omega) only [z_0, z_1, z_2, z_3, z_4, z_5, z_6, z_7, z_8, z_9, z_10, z_12, z_13, z_20, z_21, z_25, z_56, z_350, z_31, z_32, z_36, z_48, z_57, z_61, z_97, z_100, z_122, z_125, z_126, z_144, z_255, z_700, z_1000, z_1548, nI_add, pk_mul, pk_sub, nI_clamp, nI_leI, nI_ltI, nI_eq, z_in, z_m1, z_m1b, lg_cmp_eq, z_cmp, Decidable.not_not, w_ie, w_in, w_il, w_le, w_ln, w_li, w_ir, w_lr], by simp (disch := omega) only [z_0, z_1, z_2, z_3, z_4, z_5, z_6, z_7, z_8, z_9, z_10, z_12, z_13, z_20, z_21, z_25, z_56, z_350, z_31, z_32, z_36, z_48, z_57, z_61, z_97, z_100, z_122, z_125, z_126, z_144, z_255, z_700, z_1000, z_1548, nI_add, pk_mul, pk_sub, nI_clamp, nI_leI, nI_ltI, nI_eq, z_in, z_m1, z_m1b, lg_cmp_eq, z_cmp, Decidable.not_not, w_ie, w_in, w_il, w_le, w_ln, w_li, w_ir, w_lr]⟩
def KQ (j e : Nat) (h0 : mj_H) (Q : Option Value → mj_H → Prop) (x : Option (Nat × List Sg × List Sg)) : Prop := (x = none → ∀ h', fr (inC j) h0 h' → Q (some (.int 0)) h') ∧ ∀ r, x = some r → ∀ h', CS h' j r.1 e r.2.1 → fr (inC j) h0 h' → Q (some (.int 1)) h'
/-- Condition.readAsking -/
theorem s96 {d j e L a : Nat} {h0 h : mj_H} {Q : Option Value → mj_H → Prop} {X : Nat → Int32} {W : List Wt} {p t : List Sg} (hd : 9 ≤ d) (hj : j < 12) (H0 : mj_RS h0) (hW : WW h0 X L W) (hk : wks X W) (he : e ≤ W.length) (ha : a < e) (hl : p.length + e ≤ a + 20) (hS : CS h j a e p) (hf : fr (inC j) h0 h) (kq : KQ j e h0 Q (cK (tkW X W) e a p t)) : mr_C mj_KK d 96 [.ref (46 + 44 * j), .ref 2] h Q := by
  show mr_M mj_KK d 96 0 [some (.ref (46 + 44 * j)), some (.ref 2), none, none, none, none] [] h Q
  have hw4 := hW.2.2.2.1
  have a1 := hS.1
  refine kb_96_0 (by first | with_reducible assumption | with_reducible exact kd_CD _ (by omega) | assumption) (by first | with_reducible assumption | with_reducible exact kd_W | assumption) (by omega) ?_
  rw [a1, nI_1]
  have hS1 := hS.inc
  have hf1 : fr (inC j) h0 (mj_w h (46 + 44 * j) 4 (.int (nI (a + 1)))) := hf.wi (by unfold inC; omega)
  generalize mj_w h (46 + 44 * j) 4 (.int (nI (a + 1))) = h1 at hS1 hf1
  have H := hf1.rs H0
  have hW1 : WW h1 X L W := hW.fr hf1 (fun b i c1 c2 => by unfold inC; omega)
  have ew : pw X (sp (W.getD a (0, 0, 0))) = (tkW X W a).2.2 := rfl
  obtain ⟨k0, k1⟩ := kq
  unfold cK at k0 k1
  refine s166 (by omega) H hW1 (by omega) (fun q1 q2 q3 => ?_) (fun q1 => ?_)
  · rw [ew] at q1 q2 q3
    simp only [if_pos q1] at k1
    refine kb_96_20 (fun c => absurd c (by decide)) (fun _ => kb_96_23 (by first | with_reducible assumption | with_reducible exact kd_W | assumption) (by first | with_reducible assumption | exact rf_W_names H | assumption) (by first | with_reducible assumption | with_reducible exact kd_W_names | assumption) (by first | with_reducible assumption | (simp (disch := omega) only [z_0, z_1, z_2, z_3, z_4, z_5, z_6, z_7, z_8, z_9, z_10, z_12, z_13, z_20, z_21, z_25, z_56, z_350, z_31, z_32, z_36, z_48, z_57, z_61, z_97, z_100, z_122, z_125, z_126, z_144, z_255, z_700, z_1000, z_1548, nI_add, pk_mul, pk_sub, nI_clamp, nI_leI, nI_ltI, nI_eq, z_in, z_m1, z_m1b, lg_cmp_eq, z_cmp, Decidable.not_not, w_ie, w_in, w_il, w_le, w_ln, w_li, w_ir, w_lr, ln_P_tape, ln_W_text, ln_W_starts, ln_W_ends, ln_W_lines, ln_W_names, ln_W_values, ln_PL_jobs, ln_PL_parts, ln_FT_reached, ln_EX_jobs, ln_EX_codes, ln_CB_names, ln_CB_values, ln_M_tape, ln_M_source, ln_M_wordAt, ln_M_wordEnd, ln_M_names, ln_M_itemCount, ln_M_itemFirst, ln_M_itemWords, ln_M_itemUses, ln_M_keptAt, ln_M_keptEnd, ln_M_needCount, ln_M_axisCount, ln_M_valueCount, ln_M_needed, ln_M_axes, ln_M_values, ln_M_includes, ln_M_excludes, ln_M_pairCount, ln_M_pairName, ln_M_pairValue, ln_M_signCount, ln_M_signs, ln_M_signName, ln_M_signValue, ln_M_whose, ln_M_which, ln_M_pile, ln_M_reaches, ln_M_stepsOf, ln_M_known, ln_JB_needed, ln_JB_axes, ln_JS_used, ln_JS_stepWords, ln_PS_used, ln_PS_stepWords, ln_IN_rows, ln_EC_rows, ln_IR_names, ln_IR_values, ln_ER_names, ln_ER_values, ln_CD_kinds, ln_CD_names, ln_CD_values, ln_AX_values] <;> omega) | assumption) (by first | with_reducible assumption | exact rf_W_values H | assumption) (by first | with_reducible assumption | with_reducible exact kd_W_values | assumption) (by first | with_reducible assumption | (simp (disch := omega) only [z_0, z_1, z_2, z_3, z_4, z_5, z_6, z_7, z_8, z_9, z_10, z_12, z_13, z_20, z_21, z_25, z_56, z_350, z_31, z_32, z_36, z_48, z_57, z_61, z_97, z_100, z_122, z_125, z_126, z_144, z_255, z_700, z_1000, z_1548, nI_add, pk_mul, pk_sub, nI_clamp, nI_leI, nI_ltI, nI_eq, z_in, z_m1, z_m1b, lg_cmp_eq, z_cmp, Decidable.not_not, w_ie, w_in, w_il, w_le, w_ln, w_li, w_ir, w_lr, ln_P_tape, ln_W_text, ln_W_starts, ln_W_ends, ln_W_lines, ln_W_names, ln_W_values, ln_PL_jobs, ln_PL_parts, ln_FT_reached, ln_EX_jobs, ln_EX_codes, ln_CB_names, ln_CB_values, ln_M_tape, ln_M_source, ln_M_wordAt, ln_M_wordEnd, ln_M_names, ln_M_itemCount, ln_M_itemFirst, ln_M_itemWords, ln_M_itemUses, ln_M_keptAt, ln_M_keptEnd, ln_M_needCount, ln_M_axisCount, ln_M_valueCount, ln_M_needed, ln_M_axes, ln_M_values, ln_M_includes, ln_M_excludes, ln_M_pairCount, ln_M_pairName, ln_M_pairValue, ln_M_signCount, ln_M_signs, ln_M_signName, ln_M_signValue, ln_M_whose, ln_M_which, ln_M_pile, ln_M_reaches, ln_M_stepsOf, ln_M_known, ln_JB_needed, ln_JB_axes, ln_JS_used, ln_JS_stepWords, ln_PS_used, ln_PS_stepWords, ln_IN_rows, ln_EC_rows, ln_IR_names, ln_IR_values, ln_ER_names, ln_ER_values, ln_CD_kinds, ln_CD_names, ln_CD_values, ln_AX_values] <;> omega) | assumption) (by first | with_reducible assumption | with_reducible exact kd_CD _ (by omega) | assumption) (by omega) ?_)
    rw [nI_clamp (by omega), q2, q3]
    exact s97 (k := 3) hj H hS1 (by omega) (fun h2 g1 g2 => kb_96_40 (by first | assumption | exact b2i_01 _ | exact Or.inl rfl | exact Or.inr rfl) (k1 _ rfl h2 g1 (hf1.trans g2)))
  · rw [ew] at q1
    have n1 : ¬ (tkW X W a).2.2.2 ≠ 0 := fun r => r q1
    simp only [if_neg n1] at k0 k1
    refine kb_96_20 (fun _ => kb_96_41 (by first | with_reducible assumption | with_reducible exact kd_W | assumption) (by omega) (s162k (by omega) H hW1 hk (by omega) (by decide) (fun q => ?_) (fun q => ?_))) (fun c => absurd rfl c)
    · have q : (tkW X W a).1 = 6 := q
      simp only [if_pos q] at k1
      exact kb_96_48 (fun c => absurd c (by decide)) (fun _ => kb_96_51 (by first | with_reducible assumption | with_reducible exact kd_CD _ (by omega) | assumption) (by omega) (s97 (k := 0) hj H hS1 (by omega) (fun h2 g1 g2 => kb_96_58 (by first | assumption | exact b2i_01 _ | exact Or.inl rfl | exact Or.inr rfl) (k1 _ rfl h2 g1 (hf1.trans g2)))))
    · have q : ¬ (tkW X W a).1 = 6 := q
      simp only [if_neg q] at k0 k1
      have go : ∀ x : Int32, ((x = nI 1 ∧ (tkW X W a).1 = 7) ∨ (x = nI 0 ∧ (tkW X W a).1 = 8)) → mr_M mj_KK d 96 81 [some (.ref (46 + 44 * j)), some (.ref 2), none, some (.int x), none, none] [] h1 Q := by
        intro x hx
        have b1 := hS1.1
        have b2 := hS1.2.1
        have h78 : (tkW X W a).1 = 7 ∨ (tkW X W a).1 = 8 := hx.elim (fun r => Or.inl r.2) (fun r => Or.inr r.2)
        rcases Nat.lt_or_ge (a + 1) e with ha1 | ha1
        · refine kb_96_81 (by first | with_reducible assumption | with_reducible exact kd_CD _ (by omega) | assumption) (fun _ => kb_96_94 (by first | with_reducible assumption | with_reducible exact kd_CD _ (by omega) | assumption) (by first | with_reducible assumption | with_reducible exact kd_W | assumption) (by omega) ?_) (fun c => (by simp (disch := omega) only [z_0, z_1, z_2, z_3, z_4, z_5, z_6, z_7, z_8, z_9, z_10, z_12, z_13, z_20, z_21, z_25, z_56, z_350, z_31, z_32, z_36, z_48, z_57, z_61, z_97, z_100, z_122, z_125, z_126, z_144, z_255, z_700, z_1000, z_1548, nI_add, pk_mul, pk_sub, nI_clamp, nI_leI, nI_ltI, nI_eq, z_in, z_m1, z_m1b, lg_cmp_eq, z_cmp, Decidable.not_not, w_ie, w_in, w_il, w_le, w_ln, w_li, w_ir, w_lr, b1, b2] at c; exfalso; omega))
          rw [b1]
          refine s165 (by omega) H hW1 (by omega) ?_
          have en : nw X (sp (W.getD (a + 1) (0, 0, 0))) = (tkW X W (a + 1)).2.1 := rfl
          rw [en]
          refine kb_96_102 (by first | with_reducible assumption | with_reducible exact kd_CD _ (by omega) | assumption) (fun c => ?_) (fun c => ?_)
          · rw [lg_cmp_eq] at c
            simp only [if_neg (fun r : (((tkW X W a).1 = 7 ∨ (tkW X W a).1 = 8) ∧ a + 1 < e ∧ (tkW X W (a + 1)).2.1 ≠ 0) => r.2.2 c)] at k0
            exact kb_96_144 (kb_96_145 (by first | assumption | exact b2i_01 _ | exact Or.inl rfl | exact Or.inr rfl) (k0 (by trivial) _ (hf1.wi (by unfold inC; omega))))
          · rw [lg_cmp_eq] at c
            rw [b1, nI_1]
            simp only [if_pos (show (((tkW X W a).1 = 7 ∨ (tkW X W a).1 = 8) ∧ a + 1 < e ∧ (tkW X W (a + 1)).2.1 ≠ 0) from ⟨h78, ha1, c⟩)] at k1
            have hS2 := hS1.inc
            have hf2 : fr (inC j) h0 (mj_w h1 (46 + 44 * j) 4 (.int (nI (a + 1 + 1)))) := hf1.wi (by unfold inC; omega)
            generalize mj_w h1 (46 + 44 * j) 4 (.int (nI (a + 1 + 1))) = h2 at hS2 hf2
            have H := hf2.rs H0
            refine kb_96_121 (fun c2 => ?_) (fun c2 => ?_)
            · rcases hx with ⟨x1, x2⟩ | ⟨x1, x2⟩
              · rw [x1] at c2
                exact absurd c2 (by decide)
              · rw [x2] at k1
                exact kb_96_130 (kb_96_131 (by first | with_reducible assumption | with_reducible exact kd_CD _ (by omega) | assumption) (by omega) (s97 (k := 2) hj H hS2 (by omega) (fun h3 g1 g2 => kb_96_137 (fun c => absurd c (by decide)) (fun _ => kb_96_140 (kb_96_145 (by first | assumption | exact b2i_01 _ | exact Or.inl rfl | exact Or.inr rfl) (k1 _ rfl h3 g1 (hf2.trans g2)))))))
            · rcases hx with ⟨x1, x2⟩ | ⟨x1, x2⟩
              · rw [x2] at k1
                exact kb_96_126 (kb_96_131 (by first | with_reducible assumption | with_reducible exact kd_CD _ (by omega) | assumption) (by omega) (s97 (k := 1) hj H hS2 (by omega) (fun h3 g1 g2 => kb_96_137 (fun c => absurd c (by decide)) (fun _ => kb_96_140 (kb_96_145 (by first | assumption | exact b2i_01 _ | exact Or.inl rfl | exact Or.inr rfl) (k1 _ rfl h3 g1 (hf2.trans g2)))))))
              · rw [x1] at c2
                exact absurd rfl c2
        · refine kb_96_81 (by first | with_reducible assumption | with_reducible exact kd_CD _ (by omega) | assumption) (fun c => (by simp (disch := omega) only [z_0, z_1, z_2, z_3, z_4, z_5, z_6, z_7, z_8, z_9, z_10, z_12, z_13, z_20, z_21, z_25, z_56, z_350, z_31, z_32, z_36, z_48, z_57, z_61, z_97, z_100, z_122, z_125, z_126, z_144, z_255, z_700, z_1000, z_1548, nI_add, pk_mul, pk_sub, nI_clamp, nI_leI, nI_ltI, nI_eq, z_in, z_m1, z_m1b, lg_cmp_eq, z_cmp, Decidable.not_not, w_ie, w_in, w_il, w_le, w_ln, w_li, w_ir, w_lr, b1, b2] at c; exfalso; omega)) (fun _ => ?_)
          simp only [if_neg (fun r : (((tkW X W a).1 = 7 ∨ (tkW X W a).1 = 8) ∧ a + 1 < e ∧ (tkW X W (a + 1)).2.1 ≠ 0) => absurd r.2.1 (by omega))] at k0
          exact kb_96_92 (k0 (by trivial) _ hf1)
      refine kb_96_48 (fun _ => kb_96_59 (by first | with_reducible assumption | with_reducible exact kd_W | assumption) (by omega) (s162k (by omega) H hW1 hk (by omega) (by decide) (fun q7 => ?_) (fun q7 => ?_))) (fun c => absurd rfl c)
      · exact kb_96_66 (fun _ => go 1 (Or.inl ⟨rfl, q7⟩)) (fun c => absurd (by decide) c)
      · refine kb_96_66 (fun c => absurd rfl c) (fun _ => kb_96_71 (by first | with_reducible assumption | with_reducible exact kd_W | assumption) (by omega) (s162k (by omega) H hW1 hk (by omega) (by decide) (fun q8 => ?_) (fun q8 => ?_)))
        · exact kb_96_78 (fun c => absurd c (by decide)) (fun _ => go 0 (Or.inr ⟨rfl, q8⟩))
        · refine kb_96_78 (fun _ => ?_) (fun c => absurd rfl c)
          simp only [if_neg (fun r : (((tkW X W a).1 = 7 ∨ (tkW X W a).1 = 8) ∧ a + 1 < e ∧ (tkW X W (a + 1)).2.1 ≠ 0) => r.1.elim q7 q8)] at k0
          exact kb_96_92 (k0 (by trivial) _ hf1)
/-- Condition.readNot (95), readAll (94), readAny (93) -/
theorem s93_5 {j e L : Nat} {h0 : mj_H} {X : Nat → Int32} {W : List Wt} (hj : j < 12) (H0 : mj_RS h0) (hW : WW h0 X L W) (hk : wks X W) (he : e ≤ W.length) : ∀ f d dp a h (p t : List Sg) (Q : Option Value → mj_H → Prop), dp ≤ 6 → a ≤ e → p.length + e ≤ a + 20 → CS h j a e p → fr (inC j) h0 h →
    (3 * (e - a) + 1 ≤ f → 10 + 3 * (6 - dp) ≤ d → KQ j e h0 Q (cP (tkW X W) e f 0 dp a p t) → mr_C mj_KK d 95 [.ref (46 + 44 * j), .ref 2, .int (nI dp)] h Q) ∧
    (3 * (e - a) + 2 ≤ f → 11 + 3 * (6 - dp) ≤ d → KQ j e h0 Q (cP (tkW X W) e f 1 dp a p t) → mr_C mj_KK d 94 [.ref (46 + 44 * j), .ref 2, .int (nI dp)] h Q) ∧
    (3 * (e - a) + 1 ≤ f → 11 + 3 * (6 - dp) ≤ d → KQ j e h0 Q (cP (tkW X W) e f 2 dp a p t) → mr_M mj_KK d 94 11 [some (.ref (46 + 44 * j)), some (.ref 2), some (.int (nI dp))] [] h Q) ∧
    (3 * (e - a) + 3 ≤ f → 12 + 3 * (6 - dp) ≤ d → KQ j e h0 Q (cP (tkW X W) e f 3 dp a p t) → mr_C mj_KK d 93 [.ref (46 + 44 * j), .ref 2, .int (nI dp)] h Q) ∧
    (3 * (e - a) + 1 ≤ f → 12 + 3 * (6 - dp) ≤ d → KQ j e h0 Q (cP (tkW X W) e f 4 dp a p t) → mr_M mj_KK d 93 11 [some (.ref (46 + 44 * j)), some (.ref 2), some (.int (nI dp))] [] h Q) := by
  intro f
  induction f with
  | zero =>
    intro d dp a h p t Q _ _ _ _ _
    exact ⟨fun q => absurd q (by omega), fun q => absurd q (by omega), fun q => absurd q (by omega), fun q => absurd q (by omega), fun q => absurd q (by omega)⟩
  | succ f ih =>
    intro d dp a h p t Q hdp ha hl hS hf
    have H := hf.rs H0
    have hw4 := hW.2.2.2.1
    have hW1 : WW h X L W := hW.fr hf (fun b i c1 c2 => by unfold inC; omega)
    have b1 := hS.1
    have b2 := hS.2.1
    have hS1 := hS.inc
    have hf1 : fr (inC j) h0 (mj_w h (46 + 44 * j) 4 (.int (nI (a + 1)))) := hf.wi (by unfold inC; omega)
    refine ⟨fun hff hd kq => ?_, fun hff hd kq => ?_, fun hff hd kq => ?_, fun hff hd kq => ?_, fun hff hd kq => ?_⟩
    · show mr_M mj_KK d 95 0 [some (.ref (46 + 44 * j)), some (.ref 2), some (.int (nI dp)), none] [] h Q
      rw [cP_0] at kq
      rcases Nat.lt_or_ge a e with hae | hae
      · rw [if_neg (by omega)] at kq
        refine kb_95_0 (by first | with_reducible assumption | with_reducible exact kd_CD _ (by omega) | assumption) (fun _ => kb_95_13 (by first | with_reducible assumption | with_reducible exact kd_CD _ (by omega) | assumption) (by first | with_reducible assumption | with_reducible exact kd_W | assumption) (by omega) ?_) (fun c => (by simp (disch := omega) only [z_0, z_1, z_2, z_3, z_4, z_5, z_6, z_7, z_8, z_9, z_10, z_12, z_13, z_20, z_21, z_25, z_56, z_350, z_31, z_32, z_36, z_48, z_57, z_61, z_97, z_100, z_122, z_125, z_126, z_144, z_255, z_700, z_1000, z_1548, nI_add, pk_mul, pk_sub, nI_clamp, nI_leI, nI_ltI, nI_eq, z_in, z_m1, z_m1b, lg_cmp_eq, z_cmp, Decidable.not_not, w_ie, w_in, w_il, w_le, w_ln, w_li, w_ir, w_lr, b1, b2] at c; exfalso; omega))
        rw [b1]
        refine s162k (by omega) H hW1 hk (by omega) (by decide) (fun q3 => ?_) (fun q3 => ?_)
        · have q3 : (tkW X W a).1 = 3 := q3
          rw [if_pos q3] at kq
          refine kb_95_23 (fun _ => kb_95_47 (fun c => ?_) (fun c => ?_)) (fun c => absurd (by decide) c)
          · simp (disch := omega) only [z_0, z_1, z_2, z_3, z_4, z_5, z_6, z_7, z_8, z_9, z_10, z_12, z_13, z_20, z_21, z_25, z_56, z_350, z_31, z_32, z_36, z_48, z_57, z_61, z_97, z_100, z_122, z_125, z_126, z_144, z_255, z_700, z_1000, z_1548, nI_add, pk_mul, pk_sub, nI_clamp, nI_leI, nI_ltI, nI_eq, z_in, z_m1, z_m1b, lg_cmp_eq, z_cmp, Decidable.not_not, w_ie, w_in, w_il, w_le, w_ln, w_li, w_ir, w_lr] at c
            rw [if_pos c] at kq
            refine kb_95_55 (by first | with_reducible assumption | with_reducible exact kd_CD _ (by omega) | assumption) (fun c => absurd c (by decide)) (fun _ => kb_95_69 (by first | with_reducible assumption | with_reducible exact kd_CD _ (by omega) | assumption) (by omega) ?_)
            rw [b1, nI_1, nI_1]
            refine (ih (d - 1) (dp + 1) (a + 1) _ p (t ++ [(3, 0, 0)]) _ (by omega) (by omega) (by omega) hS1 hf1).1 (by omega) (by omega) ⟨fun w h' g => ?_, fun r w h' g1 g2 => ?_⟩
            · rw [w] at kq
              exact kb_95_77 (fun _ => kb_95_94 (kb_95_95 (by first | assumption | exact b2i_01 _ | exact Or.inl rfl | exact Or.inr rfl) (kq.1 rfl h' g))) (fun c => absurd rfl c)
            · rw [w] at kq
              obtain ⟨⟨l1, l2, l3, l4⟩, l5⟩ := cP_len _ _ _ _ _ _ _ w (by omega)
              have H := g2.rs H0
              refine kb_95_77 (fun c => absurd c (by decide)) (fun _ => kb_95_80 (by first | with_reducible assumption | with_reducible exact kd_CD _ (by omega) | assumption) (by omega) (s97 (k := 4) hj H g1 (by omega) (fun h2 g3 g4 => kb_95_87 (fun c => absurd c (by decide)) (fun _ => kb_95_90 (kb_95_95 (by first | assumption | exact b2i_01 _ | exact Or.inl rfl | exact Or.inr rfl) (kq.2 _ rfl h2 g3 (g2.trans g4)))))))
          · simp (disch := omega) only [z_0, z_1, z_2, z_3, z_4, z_5, z_6, z_7, z_8, z_9, z_10, z_12, z_13, z_20, z_21, z_25, z_56, z_350, z_31, z_32, z_36, z_48, z_57, z_61, z_97, z_100, z_122, z_125, z_126, z_144, z_255, z_700, z_1000, z_1548, nI_add, pk_mul, pk_sub, nI_clamp, nI_leI, nI_ltI, nI_eq, z_in, z_m1, z_m1b, lg_cmp_eq, z_cmp, Decidable.not_not, w_ie, w_in, w_il, w_le, w_ln, w_li, w_ir, w_lr] at c
            rw [if_neg c] at kq
            exact kb_95_53 (kq.1 rfl h hf)
        · have q3 : ¬ (tkW X W a).1 = 3 := q3
          rw [if_neg q3] at kq
          refine kb_95_23 (fun c => absurd rfl c) (fun _ => kb_95_28 (by first | with_reducible assumption | with_reducible exact kd_CD _ (by omega) | assumption) (by first | with_reducible assumption | with_reducible exact kd_W | assumption) (by omega) ?_)
          rw [b1]
          refine s162k (by omega) H hW1 hk (by omega) (by decide) (fun q4 => ?_) (fun q4 => ?_)
          · have q4 : (tkW X W a).1 = 4 := q4
            rw [if_pos q4] at kq
            refine kb_95_38 (fun _ => kb_95_47 (fun c => ?_) (fun c => ?_)) (fun c => absurd (by decide) c)
            · simp (disch := omega) only [z_0, z_1, z_2, z_3, z_4, z_5, z_6, z_7, z_8, z_9, z_10, z_12, z_13, z_20, z_21, z_25, z_56, z_350, z_31, z_32, z_36, z_48, z_57, z_61, z_97, z_100, z_122, z_125, z_126, z_144, z_255, z_700, z_1000, z_1548, nI_add, pk_mul, pk_sub, nI_clamp, nI_leI, nI_ltI, nI_eq, z_in, z_m1, z_m1b, lg_cmp_eq, z_cmp, Decidable.not_not, w_ie, w_in, w_il, w_le, w_ln, w_li, w_ir, w_lr] at c
              rw [if_pos c] at kq
              refine kb_95_55 (by first | with_reducible assumption | with_reducible exact kd_CD _ (by omega) | assumption) (fun _ => kb_95_96 (by first | with_reducible assumption | with_reducible exact kd_CD _ (by omega) | assumption) (by omega) ?_) (fun c => absurd rfl c)
              rw [b1, nI_1, nI_1]
              refine (ih (d - 1) (dp + 1) (a + 1) _ p (t ++ [(4, 0, 0)]) _ (by omega) (by omega) (by omega) hS1 hf1).2.2.2.1 (by omega) (by omega) ⟨fun w h' g => ?_, fun r w h' g1 g2 => ?_⟩
              · rw [w] at kq
                exact kb_95_104 (fun _ => kb_95_131 (kq.1 rfl h' g)) (fun c => absurd rfl c)
              · rw [w, bd_s] at kq
                obtain ⟨⟨l1, l2, l3, l4⟩, l5⟩ := cP_len _ _ _ _ _ _ _ w (by omega)
                have H := g2.rs H0
                have hW2 : WW h' X L W := hW.fr g2 (fun b i c1 c2 => by unfold inC; omega)
                have c1 := g1.1
                have c2 := g1.2.1
                refine kb_95_104 (fun c => absurd c (by decide)) (fun _ => ?_)
                rcases Nat.lt_or_ge r.1 e with hre | hre
                · refine kb_95_107 (by first | with_reducible assumption | with_reducible exact kd_CD _ (by omega) | assumption) (fun c => (by simp (disch := omega) only [z_0, z_1, z_2, z_3, z_4, z_5, z_6, z_7, z_8, z_9, z_10, z_12, z_13, z_20, z_21, z_25, z_56, z_350, z_31, z_32, z_36, z_48, z_57, z_61, z_97, z_100, z_122, z_125, z_126, z_144, z_255, z_700, z_1000, z_1548, nI_add, pk_mul, pk_sub, nI_clamp, nI_leI, nI_ltI, nI_eq, z_in, z_m1, z_m1b, lg_cmp_eq, z_cmp, Decidable.not_not, w_ie, w_in, w_il, w_le, w_ln, w_li, w_ir, w_lr, c1, c2] at c; exfalso; omega)) (fun _ => kb_95_118 (by first | with_reducible assumption | with_reducible exact kd_CD _ (by omega) | assumption) (by first | with_reducible assumption | with_reducible exact kd_W | assumption) (by omega) ?_)
                  rw [c1]
                  refine s162k (by omega) H hW2 hk (by omega) (by decide) (fun q5 => ?_) (fun q5 => ?_)
                  · rw [if_pos ⟨hre, q5⟩] at kq
                    refine kb_95_128 (fun _ => kb_95_133 (by first | with_reducible assumption | with_reducible exact kd_CD _ (by omega) | assumption) ?_) (fun c => absurd (by decide) c)
                    rw [c1, nI_1]
                    exact kq.2 _ rfl _ g1.inc (g2.wi (by unfold inC; omega))
                  · rw [if_neg (fun v => q5 v.2)] at kq
                    exact kb_95_128 (fun c => absurd rfl c) (fun _ => kb_95_131 (kq.1 rfl h' g2))
                · rw [if_neg (fun v => absurd v.1 (by omega))] at kq
                  exact kb_95_107 (by first | with_reducible assumption | with_reducible exact kd_CD _ (by omega) | assumption) (fun _ => kb_95_131 (kq.1 rfl h' g2)) (fun c => (by simp (disch := omega) only [z_0, z_1, z_2, z_3, z_4, z_5, z_6, z_7, z_8, z_9, z_10, z_12, z_13, z_20, z_21, z_25, z_56, z_350, z_31, z_32, z_36, z_48, z_57, z_61, z_97, z_100, z_122, z_125, z_126, z_144, z_255, z_700, z_1000, z_1548, nI_add, pk_mul, pk_sub, nI_clamp, nI_leI, nI_ltI, nI_eq, z_in, z_m1, z_m1b, lg_cmp_eq, z_cmp, Decidable.not_not, w_ie, w_in, w_il, w_le, w_ln, w_li, w_ir, w_lr, c1, c2] at c; exfalso; omega))
            · simp (disch := omega) only [z_0, z_1, z_2, z_3, z_4, z_5, z_6, z_7, z_8, z_9, z_10, z_12, z_13, z_20, z_21, z_25, z_56, z_350, z_31, z_32, z_36, z_48, z_57, z_61, z_97, z_100, z_122, z_125, z_126, z_144, z_255, z_700, z_1000, z_1548, nI_add, pk_mul, pk_sub, nI_clamp, nI_leI, nI_ltI, nI_eq, z_in, z_m1, z_m1b, lg_cmp_eq, z_cmp, Decidable.not_not, w_ie, w_in, w_il, w_le, w_ln, w_li, w_ir, w_lr] at c
              rw [if_neg c] at kq
              exact kb_95_53 (kq.1 rfl h hf)
          · have q4 : ¬ (tkW X W a).1 = 4 := q4
            rw [if_neg q4] at kq
            refine kb_95_38 (fun c => absurd rfl c) (fun _ => kb_95_41 (by first | with_reducible assumption | with_reducible exact kd_CD _ (by omega) | assumption) (by omega) (s96 (by omega) hj H0 hW hk he hae hl hS hf ⟨fun w h' g => kb_95_46 (by first | assumption | exact b2i_01 _ | exact Or.inl rfl | exact Or.inr rfl) (kq.1 w h' g), fun r w h' g1 g2 => kb_95_46 (by first | assumption | exact b2i_01 _ | exact Or.inl rfl | exact Or.inr rfl) (kq.2 r w h' g1 g2)⟩))
      · rw [if_pos (by omega)] at kq
        exact kb_95_0 (by first | with_reducible assumption | with_reducible exact kd_CD _ (by omega) | assumption) (fun c => (by simp (disch := omega) only [z_0, z_1, z_2, z_3, z_4, z_5, z_6, z_7, z_8, z_9, z_10, z_12, z_13, z_20, z_21, z_25, z_56, z_350, z_31, z_32, z_36, z_48, z_57, z_61, z_97, z_100, z_122, z_125, z_126, z_144, z_255, z_700, z_1000, z_1548, nI_add, pk_mul, pk_sub, nI_clamp, nI_leI, nI_ltI, nI_eq, z_in, z_m1, z_m1b, lg_cmp_eq, z_cmp, Decidable.not_not, w_ie, w_in, w_il, w_le, w_ln, w_li, w_ir, w_lr, b1, b2] at c; exfalso; omega)) (fun _ => kb_95_11 (kq.1 rfl h hf))
    · show mr_M mj_KK d 94 0 [some (.ref (46 + 44 * j)), some (.ref 2), some (.int (nI dp))] [] h Q
      rw [cP_1] at kq
      refine kb_94_0 (by first | with_reducible assumption | with_reducible exact kd_CD _ (by omega) | assumption) (by omega) ?_
      refine (ih (d - 1) dp a h p t _ hdp ha hl hS hf).1 (by omega) (by omega) ⟨fun w h' g => ?_, fun r w h' g1 g2 => ?_⟩
      · rw [w] at kq
        exact kb_94_6 (fun c => absurd rfl c) (fun _ => kb_94_9 (kq.1 rfl h' g))
      · rw [w, bd_s] at kq
        obtain ⟨⟨l1, l2, l3, l4⟩, l5⟩ := cP_len _ _ _ _ _ _ _ w (by omega)
        have l5 := l5 (Or.inl rfl)
        exact kb_94_6 (fun _ => (ih d dp r.1 h' r.2.1 r.2.2 Q hdp l2 (by omega) g1 g2).2.2.1 (by omega) (by omega) kq) (fun c => absurd (by decide) c)
    · rw [cP_2] at kq
      rcases Nat.lt_or_ge a e with hae | hae
      · refine kb_94_11 (by first | with_reducible assumption | with_reducible exact kd_CD _ (by omega) | assumption) (fun c => (by simp (disch := omega) only [z_0, z_1, z_2, z_3, z_4, z_5, z_6, z_7, z_8, z_9, z_10, z_12, z_13, z_20, z_21, z_25, z_56, z_350, z_31, z_32, z_36, z_48, z_57, z_61, z_97, z_100, z_122, z_125, z_126, z_144, z_255, z_700, z_1000, z_1548, nI_add, pk_mul, pk_sub, nI_clamp, nI_leI, nI_ltI, nI_eq, z_in, z_m1, z_m1b, lg_cmp_eq, z_cmp, Decidable.not_not, w_ie, w_in, w_il, w_le, w_ln, w_li, w_ir, w_lr, b1, b2] at c; exfalso; omega)) (fun _ => kb_94_22 (by first | with_reducible assumption | with_reducible exact kd_CD _ (by omega) | assumption) (by first | with_reducible assumption | with_reducible exact kd_W | assumption) (by omega) ?_)
        rw [b1]
        refine s162k (by omega) H hW1 hk (by omega) (by decide) (fun q => ?_) (fun q => ?_)
        · rw [if_pos ⟨hae, q⟩] at kq
          refine kb_94_32 (fun c => absurd c (by decide)) (fun _ => kb_94_35 (by first | with_reducible assumption | with_reducible exact kd_CD _ (by omega) | assumption) (by omega) ?_)
          rw [b1, nI_1]
          refine (ih (d - 1) dp (a + 1) _ p (t ++ [(2, 0, 0)]) _ hdp (by omega) (by omega) hS1 hf1).1 (by omega) (by omega) ⟨fun w h' g => ?_, fun r w h' g1 g2 => ?_⟩
          · rw [w] at kq
            exact kb_94_51 (fun _ => kb_94_64 (kq.1 rfl h' g)) (fun c => absurd rfl c)
          · rw [w, bd_s] at kq
            obtain ⟨⟨l1, l2, l3, l4⟩, l5⟩ := cP_len _ _ _ _ _ _ _ w (by omega)
            have H := g2.rs H0
            refine kb_94_51 (fun c => absurd c (by decide)) (fun _ => kb_94_54 (by first | with_reducible assumption | with_reducible exact kd_CD _ (by omega) | assumption) (by omega) (s97 (k := 5) hj H g1 (by omega) (fun h2 g3 g4 => kb_94_61 (fun _ => ?_) (fun c => absurd (by decide) c))))
            exact (ih d dp r.1 h2 _ r.2.2 Q hdp l2 (by rw [List.length_append]; show r.2.1.length + 1 + e ≤ _; omega) g3 (g2.trans g4)).2.2.1 (by omega) (by omega) kq
        · rw [if_neg (fun v => q v.2)] at kq
          exact kb_94_32 (fun _ => kb_94_66 (kq.2 _ rfl h hS hf)) (fun c => absurd rfl c)
      · rw [if_neg (fun v => absurd v.1 (by omega))] at kq
        exact kb_94_11 (by first | with_reducible assumption | with_reducible exact kd_CD _ (by omega) | assumption) (fun _ => kb_94_66 (kq.2 _ rfl h hS hf)) (fun c => (by simp (disch := omega) only [z_0, z_1, z_2, z_3, z_4, z_5, z_6, z_7, z_8, z_9, z_10, z_12, z_13, z_20, z_21, z_25, z_56, z_350, z_31, z_32, z_36, z_48, z_57, z_61, z_97, z_100, z_122, z_125, z_126, z_144, z_255, z_700, z_1000, z_1548, nI_add, pk_mul, pk_sub, nI_clamp, nI_leI, nI_ltI, nI_eq, z_in, z_m1, z_m1b, lg_cmp_eq, z_cmp, Decidable.not_not, w_ie, w_in, w_il, w_le, w_ln, w_li, w_ir, w_lr, b1, b2] at c; exfalso; omega))
    · show mr_M mj_KK d 93 0 [some (.ref (46 + 44 * j)), some (.ref 2), some (.int (nI dp))] [] h Q
      rw [cP_3] at kq
      refine kb_93_0 (by first | with_reducible assumption | with_reducible exact kd_CD _ (by omega) | assumption) (by omega) ?_
      refine (ih (d - 1) dp a h p t _ hdp ha hl hS hf).2.1 (by omega) (by omega) ⟨fun w h' g => ?_, fun r w h' g1 g2 => ?_⟩
      · rw [w] at kq
        exact kb_93_6 (fun c => absurd rfl c) (fun _ => kb_93_9 (kq.1 rfl h' g))
      · rw [w, bd_s] at kq
        obtain ⟨⟨l1, l2, l3, l4⟩, l5⟩ := cP_len _ _ _ _ _ _ _ w (by omega)
        have l5 := l5 (Or.inr (Or.inl rfl))
        exact kb_93_6 (fun _ => (ih d dp r.1 h' r.2.1 r.2.2 Q hdp l2 (by omega) g1 g2).2.2.2.2 (by omega) (by omega) kq) (fun c => absurd (by decide) c)
    · rw [cP_4] at kq
      rcases Nat.lt_or_ge a e with hae | hae
      · refine kb_93_11 (by first | with_reducible assumption | with_reducible exact kd_CD _ (by omega) | assumption) (fun c => (by simp (disch := omega) only [z_0, z_1, z_2, z_3, z_4, z_5, z_6, z_7, z_8, z_9, z_10, z_12, z_13, z_20, z_21, z_25, z_56, z_350, z_31, z_32, z_36, z_48, z_57, z_61, z_97, z_100, z_122, z_125, z_126, z_144, z_255, z_700, z_1000, z_1548, nI_add, pk_mul, pk_sub, nI_clamp, nI_leI, nI_ltI, nI_eq, z_in, z_m1, z_m1b, lg_cmp_eq, z_cmp, Decidable.not_not, w_ie, w_in, w_il, w_le, w_ln, w_li, w_ir, w_lr, b1, b2] at c; exfalso; omega)) (fun _ => kb_93_22 (by first | with_reducible assumption | with_reducible exact kd_CD _ (by omega) | assumption) (by first | with_reducible assumption | with_reducible exact kd_W | assumption) (by omega) ?_)
        rw [b1]
        refine s162k (by omega) H hW1 hk (by omega) (by decide) (fun q => ?_) (fun q => ?_)
        · rw [if_pos ⟨hae, q⟩] at kq
          refine kb_93_32 (fun c => absurd c (by decide)) (fun _ => kb_93_35 (by first | with_reducible assumption | with_reducible exact kd_CD _ (by omega) | assumption) (by omega) ?_)
          rw [b1, nI_1]
          refine (ih (d - 1) dp (a + 1) _ p (t ++ [(1, 0, 0)]) _ hdp (by omega) (by omega) hS1 hf1).2.1 (by omega) (by omega) ⟨fun w h' g => ?_, fun r w h' g1 g2 => ?_⟩
          · rw [w] at kq
            exact kb_93_51 (fun _ => kb_93_65 (kq.1 rfl h' g)) (fun c => absurd rfl c)
          · rw [w, bd_s] at kq
            obtain ⟨⟨l1, l2, l3, l4⟩, l5⟩ := cP_len _ _ _ _ _ _ _ w (by omega)
            have H := g2.rs H0
            refine kb_93_51 (fun c => absurd c (by decide)) (fun _ => kb_93_54 (by first | with_reducible assumption | with_reducible exact kd_CD _ (by omega) | assumption) (by omega) (s97 (k := 6) hj H g1 (by omega) (fun h2 g3 g4 => kb_93_62 (fun _ => ?_) (fun c => absurd (by decide) c))))
            exact (ih d dp r.1 h2 _ r.2.2 Q hdp l2 (by rw [List.length_append]; show r.2.1.length + 1 + e ≤ _; omega) g3 (g2.trans g4)).2.2.2.2 (by omega) (by omega) kq
        · rw [if_neg (fun v => q v.2)] at kq
          exact kb_93_32 (fun _ => kb_93_67 (kq.2 _ rfl h hS hf)) (fun c => absurd rfl c)
      · rw [if_neg (fun v => absurd v.1 (by omega))] at kq
        exact kb_93_11 (by first | with_reducible assumption | with_reducible exact kd_CD _ (by omega) | assumption) (fun _ => kb_93_67 (kq.2 _ rfl h hS hf)) (fun c => (by simp (disch := omega) only [z_0, z_1, z_2, z_3, z_4, z_5, z_6, z_7, z_8, z_9, z_10, z_12, z_13, z_20, z_21, z_25, z_56, z_350, z_31, z_32, z_36, z_48, z_57, z_61, z_97, z_100, z_122, z_125, z_126, z_144, z_255, z_700, z_1000, z_1548, nI_add, pk_mul, pk_sub, nI_clamp, nI_leI, nI_ltI, nI_eq, z_in, z_m1, z_m1b, lg_cmp_eq, z_cmp, Decidable.not_not, w_ie, w_in, w_il, w_le, w_ln, w_li, w_ir, w_lr, b1, b2] at c; exfalso; omega))
/-- Condition.fill -/
theorem s92 {d j f n L : Nat} {h0 : mj_H} {Q : Option Value → mj_H → Prop} {X : Nat → Int32} {W : List Wt} {p : List Sg} (hd : 31 ≤ d) (hj : j < 12) (H0 : mj_RS h0) (hW : WW h0 X L W) (hk : wks X W) (hn : f + n ≤ W.length) (hC : CdC h0 (46 + 44 * j) p) (k0 : (¬ p = [] ∨ 20 < n ∨ cF (tkW X W) f (f + n) = none) → ∀ h', fr (inC j) h0 h' → Q (some (.int 0)) h') (k1 : p = [] → n ≤ 20 → ∀ r, cF (tkW X W) f (f + n) = some r → ∀ h', CdC h' (46 + 44 * j) r.1 → fr (inC j) h0 h' → Q (some (.int 1)) h') : mr_C mj_KK d 92 [.ref (46 + 44 * j), .ref 2, .int (nI f), .int (nI (f + n))] h0 Q := by
  show mr_M mj_KK d 92 0 [some (.ref (46 + 44 * j)), some (.ref 2), some (.int (nI f)), some (.int (nI (f + n)))] [] h0 Q
  have hw4 := hW.2.2.2.1
  have H := H0
  obtain ⟨x1, x2, x3⟩ := id hC
  refine kb_92_0 (by first | with_reducible assumption | with_reducible exact kd_CD _ (by omega) | assumption) (fun c => kb_92_15 (k0 (Or.inl ?_) h0 fr.rfl')) (fun c => ?_)
  · simp (disch := omega) only [z_0, z_1, z_2, z_3, z_4, z_5, z_6, z_7, z_8, z_9, z_10, z_12, z_13, z_20, z_21, z_25, z_56, z_350, z_31, z_32, z_36, z_48, z_57, z_61, z_97, z_100, z_122, z_125, z_126, z_144, z_255, z_700, z_1000, z_1548, nI_add, pk_mul, pk_sub, nI_clamp, nI_leI, nI_ltI, nI_eq, z_in, z_m1, z_m1b, lg_cmp_eq, z_cmp, Decidable.not_not, w_ie, w_in, w_il, w_le, w_ln, w_li, w_ir, w_lr, x1] at c
    intro r
    rw [r] at c
    exact absurd c (by decide)
  simp (disch := omega) only [z_0, z_1, z_2, z_3, z_4, z_5, z_6, z_7, z_8, z_9, z_10, z_12, z_13, z_20, z_21, z_25, z_56, z_350, z_31, z_32, z_36, z_48, z_57, z_61, z_97, z_100, z_122, z_125, z_126, z_144, z_255, z_700, z_1000, z_1548, nI_add, pk_mul, pk_sub, nI_clamp, nI_leI, nI_ltI, nI_eq, z_in, z_m1, z_m1b, lg_cmp_eq, z_cmp, Decidable.not_not, w_ie, w_in, w_il, w_le, w_ln, w_li, w_ir, w_lr, x1] at c
  have hp : p = [] := List.length_eq_zero_iff.mp (by omega)
  refine kb_92_7 (fun c2 => ?_) (fun c2 => kb_92_15 (k0 (Or.inr (Or.inl ?_)) h0 fr.rfl'))
  · simp (disch := omega) only [z_0, z_1, z_2, z_3, z_4, z_5, z_6, z_7, z_8, z_9, z_10, z_12, z_13, z_20, z_21, z_25, z_56, z_350, z_31, z_32, z_36, z_48, z_57, z_61, z_97, z_100, z_122, z_125, z_126, z_144, z_255, z_700, z_1000, z_1548, nI_add, pk_mul, pk_sub, nI_clamp, nI_leI, nI_ltI, nI_eq, z_in, z_m1, z_m1b, lg_cmp_eq, z_cmp, Decidable.not_not, w_ie, w_in, w_il, w_le, w_ln, w_li, w_ir, w_lr] at c2
    have hn20 : n ≤ 20 := by omega
    refine kb_92_17 (by first | with_reducible assumption | with_reducible exact kd_CD _ (by omega) | assumption) (by omega) ?_
    have hS : CS (mj_w (mj_w h0 (46 + 44 * j) 4 (.int (nI f))) (46 + 44 * j) 5 (.int (nI (f + n)))) j f (f + n) [] := by
      rw [hp] at x1
      exact ⟨by simp (disch := omega) only [z_0, z_1, z_2, z_3, z_4, z_5, z_6, z_7, z_8, z_9, z_10, z_12, z_13, z_20, z_21, z_25, z_56, z_350, z_31, z_32, z_36, z_48, z_57, z_61, z_97, z_100, z_122, z_125, z_126, z_144, z_255, z_700, z_1000, z_1548, nI_add, pk_mul, pk_sub, nI_clamp, nI_leI, nI_ltI, nI_eq, z_in, z_m1, z_m1b, lg_cmp_eq, z_cmp, Decidable.not_not, w_ie, w_in, w_il, w_le, w_ln, w_li, w_ir, w_lr], by simp (disch := omega) only [z_0, z_1, z_2, z_3, z_4, z_5, z_6, z_7, z_8, z_9, z_10, z_12, z_13, z_20, z_21, z_25, z_56, z_350, z_31, z_32, z_36, z_48, z_57, z_61, z_97, z_100, z_122, z_125, z_126, z_144, z_255, z_700, z_1000, z_1548, nI_add, pk_mul, pk_sub, nI_clamp, nI_leI, nI_ltI, nI_eq, z_in, z_m1, z_m1b, lg_cmp_eq, z_cmp, Decidable.not_not, w_ie, w_in, w_il, w_le, w_ln, w_li, w_ir, w_lr], by simp (disch := omega) only [z_0, z_1, z_2, z_3, z_4, z_5, z_6, z_7, z_8, z_9, z_10, z_12, z_13, z_20, z_21, z_25, z_56, z_350, z_31, z_32, z_36, z_48, z_57, z_61, z_97, z_100, z_122, z_125, z_126, z_144, z_255, z_700, z_1000, z_1548, nI_add, pk_mul, pk_sub, nI_clamp, nI_leI, nI_ltI, nI_eq, z_in, z_m1, z_m1b, lg_cmp_eq, z_cmp, Decidable.not_not, w_ie, w_in, w_il, w_le, w_ln, w_li, w_ir, w_lr, x1], by decide, fun i hi => absurd hi (Nat.not_lt_zero i)⟩
    have hf : fr (inC j) h0 (mj_w (mj_w h0 (46 + 44 * j) 4 (.int (nI f))) (46 + 44 * j) 5 (.int (nI (f + n)))) := (fr.wi (P := inC j) fr.rfl' (by unfold inC; omega)).wi (by unfold inC; omega)
    have ee : f + n - f = n := by omega
    refine (s93_5 (t := []) hj H0 hW hk hn (3 * (f + n - f) + 3) (d - 1) 0 f _ [] _ (by omega) (by omega) (by show 0 + _ ≤ _; omega) hS hf).2.2.2.1 (by omega) (by omega) ⟨fun w h' g => ?_, fun r w h' g1 g2 => ?_⟩
    · refine kb_92_33 (fun _ => kb_92_51 (kb_92_52 (by first | assumption | exact b2i_01 _ | exact Or.inl rfl | exact Or.inr rfl) (k0 (Or.inr (Or.inr ?_)) h' g))) (fun c => absurd rfl c)
      unfold cF
      rw [w]
      rfl
    · obtain ⟨⟨l1, l2, l3, l4⟩, l5⟩ := cP_len _ _ _ _ _ _ _ w (by omega)
      have c1 := g1.1
      have c2 := g1.2.1
      refine kb_92_33 (fun c => absurd c (by decide)) (fun _ => kb_92_36 (by first | with_reducible assumption | with_reducible exact kd_CD _ (by omega) | assumption) (fun c => ?_) (fun c => ?_))
      · simp (disch := omega) only [z_0, z_1, z_2, z_3, z_4, z_5, z_6, z_7, z_8, z_9, z_10, z_12, z_13, z_20, z_21, z_25, z_56, z_350, z_31, z_32, z_36, z_48, z_57, z_61, z_97, z_100, z_122, z_125, z_126, z_144, z_255, z_700, z_1000, z_1548, nI_add, pk_mul, pk_sub, nI_clamp, nI_leI, nI_ltI, nI_eq, z_in, z_m1, z_m1b, lg_cmp_eq, z_cmp, Decidable.not_not, w_ie, w_in, w_il, w_le, w_ln, w_li, w_ir, w_lr, c1, c2] at c
        refine kb_92_51 (kb_92_52 (by first | assumption | exact b2i_01 _ | exact Or.inl rfl | exact Or.inr rfl) (k0 (Or.inr (Or.inr ?_)) h' g2))
        unfold cF
        rw [w, bd_s, if_neg c]
      · simp (disch := omega) only [z_0, z_1, z_2, z_3, z_4, z_5, z_6, z_7, z_8, z_9, z_10, z_12, z_13, z_20, z_21, z_25, z_56, z_350, z_31, z_32, z_36, z_48, z_57, z_61, z_97, z_100, z_122, z_125, z_126, z_144, z_255, z_700, z_1000, z_1548, nI_add, pk_mul, pk_sub, nI_clamp, nI_leI, nI_ltI, nI_eq, z_in, z_m1, z_m1b, lg_cmp_eq, z_cmp, Decidable.not_not, w_ie, w_in, w_il, w_le, w_ln, w_li, w_ir, w_lr, c1, c2] at c
        refine kb_92_47 (kb_92_52 (by first | assumption | exact b2i_01 _ | exact Or.inl rfl | exact Or.inr rfl) (k1 hp hn20 (r.2.1, r.2.2) ?_ h' g1.2.2 g2))
        unfold cF
        rw [w, bd_s, if_pos c]
  · simp (disch := omega) only [z_0, z_1, z_2, z_3, z_4, z_5, z_6, z_7, z_8, z_9, z_10, z_12, z_13, z_20, z_21, z_25, z_56, z_350, z_31, z_32, z_36, z_48, z_57, z_61, z_97, z_100, z_122, z_125, z_126, z_144, z_255, z_700, z_1000, z_1548, nI_add, pk_mul, pk_sub, nI_clamp, nI_leI, nI_ltI, nI_eq, z_in, z_m1, z_m1b, lg_cmp_eq, z_cmp, Decidable.not_not, w_ie, w_in, w_il, w_le, w_ln, w_li, w_ir, w_lr] at c2
    omega
