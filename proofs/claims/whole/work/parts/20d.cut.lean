-- ===== the class's cut =====
def wd1 (l s a : Nat) : List Wt := if s < a then [(s, a, l)] else []
/-- the words of n characters from a on, in line l, a word having begun at s -/
def ws (X : Nat → Int32) : Nat → Nat → Nat → Nat → List Wt
  | l, s, a, 0 => wd1 l s a
  | l, s, a, n + 1 => if X a = 32 then wd1 l s a ++ ws X l (a + 1) (a + 1) n else if X a = 10 then wd1 l s a ++ ws X (l + 1) (a + 1) (a + 1) n else ws X l s (a + 1) n
theorem ws_0 {X : Nat → Int32} {l s a : Nat} : ws X l s a 0 = wd1 l s a := rfl
theorem ws_s {X : Nat → Int32} {l s a n : Nat} : ws X l s a (n + 1) = if X a = 32 then wd1 l s a ++ ws X l (a + 1) (a + 1) n else if X a = 10 then wd1 l s a ++ ws X (l + 1) (a + 1) (a + 1) n else ws X l s (a + 1) n := rfl
/-- a character of the tape -/
def tch (x : Int32) : Prop := ∃ m, m < 127 ∧ x = nI m
theorem WW.more {h : mj_H} {X : Nat → Int32} {L : Nat} {W : List Wt} (A : WW h X L W) (hL : L < 700) (ht : tch (X L)) : WW (mj_w h 3 L (.int (vp_nar .char (X L)))) X (L + 1) W := by
  obtain ⟨a1, a2, a3, a4, a5⟩ := A
  refine ⟨hL, fun i hi => ?_, ?_, a4, fun w hw => ?_⟩
  · rcases Nat.lt_or_ge i L with q | q
    · rw [w_in (Or.inr (by omega))]
      exact a2 i q
    · have e : i = L := by omega
      subst e
      rw [w_ie ⟨rfl, rfl⟩]
      obtain ⟨m, hm, e⟩ := ht
      rw [e, nar_nI hm]
  · rw [w_in (Or.inl (by decide))]
    exact a3
  · obtain ⟨b1, b2, b3, b4, b5, b6, b7, b8⟩ := a5 w hw
    refine ⟨b1, by omega, b3, ?_, ?_, ?_, b7, b8⟩
    · rw [w_in (Or.inl (by decide))]
      exact b4
    · rw [w_in (Or.inl (by decide))]
      exact b5
    · rw [w_in (Or.inl (by decide))]
      exact b6
def inW : Nat → Nat → Prop := fun a _ => 2 ≤ a ∧ a ≤ 8
/-- Words.add -/
theorem s160 {d : Nat} {h : mj_H} {Q : Option Value → mj_H → Prop} {X : Nat → Int32} {L s e l : Nat} {W : List Wt} (hd : 1 ≤ d) (H : mj_RS h) (hW : WW h X L W) (hs : s ≤ 700) (he : e ≤ L) (hl : l ≤ 700) (hc : s < e → W.length < 350) (k : ∀ h', WW h' X L (W ++ wd1 l s e) → fr inW h h' → Q none h') : mr_C mj_KK d 160 [.ref 2, .int (nI s), .int (nI e), .int (nI l)] h Q := by
  show mr_M mj_KK d 160 0 [some (.ref 2), some (.int (nI s)), some (.int (nI e)), some (.int (nI l)), none, none, none, none, none] [] h Q
  obtain ⟨a1, a2, a3, a4, a5⟩ := id hW
  rcases Nat.lt_or_ge s e with q | q
  · have hc := hc q
    refine kb_160_0 (fun c => (by simp (disch := omega) only [z_0, z_1, z_2, z_3, z_4, z_5, z_6, z_7, z_8, z_9, z_10, z_12, z_13, z_20, z_21, z_25, z_56, z_350, z_31, z_32, z_36, z_48, z_57, z_61, z_97, z_100, z_122, z_125, z_126, z_144, z_255, z_700, z_1000, z_1548, nI_add, pk_mul, pk_sub, nI_clamp, nI_leI, nI_ltI, nI_eq, z_in, z_m1, z_m1b, lg_cmp_eq, z_cmp, Decidable.not_not, w_ie, w_in, w_il, w_le, w_ln, w_li, w_ir, w_lr] at c; exfalso; omega)) (fun _ => kb_160_5 (by first | with_reducible assumption | with_reducible exact kd_W | assumption) (fun _ => kb_160_16 ?_) (fun c => (by simp (disch := omega) only [z_0, z_1, z_2, z_3, z_4, z_5, z_6, z_7, z_8, z_9, z_10, z_12, z_13, z_20, z_21, z_25, z_56, z_350, z_31, z_32, z_36, z_48, z_57, z_61, z_97, z_100, z_122, z_125, z_126, z_144, z_255, z_700, z_1000, z_1548, nI_add, pk_mul, pk_sub, nI_clamp, nI_leI, nI_ltI, nI_eq, z_in, z_m1, z_m1b, lg_cmp_eq, z_cmp, Decidable.not_not, w_ie, w_in, w_il, w_le, w_ln, w_li, w_ir, w_lr, a3] at c; exfalso; omega)))
    have loop : ∀ n i, i + n = e → s ≤ i → eqF X i n = eqA X s e → mr_M mj_KK d 160 19 [some (.ref 2), some (.int (nI s)), some (.int (nI e)), some (.int (nI l)), some (.int (nI i)), none, none, none, none] [] h Q := by
      intro n
      have go : ∀ i, i = eqA X s e → s ≤ i → i ≤ e → mr_M mj_KK d 160 43 [some (.ref 2), some (.int (nI s)), some (.int (nI e)), some (.int (nI l)), some (.int (nI i)), none, none, none, none] [] h Q := by
        intro i hi h1 h2
        refine kb_160_43 (by first | with_reducible assumption | with_reducible exact kd_W | assumption) (by first | with_reducible assumption | exact rf_W_text H | assumption) (by omega) (s19 kd_W_text ln_W_text (by omega) (by omega) (kb_160_53 (by first | with_reducible assumption | with_reducible exact kd_W | assumption) (by first | with_reducible assumption | exact rf_W_text H | assumption) (by omega) ?_))
        rw [nI_1]
        refine s19 kd_W_text ln_W_text (by omega) (by omega) ?_
        rw [nm_congr (Y := X) (fun i h1 h2 => a2 i (by omega)), nm_congr (X := h.1 3) (Y := X) (fun i h1 h2 => a2 i (by omega))]
        have fin : ∀ (n v : Int64) (h9 : mj_H), n = wN X s e → v = wV X s e → h9 = (mj_w (mj_w (mj_w (mj_w (mj_w (mj_w h 4 W.length (.int (nI s))) 5 W.length (.int (nI e))) 6 W.length (.int (nI l))) 7 W.length (.long n)) 8 W.length (.long v)) 2 6 (.int (nI (W.length + 1)))) → Q none h9 := by
          intro n v h9 en ev e9
          subst en
          subst ev
          subst e9
          have e1 : wd1 l s e = [(s, e, l)] := if_pos q
          rw [e1] at k
          refine k _ ⟨a1, fun i hi => ?_, ?_, ?_, fun w hw => ?_⟩ ((((((fr.rfl'.wi (by unfold inW; omega)).wi (by unfold inW; omega)).wi (by unfold inW; omega)).wl (by unfold inW; omega)).wl (by unfold inW; omega)).wi (by unfold inW; omega))
          · simp (disch := omega) only [z_0, z_1, z_2, z_3, z_4, z_5, z_6, z_7, z_8, z_9, z_10, z_12, z_13, z_20, z_21, z_25, z_56, z_350, z_31, z_32, z_36, z_48, z_57, z_61, z_97, z_100, z_122, z_125, z_126, z_144, z_255, z_700, z_1000, z_1548, nI_add, pk_mul, pk_sub, nI_clamp, nI_leI, nI_ltI, nI_eq, z_in, z_m1, z_m1b, lg_cmp_eq, z_cmp, Decidable.not_not, w_ie, w_in, w_il, w_le, w_ln, w_li, w_ir, w_lr]
            exact a2 i hi
          · rw [List.length_append]
            simp (disch := omega) only [z_0, z_1, z_2, z_3, z_4, z_5, z_6, z_7, z_8, z_9, z_10, z_12, z_13, z_20, z_21, z_25, z_56, z_350, z_31, z_32, z_36, z_48, z_57, z_61, z_97, z_100, z_122, z_125, z_126, z_144, z_255, z_700, z_1000, z_1548, nI_add, pk_mul, pk_sub, nI_clamp, nI_leI, nI_ltI, nI_eq, z_in, z_m1, z_m1b, lg_cmp_eq, z_cmp, Decidable.not_not, w_ie, w_in, w_il, w_le, w_ln, w_li, w_ir, w_lr]
            rfl
          · rw [List.length_append]
            show W.length + 1 ≤ 350
            omega
          · rw [List.length_append] at hw
            have hw : w < W.length + 1 := hw
            rcases Nat.lt_or_ge w W.length with r | r
            · rw [getD_app_l r]
              obtain ⟨b1, b2, b3, b4, b5, b6, b7, b8⟩ := a5 w r
              refine ⟨b1, b2, b3, ?_, ?_, ?_, ?_, ?_⟩ <;> simp (disch := omega) only [z_0, z_1, z_2, z_3, z_4, z_5, z_6, z_7, z_8, z_9, z_10, z_12, z_13, z_20, z_21, z_25, z_56, z_350, z_31, z_32, z_36, z_48, z_57, z_61, z_97, z_100, z_122, z_125, z_126, z_144, z_255, z_700, z_1000, z_1548, nI_add, pk_mul, pk_sub, nI_clamp, nI_leI, nI_ltI, nI_eq, z_in, z_m1, z_m1b, lg_cmp_eq, z_cmp, Decidable.not_not, w_ie, w_in, w_il, w_le, w_ln, w_li, w_ir, w_lr] <;> assumption
            · have ew : w = W.length := by omega
              subst ew
              rw [getD_app_e]
              refine ⟨q, he, hl, ?_, ?_, ?_, ?_, ?_⟩ <;> simp (disch := omega) only [z_0, z_1, z_2, z_3, z_4, z_5, z_6, z_7, z_8, z_9, z_10, z_12, z_13, z_20, z_21, z_25, z_56, z_350, z_31, z_32, z_36, z_48, z_57, z_61, z_97, z_100, z_122, z_125, z_126, z_144, z_255, z_700, z_1000, z_1548, nI_add, pk_mul, pk_sub, nI_clamp, nI_leI, nI_ltI, nI_eq, z_in, z_m1, z_m1b, lg_cmp_eq, z_cmp, Decidable.not_not, w_ie, w_in, w_il, w_le, w_ln, w_li, w_ir, w_lr]
        unfold wN wV at fin
        rw [← hi] at fin
        generalize nm X s (i - s) = v1 at *
        generalize nm X (i + 1) (e - (i + 1)) = v2 at *
        have tail : ∀ (v : Int64) (h9 : mj_H), v = (if i = e ∨ v2 ≠ 0 then v1 else 0) → h9 = (mj_w (mj_w (mj_w h 4 W.length (.int (nI s))) 5 W.length (.int (nI e))) 6 W.length (.int (nI l))) → mr_M mj_KK d 160 126 [some (.ref 2), none, none, none, none, some (.long v1), none, some (.long v2), none] [.long v, .int (nI W.length), .ref 7] h9 Q := by
          intro v h9 ev e9
          have H9 : mj_RS h9 := by rw [e9]; exact H
          have c9 : h9.1 2 6 = nI W.length := by rw [e9]; simp (disch := omega) only [z_0, z_1, z_2, z_3, z_4, z_5, z_6, z_7, z_8, z_9, z_10, z_12, z_13, z_20, z_21, z_25, z_56, z_350, z_31, z_32, z_36, z_48, z_57, z_61, z_97, z_100, z_122, z_125, z_126, z_144, z_255, z_700, z_1000, z_1548, nI_add, pk_mul, pk_sub, nI_clamp, nI_leI, nI_ltI, nI_eq, z_in, z_m1, z_m1b, lg_cmp_eq, z_cmp, Decidable.not_not, w_ie, w_in, w_il, w_le, w_ln, w_li, w_ir, w_lr, a3]
          refine kb_160_126 kd_W_names (by simp (disch := omega) only [z_0, z_1, z_2, z_3, z_4, z_5, z_6, z_7, z_8, z_9, z_10, z_12, z_13, z_20, z_21, z_25, z_56, z_350, z_31, z_32, z_36, z_48, z_57, z_61, z_97, z_100, z_122, z_125, z_126, z_144, z_255, z_700, z_1000, z_1548, nI_add, pk_mul, pk_sub, nI_clamp, nI_leI, nI_ltI, nI_eq, z_in, z_m1, z_m1b, lg_cmp_eq, z_cmp, Decidable.not_not, w_ie, w_in, w_il, w_le, w_ln, w_li, w_ir, w_lr, ln_W_names] <;> omega) kd_W (rf_W_values H9) (fun c => kb_160_147 ?_) (fun c => kb_160_142 ?_)
          · rw [lg_cmp_eq] at c
            refine kb_160_148 kd_W_values (by simp (disch := omega) only [z_0, z_1, z_2, z_3, z_4, z_5, z_6, z_7, z_8, z_9, z_10, z_12, z_13, z_20, z_21, z_25, z_56, z_350, z_31, z_32, z_36, z_48, z_57, z_61, z_97, z_100, z_122, z_125, z_126, z_144, z_255, z_700, z_1000, z_1548, nI_add, pk_mul, pk_sub, nI_clamp, nI_leI, nI_ltI, nI_eq, z_in, z_m1, z_m1b, lg_cmp_eq, z_cmp, Decidable.not_not, w_ie, w_in, w_il, w_le, w_ln, w_li, w_ir, w_lr, ln_W_values, c9] <;> omega) kd_W ?_
            refine fin v 0 _ ev (by rw [if_neg (fun r => r c)]) ?_
            rw [← e9]
            simp (disch := omega) only [z_0, z_1, z_2, z_3, z_4, z_5, z_6, z_7, z_8, z_9, z_10, z_12, z_13, z_20, z_21, z_25, z_56, z_350, z_31, z_32, z_36, z_48, z_57, z_61, z_97, z_100, z_122, z_125, z_126, z_144, z_255, z_700, z_1000, z_1548, nI_add, pk_mul, pk_sub, nI_clamp, nI_leI, nI_ltI, nI_eq, z_in, z_m1, z_m1b, lg_cmp_eq, z_cmp, Decidable.not_not, w_ie, w_in, w_il, w_le, w_ln, w_li, w_ir, w_lr, c9]
          · rw [lg_cmp_eq] at c
            refine kb_160_148 kd_W_values (by simp (disch := omega) only [z_0, z_1, z_2, z_3, z_4, z_5, z_6, z_7, z_8, z_9, z_10, z_12, z_13, z_20, z_21, z_25, z_56, z_350, z_31, z_32, z_36, z_48, z_57, z_61, z_97, z_100, z_122, z_125, z_126, z_144, z_255, z_700, z_1000, z_1548, nI_add, pk_mul, pk_sub, nI_clamp, nI_leI, nI_ltI, nI_eq, z_in, z_m1, z_m1b, lg_cmp_eq, z_cmp, Decidable.not_not, w_ie, w_in, w_il, w_le, w_ln, w_li, w_ir, w_lr, ln_W_values, c9] <;> omega) kd_W ?_
            refine fin v v2 _ ev (by rw [if_pos c]) ?_
            rw [← e9]
            simp (disch := omega) only [z_0, z_1, z_2, z_3, z_4, z_5, z_6, z_7, z_8, z_9, z_10, z_12, z_13, z_20, z_21, z_25, z_56, z_350, z_31, z_32, z_36, z_48, z_57, z_61, z_97, z_100, z_122, z_125, z_126, z_144, z_255, z_700, z_1000, z_1548, nI_add, pk_mul, pk_sub, nI_clamp, nI_leI, nI_ltI, nI_eq, z_in, z_m1, z_m1b, lg_cmp_eq, z_cmp, Decidable.not_not, w_ie, w_in, w_il, w_le, w_ln, w_li, w_ir, w_lr, c9]
        refine kb_160_67 (by first | with_reducible assumption | with_reducible exact kd_W | assumption) (by first | with_reducible assumption | exact rf_W_starts H | assumption) (by first | with_reducible assumption | with_reducible exact kd_W_starts | assumption) (by first | with_reducible assumption | (simp (disch := omega) only [z_0, z_1, z_2, z_3, z_4, z_5, z_6, z_7, z_8, z_9, z_10, z_12, z_13, z_20, z_21, z_25, z_56, z_350, z_31, z_32, z_36, z_48, z_57, z_61, z_97, z_100, z_122, z_125, z_126, z_144, z_255, z_700, z_1000, z_1548, nI_add, pk_mul, pk_sub, nI_clamp, nI_leI, nI_ltI, nI_eq, z_in, z_m1, z_m1b, lg_cmp_eq, z_cmp, Decidable.not_not, w_ie, w_in, w_il, w_le, w_ln, w_li, w_ir, w_lr, a3, ln_P_tape, ln_W_text, ln_W_starts, ln_W_ends, ln_W_lines, ln_W_names, ln_W_values, ln_PL_jobs, ln_PL_parts, ln_FT_reached, ln_EX_jobs, ln_EX_codes, ln_CB_names, ln_CB_values, ln_M_tape, ln_M_source, ln_M_wordAt, ln_M_wordEnd, ln_M_names, ln_M_itemCount, ln_M_itemFirst, ln_M_itemWords, ln_M_itemUses, ln_M_keptAt, ln_M_keptEnd, ln_M_needCount, ln_M_axisCount, ln_M_valueCount, ln_M_needed, ln_M_axes, ln_M_values, ln_M_includes, ln_M_excludes, ln_M_pairCount, ln_M_pairName, ln_M_pairValue, ln_M_signCount, ln_M_signs, ln_M_signName, ln_M_signValue, ln_M_whose, ln_M_which, ln_M_pile, ln_M_reaches, ln_M_stepsOf, ln_M_known, ln_JB_needed, ln_JB_axes, ln_JS_used, ln_JS_stepWords, ln_PS_used, ln_PS_stepWords, ln_IN_rows, ln_EC_rows, ln_IR_names, ln_IR_values, ln_ER_names, ln_ER_values, ln_CD_kinds, ln_CD_names, ln_CD_values, ln_AX_values] <;> omega) | assumption) (by first | with_reducible assumption | exact rf_W_ends H | assumption) (by first | with_reducible assumption | with_reducible exact kd_W_ends | assumption) (by first | with_reducible assumption | (simp (disch := omega) only [z_0, z_1, z_2, z_3, z_4, z_5, z_6, z_7, z_8, z_9, z_10, z_12, z_13, z_20, z_21, z_25, z_56, z_350, z_31, z_32, z_36, z_48, z_57, z_61, z_97, z_100, z_122, z_125, z_126, z_144, z_255, z_700, z_1000, z_1548, nI_add, pk_mul, pk_sub, nI_clamp, nI_leI, nI_ltI, nI_eq, z_in, z_m1, z_m1b, lg_cmp_eq, z_cmp, Decidable.not_not, w_ie, w_in, w_il, w_le, w_ln, w_li, w_ir, w_lr, a3, ln_P_tape, ln_W_text, ln_W_starts, ln_W_ends, ln_W_lines, ln_W_names, ln_W_values, ln_PL_jobs, ln_PL_parts, ln_FT_reached, ln_EX_jobs, ln_EX_codes, ln_CB_names, ln_CB_values, ln_M_tape, ln_M_source, ln_M_wordAt, ln_M_wordEnd, ln_M_names, ln_M_itemCount, ln_M_itemFirst, ln_M_itemWords, ln_M_itemUses, ln_M_keptAt, ln_M_keptEnd, ln_M_needCount, ln_M_axisCount, ln_M_valueCount, ln_M_needed, ln_M_axes, ln_M_values, ln_M_includes, ln_M_excludes, ln_M_pairCount, ln_M_pairName, ln_M_pairValue, ln_M_signCount, ln_M_signs, ln_M_signName, ln_M_signValue, ln_M_whose, ln_M_which, ln_M_pile, ln_M_reaches, ln_M_stepsOf, ln_M_known, ln_JB_needed, ln_JB_axes, ln_JS_used, ln_JS_stepWords, ln_PS_used, ln_PS_stepWords, ln_IN_rows, ln_EC_rows, ln_IR_names, ln_IR_values, ln_ER_names, ln_ER_values, ln_CD_kinds, ln_CD_names, ln_CD_values, ln_AX_values] <;> omega) | assumption) (by first | with_reducible assumption | exact rf_W_lines H | assumption) (by first | with_reducible assumption | with_reducible exact kd_W_lines | assumption) (by first | with_reducible assumption | (simp (disch := omega) only [z_0, z_1, z_2, z_3, z_4, z_5, z_6, z_7, z_8, z_9, z_10, z_12, z_13, z_20, z_21, z_25, z_56, z_350, z_31, z_32, z_36, z_48, z_57, z_61, z_97, z_100, z_122, z_125, z_126, z_144, z_255, z_700, z_1000, z_1548, nI_add, pk_mul, pk_sub, nI_clamp, nI_leI, nI_ltI, nI_eq, z_in, z_m1, z_m1b, lg_cmp_eq, z_cmp, Decidable.not_not, w_ie, w_in, w_il, w_le, w_ln, w_li, w_ir, w_lr, a3, ln_P_tape, ln_W_text, ln_W_starts, ln_W_ends, ln_W_lines, ln_W_names, ln_W_values, ln_PL_jobs, ln_PL_parts, ln_FT_reached, ln_EX_jobs, ln_EX_codes, ln_CB_names, ln_CB_values, ln_M_tape, ln_M_source, ln_M_wordAt, ln_M_wordEnd, ln_M_names, ln_M_itemCount, ln_M_itemFirst, ln_M_itemWords, ln_M_itemUses, ln_M_keptAt, ln_M_keptEnd, ln_M_needCount, ln_M_axisCount, ln_M_valueCount, ln_M_needed, ln_M_axes, ln_M_values, ln_M_includes, ln_M_excludes, ln_M_pairCount, ln_M_pairName, ln_M_pairValue, ln_M_signCount, ln_M_signs, ln_M_signName, ln_M_signValue, ln_M_whose, ln_M_which, ln_M_pile, ln_M_reaches, ln_M_stepsOf, ln_M_known, ln_JB_needed, ln_JB_axes, ln_JS_used, ln_JS_stepWords, ln_PS_used, ln_PS_stepWords, ln_IN_rows, ln_EC_rows, ln_IR_names, ln_IR_values, ln_ER_names, ln_ER_values, ln_CD_kinds, ln_CD_names, ln_CD_values, ln_AX_values] <;> omega) | assumption) (by first | with_reducible assumption | exact rf_W_names H | assumption) (fun c => ?_) (fun c => ?_)
        · simp (disch := omega) only [z_0, z_1, z_2, z_3, z_4, z_5, z_6, z_7, z_8, z_9, z_10, z_12, z_13, z_20, z_21, z_25, z_56, z_350, z_31, z_32, z_36, z_48, z_57, z_61, z_97, z_100, z_122, z_125, z_126, z_144, z_255, z_700, z_1000, z_1548, nI_add, pk_mul, pk_sub, nI_clamp, nI_leI, nI_ltI, nI_eq, z_in, z_m1, z_m1b, lg_cmp_eq, z_cmp, Decidable.not_not, w_ie, w_in, w_il, w_le, w_ln, w_li, w_ir, w_lr] at c
          simp (disch := omega) only [w_in, a3, nI_clamp]
          exact kb_160_120 (tail v1 _ (by rw [if_pos (Or.inl c)]) rfl)
        · simp (disch := omega) only [z_0, z_1, z_2, z_3, z_4, z_5, z_6, z_7, z_8, z_9, z_10, z_12, z_13, z_20, z_21, z_25, z_56, z_350, z_31, z_32, z_36, z_48, z_57, z_61, z_97, z_100, z_122, z_125, z_126, z_144, z_255, z_700, z_1000, z_1548, nI_add, pk_mul, pk_sub, nI_clamp, nI_leI, nI_ltI, nI_eq, z_in, z_m1, z_m1b, lg_cmp_eq, z_cmp, Decidable.not_not, w_ie, w_in, w_il, w_le, w_ln, w_li, w_ir, w_lr] at c
          simp (disch := omega) only [w_in, a3, nI_clamp]
          refine kb_160_113 (fun c2 => kb_160_125 (tail 0 _ ?_ rfl)) (fun c2 => kb_160_120 (tail v1 _ ?_ rfl))
          · rw [lg_cmp_eq] at c2
            rw [if_neg (fun r => r.elim c (fun r => r c2))]
          · rw [lg_cmp_eq] at c2
            rw [if_pos (Or.inr c2)]
      induction n with
      | zero =>
        intro i hi h1 hq
        exact kb_160_19 (fun _ => go i hq h1 (by omega)) (fun c => (by simp (disch := omega) only [z_0, z_1, z_2, z_3, z_4, z_5, z_6, z_7, z_8, z_9, z_10, z_12, z_13, z_20, z_21, z_25, z_56, z_350, z_31, z_32, z_36, z_48, z_57, z_61, z_97, z_100, z_122, z_125, z_126, z_144, z_255, z_700, z_1000, z_1548, nI_add, pk_mul, pk_sub, nI_clamp, nI_leI, nI_ltI, nI_eq, z_in, z_m1, z_m1b, lg_cmp_eq, z_cmp, Decidable.not_not, w_ie, w_in, w_il, w_le, w_ln, w_li, w_ir, w_lr] at c; exfalso; omega))
      | succ n ih =>
        intro i hi h1 hq
        have e9 := a2 i (by omega)
        unfold eqF at hq
        refine kb_160_19 (fun c => (by simp (disch := omega) only [z_0, z_1, z_2, z_3, z_4, z_5, z_6, z_7, z_8, z_9, z_10, z_12, z_13, z_20, z_21, z_25, z_56, z_350, z_31, z_32, z_36, z_48, z_57, z_61, z_97, z_100, z_122, z_125, z_126, z_144, z_255, z_700, z_1000, z_1548, nI_add, pk_mul, pk_sub, nI_clamp, nI_leI, nI_ltI, nI_eq, z_in, z_m1, z_m1b, lg_cmp_eq, z_cmp, Decidable.not_not, w_ie, w_in, w_il, w_le, w_ln, w_li, w_ir, w_lr] at c; exfalso; omega)) (fun _ => kb_160_25 (by first | with_reducible assumption | with_reducible exact kd_W | assumption) (by first | with_reducible assumption | exact rf_W_text H | assumption) (by first | with_reducible assumption | with_reducible exact kd_W_text | assumption) (by first | with_reducible assumption | (simp (disch := omega) only [z_0, z_1, z_2, z_3, z_4, z_5, z_6, z_7, z_8, z_9, z_10, z_12, z_13, z_20, z_21, z_25, z_56, z_350, z_31, z_32, z_36, z_48, z_57, z_61, z_97, z_100, z_122, z_125, z_126, z_144, z_255, z_700, z_1000, z_1548, nI_add, pk_mul, pk_sub, nI_clamp, nI_leI, nI_ltI, nI_eq, z_in, z_m1, z_m1b, lg_cmp_eq, z_cmp, Decidable.not_not, w_ie, w_in, w_il, w_le, w_ln, w_li, w_ir, w_lr, ln_P_tape, ln_W_text, ln_W_starts, ln_W_ends, ln_W_lines, ln_W_names, ln_W_values, ln_PL_jobs, ln_PL_parts, ln_FT_reached, ln_EX_jobs, ln_EX_codes, ln_CB_names, ln_CB_values, ln_M_tape, ln_M_source, ln_M_wordAt, ln_M_wordEnd, ln_M_names, ln_M_itemCount, ln_M_itemFirst, ln_M_itemWords, ln_M_itemUses, ln_M_keptAt, ln_M_keptEnd, ln_M_needCount, ln_M_axisCount, ln_M_valueCount, ln_M_needed, ln_M_axes, ln_M_values, ln_M_includes, ln_M_excludes, ln_M_pairCount, ln_M_pairName, ln_M_pairValue, ln_M_signCount, ln_M_signs, ln_M_signName, ln_M_signValue, ln_M_whose, ln_M_which, ln_M_pile, ln_M_reaches, ln_M_stepsOf, ln_M_known, ln_JB_needed, ln_JB_axes, ln_JS_used, ln_JS_stepWords, ln_PS_used, ln_PS_stepWords, ln_IN_rows, ln_EC_rows, ln_IR_names, ln_IR_values, ln_ER_names, ln_ER_values, ln_CD_kinds, ln_CD_names, ln_CD_values, ln_AX_values] <;> omega) | assumption) (fun c => ?_) (fun c => ?_))
        · rw [nI_clamp (by omega), e9] at c
          rw [if_pos c] at hq
          exact go i hq h1 (by omega)
        · rw [nI_clamp (by omega), e9] at c
          rw [if_neg c] at hq
          refine kb_160_37 ?_
          rw [nI_1]
          exact ih (i + 1) (by omega) (by omega) hq
    exact loop (e - s) s (by omega) (by omega) rfl
  · refine kb_160_0 (fun _ => kb_160_15 ?_) (fun c => (by simp (disch := omega) only [z_0, z_1, z_2, z_3, z_4, z_5, z_6, z_7, z_8, z_9, z_10, z_12, z_13, z_20, z_21, z_25, z_56, z_350, z_31, z_32, z_36, z_48, z_57, z_61, z_97, z_100, z_122, z_125, z_126, z_144, z_255, z_700, z_1000, z_1548, nI_add, pk_mul, pk_sub, nI_clamp, nI_leI, nI_ltI, nI_eq, z_in, z_m1, z_m1b, lg_cmp_eq, z_cmp, Decidable.not_not, w_ie, w_in, w_il, w_le, w_ln, w_li, w_ir, w_lr] at c; exfalso; omega))
    have e1 : wd1 l s e = [] := if_neg (by omega)
    rw [e1, List.append_nil] at k
    exact k h hW fr.rfl'
/-- Words.cut -/
theorem s159 {d n : Nat} {h : mj_H} {Q : Option Value → mj_H → Prop} (hd : 2 ≤ d) (H : mj_RS h) (hn : n ≤ 700) (ht : ∀ i, i < n → tch (h.1 1 i)) (k : ∀ h', WW h' (h.1 1) n (ws (h.1 1) 0 0 0 n) → fr inW h h' → Q none h') : mr_C mj_KK d 159 [.ref 2, .ref 1, .int (nI n)] h Q := by
  show mr_M mj_KK d 159 0 [some (.ref 2), some (.ref 1), some (.int (nI n)), none, none, none, none, none] [] h Q
  refine kb_159_0 (by rw [kd_P_tape]; decide) (by omega) kd_W ?_
  have e7 : (if (700 : Int32) < (Int32.ofNat (mj_ln mj_KK 1)) then (700 : Int32) else Int32.ofNat (mj_ln mj_KK 1)) = nI 700 := by rw [ln_P_tape]; decide
  rw [e7, if_neg (nI_nlt hn (by omega))]
  have loop : ∀ m a (h' : mj_H) (W : List Wt) (l s : Nat), a + m = n → s ≤ a → l ≤ a → 2 * W.length ≤ s → fr inW h h' → WW h' (h.1 1) a W → W ++ ws (h.1 1) l s a m = ws (h.1 1) 0 0 0 n → mr_M mj_KK d 159 27 [some (.ref 2), some (.ref 1), none, some (.int (nI n)), some (.int (nI l)), some (.int (nI s)), some (.int (nI a)), none] [] h' Q := by
    intro m
    induction m with
    | zero =>
      intro a h' W l s ha hs hl h2 hf hW hq
      have e : a = n := by omega
      subst e
      refine kb_159_27 (fun _ => kb_159_94 (by first | with_reducible assumption | with_reducible exact kd_W | assumption) (by omega) (s160 (by omega) (hf.rs H) hW (by omega) (by omega) (by omega) (fun _ => by omega) (fun h2 hW2 hf2 => kb_159_103 (k h2 ?_ (hf.trans hf2))))) (fun c => (by simp (disch := omega) only [z_0, z_1, z_2, z_3, z_4, z_5, z_6, z_7, z_8, z_9, z_10, z_12, z_13, z_20, z_21, z_25, z_56, z_350, z_31, z_32, z_36, z_48, z_57, z_61, z_97, z_100, z_122, z_125, z_126, z_144, z_255, z_700, z_1000, z_1548, nI_add, pk_mul, pk_sub, nI_clamp, nI_leI, nI_ltI, nI_eq, z_in, z_m1, z_m1b, lg_cmp_eq, z_cmp, Decidable.not_not, w_ie, w_in, w_il, w_le, w_ln, w_li, w_ir, w_lr] at c; exfalso; omega))
      rw [ws_0] at hq
      rw [hq] at hW2
      exact hW2
    | succ m ih =>
      intro a h' W l s ha hs hl h2 hf hW hq
      have eX : h'.1 1 a = h.1 1 a := hf.n (by unfold inW; omega)
      have tX := ht a (by omega)
      have H' := hf.rs H
      have hW1 := hW.more (by omega) tX
      have hf1 : fr inW h (mj_w h' 3 a (.int (vp_nar .char (h.1 1 a)))) := hf.wi (by unfold inW; omega)
      have sep : ∀ l2 : Nat, l2 ≤ a + 1 → W ++ (wd1 l s a ++ ws (h.1 1) l2 (a + 1) (a + 1) m) = ws (h.1 1) 0 0 0 n → (∀ h2, mr_M mj_KK d 159 27 [some (.ref 2), some (.ref 1), none, some (.int (nI n)), some (.int (nI l2)), some (.int (nI (a + 1))), some (.int (nI (a + 1))), none] [] h2 Q → mr_M mj_KK d 159 72 [some (.ref 2), some (.ref 1), none, some (.int (nI n)), some (.int (nI l)), none, some (.int (nI a)), some (.int (h.1 1 a))] [] h2 Q) → mr_M mj_KK d 159 62 [some (.ref 2), some (.ref 1), none, some (.int (nI n)), some (.int (nI l)), some (.int (nI s)), some (.int (nI a)), some (.int (h.1 1 a))] [] (mj_w h' 3 a (.int (vp_nar .char (h.1 1 a)))) Q := by
        intro l2 hl2 hq2 hk
        refine kb_159_62 (by first | with_reducible assumption | with_reducible exact kd_W | assumption) (by omega) (s160 (by omega) (hf1.rs H) hW1 (by omega) (by omega) (by omega) (fun _ => by omega) (fun h3 hW3 hf3 => hk h3 (ih (a + 1) h3 (W ++ wd1 l s a) l2 (a + 1) (by omega) (by omega) (by omega) ?_ (hf1.trans hf3) hW3 (by rw [List.append_assoc]; exact hq2))))
        rw [List.length_append]
        unfold wd1
        split
        · show 2 * (W.length + 1) ≤ a + 1
          omega
        · show 2 * (W.length + 0) ≤ a + 1
          omega
      rw [ws_s] at hq
      have H := H'
      refine kb_159_27 (fun c => (by simp (disch := omega) only [z_0, z_1, z_2, z_3, z_4, z_5, z_6, z_7, z_8, z_9, z_10, z_12, z_13, z_20, z_21, z_25, z_56, z_350, z_31, z_32, z_36, z_48, z_57, z_61, z_97, z_100, z_122, z_125, z_126, z_144, z_255, z_700, z_1000, z_1548, nI_add, pk_mul, pk_sub, nI_clamp, nI_leI, nI_ltI, nI_eq, z_in, z_m1, z_m1b, lg_cmp_eq, z_cmp, Decidable.not_not, w_ie, w_in, w_il, w_le, w_ln, w_li, w_ir, w_lr] at c; exfalso; omega)) (fun _ => kb_159_33 (by first | with_reducible assumption | with_reducible exact kd_P_tape | with_reducible exact kd_W_text | assumption) (by first | with_reducible assumption | (simp (disch := omega) only [z_0, z_1, z_2, z_3, z_4, z_5, z_6, z_7, z_8, z_9, z_10, z_12, z_13, z_20, z_21, z_25, z_56, z_350, z_31, z_32, z_36, z_48, z_57, z_61, z_97, z_100, z_122, z_125, z_126, z_144, z_255, z_700, z_1000, z_1548, nI_add, pk_mul, pk_sub, nI_clamp, nI_leI, nI_ltI, nI_eq, z_in, z_m1, z_m1b, lg_cmp_eq, z_cmp, Decidable.not_not, w_ie, w_in, w_il, w_le, w_ln, w_li, w_ir, w_lr, ln_P_tape, ln_W_text, ln_W_starts, ln_W_ends, ln_W_lines, ln_W_names, ln_W_values, ln_PL_jobs, ln_PL_parts, ln_FT_reached, ln_EX_jobs, ln_EX_codes, ln_CB_names, ln_CB_values, ln_M_tape, ln_M_source, ln_M_wordAt, ln_M_wordEnd, ln_M_names, ln_M_itemCount, ln_M_itemFirst, ln_M_itemWords, ln_M_itemUses, ln_M_keptAt, ln_M_keptEnd, ln_M_needCount, ln_M_axisCount, ln_M_valueCount, ln_M_needed, ln_M_axes, ln_M_values, ln_M_includes, ln_M_excludes, ln_M_pairCount, ln_M_pairName, ln_M_pairValue, ln_M_signCount, ln_M_signs, ln_M_signName, ln_M_signValue, ln_M_whose, ln_M_which, ln_M_pile, ln_M_reaches, ln_M_stepsOf, ln_M_known, ln_JB_needed, ln_JB_axes, ln_JS_used, ln_JS_stepWords, ln_PS_used, ln_PS_stepWords, ln_IN_rows, ln_EC_rows, ln_IR_names, ln_IR_values, ln_ER_names, ln_ER_values, ln_CD_kinds, ln_CD_names, ln_CD_values, ln_AX_values] <;> omega) | assumption) (by first | with_reducible assumption | with_reducible exact kd_W | assumption) (by first | with_reducible assumption | exact rf_W_text H | assumption) (by first | with_reducible assumption | with_reducible exact kd_W_text | assumption) (by first | with_reducible assumption | (simp (disch := omega) only [z_0, z_1, z_2, z_3, z_4, z_5, z_6, z_7, z_8, z_9, z_10, z_12, z_13, z_20, z_21, z_25, z_56, z_350, z_31, z_32, z_36, z_48, z_57, z_61, z_97, z_100, z_122, z_125, z_126, z_144, z_255, z_700, z_1000, z_1548, nI_add, pk_mul, pk_sub, nI_clamp, nI_leI, nI_ltI, nI_eq, z_in, z_m1, z_m1b, lg_cmp_eq, z_cmp, Decidable.not_not, w_ie, w_in, w_il, w_le, w_ln, w_li, w_ir, w_lr, ln_P_tape, ln_W_text, ln_W_starts, ln_W_ends, ln_W_lines, ln_W_names, ln_W_values, ln_PL_jobs, ln_PL_parts, ln_FT_reached, ln_EX_jobs, ln_EX_codes, ln_CB_names, ln_CB_values, ln_M_tape, ln_M_source, ln_M_wordAt, ln_M_wordEnd, ln_M_names, ln_M_itemCount, ln_M_itemFirst, ln_M_itemWords, ln_M_itemUses, ln_M_keptAt, ln_M_keptEnd, ln_M_needCount, ln_M_axisCount, ln_M_valueCount, ln_M_needed, ln_M_axes, ln_M_values, ln_M_includes, ln_M_excludes, ln_M_pairCount, ln_M_pairName, ln_M_pairValue, ln_M_signCount, ln_M_signs, ln_M_signName, ln_M_signValue, ln_M_whose, ln_M_which, ln_M_pile, ln_M_reaches, ln_M_stepsOf, ln_M_known, ln_JB_needed, ln_JB_axes, ln_JS_used, ln_JS_stepWords, ln_PS_used, ln_PS_stepWords, ln_IN_rows, ln_EC_rows, ln_IR_names, ln_IR_values, ln_ER_names, ln_ER_values, ln_CD_kinds, ln_CD_names, ln_CD_values, ln_AX_values] <;> omega) | assumption) (fun c => ?_) (fun c => ?_))
      · rw [nI_clamp (by omega), eX] at c ⊢
        rw [if_pos c] at hq
        refine sep l (by omega) hq (fun h2 k2 => kb_159_72 (kb_159_78 (fun _ => kb_159_88 ?_) (fun c2 => absurd (by rw [c]; decide) c2)))
        rw [nI_1]
        exact k2
      · rw [nI_clamp (by omega), eX] at c ⊢
        rw [if_neg c] at hq
        refine kb_159_55 (fun c2 => ?_) (fun c2 => ?_)
        · rw [if_neg c2] at hq
          refine kb_159_78 (fun _ => kb_159_88 ?_) (fun c3 => absurd c2 c3)
          rw [nI_1]
          exact ih (a + 1) _ W l s (by omega) (by omega) (by omega) h2 hf1 hW1 hq
        · rw [Decidable.not_not] at c2
          rw [if_pos c2] at hq
          refine sep (l + 1) (by omega) hq (fun h2 k2 => kb_159_72 (kb_159_78 (fun c3 => absurd c2 c3) (fun _ => kb_159_85 (kb_159_88 ?_))))
          rw [nI_1, nI_1]
          exact k2
  refine loop n 0 _ [] 0 0 (by omega) (by omega) (by omega) (by decide) (fr.rfl'.wi (by unfold inW; omega)) ⟨by omega, fun i hi => absurd hi (Nat.not_lt_zero i), by simp (disch := omega) only [z_0, z_1, z_2, z_3, z_4, z_5, z_6, z_7, z_8, z_9, z_10, z_12, z_13, z_20, z_21, z_25, z_56, z_350, z_31, z_32, z_36, z_48, z_57, z_61, z_97, z_100, z_122, z_125, z_126, z_144, z_255, z_700, z_1000, z_1548, nI_add, pk_mul, pk_sub, nI_clamp, nI_leI, nI_ltI, nI_eq, z_in, z_m1, z_m1b, lg_cmp_eq, z_cmp, Decidable.not_not, w_ie, w_in, w_il, w_le, w_ln, w_li, w_ir, w_lr]; rfl, by decide, fun w hw => absurd hw (Nat.not_lt_zero w)⟩ rfl
