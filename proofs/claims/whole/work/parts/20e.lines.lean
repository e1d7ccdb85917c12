-- ===== the class's sections, needs, axes, rows of pairs =====
abbrev It : Type := Int64 × Nat × Nat
abbrev Sc : Type := Int64 × List It
abbrev Sg : Type := Nat × Int64 × Int64
abbrev Jr : Type := List Int64 × List (Int64 × List Int64) × List Pp × List Pp × List Sg × List Sg
def ups {α : Type} (f : Nat → α) : Nat → Nat → List α
  | _, 0 => []
  | a, n + 1 => f a :: ups f (a + 1) n
theorem ups_s {α : Type} {f : Nat → α} {a n : Nat} : ups f a (n + 1) = f a :: ups f (a + 1) n := rfl
theorem ups_len {α : Type} {f : Nat → α} {a n : Nat} : (ups f a n).length = n := by
  induction n generalizing a with
  | zero => rfl
  | succ n ih =>
    rw [ups_s, List.length_cons, ih]
def isS (s : Nat) : Prop := mj_kd mj_KK s = 4 ∧ mj_kd mj_KK (s + 1) = 101 ∧ mj_ln mj_KK (s + 1) = 8 ∧ mj_kd mj_KK (s + 2) = 100 ∧ mj_ln mj_KK (s + 2) = 8 ∧ ((s, 1, s + 1) : Nat × Nat × Nat) ∈ mj_refs ∧ ((s, 2, s + 2) : Nat × Nat × Nat) ∈ mj_refs
theorem isS_JS {j : Nat} (hj : j < 12) : isS (13 + 44 * j) := by
  have e : 13 + 44 * j + 1 = 14 + 44 * j := by omega
  have e2 : 13 + 44 * j + 2 = 15 + 44 * j := by omega
  unfold isS
  rw [e, e2]
  exact ⟨kd_JS j hj, kd_JS_used j hj, ln_JS_used j hj, kd_JS_stepWords j hj, ln_JS_stepWords j hj, rm_JS_used j hj, rm_JS_stepWords j hj⟩
theorem isS_PS {j : Nat} (hj : j < 8) : isS (540 + 3 * j) := by
  have e : 540 + 3 * j + 1 = 541 + 3 * j := by omega
  have e2 : 540 + 3 * j + 2 = 542 + 3 * j := by omega
  unfold isS
  rw [e, e2]
  exact ⟨kd_PS j hj, kd_PS_used j hj, ln_PS_used j hj, kd_PS_stepWords j hj, ln_PS_stepWords j hj, rm_PS_used j hj, rm_PS_stepWords j hj⟩
def ItC (h : mj_H) (s i : Nat) (t : It) : Prop := h.2.1 (s + 1) i = t.1 ∧ (t.1 = 0 → h.1 (s + 2) i = nI t.2.1)
def ScC (h : mj_H) (s : Nat) (S : Sc) : Prop := h.2.1 s 0 = S.1 ∧ h.1 s 3 = nI S.2.length ∧ S.2.length ≤ 8 ∧ ∀ i, i < S.2.length → ItC h s i (S.2.getD i (0, 0, 0))
theorem ScC.fr {P : Nat → Nat → Prop} {h h' : mj_H} {s : Nat} {S : Sc} (A : ScC h s S) (f : fr P h h') (m : ¬ P s 0 ∧ ¬ P s 3 ∧ ∀ i, ¬ P (s + 1) i ∧ ¬ P (s + 2) i) : ScC h' s S := ⟨(f.l m.1).trans A.1, (f.n m.2.1).trans A.2.1, A.2.2.1, fun i hi => ⟨(f.l (m.2.2 i).1).trans (A.2.2.2 i hi).1, fun q => (f.n (m.2.2 i).2).trans ((A.2.2.2 i hi).2 q)⟩⟩
def inS (s : Nat) : Nat → Nat → Prop := fun a i => (a = s ∧ i = 3) ∨ a = s + 1 ∨ a = s + 2
/-- Section.add -/
theorem s157 {d s : Nat} {h : mj_H} {Q : Option Value → mj_H → Prop} {S : Sc} {t : It} {x : Int32} (hs : isS s) (H : mj_RS h) (hS : ScC h s S) (hx : t.1 = 0 → x = nI t.2.1) (k0 : ¬ S.2.length < 8 → Q (some (.int 0)) h) (k1 : S.2.length < 8 → ∀ h', ScC h' s (S.1, S.2 ++ [t]) → fr (inS s) h h' → Q (some (.int 1)) h') : mr_C mj_KK d 157 [.ref s, .long t.1, .int x] h Q := by
  show mr_M mj_KK d 157 0 [some (.ref s), some (.long t.1), none, some (.int x)] [] h Q
  obtain ⟨a1, a2, a3, a4, a5, a6, a7⟩ := hs
  have a8 : h.2.2 s 1 = some (s + 1) := H _ a6
  have a9 : h.2.2 s 2 = some (s + 2) := H _ a7
  obtain ⟨x1, x2, x3, x4⟩ := hS
  refine kb_157_0 (by first | with_reducible assumption | with_reducible exact kd_JS _ (by omega) | with_reducible exact kd_PS _ (by omega) | assumption) (fun c => ?_) (fun c => kb_157_9 (k0 ?_))
  · simp (disch := omega) only [z_0, z_1, z_2, z_3, z_4, z_5, z_6, z_7, z_8, z_9, z_10, z_12, z_13, z_20, z_21, z_25, z_56, z_350, z_31, z_32, z_36, z_48, z_57, z_61, z_97, z_100, z_122, z_125, z_126, z_144, z_255, z_700, z_1000, z_1548, nI_add, pk_mul, pk_sub, nI_clamp, nI_leI, nI_ltI, nI_eq, z_in, z_m1, z_m1b, lg_cmp_eq, z_cmp, Decidable.not_not, w_ie, w_in, w_il, w_le, w_ln, w_li, w_ir, w_lr, x2] at c
    refine kb_157_11 (by first | with_reducible assumption | with_reducible exact kd_JS _ (by omega) | with_reducible exact kd_PS _ (by omega) | assumption) (by first | with_reducible assumption | exact rf_JS_used H (by omega) | exact rf_PS_used H (by omega) | assumption) (by first | with_reducible assumption | with_reducible exact kd_JS_used _ (by omega) | with_reducible exact kd_PS_used _ (by omega) | assumption) (by first | with_reducible assumption | (simp (disch := omega) only [z_0, z_1, z_2, z_3, z_4, z_5, z_6, z_7, z_8, z_9, z_10, z_12, z_13, z_20, z_21, z_25, z_56, z_350, z_31, z_32, z_36, z_48, z_57, z_61, z_97, z_100, z_122, z_125, z_126, z_144, z_255, z_700, z_1000, z_1548, nI_add, pk_mul, pk_sub, nI_clamp, nI_leI, nI_ltI, nI_eq, z_in, z_m1, z_m1b, lg_cmp_eq, z_cmp, Decidable.not_not, w_ie, w_in, w_il, w_le, w_ln, w_li, w_ir, w_lr, x2, a3, a5, ln_P_tape, ln_W_text, ln_W_starts, ln_W_ends, ln_W_lines, ln_W_names, ln_W_values, ln_PL_jobs, ln_PL_parts, ln_FT_reached, ln_EX_jobs, ln_EX_codes, ln_CB_names, ln_CB_values, ln_M_tape, ln_M_source, ln_M_wordAt, ln_M_wordEnd, ln_M_names, ln_M_itemCount, ln_M_itemFirst, ln_M_itemWords, ln_M_itemUses, ln_M_keptAt, ln_M_keptEnd, ln_M_needCount, ln_M_axisCount, ln_M_valueCount, ln_M_needed, ln_M_axes, ln_M_values, ln_M_includes, ln_M_excludes, ln_M_pairCount, ln_M_pairName, ln_M_pairValue, ln_M_signCount, ln_M_signs, ln_M_signName, ln_M_signValue, ln_M_whose, ln_M_which, ln_M_pile, ln_M_reaches, ln_M_stepsOf, ln_M_known, ln_JB_needed, ln_JB_axes, ln_JS_used, ln_JS_stepWords, ln_PS_used, ln_PS_stepWords, ln_IN_rows, ln_EC_rows, ln_IR_names, ln_IR_values, ln_ER_names, ln_ER_values, ln_CD_kinds, ln_CD_names, ln_CD_values, ln_AX_values] <;> omega) | assumption) (by first | with_reducible assumption | exact rf_JS_stepWords H (by omega) | exact rf_PS_stepWords H (by omega) | assumption) (by first | with_reducible assumption | with_reducible exact kd_JS_stepWords _ (by omega) | with_reducible exact kd_PS_stepWords _ (by omega) | assumption) (by first | with_reducible assumption | (simp (disch := omega) only [z_0, z_1, z_2, z_3, z_4, z_5, z_6, z_7, z_8, z_9, z_10, z_12, z_13, z_20, z_21, z_25, z_56, z_350, z_31, z_32, z_36, z_48, z_57, z_61, z_97, z_100, z_122, z_125, z_126, z_144, z_255, z_700, z_1000, z_1548, nI_add, pk_mul, pk_sub, nI_clamp, nI_leI, nI_ltI, nI_eq, z_in, z_m1, z_m1b, lg_cmp_eq, z_cmp, Decidable.not_not, w_ie, w_in, w_il, w_le, w_ln, w_li, w_ir, w_lr, x2, a3, a5, ln_P_tape, ln_W_text, ln_W_starts, ln_W_ends, ln_W_lines, ln_W_names, ln_W_values, ln_PL_jobs, ln_PL_parts, ln_FT_reached, ln_EX_jobs, ln_EX_codes, ln_CB_names, ln_CB_values, ln_M_tape, ln_M_source, ln_M_wordAt, ln_M_wordEnd, ln_M_names, ln_M_itemCount, ln_M_itemFirst, ln_M_itemWords, ln_M_itemUses, ln_M_keptAt, ln_M_keptEnd, ln_M_needCount, ln_M_axisCount, ln_M_valueCount, ln_M_needed, ln_M_axes, ln_M_values, ln_M_includes, ln_M_excludes, ln_M_pairCount, ln_M_pairName, ln_M_pairValue, ln_M_signCount, ln_M_signs, ln_M_signName, ln_M_signValue, ln_M_whose, ln_M_which, ln_M_pile, ln_M_reaches, ln_M_stepsOf, ln_M_known, ln_JB_needed, ln_JB_axes, ln_JS_used, ln_JS_stepWords, ln_PS_used, ln_PS_stepWords, ln_IN_rows, ln_EC_rows, ln_IR_names, ln_IR_values, ln_ER_names, ln_ER_values, ln_CD_kinds, ln_CD_names, ln_CD_values, ln_AX_values] <;> omega) | assumption) ?_
    simp (disch := omega) only [z_0, z_1, z_2, z_3, z_4, z_5, z_6, z_7, z_8, z_9, z_10, z_12, z_13, z_20, z_21, z_25, z_56, z_350, z_31, z_32, z_36, z_48, z_57, z_61, z_97, z_100, z_122, z_125, z_126, z_144, z_255, z_700, z_1000, z_1548, nI_add, pk_mul, pk_sub, nI_clamp, nI_leI, nI_ltI, nI_eq, z_in, z_m1, z_m1b, lg_cmp_eq, z_cmp, Decidable.not_not, w_ie, w_in, w_il, w_le, w_ln, w_li, w_ir, w_lr, x2]
    refine k1 c _ ⟨?_, ?_, ?_, fun i hi => ?_⟩ (((fr.rfl'.wl (Or.inr (Or.inl rfl))).wi (Or.inr (Or.inr rfl))).wi (Or.inl ⟨rfl, rfl⟩))
    · simp (disch := omega) only [z_0, z_1, z_2, z_3, z_4, z_5, z_6, z_7, z_8, z_9, z_10, z_12, z_13, z_20, z_21, z_25, z_56, z_350, z_31, z_32, z_36, z_48, z_57, z_61, z_97, z_100, z_122, z_125, z_126, z_144, z_255, z_700, z_1000, z_1548, nI_add, pk_mul, pk_sub, nI_clamp, nI_leI, nI_ltI, nI_eq, z_in, z_m1, z_m1b, lg_cmp_eq, z_cmp, Decidable.not_not, w_ie, w_in, w_il, w_le, w_ln, w_li, w_ir, w_lr]
      exact x1
    · rw [List.length_append]
      simp (disch := omega) only [z_0, z_1, z_2, z_3, z_4, z_5, z_6, z_7, z_8, z_9, z_10, z_12, z_13, z_20, z_21, z_25, z_56, z_350, z_31, z_32, z_36, z_48, z_57, z_61, z_97, z_100, z_122, z_125, z_126, z_144, z_255, z_700, z_1000, z_1548, nI_add, pk_mul, pk_sub, nI_clamp, nI_leI, nI_ltI, nI_eq, z_in, z_m1, z_m1b, lg_cmp_eq, z_cmp, Decidable.not_not, w_ie, w_in, w_il, w_le, w_ln, w_li, w_ir, w_lr]
      rfl
    · rw [List.length_append]
      exact c
    · rw [List.length_append] at hi
      have hi : i < S.2.length + 1 := hi
      unfold ItC
      rcases Nat.lt_or_ge i S.2.length with q | q
      · rw [getD_app_l q]
        simp (disch := omega) only [z_0, z_1, z_2, z_3, z_4, z_5, z_6, z_7, z_8, z_9, z_10, z_12, z_13, z_20, z_21, z_25, z_56, z_350, z_31, z_32, z_36, z_48, z_57, z_61, z_97, z_100, z_122, z_125, z_126, z_144, z_255, z_700, z_1000, z_1548, nI_add, pk_mul, pk_sub, nI_clamp, nI_leI, nI_ltI, nI_eq, z_in, z_m1, z_m1b, lg_cmp_eq, z_cmp, Decidable.not_not, w_ie, w_in, w_il, w_le, w_ln, w_li, w_ir, w_lr]
        exact x4 i q
      · have e : i = S.2.length := by omega
        subst e
        rw [getD_app_e]
        simp (disch := omega) only [z_0, z_1, z_2, z_3, z_4, z_5, z_6, z_7, z_8, z_9, z_10, z_12, z_13, z_20, z_21, z_25, z_56, z_350, z_31, z_32, z_36, z_48, z_57, z_61, z_97, z_100, z_122, z_125, z_126, z_144, z_255, z_700, z_1000, z_1548, nI_add, pk_mul, pk_sub, nI_clamp, nI_leI, nI_ltI, nI_eq, z_in, z_m1, z_m1b, lg_cmp_eq, z_cmp, Decidable.not_not, w_ie, w_in, w_il, w_le, w_ln, w_li, w_ir, w_lr]
        exact ⟨trivial, hx⟩
  · simp (disch := omega) only [z_0, z_1, z_2, z_3, z_4, z_5, z_6, z_7, z_8, z_9, z_10, z_12, z_13, z_20, z_21, z_25, z_56, z_350, z_31, z_32, z_36, z_48, z_57, z_61, z_97, z_100, z_122, z_125, z_126, z_144, z_255, z_700, z_1000, z_1548, nI_add, pk_mul, pk_sub, nI_clamp, nI_leI, nI_ltI, nI_eq, z_in, z_m1, z_m1b, lg_cmp_eq, z_cmp, Decidable.not_not, w_ie, w_in, w_il, w_le, w_ln, w_li, w_ir, w_lr, x2] at c
    exact c
/-- Section.addStep -/
theorem s155 {d s f n : Nat} {h : mj_H} {Q : Option Value → mj_H → Prop} {S : Sc} (hd : 1 ≤ d) (hs : isS s) (hf : f + n ≤ 1000) (H : mj_RS h) (hS : ScC h s S) (k0 : (n = 0 ∨ 6 < n ∨ ¬ S.2.length < 8) → Q (some (.int 0)) h) (k1 : 0 < n → n ≤ 6 → S.2.length < 8 → ∀ h', ScC h' s (S.1, S.2 ++ [(0, f, n)]) → fr (inS s) h h' → Q (some (.int 1)) h') : mr_C mj_KK d 155 [.ref s, .int (nI f), .int (nI (f + n))] h Q := by
  show mr_M mj_KK d 155 0 [some (.ref s), some (.int (nI f)), some (.int (nI (f + n)))] [] h Q
  have a1 := hs.1
  refine kb_155_0 (fun c => kb_155_26 (kb_155_27 (by first | assumption | exact b2i_01 _ | exact Or.inl rfl | exact Or.inr rfl) (k0 ?_))) (fun c => ?_)
  · simp (disch := omega) only [z_0, z_1, z_2, z_3, z_4, z_5, z_6, z_7, z_8, z_9, z_10, z_12, z_13, z_20, z_21, z_25, z_56, z_350, z_31, z_32, z_36, z_48, z_57, z_61, z_97, z_100, z_122, z_125, z_126, z_144, z_255, z_700, z_1000, z_1548, nI_add, pk_mul, pk_sub, nI_clamp, nI_leI, nI_ltI, nI_eq, z_in, z_m1, z_m1b, lg_cmp_eq, z_cmp, Decidable.not_not, w_ie, w_in, w_il, w_le, w_ln, w_li, w_ir, w_lr] at c
    omega
  simp (disch := omega) only [z_0, z_1, z_2, z_3, z_4, z_5, z_6, z_7, z_8, z_9, z_10, z_12, z_13, z_20, z_21, z_25, z_56, z_350, z_31, z_32, z_36, z_48, z_57, z_61, z_97, z_100, z_122, z_125, z_126, z_144, z_255, z_700, z_1000, z_1548, nI_add, pk_mul, pk_sub, nI_clamp, nI_leI, nI_ltI, nI_eq, z_in, z_m1, z_m1b, lg_cmp_eq, z_cmp, Decidable.not_not, w_ie, w_in, w_il, w_le, w_ln, w_li, w_ir, w_lr] at c
  refine kb_155_5 (fun c => kb_155_26 (kb_155_27 (by first | assumption | exact b2i_01 _ | exact Or.inl rfl | exact Or.inr rfl) (k0 ?_))) (fun c => ?_)
  · simp (disch := omega) only [z_0, z_1, z_2, z_3, z_4, z_5, z_6, z_7, z_8, z_9, z_10, z_12, z_13, z_20, z_21, z_25, z_56, z_350, z_31, z_32, z_36, z_48, z_57, z_61, z_97, z_100, z_122, z_125, z_126, z_144, z_255, z_700, z_1000, z_1548, nI_add, pk_mul, pk_sub, nI_clamp, nI_leI, nI_ltI, nI_eq, z_in, z_m1, z_m1b, lg_cmp_eq, z_cmp, Decidable.not_not, w_ie, w_in, w_il, w_le, w_ln, w_li, w_ir, w_lr] at c
    omega
  simp (disch := omega) only [z_0, z_1, z_2, z_3, z_4, z_5, z_6, z_7, z_8, z_9, z_10, z_12, z_13, z_20, z_21, z_25, z_56, z_350, z_31, z_32, z_36, z_48, z_57, z_61, z_97, z_100, z_122, z_125, z_126, z_144, z_255, z_700, z_1000, z_1548, nI_add, pk_mul, pk_sub, nI_clamp, nI_leI, nI_ltI, nI_eq, z_in, z_m1, z_m1b, lg_cmp_eq, z_cmp, Decidable.not_not, w_ie, w_in, w_il, w_le, w_ln, w_li, w_ir, w_lr] at c
  refine kb_155_13 (by first | with_reducible assumption | with_reducible exact kd_JS _ (by omega) | with_reducible exact kd_PS _ (by omega) | assumption) (by omega) (s157 (t := (0, f, n)) hs H hS (fun _ => rfl) (fun q => ?_) (fun q h' g1 g2 => ?_))
  · exact kb_155_19 (fun _ => kb_155_26 (kb_155_27 (by first | assumption | exact b2i_01 _ | exact Or.inl rfl | exact Or.inr rfl) (k0 (Or.inr (Or.inr q))))) (fun c => absurd rfl c)
  · exact kb_155_19 (fun c => absurd c (by decide)) (fun _ => kb_155_22 (kb_155_27 (by first | assumption | exact b2i_01 _ | exact Or.inl rfl | exact Or.inr rfl) (k1 (by omega) (by omega) q h' g1 g2)))
/-- Section.addUse -/
theorem s156 {d s : Nat} {h : mj_H} {Q : Option Value → mj_H → Prop} {S : Sc} {y : Int64} {a b : Nat} (hd : 1 ≤ d) (hs : isS s) (H : mj_RS h) (hS : ScC h s S) (k0 : (y = 0 ∨ ¬ S.2.length < 8) → Q (some (.int 0)) h) (k1 : ¬ y = 0 → S.2.length < 8 → ∀ h', ScC h' s (S.1, S.2 ++ [(y, a, b)]) → fr (inS s) h h' → Q (some (.int 1)) h') : mr_C mj_KK d 156 [.ref s, .long y] h Q := by
  show mr_M mj_KK d 156 0 [some (.ref s), some (.long y), none] [] h Q
  have a1 := hs.1
  refine kb_156_0 (fun c => kb_156_19 (kb_156_20 (by first | assumption | exact b2i_01 _ | exact Or.inl rfl | exact Or.inr rfl) (k0 ?_))) (fun c => ?_)
  · rw [lg_cmp_eq] at c
    exact Or.inl c
  rw [lg_cmp_eq] at c
  refine kb_156_6 (by first | with_reducible assumption | with_reducible exact kd_JS _ (by omega) | with_reducible exact kd_PS _ (by omega) | assumption) (by omega) (s157 (t := (y, a, b)) hs H hS (fun q => absurd q c) (fun q => ?_) (fun q h' g1 g2 => ?_))
  · exact kb_156_12 (fun _ => kb_156_19 (kb_156_20 (by first | assumption | exact b2i_01 _ | exact Or.inl rfl | exact Or.inr rfl) (k0 (Or.inr q)))) (fun c => absurd rfl c)
  · exact kb_156_12 (fun c => absurd c (by decide)) (fun _ => kb_156_15 (kb_156_20 (by first | assumption | exact b2i_01 _ | exact Or.inl rfl | exact Or.inr rfl) (k1 c q h' g1 g2)))
def NdC (h : mj_H) (j : Nat) (ns : List Int64) : Prop := h.1 (12 + 44 * j) 2 = nI ns.length ∧ ns.length ≤ 6 ∧ Lh h (16 + 44 * j) 0 ns
def AsC (h : mj_H) (j : Nat) (as : List (Int64 × List Int64)) : Prop := h.1 (12 + 44 * j) 4 = nI as.length ∧ as.length ≤ 3 ∧ ∀ a, a < as.length → AxC h (50 + 44 * j + 2 * a) (as.getD a (0, []))
def RwC (h : mj_H) (q : Nat) (rs : List Pp) : Prop := h.1 q 1 = nI rs.length ∧ rs.length ≤ 4 ∧ ∀ r, r < rs.length → PrC h (q + 2 + 3 * r) (rs.getD r [])
def CdC (h : mj_H) (c : Nat) (p : List Sg) : Prop := h.1 c 3 = nI p.length ∧ p.length ≤ 20 ∧ ∀ i, i < p.length → h.1 (c + 1) i = nI (p.getD i (0, 0, 0)).1 ∧ h.2.1 (c + 2) i = (p.getD i (0, 0, 0)).2.1 ∧ h.2.1 (c + 3) i = (p.getD i (0, 0, 0)).2.2
def JrC (h : mj_H) (j : Nat) (J : Jr) : Prop := NdC h j J.1 ∧ AsC h j J.2.1 ∧ RwC h (18 + 44 * j) J.2.2.1 ∧ RwC h (32 + 44 * j) J.2.2.2.1 ∧ CdC h (46 + 44 * j) J.2.2.2.2.2
theorem NdC.fr {P : Nat → Nat → Prop} {h h' : mj_H} {j : Nat} {x : List Int64} (A : NdC h j x) (f : fr P h h') (m : ¬ P (12 + 44 * j) 2 ∧ ∀ i, ¬ P (16 + 44 * j) i) : NdC h' j x := ⟨(f.n m.1).trans A.1, A.2.1, A.2.2.fr f (fun i _ => m.2 _)⟩
theorem AsC.fr {P : Nat → Nat → Prop} {h h' : mj_H} {j : Nat} {x : List (Int64 × List Int64)} (A : AsC h j x) (f : fr P h h') (m : ¬ P (12 + 44 * j) 4 ∧ ∀ a i, a < x.length → ¬ P (50 + 44 * j + 2 * a) i ∧ ¬ P (50 + 44 * j + 2 * a + 1) i) : AsC h' j x := ⟨(f.n m.1).trans A.1, A.2.1, fun a ha => (A.2.2 a ha).fr f (fun i => m.2 a i ha)⟩
theorem RwC.fr {P : Nat → Nat → Prop} {h h' : mj_H} {q : Nat} {x : List Pp} (A : RwC h q x) (f : fr P h h') (m : ¬ P q 1 ∧ ∀ r i, r < x.length → ¬ P (q + 2 + 3 * r) i ∧ ¬ P (q + 2 + 3 * r + 1) i ∧ ¬ P (q + 2 + 3 * r + 2) i) : RwC h' q x := ⟨(f.n m.1).trans A.1, A.2.1, fun r hr => (A.2.2 r hr).fr f (fun i => m.2 r i hr)⟩
theorem CdC.fr {P : Nat → Nat → Prop} {h h' : mj_H} {c : Nat} {x : List Sg} (A : CdC h c x) (f : fr P h h') (m : ¬ P c 3 ∧ ∀ i, ¬ P (c + 1) i ∧ ¬ P (c + 2) i ∧ ¬ P (c + 3) i) : CdC h' c x := ⟨(f.n m.1).trans A.1, A.2.1, fun i hi => ⟨(f.n (m.2 i).1).trans (A.2.2 i hi).1, (f.l (m.2 i).2.1).trans (A.2.2 i hi).2.1, (f.l (m.2 i).2.2).trans (A.2.2 i hi).2.2⟩⟩
theorem JrC.fr {P : Nat → Nat → Prop} {h h' : mj_H} {j : Nat} {x : Jr} (A : JrC h j x) (f : fr P h h') (m : ∀ a i, 12 + 44 * j ≤ a → a < 56 + 44 * j → ¬ P a i) : JrC h' j x := by
  obtain ⟨a1, a2, a3, a4, a5⟩ := A
  have l2 := a2.2.1
  have l3 := a3.2.1
  have l4 := a4.2.1
  refine ⟨a1.fr f ⟨m _ _ (by omega) (by omega), fun i => m _ _ (by omega) (by omega)⟩, a2.fr f ⟨m _ _ (by omega) (by omega), fun a i ha => ⟨m _ _ (by omega) (by omega), m _ _ (by omega) (by omega)⟩⟩, a3.fr f ⟨m _ _ (by omega) (by omega), fun a i ha => ⟨m _ _ (by omega) (by omega), m _ _ (by omega) (by omega), m _ _ (by omega) (by omega)⟩⟩, a4.fr f ⟨m _ _ (by omega) (by omega), fun a i ha => ⟨m _ _ (by omega) (by omega), m _ _ (by omega) (by omega), m _ _ (by omega) (by omega)⟩⟩, a5.fr f ⟨m _ _ (by omega) (by omega), fun i => ⟨m _ _ (by omega) (by omega), m _ _ (by omega) (by omega), m _ _ (by omega) (by omega)⟩⟩⟩
/-- the NEEDS after a line's names -/
def ndF : List Int64 → List Int64 → Option (List Int64)
  | ns, [] => some ns
  | ns, y :: r => if y = 0 ∨ ¬ ns.length < 6 ∨ y ∈ ns then none else ndF (ns ++ [y]) r
theorem ndF_s {ns r : List Int64} {y : Int64} : ndF ns (y :: r) = if y = 0 ∨ ¬ ns.length < 6 ∨ y ∈ ns then none else ndF (ns ++ [y]) r := rfl
def inN (j : Nat) : Nat → Nat → Prop := fun a i => (a = 12 + 44 * j ∧ i = 2) ∨ a = 16 + 44 * j
/-- the names of n words from f on -/
def nws (X : Nat → Int32) (W : List Wt) (f n : Nat) : List Int64 := ups (fun w => nw X (sp (W.getD w (0, 0, 0)))) f n
theorem nws_s {X : Nat → Int32} {W : List Wt} {f n : Nat} : nws X W f (n + 1) = nw X (sp (W.getD f (0, 0, 0))) :: nws X W (f + 1) n := rfl
/-- Job.addNeeds -/
theorem s121 {d j f n L : Nat} {h0 : mj_H} {Q : Option Value → mj_H → Prop} {X : Nat → Int32} {W : List Wt} {ns : List Int64} (hd : 2 ≤ d) (hj : j < 12) (H0 : mj_RS h0) (hW : WW h0 X L W) (hn : f + n ≤ W.length) (hN : NdC h0 j ns) (k0 : (n = 0 ∨ ndF ns (nws X W f n) = none) → ∀ h', fr (inN j) h0 h' → Q (some (.int 0)) h') (k1 : 0 < n → ∀ ns', ndF ns (nws X W f n) = some ns' → ∀ h', NdC h' j ns' → fr (inN j) h0 h' → Q (some (.int 1)) h') : mr_C mj_KK d 121 [.ref (12 + 44 * j), .ref 2, .int (nI f), .int (nI (f + n))] h0 Q := by
  show mr_M mj_KK d 121 0 [some (.ref (12 + 44 * j)), some (.ref 2), some (.int (nI f)), some (.int (nI (f + n))), none, none, none] [] h0 Q
  refine kb_121_0 ?_
  have hw4 := hW.2.2.2.1
  have loop : ∀ m i (h : mj_H) (xs : List Int64), i + m = f + n → f ≤ i → fr (inN j) h0 h → NdC h j xs → ndF xs (nws X W i m) = ndF ns (nws X W f n) → mr_M mj_KK d 121 3 [some (.ref (12 + 44 * j)), some (.ref 2), some (.int (nI f)), some (.int (nI (f + n))), some (.int (nI i)), none, none] [] h Q := by
    intro m
    induction m with
    | zero =>
      intro i h xs hi hfi hf hx he
      refine kb_121_3 (fun _ => kb_121_71 (fun c => kb_121_80 (kb_121_81 (by first | assumption | exact b2i_01 _ | exact Or.inl rfl | exact Or.inr rfl) (k0 (Or.inl ?_) h hf))) (fun c => kb_121_76 (kb_121_81 (by first | assumption | exact b2i_01 _ | exact Or.inl rfl | exact Or.inr rfl) (k1 ?_ xs he.symm h hx hf)))) (fun c => (by simp (disch := omega) only [z_0, z_1, z_2, z_3, z_4, z_5, z_6, z_7, z_8, z_9, z_10, z_12, z_13, z_20, z_21, z_25, z_56, z_350, z_31, z_32, z_36, z_48, z_57, z_61, z_97, z_100, z_122, z_125, z_126, z_144, z_255, z_700, z_1000, z_1548, nI_add, pk_mul, pk_sub, nI_clamp, nI_leI, nI_ltI, nI_eq, z_in, z_m1, z_m1b, lg_cmp_eq, z_cmp, Decidable.not_not, w_ie, w_in, w_il, w_le, w_ln, w_li, w_ir, w_lr] at c; exfalso; omega))
      · simp (disch := omega) only [z_0, z_1, z_2, z_3, z_4, z_5, z_6, z_7, z_8, z_9, z_10, z_12, z_13, z_20, z_21, z_25, z_56, z_350, z_31, z_32, z_36, z_48, z_57, z_61, z_97, z_100, z_122, z_125, z_126, z_144, z_255, z_700, z_1000, z_1548, nI_add, pk_mul, pk_sub, nI_clamp, nI_leI, nI_ltI, nI_eq, z_in, z_m1, z_m1b, lg_cmp_eq, z_cmp, Decidable.not_not, w_ie, w_in, w_il, w_le, w_ln, w_li, w_ir, w_lr] at c
        omega
      · simp (disch := omega) only [z_0, z_1, z_2, z_3, z_4, z_5, z_6, z_7, z_8, z_9, z_10, z_12, z_13, z_20, z_21, z_25, z_56, z_350, z_31, z_32, z_36, z_48, z_57, z_61, z_97, z_100, z_122, z_125, z_126, z_144, z_255, z_700, z_1000, z_1548, nI_add, pk_mul, pk_sub, nI_clamp, nI_leI, nI_ltI, nI_eq, z_in, z_m1, z_m1b, lg_cmp_eq, z_cmp, Decidable.not_not, w_ie, w_in, w_il, w_le, w_ln, w_li, w_ir, w_lr] at c
        omega
    | succ m ih =>
      intro i h xs hi hfi hf hx he
      have H := hf.rs H0
      have hW' : WW h X L W := hW.fr hf (fun a i h1 h2 => by unfold inN; omega)
      obtain ⟨x1, x2, x3⟩ := id hx
      rw [nws_s] at he
      rw [ndF_s] at he
      refine kb_121_3 (fun c => (by simp (disch := omega) only [z_0, z_1, z_2, z_3, z_4, z_5, z_6, z_7, z_8, z_9, z_10, z_12, z_13, z_20, z_21, z_25, z_56, z_350, z_31, z_32, z_36, z_48, z_57, z_61, z_97, z_100, z_122, z_125, z_126, z_144, z_255, z_700, z_1000, z_1548, nI_add, pk_mul, pk_sub, nI_clamp, nI_leI, nI_ltI, nI_eq, z_in, z_m1, z_m1b, lg_cmp_eq, z_cmp, Decidable.not_not, w_ie, w_in, w_il, w_le, w_ln, w_li, w_ir, w_lr] at c; exfalso; omega)) (fun _ => kb_121_9 (by first | with_reducible assumption | with_reducible exact kd_W | assumption) (by omega) (s165 (by omega) H hW' (by omega) ?_))
      generalize nw X (sp (W.getD i (0, 0, 0))) = y at he ⊢
      refine kb_121_15 (fun c => kb_121_42 (k0 (Or.inr ?_) h hf)) (fun c => ?_)
      · rw [lg_cmp_eq] at c
        rw [if_pos (Or.inl c)] at he
        exact he.symm
      rw [lg_cmp_eq] at c
      refine kb_121_24 (by first | with_reducible assumption | with_reducible exact kd_JB _ (by omega) | assumption) (fun c2 => kb_121_42 (k0 (Or.inr ?_) h hf)) (fun c2 => ?_)
      · simp (disch := omega) only [z_0, z_1, z_2, z_3, z_4, z_5, z_6, z_7, z_8, z_9, z_10, z_12, z_13, z_20, z_21, z_25, z_56, z_350, z_31, z_32, z_36, z_48, z_57, z_61, z_97, z_100, z_122, z_125, z_126, z_144, z_255, z_700, z_1000, z_1548, nI_add, pk_mul, pk_sub, nI_clamp, nI_leI, nI_ltI, nI_eq, z_in, z_m1, z_m1b, lg_cmp_eq, z_cmp, Decidable.not_not, w_ie, w_in, w_il, w_le, w_ln, w_li, w_ir, w_lr, x1] at c2
        rw [if_pos (Or.inr (Or.inl (by omega)))] at he
        exact he.symm
      simp (disch := omega) only [z_0, z_1, z_2, z_3, z_4, z_5, z_6, z_7, z_8, z_9, z_10, z_12, z_13, z_20, z_21, z_25, z_56, z_350, z_31, z_32, z_36, z_48, z_57, z_61, z_97, z_100, z_122, z_125, z_126, z_144, z_255, z_700, z_1000, z_1548, nI_add, pk_mul, pk_sub, nI_clamp, nI_leI, nI_ltI, nI_eq, z_in, z_m1, z_m1b, lg_cmp_eq, z_cmp, Decidable.not_not, w_ie, w_in, w_il, w_le, w_ln, w_li, w_ir, w_lr, x1] at c2
      refine kb_121_33 (by first | with_reducible assumption | with_reducible exact kd_JB _ (by omega) | assumption) (by omega) (s122 hj H x1 x2 x3 (fun q => ?_) (fun q => ?_))
      · refine kb_121_39 (fun c => absurd c (by decide)) (fun _ => kb_121_42 (k0 (Or.inr ?_) h hf))
        rw [if_pos (Or.inr (Or.inr q))] at he
        exact he.symm
      · refine kb_121_39 (fun _ => ?_) (fun c => absurd rfl c)
        refine kb_121_44 (by first | with_reducible assumption | with_reducible exact kd_JB _ (by omega) | assumption) (by first | with_reducible assumption | exact rf_JB_needed H (by omega) | assumption) (by first | with_reducible assumption | with_reducible exact kd_JB_needed _ (by omega) | assumption) (by first | with_reducible assumption | (simp (disch := omega) only [z_0, z_1, z_2, z_3, z_4, z_5, z_6, z_7, z_8, z_9, z_10, z_12, z_13, z_20, z_21, z_25, z_56, z_350, z_31, z_32, z_36, z_48, z_57, z_61, z_97, z_100, z_122, z_125, z_126, z_144, z_255, z_700, z_1000, z_1548, nI_add, pk_mul, pk_sub, nI_clamp, nI_leI, nI_ltI, nI_eq, z_in, z_m1, z_m1b, lg_cmp_eq, z_cmp, Decidable.not_not, w_ie, w_in, w_il, w_le, w_ln, w_li, w_ir, w_lr, x1, ln_P_tape, ln_W_text, ln_W_starts, ln_W_ends, ln_W_lines, ln_W_names, ln_W_values, ln_PL_jobs, ln_PL_parts, ln_FT_reached, ln_EX_jobs, ln_EX_codes, ln_CB_names, ln_CB_values, ln_M_tape, ln_M_source, ln_M_wordAt, ln_M_wordEnd, ln_M_names, ln_M_itemCount, ln_M_itemFirst, ln_M_itemWords, ln_M_itemUses, ln_M_keptAt, ln_M_keptEnd, ln_M_needCount, ln_M_axisCount, ln_M_valueCount, ln_M_needed, ln_M_axes, ln_M_values, ln_M_includes, ln_M_excludes, ln_M_pairCount, ln_M_pairName, ln_M_pairValue, ln_M_signCount, ln_M_signs, ln_M_signName, ln_M_signValue, ln_M_whose, ln_M_which, ln_M_pile, ln_M_reaches, ln_M_stepsOf, ln_M_known, ln_JB_needed, ln_JB_axes, ln_JS_used, ln_JS_stepWords, ln_PS_used, ln_PS_stepWords, ln_IN_rows, ln_EC_rows, ln_IR_names, ln_IR_values, ln_ER_names, ln_ER_values, ln_CD_kinds, ln_CD_names, ln_CD_values, ln_AX_values] <;> omega) | assumption) ?_
        simp (disch := omega) only [z_0, z_1, z_2, z_3, z_4, z_5, z_6, z_7, z_8, z_9, z_10, z_12, z_13, z_20, z_21, z_25, z_56, z_350, z_31, z_32, z_36, z_48, z_57, z_61, z_97, z_100, z_122, z_125, z_126, z_144, z_255, z_700, z_1000, z_1548, nI_add, pk_mul, pk_sub, nI_clamp, nI_leI, nI_ltI, nI_eq, z_in, z_m1, z_m1b, lg_cmp_eq, z_cmp, Decidable.not_not, w_ie, w_in, w_il, w_le, w_ln, w_li, w_ir, w_lr, x1]
        rw [if_neg (fun r => r.elim c (fun r => r.elim (fun r => r (by omega)) q))] at he
        refine ih (i + 1) _ (xs ++ [y]) (by omega) (by omega) ((hf.wl (Or.inr rfl)).wi (Or.inl ⟨rfl, rfl⟩)) ⟨?_, ?_, ?_⟩ he
        · rw [List.length_append]
          simp (disch := omega) only [z_0, z_1, z_2, z_3, z_4, z_5, z_6, z_7, z_8, z_9, z_10, z_12, z_13, z_20, z_21, z_25, z_56, z_350, z_31, z_32, z_36, z_48, z_57, z_61, z_97, z_100, z_122, z_125, z_126, z_144, z_255, z_700, z_1000, z_1548, nI_add, pk_mul, pk_sub, nI_clamp, nI_leI, nI_ltI, nI_eq, z_in, z_m1, z_m1b, lg_cmp_eq, z_cmp, Decidable.not_not, w_ie, w_in, w_il, w_le, w_ln, w_li, w_ir, w_lr]
          rfl
        · rw [List.length_append]
          show xs.length + 1 ≤ 6
          omega
        · have := x3.app (v := y)
          rw [Nat.zero_add] at this
          exact this
  exact loop n f h0 ns rfl (Nat.le_refl f) fr.rfl' hN rfl
/-- Job.hasAxis -/
theorem s124 {d j : Nat} {h : mj_H} {Q : Option Value → mj_H → Prop} {y : Int64} {as : List (Int64 × List Int64)} (hj : j < 12) (H : mj_RS h) (hA : AsC h j as) (k1 : y ∈ as.map Prod.fst → Q (some (.int 1)) h) (k0 : y ∉ as.map Prod.fst → Q (some (.int 0)) h) : mr_C mj_KK d 124 [.ref (12 + 44 * j), .long y] h Q := by
  show mr_M mj_KK d 124 0 [some (.ref (12 + 44 * j)), some (.long y), none, none] [] h Q
  obtain ⟨hN, h3, hL⟩ := hA
  refine kb_124_0 ?_
  have loop : ∀ n i, i + n = as.length → (∀ k, k < i → (as.getD k (0, [])).1 ≠ y) → mr_M mj_KK d 124 2 [some (.ref (12 + 44 * j)), some (.long y), none, some (.int (nI i))] [] h Q := by
    intro n
    induction n with
    | zero =>
      intro i hi hq
      refine kb_124_2 (by first | with_reducible assumption | with_reducible exact kd_JB _ (by omega) | assumption) (fun _ => kb_124_32 (k0 (fun q => ?_))) (fun c => (by simp (disch := omega) only [z_0, z_1, z_2, z_3, z_4, z_5, z_6, z_7, z_8, z_9, z_10, z_12, z_13, z_20, z_21, z_25, z_56, z_350, z_31, z_32, z_36, z_48, z_57, z_61, z_97, z_100, z_122, z_125, z_126, z_144, z_255, z_700, z_1000, z_1548, nI_add, pk_mul, pk_sub, nI_clamp, nI_leI, nI_ltI, nI_eq, z_in, z_m1, z_m1b, lg_cmp_eq, z_cmp, Decidable.not_not, w_ie, w_in, w_il, w_le, w_ln, w_li, w_ir, w_lr, hN] at c; exfalso; omega))
      obtain ⟨a, ha, e⟩ := List.mem_map.mp q
      obtain ⟨k, h1, h2⟩ := mem_getD (x := (0, [])) ha
      exact hq k (by omega) (by rw [h2]; exact e)
    | succ n ih =>
      intro i hi hq
      have e0 := (hL i (by omega)).1
      refine kb_124_2 (by first | with_reducible assumption | with_reducible exact kd_JB _ (by omega) | assumption) (fun c => (by simp (disch := omega) only [z_0, z_1, z_2, z_3, z_4, z_5, z_6, z_7, z_8, z_9, z_10, z_12, z_13, z_20, z_21, z_25, z_56, z_350, z_31, z_32, z_36, z_48, z_57, z_61, z_97, z_100, z_122, z_125, z_126, z_144, z_255, z_700, z_1000, z_1548, nI_add, pk_mul, pk_sub, nI_clamp, nI_leI, nI_ltI, nI_eq, z_in, z_m1, z_m1b, lg_cmp_eq, z_cmp, Decidable.not_not, w_ie, w_in, w_il, w_le, w_ln, w_li, w_ir, w_lr, hN] at c; exfalso; omega)) (fun _ => kb_124_10 (by first | with_reducible assumption | with_reducible exact kd_JB _ (by omega) | assumption) (by first | with_reducible assumption | exact rf_JB_axes H (by omega) | assumption) (by first | with_reducible assumption | with_reducible exact kd_JB_axes _ (by omega) | assumption) (by first | with_reducible assumption | (simp (disch := omega) only [z_0, z_1, z_2, z_3, z_4, z_5, z_6, z_7, z_8, z_9, z_10, z_12, z_13, z_20, z_21, z_25, z_56, z_350, z_31, z_32, z_36, z_48, z_57, z_61, z_97, z_100, z_122, z_125, z_126, z_144, z_255, z_700, z_1000, z_1548, nI_add, pk_mul, pk_sub, nI_clamp, nI_leI, nI_ltI, nI_eq, z_in, z_m1, z_m1b, lg_cmp_eq, z_cmp, Decidable.not_not, w_ie, w_in, w_il, w_le, w_ln, w_li, w_ir, w_lr, ln_P_tape, ln_W_text, ln_W_starts, ln_W_ends, ln_W_lines, ln_W_names, ln_W_values, ln_PL_jobs, ln_PL_parts, ln_FT_reached, ln_EX_jobs, ln_EX_codes, ln_CB_names, ln_CB_values, ln_M_tape, ln_M_source, ln_M_wordAt, ln_M_wordEnd, ln_M_names, ln_M_itemCount, ln_M_itemFirst, ln_M_itemWords, ln_M_itemUses, ln_M_keptAt, ln_M_keptEnd, ln_M_needCount, ln_M_axisCount, ln_M_valueCount, ln_M_needed, ln_M_axes, ln_M_values, ln_M_includes, ln_M_excludes, ln_M_pairCount, ln_M_pairName, ln_M_pairValue, ln_M_signCount, ln_M_signs, ln_M_signName, ln_M_signValue, ln_M_whose, ln_M_which, ln_M_pile, ln_M_reaches, ln_M_stepsOf, ln_M_known, ln_JB_needed, ln_JB_axes, ln_JS_used, ln_JS_stepWords, ln_PS_used, ln_PS_stepWords, ln_IN_rows, ln_EC_rows, ln_IR_names, ln_IR_values, ln_ER_names, ln_ER_values, ln_CD_kinds, ln_CD_names, ln_CD_values, ln_AX_values] <;> omega) | assumption) (by first | with_reducible assumption | exact rf_axes H (by omega) (by omega) | (simp (disch := omega) only [z_0, z_1, z_2, z_3, z_4, z_5, z_6, z_7, z_8, z_9, z_10, z_12, z_13, z_20, z_21, z_25, z_56, z_350, z_31, z_32, z_36, z_48, z_57, z_61, z_97, z_100, z_122, z_125, z_126, z_144, z_255, z_700, z_1000, z_1548, nI_add, pk_mul, pk_sub, nI_clamp, nI_leI, nI_ltI, nI_eq, z_in, z_m1, z_m1b, lg_cmp_eq, z_cmp, Decidable.not_not, w_ie, w_in, w_il, w_le, w_ln, w_li, w_ir, w_lr]; exact rf_axes H (by omega) (by omega)) | (simp (disch := omega) only [z_0, z_1, z_2, z_3, z_4, z_5, z_6, z_7, z_8, z_9, z_10, z_12, z_13, z_20, z_21, z_25, z_56, z_350, z_31, z_32, z_36, z_48, z_57, z_61, z_97, z_100, z_122, z_125, z_126, z_144, z_255, z_700, z_1000, z_1548, nI_add, pk_mul, pk_sub, nI_clamp, nI_leI, nI_ltI, nI_eq, z_in, z_m1, z_m1b, lg_cmp_eq, z_cmp, Decidable.not_not, w_ie, w_in, w_il, w_le, w_ln, w_li, w_ir, w_lr]; assumption) | assumption) (by first | with_reducible assumption | with_reducible exact kd_AX _ (by omega) _ (by omega) | assumption) (fun c => ?_) (fun c => kb_124_24 (k1 ?_)))
      · rw [lg_cmp_eq, e0] at c
        refine kb_124_26 ?_
        rw [nI_1]
        exact ih (i + 1) (by omega) (lt_s hq c)
      · rw [lg_cmp_eq, e0, Decidable.not_not] at c
        rw [← c]
        exact List.mem_map.mpr ⟨_, getD_mem (by omega), rfl⟩
  exact loop as.length 0 (by omega) lt_0
/-- the VALUES after a line's names -/
def vF : List Int64 → List Int64 → Option (List Int64)
  | vs, [] => some vs
  | vs, y :: r => if y = 0 ∨ ¬ vs.length < 5 ∨ y ∈ vs then none else vF (vs ++ [y]) r
theorem vF_s {ns r : List Int64} {y : Int64} : vF ns (y :: r) = if y = 0 ∨ ¬ ns.length < 5 ∨ y ∈ ns then none else vF (ns ++ [y]) r := rfl
/-- the AXES after a line's names -/
def axF (as : List (Int64 × List Int64)) : List Int64 → Option (List (Int64 × List Int64))
  | [] => none
  | y :: r => if y = 0 ∨ r = [] ∨ ¬ as.length < 3 ∨ y ∈ as.map Prod.fst then none else (vF [] r).map (fun vs => as ++ [(y, vs)])
theorem axF_s {as : List (Int64 × List Int64)} {r : List Int64} {y : Int64} : axF as (y :: r) = if y = 0 ∨ r = [] ∨ ¬ as.length < 3 ∨ y ∈ as.map Prod.fst then none else (vF [] r).map (fun vs => as ++ [(y, vs)]) := rfl
def inA (j a : Nat) : Nat → Nat → Prop := fun b i => (b = 12 + 44 * j ∧ i = 4) ∨ b = 50 + 44 * j + 2 * a ∨ b = 51 + 44 * j + 2 * a
/-- Job.addAxis -/
theorem s123 {d j f n L : Nat} {h0 : mj_H} {Q : Option Value → mj_H → Prop} {X : Nat → Int32} {W : List Wt} {as : List (Int64 × List Int64)} (hd : 3 ≤ d) (hj : j < 12) (H0 : mj_RS h0) (hW : WW h0 X L W) (hn : f + n ≤ W.length) (hN : AsC h0 j as) (k0 : axF as (nws X W f n) = none → ∀ h', fr (inA j as.length) h0 h' → Q (some (.int 0)) h') (k1 : ∀ as', axF as (nws X W f n) = some as' → ∀ h', AsC h' j as' → fr (inA j as.length) h0 h' → Q (some (.int 1)) h') : mr_C mj_KK d 123 [.ref (12 + 44 * j), .ref 2, .int (nI f), .int (nI (f + n))] h0 Q := by
  show mr_M mj_KK d 123 0 [some (.ref (12 + 44 * j)), some (.ref 2), some (.int (nI f)), some (.int (nI (f + n))), none, none, none, none] [] h0 Q
  have hw4 := hW.2.2.2.1
  have H := H0
  obtain ⟨x1, x2, x3⟩ := id hN
  cases n with
  | zero => exact kb_123_0 (fun _ => kb_123_13 (kb_123_14 (fun _ => kb_123_47 (k0 rfl h0 fr.rfl')) (fun c => absurd (by decide) c))) (fun c => (by simp (disch := omega) only [z_0, z_1, z_2, z_3, z_4, z_5, z_6, z_7, z_8, z_9, z_10, z_12, z_13, z_20, z_21, z_25, z_56, z_350, z_31, z_32, z_36, z_48, z_57, z_61, z_97, z_100, z_122, z_125, z_126, z_144, z_255, z_700, z_1000, z_1548, nI_add, pk_mul, pk_sub, nI_clamp, nI_leI, nI_ltI, nI_eq, z_in, z_m1, z_m1b, lg_cmp_eq, z_cmp, Decidable.not_not, w_ie, w_in, w_il, w_le, w_ln, w_li, w_ir, w_lr] at c; exfalso; omega))
  | succ n =>
    rw [nws_s] at k0 k1
    refine kb_123_0 (fun c => (by simp (disch := omega) only [z_0, z_1, z_2, z_3, z_4, z_5, z_6, z_7, z_8, z_9, z_10, z_12, z_13, z_20, z_21, z_25, z_56, z_350, z_31, z_32, z_36, z_48, z_57, z_61, z_97, z_100, z_122, z_125, z_126, z_144, z_255, z_700, z_1000, z_1548, nI_add, pk_mul, pk_sub, nI_clamp, nI_leI, nI_ltI, nI_eq, z_in, z_m1, z_m1b, lg_cmp_eq, z_cmp, Decidable.not_not, w_ie, w_in, w_il, w_le, w_ln, w_li, w_ir, w_lr] at c; exfalso; omega)) (fun _ => kb_123_5 (by first | with_reducible assumption | with_reducible exact kd_W | assumption) (by omega) (s165 (by omega) H hW (by omega) (kb_123_10 ?_)))
    generalize nw X (sp (W.getD f (0, 0, 0))) = y at k0 k1 ⊢
    rw [axF_s] at k0
    simp only [axF_s] at k1
    have bad : (y = 0 ∨ nws X W (f + 1) n = [] ∨ ¬ as.length < 3 ∨ y ∈ as.map Prod.fst) → mr_M mj_KK d 123 47 [none, none, none, none, none, none, none, none] [] h0 Q := by
      intro q
      rw [if_pos q] at k0
      exact kb_123_47 (k0 rfl h0 fr.rfl')
    refine kb_123_14 (fun c => bad (Or.inl (by simpa only [lg_cmp_eq] using c))) (fun c => kb_123_23 (fun c2 => bad (Or.inr (Or.inl ?_))) (fun c2 => kb_123_30 (by first | with_reducible assumption | with_reducible exact kd_JB _ (by omega) | assumption) (fun c3 => bad (Or.inr (Or.inr (Or.inl ?_)))) (fun c3 => kb_123_38 (by first | with_reducible assumption | with_reducible exact kd_JB _ (by omega) | assumption) (by omega) (s124 hj H hN (fun q => kb_123_44 (fun c => absurd c (by decide)) (fun _ => bad (Or.inr (Or.inr (Or.inr q))))) (fun q => kb_123_44 (fun _ => ?_) (fun c => absurd rfl c))))))
    · simp (disch := omega) only [z_0, z_1, z_2, z_3, z_4, z_5, z_6, z_7, z_8, z_9, z_10, z_12, z_13, z_20, z_21, z_25, z_56, z_350, z_31, z_32, z_36, z_48, z_57, z_61, z_97, z_100, z_122, z_125, z_126, z_144, z_255, z_700, z_1000, z_1548, nI_add, pk_mul, pk_sub, nI_clamp, nI_leI, nI_ltI, nI_eq, z_in, z_m1, z_m1b, lg_cmp_eq, z_cmp, Decidable.not_not, w_ie, w_in, w_il, w_le, w_ln, w_li, w_ir, w_lr] at c2
      have : n = 0 := by omega
      subst this
      rfl
    · simp (disch := omega) only [z_0, z_1, z_2, z_3, z_4, z_5, z_6, z_7, z_8, z_9, z_10, z_12, z_13, z_20, z_21, z_25, z_56, z_350, z_31, z_32, z_36, z_48, z_57, z_61, z_97, z_100, z_122, z_125, z_126, z_144, z_255, z_700, z_1000, z_1548, nI_add, pk_mul, pk_sub, nI_clamp, nI_leI, nI_ltI, nI_eq, z_in, z_m1, z_m1b, lg_cmp_eq, z_cmp, Decidable.not_not, w_ie, w_in, w_il, w_le, w_ln, w_li, w_ir, w_lr, x1] at c3
      omega
    · rw [lg_cmp_eq] at c
      simp (disch := omega) only [z_0, z_1, z_2, z_3, z_4, z_5, z_6, z_7, z_8, z_9, z_10, z_12, z_13, z_20, z_21, z_25, z_56, z_350, z_31, z_32, z_36, z_48, z_57, z_61, z_97, z_100, z_122, z_125, z_126, z_144, z_255, z_700, z_1000, z_1548, nI_add, pk_mul, pk_sub, nI_clamp, nI_leI, nI_ltI, nI_eq, z_in, z_m1, z_m1b, lg_cmp_eq, z_cmp, Decidable.not_not, w_ie, w_in, w_il, w_le, w_ln, w_li, w_ir, w_lr] at c2
      simp (disch := omega) only [z_0, z_1, z_2, z_3, z_4, z_5, z_6, z_7, z_8, z_9, z_10, z_12, z_13, z_20, z_21, z_25, z_56, z_350, z_31, z_32, z_36, z_48, z_57, z_61, z_97, z_100, z_122, z_125, z_126, z_144, z_255, z_700, z_1000, z_1548, nI_add, pk_mul, pk_sub, nI_clamp, nI_leI, nI_ltI, nI_eq, z_in, z_m1, z_m1b, lg_cmp_eq, z_cmp, Decidable.not_not, w_ie, w_in, w_il, w_le, w_ln, w_li, w_ir, w_lr, x1] at c3
      have good : ¬ (y = 0 ∨ nws X W (f + 1) n = [] ∨ ¬ as.length < 3 ∨ y ∈ as.map Prod.fst) := by
        intro r
        rcases r with r | r | r | r
        · exact c r
        · have := congrArg List.length r
          unfold nws at this
          rw [ups_len] at this
          have e : n = 0 := this
          omega
        · omega
        · exact q r
      rw [if_neg good] at k0
      simp only [if_neg good] at k1
      have isa : isA (50 + 44 * j + 2 * as.length) := isA_AX hj (by omega)
      have kAX := isa.1
      refine kb_123_49 (by first | with_reducible assumption | with_reducible exact kd_JB _ (by omega) | assumption) (by first | with_reducible assumption | exact rf_JB_axes H (by omega) | assumption) (by first | with_reducible assumption | with_reducible exact kd_JB_axes _ (by omega) | assumption) (by first | with_reducible assumption | (simp (disch := omega) only [z_0, z_1, z_2, z_3, z_4, z_5, z_6, z_7, z_8, z_9, z_10, z_12, z_13, z_20, z_21, z_25, z_56, z_350, z_31, z_32, z_36, z_48, z_57, z_61, z_97, z_100, z_122, z_125, z_126, z_144, z_255, z_700, z_1000, z_1548, nI_add, pk_mul, pk_sub, nI_clamp, nI_leI, nI_ltI, nI_eq, z_in, z_m1, z_m1b, lg_cmp_eq, z_cmp, Decidable.not_not, w_ie, w_in, w_il, w_le, w_ln, w_li, w_ir, w_lr, x1, ln_P_tape, ln_W_text, ln_W_starts, ln_W_ends, ln_W_lines, ln_W_names, ln_W_values, ln_PL_jobs, ln_PL_parts, ln_FT_reached, ln_EX_jobs, ln_EX_codes, ln_CB_names, ln_CB_values, ln_M_tape, ln_M_source, ln_M_wordAt, ln_M_wordEnd, ln_M_names, ln_M_itemCount, ln_M_itemFirst, ln_M_itemWords, ln_M_itemUses, ln_M_keptAt, ln_M_keptEnd, ln_M_needCount, ln_M_axisCount, ln_M_valueCount, ln_M_needed, ln_M_axes, ln_M_values, ln_M_includes, ln_M_excludes, ln_M_pairCount, ln_M_pairName, ln_M_pairValue, ln_M_signCount, ln_M_signs, ln_M_signName, ln_M_signValue, ln_M_whose, ln_M_which, ln_M_pile, ln_M_reaches, ln_M_stepsOf, ln_M_known, ln_JB_needed, ln_JB_axes, ln_JS_used, ln_JS_stepWords, ln_PS_used, ln_PS_stepWords, ln_IN_rows, ln_EC_rows, ln_IR_names, ln_IR_values, ln_ER_names, ln_ER_values, ln_CD_kinds, ln_CD_names, ln_CD_values, ln_AX_values] <;> omega) | assumption) (by first | with_reducible assumption | exact rf_axes H (by omega) (by omega) | (simp (disch := omega) only [z_0, z_1, z_2, z_3, z_4, z_5, z_6, z_7, z_8, z_9, z_10, z_12, z_13, z_20, z_21, z_25, z_56, z_350, z_31, z_32, z_36, z_48, z_57, z_61, z_97, z_100, z_122, z_125, z_126, z_144, z_255, z_700, z_1000, z_1548, nI_add, pk_mul, pk_sub, nI_clamp, nI_leI, nI_ltI, nI_eq, z_in, z_m1, z_m1b, lg_cmp_eq, z_cmp, Decidable.not_not, w_ie, w_in, w_il, w_le, w_ln, w_li, w_ir, w_lr, x1]; exact rf_axes H (by omega) (by omega)) | (simp (disch := omega) only [z_0, z_1, z_2, z_3, z_4, z_5, z_6, z_7, z_8, z_9, z_10, z_12, z_13, z_20, z_21, z_25, z_56, z_350, z_31, z_32, z_36, z_48, z_57, z_61, z_97, z_100, z_122, z_125, z_126, z_144, z_255, z_700, z_1000, z_1548, nI_add, pk_mul, pk_sub, nI_clamp, nI_leI, nI_ltI, nI_eq, z_in, z_m1, z_m1b, lg_cmp_eq, z_cmp, Decidable.not_not, w_ie, w_in, w_il, w_le, w_ln, w_li, w_ir, w_lr, x1]; assumption) | assumption) (by first | with_reducible assumption | with_reducible exact kd_AX _ (by omega) _ (by omega) | assumption) ?_
      rw [nI_1]
      have loop : ∀ m i (h : mj_H) (xs : List Int64), i + m = f + (n + 1) → f ≤ i → fr (inA j as.length) h0 h → h.1 (12 + 44 * j) 4 = nI as.length → AxC h (50 + 44 * j + 2 * as.length) (y, xs) → vF xs (nws X W i m) = vF [] (nws X W (f + 1) n) → mr_M mj_KK d 123 78 [some (.ref (12 + 44 * j)), some (.ref 2), none, some (.int (nI (f + (n + 1)))), none, none, some (.ref (50 + 44 * j + 2 * as.length)), some (.int (nI i))] [] h Q := by
        intro m
        induction m with
        | zero =>
          intro i h xs hi hfi hf hc hx he
          have hv : vF xs [] = some xs := rfl
          have he : vF xs [] = vF [] (nws X W (f + 1) n) := he
          rw [← he, hv] at k1
          refine kb_123_78 (fun _ => kb_123_106 (by first | with_reducible assumption | with_reducible exact kd_JB _ (by omega) | assumption) ?_) (fun c => (by simp (disch := omega) only [z_0, z_1, z_2, z_3, z_4, z_5, z_6, z_7, z_8, z_9, z_10, z_12, z_13, z_20, z_21, z_25, z_56, z_350, z_31, z_32, z_36, z_48, z_57, z_61, z_97, z_100, z_122, z_125, z_126, z_144, z_255, z_700, z_1000, z_1548, nI_add, pk_mul, pk_sub, nI_clamp, nI_leI, nI_ltI, nI_eq, z_in, z_m1, z_m1b, lg_cmp_eq, z_cmp, Decidable.not_not, w_ie, w_in, w_il, w_le, w_ln, w_li, w_ir, w_lr] at c; exfalso; omega))
          rw [hc, nI_1]
          refine k1 (as ++ [(y, xs)]) rfl _ ⟨?_, ?_, fun a ha => ?_⟩ (hf.wi (Or.inl ⟨rfl, rfl⟩))
          · rw [List.length_append]
            simp (disch := omega) only [z_0, z_1, z_2, z_3, z_4, z_5, z_6, z_7, z_8, z_9, z_10, z_12, z_13, z_20, z_21, z_25, z_56, z_350, z_31, z_32, z_36, z_48, z_57, z_61, z_97, z_100, z_122, z_125, z_126, z_144, z_255, z_700, z_1000, z_1548, nI_add, pk_mul, pk_sub, nI_clamp, nI_leI, nI_ltI, nI_eq, z_in, z_m1, z_m1b, lg_cmp_eq, z_cmp, Decidable.not_not, w_ie, w_in, w_il, w_le, w_ln, w_li, w_ir, w_lr]
            rfl
          · rw [List.length_append]
            show as.length + 1 ≤ 3
            omega
          · rw [List.length_append] at ha
            have ha : a < as.length + 1 := ha
            have g : fr (fun b i => b = 12 + 44 * j ∧ i = 4) h (mj_w h (12 + 44 * j) 4 (.int (nI (as.length + 1)))) := fr.rfl'.wi ⟨rfl, rfl⟩
            rcases Nat.lt_or_ge a as.length with r | r
            · rw [getD_app_l r]
              exact ((x3 a r).fr hf (fun i => by unfold inA; omega)).fr g (fun i => by omega)
            · have e : a = as.length := by omega
              subst e
              rw [getD_app_e]
              exact hx.fr g (fun i => by omega)
        | succ m ih =>
          intro i h xs hi hfi hf hc hx he
          have H := hf.rs H0
          have hW' : WW h X L W := hW.fr hf (fun a i h1 h2 => by unfold inA; omega)
          rw [nws_s] at he
          rw [vF_s] at he
          refine kb_123_78 (fun c => (by simp (disch := omega) only [z_0, z_1, z_2, z_3, z_4, z_5, z_6, z_7, z_8, z_9, z_10, z_12, z_13, z_20, z_21, z_25, z_56, z_350, z_31, z_32, z_36, z_48, z_57, z_61, z_97, z_100, z_122, z_125, z_126, z_144, z_255, z_700, z_1000, z_1548, nI_add, pk_mul, pk_sub, nI_clamp, nI_leI, nI_ltI, nI_eq, z_in, z_m1, z_m1b, lg_cmp_eq, z_cmp, Decidable.not_not, w_ie, w_in, w_il, w_le, w_ln, w_li, w_ir, w_lr] at c; exfalso; omega)) (fun _ => kb_123_84 (by first | with_reducible assumption | with_reducible exact kd_W | assumption) (by omega) (s165 (by omega) H hW' (by omega) ?_))
          generalize nw X (sp (W.getD i (0, 0, 0))) = v at he ⊢
          refine kb_123_92 (by first | with_reducible assumption | with_reducible exact kd_AX _ (by omega) _ (by omega) | assumption) (by omega) (s89 (by omega) isa H hx (fun r => ?_) (fun r1 r2 r3 h2 g1 g2 => ?_))
          · refine kb_123_95 (fun c => absurd rfl c) (fun _ => kb_123_98 (k0 ?_ h hf))
            rw [if_pos r] at he
            rw [← he]
            rfl
          · refine kb_123_95 (fun _ => kb_123_100 ?_) (fun c => absurd (by decide) c)
            rw [nI_1]
            rw [if_neg (fun r => r.elim r1 (fun r => r.elim (fun r => r r2) r3))] at he
            have g2' : fr (inA j as.length) h h2 := g2.mono (fun a i r => by unfold inA; omega)
            exact ih (i + 1) h2 (xs ++ [v]) (by omega) (by omega) (hf.trans g2') ((g2.n (by omega)).trans hc) g1 he
      refine loop n (f + 1) _ [] (by omega) (by omega) ((fr.rfl'.wl (Or.inr (Or.inl rfl))).wi (Or.inr (Or.inl rfl))) (by simp (disch := omega) only [z_0, z_1, z_2, z_3, z_4, z_5, z_6, z_7, z_8, z_9, z_10, z_12, z_13, z_20, z_21, z_25, z_56, z_350, z_31, z_32, z_36, z_48, z_57, z_61, z_97, z_100, z_122, z_125, z_126, z_144, z_255, z_700, z_1000, z_1548, nI_add, pk_mul, pk_sub, nI_clamp, nI_leI, nI_ltI, nI_eq, z_in, z_m1, z_m1b, lg_cmp_eq, z_cmp, Decidable.not_not, w_ie, w_in, w_il, w_le, w_ln, w_li, w_ir, w_lr, x1]) ⟨by simp (disch := omega) only [z_0, z_1, z_2, z_3, z_4, z_5, z_6, z_7, z_8, z_9, z_10, z_12, z_13, z_20, z_21, z_25, z_56, z_350, z_31, z_32, z_36, z_48, z_57, z_61, z_97, z_100, z_122, z_125, z_126, z_144, z_255, z_700, z_1000, z_1548, nI_add, pk_mul, pk_sub, nI_clamp, nI_leI, nI_ltI, nI_eq, z_in, z_m1, z_m1b, lg_cmp_eq, z_cmp, Decidable.not_not, w_ie, w_in, w_il, w_le, w_ln, w_li, w_ir, w_lr], by simp (disch := omega) only [z_0, z_1, z_2, z_3, z_4, z_5, z_6, z_7, z_8, z_9, z_10, z_12, z_13, z_20, z_21, z_25, z_56, z_350, z_31, z_32, z_36, z_48, z_57, z_61, z_97, z_100, z_122, z_125, z_126, z_144, z_255, z_700, z_1000, z_1548, nI_add, pk_mul, pk_sub, nI_clamp, nI_leI, nI_ltI, nI_eq, z_in, z_m1, z_m1b, lg_cmp_eq, z_cmp, Decidable.not_not, w_ie, w_in, w_il, w_le, w_ln, w_li, w_ir, w_lr]; rfl, Nat.zero_le _, Lh.nil⟩ rfl
def isR (q : Nat) : Prop := mj_kd mj_KK q = 5 ∧ mj_kd mj_KK (q + 1) = 105 ∧ mj_ln mj_KK (q + 1) = 4 ∧ ((q, 0, q + 1) : Nat × Nat × Nat) ∈ mj_refs ∧ ∀ r, r < 4 → ((q + 1, r, q + 2 + 3 * r) : Nat × Nat × Nat) ∈ mj_refs ∧ isP (q + 2 + 3 * r)
theorem isR_IN {j : Nat} (hj : j < 12) : isR (18 + 44 * j) := by
  have e : 18 + 44 * j + 1 = 19 + 44 * j := by omega
  have e2 : 18 + 44 * j + 2 = 20 + 44 * j := by omega
  unfold isR
  rw [e, e2]
  exact ⟨kd_IN j hj, kd_IN_rows j hj, ln_IN_rows j hj, rm_IN_rows j hj, fun r hr => ⟨rm_irows j hj r hr, isP_IR hj hr⟩⟩
theorem isR_EC {j : Nat} (hj : j < 12) : isR (32 + 44 * j) := by
  have e : 32 + 44 * j + 1 = 33 + 44 * j := by omega
  have e2 : 32 + 44 * j + 2 = 34 + 44 * j := by omega
  unfold isR
  rw [e, e2]
  exact ⟨kd_EC j hj, kd_EC_rows j hj, ln_EC_rows j hj, rm_EC_rows j hj, fun r hr => ⟨rm_erows j hj r hr, isP_ER hj hr⟩⟩
/-- the pairs after a line's pairs -/
def rwF : Pp → Pp → Option Pp
  | ps, [] => some ps
  | ps, q :: r => if q.2 = 0 ∨ ¬ ps.length < 4 ∨ ¬ vO ps q.1 = 0 then none else rwF (ps ++ [q]) r
theorem rwF_s {ps r : Pp} {q : Int64 × Int64} : rwF ps (q :: r) = if q.2 = 0 ∨ ¬ ps.length < 4 ∨ ¬ vO ps q.1 = 0 then none else rwF (ps ++ [q]) r := rfl
/-- the rows after a line's pairs -/
def rsF (rs : List Pp) (l : Pp) : Option (List Pp) := if ¬ rs.length < 4 ∨ l = [] then none else (rwF [] l).map (fun p => rs ++ [p])
def pws (X : Nat → Int32) (W : List Wt) (f n : Nat) : Pp := ups (fun w => pw X (sp (W.getD w (0, 0, 0)))) f n
theorem pws_s {X : Nat → Int32} {W : List Wt} {f n : Nat} : pws X W f (n + 1) = pw X (sp (W.getD f (0, 0, 0))) :: pws X W (f + 1) n := rfl
def inR (q r : Nat) : Nat → Nat → Prop := fun a i => (a = q ∧ i = 1) ∨ a = q + 2 + 3 * r ∨ a = q + 2 + 3 * r + 1 ∨ a = q + 2 + 3 * r + 2
/-- PairRows.addRow -/
theorem s132 {d q f n L : Nat} {h0 : mj_H} {Q : Option Value → mj_H → Prop} {X : Nat → Int32} {W : List Wt} {rs : List Pp} (hd : 3 ≤ d) (hq : isR q) (hq8 : 8 < q) (H0 : mj_RS h0) (hW : WW h0 X L W) (hn : f + n ≤ W.length) (hN : RwC h0 q rs) (k0 : rsF rs (pws X W f n) = none → ∀ h', fr (inR q rs.length) h0 h' → Q (some (.int 0)) h') (k1 : ∀ rs', rsF rs (pws X W f n) = some rs' → ∀ h', RwC h' q rs' → fr (inR q rs.length) h0 h' → Q (some (.int 1)) h') : mr_C mj_KK d 132 [.ref q, .ref 2, .int (nI f), .int (nI (f + n))] h0 Q := by
  show mr_M mj_KK d 132 0 [some (.ref q), some (.ref 2), some (.int (nI f)), some (.int (nI (f + n))), none, none] [] h0 Q
  have hw4 := hW.2.2.2.1
  have H := H0
  obtain ⟨x1, x2, x3⟩ := id hN
  obtain ⟨a1, a2, a3, a4, a5⟩ := hq
  have a6 : h0.2.2 q 0 = some (q + 1) := H _ a4
  unfold rsF at k0 k1
  refine kb_132_0 (by first | with_reducible assumption | with_reducible exact kd_IN _ (by omega) | with_reducible exact kd_EC _ (by omega) | assumption) (fun c => kb_132_13 (k0 ?_ h0 fr.rfl')) (fun c => kb_132_8 (fun c2 => ?_) (fun c2 => kb_132_13 (k0 ?_ h0 fr.rfl')))
  · simp (disch := omega) only [z_0, z_1, z_2, z_3, z_4, z_5, z_6, z_7, z_8, z_9, z_10, z_12, z_13, z_20, z_21, z_25, z_56, z_350, z_31, z_32, z_36, z_48, z_57, z_61, z_97, z_100, z_122, z_125, z_126, z_144, z_255, z_700, z_1000, z_1548, nI_add, pk_mul, pk_sub, nI_clamp, nI_leI, nI_ltI, nI_eq, z_in, z_m1, z_m1b, lg_cmp_eq, z_cmp, Decidable.not_not, w_ie, w_in, w_il, w_le, w_ln, w_li, w_ir, w_lr, x1] at c
    rw [if_pos (Or.inl (by omega))]
  · simp (disch := omega) only [z_0, z_1, z_2, z_3, z_4, z_5, z_6, z_7, z_8, z_9, z_10, z_12, z_13, z_20, z_21, z_25, z_56, z_350, z_31, z_32, z_36, z_48, z_57, z_61, z_97, z_100, z_122, z_125, z_126, z_144, z_255, z_700, z_1000, z_1548, nI_add, pk_mul, pk_sub, nI_clamp, nI_leI, nI_ltI, nI_eq, z_in, z_m1, z_m1b, lg_cmp_eq, z_cmp, Decidable.not_not, w_ie, w_in, w_il, w_le, w_ln, w_li, w_ir, w_lr, x1] at c
    simp (disch := omega) only [z_0, z_1, z_2, z_3, z_4, z_5, z_6, z_7, z_8, z_9, z_10, z_12, z_13, z_20, z_21, z_25, z_56, z_350, z_31, z_32, z_36, z_48, z_57, z_61, z_97, z_100, z_122, z_125, z_126, z_144, z_255, z_700, z_1000, z_1548, nI_add, pk_mul, pk_sub, nI_clamp, nI_leI, nI_ltI, nI_eq, z_in, z_m1, z_m1b, lg_cmp_eq, z_cmp, Decidable.not_not, w_ie, w_in, w_il, w_le, w_ln, w_li, w_ir, w_lr] at c2
    have good : ¬ (¬ rs.length < 4 ∨ pws X W f n = []) := by
      intro r
      rcases r with r | r
      · omega
      · have := congrArg List.length r
        unfold pws at this
        rw [ups_len] at this
        have e : n = 0 := this
        omega
    rw [if_neg good] at k0 k1
    obtain ⟨a7, isp⟩ := a5 rs.length (by omega)
    have a8 : h0.2.2 (q + 1) rs.length = some (q + 2 + 3 * rs.length) := H _ a7
    have kp := isp.1
    refine kb_132_15 (by first | with_reducible assumption | with_reducible exact kd_IN _ (by omega) | with_reducible exact kd_EC _ (by omega) | assumption) (by first | with_reducible assumption | exact rf_IN_rows H (by omega) | exact rf_EC_rows H (by omega) | assumption) (by first | with_reducible assumption | with_reducible exact kd_IN_rows _ (by omega) | with_reducible exact kd_EC_rows _ (by omega) | assumption) (by first | with_reducible assumption | (simp (disch := omega) only [z_0, z_1, z_2, z_3, z_4, z_5, z_6, z_7, z_8, z_9, z_10, z_12, z_13, z_20, z_21, z_25, z_56, z_350, z_31, z_32, z_36, z_48, z_57, z_61, z_97, z_100, z_122, z_125, z_126, z_144, z_255, z_700, z_1000, z_1548, nI_add, pk_mul, pk_sub, nI_clamp, nI_leI, nI_ltI, nI_eq, z_in, z_m1, z_m1b, lg_cmp_eq, z_cmp, Decidable.not_not, w_ie, w_in, w_il, w_le, w_ln, w_li, w_ir, w_lr, x1, a3, ln_P_tape, ln_W_text, ln_W_starts, ln_W_ends, ln_W_lines, ln_W_names, ln_W_values, ln_PL_jobs, ln_PL_parts, ln_FT_reached, ln_EX_jobs, ln_EX_codes, ln_CB_names, ln_CB_values, ln_M_tape, ln_M_source, ln_M_wordAt, ln_M_wordEnd, ln_M_names, ln_M_itemCount, ln_M_itemFirst, ln_M_itemWords, ln_M_itemUses, ln_M_keptAt, ln_M_keptEnd, ln_M_needCount, ln_M_axisCount, ln_M_valueCount, ln_M_needed, ln_M_axes, ln_M_values, ln_M_includes, ln_M_excludes, ln_M_pairCount, ln_M_pairName, ln_M_pairValue, ln_M_signCount, ln_M_signs, ln_M_signName, ln_M_signValue, ln_M_whose, ln_M_which, ln_M_pile, ln_M_reaches, ln_M_stepsOf, ln_M_known, ln_JB_needed, ln_JB_axes, ln_JS_used, ln_JS_stepWords, ln_PS_used, ln_PS_stepWords, ln_IN_rows, ln_EC_rows, ln_IR_names, ln_IR_values, ln_ER_names, ln_ER_values, ln_CD_kinds, ln_CD_names, ln_CD_values, ln_AX_values] <;> omega) | assumption) (by first | with_reducible assumption | exact rf_irows H (by omega) (by omega) | exact rf_erows H (by omega) (by omega) | (simp (disch := omega) only [z_0, z_1, z_2, z_3, z_4, z_5, z_6, z_7, z_8, z_9, z_10, z_12, z_13, z_20, z_21, z_25, z_56, z_350, z_31, z_32, z_36, z_48, z_57, z_61, z_97, z_100, z_122, z_125, z_126, z_144, z_255, z_700, z_1000, z_1548, nI_add, pk_mul, pk_sub, nI_clamp, nI_leI, nI_ltI, nI_eq, z_in, z_m1, z_m1b, lg_cmp_eq, z_cmp, Decidable.not_not, w_ie, w_in, w_il, w_le, w_ln, w_li, w_ir, w_lr, x1, a3]; exact rf_irows H (by omega) (by omega)) | (simp (disch := omega) only [z_0, z_1, z_2, z_3, z_4, z_5, z_6, z_7, z_8, z_9, z_10, z_12, z_13, z_20, z_21, z_25, z_56, z_350, z_31, z_32, z_36, z_48, z_57, z_61, z_97, z_100, z_122, z_125, z_126, z_144, z_255, z_700, z_1000, z_1548, nI_add, pk_mul, pk_sub, nI_clamp, nI_leI, nI_ltI, nI_eq, z_in, z_m1, z_m1b, lg_cmp_eq, z_cmp, Decidable.not_not, w_ie, w_in, w_il, w_le, w_ln, w_li, w_ir, w_lr, x1, a3]; exact rf_erows H (by omega) (by omega)) | (simp (disch := omega) only [z_0, z_1, z_2, z_3, z_4, z_5, z_6, z_7, z_8, z_9, z_10, z_12, z_13, z_20, z_21, z_25, z_56, z_350, z_31, z_32, z_36, z_48, z_57, z_61, z_97, z_100, z_122, z_125, z_126, z_144, z_255, z_700, z_1000, z_1548, nI_add, pk_mul, pk_sub, nI_clamp, nI_leI, nI_ltI, nI_eq, z_in, z_m1, z_m1b, lg_cmp_eq, z_cmp, Decidable.not_not, w_ie, w_in, w_il, w_le, w_ln, w_li, w_ir, w_lr, x1, a3]; assumption) | assumption) (by first | with_reducible assumption | with_reducible exact kd_IR _ (by omega) _ (by omega) | with_reducible exact kd_ER _ (by omega) _ (by omega) | assumption) ?_
    have loop : ∀ m i (h : mj_H) (ps : Pp), i + m = f + n → f ≤ i → fr (inR q rs.length) h0 h → h.1 q 1 = nI rs.length → PrC h (q + 2 + 3 * rs.length) ps → rwF ps (pws X W i m) = rwF [] (pws X W f n) → mr_M mj_KK d 132 35 [some (.ref q), some (.ref 2), none, some (.int (nI (f + n))), some (.ref (q + 2 + 3 * rs.length)), some (.int (nI i))] [] h Q := by
      intro m
      induction m with
      | zero =>
        intro i h ps hi hfi hf hc hx he
        have hv : rwF ps [] = some ps := rfl
        have he : rwF ps [] = rwF [] (pws X W f n) := he
        rw [← he, hv] at k1
        refine kb_132_35 (fun _ => kb_132_80 (by first | with_reducible assumption | with_reducible exact kd_IN _ (by omega) | with_reducible exact kd_EC _ (by omega) | assumption) ?_) (fun c => (by simp (disch := omega) only [z_0, z_1, z_2, z_3, z_4, z_5, z_6, z_7, z_8, z_9, z_10, z_12, z_13, z_20, z_21, z_25, z_56, z_350, z_31, z_32, z_36, z_48, z_57, z_61, z_97, z_100, z_122, z_125, z_126, z_144, z_255, z_700, z_1000, z_1548, nI_add, pk_mul, pk_sub, nI_clamp, nI_leI, nI_ltI, nI_eq, z_in, z_m1, z_m1b, lg_cmp_eq, z_cmp, Decidable.not_not, w_ie, w_in, w_il, w_le, w_ln, w_li, w_ir, w_lr] at c; exfalso; omega))
        rw [hc, nI_1]
        refine k1 (rs ++ [ps]) rfl _ ⟨?_, ?_, fun a ha => ?_⟩ (hf.wi (Or.inl ⟨rfl, rfl⟩))
        · rw [List.length_append]
          simp (disch := omega) only [z_0, z_1, z_2, z_3, z_4, z_5, z_6, z_7, z_8, z_9, z_10, z_12, z_13, z_20, z_21, z_25, z_56, z_350, z_31, z_32, z_36, z_48, z_57, z_61, z_97, z_100, z_122, z_125, z_126, z_144, z_255, z_700, z_1000, z_1548, nI_add, pk_mul, pk_sub, nI_clamp, nI_leI, nI_ltI, nI_eq, z_in, z_m1, z_m1b, lg_cmp_eq, z_cmp, Decidable.not_not, w_ie, w_in, w_il, w_le, w_ln, w_li, w_ir, w_lr]
          rfl
        · rw [List.length_append]
          show rs.length + 1 ≤ 4
          omega
        · rw [List.length_append] at ha
          have ha : a < rs.length + 1 := ha
          have g : fr (fun b i => b = q ∧ i = 1) h (mj_w h q 1 (.int (nI (rs.length + 1)))) := fr.rfl'.wi ⟨rfl, rfl⟩
          rcases Nat.lt_or_ge a rs.length with r | r
          · rw [getD_app_l r]
            exact ((x3 a r).fr hf (fun i => by unfold inR; omega)).fr g (fun i => by omega)
          · have e : a = rs.length := by omega
            subst e
            rw [getD_app_e]
            exact hx.fr g (fun i => by omega)
      | succ m ih =>
        intro i h ps hi hfi hf hc hx he
        have H := hf.rs H0
        have hW' : WW h X L W := hW.fr hf (fun a i h1 h2 => by unfold inR; omega)
        rw [pws_s] at he
        rw [rwF_s] at he
        refine kb_132_35 (fun c => (by simp (disch := omega) only [z_0, z_1, z_2, z_3, z_4, z_5, z_6, z_7, z_8, z_9, z_10, z_12, z_13, z_20, z_21, z_25, z_56, z_350, z_31, z_32, z_36, z_48, z_57, z_61, z_97, z_100, z_122, z_125, z_126, z_144, z_255, z_700, z_1000, z_1548, nI_add, pk_mul, pk_sub, nI_clamp, nI_leI, nI_ltI, nI_eq, z_in, z_m1, z_m1b, lg_cmp_eq, z_cmp, Decidable.not_not, w_ie, w_in, w_il, w_le, w_ln, w_li, w_ir, w_lr] at c; exfalso; omega)) (fun _ => kb_132_41 (by first | with_reducible assumption | with_reducible exact kd_W | assumption) (by omega) (s166 (by omega) H hW' (by omega) (fun p1 p2 p3 => ?_) (fun p1 => ?_)))
        · refine kb_132_47 (fun c => absurd c (by decide)) (fun _ => kb_132_50 (by first | with_reducible assumption | with_reducible exact kd_W | assumption) (by first | with_reducible assumption | exact rf_W_names H | assumption) (by first | with_reducible assumption | with_reducible exact kd_W_names | assumption) (by first | with_reducible assumption | (simp (disch := omega) only [z_0, z_1, z_2, z_3, z_4, z_5, z_6, z_7, z_8, z_9, z_10, z_12, z_13, z_20, z_21, z_25, z_56, z_350, z_31, z_32, z_36, z_48, z_57, z_61, z_97, z_100, z_122, z_125, z_126, z_144, z_255, z_700, z_1000, z_1548, nI_add, pk_mul, pk_sub, nI_clamp, nI_leI, nI_ltI, nI_eq, z_in, z_m1, z_m1b, lg_cmp_eq, z_cmp, Decidable.not_not, w_ie, w_in, w_il, w_le, w_ln, w_li, w_ir, w_lr, ln_P_tape, ln_W_text, ln_W_starts, ln_W_ends, ln_W_lines, ln_W_names, ln_W_values, ln_PL_jobs, ln_PL_parts, ln_FT_reached, ln_EX_jobs, ln_EX_codes, ln_CB_names, ln_CB_values, ln_M_tape, ln_M_source, ln_M_wordAt, ln_M_wordEnd, ln_M_names, ln_M_itemCount, ln_M_itemFirst, ln_M_itemWords, ln_M_itemUses, ln_M_keptAt, ln_M_keptEnd, ln_M_needCount, ln_M_axisCount, ln_M_valueCount, ln_M_needed, ln_M_axes, ln_M_values, ln_M_includes, ln_M_excludes, ln_M_pairCount, ln_M_pairName, ln_M_pairValue, ln_M_signCount, ln_M_signs, ln_M_signName, ln_M_signValue, ln_M_whose, ln_M_which, ln_M_pile, ln_M_reaches, ln_M_stepsOf, ln_M_known, ln_JB_needed, ln_JB_axes, ln_JS_used, ln_JS_stepWords, ln_PS_used, ln_PS_stepWords, ln_IN_rows, ln_EC_rows, ln_IR_names, ln_IR_values, ln_ER_names, ln_ER_values, ln_CD_kinds, ln_CD_names, ln_CD_values, ln_AX_values] <;> omega) | assumption) (by first | with_reducible assumption | exact rf_W_values H | assumption) (by first | with_reducible assumption | with_reducible exact kd_W_values | assumption) (by first | with_reducible assumption | (simp (disch := omega) only [z_0, z_1, z_2, z_3, z_4, z_5, z_6, z_7, z_8, z_9, z_10, z_12, z_13, z_20, z_21, z_25, z_56, z_350, z_31, z_32, z_36, z_48, z_57, z_61, z_97, z_100, z_122, z_125, z_126, z_144, z_255, z_700, z_1000, z_1548, nI_add, pk_mul, pk_sub, nI_clamp, nI_leI, nI_ltI, nI_eq, z_in, z_m1, z_m1b, lg_cmp_eq, z_cmp, Decidable.not_not, w_ie, w_in, w_il, w_le, w_ln, w_li, w_ir, w_lr, ln_P_tape, ln_W_text, ln_W_starts, ln_W_ends, ln_W_lines, ln_W_names, ln_W_values, ln_PL_jobs, ln_PL_parts, ln_FT_reached, ln_EX_jobs, ln_EX_codes, ln_CB_names, ln_CB_values, ln_M_tape, ln_M_source, ln_M_wordAt, ln_M_wordEnd, ln_M_names, ln_M_itemCount, ln_M_itemFirst, ln_M_itemWords, ln_M_itemUses, ln_M_keptAt, ln_M_keptEnd, ln_M_needCount, ln_M_axisCount, ln_M_valueCount, ln_M_needed, ln_M_axes, ln_M_values, ln_M_includes, ln_M_excludes, ln_M_pairCount, ln_M_pairName, ln_M_pairValue, ln_M_signCount, ln_M_signs, ln_M_signName, ln_M_signValue, ln_M_whose, ln_M_which, ln_M_pile, ln_M_reaches, ln_M_stepsOf, ln_M_known, ln_JB_needed, ln_JB_axes, ln_JS_used, ln_JS_stepWords, ln_PS_used, ln_PS_stepWords, ln_IN_rows, ln_EC_rows, ln_IR_names, ln_IR_values, ln_ER_names, ln_ER_values, ln_CD_kinds, ln_CD_names, ln_CD_values, ln_AX_values] <;> omega) | assumption) (by first | with_reducible assumption | with_reducible exact kd_CB | with_reducible exact kd_IR _ (by omega) _ (by omega) | with_reducible exact kd_ER _ (by omega) _ (by omega) | assumption) (by omega) ?_)
          rw [nI_clamp (by omega), p2, p3]
          generalize pw X (sp (W.getD i (0, 0, 0))) = v at he p1 ⊢
          refine s134 (by omega) isp H hx (fun r => ?_) (fun r1 r2 h2 g1 g2 => ?_)
          · refine kb_132_69 (fun c => absurd rfl c) (fun _ => kb_132_72 (k0 ?_ h hf))
            rw [if_pos (Or.inr r)] at he
            rw [← he]
            rfl
          · refine kb_132_69 (fun _ => kb_132_74 ?_) (fun c => absurd (by decide) c)
            rw [nI_1]
            rw [if_neg (fun r => r.elim p1 (fun r => r.elim (fun r => r r1) (fun r => r r2)))] at he
            have g2' : fr (inR q rs.length) h h2 := g2.mono (fun a i r => by unfold inR; unfold inP at r; omega)
            exact ih (i + 1) h2 (ps ++ [v]) (by omega) (by omega) (hf.trans g2') ((g2.n (by unfold inP; omega)).trans hc) g1 he
        · refine kb_132_47 (fun _ => kb_132_72 (k0 ?_ h hf)) (fun c => absurd rfl c)
          rw [if_pos (Or.inl p1)] at he
          rw [← he]
          rfl
    refine loop n f _ [] rfl (Nat.le_refl f) (fr.rfl'.wi (Or.inr (Or.inl rfl))) (by simp (disch := omega) only [z_0, z_1, z_2, z_3, z_4, z_5, z_6, z_7, z_8, z_9, z_10, z_12, z_13, z_20, z_21, z_25, z_56, z_350, z_31, z_32, z_36, z_48, z_57, z_61, z_97, z_100, z_122, z_125, z_126, z_144, z_255, z_700, z_1000, z_1548, nI_add, pk_mul, pk_sub, nI_clamp, nI_leI, nI_ltI, nI_eq, z_in, z_m1, z_m1b, lg_cmp_eq, z_cmp, Decidable.not_not, w_ie, w_in, w_il, w_le, w_ln, w_li, w_ir, w_lr, x1]) ⟨by simp (disch := omega) only [z_0, z_1, z_2, z_3, z_4, z_5, z_6, z_7, z_8, z_9, z_10, z_12, z_13, z_20, z_21, z_25, z_56, z_350, z_31, z_32, z_36, z_48, z_57, z_61, z_97, z_100, z_122, z_125, z_126, z_144, z_255, z_700, z_1000, z_1548, nI_add, pk_mul, pk_sub, nI_clamp, nI_leI, nI_ltI, nI_eq, z_in, z_m1, z_m1b, lg_cmp_eq, z_cmp, Decidable.not_not, w_ie, w_in, w_il, w_le, w_ln, w_li, w_ir, w_lr]; rfl, by decide, fun i hi => absurd hi (Nat.not_lt_zero i)⟩ rfl
  · simp (disch := omega) only [z_0, z_1, z_2, z_3, z_4, z_5, z_6, z_7, z_8, z_9, z_10, z_12, z_13, z_20, z_21, z_25, z_56, z_350, z_31, z_32, z_36, z_48, z_57, z_61, z_97, z_100, z_122, z_125, z_126, z_144, z_255, z_700, z_1000, z_1548, nI_add, pk_mul, pk_sub, nI_clamp, nI_leI, nI_ltI, nI_eq, z_in, z_m1, z_m1b, lg_cmp_eq, z_cmp, Decidable.not_not, w_ie, w_in, w_il, w_le, w_ln, w_li, w_ir, w_lr] at c2
    have : n = 0 := by omega
    subst this
    exact if_pos (Or.inr rfl)
/-- Job.begin -/
theorem s120 {d j : Nat} {h : mj_H} {Q : Option Value → mj_H → Prop} {y : Int64} (hd : 1 ≤ d) (hj : j < 12) (H : mj_RS h) (k : ∀ h', ScC h' (13 + 44 * j) (y, []) → h'.1 (13 + 44 * j) 4 = nI 0 → JrC h' j ([], [], [], [], [], []) → fr (fun a _ => 12 + 44 * j ≤ a ∧ a < 56 + 44 * j) h h' → Q none h') : mr_C mj_KK d 120 [.ref (12 + 44 * j), .long y] h Q := by
  show mr_M mj_KK d 120 0 [some (.ref (12 + 44 * j)), some (.long y), none] [] h Q
  refine kb_120_0 (by first | with_reducible assumption | with_reducible exact kd_JB _ (by omega) | assumption) (by first | with_reducible assumption | exact rf_JB_section H (by omega) | assumption) (by first | with_reducible assumption | with_reducible exact kd_JS _ (by omega) | assumption) (by omega) ?_
  show mr_M mj_KK (d - 1) 154 0 [some (.ref (13 + 44 * j)), some (.long y), none] [] h _
  refine kb_154_0 (kd_JS j hj) ?_
  refine kb_120_8 (by first | with_reducible assumption | with_reducible exact kd_JB _ (by omega) | assumption) (by first | with_reducible assumption | exact rf_JB_includes H (by omega) | assumption) (by first | with_reducible assumption | with_reducible exact kd_IN _ (by omega) | assumption) (by first | with_reducible assumption | exact rf_JB_excludes H (by omega) | assumption) (by first | with_reducible assumption | with_reducible exact kd_EC _ (by omega) | assumption) (by first | with_reducible assumption | exact rf_JB_condition H (by omega) | assumption) (by first | with_reducible assumption | with_reducible exact kd_CD _ (by omega) | assumption) (k _ ⟨?_, ?_, ?_, ?_⟩ ?_ ⟨⟨?_, ?_, Lh.nil⟩, ⟨?_, ?_, ?_⟩, ⟨?_, ?_, ?_⟩, ⟨?_, ?_, ?_⟩, ⟨?_, ?_, ?_⟩⟩ ?_)
  · simp (disch := omega) only [z_0, z_1, z_2, z_3, z_4, z_5, z_6, z_7, z_8, z_9, z_10, z_12, z_13, z_20, z_21, z_25, z_56, z_350, z_31, z_32, z_36, z_48, z_57, z_61, z_97, z_100, z_122, z_125, z_126, z_144, z_255, z_700, z_1000, z_1548, nI_add, pk_mul, pk_sub, nI_clamp, nI_leI, nI_ltI, nI_eq, z_in, z_m1, z_m1b, lg_cmp_eq, z_cmp, Decidable.not_not, w_ie, w_in, w_il, w_le, w_ln, w_li, w_ir, w_lr]
  · simp (disch := omega) only [z_0, z_1, z_2, z_3, z_4, z_5, z_6, z_7, z_8, z_9, z_10, z_12, z_13, z_20, z_21, z_25, z_56, z_350, z_31, z_32, z_36, z_48, z_57, z_61, z_97, z_100, z_122, z_125, z_126, z_144, z_255, z_700, z_1000, z_1548, nI_add, pk_mul, pk_sub, nI_clamp, nI_leI, nI_ltI, nI_eq, z_in, z_m1, z_m1b, lg_cmp_eq, z_cmp, Decidable.not_not, w_ie, w_in, w_il, w_le, w_ln, w_li, w_ir, w_lr]
    rfl
  · exact Nat.zero_le _
  · exact fun i hi => absurd hi (Nat.not_lt_zero i)
  · simp (disch := omega) only [z_0, z_1, z_2, z_3, z_4, z_5, z_6, z_7, z_8, z_9, z_10, z_12, z_13, z_20, z_21, z_25, z_56, z_350, z_31, z_32, z_36, z_48, z_57, z_61, z_97, z_100, z_122, z_125, z_126, z_144, z_255, z_700, z_1000, z_1548, nI_add, pk_mul, pk_sub, nI_clamp, nI_leI, nI_ltI, nI_eq, z_in, z_m1, z_m1b, lg_cmp_eq, z_cmp, Decidable.not_not, w_ie, w_in, w_il, w_le, w_ln, w_li, w_ir, w_lr]
  · simp (disch := omega) only [z_0, z_1, z_2, z_3, z_4, z_5, z_6, z_7, z_8, z_9, z_10, z_12, z_13, z_20, z_21, z_25, z_56, z_350, z_31, z_32, z_36, z_48, z_57, z_61, z_97, z_100, z_122, z_125, z_126, z_144, z_255, z_700, z_1000, z_1548, nI_add, pk_mul, pk_sub, nI_clamp, nI_leI, nI_ltI, nI_eq, z_in, z_m1, z_m1b, lg_cmp_eq, z_cmp, Decidable.not_not, w_ie, w_in, w_il, w_le, w_ln, w_li, w_ir, w_lr]
    rfl
  · exact Nat.zero_le _
  · simp (disch := omega) only [z_0, z_1, z_2, z_3, z_4, z_5, z_6, z_7, z_8, z_9, z_10, z_12, z_13, z_20, z_21, z_25, z_56, z_350, z_31, z_32, z_36, z_48, z_57, z_61, z_97, z_100, z_122, z_125, z_126, z_144, z_255, z_700, z_1000, z_1548, nI_add, pk_mul, pk_sub, nI_clamp, nI_leI, nI_ltI, nI_eq, z_in, z_m1, z_m1b, lg_cmp_eq, z_cmp, Decidable.not_not, w_ie, w_in, w_il, w_le, w_ln, w_li, w_ir, w_lr]
    rfl
  · exact Nat.zero_le _
  · exact fun i hi => absurd hi (Nat.not_lt_zero i)
  · simp (disch := omega) only [z_0, z_1, z_2, z_3, z_4, z_5, z_6, z_7, z_8, z_9, z_10, z_12, z_13, z_20, z_21, z_25, z_56, z_350, z_31, z_32, z_36, z_48, z_57, z_61, z_97, z_100, z_122, z_125, z_126, z_144, z_255, z_700, z_1000, z_1548, nI_add, pk_mul, pk_sub, nI_clamp, nI_leI, nI_ltI, nI_eq, z_in, z_m1, z_m1b, lg_cmp_eq, z_cmp, Decidable.not_not, w_ie, w_in, w_il, w_le, w_ln, w_li, w_ir, w_lr]
    rfl
  · exact Nat.zero_le _
  · exact fun i hi => absurd hi (Nat.not_lt_zero i)
  · simp (disch := omega) only [z_0, z_1, z_2, z_3, z_4, z_5, z_6, z_7, z_8, z_9, z_10, z_12, z_13, z_20, z_21, z_25, z_56, z_350, z_31, z_32, z_36, z_48, z_57, z_61, z_97, z_100, z_122, z_125, z_126, z_144, z_255, z_700, z_1000, z_1548, nI_add, pk_mul, pk_sub, nI_clamp, nI_leI, nI_ltI, nI_eq, z_in, z_m1, z_m1b, lg_cmp_eq, z_cmp, Decidable.not_not, w_ie, w_in, w_il, w_le, w_ln, w_li, w_ir, w_lr]
    rfl
  · exact Nat.zero_le _
  · exact fun i hi => absurd hi (Nat.not_lt_zero i)
  · simp (disch := omega) only [z_0, z_1, z_2, z_3, z_4, z_5, z_6, z_7, z_8, z_9, z_10, z_12, z_13, z_20, z_21, z_25, z_56, z_350, z_31, z_32, z_36, z_48, z_57, z_61, z_97, z_100, z_122, z_125, z_126, z_144, z_255, z_700, z_1000, z_1548, nI_add, pk_mul, pk_sub, nI_clamp, nI_leI, nI_ltI, nI_eq, z_in, z_m1, z_m1b, lg_cmp_eq, z_cmp, Decidable.not_not, w_ie, w_in, w_il, w_le, w_ln, w_li, w_ir, w_lr]
    rfl
  · exact Nat.zero_le _
  · exact fun i hi => absurd hi (Nat.not_lt_zero i)
  · exact (((((((fr.rfl'.wl (by omega)).wi (by omega)).wi (by omega)).wi (by omega)).wi (by omega)).wi (by omega)).wi (by omega)).wi (by omega)
/-- Section.begin -/
theorem s154 {d s : Nat} {h : mj_H} {Q : Option Value → mj_H → Prop} {y : Int64} (hs : isS s) (k : ∀ h', ScC h' s (y, []) → h'.1 s 4 = nI 0 → fr (fun a _ => a = s) h h' → Q none h') : mr_C mj_KK d 154 [.ref s, .long y] h Q := by
  show mr_M mj_KK d 154 0 [some (.ref s), some (.long y), none] [] h Q
  refine kb_154_0 hs.1 (k _ ⟨?_, ?_, ?_, ?_⟩ ?_ ?_)
  · simp (disch := omega) only [z_0, z_1, z_2, z_3, z_4, z_5, z_6, z_7, z_8, z_9, z_10, z_12, z_13, z_20, z_21, z_25, z_56, z_350, z_31, z_32, z_36, z_48, z_57, z_61, z_97, z_100, z_122, z_125, z_126, z_144, z_255, z_700, z_1000, z_1548, nI_add, pk_mul, pk_sub, nI_clamp, nI_leI, nI_ltI, nI_eq, z_in, z_m1, z_m1b, lg_cmp_eq, z_cmp, Decidable.not_not, w_ie, w_in, w_il, w_le, w_ln, w_li, w_ir, w_lr]
  · simp (disch := omega) only [z_0, z_1, z_2, z_3, z_4, z_5, z_6, z_7, z_8, z_9, z_10, z_12, z_13, z_20, z_21, z_25, z_56, z_350, z_31, z_32, z_36, z_48, z_57, z_61, z_97, z_100, z_122, z_125, z_126, z_144, z_255, z_700, z_1000, z_1548, nI_add, pk_mul, pk_sub, nI_clamp, nI_leI, nI_ltI, nI_eq, z_in, z_m1, z_m1b, lg_cmp_eq, z_cmp, Decidable.not_not, w_ie, w_in, w_il, w_le, w_ln, w_li, w_ir, w_lr]
    rfl
  · exact Nat.zero_le _
  · exact fun i hi => absurd hi (Nat.not_lt_zero i)
  · simp (disch := omega) only [z_0, z_1, z_2, z_3, z_4, z_5, z_6, z_7, z_8, z_9, z_10, z_12, z_13, z_20, z_21, z_25, z_56, z_350, z_31, z_32, z_36, z_48, z_57, z_61, z_97, z_100, z_122, z_125, z_126, z_144, z_255, z_700, z_1000, z_1548, nI_add, pk_mul, pk_sub, nI_clamp, nI_leI, nI_ltI, nI_eq, z_in, z_m1, z_m1b, lg_cmp_eq, z_cmp, Decidable.not_not, w_ie, w_in, w_il, w_le, w_ln, w_li, w_ir, w_lr]
  · exact fr.wi (P := fun a _ => a = s) (fr.wi (fr.wl fr.rfl' rfl) rfl) rfl
