-- ===== letters, text, branch =====
def nl (m : Nat) : Nat := nlF 8 m
theorem nlF_le {f m : Nat} : nlF f m ≤ f := by
  induction f generalizing m with
  | zero => exact Nat.le_refl 0
  | succ f ih =>
    rw [nlF_s]
    split
    · exact Nat.zero_le _
    · have := ih (m := m / 256)
      omega
theorem lN_0 {m : Nat} (h : m < 2 ^ 64) : lN m = 0 ↔ m = 0 := ⟨fun q => lN_inj h (by decide) q, fun q => by rw [q]; rfl⟩
/-- a letter of a name -/
def chr (m k : Nat) : Nat := m / 2 ^ (8 * (nl m - 1 - k)) % 256
section
variable {d m : Nat} {h : mj_H} {Q : Option Value → mj_H → Prop}
/-- nameLength -/
theorem s20 (hm : m < 2 ^ 63) (kk : Q (some (.int (nI (nl m)))) h) : mr_C mj_KK d 20 [.long (lN m)] h Q := by
  show mr_M mj_KK d 20 0 [some (.long (lN m)), none, none, none, none] [] h Q
  refine kb_20_0 ?_
  have loop : ∀ f i r, i + f = 8 → r < 256 ^ f → r < 2 ^ 64 → i + nlF f r = nl m → mr_M mj_KK d 20 4 [none, none, some (.int (nI i)), some (.long (lN r)), none] [] h Q := by
    intro f
    induction f with
    | zero =>
      intro i r hi hr h64 he
      have : r = 0 := by
        have : 256 ^ 0 = 1 := rfl
        omega
      subst this
      have he : i + 0 = nl m := he
      rw [← he] at kk
      exact kb_20_4 (fun _ => kb_20_27 kk) (fun c => absurd (by decide) c)
    | succ f ih =>
      intro i r hi hr h64 he
      rw [nlF_s] at he
      refine kb_20_4 (fun c => kb_20_27 ?_) (fun c => kb_20_10 (fun c => (by simp (disch := omega) only [z_0, z_1, z_2, z_3, z_4, z_5, z_6, z_7, z_8, z_9, z_10, z_12, z_13, z_20, z_21, z_25, z_56, z_350, z_31, z_32, z_36, z_48, z_57, z_61, z_97, z_100, z_122, z_125, z_126, z_144, z_255, z_700, z_1000, z_1548, nI_add, pk_mul, pk_sub, nI_clamp, nI_leI, nI_ltI, nI_eq, z_in, z_m1, z_m1b, lg_cmp_eq, z_cmp, Decidable.not_not, w_ie, w_in, w_il, w_le, w_ln, w_li, w_ir, w_lr] at c; exfalso; omega)) (fun _ => kb_20_16 ?_))
      · rw [lg_cmp_eq, lN_0 h64] at c
        rw [if_pos c, Nat.add_zero] at he
        rw [he]
        exact kk
      · rw [lg_cmp_eq, lN_0 h64] at c
        rw [if_neg c] at he
        have e8 := wb_shr (k := 8) h64 (by decide)
        have e9 : (lN r).toUInt64 >>> ((8 : Int32).toInt64.toUInt64 &&& Int64.toUInt64 63) = (lN r).toUInt64 >>> ((nI 8).toInt64.toUInt64 &&& Int64.toUInt64 63) := rfl
        rw [e9, e8, nI_1]
        refine ih (i + 1) (r / 2 ^ 8) (by omega) (Nat.div_lt_of_lt_mul (by rw [Nat.pow_succ] at hr; rw [Nat.mul_comm]; exact hr)) (Nat.lt_of_le_of_lt (Nat.div_le_self _ _) h64) ?_
        rw [← he]
        show i + 1 + nlF f (r / 256) = _
        omega
  exact loop 8 0 m rfl (by have : (256 : Nat) ^ 8 = 2 ^ 64 := by decide
                           omega) (by omega) (by show 0 + nlF 8 m = nl m; rw [Nat.zero_add]; rfl)
/-- lettersOf -/
theorem s28 (hm : m < 2 ^ 63) (kk : Q (some (.int (nI (nl m)))) h) : mr_C mj_KK d 28 [.long (lN m)] h Q := by
  show mr_M mj_KK d 28 0 [some (.long (lN m)), none, none, none, none] [] h Q
  refine kb_28_0 ?_
  have loop : ∀ f i r, i + f = 8 → r < 256 ^ f → r < 2 ^ 63 → i + nlF f r = nl m → mr_M mj_KK d 28 4 [none, none, some (.int (nI i)), some (.long (lN r)), none] [] h Q := by
    intro f
    induction f with
    | zero =>
      intro i r hi hr h64 he
      have : r = 0 := by
        have : 256 ^ 0 = 1 := rfl
        omega
      subst this
      have he : i + 0 = nl m := he
      rw [← he] at kk
      exact kb_28_4 (fun _ => kb_28_21 kk) (fun c => absurd (by decide) c)
    | succ f ih =>
      intro i r hi hr h64 he
      rw [nlF_s] at he
      refine kb_28_4 (fun c => kb_28_21 ?_) (fun c => kb_28_10 ?_)
      · rw [lg_cmp_eq, lN_0 (by omega)] at c
        rw [if_pos c, Nat.add_zero] at he
        rw [he]
        exact kk
      · rw [lg_cmp_eq, lN_0 (by omega)] at c
        rw [if_neg c] at he
        rw [sr8 h64, nI_1]
        refine ih (i + 1) (r / 256) (by omega) (Nat.div_lt_of_lt_mul (by rw [Nat.pow_succ] at hr; rw [Nat.mul_comm]; exact hr)) (Nat.lt_of_le_of_lt (Nat.div_le_self _ _) h64) ?_
        omega
  exact loop 8 0 m rfl (by have : (256 : Nat) ^ 8 = 2 ^ 64 := by decide
                           omega) hm (by show 0 + nlF 8 m = nl m; rw [Nat.zero_add]; rfl)
/-- nameCharacter -/
theorem s21 {x : Int32} (hd : 1 ≤ d) (hm : m < 2 ^ 63) (k0 : (x < 0 ∨ ¬ x < nI (nl m)) → Q (some (.int (-1))) h) (k1 : ∀ k, x = nI k → k < nl m → Q (some (.int (nI (chr m k)))) h) : mr_C mj_KK d 21 [.long (lN m), .int x] h Q := by
  show mr_M mj_KK d 21 0 [some (.long (lN m)), none, some (.int x), none] [] h Q
  have n8 : nl m ≤ 8 := nlF_le
  refine kb_21_0 (by omega) (s20 hm (kb_21_4 (fun c => kb_21_14 (kb_21_33 (k0 (Or.inl c)))) (fun c => kb_21_9 (fun c2 => kb_21_18 (kb_21_33 ?_)) (fun c2 => kb_21_14 (kb_21_33 (k0 (Or.inr c2)))))))
  obtain ⟨k, e, h1, h2⟩ := mr_swN (x := x) (l2 := 0) (h2 := 7) 0 7 rfl rfl (by
    rw [Int32.lt_iff_toInt_lt] at c c2
    rw [nI_toInt (by omega)] at c2
    have e0 : (0 : Int32).toInt = 0 := by decide
    omega) (by decide)
  subst e
  simp (disch := omega) only [z_0, z_1, z_2, z_3, z_4, z_5, z_6, z_7, z_8, z_9, z_10, z_12, z_13, z_20, z_21, z_25, z_56, z_350, z_31, z_32, z_36, z_48, z_57, z_61, z_97, z_100, z_122, z_125, z_126, z_144, z_255, z_700, z_1000, z_1548, nI_add, pk_mul, pk_sub, nI_clamp, nI_leI, nI_ltI, nI_eq, z_in, z_m1, z_m1b, lg_cmp_eq, z_cmp, Decidable.not_not, w_ie, w_in, w_il, w_le, w_ln, w_li, w_ir, w_lr] at c2
  have e8 : (8 : Int32) * (nI (nl m) - 1 - nI k) = nI (8 * (nl m - 1 - k)) := by rw [show (1 : Int32) = nI 1 from rfl, show (8 : Int32) = nI 8 from rfl, pk_sub (by omega), pk_sub (by omega), pk_mul]
  rw [e8, by_u (by omega) (by omega)]
  exact k1 k rfl c2
/-- letter -/
theorem s29 {k : Nat} (hd : 1 ≤ d) (hm : m < 2 ^ 63) (hk : k < nl m) (kk : Q (some (.int (nI (chr m k)))) h) : mr_C mj_KK d 29 [.long (lN m), .int (nI k)] h Q := by
  show mr_M mj_KK d 29 0 [some (.long (lN m)), none, some (.int (nI k))] [] h Q
  have n8 : nl m ≤ 8 := nlF_le
  refine kb_29_0 (by omega) (s28 hm (kb_29_7 ?_))
  have e8 : (8 : Int32) * (nI (nl m) - 1 - nI k) = nI (8 * (nl m - 1 - k)) := by rw [show (1 : Int32) = nI 1 from rfl, show (8 : Int32) = nI 8 from rfl, pk_sub (by omega), pk_sub (by omega), pk_mul]
  rw [e8, by_s (by omega) (by omega)]
  exact kk
end
/-- the bytes of a word, the highest first -/
def nb (N i : Nat) : Nat := N / 2 ^ (56 - 8 * i) % 256
def okc (b : Nat) : Prop := b = 10 ∨ (32 ≤ b ∧ b ≤ 126)
def ap8 (N : Nat) : Nat → List Nat
  | 0 => []
  | i + 1 => ap8 N i ++ (if nb N i = 0 then [] else [nb N i])
theorem ap8_s {N i : Nat} : ap8 N (i + 1) = ap8 N i ++ (if nb N i = 0 then [] else [nb N i]) := rfl
theorem ap8_len {N i : Nat} : (ap8 N (i + 1)).length = (ap8 N i).length + (if nb N i = 0 then 0 else 1) := by
  rw [ap8_s, List.length_append]
  split <;> rfl
theorem ap8_mono {N i j : Nat} : (ap8 N i).length ≤ (ap8 N (i + j)).length := by
  induction j with
  | zero => exact Nat.le_refl _
  | succ j ih =>
    rw [← Nat.add_assoc, ap8_len]
    omega
theorem ap8_le {N i : Nat} : (ap8 N i).length ≤ i := by
  induction i with
  | zero => exact Nat.le_refl 0
  | succ i ih =>
    rw [ap8_len]
    split <;> omega
def gdN (N i : Nat) : Prop := ∀ k, k < i → nb N k = 0 ∨ okc (nb N k)
theorem ap8_ok {N i : Nat} (h : gdN N i) : ∀ b ∈ ap8 N i, okc b := by
  induction i with
  | zero => exact fun b hb => absurd hb List.not_mem_nil
  | succ i ih =>
    intro b hb
    rw [ap8_s] at hb
    rcases List.mem_append.mp hb with w | w
    · exact ih (fun k hk => h k (by omega)) b w
    · split at w
      · exact absurd w List.not_mem_nil
      · rename_i q
        rw [List.mem_singleton.mp w]
        exact (h i (by omega)).elim (fun r => absurd r q) id
def shv (i : Nat) : Int32 := if i < 8 then nI (56 - 8 * i) else -8
theorem shv_s : ∀ i, i < 8 → shv i + (-8) = shv (i + 1) := by decide +kernel
theorem shv_n : ∀ i, i < 8 → ¬ shv i < 0 := by decide +kernel
theorem nar3 : ∀ b, b < 127 → vp_nar .char (((nI b).toUInt32 % 65536).toInt32) = nI b := by decide +kernel
theorem nb_lt {N i : Nat} : nb N i < 256 := Nat.mod_lt _ (by decide)
section
variable {d n N : Nat} {h0 : mj_H} {Q : Option Value → mj_H → Prop}
/-- isTapeCharacter -/
theorem s16 {b : Nat} {h : mj_H} (hb : b < 256) (k1 : okc b → Q (some (.int 1)) h) (k0 : ¬ okc b → Q (some (.int 0)) h) : mr_C mj_KK d 16 [.int (nI b)] h Q := by
  show mr_M mj_KK d 16 0 [some (.int (nI b))] [] h Q
  unfold okc at k1 k0
  refine kb_16_0 (fun c => kb_16_18 (kb_16_23 (by first | assumption | exact b2i_01 _ | exact Or.inl rfl | exact Or.inr rfl) (k1 (Or.inl ?_)))) (fun c => kb_16_6 (fun c2 => kb_16_22 (kb_16_23 (by first | assumption | exact b2i_01 _ | exact Or.inl rfl | exact Or.inr rfl) (k0 ?_))) (fun c2 => kb_16_12 (fun c3 => kb_16_22 (kb_16_23 (by first | assumption | exact b2i_01 _ | exact Or.inl rfl | exact Or.inr rfl) (k0 ?_))) (fun c3 => kb_16_18 (kb_16_23 (by first | assumption | exact b2i_01 _ | exact Or.inl rfl | exact Or.inr rfl) (k1 (Or.inr ?_))))))
  · simp (disch := omega) only [z_0, z_1, z_2, z_3, z_4, z_5, z_6, z_7, z_8, z_9, z_10, z_12, z_13, z_20, z_21, z_25, z_56, z_350, z_31, z_32, z_36, z_48, z_57, z_61, z_97, z_100, z_122, z_125, z_126, z_144, z_255, z_700, z_1000, z_1548, nI_add, pk_mul, pk_sub, nI_clamp, nI_leI, nI_ltI, nI_eq, z_in, z_m1, z_m1b, lg_cmp_eq, z_cmp, Decidable.not_not, w_ie, w_in, w_il, w_le, w_ln, w_li, w_ir, w_lr] at c
    exact c
  · simp (disch := omega) only [z_0, z_1, z_2, z_3, z_4, z_5, z_6, z_7, z_8, z_9, z_10, z_12, z_13, z_20, z_21, z_25, z_56, z_350, z_31, z_32, z_36, z_48, z_57, z_61, z_97, z_100, z_122, z_125, z_126, z_144, z_255, z_700, z_1000, z_1548, nI_add, pk_mul, pk_sub, nI_clamp, nI_leI, nI_ltI, nI_eq, z_in, z_m1, z_m1b, lg_cmp_eq, z_cmp, Decidable.not_not, w_ie, w_in, w_il, w_le, w_ln, w_li, w_ir, w_lr] at c c2
    omega
  · simp (disch := omega) only [z_0, z_1, z_2, z_3, z_4, z_5, z_6, z_7, z_8, z_9, z_10, z_12, z_13, z_20, z_21, z_25, z_56, z_350, z_31, z_32, z_36, z_48, z_57, z_61, z_97, z_100, z_122, z_125, z_126, z_144, z_255, z_700, z_1000, z_1548, nI_add, pk_mul, pk_sub, nI_clamp, nI_leI, nI_ltI, nI_eq, z_in, z_m1, z_m1b, lg_cmp_eq, z_cmp, Decidable.not_not, w_ie, w_in, w_il, w_le, w_ln, w_li, w_ir, w_lr] at c c3
    omega
  · simp (disch := omega) only [z_0, z_1, z_2, z_3, z_4, z_5, z_6, z_7, z_8, z_9, z_10, z_12, z_13, z_20, z_21, z_25, z_56, z_350, z_31, z_32, z_36, z_48, z_57, z_61, z_97, z_100, z_122, z_125, z_126, z_144, z_255, z_700, z_1000, z_1548, nI_add, pk_mul, pk_sub, nI_clamp, nI_leI, nI_ltI, nI_eq, z_in, z_m1, z_m1b, lg_cmp_eq, z_cmp, Decidable.not_not, w_ie, w_in, w_il, w_le, w_ln, w_li, w_ir, w_lr] at c2 c3
    omega
/-- text, of the class -/
theorem s1 (hd : 1 ≤ d) (H0 : mj_RS h0) (hN : N < 2 ^ 64) (hn : n ≤ 700) (h1 : h0.1 0 1 = nI n) (k0 : (¬ gdN N 8 ∨ 700 < n + (ap8 N 8).length) → ∀ h', fr (fun a i => a = 1 ∧ n ≤ i) h0 h' → Q (some (.int 0)) h') (k1 : gdN N 8 → n + (ap8 N 8).length ≤ 700 → ∀ h', h'.1 0 1 = nI (n + (ap8 N 8).length) → (∀ q, q < (ap8 N 8).length → h'.1 1 (n + q) = nI ((ap8 N 8).getD q 0)) → fr (fun a i => (a = 1 ∧ n ≤ i) ∨ (a = 0 ∧ i = 1)) h0 h' → Q (some (.int 1)) h') : mr_C mj_KK d 1 [.ref 0, .long (lN N)] h0 Q := by
  show mr_M mj_KK d 1 0 [some (.ref 0), some (.long (lN N)), none, none, none, none] [] h0 Q
  refine kb_1_0 (by first | with_reducible assumption | with_reducible exact kd_P | assumption) ?_
  rw [h1]
  have loop : ∀ m i (h : mj_H), i + m = 8 → gdN N i → n + (ap8 N i).length ≤ 700 → fr (fun a i => a = 1 ∧ n ≤ i) h0 h → (∀ q, q < (ap8 N i).length → h.1 1 (n + q) = nI ((ap8 N i).getD q 0)) → mr_M mj_KK d 1 9 [some (.ref 0), some (.long (lN N)), none, some (.int (nI (n + (ap8 N i).length))), some (.int (shv i)), none] [] h Q := by
    intro m
    induction m with
    | zero =>
      intro i h hi hg hl hf hq
      have e : i = 8 := by omega
      subst e
      refine kb_1_9 (fun _ => kb_1_68 (by first | with_reducible assumption | with_reducible exact kd_P | assumption) (k1 hg hl _ (w_ie ⟨rfl, rfl⟩) (fun q hq2 => ?_) ((hf.mono (fun a i r => Or.inl r)).wi (Or.inr ⟨rfl, rfl⟩)))) (fun c => absurd (by decide) c)
      rw [w_in (by omega)]
      exact hq q hq2
    | succ m ih =>
      intro i h hi hg hl hf hq
      have H := hf.rs H0
      have es : shv i = nI (56 - 8 * i) := if_pos (by omega)
      have eb := by_u hN (show 56 - 8 * i < 64 by omega)
      have nbi : nI (N / 2 ^ (56 - 8 * i) % 256) = nI (nb N i) := rfl
      rw [nbi] at eb
      have bl := nb_lt (N := N) (i := i)
      have nx := shv_s i (by omega)
      refine kb_1_9 (fun c => absurd c (shv_n i (by omega))) (fun _ => kb_1_14 (fun c => ?_) (fun c => kb_1_30 (kb_1_62 ?_)))
      · rw [es, eb] at c ⊢
        simp (disch := omega) only [z_0, z_1, z_2, z_3, z_4, z_5, z_6, z_7, z_8, z_9, z_10, z_12, z_13, z_20, z_21, z_25, z_56, z_350, z_31, z_32, z_36, z_48, z_57, z_61, z_97, z_100, z_122, z_125, z_126, z_144, z_255, z_700, z_1000, z_1548, nI_add, pk_mul, pk_sub, nI_clamp, nI_leI, nI_ltI, nI_eq, z_in, z_m1, z_m1b, lg_cmp_eq, z_cmp, Decidable.not_not, w_ie, w_in, w_il, w_le, w_ln, w_li, w_ir, w_lr] at c
        refine kb_1_33 (by omega) (s16 bl (fun o => ?_) (fun o => ?_))
        · refine kb_1_38 (fun c => absurd c (by decide)) (fun _ => kb_1_41 (fun c2 => ?_) (fun c2 => kb_1_48 (k0 (Or.inr ?_) h hf)))
          · simp (disch := omega) only [z_0, z_1, z_2, z_3, z_4, z_5, z_6, z_7, z_8, z_9, z_10, z_12, z_13, z_20, z_21, z_25, z_56, z_350, z_31, z_32, z_36, z_48, z_57, z_61, z_97, z_100, z_122, z_125, z_126, z_144, z_255, z_700, z_1000, z_1548, nI_add, pk_mul, pk_sub, nI_clamp, nI_leI, nI_ltI, nI_eq, z_in, z_m1, z_m1b, lg_cmp_eq, z_cmp, Decidable.not_not, w_ie, w_in, w_il, w_le, w_ln, w_li, w_ir, w_lr] at c2
            refine kb_1_50 (by first | with_reducible assumption | with_reducible exact kd_P | assumption) (by first | with_reducible assumption | exact rf_P_tape H | assumption) (by first | with_reducible assumption | with_reducible exact kd_P_tape | assumption) (by first | with_reducible assumption | (simp (disch := omega) only [z_0, z_1, z_2, z_3, z_4, z_5, z_6, z_7, z_8, z_9, z_10, z_12, z_13, z_20, z_21, z_25, z_56, z_350, z_31, z_32, z_36, z_48, z_57, z_61, z_97, z_100, z_122, z_125, z_126, z_144, z_255, z_700, z_1000, z_1548, nI_add, pk_mul, pk_sub, nI_clamp, nI_leI, nI_ltI, nI_eq, z_in, z_m1, z_m1b, lg_cmp_eq, z_cmp, Decidable.not_not, w_ie, w_in, w_il, w_le, w_ln, w_li, w_ir, w_lr, ln_P_tape, ln_W_text, ln_W_starts, ln_W_ends, ln_W_lines, ln_W_names, ln_W_values, ln_PL_jobs, ln_PL_parts, ln_FT_reached, ln_EX_jobs, ln_EX_codes, ln_CB_names, ln_CB_values, ln_M_tape, ln_M_source, ln_M_wordAt, ln_M_wordEnd, ln_M_names, ln_M_itemCount, ln_M_itemFirst, ln_M_itemWords, ln_M_itemUses, ln_M_keptAt, ln_M_keptEnd, ln_M_needCount, ln_M_axisCount, ln_M_valueCount, ln_M_needed, ln_M_axes, ln_M_values, ln_M_includes, ln_M_excludes, ln_M_pairCount, ln_M_pairName, ln_M_pairValue, ln_M_signCount, ln_M_signs, ln_M_signName, ln_M_signValue, ln_M_whose, ln_M_which, ln_M_pile, ln_M_reaches, ln_M_stepsOf, ln_M_known, ln_JB_needed, ln_JB_axes, ln_JS_used, ln_JS_stepWords, ln_PS_used, ln_PS_stepWords, ln_IN_rows, ln_EC_rows, ln_IR_names, ln_IR_values, ln_ER_names, ln_ER_values, ln_CD_kinds, ln_CD_names, ln_CD_values, ln_AX_values] <;> omega) | assumption) (kb_1_62 ?_)
            have b127 : nb N i < 127 := by
              unfold okc at o
              omega
            rw [nI_clamp (by omega), nar3 _ b127, nI_1, ← es, nx]
            have el : (ap8 N (i + 1)).length = (ap8 N i).length + 1 := by rw [ap8_len, if_neg c]
            have ea : ap8 N (i + 1) = ap8 N i ++ [nb N i] := by rw [ap8_s, if_neg c]
            have := ih (i + 1) (mj_w h 1 (n + (ap8 N i).length) (.int (nI (nb N i)))) (by omega) (fun k hk => by
              rcases Nat.lt_or_ge k i with w | w
              · exact hg k w
              · have : k = i := by omega
                rw [this]
                exact Or.inr o) (by omega) (hf.wi ⟨rfl, by omega⟩) (fun q hq2 => by
              rw [ea]
              rcases Nat.lt_or_ge q (ap8 N i).length with w | w
              · rw [getD_app_l w, w_in (by omega)]
                exact hq q w
              · have : q = (ap8 N i).length := by omega
                rw [this, getD_app_e, w_ie ⟨rfl, rfl⟩])
            rw [el, ← Nat.add_assoc] at this
            exact this
          · simp (disch := omega) only [z_0, z_1, z_2, z_3, z_4, z_5, z_6, z_7, z_8, z_9, z_10, z_12, z_13, z_20, z_21, z_25, z_56, z_350, z_31, z_32, z_36, z_48, z_57, z_61, z_97, z_100, z_122, z_125, z_126, z_144, z_255, z_700, z_1000, z_1548, nI_add, pk_mul, pk_sub, nI_clamp, nI_leI, nI_ltI, nI_eq, z_in, z_m1, z_m1b, lg_cmp_eq, z_cmp, Decidable.not_not, w_ie, w_in, w_il, w_le, w_ln, w_li, w_ir, w_lr] at c2
            have el : (ap8 N (i + 1)).length = (ap8 N i).length + 1 := by rw [ap8_len, if_neg c]
            have := ap8_mono (N := N) (i := i + 1) (j := 8 - (i + 1))
            rw [show i + 1 + (8 - (i + 1)) = 8 from by omega] at this
            omega
        · refine kb_1_38 (fun _ => kb_1_48 (k0 (Or.inl (fun g => ?_)) h hf)) (fun c => absurd rfl c)
          exact (g i (by omega)).elim c o
      · rw [es, eb] at c
        simp (disch := omega) only [z_0, z_1, z_2, z_3, z_4, z_5, z_6, z_7, z_8, z_9, z_10, z_12, z_13, z_20, z_21, z_25, z_56, z_350, z_31, z_32, z_36, z_48, z_57, z_61, z_97, z_100, z_122, z_125, z_126, z_144, z_255, z_700, z_1000, z_1548, nI_add, pk_mul, pk_sub, nI_clamp, nI_leI, nI_ltI, nI_eq, z_in, z_m1, z_m1b, lg_cmp_eq, z_cmp, Decidable.not_not, w_ie, w_in, w_il, w_le, w_ln, w_li, w_ir, w_lr] at c
        rw [nx]
        have ea : ap8 N (i + 1) = ap8 N i := by rw [ap8_s, if_pos c, List.append_nil]
        have := ih (i + 1) h (by omega) (fun k hk => by
          rcases Nat.lt_or_ge k i with w | w
          · exact hg k w
          · have : k = i := by omega
            rw [this]
            exact Or.inl c) (by rw [ea]; exact hl) hf (by rw [ea]; exact hq)
        rw [ea] at this
        exact this
  exact loop 8 0 h0 rfl (fun k hk => absurd hk (Nat.not_lt_zero k)) (by show n + 0 ≤ 700; omega) fr.rfl' (fun q hq => absurd hq (Nat.not_lt_zero q))
/-- text, of the reference -/
theorem s24 (hd : 1 ≤ d) (H0 : mj_RS h0) (hN : N < 2 ^ 64) (hn : n ≤ 700) (h1 : h0.1 573 2 = nI n) (k0 : (¬ gdN N 8 ∨ 700 < n + (ap8 N 8).length) → Q (some (.int 0)) h0) (k1 : gdN N 8 → n + (ap8 N 8).length ≤ 700 → ∀ h', h'.1 573 2 = nI (n + (ap8 N 8).length) → (∀ q, q < (ap8 N 8).length → h'.1 574 (n + q) = nI ((ap8 N 8).getD q 0)) → fr (fun a i => (a = 574 ∧ n ≤ i) ∨ (a = 573 ∧ i = 2)) h0 h' → Q (some (.int 1)) h') : mr_C mj_KK d 24 [.ref 573, .long (lN N)] h0 Q := by
  show mr_M mj_KK d 24 0 [some (.ref 573), some (.long (lN N)), none, none, none, none] [] h0 Q
  refine kb_24_0 ?_
  have loop2 : gdN N 8 → n + (ap8 N 8).length ≤ 700 → ∀ m i (h : mj_H), i + m = 8 → h.1 573 2 = nI (n + (ap8 N i).length) → fr (fun a i => (a = 574 ∧ n ≤ i) ∨ (a = 573 ∧ i = 2)) h0 h → (∀ q, q < (ap8 N i).length → h.1 574 (n + q) = nI ((ap8 N i).getD q 0)) → mr_M mj_KK d 24 87 [some (.ref 573), some (.long (lN N)), none, none, some (.int (shv i)), none] [] h Q := by
    intro g8 l8 m
    induction m with
    | zero =>
      intro i h hi h2 hf hq
      have e : i = 8 := by omega
      subst e
      exact kb_24_87 (fun _ => kb_24_135 (k1 g8 l8 h h2 hq hf)) (fun c => absurd (by decide) c)
    | succ m ih =>
      intro i h hi h2 hf hq
      have H := hf.rs H0
      have es : shv i = nI (56 - 8 * i) := if_pos (by omega)
      have eb := by_s hN (show 56 - 8 * i ≤ 56 by omega)
      have nbi : nI (N / 2 ^ (56 - 8 * i) % 256) = nI (nb N i) := rfl
      rw [nbi] at eb
      have bl := nb_lt (N := N) (i := i)
      have nx := shv_s i (by omega)
      have lm := ap8_mono (N := N) (i := i + 1) (j := 8 - (i + 1))
      rw [show i + 1 + (8 - (i + 1)) = 8 from by omega] at lm
      refine kb_24_87 (fun c => absurd c (shv_n i (by omega))) (fun _ => kb_24_92 (fun c => kb_24_129 ?_) (fun c => ?_))
      · rw [es, eb] at c
        simp (disch := omega) only [z_0, z_1, z_2, z_3, z_4, z_5, z_6, z_7, z_8, z_9, z_10, z_12, z_13, z_20, z_21, z_25, z_56, z_350, z_31, z_32, z_36, z_48, z_57, z_61, z_97, z_100, z_122, z_125, z_126, z_144, z_255, z_700, z_1000, z_1548, nI_add, pk_mul, pk_sub, nI_clamp, nI_leI, nI_ltI, nI_eq, z_in, z_m1, z_m1b, lg_cmp_eq, z_cmp, Decidable.not_not, w_ie, w_in, w_il, w_le, w_ln, w_li, w_ir, w_lr] at c
        rw [nx]
        have ea : ap8 N (i + 1) = ap8 N i := by rw [ap8_s, if_pos c, List.append_nil]
        exact ih (i + 1) h (by omega) (by rw [ea]; exact h2) hf (by rw [ea]; exact hq)
      · rw [es, eb] at c ⊢
        simp (disch := omega) only [z_0, z_1, z_2, z_3, z_4, z_5, z_6, z_7, z_8, z_9, z_10, z_12, z_13, z_20, z_21, z_25, z_56, z_350, z_31, z_32, z_36, z_48, z_57, z_61, z_97, z_100, z_122, z_125, z_126, z_144, z_255, z_700, z_1000, z_1548, nI_add, pk_mul, pk_sub, nI_clamp, nI_leI, nI_ltI, nI_eq, z_in, z_m1, z_m1b, lg_cmp_eq, z_cmp, Decidable.not_not, w_ie, w_in, w_il, w_le, w_ln, w_li, w_ir, w_lr] at c
        have el : (ap8 N (i + 1)).length = (ap8 N i).length + 1 := by rw [ap8_len, if_neg c]
        have ea : ap8 N (i + 1) = ap8 N i ++ [nb N i] := by rw [ap8_s, if_neg c]
        refine kb_24_108 (by first | with_reducible assumption | with_reducible exact kd_M | assumption) (by first | with_reducible assumption | exact rf_M_tape H | assumption) (by first | with_reducible assumption | with_reducible exact kd_M_tape | assumption) (by first | with_reducible assumption | (simp (disch := omega) only [z_0, z_1, z_2, z_3, z_4, z_5, z_6, z_7, z_8, z_9, z_10, z_12, z_13, z_20, z_21, z_25, z_56, z_350, z_31, z_32, z_36, z_48, z_57, z_61, z_97, z_100, z_122, z_125, z_126, z_144, z_255, z_700, z_1000, z_1548, nI_add, pk_mul, pk_sub, nI_clamp, nI_leI, nI_ltI, nI_eq, z_in, z_m1, z_m1b, lg_cmp_eq, z_cmp, Decidable.not_not, w_ie, w_in, w_il, w_le, w_ln, w_li, w_ir, w_lr, h2, ln_P_tape, ln_W_text, ln_W_starts, ln_W_ends, ln_W_lines, ln_W_names, ln_W_values, ln_PL_jobs, ln_PL_parts, ln_FT_reached, ln_EX_jobs, ln_EX_codes, ln_CB_names, ln_CB_values, ln_M_tape, ln_M_source, ln_M_wordAt, ln_M_wordEnd, ln_M_names, ln_M_itemCount, ln_M_itemFirst, ln_M_itemWords, ln_M_itemUses, ln_M_keptAt, ln_M_keptEnd, ln_M_needCount, ln_M_axisCount, ln_M_valueCount, ln_M_needed, ln_M_axes, ln_M_values, ln_M_includes, ln_M_excludes, ln_M_pairCount, ln_M_pairName, ln_M_pairValue, ln_M_signCount, ln_M_signs, ln_M_signName, ln_M_signValue, ln_M_whose, ln_M_which, ln_M_pile, ln_M_reaches, ln_M_stepsOf, ln_M_known, ln_JB_needed, ln_JB_axes, ln_JS_used, ln_JS_stepWords, ln_PS_used, ln_PS_stepWords, ln_IN_rows, ln_EC_rows, ln_IR_names, ln_IR_values, ln_ER_names, ln_ER_values, ln_CD_kinds, ln_CD_names, ln_CD_values, ln_AX_values] <;> omega) | assumption) (kb_24_129 ?_)
        simp (disch := omega) only [h2, w_in, w_ie, nI_clamp, nI_1]
        rw [← es, nx]
        refine ih (i + 1) _ (by omega) (by rw [el, ← Nat.add_assoc]; exact w_ie ⟨rfl, rfl⟩) ((hf.wi (Or.inl ⟨rfl, by omega⟩)).wi (Or.inr ⟨rfl, rfl⟩)) (fun q hq2 => ?_)
        rw [ea, w_in (by omega)]
        rcases Nat.lt_or_ge q (ap8 N i).length with w | w
        · rw [getD_app_l w, w_in (by omega)]
          exact hq q w
        · have : q = (ap8 N i).length := by omega
          rw [this, getD_app_e, w_ie ⟨rfl, rfl⟩]
  have loop1 : ∀ m i, i + m = 8 → gdN N i → mr_M mj_KK d 24 6 [some (.ref 573), some (.long (lN N)), none, some (.int (nI (ap8 N i).length)), some (.int (shv i)), none] [] h0 Q := by
    intro m
    induction m with
    | zero =>
      intro i hi hg
      have e : i = 8 := by omega
      subst e
      have l8 := ap8_le (N := N) (i := 8)
      refine kb_24_6 (fun _ => kb_24_69 (by first | with_reducible assumption | with_reducible exact kd_M | assumption) (fun c => kb_24_83 (loop2 hg ?_ 8 0 h0 rfl h1 fr.rfl' (fun q hq => absurd hq (Nat.not_lt_zero q)))) (fun c => kb_24_81 (k0 (Or.inr ?_)))) (fun c => absurd (by decide) c)
      · simp (disch := omega) only [z_0, z_1, z_2, z_3, z_4, z_5, z_6, z_7, z_8, z_9, z_10, z_12, z_13, z_20, z_21, z_25, z_56, z_350, z_31, z_32, z_36, z_48, z_57, z_61, z_97, z_100, z_122, z_125, z_126, z_144, z_255, z_700, z_1000, z_1548, nI_add, pk_mul, pk_sub, nI_clamp, nI_leI, nI_ltI, nI_eq, z_in, z_m1, z_m1b, lg_cmp_eq, z_cmp, Decidable.not_not, w_ie, w_in, w_il, w_le, w_ln, w_li, w_ir, w_lr, h1] at c
        exact c
      · simp (disch := omega) only [z_0, z_1, z_2, z_3, z_4, z_5, z_6, z_7, z_8, z_9, z_10, z_12, z_13, z_20, z_21, z_25, z_56, z_350, z_31, z_32, z_36, z_48, z_57, z_61, z_97, z_100, z_122, z_125, z_126, z_144, z_255, z_700, z_1000, z_1548, nI_add, pk_mul, pk_sub, nI_clamp, nI_leI, nI_ltI, nI_eq, z_in, z_m1, z_m1b, lg_cmp_eq, z_cmp, Decidable.not_not, w_ie, w_in, w_il, w_le, w_ln, w_li, w_ir, w_lr, h1] at c
        omega
    | succ m ih =>
      intro i hi hg
      have es : shv i = nI (56 - 8 * i) := if_pos (by omega)
      have eb := by_s hN (show 56 - 8 * i ≤ 56 by omega)
      have nbi : nI (N / 2 ^ (56 - 8 * i) % 256) = nI (nb N i) := rfl
      rw [nbi] at eb
      have bl := nb_lt (N := N) (i := i)
      have nx := shv_s i (by omega)
      have go : (nb N i = 0 ∨ okc (nb N i)) → mr_M mj_KK d 24 50 [some (.ref 573), some (.long (lN N)), none, some (.int (nI (ap8 N i).length)), some (.int (shv i)), some (.int (nI (nb N i)))] [] h0 Q := by
        intro q
        have g2 : gdN N (i + 1) := fun k hk => by
          rcases Nat.lt_or_ge k i with w | w
          · exact hg k w
          · have : k = i := by omega
            rw [this]
            exact q
        have := ih (i + 1) (by omega) g2
        rw [ap8_len] at this
        refine kb_24_50 (fun c => kb_24_60 (kb_24_61 ?_)) (fun c => kb_24_56 (kb_24_61 ?_))
        · simp (disch := omega) only [z_0, z_1, z_2, z_3, z_4, z_5, z_6, z_7, z_8, z_9, z_10, z_12, z_13, z_20, z_21, z_25, z_56, z_350, z_31, z_32, z_36, z_48, z_57, z_61, z_97, z_100, z_122, z_125, z_126, z_144, z_255, z_700, z_1000, z_1548, nI_add, pk_mul, pk_sub, nI_clamp, nI_leI, nI_ltI, nI_eq, z_in, z_m1, z_m1b, lg_cmp_eq, z_cmp, Decidable.not_not, w_ie, w_in, w_il, w_le, w_ln, w_li, w_ir, w_lr] at c
          rw [if_pos c] at this
          rw [nx, show (0 : Int32) = nI 0 from rfl, nI_add]
          exact this
        · simp (disch := omega) only [z_0, z_1, z_2, z_3, z_4, z_5, z_6, z_7, z_8, z_9, z_10, z_12, z_13, z_20, z_21, z_25, z_56, z_350, z_31, z_32, z_36, z_48, z_57, z_61, z_97, z_100, z_122, z_125, z_126, z_144, z_255, z_700, z_1000, z_1548, nI_add, pk_mul, pk_sub, nI_clamp, nI_leI, nI_ltI, nI_eq, z_in, z_m1, z_m1b, lg_cmp_eq, z_cmp, Decidable.not_not, w_ie, w_in, w_il, w_le, w_ln, w_li, w_ir, w_lr] at c
          rw [if_neg c] at this
          rw [nx, nI_1]
          exact this
      refine kb_24_6 (fun c => absurd c (shv_n i (by omega))) (fun _ => kb_24_11 (fun c => ?_) (fun c => ?_))
      · rw [es, eb] at c ⊢
        simp (disch := omega) only [z_0, z_1, z_2, z_3, z_4, z_5, z_6, z_7, z_8, z_9, z_10, z_12, z_13, z_20, z_21, z_25, z_56, z_350, z_31, z_32, z_36, z_48, z_57, z_61, z_97, z_100, z_122, z_125, z_126, z_144, z_255, z_700, z_1000, z_1548, nI_add, pk_mul, pk_sub, nI_clamp, nI_leI, nI_ltI, nI_eq, z_in, z_m1, z_m1b, lg_cmp_eq, z_cmp, Decidable.not_not, w_ie, w_in, w_il, w_le, w_ln, w_li, w_ir, w_lr] at c
        rw [← es]
        exact go (Or.inl c)
      · rw [es, eb] at c ⊢
        rw [← es]
        simp (disch := omega) only [z_0, z_1, z_2, z_3, z_4, z_5, z_6, z_7, z_8, z_9, z_10, z_12, z_13, z_20, z_21, z_25, z_56, z_350, z_31, z_32, z_36, z_48, z_57, z_61, z_97, z_100, z_122, z_125, z_126, z_144, z_255, z_700, z_1000, z_1548, nI_add, pk_mul, pk_sub, nI_clamp, nI_leI, nI_ltI, nI_eq, z_in, z_m1, z_m1b, lg_cmp_eq, z_cmp, Decidable.not_not, w_ie, w_in, w_il, w_le, w_ln, w_li, w_ir, w_lr] at c
        refine kb_24_27 (fun c2 => go (Or.inr (Or.inl ?_))) (fun c2 => kb_24_34 (fun c3 => kb_24_48 (k0 (Or.inl (fun g => ?_)))) (fun c3 => kb_24_41 (fun c4 => go (Or.inr (Or.inr ?_))) (fun c4 => kb_24_48 (k0 (Or.inl (fun g => ?_))))))
        · simp (disch := omega) only [z_0, z_1, z_2, z_3, z_4, z_5, z_6, z_7, z_8, z_9, z_10, z_12, z_13, z_20, z_21, z_25, z_56, z_350, z_31, z_32, z_36, z_48, z_57, z_61, z_97, z_100, z_122, z_125, z_126, z_144, z_255, z_700, z_1000, z_1548, nI_add, pk_mul, pk_sub, nI_clamp, nI_leI, nI_ltI, nI_eq, z_in, z_m1, z_m1b, lg_cmp_eq, z_cmp, Decidable.not_not, w_ie, w_in, w_il, w_le, w_ln, w_li, w_ir, w_lr] at c2
          exact c2
        · simp (disch := omega) only [z_0, z_1, z_2, z_3, z_4, z_5, z_6, z_7, z_8, z_9, z_10, z_12, z_13, z_20, z_21, z_25, z_56, z_350, z_31, z_32, z_36, z_48, z_57, z_61, z_97, z_100, z_122, z_125, z_126, z_144, z_255, z_700, z_1000, z_1548, nI_add, pk_mul, pk_sub, nI_clamp, nI_leI, nI_ltI, nI_eq, z_in, z_m1, z_m1b, lg_cmp_eq, z_cmp, Decidable.not_not, w_ie, w_in, w_il, w_le, w_ln, w_li, w_ir, w_lr] at c2 c3
          have := g i (by omega)
          unfold okc at this
          omega
        · simp (disch := omega) only [z_0, z_1, z_2, z_3, z_4, z_5, z_6, z_7, z_8, z_9, z_10, z_12, z_13, z_20, z_21, z_25, z_56, z_350, z_31, z_32, z_36, z_48, z_57, z_61, z_97, z_100, z_122, z_125, z_126, z_144, z_255, z_700, z_1000, z_1548, nI_add, pk_mul, pk_sub, nI_clamp, nI_leI, nI_ltI, nI_eq, z_in, z_m1, z_m1b, lg_cmp_eq, z_cmp, Decidable.not_not, w_ie, w_in, w_il, w_le, w_ln, w_li, w_ir, w_lr] at c3 c4
          omega
        · simp (disch := omega) only [z_0, z_1, z_2, z_3, z_4, z_5, z_6, z_7, z_8, z_9, z_10, z_12, z_13, z_20, z_21, z_25, z_56, z_350, z_31, z_32, z_36, z_48, z_57, z_61, z_97, z_100, z_122, z_125, z_126, z_144, z_255, z_700, z_1000, z_1548, nI_add, pk_mul, pk_sub, nI_clamp, nI_leI, nI_ltI, nI_eq, z_in, z_m1, z_m1b, lg_cmp_eq, z_cmp, Decidable.not_not, w_ie, w_in, w_il, w_le, w_ln, w_li, w_ir, w_lr] at c2 c4
          have := g i (by omega)
          unfold okc at this
          omega
  exact loop1 8 0 rfl (fun k hk => absurd hk (Nat.not_lt_zero k))
/-- branch, of the class -/
theorem s3 (hd : 1 ≤ d) (H0 : mj_RS h0) (hn : n ≤ 700) (h1 : h0.1 0 1 = nI n) (kk : ∀ h', h'.1 0 1 = nI 0 → h'.2.1 0 2 = nm (h0.1 1) 0 n → fr (fun a i => a = 0 ∧ (i = 1 ∨ i = 2)) h0 h' → Q (some (.int (b2i (decide (¬ nm (h0.1 1) 0 n = 0))))) h') : mr_C mj_KK d 3 [.ref 0] h0 Q := by
  show mr_M mj_KK d 3 0 [some (.ref 0)] [] h0 Q
  have H := H0
  refine kb_3_0 (by first | with_reducible assumption | with_reducible exact kd_P | assumption) (by first | with_reducible assumption | exact rf_P_tape H | assumption) (by omega) ?_
  rw [h1]
  refine s19 (s := 0) kd_P_tape ln_P_tape (by omega) hn ?_
  rw [Nat.sub_zero]
  generalize nm (h0.1 1) 0 n = y at kk ⊢
  have k2 := kk (mj_w (mj_w h0 0 2 (.long y)) 0 1 (.int 0)) (w_ie ⟨rfl, rfl⟩) (w_le ⟨rfl, rfl⟩) ((fr.wl (P := fun a i => a = 0 ∧ (i = 1 ∨ i = 2)) fr.rfl' (by omega)).wi (by omega))
  have ey : (mj_w (mj_w h0 0 2 (.long y)) 0 1 (.int 0)).2.1 0 2 = y := w_le ⟨rfl, rfl⟩
  refine kb_3_13 (by first | with_reducible assumption | with_reducible exact kd_P | assumption) (by first | with_reducible assumption | with_reducible exact kd_P | assumption) (fun c => kb_3_34 (kb_3_35 (by first | assumption | exact b2i_01 _ | exact Or.inl rfl | exact Or.inr rfl) ?_)) (fun c => kb_3_30 (kb_3_35 (by first | assumption | exact b2i_01 _ | exact Or.inl rfl | exact Or.inr rfl) ?_))
  · rw [ey, lg_cmp_eq] at c
    rw [decide_eq_false (fun r => r c)] at k2
    exact k2
  · rw [ey, lg_cmp_eq] at c
    rw [decide_eq_true c] at k2
    exact k2
theorem nm_nz {X : Nat → Int32} {n : Nat} (h0 : 0 < n) (h8 : n ≤ 8) (ha : al X 0 n = true) (ht : ∀ i, i < n → tch2 (X i)) : ¬ pk X 0 n 0 = 0 := by
  have hw : ∀ i, 0 ≤ i → i < 0 + n → wch (X i) := by
    intro i h1 h2
    rcases ht i (by omega) with v | v | v
    · rw [al_no (q := i) (by omega) (by omega) (by rw [v]; decide)] at ha
      cases ha
    · rw [al_no (q := i) (by omega) (by omega) (by rw [v]; decide)] at ha
      cases ha
    · exact v
  have e0 : (0 : Int64) = lN (pr []) := rfl
  rw [e0, pk_pr (fun x hx => absurd hx List.not_mem_nil) (by show 0 + _ ≤ 8; omega) (fun i a b => (hw i a b).t), List.append_nil]
  intro e
  have b1 := prb (dg_lt (fun i a b => (hw i a b).t)) (by rw [List.length_reverse, dg_len]; exact h8)
  have := pr_inj (dg_pos hw) (fun x hx => absurd hx List.not_mem_nil) (lN_inj (by omega) (by decide) e)
  have := congrArg List.length this
  rw [List.length_reverse, dg_len] at this
  have : n = 0 := this
  omega
/-- branch, of the reference -/
theorem s52 {X : Nat → Int32} (hd : 1 ≤ d) (H0 : mj_RS h0) (hn : n ≤ 700) (h1 : h0.1 573 2 = nI n) (hX : ∀ i, i < n → h0.1 574 i = X i) (ht : ∀ i, i < n → tch2 (X i)) (kk : ∀ h', h'.1 573 2 = nI 0 → h'.2.1 573 4 = nm X 0 n → fr (fun a i => a = 573 ∧ (i = 2 ∨ i = 4)) h0 h' → Q (some (.int (b2i (decide (¬ nm X 0 n = 0))))) h') : mr_C mj_KK d 52 [.ref 573] h0 Q := by
  show mr_M mj_KK d 52 0 [some (.ref 573), none, none] [] h0 Q
  have H := H0
  have fin : ∀ (b : Bool) (h : mj_H), fr (fun a i => a = 573 ∧ (i = 2 ∨ i = 4)) h0 h → h.2.1 573 4 = nm X 0 n → b = decide (¬ nm X 0 n = 0) → mr_M mj_KK d 52 104 [some (.ref 573), some (.int (b2i b)), none] [] h Q := by
    intro b h hf h4 hb
    refine kb_52_104 (by first | with_reducible assumption | with_reducible exact kd_M | assumption) (by first | assumption | exact b2i_01 _ | exact Or.inl rfl | exact Or.inr rfl) ?_
    rw [hb]
    exact kk _ (w_ie ⟨rfl, rfl⟩) h4 (hf.wi (by omega))
  have bad : ∀ (h : mj_H), fr (fun a i => a = 573 ∧ (i = 2 ∨ i = 4)) h0 h → h.2.1 573 4 = 0 → h.1 573 2 = nI n → nm X 0 n = 0 → mr_M mj_KK d 52 65 [some (.ref 573), some (.int 0), none] [] h Q := by
    intro h hf h4 h2 hz
    have f := fin false h hf (by rw [h4, hz]) (by rw [decide_eq_false (fun r => r hz)])
    exact kb_52_65 (kb_52_67 (by first | with_reducible assumption | with_reducible exact kd_M | assumption) (fun _ => f) (fun _ => kb_52_75 (fun _ => f) (fun c => absurd rfl c)))
  have loop2 : 0 < n → n ≤ 8 → al X 0 n = true → ∀ m i (h : mj_H), i + m = n → fr (fun a i => a = 573 ∧ (i = 2 ∨ i = 4)) h0 h → h.1 573 2 = nI n → pk X i m (h.2.1 573 4) = pk X 0 n 0 → mr_M mj_KK d 52 67 [some (.ref 573), some (.int 1), some (.int (nI i))] [] h Q := by
    intro n0 n8 ha m
    have enm : nm X 0 n = pk X 0 n 0 := by
      unfold nm
      rw [if_pos ⟨n8, ha⟩]
    induction m with
    | zero =>
      intro i h hi hf h2 he
      have he : h.2.1 573 4 = pk X 0 n 0 := he
      refine kb_52_67 (by first | with_reducible assumption | with_reducible exact kd_M | assumption) (fun _ => fin true h hf (by rw [enm, he]) ?_) (fun c => (by simp (disch := omega) only [z_0, z_1, z_2, z_3, z_4, z_5, z_6, z_7, z_8, z_9, z_10, z_12, z_13, z_20, z_21, z_25, z_56, z_350, z_31, z_32, z_36, z_48, z_57, z_61, z_97, z_100, z_122, z_125, z_126, z_144, z_255, z_700, z_1000, z_1548, nI_add, pk_mul, pk_sub, nI_clamp, nI_leI, nI_ltI, nI_eq, z_in, z_m1, z_m1b, lg_cmp_eq, z_cmp, Decidable.not_not, w_ie, w_in, w_il, w_le, w_ln, w_li, w_ir, w_lr, h2] at c; exfalso; omega))
      rw [enm, decide_eq_true (nm_nz n0 n8 ha ht)]
    | succ m ih =>
      intro i h hi hf h2 he
      have H := hf.rs H0
      have eX : h.1 574 i = X i := (hf.n (by omega)).trans (hX i (by omega))
      refine kb_52_67 (by first | with_reducible assumption | with_reducible exact kd_M | assumption) (fun c => (by simp (disch := omega) only [z_0, z_1, z_2, z_3, z_4, z_5, z_6, z_7, z_8, z_9, z_10, z_12, z_13, z_20, z_21, z_25, z_56, z_350, z_31, z_32, z_36, z_48, z_57, z_61, z_97, z_100, z_122, z_125, z_126, z_144, z_255, z_700, z_1000, z_1548, nI_add, pk_mul, pk_sub, nI_clamp, nI_leI, nI_ltI, nI_eq, z_in, z_m1, z_m1b, lg_cmp_eq, z_cmp, Decidable.not_not, w_ie, w_in, w_il, w_le, w_ln, w_li, w_ir, w_lr, h2] at c; exfalso; omega)) (fun _ => kb_52_75 (fun c => absurd c (by decide)) (fun _ => kb_52_79 (by first | with_reducible assumption | with_reducible exact kd_M | assumption) (by first | with_reducible assumption | exact rf_M_tape H | assumption) (by first | with_reducible assumption | with_reducible exact kd_M_tape | assumption) (by first | with_reducible assumption | (simp (disch := omega) only [z_0, z_1, z_2, z_3, z_4, z_5, z_6, z_7, z_8, z_9, z_10, z_12, z_13, z_20, z_21, z_25, z_56, z_350, z_31, z_32, z_36, z_48, z_57, z_61, z_97, z_100, z_122, z_125, z_126, z_144, z_255, z_700, z_1000, z_1548, nI_add, pk_mul, pk_sub, nI_clamp, nI_leI, nI_ltI, nI_eq, z_in, z_m1, z_m1b, lg_cmp_eq, z_cmp, Decidable.not_not, w_ie, w_in, w_il, w_le, w_ln, w_li, w_ir, w_lr, ln_P_tape, ln_W_text, ln_W_starts, ln_W_ends, ln_W_lines, ln_W_names, ln_W_values, ln_PL_jobs, ln_PL_parts, ln_FT_reached, ln_EX_jobs, ln_EX_codes, ln_CB_names, ln_CB_values, ln_M_tape, ln_M_source, ln_M_wordAt, ln_M_wordEnd, ln_M_names, ln_M_itemCount, ln_M_itemFirst, ln_M_itemWords, ln_M_itemUses, ln_M_keptAt, ln_M_keptEnd, ln_M_needCount, ln_M_axisCount, ln_M_valueCount, ln_M_needed, ln_M_axes, ln_M_values, ln_M_includes, ln_M_excludes, ln_M_pairCount, ln_M_pairName, ln_M_pairValue, ln_M_signCount, ln_M_signs, ln_M_signName, ln_M_signValue, ln_M_whose, ln_M_which, ln_M_pile, ln_M_reaches, ln_M_stepsOf, ln_M_known, ln_JB_needed, ln_JB_axes, ln_JS_used, ln_JS_stepWords, ln_PS_used, ln_PS_stepWords, ln_IN_rows, ln_EC_rows, ln_IR_names, ln_IR_values, ln_ER_names, ln_ER_values, ln_CD_kinds, ln_CD_names, ln_CD_values, ln_AX_values] <;> omega) | assumption) ?_))
      rw [nI_clamp (by omega), eX, nI_1]
      have es : (h.2.1 573 4 <<< ((8 : Int32).toInt64 &&& 63)) ||| (X i).toInt64 = sh8 (h.2.1 573 4) (X i) := rfl
      rw [es]
      refine ih (i + 1) _ (by omega) (hf.wl (by omega)) h2 ?_
      rw [w_le ⟨rfl, rfl⟩]
      exact he
  have loop1 : ∀ m i (b : Bool) (h : mj_H), i + m = n → fr (fun a i => a = 573 ∧ (i = 2 ∨ i = 4)) h0 h → h.2.1 573 4 = 0 → h.1 573 2 = nI n → (b && al X i m) = (decide (0 < n) && decide (n < 9) && al X 0 n) → mr_M mj_KK d 52 29 [some (.ref 573), some (.int (b2i b)), some (.int (nI i))] [] h Q := by
    intro m
    induction m with
    | zero =>
      intro i b h hi hf h4 h2 he
      have e0 : al X i 0 = true := rfl
      rw [e0, Bool.and_true] at he
      refine kb_52_29 (by first | with_reducible assumption | with_reducible exact kd_M | assumption) (fun _ => ?_) (fun c => (by simp (disch := omega) only [z_0, z_1, z_2, z_3, z_4, z_5, z_6, z_7, z_8, z_9, z_10, z_12, z_13, z_20, z_21, z_25, z_56, z_350, z_31, z_32, z_36, z_48, z_57, z_61, z_97, z_100, z_122, z_125, z_126, z_144, z_255, z_700, z_1000, z_1548, nI_add, pk_mul, pk_sub, nI_clamp, nI_leI, nI_ltI, nI_eq, z_in, z_m1, z_m1b, lg_cmp_eq, z_cmp, Decidable.not_not, w_ie, w_in, w_il, w_le, w_ln, w_li, w_ir, w_lr, h2] at c; exfalso; omega))
      cases hb : b with
      | true =>
        rw [hb] at he
        have he := he.symm
        rw [Bool.and_eq_true, Bool.and_eq_true, decide_eq_true_iff, decide_eq_true_iff] at he
        exact kb_52_65 (loop2 he.1.1 (by omega) he.2 n 0 h (by omega) hf h2 (by rw [h4]))
      | false =>
        rw [hb] at he
        refine bad h hf h4 h2 ?_
        unfold nm
        by_cases q : n ≤ 8 ∧ al X 0 n = true
        · rw [if_pos q]
          have : n = 0 := by
            rcases Nat.eq_zero_or_pos n with w | w
            · exact w
            · rw [decide_eq_true w, decide_eq_true (show n < 9 by omega), q.2] at he
              cases he
          rw [this]
          rfl
        · rw [if_neg q]
    | succ m ih =>
      intro i b h hi hf h4 h2 he
      have H := hf.rs H0
      have eX : h.1 574 i = X i := (hf.n (by omega)).trans (hX i (by omega))
      have ea : al X i (m + 1) = (mj_let (X i) && al X (i + 1) m) := rfl
      rw [ea] at he
      have nx : ∀ c : Bool, (c && al X (i + 1) m) = (decide (0 < n) && decide (n < 9) && al X 0 n) → mr_M mj_KK d 52 58 [some (.ref 573), none, some (.int (nI i))] [.int (b2i c)] h Q := by
        intro c hc
        refine kb_52_58 ?_
        rw [nI_1]
        exact ih (i + 1) c h (by omega) hf h4 h2 hc
      refine kb_52_29 (by first | with_reducible assumption | with_reducible exact kd_M | assumption) (fun c => (by simp (disch := omega) only [z_0, z_1, z_2, z_3, z_4, z_5, z_6, z_7, z_8, z_9, z_10, z_12, z_13, z_20, z_21, z_25, z_56, z_350, z_31, z_32, z_36, z_48, z_57, z_61, z_97, z_100, z_122, z_125, z_126, z_144, z_255, z_700, z_1000, z_1548, nI_add, pk_mul, pk_sub, nI_clamp, nI_leI, nI_ltI, nI_eq, z_in, z_m1, z_m1b, lg_cmp_eq, z_cmp, Decidable.not_not, w_ie, w_in, w_il, w_le, w_ln, w_li, w_ir, w_lr, h2] at c; exfalso; omega)) (fun _ => ?_)
      cases hb : b with
      | false =>
        rw [hb] at he
        exact kb_52_37 (fun _ => kb_52_57 (nx false he)) (fun c => absurd rfl c)
      | true =>
        rw [hb, Bool.true_and] at he
        refine kb_52_37 (fun c => absurd c (by decide)) (fun _ => kb_52_41 (by first | with_reducible assumption | with_reducible exact kd_M | assumption) (by first | with_reducible assumption | exact rf_M_tape H | assumption) (by first | with_reducible assumption | with_reducible exact kd_M_tape | assumption) (by first | with_reducible assumption | (simp (disch := omega) only [z_0, z_1, z_2, z_3, z_4, z_5, z_6, z_7, z_8, z_9, z_10, z_12, z_13, z_20, z_21, z_25, z_56, z_350, z_31, z_32, z_36, z_48, z_57, z_61, z_97, z_100, z_122, z_125, z_126, z_144, z_255, z_700, z_1000, z_1548, nI_add, pk_mul, pk_sub, nI_clamp, nI_leI, nI_ltI, nI_eq, z_in, z_m1, z_m1b, lg_cmp_eq, z_cmp, Decidable.not_not, w_ie, w_in, w_il, w_le, w_ln, w_li, w_ir, w_lr, ln_P_tape, ln_W_text, ln_W_starts, ln_W_ends, ln_W_lines, ln_W_names, ln_W_values, ln_PL_jobs, ln_PL_parts, ln_FT_reached, ln_EX_jobs, ln_EX_codes, ln_CB_names, ln_CB_values, ln_M_tape, ln_M_source, ln_M_wordAt, ln_M_wordEnd, ln_M_names, ln_M_itemCount, ln_M_itemFirst, ln_M_itemWords, ln_M_itemUses, ln_M_keptAt, ln_M_keptEnd, ln_M_needCount, ln_M_axisCount, ln_M_valueCount, ln_M_needed, ln_M_axes, ln_M_values, ln_M_includes, ln_M_excludes, ln_M_pairCount, ln_M_pairName, ln_M_pairValue, ln_M_signCount, ln_M_signs, ln_M_signName, ln_M_signValue, ln_M_whose, ln_M_which, ln_M_pile, ln_M_reaches, ln_M_stepsOf, ln_M_known, ln_JB_needed, ln_JB_axes, ln_JS_used, ln_JS_stepWords, ln_PS_used, ln_PS_stepWords, ln_IN_rows, ln_EC_rows, ln_IR_names, ln_IR_values, ln_ER_names, ln_ER_values, ln_CD_kinds, ln_CD_names, ln_CD_values, ln_AX_values] <;> omega) | assumption) (by omega) (s25 ?_))
        rw [nI_clamp (by omega), eX]
        cases hb2 : mj_let (X i) with
        | true =>
          rw [hb2] at he
          exact kb_52_50 (fun c => absurd c (by decide)) (fun _ => kb_52_53 (nx true he))
        | false =>
          rw [hb2] at he
          exact kb_52_50 (fun _ => kb_52_57 (nx false he)) (fun c => absurd rfl c)
  have f0 : fr (fun a i => a = 573 ∧ (i = 2 ∨ i = 4)) h0 (mj_w h0 573 4 (.long 0)) := fr.wl (P := fun a i => a = 573 ∧ (i = 2 ∨ i = 4)) fr.rfl' (by omega)
  have st : ∀ b : Bool, b = (decide (0 < n) && decide (n < 9)) → mr_M mj_KK d 52 21 [some (.ref 573), none, none] [.int (b2i b)] h0 Q := by
    intro b hb
    refine kb_52_21 (by first | with_reducible assumption | with_reducible exact kd_M | assumption) (loop1 n 0 b _ (by omega) f0 (w_le ⟨rfl, rfl⟩) h1 (by rw [hb]))
  refine kb_52_0 (by first | with_reducible assumption | with_reducible exact kd_M | assumption) (fun c => kb_52_20 (st false ?_)) (fun c => kb_52_7 (by first | with_reducible assumption | with_reducible exact kd_M | assumption) (fun c2 => kb_52_20 (st false ?_)) (fun c2 => kb_52_16 (st true ?_)))
  · simp (disch := omega) only [z_0, z_1, z_2, z_3, z_4, z_5, z_6, z_7, z_8, z_9, z_10, z_12, z_13, z_20, z_21, z_25, z_56, z_350, z_31, z_32, z_36, z_48, z_57, z_61, z_97, z_100, z_122, z_125, z_126, z_144, z_255, z_700, z_1000, z_1548, nI_add, pk_mul, pk_sub, nI_clamp, nI_leI, nI_ltI, nI_eq, z_in, z_m1, z_m1b, lg_cmp_eq, z_cmp, Decidable.not_not, w_ie, w_in, w_il, w_le, w_ln, w_li, w_ir, w_lr, h1] at c
    rw [decide_eq_false (by omega), Bool.false_and]
  · simp (disch := omega) only [z_0, z_1, z_2, z_3, z_4, z_5, z_6, z_7, z_8, z_9, z_10, z_12, z_13, z_20, z_21, z_25, z_56, z_350, z_31, z_32, z_36, z_48, z_57, z_61, z_97, z_100, z_122, z_125, z_126, z_144, z_255, z_700, z_1000, z_1548, nI_add, pk_mul, pk_sub, nI_clamp, nI_leI, nI_ltI, nI_eq, z_in, z_m1, z_m1b, lg_cmp_eq, z_cmp, Decidable.not_not, w_ie, w_in, w_il, w_le, w_ln, w_li, w_ir, w_lr, h1] at c2
    rw [decide_eq_false (show ¬ n < 9 by omega), Bool.and_false]
  · simp (disch := omega) only [z_0, z_1, z_2, z_3, z_4, z_5, z_6, z_7, z_8, z_9, z_10, z_12, z_13, z_20, z_21, z_25, z_56, z_350, z_31, z_32, z_36, z_48, z_57, z_61, z_97, z_100, z_122, z_125, z_126, z_144, z_255, z_700, z_1000, z_1548, nI_add, pk_mul, pk_sub, nI_clamp, nI_leI, nI_ltI, nI_eq, z_in, z_m1, z_m1b, lg_cmp_eq, z_cmp, Decidable.not_not, w_ie, w_in, w_il, w_le, w_ln, w_li, w_ir, w_lr, h1] at c c2
    rw [decide_eq_true (by omega), decide_eq_true (by omega)]
    rfl
end
