-- ===== the class reads a line =====
theorem w_re {h : mj_H} {a i b j q : Nat} (e : b = a ∧ j = i) : (mj_w h a i (.ref q)).2.2 b j = some q := by
  show (if b = a ∧ j = i then _ else _) = _
  rw [if_pos e]
theorem w_rn {h : mj_H} {a i b j q : Nat} (e : b ≠ a ∨ j ≠ i) : (mj_w h a i (.ref q)).2.2 b j = h.2.2 b j := by
  show (if b = a ∧ j = i then _ else _) = _
  rw [if_neg (fun q => e.elim (fun r => r q.1) (fun r => r q.2))]
theorem w_ue {h : mj_H} {a i b j : Nat} (e : b = a ∧ j = i) : (mj_w h a i .null).2.2 b j = none := by
  show (if b = a ∧ j = i then _ else _) = _
  rw [if_pos e]
theorem w_un {h : mj_H} {a i b j : Nat} (e : b ≠ a ∨ j ≠ i) : (mj_w h a i .null).2.2 b j = h.2.2 b j := by
  show (if b = a ∧ j = i then _ else _) = _
  rw [if_neg (fun q => e.elim (fun r => r q.1) (fun r => r q.2))]
theorem fq.wr {P : Nat → Nat → Prop} {h h' : mj_H} {i q : Nat} (f : fq P h h') : fq P h (mj_w h' 564 i (.ref q)) := ⟨f.1, fun a j hn => (w_rn (Or.inl hn)).trans (f.2 a j hn)⟩
theorem fq.wu {P : Nat → Nat → Prop} {h h' : mj_H} {i : Nat} (f : fq P h h') : fq P h (mj_w h' 564 i .null) := ⟨f.1, fun a j hn => (w_un (Or.inl hn)).trans (f.2 a j hn)⟩
theorem fq.wi {P : Nat → Nat → Prop} {h h' : mj_H} {a i : Nat} {v : Int32} (f : fq P h h') (hp : P a i) : fq P h (mj_w h' a i (.int v)) := ⟨f.1.wi hp, f.2⟩
def inCl : Nat → Nat → Prop := fun a _ => a = 9 ∨ (12 ≤ a ∧ a < 564)
theorem OwC.of {h h' : mj_H} {own : Nat} (A : OwC h own) (e : h'.2.2 = h.2.2) : OwC h' own := by
  unfold OwC at A ⊢
  rw [e]
  exact A
section
variable {d L w n : Nat} {h0 : mj_H} {Q : Option Value → mj_H → Prop} {X : Nat → Int32} {W : List Wt} {P : mj_P} {y : Int64}
theorem s142P {h : mj_H} (H : mj_RS h) (hP : PlC h P) (k : Q (some (.int (jN P y))) h) : mr_C mj_KK d 142 [.ref 9, .long y] h Q := by
  obtain ⟨a1, a2, a3, a4, a5, a6⟩ := hP
  refine s142 H a1 a2 ?_
  rw [fi_congr (q := fun j => decide ((P.sc j).1 = y)) (fun j h1 h2 => by rw [(a5 j (by omega)).1.1])]
  exact k
theorem s143P {h : mj_H} (H : mj_RS h) (hP : PlC h P) (k : Q (some (.int (pN P y))) h) : mr_C mj_KK d 143 [.ref 9, .long y] h Q := by
  obtain ⟨a1, a2, a3, a4, a5, a6⟩ := hP
  refine s143 H a3 a4 ?_
  rw [fi_congr (q := fun p => decide ((P.sc (12 + p)).1 = y)) (fun j h1 h2 => by rw [(a6 j (by omega)).1])]
  exact k
/-- Reader.beginJob -/
theorem s151 (hd : 2 ≤ d) (H0 : mj_RS h0) (hP : PlC h0 P) (hZ : ZC h0 P.np) (k0 : ¬ (y ≠ 0 ∧ P.nj < 12 ∧ jN P y = -1) → Q (some (.int 0)) h0) (k1 : (y ≠ 0 ∧ P.nj < 12 ∧ jN P y = -1) → ∀ h', PlC h' (P.nj + 1, P.np, P.nj, up P.sc P.nj (y, []), up P.jr P.nj E0) → ZC h' P.np → OwC h' P.nj → fq inCl h0 h' → Q (some (.int 1)) h') : mr_C mj_KK d 151 [.ref 564, .ref 9, .long y] h0 Q := by
  show mr_M mj_KK d 151 0 [some (.ref 564), some (.ref 9), some (.long y), none] [] h0 Q
  have H := H0
  obtain ⟨a1, a2, a3, a4, a5, a6⟩ := id hP
  refine kb_151_0 (fun c => kb_151_24 (k0 (fun r => ?_))) (fun c => kb_151_6 kd_PL (fun c2 => kb_151_24 (k0 (fun r => ?_))) (fun c2 => kb_151_15 kd_PL (by omega) (s142P H hP ?_)))
  · rw [lg_cmp_eq] at c
    exact r.1 c
  · simp (disch := omega) only [z_0, z_1, z_2, z_3, z_4, z_5, z_6, z_7, z_8, z_9, z_10, z_12, z_13, z_20, z_21, z_25, z_56, z_350, z_31, z_32, z_36, z_48, z_57, z_61, z_97, z_100, z_122, z_125, z_126, z_144, z_255, z_700, z_1000, z_1548, nI_add, pk_mul, pk_sub, nI_clamp, nI_leI, nI_ltI, nI_eq, z_in, z_m1, z_m1b, lg_cmp_eq, z_cmp, Decidable.not_not, w_ie, w_in, w_il, w_le, w_ln, w_li, w_ir, w_lr, a1] at c2
    omega
  rw [lg_cmp_eq] at c
  simp (disch := omega) only [z_0, z_1, z_2, z_3, z_4, z_5, z_6, z_7, z_8, z_9, z_10, z_12, z_13, z_20, z_21, z_25, z_56, z_350, z_31, z_32, z_36, z_48, z_57, z_61, z_97, z_100, z_122, z_125, z_126, z_144, z_255, z_700, z_1000, z_1548, nI_add, pk_mul, pk_sub, nI_clamp, nI_leI, nI_ltI, nI_eq, z_in, z_m1, z_m1b, lg_cmp_eq, z_cmp, Decidable.not_not, w_ie, w_in, w_il, w_le, w_ln, w_li, w_ir, w_lr, a1] at c2
  have hj : P.nj < 12 := by omega
  refine kb_151_20 (fun c3 => ?_) (fun c3 => kb_151_24 (k0 (fun r => c3 r.2.2)))
  have k1 := k1 ⟨c, hj, c3⟩
  refine kb_151_26 (q1 := 12 + 44 * P.nj) (q2 := 12 + 44 * P.nj) kd_PL (rf_PL_jobs H) kd_PL_jobs (by simp (disch := omega) only [z_0, z_1, z_2, z_3, z_4, z_5, z_6, z_7, z_8, z_9, z_10, z_12, z_13, z_20, z_21, z_25, z_56, z_350, z_31, z_32, z_36, z_48, z_57, z_61, z_97, z_100, z_122, z_125, z_126, z_144, z_255, z_700, z_1000, z_1548, nI_add, pk_mul, pk_sub, nI_clamp, nI_leI, nI_ltI, nI_eq, z_in, z_m1, z_m1b, lg_cmp_eq, z_cmp, Decidable.not_not, w_ie, w_in, w_il, w_le, w_ln, w_li, w_ir, w_lr, a1, ln_PL_jobs] <;> omega) (by rw [a1, nI_clamp (by omega)]; exact rf_jobs H hj) kd_RD (w_re ⟨rfl, rfl⟩) (kd_JB _ hj) (by omega) ?_
  have f1 : fq inCl h0 (mj_w h0 564 0 (.ref (12 + 44 * P.nj))) := fq.rfl'.wr
  refine s120 (by omega) hj (f1.rs H0) (fun h2 g1 g2 g3 g4 => ?_)
  have e0 : h2.2.2 564 0 = some (12 + 44 * P.nj) := by rw [g4.1]; exact w_re ⟨rfl, rfl⟩
  have f2 : fq inCl h0 h2 := f1.trans ((g4.mono (fun a i q => by unfold inCl; omega)).q)
  have H := f2.rs H0
  refine kb_151_47 kd_RD e0 (kd_JB _ hj) (rf_JB_section H hj) kd_PL ?_
  have e9 : (mj_w h2 564 1 (.ref (13 + 44 * P.nj))).1 9 1 = nI P.nj := by
    show h2.1 9 1 = _
    rw [g4.n (by omega)]
    exact a1
  rw [e9, nI_1]
  have g : fr (fun a i => (a = 9 ∧ i = 1) ∨ (12 + 44 * P.nj ≤ a ∧ a < 56 + 44 * P.nj)) h0 (mj_w (h2.1, h2.2.1, h0.2.2) 9 1 (.int (nI (P.nj + 1)))) := by
    refine fr.wi ⟨rfl, fun a i q => ?_⟩ (Or.inl ⟨rfl, rfl⟩)
    have := g4.2 a i (fun r => q (Or.inr r))
    exact this
  have g5 : fr (fun a i => a = 9 ∧ i = 1) h2 (mj_w h2 9 1 (.int (nI (P.nj + 1)))) := fr.wi (P := fun a i => a = 9 ∧ i = 1) fr.rfl' ⟨rfl, rfl⟩
  refine k1 _ ⟨?_, ?_, ?_, ?_, fun j hj2 => ?_, fun p hp => ?_⟩ (fun p hp => ?_) ⟨fun _ => ⟨?_, ?_⟩, fun q => absurd q (by omega)⟩ (f2.wr.wi (by unfold inCl; omega))
  · exact w_ie ⟨rfl, rfl⟩
  · show P.nj + 1 ≤ 12
    omega
  · exact (g.n (by omega)).trans a3
  · exact a4
  · have hj2 : j < P.nj + 1 := hj2
    show ScC _ _ (up P.sc P.nj (y, []) j) ∧ JrC _ _ (up P.jr P.nj E0 j)
    by_cases q : j = P.nj
    · rw [q, up_e, up_e]
      have t1 := g1.fr g5 ⟨by omega, by omega, fun i => by omega⟩
      have t2 := g3.fr g5 (fun a i h1 h2 => by omega)
      exact ⟨t1, t2⟩
    · rw [up_n q, up_n q]
      have t1 := (a5 j (by omega)).1.fr g ⟨by omega, by omega, fun i => by omega⟩
      have t2 := (a5 j (by omega)).2.fr g (fun a i h1 h2 => by omega)
      exact ⟨t1, t2⟩
  · have hp : p < P.np := hp
    show ScC _ _ (up P.sc P.nj (y, []) (12 + p))
    rw [up_n (by omega)]
    have t1 := (a6 p hp).fr g ⟨by omega, by omega, fun i => by omega⟩
    exact t1
  · exact (g.n (by omega)).trans (hZ p hp)
  · show (mj_w h2 564 1 (.ref (13 + 44 * P.nj))).2.2 564 0 = _
    rw [w_rn (Or.inr (by decide))]
    exact e0
  · show (mj_w h2 564 1 (.ref (13 + 44 * P.nj))).2.2 564 1 = _
    rw [w_re ⟨rfl, rfl⟩, sa_j hj]
/-- Reader.beginPart -/
theorem s152 (hd : 2 ≤ d) (H0 : mj_RS h0) (hP : PlC h0 P) (hZ : ZC h0 P.np) (k0 : ¬ (y ≠ 0 ∧ P.np < 8 ∧ pN P y = -1) → Q (some (.int 0)) h0) (k1 : (y ≠ 0 ∧ P.np < 8 ∧ pN P y = -1) → ∀ h', PlC h' (P.nj, P.np + 1, 12 + P.np, up P.sc (12 + P.np) (y, []), P.jr) → ZC h' (P.np + 1) → OwC h' (12 + P.np) → fq inCl h0 h' → Q (some (.int 1)) h') : mr_C mj_KK d 152 [.ref 564, .ref 9, .long y] h0 Q := by
  show mr_M mj_KK d 152 0 [some (.ref 564), some (.ref 9), some (.long y), none] [] h0 Q
  have H := H0
  obtain ⟨a1, a2, a3, a4, a5, a6⟩ := id hP
  refine kb_152_0 (fun c => kb_152_24 (k0 (fun r => ?_))) (fun c => kb_152_6 kd_PL (fun c2 => kb_152_24 (k0 (fun r => ?_))) (fun c2 => kb_152_15 kd_PL (by omega) (s143P H hP ?_)))
  · rw [lg_cmp_eq] at c
    exact r.1 c
  · simp (disch := omega) only [z_0, z_1, z_2, z_3, z_4, z_5, z_6, z_7, z_8, z_9, z_10, z_12, z_13, z_20, z_21, z_25, z_56, z_350, z_31, z_32, z_36, z_48, z_57, z_61, z_97, z_100, z_122, z_125, z_126, z_144, z_255, z_700, z_1000, z_1548, nI_add, pk_mul, pk_sub, nI_clamp, nI_leI, nI_ltI, nI_eq, z_in, z_m1, z_m1b, lg_cmp_eq, z_cmp, Decidable.not_not, w_ie, w_in, w_il, w_le, w_ln, w_li, w_ir, w_lr, a3] at c2
    omega
  rw [lg_cmp_eq] at c
  simp (disch := omega) only [z_0, z_1, z_2, z_3, z_4, z_5, z_6, z_7, z_8, z_9, z_10, z_12, z_13, z_20, z_21, z_25, z_56, z_350, z_31, z_32, z_36, z_48, z_57, z_61, z_97, z_100, z_122, z_125, z_126, z_144, z_255, z_700, z_1000, z_1548, nI_add, pk_mul, pk_sub, nI_clamp, nI_leI, nI_ltI, nI_eq, z_in, z_m1, z_m1b, lg_cmp_eq, z_cmp, Decidable.not_not, w_ie, w_in, w_il, w_le, w_ln, w_li, w_ir, w_lr, a3] at c2
  have hj : P.np < 8 := by omega
  refine kb_152_20 (fun c3 => ?_) (fun c3 => kb_152_24 (k0 (fun r => c3 r.2.2)))
  have k1 := k1 ⟨c, hj, c3⟩
  have e3 : (mj_w h0 564 0 .null).1 9 3 = nI P.np := a3
  have f0 : fq inCl h0 (mj_w h0 564 0 .null) := fq.rfl'.wu
  refine kb_152_26 (q1 := 540 + 3 * P.np) (q2 := 540 + 3 * P.np) kd_RD kd_PL (rf_PL_parts (f0.rs H0)) kd_PL_parts (by simp (disch := omega) only [z_0, z_1, z_2, z_3, z_4, z_5, z_6, z_7, z_8, z_9, z_10, z_12, z_13, z_20, z_21, z_25, z_56, z_350, z_31, z_32, z_36, z_48, z_57, z_61, z_97, z_100, z_122, z_125, z_126, z_144, z_255, z_700, z_1000, z_1548, nI_add, pk_mul, pk_sub, nI_clamp, nI_leI, nI_ltI, nI_eq, z_in, z_m1, z_m1b, lg_cmp_eq, z_cmp, Decidable.not_not, w_ie, w_in, w_il, w_le, w_ln, w_li, w_ir, w_lr, e3, ln_PL_parts] <;> omega) (by rw [e3, nI_clamp (by omega)]; exact rf_parts (f0.rs H0) hj) (w_re ⟨rfl, rfl⟩) (kd_PS _ hj) (by omega) ?_
  have f1 : fq inCl h0 (mj_w (mj_w h0 564 0 .null) 564 1 (.ref (540 + 3 * P.np))) := f0.wr
  refine s154 (isS_PS hj) (fun h2 g1 g2 g4 => ?_)
  have e0 : h2.2.2 564 0 = none ∧ h2.2.2 564 1 = some (540 + 3 * P.np) := by
    rw [g4.1]
    exact ⟨(w_rn (Or.inr (by decide))).trans (w_ue ⟨rfl, rfl⟩), w_re ⟨rfl, rfl⟩⟩
  have f2 : fq inCl h0 h2 := f1.trans ((g4.mono (fun a i q => by unfold inCl; omega)).q)
  have H := f2.rs H0
  refine kb_152_52 kd_PL ?_
  have e9 : h2.1 9 3 = nI P.np := by
    rw [g4.n (by omega)]
    exact a3
  rw [e9, nI_1]
  have g : fr (fun a i => (a = 9 ∧ i = 3) ∨ a = 540 + 3 * P.np) h0 (mj_w (h2.1, h2.2.1, h0.2.2) 9 3 (.int (nI (P.np + 1)))) := by
    refine fr.wi ⟨rfl, fun a i q => ?_⟩ (Or.inl ⟨rfl, rfl⟩)
    have := g4.2 a i (fun r => q (Or.inr r))
    exact this
  have g5 : fr (fun a i => a = 9 ∧ i = 3) h2 (mj_w h2 9 3 (.int (nI (P.np + 1)))) := fr.wi (P := fun a i => a = 9 ∧ i = 3) fr.rfl' ⟨rfl, rfl⟩
  refine k1 _ ⟨?_, ?_, ?_, ?_, fun j hj2 => ?_, fun p hp => ?_⟩ (fun p hp => ?_) ⟨fun q => absurd q (by omega), fun _ => ⟨e0.1, fun _ => ?_, fun q => absurd q (by omega)⟩⟩ (f2.wi (by unfold inCl; omega))
  · exact (g.n (by omega)).trans a1
  · exact a2
  · exact w_ie ⟨rfl, rfl⟩
  · show P.np + 1 ≤ 8
    omega
  · have hj2 : j < P.nj := hj2
    show ScC _ _ (up P.sc (12 + P.np) (y, []) j) ∧ JrC _ _ (P.jr j)
    rw [up_n (by omega)]
    have t1 := (a5 j (by omega)).1.fr g ⟨by omega, by omega, fun i => by omega⟩
    have t2 := (a5 j (by omega)).2.fr g (fun a i h1 h2 => by omega)
    exact ⟨t1, t2⟩
  · have hp : p < P.np + 1 := hp
    show ScC _ _ (up P.sc (12 + P.np) (y, []) (12 + p))
    by_cases q : p = P.np
    · rw [q, up_e]
      have t1 := g1.fr g5 ⟨by omega, by omega, fun i => by omega⟩
      exact t1
    · rw [up_n (by omega)]
      have t1 := (a6 p (by omega)).fr g ⟨by omega, by omega, fun i => by omega⟩
      exact t1
  · have hp : p < P.np + 1 := hp
    by_cases q : p = P.np
    · rw [q, g5.n (by omega)]
      exact g2
    · exact (g.n (by omega)).trans (hZ p (by omega))
  · rw [sa_p]
    exact e0.2
theorem s162x {h : mj_H} {t : Nat} (hd : 8 ≤ d) (H : mj_RS h) (hW : WW h X L W) (hk : wks X W) (hw : w < W.length) (ht : t < 17) (k1 : wx X W w = mj_str t → Q (some (.int 1)) h) (k0 : ¬ wx X W w = mj_str t → Q (some (.int 0)) h) : mr_C mj_KK d 162 [.ref 2, .int (nI w), .retAddr t] h Q := by
  refine s162t hd H hW hk hw ht ?_
  by_cases q : tx X (sp (W.getD w (0, 0, 0))) = mj_str t
  · rw [decide_eq_true q]
    exact k1 q
  · rw [decide_eq_false q]
    exact k0 q
theorem kb_150_90n {K : mj_K} {h : mj_H} {a0 a1 : Nat} {x3 x4 x5 : Int32} (k0 : mj_kd K a0 = 9) (e0 : h.2.2 a0 1 = none) (kk : Q (some (.int 0)) h) : mr_M K d 150 90 [some (.ref a0), some (.ref a1), none, some (.int x3), some (.int x4), some (.int x5)] [] h Q := by
  refine mr_M.next (x := (.aload_n 0, 1, 0, 0, 0)) (pc' := 91) (ls' := [some (.ref a0), some (.ref a1), none, some (.int x3), some (.int x4), some (.int x5)]) (st' := [.ref a0]) (h' := h) (ls2 := [some (.ref a0), some (.ref a1), none, some (.int x3), some (.int x4), some (.int x5)]) rfl rfl rfl rfl ?_
  refine mr_get (v := .null) rfl k0 (congrArg mj_rf e0) rfl ?_
  refine mr_M.next (x := (.ifnonnull 5, 3, 0, 0, 0)) (pc' := 97) (ls' := [some (.ref a0), some (.ref a1), none, some (.int x3), some (.int x4), some (.int x5)]) (st' := []) (h' := h) (ls2 := [none, none, none, none, none, none]) rfl rfl rfl rfl ?_
  exact kb_150_97 kk
theorem kb_150_162n {K : mj_K} {h : mj_H} {a0 a1 : Nat} {x3 x4 x5 : Int32} (k0 : mj_kd K a0 = 9) (e0 : h.2.2 a0 0 = none) (kk : Q (some (.int 0)) h) : mr_M K d 150 162 [some (.ref a0), some (.ref a1), none, some (.int x3), some (.int x4), some (.int x5)] [] h Q := by
  refine mr_M.next (x := (.aload_n 0, 1, 0, 0, 0)) (pc' := 163) (ls' := [some (.ref a0), some (.ref a1), none, some (.int x3), some (.int x4), some (.int x5)]) (st' := [.ref a0]) (h' := h) (ls2 := [some (.ref a0), some (.ref a1), none, some (.int x3), some (.int x4), some (.int x5)]) rfl rfl rfl rfl ?_
  refine mr_get (v := .null) rfl k0 (congrArg mj_rf e0) rfl ?_
  refine mr_M.next (x := (.ifnonnull 5, 3, 0, 0, 0)) (pc' := 169) (ls' := [some (.ref a0), some (.ref a1), none, some (.int x3), some (.int x4), some (.int x5)]) (st' := []) (h' := h) (ls2 := [none, none, none, none, none, none]) rfl rfl rfl rfl ?_
  exact kb_150_169 kk
/-- Reader.readLine -/
theorem s150 (hd : 34 ≤ d) (H0 : mj_RS h0) (hW : WW h0 X L W) (hk : wks X W) (hn0 : 0 < n) (hn : w + n ≤ W.length) (hl1 : ∀ i, i < n → (W.getD (w + i) (0, 0, 0)).2.2 = (W.getD w (0, 0, 0)).2.2) (hl2 : w + n = W.length ∨ ¬ (W.getD (w + n) (0, 0, 0)).2.2 = (W.getD w (0, 0, 0)).2.2) (hP : PlC h0 P) (hZ : ZC h0 P.np) (hO : OwC h0 P.own) (ho : OwP P) (k0 : rdL X W P w n = none → ∀ h', fq inCl h0 h' → Q (some (.int 0)) h') (k1 : ∀ P', rdL X W P w n = some P' → ∀ h', PlC h' P' → ZC h' P'.np → OwC h' P'.own → fq inCl h0 h' → Q (some (.int 1)) h') : mr_C mj_KK d 150 [.ref 564, .ref 2, .ref 9, .int (nI w)] h0 Q := by
  show mr_M mj_KK d 150 0 [some (.ref 564), some (.ref 2), some (.ref 9), some (.int (nI w)), none, none] [] h0 Q
  have hw4 := hW.2.2.2.1
  have H := H0
  have hj12 := hP.2.1
  have hp8 := hP.2.2.2.1
  have e9 : w + n = w + 1 + (n - 1) := by omega
  unfold rdL at k0 k1
  refine kb_150_0 kd_W (by omega) (s169 (by omega) H hW hn0 hn hl1 hl2 ?_)
  rw [nI_1]
  refine kb_150_10 kd_W (by omega) (s162x (by omega) H hW hk (by omega) (by decide) (fun q => ?_) (fun q => ?_))
  · rw [if_pos q] at k0
    simp only [if_pos q] at k1
    refine kb_150_19 (fun c => absurd c (by decide)) (fun _ => kb_150_22 (fun c => kb_150_49 (kb_150_50 (by first | assumption | exact b2i_01 _ | exact Or.inl rfl | exact Or.inr rfl) ?_)) (fun c => kb_150_31 kd_W (by omega) (s165 (by omega) H hW ?_ ?_)))
    · simp (disch := omega) only [z_0, z_1, z_2, z_3, z_4, z_5, z_6, z_7, z_8, z_9, z_10, z_12, z_13, z_20, z_21, z_25, z_56, z_350, z_31, z_32, z_36, z_48, z_57, z_61, z_97, z_100, z_122, z_125, z_126, z_144, z_255, z_700, z_1000, z_1548, nI_add, pk_mul, pk_sub, nI_clamp, nI_leI, nI_ltI, nI_eq, z_in, z_m1, z_m1b, lg_cmp_eq, z_cmp, Decidable.not_not, w_ie, w_in, w_il, w_le, w_ln, w_li, w_ir, w_lr] at c
      rw [if_neg (fun r => c (by omega))] at k0
      exact k0 rfl h0 fq.rfl'
    · simp (disch := omega) only [z_0, z_1, z_2, z_3, z_4, z_5, z_6, z_7, z_8, z_9, z_10, z_12, z_13, z_20, z_21, z_25, z_56, z_350, z_31, z_32, z_36, z_48, z_57, z_61, z_97, z_100, z_122, z_125, z_126, z_144, z_255, z_700, z_1000, z_1548, nI_add, pk_mul, pk_sub, nI_clamp, nI_leI, nI_ltI, nI_eq, z_in, z_m1, z_m1b, lg_cmp_eq, z_cmp, Decidable.not_not, w_ie, w_in, w_il, w_le, w_ln, w_li, w_ir, w_lr] at c
      omega
    simp (disch := omega) only [z_0, z_1, z_2, z_3, z_4, z_5, z_6, z_7, z_8, z_9, z_10, z_12, z_13, z_20, z_21, z_25, z_56, z_350, z_31, z_32, z_36, z_48, z_57, z_61, z_97, z_100, z_122, z_125, z_126, z_144, z_255, z_700, z_1000, z_1548, nI_add, pk_mul, pk_sub, nI_clamp, nI_leI, nI_ltI, nI_eq, z_in, z_m1, z_m1b, lg_cmp_eq, z_cmp, Decidable.not_not, w_ie, w_in, w_il, w_le, w_ln, w_li, w_ir, w_lr] at c
    have en : n = 2 := by omega
    have ey : nw X (sp (W.getD (w + 1) (0, 0, 0))) = wy X W (w + 1) := rfl
    rw [ey]
    refine kb_150_39 kd_RD (by omega) (s151 (by omega) H hP hZ (fun r => ?_) (fun r h' g1 g2 g3 g4 => ?_))
    · rw [if_neg (fun v => r v.2)] at k0
      exact kb_150_42 (fun _ => kb_150_49 (kb_150_50 (by first | assumption | exact b2i_01 _ | exact Or.inl rfl | exact Or.inr rfl) (k0 rfl h0 fq.rfl'))) (fun c => absurd rfl c)
    · simp only [if_pos (show (n = 2 ∧ wy X W (w + 1) ≠ 0 ∧ P.nj < 12 ∧ jN P (wy X W (w + 1)) = -1) from ⟨en, r⟩)] at k1
      exact kb_150_42 (fun c => absurd c (by decide)) (fun _ => kb_150_45 (kb_150_50 (by first | assumption | exact b2i_01 _ | exact Or.inl rfl | exact Or.inr rfl) (k1 _ rfl h' g1 g2 g3 g4)))
  rw [if_neg q] at k0
  simp only [if_neg q] at k1
  refine kb_150_19 (fun _ => kb_150_51 kd_W (by omega) (s162x (by omega) H hW hk (by omega) (by decide) (fun q => ?_) (fun q => ?_))) (fun c => absurd rfl c)
  · rw [if_pos q] at k0
    simp only [if_pos q] at k1
    refine kb_150_58 (fun c => absurd c (by decide)) (fun _ => kb_150_61 (fun c => kb_150_88 (kb_150_89 (by first | assumption | exact b2i_01 _ | exact Or.inl rfl | exact Or.inr rfl) ?_)) (fun c => kb_150_70 kd_W (by omega) (s165 (by omega) H hW ?_ ?_)))
    · simp (disch := omega) only [z_0, z_1, z_2, z_3, z_4, z_5, z_6, z_7, z_8, z_9, z_10, z_12, z_13, z_20, z_21, z_25, z_56, z_350, z_31, z_32, z_36, z_48, z_57, z_61, z_97, z_100, z_122, z_125, z_126, z_144, z_255, z_700, z_1000, z_1548, nI_add, pk_mul, pk_sub, nI_clamp, nI_leI, nI_ltI, nI_eq, z_in, z_m1, z_m1b, lg_cmp_eq, z_cmp, Decidable.not_not, w_ie, w_in, w_il, w_le, w_ln, w_li, w_ir, w_lr] at c
      rw [if_neg (fun r => c (by omega))] at k0
      exact k0 rfl h0 fq.rfl'
    · simp (disch := omega) only [z_0, z_1, z_2, z_3, z_4, z_5, z_6, z_7, z_8, z_9, z_10, z_12, z_13, z_20, z_21, z_25, z_56, z_350, z_31, z_32, z_36, z_48, z_57, z_61, z_97, z_100, z_122, z_125, z_126, z_144, z_255, z_700, z_1000, z_1548, nI_add, pk_mul, pk_sub, nI_clamp, nI_leI, nI_ltI, nI_eq, z_in, z_m1, z_m1b, lg_cmp_eq, z_cmp, Decidable.not_not, w_ie, w_in, w_il, w_le, w_ln, w_li, w_ir, w_lr] at c
      omega
    simp (disch := omega) only [z_0, z_1, z_2, z_3, z_4, z_5, z_6, z_7, z_8, z_9, z_10, z_12, z_13, z_20, z_21, z_25, z_56, z_350, z_31, z_32, z_36, z_48, z_57, z_61, z_97, z_100, z_122, z_125, z_126, z_144, z_255, z_700, z_1000, z_1548, nI_add, pk_mul, pk_sub, nI_clamp, nI_leI, nI_ltI, nI_eq, z_in, z_m1, z_m1b, lg_cmp_eq, z_cmp, Decidable.not_not, w_ie, w_in, w_il, w_le, w_ln, w_li, w_ir, w_lr] at c
    have en : n = 2 := by omega
    have ey : nw X (sp (W.getD (w + 1) (0, 0, 0))) = wy X W (w + 1) := rfl
    rw [ey]
    refine kb_150_78 kd_RD (by omega) (s152 (by omega) H hP hZ (fun r => ?_) (fun r h' g1 g2 g3 g4 => ?_))
    · rw [if_neg (fun v => r v.2)] at k0
      exact kb_150_81 (fun _ => kb_150_88 (kb_150_89 (by first | assumption | exact b2i_01 _ | exact Or.inl rfl | exact Or.inr rfl) (k0 rfl h0 fq.rfl'))) (fun c => absurd rfl c)
    · simp only [if_pos (show (n = 2 ∧ wy X W (w + 1) ≠ 0 ∧ P.np < 8 ∧ pN P (wy X W (w + 1)) = -1) from ⟨en, r⟩)] at k1
      exact kb_150_81 (fun c => absurd c (by decide)) (fun _ => kb_150_84 (kb_150_89 (by first | assumption | exact b2i_01 _ | exact Or.inl rfl | exact Or.inr rfl) (k1 _ rfl h' g1 g2 g3 g4)))
  rw [if_neg q] at k0
  simp only [if_neg q] at k1
  refine kb_150_58 (fun _ => ?_) (fun c => absurd rfl c)
  rcases Nat.lt_or_ge P.own 20 with o20 | o20
  rotate_left
  · rw [if_pos (by omega)] at k0
    exact kb_150_90n kd_RD ((hO.2 (by omega)).2.2 o20) (k0 rfl h0 fq.rfl')
  have no20 : ¬ ¬ P.own < 20 := fun r => r o20
  rw [if_neg no20] at k0
  simp only [if_neg no20] at k1
  have hs1 : h0.2.2 564 1 = some (sa P.own) := by
    rcases Nat.lt_or_ge P.own 12 with v | v
    · exact (hO.1 v).2
    · exact (hO.2 v).2.1 o20
  have isq := isS_sa o20
  have ho2 : P.own < P.nj ∨ (12 ≤ P.own ∧ P.own < 12 + P.np) := by
    rcases ho with v | v | v
    · omega
    · exact Or.inl v
    · exact Or.inr v
  have hSc : ScC h0 (sa P.own) (P.sc P.own) := by
    rcases ho2 with v | v
    · rw [sa_j (by omega)]
      exact (hP.2.2.2.2.1 _ v).1
    · have := hP.2.2.2.2.2 (P.own - 12) (by omega)
      rw [show 12 + (P.own - 12) = P.own from by omega] at this
      have e : sa P.own = 540 + 3 * (P.own - 12) := by
        unfold sa
        rw [if_neg (by omega)]
      rw [e]
      exact this
  have frS : ∀ h', fr (inS (sa P.own)) h0 h' → fq inCl h0 h' := fun h' g => (g.mono (fun a i r => by unfold inS sa at r; unfold inCl; split at r <;> omega)).q
  have zS : ∀ h', fr (inS (sa P.own)) h0 h' → ZC h' P.np := fun h' g p hp => (g.n (by unfold inS sa; split <;> omega)).trans (hZ p hp)
  refine kb_150_90 kd_RD hs1 (kb_150_99 kd_W (by omega) (s162x (by omega) H hW hk (by omega) (by decide) (fun q => ?_) (fun q => ?_)))
  · rw [if_pos q] at k0
    simp only [if_pos q] at k1
    refine kb_150_106 (fun c => absurd c (by decide)) (fun _ => kb_150_109 kd_RD hs1 isq.1 (by omega) ?_)
    rw [e9]
    refine s155 (by omega) isq (by omega) H hSc (fun r => ?_) (fun r1 r2 r3 h' g1 g2 => ?_)
    · rw [if_neg (by omega)] at k0
      exact kb_150_120 (by first | assumption | exact b2i_01 _ | exact Or.inl rfl | exact Or.inr rfl) (k0 rfl h0 fq.rfl')
    · simp only [if_pos (show (2 ≤ n ∧ n ≤ 7 ∧ (P.sc P.own).2.length < 8) from ⟨by omega, by omega, r3⟩)] at k1
      exact kb_150_120 (by first | assumption | exact b2i_01 _ | exact Or.inl rfl | exact Or.inr rfl) (k1 _ rfl h' (PlC_sc hP ho2 g2 g1) (zS h' g2) (hO.of g2.1) (frS h' g2))
  rw [if_neg q] at k0
  simp only [if_neg q] at k1
  refine kb_150_106 (fun _ => kb_150_121 kd_W (by omega) (s162x (by omega) H hW hk (by omega) (by decide) (fun q => ?_) (fun q => ?_))) (fun c => absurd rfl c)
  · rw [if_pos q] at k0
    simp only [if_pos q] at k1
    refine kb_150_128 (fun c => absurd c (by decide)) (fun _ => kb_150_131 (fun c => kb_150_160 (kb_150_161 (by first | assumption | exact b2i_01 _ | exact Or.inl rfl | exact Or.inr rfl) ?_)) (fun c => kb_150_140 kd_RD hs1 kd_W (by omega) (s165 (by omega) H hW ?_ ?_)))
    · simp (disch := omega) only [z_0, z_1, z_2, z_3, z_4, z_5, z_6, z_7, z_8, z_9, z_10, z_12, z_13, z_20, z_21, z_25, z_56, z_350, z_31, z_32, z_36, z_48, z_57, z_61, z_97, z_100, z_122, z_125, z_126, z_144, z_255, z_700, z_1000, z_1548, nI_add, pk_mul, pk_sub, nI_clamp, nI_leI, nI_ltI, nI_eq, z_in, z_m1, z_m1b, lg_cmp_eq, z_cmp, Decidable.not_not, w_ie, w_in, w_il, w_le, w_ln, w_li, w_ir, w_lr] at c
      rw [if_neg (fun r => c (by omega))] at k0
      exact k0 rfl h0 fq.rfl'
    · simp (disch := omega) only [z_0, z_1, z_2, z_3, z_4, z_5, z_6, z_7, z_8, z_9, z_10, z_12, z_13, z_20, z_21, z_25, z_56, z_350, z_31, z_32, z_36, z_48, z_57, z_61, z_97, z_100, z_122, z_125, z_126, z_144, z_255, z_700, z_1000, z_1548, nI_add, pk_mul, pk_sub, nI_clamp, nI_leI, nI_ltI, nI_eq, z_in, z_m1, z_m1b, lg_cmp_eq, z_cmp, Decidable.not_not, w_ie, w_in, w_il, w_le, w_ln, w_li, w_ir, w_lr] at c
      omega
    simp (disch := omega) only [z_0, z_1, z_2, z_3, z_4, z_5, z_6, z_7, z_8, z_9, z_10, z_12, z_13, z_20, z_21, z_25, z_56, z_350, z_31, z_32, z_36, z_48, z_57, z_61, z_97, z_100, z_122, z_125, z_126, z_144, z_255, z_700, z_1000, z_1548, nI_add, pk_mul, pk_sub, nI_clamp, nI_leI, nI_ltI, nI_eq, z_in, z_m1, z_m1b, lg_cmp_eq, z_cmp, Decidable.not_not, w_ie, w_in, w_il, w_le, w_ln, w_li, w_ir, w_lr] at c
    have en : n = 2 := by omega
    have ey : nw X (sp (W.getD (w + 1) (0, 0, 0))) = wy X W (w + 1) := rfl
    rw [ey]
    refine kb_150_150 isq.1 (by omega) (s156 (a := 0) (b := 0) (by omega) isq H hSc (fun r => ?_) (fun r1 r2 h' g1 g2 => ?_))
    · rw [if_neg (fun v => r.elim v.2.1 (fun r => r v.2.2))] at k0
      exact kb_150_153 (fun _ => kb_150_160 (kb_150_161 (by first | assumption | exact b2i_01 _ | exact Or.inl rfl | exact Or.inr rfl) (k0 rfl h0 fq.rfl'))) (fun c => absurd rfl c)
    · simp only [if_pos (show (n = 2 ∧ wy X W (w + 1) ≠ 0 ∧ (P.sc P.own).2.length < 8) from ⟨en, r1, r2⟩)] at k1
      exact kb_150_153 (fun c => absurd c (by decide)) (fun _ => kb_150_156 (kb_150_161 (by first | assumption | exact b2i_01 _ | exact Or.inl rfl | exact Or.inr rfl) (k1 _ rfl h' (PlC_sc hP ho2 g2 g1) (zS h' g2) (hO.of g2.1) (frS h' g2))))
  rw [if_neg q] at k0
  simp only [if_neg q] at k1
  refine kb_150_128 (fun _ => ?_) (fun c => absurd rfl c)
  rcases Nat.lt_or_ge P.own 12 with o12 | o12
  rotate_left
  · rw [if_pos (by omega)] at k0
    exact kb_150_162n kd_RD (hO.2 o12).1 (k0 rfl h0 fq.rfl')
  have no12 : ¬ ¬ P.own < 12 := fun r => r o12
  rw [if_neg no12] at k0
  simp only [if_neg no12] at k1
  have hoj : P.own < P.nj := by omega
  have hr0 := (hO.1 o12).1
  obtain ⟨c1, c2, c3, c4, c5⟩ := id (hP.2.2.2.2.1 _ hoj).2
  have l2 := c2.2.1
  have l3 := c3.2.1
  have l4 := c4.2.1
  have frJ : ∀ {R : Nat → Nat → Prop} h', (∀ a i, R a i → 12 + 44 * P.own ≤ a ∧ a < 56 + 44 * P.own) → fr R h0 h' → fq inCl h0 h' ∧ ZC h' P.np := fun h' m g => ⟨(g.mono (fun a i r => by have := m a i r; unfold inCl; omega)).q, fun p hp => (g.n (fun r => by have := m _ _ r; omega)).trans (hZ p hp)⟩
  refine kb_150_162 kd_RD hr0 (kb_150_171 kd_W (by omega) (s162x (by omega) H hW hk (by omega) (by decide) (fun q => ?_) (fun q => ?_)))
  · rw [if_pos q] at k0
    simp only [if_pos q] at k1
    refine kb_150_178 (fun c => absurd c (by decide)) (fun _ => kb_150_181 kd_RD hr0 (kd_JB _ o12) (by omega) ?_)
    rw [e9]
    have mm : ∀ a i, inN P.own a i → 12 + 44 * P.own ≤ a ∧ a < 56 + 44 * P.own ∧ a ≠ 13 + 44 * P.own ∧ a ≠ 14 + 44 * P.own ∧ a ≠ 15 + 44 * P.own := fun a i r => by unfold inN at r; omega
    refine s121 (by omega) o12 H hW (by omega) c1 (fun r h' g => ?_) (fun r1 ns' r2 h' g1 g2 => ?_)
    · refine kb_150_193 (by first | assumption | exact b2i_01 _ | exact Or.inl rfl | exact Or.inr rfl) (k0 ?_ h' (frJ h' (fun a i r => by have := mm a i r; omega) g).1)
      split
      · rfl
      · rcases r with r | r
        · omega
        · rw [r]
          rfl
    · have n1 : ¬ n = 1 := by omega
      simp only [if_neg n1, r2] at k1
      have fj := frJ h' (fun a i r => by have := mm a i r; omega) g2
      refine kb_150_193 (by first | assumption | exact b2i_01 _ | exact Or.inl rfl | exact Or.inr rfl) (k1 _ rfl h' (PlC_jr hP hoj g2 mm ⟨g1, c2.fr g2 ?_, c3.fr g2 ?_, c4.fr g2 ?_, c5.fr g2 ?_⟩) fj.2 (hO.of g2.1) fj.1)
      · exact ⟨by unfold inN; omega, fun a i ha => by unfold inN; omega⟩
      · exact ⟨by unfold inN; omega, fun a i ha => by unfold inN; omega⟩
      · exact ⟨by unfold inN; omega, fun a i ha => by unfold inN; omega⟩
      · exact ⟨by unfold inN; omega, fun i => by unfold inN; omega⟩
  rw [if_neg q] at k0
  simp only [if_neg q] at k1
  refine kb_150_178 (fun _ => kb_150_194 kd_W (by omega) (s162x (by omega) H hW hk (by omega) (by decide) (fun q => ?_) (fun q => ?_))) (fun c => absurd rfl c)
  · rw [if_pos q] at k0
    simp only [if_pos q] at k1
    refine kb_150_201 (fun c => absurd c (by decide)) (fun _ => kb_150_204 kd_RD hr0 (kd_JB _ o12) (by omega) ?_)
    rw [e9]
    have mm : (P.jr P.own).2.1.length < 3 → ∀ a i, inA P.own (P.jr P.own).2.1.length a i → 12 + 44 * P.own ≤ a ∧ a < 56 + 44 * P.own ∧ a ≠ 13 + 44 * P.own ∧ a ≠ 14 + 44 * P.own ∧ a ≠ 15 + 44 * P.own := fun hl a i r => by unfold inA at r; omega
    have ax3 : ∀ x, axF (P.jr P.own).2.1 (nws X W (w + 1) (n - 1)) = some x → (P.jr P.own).2.1.length < 3 := by
      intro x hx
      match hm : nws X W (w + 1) (n - 1), hx with
      | [], hx => cases hx
      | y :: r, hx =>
        rw [axF_s] at hx
        split at hx
        · cases hx
        · rename_i v
          exact Decidable.byContradiction (fun u => v (Or.inr (Or.inr (Or.inl u))))
    refine s123 (by omega) o12 H hW (by omega) c2 (fun r h' g => ?_) (fun as' r2 h' g1 g2 => ?_)
    · rw [r] at k0
      refine kb_150_216 (by first | assumption | exact b2i_01 _ | exact Or.inl rfl | exact Or.inr rfl) (k0 rfl h' ((g.mono (fun a i r => by unfold inA at r; unfold inCl; omega)).q))
    · have hl3 := ax3 _ r2
      simp only [r2] at k1
      have fj := frJ h' (fun a i r => by have := mm hl3 a i r; omega) g2
      refine kb_150_216 (by first | assumption | exact b2i_01 _ | exact Or.inl rfl | exact Or.inr rfl) (k1 _ rfl h' (PlC_jr hP hoj g2 (mm hl3) ⟨c1.fr g2 ?_, g1, c3.fr g2 ?_, c4.fr g2 ?_, c5.fr g2 ?_⟩) fj.2 (hO.of g2.1) fj.1)
      · exact ⟨by unfold inA; omega, fun i => by unfold inA; omega⟩
      · exact ⟨by unfold inA; omega, fun a i ha => by unfold inA; omega⟩
      · exact ⟨by unfold inA; omega, fun a i ha => by unfold inA; omega⟩
      · exact ⟨by unfold inA; omega, fun i => by unfold inA; omega⟩
  rw [if_neg q] at k0
  simp only [if_neg q] at k1
  have rs4 : ∀ (rs : List Pp) (l : Pp) x, rsF rs l = some x → rs.length < 4 := by
    intro rs l x hx
    unfold rsF at hx
    split at hx
    · cases hx
    · rename_i v
      exact Decidable.byContradiction (fun u => v (Or.inl u))
  refine kb_150_201 (fun _ => kb_150_217 kd_W (by omega) (s162x (by omega) H hW hk (by omega) (by decide) (fun q => ?_) (fun q => ?_))) (fun c => absurd rfl c)
  · rw [if_pos q] at k0
    simp only [if_pos q] at k1
    refine kb_150_224 (fun c => absurd c (by decide)) (fun _ => kb_150_227 kd_RD hr0 (kd_JB _ o12) (rf_JB_includes H o12) (kd_IN _ o12) (by omega) ?_)
    rw [e9]
    refine s132 (by omega) (isR_IN o12) (by omega) H hW (by omega) c3 (fun r h' g => ?_) (fun rs' r2 h' g1 g2 => ?_)
    · rw [r] at k0
      refine kb_150_242 (by first | assumption | exact b2i_01 _ | exact Or.inl rfl | exact Or.inr rfl) (k0 rfl h' ((g.mono (fun a i r => by unfold inR at r; unfold inCl; omega)).q))
    · have hl3 := rs4 _ _ _ r2
      simp only [r2] at k1
      have mm : ∀ a i, inR (18 + 44 * P.own) (P.jr P.own).2.2.1.length a i → 12 + 44 * P.own ≤ a ∧ a < 56 + 44 * P.own ∧ a ≠ 13 + 44 * P.own ∧ a ≠ 14 + 44 * P.own ∧ a ≠ 15 + 44 * P.own := fun a i r => by unfold inR at r; omega
      have fj := frJ h' (fun a i r => by have := mm a i r; omega) g2
      refine kb_150_242 (by first | assumption | exact b2i_01 _ | exact Or.inl rfl | exact Or.inr rfl) (k1 _ rfl h' (PlC_jr hP hoj g2 mm ⟨c1.fr g2 ?_, c2.fr g2 ?_, g1, c4.fr g2 ?_, c5.fr g2 ?_⟩) fj.2 (hO.of g2.1) fj.1)
      · exact ⟨by unfold inR; omega, fun i => by unfold inR; omega⟩
      · exact ⟨by unfold inR; omega, fun a i ha => by unfold inR; omega⟩
      · exact ⟨by unfold inR; omega, fun a i ha => by unfold inR; omega⟩
      · exact ⟨by unfold inR; omega, fun i => by unfold inR; omega⟩
  rw [if_neg q] at k0
  simp only [if_neg q] at k1
  refine kb_150_224 (fun _ => kb_150_243 kd_W (by omega) (s162x (by omega) H hW hk (by omega) (by decide) (fun q => ?_) (fun q => ?_))) (fun c => absurd rfl c)
  · rw [if_pos q] at k0
    simp only [if_pos q] at k1
    refine kb_150_250 (fun c => absurd c (by decide)) (fun _ => kb_150_253 kd_RD hr0 (kd_JB _ o12) (rf_JB_excludes H o12) (kd_EC _ o12) (by omega) ?_)
    rw [e9]
    refine s132 (by omega) (isR_EC o12) (by omega) H hW (by omega) c4 (fun r h' g => ?_) (fun rs' r2 h' g1 g2 => ?_)
    · rw [r] at k0
      refine kb_150_268 (by first | assumption | exact b2i_01 _ | exact Or.inl rfl | exact Or.inr rfl) (k0 rfl h' ((g.mono (fun a i r => by unfold inR at r; unfold inCl; omega)).q))
    · have hl3 := rs4 _ _ _ r2
      simp only [r2] at k1
      have mm : ∀ a i, inR (32 + 44 * P.own) (P.jr P.own).2.2.2.1.length a i → 12 + 44 * P.own ≤ a ∧ a < 56 + 44 * P.own ∧ a ≠ 13 + 44 * P.own ∧ a ≠ 14 + 44 * P.own ∧ a ≠ 15 + 44 * P.own := fun a i r => by unfold inR at r; omega
      have fj := frJ h' (fun a i r => by have := mm a i r; omega) g2
      refine kb_150_268 (by first | assumption | exact b2i_01 _ | exact Or.inl rfl | exact Or.inr rfl) (k1 _ rfl h' (PlC_jr hP hoj g2 mm ⟨c1.fr g2 ?_, c2.fr g2 ?_, c3.fr g2 ?_, g1, c5.fr g2 ?_⟩) fj.2 (hO.of g2.1) fj.1)
      · exact ⟨by unfold inR; omega, fun i => by unfold inR; omega⟩
      · exact ⟨by unfold inR; omega, fun a i ha => by unfold inR; omega⟩
      · exact ⟨by unfold inR; omega, fun a i ha => by unfold inR; omega⟩
      · exact ⟨by unfold inR; omega, fun i => by unfold inR; omega⟩
  rw [if_neg q] at k0
  simp only [if_neg q] at k1
  refine kb_150_250 (fun _ => kb_150_269 kd_W (by omega) (s162x (by omega) H hW hk (by omega) (by decide) (fun q => ?_) (fun q => ?_))) (fun c => absurd rfl c)
  · rw [if_pos q] at k0
    simp only [if_pos q] at k1
    refine kb_150_276 (fun c => absurd c (by decide)) (fun _ => kb_150_279 kd_RD hr0 (kd_JB _ o12) (rf_JB_condition H o12) (kd_CD _ o12) (by omega) ?_)
    rw [e9]
    refine s92 (by omega) o12 H hW hk (by omega) c5 (fun r h' g => ?_) (fun r1 r2 r3 r4 h' g1 g2 => ?_)
    · refine kb_150_294 (fun _ => kb_150_301 (kb_150_302 (by first | assumption | exact b2i_01 _ | exact Or.inl rfl | exact Or.inr rfl) (k0 ?_ h' ((g.mono (fun a i r => by unfold inC at r; unfold inCl; omega)).q)))) (fun c => absurd rfl c)
      rcases r with r | r | r
      · rw [if_pos (Or.inl r)]
      · rw [if_pos (Or.inr r)]
      · split
        · rfl
        · rw [e9, r]
          rfl
    · have nn1 : ¬ (¬ (P.jr P.own).2.2.2.2.2 = [] ∨ 20 < n - 1) := fun v => v.elim (fun v => v r1) (fun v => by omega)
      rw [← e9] at r4
      simp only [if_neg nn1, r4] at k1
      have mm : ∀ a i, inC P.own a i → 12 + 44 * P.own ≤ a ∧ a < 56 + 44 * P.own ∧ a ≠ 13 + 44 * P.own ∧ a ≠ 14 + 44 * P.own ∧ a ≠ 15 + 44 * P.own := fun a i r => by unfold inC at r; omega
      have fj := frJ h' (fun a i r => by have := mm a i r; omega) g2
      refine kb_150_294 (fun c => absurd c (by decide)) (fun _ => kb_150_297 (kb_150_302 (by first | assumption | exact b2i_01 _ | exact Or.inl rfl | exact Or.inr rfl) (k1 _ rfl h' (PlC_jr hP hoj g2 mm ⟨c1.fr g2 ?_, c2.fr g2 ?_, c3.fr g2 ?_, c4.fr g2 ?_, g1⟩) fj.2 (hO.of g2.1) fj.1)))
      · exact ⟨by unfold inC; omega, fun i => by unfold inC; omega⟩
      · exact ⟨by unfold inC; omega, fun a i ha => by unfold inC; omega⟩
      · exact ⟨by unfold inC; omega, fun a i ha => by unfold inC; omega⟩
      · exact ⟨by unfold inC; omega, fun a i ha => by unfold inC; omega⟩
  · rw [if_neg q] at k0
    exact kb_150_276 (fun _ => kb_150_301 (kb_150_302 (by first | assumption | exact b2i_01 _ | exact Or.inl rfl | exact Or.inr rfl) (k0 rfl h0 fq.rfl'))) (fun c => absurd rfl c)
end
