-- ===== what holds between two calls =====
/-- the tape -/
def JT (h : mj_H) (n : Nat) : Prop := h.1 0 1 = nI n ∧ h.1 573 2 = nI n ∧ n ≤ 700 ∧ ∀ i, i < n → h.1 574 i = h.1 1 i ∧ tch2 (h.1 1 i)
/-- what was read last -/
def JR (h : mj_H) (P : mj_P) (X : Nat → Int32) (L : Nat) (W : List Wt) (kept : Nat) : Prop := (∀ i, i < L → h.1 575 i = X i) ∧ WW h X L W ∧ wks X W ∧ VP W P ∧ PlC h P ∧ PlM h W kept P ∧ h.1 565 1 = (fc P).1 ∧ h.1 565 2 = (fc P).2 ∧ ((fc P).1 = 0 → SC h P (σF P)) ∧ kept ≤ 350
/-- what was expanded last -/
def JE (h : mj_H) (P : mj_P) (XE : List En) : Prop := XC h P XE ∧ XM h XE ∧ (XE = [] ∨ (XE = exA P P.nj ∧ (fc P).1 = 0))
def mj_J (h : mj_H) : Prop := mj_RS h ∧ h.2.1 573 4 = h.2.1 0 2 ∧ (∃ n, JT h n) ∧ ∃ P X L W kept XE, JR h P X L W kept ∧ JE h P XE
section
variable {h h' : mj_H} {R : Nat → Nat → Prop} {n L kept : Nat} {P : mj_P} {X : Nat → Int32} {W : List Wt} {XE : List En}
theorem JT_fr (A : JT h n) (f : fr R h h') (m : ∀ a i, ((a = 0 ∧ i = 1) ∨ (a = 1 ∧ i < n) ∨ (a = 573 ∧ i = 2) ∨ (a = 574 ∧ i < n)) → ¬ R a i) : JT h' n := by
  obtain ⟨a1, a2, a3, a4⟩ := A
  refine ⟨(f.n (m 0 1 (by omega))).trans a1, (f.n (m 573 2 (by omega))).trans a2, a3, fun i hi => ?_⟩
  rw [f.n (m 574 i (by omega)), f.n (m 1 i (by omega))]
  exact a4 i hi
theorem JR_fr (A : JR h P X L W kept) (f : fr R h h') (m : ∀ a i, ((2 ≤ a ∧ a < 564) ∨ a = 565 ∨ a = 575 ∨ (a = 573 ∧ (i = 9 ∨ i = 10 ∨ i = 18)) ∨ (578 ≤ a ∧ a ≤ 599)) → ¬ R a i) : JR h' P X L W kept := by
  obtain ⟨a1, a2, a3, a4, a5, a6, a7, a8, a9, a10⟩ := A
  refine ⟨fun i hi => (f.n (m 575 i (by omega))).trans (a1 i hi), a2.fr f (fun a i h1 h2 => m a i (by omega)), a3, a4, a5.fr f (fun a i h1 h2 h3 => m a i (by omega)), PlM_fr a6 f (fun a i q => m a i (by omega)), (f.n (m 565 1 (by omega))).trans a7, (f.n (m 565 2 (by omega))).trans a8, fun q p hp => (f.n (m _ 4 ?_)).trans (a9 q p hp), a10⟩
  have := a4.2.1
  omega
theorem JE_fr (A : JE h P XE) (f : fr R h h') (m : ∀ a i, ((a = 567 ∧ i = 2) ∨ a = 568 ∨ a = 569 ∨ (a = 573 ∧ i = 34) ∨ a = 600 ∨ a = 601) → ¬ R a i) : JE h' P XE := by
  obtain ⟨⟨a1, a2, a3⟩, ⟨b1, b2, b3⟩, c⟩ := A
  exact ⟨⟨(f.n (m 567 2 (by omega))).trans a1, a2, fun i hi => ⟨(f.n (m 568 i (by omega))).trans (a3 i hi).1, (f.n (m 569 i (by omega))).trans (a3 i hi).2⟩⟩, ⟨(f.n (m 573 34 (by omega))).trans b1, b2, fun i hi => ⟨(f.n (m 600 i (by omega))).trans (b3 i hi).1, (f.n (m 601 i (by omega))).trans (b3 i hi).2⟩⟩, c⟩
/-- the cells that no call looks at before it has set them -/
def inQ : Nat → Nat → Prop := fun a i => a = 566 ∨ (570 ≤ a ∧ a ≤ 572) ∨ (a = 573 ∧ (i = 38 ∨ i = 39 ∨ i = 43)) ∨ 602 ≤ a
theorem J_keep (A : mj_J h) (f : fr inQ h h') : mj_J h' := by
  obtain ⟨H, b, ⟨n, t⟩, P, X, L, W, kept, XE, r, e⟩ := A
  refine ⟨f.rs H, ?_, ⟨n, JT_fr t f (fun a i q => by unfold inQ; omega)⟩, P, X, L, W, kept, XE, JR_fr r f (fun a i q => by unfold inQ; omega), JE_fr e f (fun a i q => by unfold inQ; omega)⟩
  rw [f.l (by unfold inQ; omega), f.l (by unfold inQ; omega)]
  exact b
end
theorem mj_op_of {jc jm : Nat} {As : List Value} (H : ∀ h, mj_J h → mr_C mj_KK 60 jc (.ref 0 :: As) h (fun v h1 => ∃ r, v = some (.int r) ∧ mr_C mj_KK 60 jm (.ref 573 :: As) h1 (fun v2 h2 => v2 = some (.int r) ∧ mj_J h2))) : mj_Op mj_J mj_KK 573 jc jm As := by
  intro h hJ
  obtain ⟨f1, v, h1, r1, r, hv, f2, v2, h2, r2, hv2, j2⟩ := H h hJ
  subst hv
  subst hv2
  exact ⟨r, h1, h2, f1, f2, r1, r2, j2⟩
theorem mj_zz2 : (∀ k, k < 20 → mj_h2.1 579 k = nI 0) ∧ ∀ j, j < 12 → mj_h2.1 585 j = nI 0 ∧ mj_h2.1 586 j = nI 0 ∧ mj_h2.1 591 j = nI 0 ∧ mj_h2.1 592 j = nI 0 ∧ mj_h2.1 596 j = nI 0 := by decide +kernel
theorem fc_P0 : fc P0 = (0, -1) := by decide +kernel
theorem mj_J2 : mj_J mj_h2 := by
  obtain ⟨i1, i2, i3, i4, i5, i6, i7, i8, i9, i10, i11, i12, i13, i14, i15⟩ := mj_ints2
  obtain ⟨z1, z2⟩ := mj_zz2
  refine ⟨mj_RS2, i11.trans i2.symm, ⟨0, i1, i9, by decide, fun i hi => absurd hi (Nat.not_lt_zero i)⟩, P0, fun _ => 0, 0, [], 0, [], ⟨fun i hi => absurd hi (Nat.not_lt_zero i), ⟨by decide, fun i hi => absurd hi (Nat.not_lt_zero i), i3, by decide, fun i hi => absurd hi (Nat.not_lt_zero i)⟩, ?_, VP_0, ⟨i4, by decide, i5, by decide, fun i hi => absurd hi (Nat.not_lt_zero i), fun i hi => absurd hi (Nat.not_lt_zero i)⟩, ⟨⟨i12, by decide, i13, by decide, i14⟩, fun i hi => absurd hi (Nat.not_lt_zero i), fun i hi => absurd hi (Nat.not_lt_zero i), fun k hk => ⟨z1 k hk, Nat.zero_le _, fun i hi => absurd hi (Nat.not_lt_zero i)⟩, fun j hj => ?_⟩, by rw [fc_P0]; exact i6, by rw [fc_P0]; exact i7, fun _ p hp => absurd hp (Nat.not_lt_zero p), by decide⟩, ⟨i8, by decide, fun i hi => absurd hi (Nat.not_lt_zero i)⟩, ⟨i15, by decide, fun i hi => absurd hi (Nat.not_lt_zero i)⟩, Or.inl rfl⟩
  · exact fun t ht => absurd ht (Nat.not_lt_zero t)
  · obtain ⟨y1, y2, y3, y4, y5⟩ := z2 j hj
    exact ⟨⟨y1, Nat.zero_le _, Lh.nil⟩, ⟨y2, Nat.zero_le _, fun i hi => absurd hi (Nat.not_lt_zero i)⟩, ⟨y3, Nat.zero_le _, fun i hi => absurd hi (Nat.not_lt_zero i)⟩, ⟨y4, Nat.zero_le _, fun i hi => absurd hi (Nat.not_lt_zero i)⟩, ⟨y5, Nat.zero_le _, fun i hi => absurd hi (Nat.not_lt_zero i)⟩⟩
theorem tch2_of {b : Nat} (h : okc b) : tch2 (nI b) := by
  unfold okc at h
  rcases Nat.decEq b 10 with q | q
  · exact Or.inr (Or.inr ⟨b, by omega, by omega, rfl⟩)
  · exact Or.inl (by rw [q]; rfl)
theorem mj_op1 (w : Int64) : mj_Op mj_J mj_KK 573 1 24 [.long w] := by
  refine mj_op_of (fun h hJ => ?_)
  obtain ⟨N, hN, rfl⟩ := wb_of w
  obtain ⟨H, b, ⟨n, t1, t2, t3, t4⟩, P, X, L, W, kept, XE, r, e⟩ := hJ
  refine s1 (by decide) H hN t3 t1 (fun q h1 f1 => ⟨0, rfl, ?_⟩) (fun g1 g2 h1 g3 g4 f1 => ⟨1, rfl, ?_⟩)
  · refine s24 (by decide) (f1.rs H) hN t3 ((f1.n (by omega)).trans t2) (fun _ => ⟨rfl, f1.rs H, ?_, ⟨n, JT_fr ⟨t1, t2, t3, t4⟩ f1 (fun a i q => by omega)⟩, P, X, L, W, kept, XE, JR_fr r f1 (fun a i q => by omega), JE_fr e f1 (fun a i q => by omega)⟩) (fun g1 g2 => absurd g1 (fun g1 => q.elim (fun z => z g1) (fun z => absurd z (by omega))))
    rw [f1.l (by omega), f1.l (by omega)]
    exact b
  · refine s24 (by decide) (f1.rs H) hN t3 ((f1.n (by omega)).trans t2) (fun q => q.elim (fun z => absurd g1 z) (fun z => absurd z (by omega))) (fun _ _ h2 g5 g6 f2 => ⟨rfl, f2.rs (f1.rs H), ?_, ⟨n + (ap8 N 8).length, (f2.n (by omega)).trans g3, g5, g2, fun i hi => ?_⟩, P, X, L, W, kept, XE, JR_fr (JR_fr r f1 (fun a i q => by omega)) f2 (fun a i q => by omega), JE_fr (JE_fr e f1 (fun a i q => by omega)) f2 (fun a i q => by omega)⟩)
    · rw [f2.l (by omega), f1.l (by omega), f2.l (by omega), f1.l (by omega)]
      exact b
    · rcases Nat.lt_or_ge i n with q | q
      · rw [f2.n (show ¬ _ by omega), f2.n (show ¬ _ by omega), f1.n (show ¬ _ by omega), f1.n (show ¬ _ by omega)]
        exact t4 i q
      · obtain ⟨k, rfl⟩ : ∃ k, i = n + k := ⟨i - n, by omega⟩
        have hk : k < (ap8 N 8).length := by omega
        rw [f2.n (a := 1) (show ¬ _ by omega), g4 k hk, g6 k hk]
        exact ⟨rfl, tch2_of (ap8_ok g1 _ (getD_mem hk))⟩
theorem mj_op3 : mj_Op mj_J mj_KK 573 3 52 [] := by
  refine mj_op_of (fun h hJ => ?_)
  obtain ⟨H, b, ⟨n, t1, t2, t3, t4⟩, P, X, L, W, kept, XE, r, e⟩ := hJ
  refine s3 (by decide) H t3 t1 (fun h1 g1 g2 f1 => ⟨_, rfl, ?_⟩)
  refine s52 (X := h.1 1) (by decide) (f1.rs H) t3 ((f1.n (by omega)).trans t2) (fun i hi => (f1.n (by omega)).trans (t4 i hi).1) (fun i hi => (t4 i hi).2) (fun h2 g3 g4 f2 => ⟨rfl, f2.rs (f1.rs H), ?_, ⟨0, (f2.n (by omega)).trans g1, g3, by decide, fun i hi => absurd hi (Nat.not_lt_zero i)⟩, P, X, L, W, kept, XE, JR_fr (JR_fr r f1 (fun a i q => by omega)) f2 (fun a i q => by omega), JE_fr (JE_fr e f1 (fun a i q => by omega)) f2 (fun a i q => by omega)⟩)
  rw [g4, f2.l (by omega), g2]
theorem fc_cases {P : mj_P} : ((fc P).1 = 0 ∧ (fc P).2 = -1) ∨ ¬ (fc P).1 ≤ 0 := by
  unfold fc
  repeat' split
  all_goals first | exact Or.inl ⟨rfl, rfl⟩ | exact Or.inr (by show ¬ ((1 : Int32) ≤ 0); decide) | exact Or.inr (by show ¬ ((2 : Int32) ≤ 0); decide) | exact Or.inr (by show ¬ ((3 : Int32) ≤ 0); decide) | exact Or.inr (by show ¬ ((4 : Int32) ≤ 0); decide)
theorem mj_op6 : mj_Op mj_J mj_KK 573 6 61 [] := by
  refine mj_op_of (fun h hJ => ?_)
  obtain ⟨H, b, t, P, X, L, W, kept, XE, r, e⟩ := id hJ
  obtain ⟨r1, r2, r3, r4, r5, r6, r7, r8, r9, r10⟩ := r
  show mr_M mj_KK 60 6 0 [some (.ref 0)] [] h _
  refine kb_6_0 (by first | with_reducible assumption | with_reducible exact kd_P | assumption) (by first | with_reducible assumption | exact rf_P_faults H | assumption) (by first | with_reducible assumption | with_reducible exact kd_FT | assumption) ⟨_, rfl, ?_⟩
  rw [r7]
  exact s61 (by decide) H r6 r4.2.2.2.2.2 (fun h1 g1 f1 => ⟨rfl, J_keep hJ (f1.mono (fun a i q => by unfold inMg at q; unfold inQ; omega))⟩)
theorem mj_op7 : mj_Op mj_J mj_KK 573 7 62 [] := by
  refine mj_op_of (fun h hJ => ?_)
  obtain ⟨H, b, t, P, X, L, W, kept, XE, r, e⟩ := id hJ
  obtain ⟨r1, r2, r3, r4, r5, r6, r7, r8, r9, r10⟩ := r
  show mr_M mj_KK 60 7 0 [some (.ref 0)] [] h _
  refine kb_7_0 (by first | with_reducible assumption | with_reducible exact kd_P | assumption) (by first | with_reducible assumption | exact rf_P_faults H | assumption) (by first | with_reducible assumption | with_reducible exact kd_FT | assumption) ⟨_, rfl, ?_⟩
  rw [r8]
  show mr_M mj_KK 60 62 0 [some (.ref 573), none] [] h _
  refine kb_62_0 (by first | with_reducible assumption | with_reducible exact kd_M | assumption) (by omega) (s61 (by decide) H r6 r4.2.2.2.2.2 (fun h1 g1 f1 => ?_))
  have J1 := J_keep hJ (f1.mono (fun a i q => by unfold inMg at q; unfold inQ; omega))
  refine kb_62_4 (fun c => kb_62_16 (kb_62_17 ⟨?_, J1⟩)) (fun c => kb_62_9 (by first | with_reducible assumption | with_reducible exact kd_M | assumption) (kb_62_17 ⟨?_, J1⟩))
  · rcases fc_cases (P := P) with q | q
    · rw [q.2]
    · exact absurd c q
  · rw [g1]
