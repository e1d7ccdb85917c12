-- ===== the reference reads a line =====
def JrM (h : mj_H) (j : Nat) (J : Jr) : Prop := NdM h j J.1 ∧ AsM h j J.2.1 ∧ RwM h j 591 0 J.2.2.1 ∧ RwM h j 592 4 J.2.2.2.1 ∧ SgM h j J.2.2.2.2.1
def inJ (o : Nat) : Nat → Nat → Prop := fun a i => inMn o a i ∨ inMa o a i ∨ inMr o a i ∨ inMs o a i
theorem JrM.fr {h h' : mj_H} {j o : Nat} {J : Jr} (A : JrM h j J) (f : fr (inJ o) h h') (hn : ¬ j = o) : JrM h' j J := by
  obtain ⟨a1, a2, a3, a4, a5⟩ := A
  refine ⟨a1.fr f ⟨?_, fun i hi => ?_⟩, a2.fr f ⟨?_, fun a ha => ⟨?_, ?_, fun i hi => ?_⟩⟩, a3.fr f ⟨?_, fun r hr => ⟨?_, fun i hi => ⟨?_, ?_⟩⟩⟩, a4.fr f ⟨?_, fun r hr => ⟨?_, fun i hi => ⟨?_, ?_⟩⟩⟩, a5.fr f ?_ (fun i hi => ⟨?_, ?_, ?_⟩)⟩ <;> (unfold inJ inMn inMa inMr inMs; omega)
def PlM (h : mj_H) (W : List Wt) (kept : Nat) (P : mj_P) : Prop := (h.1 573 9 = nI P.nj ∧ P.nj ≤ 12 ∧ h.1 573 10 = nI P.np ∧ P.np ≤ 8 ∧ h.1 573 18 = nI kept) ∧ (∀ j, j < P.nj → h.2.1 578 j = (P.sc j).1) ∧ (∀ p, p < P.np → h.2.1 578 (12 + p) = (P.sc (12 + p)).1) ∧ (∀ k, k < 20 → ItM h W kept k (P.sc k).2) ∧ ∀ j, j < 12 → JrM h j (P.jr j)
def OwM (h : mj_H) (own : Nat) : Prop := (own < 20 → h.1 573 8 = nI own) ∧ (20 ≤ own → h.1 573 8 = -1)
/-- what hasn't begun is empty -/
def EmP (P : mj_P) : Prop := (∀ j, P.nj ≤ j → j < 12 → (P.sc j).2 = [] ∧ P.jr j = E0) ∧ ∀ p, P.np ≤ p → p < 8 → (P.sc (12 + p)).2 = []
def inL : Nat → Nat → Prop := fun a i => (a = 573 ∧ (i = 8 ∨ i = 9 ∨ i = 10 ∨ i = 18 ∨ i = 38)) ∨ (578 ≤ a ∧ a ≤ 599) ∨ a = 602
theorem inJ_L {o a i : Nat} (h : inJ o a i) : inL a i := by
  unfold inJ inMn inMa inMr inMs at h
  unfold inL
  omega
theorem PlM_jr {h h' : mj_H} {W : List Wt} {kept : Nat} {P : mj_P} {J : Jr} (A : PlM h W kept P) (f : fr (inJ P.own) h h') (hJ : JrM h' P.own J) : PlM h' W kept (wJr P J) := by
  obtain ⟨⟨a1, a2, a3, a4, a5⟩, a6, a7, a8, a9⟩ := A
  have n1 : ∀ a i, (578 ≤ a ∧ a ≤ 584 ∨ (a = 573 ∧ i < 38)) → ¬ inJ P.own a i := fun a i q => by unfold inJ inMn inMa inMr inMs; omega
  refine ⟨⟨(f.n (n1 _ _ (by omega))).trans a1, a2, (f.n (n1 _ _ (by omega))).trans a3, a4, (f.n (n1 _ _ (by omega))).trans a5⟩, fun j hj => (f.l (n1 _ _ (by omega))).trans (a6 j hj), fun p hp => (f.l (n1 _ _ (by omega))).trans (a7 p hp), fun k hk => (a8 k hk).fr f (Nat.le_refl _) ⟨n1 _ _ (by omega), fun i hi => ⟨n1 _ _ (by omega), n1 _ _ (by omega), n1 _ _ (by omega)⟩, fun q hq => ⟨n1 _ _ (by omega), n1 _ _ (by omega)⟩⟩, fun j hj => ?_⟩
  show JrM h' j (up P.jr P.own J j)
  by_cases q : j = P.own
  · rw [q, up_e]
    exact hJ
  · rw [up_n q]
    exact (a9 j hj).fr f q
theorem JrM_frI {h h' : mj_H} {j k kept : Nat} {J : Jr} (A : JrM h j J) (f : fr (inMi k kept) h h') : JrM h' j J := by
  obtain ⟨a1, a2, a3, a4, a5⟩ := A
  refine ⟨a1.fr f ⟨?_, fun i hi => ?_⟩, a2.fr f ⟨?_, fun a ha => ⟨?_, ?_, fun i hi => ?_⟩⟩, a3.fr f ⟨?_, fun r hr => ⟨?_, fun i hi => ⟨?_, ?_⟩⟩⟩, a4.fr f ⟨?_, fun r hr => ⟨?_, fun i hi => ⟨?_, ?_⟩⟩⟩, a5.fr f ?_ (fun i hi => ⟨?_, ?_, ?_⟩)⟩ <;> (unfold inMi; omega)
theorem PlM_sc {h h' : mj_H} {W : List Wt} {kept kept' : Nat} {P : mj_P} {t : It} (A : PlM h W kept P) (f : fr (inMi P.own kept) h h') (hk : kept ≤ kept') (h18 : h'.1 573 18 = nI kept') (hI : ItM h' W kept' P.own ((P.sc P.own).2 ++ [t])) : PlM h' W kept' (wSc P t) := by
  obtain ⟨⟨a1, a2, a3, a4, a5⟩, a6, a7, a8, a9⟩ := A
  have nm : ∀ k, (up P.sc P.own ((P.sc P.own).1, (P.sc P.own).2 ++ [t]) k).1 = (P.sc k).1 := by
    intro k
    by_cases q : k = P.own
    · rw [q, up_e]
    · rw [up_n q]
  refine ⟨⟨(f.n (by unfold inMi; omega)).trans a1, a2, (f.n (by unfold inMi; omega)).trans a3, a4, h18⟩, fun j hj => ?_, fun p hp => ?_, fun k hk2 => ?_, fun j hj => JrM_frI (a9 j hj) f⟩
  · show _ = (up P.sc P.own _ j).1
    rw [nm]
    exact (f.l (by unfold inMi; omega)).trans (a6 j hj)
  · show _ = (up P.sc P.own _ (12 + p)).1
    rw [nm]
    exact (f.l (by unfold inMi; omega)).trans (a7 p hp)
  · show ItM h' W kept' k (up P.sc P.own _ k).2
    by_cases q : k = P.own
    · rw [q, up_e]
      exact hI
    · rw [up_n q]
      exact (a8 k hk2).fr f hk ⟨by unfold inMi; omega, fun i hi => by unfold inMi; omega, fun q hq => by unfold inMi; omega⟩
theorem JrM_frB {h h' : mj_H} {j k : Nat} {J : Jr} (A : JrM h j J) (f : fr (inMb k) h h') : JrM h' j J := by
  obtain ⟨a1, a2, a3, a4, a5⟩ := A
  refine ⟨a1.fr f ⟨?_, fun i hi => ?_⟩, a2.fr f ⟨?_, fun a ha => ⟨?_, ?_, fun i hi => ?_⟩⟩, a3.fr f ⟨?_, fun r hr => ⟨?_, fun i hi => ⟨?_, ?_⟩⟩⟩, a4.fr f ⟨?_, fun r hr => ⟨?_, fun i hi => ⟨?_, ?_⟩⟩⟩, a5.fr f ?_ (fun i hi => ⟨?_, ?_, ?_⟩)⟩ <;> (unfold inMb; omega)
theorem kwl {X : Nat → Int32} {W : List Wt} {w t : Nat} {y : Int64} (ht : t < 17) (hy : y = lN (pr (mj_str t).reverse)) (h : wok X (sp (W.getD w (0, 0, 0)))) : lg_cmp (wd X (sp (W.getD w (0, 0, 0)))) y = 0 ↔ wx X W w = mj_str t := by
  rw [lg_cmp_eq, hy, wdk ht h]
  rfl
theorem str_ne : ∀ s, s < 17 → ∀ t, t < 17 → s ≠ t → mj_str s ≠ mj_str t := by decide +kernel
section
variable {d L w n kept : Nat} {h0 : mj_H} {Q : Option Value → mj_H → Prop} {X : Nat → Int32} {W : List Wt} {P : mj_P}
/-- line -/
theorem s50 (hd : 7 ≤ d) (H0 : mj_RS h0) (hR0 : RW h0 X L W w n) (hk : wks X W) (hn0 : 0 < n) (hP : PlM h0 W kept P) (hO : OwM h0 P.own) (ho : OwP P) (hE : EmP P) (hkw : kept ≤ w) (hCR : P.own < 12 → ((P.jr P.own).2.2.2.2.1 = [] ↔ (P.jr P.own).2.2.2.2.2 = [])) (k0 : rdL X W P w n = none → ∀ h', fr inL h0 h' → Q (some (.int 0)) h') (k1 : ∀ P', rdL X W P w n = some P' → ∀ h' kept', PlM h' W kept' P' → kept' ≤ w + n → OwM h' P'.own → fr inL h0 h' → Q (some (.int 1)) h') : mr_C mj_KK d 50 [.ref 573] h0 Q := by
  show mr_M mj_KK d 50 0 [some (.ref 573), none, none] [] h0 Q
  have H := H0
  have hw := hR0.2.2.2.1
  have hw5 := hR0.2.2.2.2.1
  have ok := hk w (by omega)
  obtain ⟨⟨a1, a2, a3, a4, a5⟩, a6, a7, a8, a9⟩ := id hP
  refine kb_50_0 (by first | with_reducible assumption | with_reducible exact kd_M | assumption) (by omega) (s30 (i := 0) (by omega) H hR0 hn0 ?_)
  rw [Nat.add_zero]
  unfold rdL at k0 k1
  have K8 := kwl (t := 8) (y := 6975330) (by decide) (by decide) ok
  have K9 := kwl (t := 9) (y := 1885434484) (by decide) (by decide) ok
  have K10 := kwl (t := 10) (y := 1937007984) (by decide) (by decide) ok
  have K11 := kwl (t := 11) (y := 7697253) (by decide) (by decide) ok
  have K12 := kwl (t := 12) (y := 474147546227) (by decide) (by decide) ok
  have K13 := kwl (t := 13) (y := 1635281267) (by decide) (by decide) ok
  have K14 := kwl (t := 14) (y := 29676245855069285) (by decide) (by decide) ok
  have K15 := kwl (t := 15) (y := 28561341064504421) (by decide) (by decide) ok
  have K16 := kwl (t := 16) (y := 26982) (by decide) (by decide) ok
  generalize wd X (sp (W.getD w (0, 0, 0))) = z at *
  have frB : ∀ k h', 578 ≤ 578 → fr (inMb k) h0 h' → fr inL h0 h' := fun k h' _ g => g.mono (fun a i r => by unfold inMb at r; unfold inL; omega)
  have ey : nw X (sp (W.getD (w + 1) (0, 0, 0))) = wy X W (w + 1) := rfl
  by_cases q8 : wx X W w = mj_str 8
  · rw [if_pos q8] at k0
    simp only [if_pos q8] at k1
    refine kb_50_5 (fun _ => kb_50_22 (fun c => absurd (K8.mpr q8) c) (fun _ => kb_50_31 (kb_50_36 (by first | with_reducible assumption | with_reducible exact kd_M | assumption) (by omega) ?_))) (fun c => absurd (K8.mpr q8) c)
    refine s39j (nmz := fun j => (P.sc j).1) (by omega) H a1 a2 a3 a4 hR0 hn0 a6 (fun r => ?_) (fun r h' g1 g2 g3 g4 g5 => ?_)
    · rw [ey] at r
      rw [if_neg (show ¬ (n = 2 ∧ wy X W (w + 1) ≠ 0 ∧ P.nj < 12 ∧ jN P (wy X W (w + 1)) = -1) from r)] at k0
      exact kb_50_39 (by first | assumption | exact b2i_01 _ | exact Or.inl rfl | exact Or.inr rfl) (k0 rfl h0 fr.rfl')
    · rw [ey] at r g4
      simp only [if_pos (show (n = 2 ∧ wy X W (w + 1) ≠ 0 ∧ P.nj < 12 ∧ jN P (wy X W (w + 1)) = -1) from r)] at k1
      have hj := r.2.2.1
      refine kb_50_39 (by first | assumption | exact b2i_01 _ | exact Or.inl rfl | exact Or.inr rfl) (k1 _ rfl h' kept ⟨⟨g2, by show P.nj + 1 ≤ 12; omega, g3, a4, (g5.n (by unfold inMb; omega)).trans a5⟩, fun j hj2 => ?_, fun p hp => ?_, fun k hk2 => ?_, fun j hj2 => ?_⟩ (by omega) ⟨fun _ => g1, fun v => absurd v (by show ¬ 20 ≤ P.nj; omega)⟩ (frB _ h' (by omega) g5))
      · have hj2 : j < P.nj + 1 := hj2
        show _ = (up P.sc P.nj _ j).1
        by_cases v : j = P.nj
        · rw [v, up_e]
          exact g4
        · rw [up_n v]
          exact (g5.l (by unfold inMb; omega)).trans (a6 j (by omega))
      · have hp : p < P.np := hp
        show _ = (up P.sc P.nj _ (12 + p)).1
        rw [up_n (by omega)]
        exact (g5.l (by unfold inMb; omega)).trans (a7 p hp)
      · have e : (up P.sc P.nj (wy X W (w + 1), []) k).2 = (P.sc k).2 := by
          by_cases v : k = P.nj
          · rw [v, up_e, (hE.1 _ (Nat.le_refl _) hj).1]
          · rw [up_n v]
        show ItM h' W kept k (up P.sc P.nj _ k).2
        rw [e]
        exact (a8 k hk2).fr g5 (Nat.le_refl _) ⟨by unfold inMb; omega, fun i hi => by unfold inMb; omega, fun q hq => by unfold inMb; omega⟩
      · have e : up P.jr P.nj E0 j = P.jr j := by
          by_cases v : j = P.nj
          · rw [v, up_e, (hE.1 _ (Nat.le_refl _) hj).2]
          · rw [up_n v]
        show JrM h' j (up P.jr P.nj E0 j)
        rw [e]
        exact JrM_frB (a9 j hj2) g5
  rw [if_neg q8] at k0
  simp only [if_neg q8] at k1
  refine kb_50_5 (fun c => absurd (K8.mp c) q8) (fun _ => ?_)
  by_cases q9 : wx X W w = mj_str 9
  · rw [if_pos q9] at k0
    simp only [if_pos q9] at k1
    refine kb_50_14 (fun c => absurd (K9.mpr q9) c) (fun _ => kb_50_22 (fun _ => kb_50_35 (kb_50_36 (by first | with_reducible assumption | with_reducible exact kd_M | assumption) (by omega) ?_)) (fun c => absurd (fun v => q8 (K8.mp v)) c))
    refine s39p (nmz := fun j => (P.sc j).1) (by omega) H a1 a2 a3 a4 hR0 hn0 a7 (fun r => ?_) (fun r h' g1 g2 g3 g4 g5 => ?_)
    · rw [ey] at r
      rw [if_neg (show ¬ (n = 2 ∧ wy X W (w + 1) ≠ 0 ∧ P.np < 8 ∧ pN P (wy X W (w + 1)) = -1) from r)] at k0
      exact kb_50_39 (by first | assumption | exact b2i_01 _ | exact Or.inl rfl | exact Or.inr rfl) (k0 rfl h0 fr.rfl')
    · rw [ey] at r g4
      simp only [if_pos (show (n = 2 ∧ wy X W (w + 1) ≠ 0 ∧ P.np < 8 ∧ pN P (wy X W (w + 1)) = -1) from r)] at k1
      have hj := r.2.2.1
      refine kb_50_39 (by first | assumption | exact b2i_01 _ | exact Or.inl rfl | exact Or.inr rfl) (k1 _ rfl h' kept ⟨⟨g2, a2, g3, by show P.np + 1 ≤ 8; omega, (g5.n (by unfold inMb; omega)).trans a5⟩, fun j hj2 => ?_, fun p hp => ?_, fun k hk2 => ?_, fun j hj2 => ?_⟩ (by omega) ⟨fun _ => g1, fun v => absurd v (by show ¬ 20 ≤ 12 + P.np; omega)⟩ (frB _ h' (by omega) g5))
      · have hj2 : j < P.nj := hj2
        show _ = (up P.sc (12 + P.np) _ j).1
        rw [up_n (by omega)]
        exact (g5.l (by unfold inMb; omega)).trans (a6 j (by omega))
      · have hp : p < P.np + 1 := hp
        show _ = (up P.sc (12 + P.np) _ (12 + p)).1
        by_cases v : p = P.np
        · rw [v, up_e]
          exact g4
        · rw [up_n (by omega)]
          exact (g5.l (by unfold inMb; omega)).trans (a7 p (by omega))
      · have e : (up P.sc (12 + P.np) (wy X W (w + 1), []) k).2 = (P.sc k).2 := by
          by_cases v : k = 12 + P.np
          · rw [v, up_e, hE.2 _ (Nat.le_refl _) hj]
          · rw [up_n v]
        show ItM h' W kept k (up P.sc (12 + P.np) _ k).2
        rw [e]
        exact (a8 k hk2).fr g5 (Nat.le_refl _) ⟨by unfold inMb; omega, fun i hi => by unfold inMb; omega, fun q hq => by unfold inMb; omega⟩
      · exact JrM_frB (a9 j hj2) g5
  rw [if_neg q9] at k0
  simp only [if_neg q9] at k1
  refine kb_50_14 (fun _ => ?_) (fun c => absurd (fun v => q9 (K9.mp v)) c)
  rcases Nat.lt_or_ge P.own 20 with o20 | o20
  rotate_left
  · rw [if_pos (by omega)] at k0
    have a8 := hO.2 o20
    have it : ∀ x : Int32, mr_C mj_KK (d - 1) 40 [.ref 573, .int x] h0 (fun v h' => mr_M mj_KK d 50 73 [none, none, none] (v.toList ++ []) h' Q) := by
      intro x
      show mr_M mj_KK (d - 1) 40 0 [some (.ref 573), some (.int x), none, none] [] h0 _
      exact kb_40_0 (by first | with_reducible assumption | with_reducible exact kd_M | assumption) (fun _ => kb_40_63 (kb_50_73 (by first | assumption | exact b2i_01 _ | exact Or.inl rfl | exact Or.inr rfl) (k0 rfl h0 fr.rfl'))) (fun c => by rw [a8] at c; exact absurd m1_neg c)
    have i2 : mr_M mj_KK d 50 56 [some (.ref 573), some (.long z), none] [] h0 Q := kb_50_56 (fun _ => kb_50_69 (kb_50_70 (by first | with_reducible assumption | with_reducible exact kd_M | assumption) (by omega) (it _))) (fun _ => kb_50_65 (kb_50_70 (by first | with_reducible assumption | with_reducible exact kd_M | assumption) (by omega) (it _)))
    refine kb_50_40 (fun _ => i2) (fun _ => kb_50_48 (fun _ => kb_50_74 (by first | with_reducible assumption | with_reducible exact kd_M | assumption) (by omega) (s23 ?_)) (fun _ => i2))
    rw [a8]
    exact kb_50_83 (fun c => absurd (by decide) c) (fun _ => kb_50_86 (k0 rfl h0 fr.rfl'))
  have no20 : ¬ ¬ P.own < 20 := fun r => r o20
  rw [if_neg no20] at k0
  simp only [if_neg no20] at k1
  have h8 := hO.1 o20
  have frI : ∀ h', fr (inMi P.own kept) h0 h' → fr inL h0 h' := fun h' g => g.mono (fun a i r => by unfold inMi at r; unfold inL; omega)
  by_cases q10 : wx X W w = mj_str 10
  · rw [if_pos q10] at k0
    simp only [if_pos q10] at k1
    refine kb_50_40 (fun _ => kb_50_56 (fun c => absurd (K10.mpr q10) c) (fun _ => kb_50_65 (kb_50_70 (by first | with_reducible assumption | with_reducible exact kd_M | assumption) (by omega) ?_))) (fun c => absurd (K10.mpr q10) c)
    refine s40s (by omega) o20 H h8 a5 hkw hR0 (a8 _ o20) (fun r => ?_) (fun r1 r2 r3 h' g1 g2 g3 => ?_)
    · rw [if_neg (by omega)] at k0
      exact kb_50_73 (by first | assumption | exact b2i_01 _ | exact Or.inl rfl | exact Or.inr rfl) (k0 rfl h0 fr.rfl')
    · simp only [if_pos (show (2 ≤ n ∧ n ≤ 7 ∧ (P.sc P.own).2.length < 8) from ⟨r1, r2, r3⟩)] at k1
      exact kb_50_73 (by first | assumption | exact b2i_01 _ | exact Or.inl rfl | exact Or.inr rfl) (k1 _ rfl h' (kept + (n - 1)) (PlM_sc hP g3 (by omega) g2 g1) (by omega) ⟨fun _ => (g3.n (by unfold inMi; omega)).trans h8, fun v => absurd v (by show ¬ 20 ≤ P.own; omega)⟩ (frI h' g3))
  rw [if_neg q10] at k0
  simp only [if_neg q10] at k1
  refine kb_50_40 (fun c => absurd (K10.mp c) q10) (fun _ => ?_)
  by_cases q11 : wx X W w = mj_str 11
  · rw [if_pos q11] at k0
    simp only [if_pos q11] at k1
    refine kb_50_48 (fun c => absurd (K11.mpr q11) c) (fun _ => kb_50_56 (fun _ => kb_50_69 (kb_50_70 (by first | with_reducible assumption | with_reducible exact kd_M | assumption) (by omega) ?_)) (fun c => absurd (fun v => q10 (K10.mp v)) c))
    refine s40u (by omega) o20 H h8 a5 hkw hR0 (a8 _ o20) (fun r => ?_) (fun r1 r2 r3 h' g1 g2 g3 => ?_)
    · rw [ey] at r
      rw [if_neg (fun v => r.elim (fun r => r v.1) (fun r => r.elim v.2.1 (fun r => r v.2.2)))] at k0
      exact kb_50_73 (by first | assumption | exact b2i_01 _ | exact Or.inl rfl | exact Or.inr rfl) (k0 rfl h0 fr.rfl')
    · rw [ey] at r2 g1
      simp only [if_pos (show (n = 2 ∧ wy X W (w + 1) ≠ 0 ∧ (P.sc P.own).2.length < 8) from ⟨r1, r2, r3⟩)] at k1
      exact kb_50_73 (by first | assumption | exact b2i_01 _ | exact Or.inl rfl | exact Or.inr rfl) (k1 _ rfl h' kept (PlM_sc hP g3 (by omega) g2 g1) (by omega) ⟨fun _ => (g3.n (by unfold inMi; omega)).trans h8, fun v => absurd v (by show ¬ 20 ≤ P.own; omega)⟩ (frI h' g3))
  rw [if_neg q11] at k0
  simp only [if_neg q11] at k1
  refine kb_50_48 (fun _ => kb_50_74 (by first | with_reducible assumption | with_reducible exact kd_M | assumption) (by omega) (s23 ?_)) (fun c => absurd (fun v => q11 (K11.mp v)) c)
  rw [h8]
  rcases Nat.lt_or_ge P.own 12 with o12 | o12
  rotate_left
  · rw [if_pos (by omega)] at k0
    have e : decide ((0 : Int32) ≤ nI P.own ∧ nI P.own < 12) = false := decide_eq_false (fun r => i_nlt r.2 (nI_le (a := 12) o12 (by omega)))
    rw [e]
    exact kb_50_83 (fun c => absurd rfl c) (fun _ => kb_50_86 (k0 rfl h0 fr.rfl'))
  have e : decide ((0 : Int32) ≤ nI P.own ∧ nI P.own < 12) = true := decide_eq_true ⟨i_nle (nI_pos (by omega)), nI_lt (b := 12) o12 (by omega)⟩
  rw [e]
  have no12 : ¬ ¬ P.own < 12 := fun r => r o12
  rw [if_neg no12] at k0
  simp only [if_neg no12] at k1
  refine kb_50_83 (fun _ => ?_) (fun c => absurd (by decide) c)
  obtain ⟨c1, c2, c3, c4, c5⟩ := id (a9 _ o12)
  have fin : ∀ J h', fr (inJ P.own) h0 h' → JrM h' P.own J → PlM h' W kept (wJr P J) ∧ OwM h' P.own ∧ fr inL h0 h' := fun J h' g hJ => ⟨PlM_jr hP g hJ, ⟨fun _ => (g.n (by unfold inJ inMn inMa inMr inMs; omega)).trans h8, fun v => absurd v (by omega)⟩, g.mono (fun a i r => inJ_L r)⟩
  by_cases q12 : wx X W w = mj_str 12
  · rw [if_pos q12] at k0
    simp only [if_pos q12] at k1
    refine kb_50_88 (fun c => absurd (K12.mpr q12) c) (fun _ => kb_50_96 (by first | with_reducible assumption | with_reducible exact kd_M | assumption) (by omega) ?_)
    refine s41 (by omega) o12 H h8 hR0 hn0 c1 (fun r h' g => ?_) (fun r1 ns' r2 h' g1 g2 => ?_)
    · refine kb_50_100 (by first | assumption | exact b2i_01 _ | exact Or.inl rfl | exact Or.inr rfl) (k0 ?_ h' (g.mono (fun a i r => by unfold inMn at r; unfold inL; omega)))
      split
      · rfl
      · rcases r with r | r
        · omega
        · rw [r]
          rfl
    · have n1 : ¬ n = 1 := by omega
      simp only [if_neg n1, r2] at k1
      obtain ⟨f1, f2, f3⟩ := fin (ns', (P.jr P.own).2) h' (g2.mono (fun a i r => Or.inl r)) ⟨g1, c2.fr g2 ⟨by unfold inMn; omega, fun a ha => ⟨by unfold inMn; omega, by unfold inMn; omega, fun i hi => by unfold inMn; omega⟩⟩, c3.fr g2 ⟨by unfold inMn; omega, fun a ha => ⟨by unfold inMn; omega, fun i hi => by unfold inMn; omega⟩⟩, c4.fr g2 ⟨by unfold inMn; omega, fun a ha => ⟨by unfold inMn; omega, fun i hi => by unfold inMn; omega⟩⟩, c5.fr g2 (by unfold inMn; omega) (fun i hi => by unfold inMn; omega)⟩
      exact kb_50_100 (by first | assumption | exact b2i_01 _ | exact Or.inl rfl | exact Or.inr rfl) (k1 _ rfl h' kept f1 (by omega) f2 f3)
  rw [if_neg q12] at k0
  simp only [if_neg q12] at k1
  refine kb_50_88 (fun _ => ?_) (fun c => absurd (fun v => q12 (K12.mp v)) c)
  by_cases q13 : wx X W w = mj_str 13
  · rw [if_pos q13] at k0
    simp only [if_pos q13] at k1
    refine kb_50_101 (fun c => absurd (K13.mpr q13) c) (fun _ => kb_50_109 (by first | with_reducible assumption | with_reducible exact kd_M | assumption) (by omega) ?_)
    refine s42 (by omega) o12 H h8 hR0 hn0 c2 (fun r h' g => ?_) (fun as' r2 h' g1 g2 => ?_)
    · rw [r] at k0
      exact kb_50_113 (by first | assumption | exact b2i_01 _ | exact Or.inl rfl | exact Or.inr rfl) (k0 rfl h' (g.mono (fun a i r => by unfold inMa at r; unfold inL; omega)))
    · simp only [r2] at k1
      obtain ⟨f1, f2, f3⟩ := fin ((P.jr P.own).1, as', (P.jr P.own).2.2) h' (g2.mono (fun a i r => Or.inr (Or.inl r))) ⟨c1.fr g2 ⟨by unfold inMa; omega, fun a ha => by unfold inMa; omega⟩, g1, c3.fr g2 ⟨by unfold inMa; omega, fun a ha => ⟨by unfold inMa; omega, fun i hi => by unfold inMa; omega⟩⟩, c4.fr g2 ⟨by unfold inMa; omega, fun a ha => ⟨by unfold inMa; omega, fun i hi => by unfold inMa; omega⟩⟩, c5.fr g2 (by unfold inMa; omega) (fun i hi => by unfold inMa; omega)⟩
      exact kb_50_113 (by first | assumption | exact b2i_01 _ | exact Or.inl rfl | exact Or.inr rfl) (k1 _ rfl h' kept f1 (by omega) f2 f3)
  rw [if_neg q13] at k0
  simp only [if_neg q13] at k1
  refine kb_50_101 (fun _ => ?_) (fun c => absurd (fun v => q13 (K13.mp v)) c)
  by_cases q14 : wx X W w = mj_str 14
  · rw [if_pos q14] at k0
    simp only [if_pos q14] at k1
    refine kb_50_114 (fun _ => kb_50_130 (fun c => absurd (K14.mpr q14) c) (fun _ => kb_50_139 (kb_50_144 (by first | with_reducible assumption | with_reducible exact kd_M | assumption) (by omega) ?_))) (fun c => absurd (K14.mpr q14) c)
    refine s45 (inc := true) (by omega) o12 H h8 hR0 hn0 (Or.inl ⟨rfl, rfl, rfl⟩) c3 (fun r h' g => ?_) (fun rs' r2 h' g1 g2 g3 => ?_)
    · rw [r] at k0
      exact kb_50_147 (by first | assumption | exact b2i_01 _ | exact Or.inl rfl | exact Or.inr rfl) (k0 rfl h' (g.mono (fun a i r => by unfold inMr at r; unfold inL; omega)))
    · simp only [r2] at k1
      obtain ⟨f1, f2, f3⟩ := fin ((P.jr P.own).1, (P.jr P.own).2.1, rs', (P.jr P.own).2.2.2) h' (g2.mono (fun a i r => Or.inr (Or.inr (Or.inl (by unfold inMq at r; unfold inMr; omega))))) ⟨c1.fr g2 ⟨by unfold inMq; omega, fun a ha => by unfold inMq; omega⟩, c2.fr g2 ⟨by unfold inMq; omega, fun a ha => ⟨by unfold inMq; omega, by unfold inMq; omega, fun i hi => by unfold inMq; omega⟩⟩, g1, c4.fr g2 ⟨by unfold inMq; omega, fun a ha => ⟨by unfold inMq; omega, fun i hi => by unfold inMq; omega⟩⟩, c5.fr g2 (by unfold inMq; omega) (fun i hi => by unfold inMq; omega)⟩
      exact kb_50_147 (by first | assumption | exact b2i_01 _ | exact Or.inl rfl | exact Or.inr rfl) (k1 _ rfl h' kept f1 (by omega) f2 f3)
  rw [if_neg q14] at k0
  simp only [if_neg q14] at k1
  refine kb_50_114 (fun c => absurd (K14.mp c) q14) (fun _ => ?_)
  by_cases q15 : wx X W w = mj_str 15
  · rw [if_pos q15] at k0
    simp only [if_pos q15] at k1
    refine kb_50_122 (fun c => absurd (K15.mpr q15) c) (fun _ => kb_50_130 (fun _ => kb_50_143 (kb_50_144 (by first | with_reducible assumption | with_reducible exact kd_M | assumption) (by omega) ?_)) (fun c => absurd (fun v => q14 (K14.mp v)) c))
    refine s45 (inc := false) (by omega) o12 H h8 hR0 hn0 (Or.inr ⟨rfl, rfl, rfl⟩) c4 (fun r h' g => ?_) (fun rs' r2 h' g1 g2 g3 => ?_)
    · rw [r] at k0
      exact kb_50_147 (by first | assumption | exact b2i_01 _ | exact Or.inl rfl | exact Or.inr rfl) (k0 rfl h' (g.mono (fun a i r => by unfold inMr at r; unfold inL; omega)))
    · simp only [r2] at k1
      obtain ⟨f1, f2, f3⟩ := fin ((P.jr P.own).1, (P.jr P.own).2.1, (P.jr P.own).2.2.1, rs', (P.jr P.own).2.2.2.2) h' (g2.mono (fun a i r => Or.inr (Or.inr (Or.inl (by unfold inMq at r; unfold inMr; omega))))) ⟨c1.fr g2 ⟨by unfold inMq; omega, fun a ha => by unfold inMq; omega⟩, c2.fr g2 ⟨by unfold inMq; omega, fun a ha => ⟨by unfold inMq; omega, by unfold inMq; omega, fun i hi => by unfold inMq; omega⟩⟩, c3.fr g2 ⟨by unfold inMq; omega, fun a ha => ⟨by unfold inMq; omega, fun i hi => by unfold inMq; omega⟩⟩, g1, c5.fr g2 (by unfold inMq; omega) (fun i hi => by unfold inMq; omega)⟩
      exact kb_50_147 (by first | assumption | exact b2i_01 _ | exact Or.inl rfl | exact Or.inr rfl) (k1 _ rfl h' kept f1 (by omega) f2 f3)
  rw [if_neg q15] at k0
  simp only [if_neg q15] at k1
  refine kb_50_122 (fun _ => ?_) (fun c => absurd (fun v => q15 (K15.mp v)) c)
  by_cases q16 : wx X W w = mj_str 16
  · rw [if_pos q16] at k0
    simp only [if_pos q16] at k1
    refine kb_50_148 (fun c => absurd (K16.mpr q16) c) (fun _ => kb_50_156 (by first | with_reducible assumption | with_reducible exact kd_M | assumption) (by omega) ?_)
    have erp : rp (tkW X W) (n - 1) true (w + 1) [] [] = (cF (tkW X W) (w + 1) (w + n)).map Prod.snd := by
      rw [← cF_rp (tkW_p hk) (by omega)]
      congr 1
      omega
    have hcr := hCR o12
    refine s49 (by omega) o12 H h8 hR0 hk c5 (fun r h' g => ?_) (fun r1 r2 r3 u r4 h' g1 g2 => ?_)
    · refine kb_50_160 (fun _ => kb_50_167 (kb_50_168 (by first | assumption | exact b2i_01 _ | exact Or.inl rfl | exact Or.inr rfl) (k0 ?_ h' (g.mono (fun a i r => by unfold inMs at r; unfold inL; omega))))) (fun c => absurd rfl c)
      by_cases v : ¬ (P.jr P.own).2.2.2.2.2 = [] ∨ 20 < n - 1
      · rw [if_pos v]
      · rw [if_neg v]
        have hn2 : cF (tkW X W) (w + 1) (w + n) = none := by
          rcases r with r | r | r | r
          · have : n = 1 := by omega
            subst this
            unfold cF
            rw [Nat.sub_self, cP_3, cP_1, cP_0, if_pos (by omega)]
            rfl
          · omega
          · exact absurd (Or.inl (fun u => r (hcr.mpr u))) v
          · rw [erp] at r
            cases hc : cF (tkW X W) (w + 1) (w + n) with
            | none => rfl
            | some x =>
              rw [hc] at r
              cases r
        rw [hn2]
        rfl
    · rw [erp] at r4
      obtain ⟨x, hx, ex⟩ : ∃ x, cF (tkW X W) (w + 1) (w + n) = some x ∧ x.2 = u := by
        cases hc : cF (tkW X W) (w + 1) (w + n) with
        | none =>
          rw [hc] at r4
          cases r4
        | some x =>
          rw [hc] at r4
          exact ⟨x, rfl, Option.some.inj r4⟩
      have nn1 : ¬ (¬ (P.jr P.own).2.2.2.2.2 = [] ∨ 20 < n - 1) := fun v => v.elim (fun v => v (hcr.mp r1)) (fun v => by omega)
      simp only [if_neg nn1, hx] at k1
      obtain ⟨f1, f2, f3⟩ := fin ((P.jr P.own).1, (P.jr P.own).2.1, (P.jr P.own).2.2.1, (P.jr P.own).2.2.2.1, x.2, x.1) h' (g2.mono (fun a i r => Or.inr (Or.inr (Or.inr r)))) ⟨c1.fr g2 ⟨by unfold inMs; omega, fun a ha => by unfold inMs; omega⟩, c2.fr g2 ⟨by unfold inMs; omega, fun a ha => ⟨by unfold inMs; omega, by unfold inMs; omega, fun i hi => by unfold inMs; omega⟩⟩, c3.fr g2 ⟨by unfold inMs; omega, fun a ha => ⟨by unfold inMs; omega, fun i hi => by unfold inMs; omega⟩⟩, c4.fr g2 ⟨by unfold inMs; omega, fun a ha => ⟨by unfold inMs; omega, fun i hi => by unfold inMs; omega⟩⟩, ex ▸ g1⟩
      exact kb_50_160 (fun c => absurd c (by decide)) (fun _ => kb_50_163 (kb_50_168 (by first | assumption | exact b2i_01 _ | exact Or.inl rfl | exact Or.inr rfl) (k1 _ rfl h' kept f1 (by omega) f2 f3)))
  · rw [if_neg q16] at k0
    exact kb_50_148 (fun _ => kb_50_167 (kb_50_168 (by first | assumption | exact b2i_01 _ | exact Or.inl rfl | exact Or.inr rfl) (k0 rfl h0 fr.rfl'))) (fun c => absurd (fun v => q16 (K16.mp v)) c)
end
