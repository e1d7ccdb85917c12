-- ===== read =====
theorem tch_of {x : Int32} (h : tch2 x) : tch x := by
  rcases h with q | q | ⟨m, a, b, c⟩
  · exact ⟨10, by decide, q⟩
  · exact ⟨32, by decide, q⟩
  · exact ⟨m, b, c⟩
/-- what the class's read changes -/
def inRC : Nat → Nat → Prop := fun a i => (a = 567 ∧ i = 2) ∨ (2 ≤ a ∧ a < 564) ∨ (a = 0 ∧ i = 1) ∨ a = 565 ∨ a = 566
theorem mj_op2 : mj_Op mj_J mj_KK 573 2 51 [] := by
  refine mj_op_of (fun h hJ => ?_)
  obtain ⟨H, b, ⟨n, t1, t2, t3, t4⟩, -⟩ := id hJ
  show mr_M mj_KK 60 2 0 [some (.ref 0), none, none] [] h _
  have f1 : fq inRC h (mj_w h 567 2 (.int 0)) := fq.rfl'.wi (by unfold inRC; omega)
  have x1 : ∀ i, (mj_w h 567 2 (.int 0)).1 1 i = h.1 1 i := fun i => w_in (by omega)
  have q1 : (mj_w h 567 2 (.int 0)).1 0 1 = nI n := (w_in (by omega)).trans t1
  have z1 : (mj_w h 567 2 (.int 0)).1 567 2 = nI 0 := w_ie ⟨rfl, rfl⟩
  refine kb_2_0 (by first | with_reducible assumption | with_reducible exact kd_P | assumption) (by first | with_reducible assumption | exact rf_P_expansion H | assumption) (by first | with_reducible assumption | with_reducible exact kd_EX | assumption) (by first | with_reducible assumption | exact rf_P_words H | assumption) (by first | with_reducible assumption | exact rf_P_tape H | assumption) (by first | with_reducible assumption | with_reducible exact kd_W | assumption) (by omega) ?_
  have H1 := f1.rs H
  rw [q1]
  generalize mj_w h 567 2 (.int 0) = h1 at *
  have tx : ∀ i, i < n → tch2 (h1.1 1 i) := fun i hi => by rw [x1 i]; exact (t4 i hi).2
  refine s159 (by decide) H1 t3 (fun i hi => tch_of (tx i hi)) (fun h2 W2 g2 => ?_)
  have tr : ∀ i, i < n → h.1 574 i = h1.1 1 i := fun i hi => by rw [x1 i]; exact (t4 i hi).1
  generalize h1.1 1 = X at W2 tx tr
  have hk : wks X (ws X 0 0 0 n) := wks_ws tx
  have w5 := ws_350 (X := X) t3
  obtain ⟨W, hW⟩ : ∃ W, W = ws X 0 0 0 n := ⟨_, rfl⟩
  rw [← hW] at W2 hk w5
  have f2 : fq inRC h h2 := f1.trans (g2.q.mono (fun a i q => by unfold inW at q; unfold inRC; omega))
  have z2 : h2.1 567 2 = nI 0 := (g2.n (by unfold inW; omega)).trans z1
  have H2 := f2.rs H
  -- behind the lines: faults, steps, the answer
  have fin : ∀ (h8 : mj_H) (P : mj_P) (r : Int32), ((∃ l, rdA X W n (n + 1) 0 0 0 P0 = .inl l ∧ P = P0 ∧ r = -1 - nI l) ∨ (rdA X W n (n + 1) 0 0 0 P0 = .inr P ∧ r = nI P.nj)) → VP W P → fq inRC h h8 → WW h8 X n W → PlC h8 P → h8.1 0 1 = nI 0 → h8.1 567 2 = nI 0 → h8.1 565 1 = (fc P).1 → h8.1 565 2 = (fc P).2 → ((fc P).1 = 0 → SC h8 P (σF P)) → ∃ r', some (Value.int r) = some (Value.int r') ∧ mr_C mj_KK 60 51 (.ref 573 :: []) h8 (fun v2 h2 => v2 = some (.int r') ∧ mj_J h2) := by
    intro h8 P r hr hV f8 W8 P8 a1 a2 a3 a4 a5
    refine ⟨r, rfl, ?_⟩
    have H8 := f8.rs H
    have done : ∀ (h9 : mj_H) (kept : Nat), kept ≤ 350 → PlM h9 W kept P → h9.1 573 34 = nI 0 → h9.1 573 2 = nI 0 → (∀ i, i < n → h9.1 575 i = X i) → fr inRd h8 h9 → mj_J h9 := by
      intro h9 kept b1 b2 b3 b4 b5 f9
      refine ⟨f9.rs H8, ?_, ⟨0, (f9.n (by unfold inRd; omega)).trans a1, b4, by decide, fun i hi => absurd hi (Nat.not_lt_zero i)⟩, P, X, n, W, kept, [], ⟨b5, W8.fr f9 (fun a i h1 h2 => by unfold inRd; omega), hk, hV, P8.fr f9 (fun a i h1 h2 h3 => by unfold inRd; omega), b2, (f9.n (by unfold inRd; omega)).trans a3, (f9.n (by unfold inRd; omega)).trans a4, fun z p hp => (f9.n ?_).trans (a5 z p hp), b1⟩, ⟨(f9.n (by unfold inRd; omega)).trans a2, by decide, fun i hi => absurd hi (Nat.not_lt_zero i)⟩, ⟨b3, by decide, fun i hi => absurd hi (Nat.not_lt_zero i)⟩, Or.inl rfl⟩
      · rw [f9.l (by unfold inRd; omega), f9.l (by unfold inRd; omega), f8.l (by unfold inRC; omega), f8.l (by unfold inRC; omega)]
        exact b
      · have := hV.2.1
        unfold inRd
        omega
    refine s51 (by decide) H8 t3 ((f8.n (by unfold inRC; omega)).trans t2) (fun i hi => (f8.n (by unfold inRC; omega)).trans (tr i hi)) tx hW w5 (fun l e h9 b2 b3 b4 b5 f9 => ?_) (fun P9 e hV9 h9 kept b1 b2 b3 b4 b5 f9 => ?_)
    · rcases hr with ⟨l2, e2, e3, e4⟩ | ⟨e2, e4⟩
      · rw [e2] at e
        have e := Sum.inl.inj e
        subst e
        subst e3
        exact ⟨by rw [e4], done h9 0 (by decide) b2 b3 b4 b5 f9⟩
      · rw [e2] at e
        cases e
    · rcases hr with ⟨l2, e2, e3, e4⟩ | ⟨e2, e4⟩
      · rw [e2] at e
        cases e
      · rw [e2] at e
        have e := Sum.inr.inj e
        subst e
        exact ⟨by rw [e4], done h9 kept b1 b2 b3 b4 b5 f9⟩
  have tail : ∀ (x : Int32) (P : mj_P) (h6 : mj_H) (Q : Option Value → mj_H → Prop), VP W P → fq inRC h h6 → WW h6 X n W → PlC h6 P → ZC h6 P.np → h6.1 0 1 = nI 0 → h6.1 567 2 = nI 0 → (∀ h8, fq inRC h h8 → WW h8 X n W → PlC h8 P → h8.1 0 1 = nI 0 → h8.1 567 2 = nI 0 → h8.1 565 1 = (fc P).1 → h8.1 565 2 = (fc P).2 → ((fc P).1 = 0 → SC h8 P (σF P)) → mr_M mj_KK 60 2 148 [some (.ref 0), some (.int x), none] [] h8 Q) → mr_M mj_KK 60 2 120 [some (.ref 0), some (.int x), none] [] h6 Q := by
    intro x P h6 Q hV f6 W6 P6 Z6 a1 a2 kk
    have H := f6.rs H
    refine kb_2_120 (by first | with_reducible assumption | with_reducible exact kd_P | assumption) (by first | with_reducible assumption | exact rf_P_faults H | assumption) (by first | with_reducible assumption | exact rf_P_plan H | assumption) (by first | with_reducible assumption | with_reducible exact kd_FT | assumption) (by omega) (s109 (by decide) H P6 hV.2.2.2.2.2 (fun h7 g1 g2 g3 => ?_))
    have f7 : fq inRC h h7 := f6.trans (g3.q.mono (fun a i q => by unfold inFt at q; unfold inRC; omega))
    have W7 := W6.fr g3 (fun a i h1 h2 => by unfold inFt; omega)
    have P7 := P6.fr g3 (fun a i h1 h2 h3 => by unfold inFt; omega)
    have a1 := (g3.n (a := 0) (i := 1) (by unfold inFt; omega)).trans a1
    have a2 := (g3.n (a := 567) (i := 2) (by unfold inFt; omega)).trans a2
    have n8 := hV.2.1
    have Z7 : ZC h7 P.np := fun p hp => (g3.n (by unfold inFt; omega)).trans (Z6 p hp)
    have H7 := g3.rs H
    refine kb_2_131 kd_P (rf_P_faults H7) kd_FT (fun c => ?_) (fun c => kb_2_141 kd_P (rf_P_plan H7) kd_PL (by decide) (s144 (by decide) H7 P7 Z7 (fun h8 k1 k2 => ?_)))
    · rw [g1] at c
      exact kk h7 f7 W7 P7 a1 a2 g1 g2 (fun z => absurd z c)
    · exact kk h8 (f7.trans (k2.q.mono (fun a i q => by unfold inZ at q; unfold inRC; omega))) (W7.fr k2 (fun a i h1 h2 => by unfold inZ; omega)) (P7.fr k2 (fun a i h1 h2 h3 => by unfold inZ; omega)) ((k2.n (by unfold inZ; omega)).trans a1) ((k2.n (by unfold inZ; omega)).trans a2) ((k2.n (by unfold inZ; omega)).trans g1) ((k2.n (by unfold inZ; omega)).trans g2) (fun _ => k1)
  have P0of : ∀ {h : mj_H}, h.1 9 1 = nI 0 → h.1 9 3 = nI 0 → PlC h P0 := fun a b => ⟨a, by decide, b, by decide, fun i hi => absurd hi (Nat.not_lt_zero i), fun i hi => absurd hi (Nat.not_lt_zero i)⟩
  have Z0of : ∀ {h : mj_H}, ZC h P0.np := fun p hp => absurd hp (Nat.not_lt_zero p)
  have H := H2
  refine kb_2_23 (by first | with_reducible assumption | with_reducible exact kd_P | assumption) (by first | with_reducible assumption | exact rf_P_plan H | assumption) (by first | with_reducible assumption | with_reducible exact kd_PL | assumption) (by omega) ?_
  have g3 : fr (fun a i => a = 0 ∧ i = 1) h2 (mj_w h2 0 1 (.int 0)) := fr.wi (P := fun a i => a = 0 ∧ i = 1) fr.rfl' ⟨rfl, rfl⟩
  have o3 : (mj_w h2 0 1 (.int 0)).1 0 1 = nI 0 := w_ie ⟨rfl, rfl⟩
  have z3 := (g3.n (a := 567) (i := 2) (by omega)).trans z2
  have W3 := W2.fr g3 (fun a i h1 h2 => by omega)
  have f3 : fq inRC h (mj_w h2 0 1 (.int 0)) := f2.trans (g3.q.mono (fun a i q => by unfold inRC; omega))
  generalize mj_w h2 0 1 (.int 0) = h3 at *
  refine kb_140_0 kd_PL ?_
  have g4 : fr (fun a i => a = 9) h3 (mj_w (mj_w h3 9 1 (.int 0)) 9 3 (.int 0)) := (fr.wi (P := fun a i => a = 9) fr.rfl' rfl).wi rfl
  have P4 : PlC (mj_w (mj_w h3 9 1 (.int 0)) 9 3 (.int 0)) P0 := P0of (by rw [w_in (by omega)]; exact w_ie ⟨rfl, rfl⟩) (w_ie ⟨rfl, rfl⟩)
  have o4 := (g4.n (a := 0) (i := 1) (by omega)).trans o3
  have z4 := (g4.n (a := 567) (i := 2) (by omega)).trans z3
  have W4 := W3.fr g4 (fun a i h1 h2 => by omega)
  have f4 : fq inRC h (mj_w (mj_w h3 9 1 (.int 0)) 9 3 (.int 0)) := f3.trans (g4.q.mono (fun a i q => by unfold inRC; omega))
  generalize mj_w (mj_w h3 9 1 (.int 0)) 9 3 (.int 0) = h4 at *
  have H4 := f4.rs ‹mj_RS h›
  refine kb_2_35 kd_P (rf_P_reader H4) kd_RD (by decide) (kb_149_0 kd_RD (kb_2_42 ?_))
  have f5 : fq inRC h (mj_w (mj_w h4 564 0 .null) 564 1 .null) := f4.wu.wu
  have O5 : OwC (mj_w (mj_w h4 564 0 .null) 564 1 .null) P0.own := ⟨fun z => absurd z (by decide), fun _ => ⟨by rw [w_un (by omega)]; exact w_ue ⟨rfl, rfl⟩, fun z => absurd z (by decide), fun _ => w_ue ⟨rfl, rfl⟩⟩⟩
  have P5 : PlC (mj_w (mj_w h4 564 0 .null) 564 1 .null) P0 := P0of P4.1 P4.2.2.1
  have W5 : WW (mj_w (mj_w h4 564 0 .null) 564 1 .null) X n W := W4
  have o5 : (mj_w (mj_w h4 564 0 .null) 564 1 .null).1 0 1 = nI 0 := o4
  have z5 : (mj_w (mj_w h4 564 0 .null) 564 1 .null).1 567 2 = nI 0 := z4
  generalize mj_w (mj_w h4 564 0 .null) 564 1 .null = h5 at *
  have H5 := f5.rs ‹mj_RS h›
  refine s2loop (h0 := h5) (L := n) (X := X) (W := W) (by decide) H5 t3 tx W5 hk (fun l h6 e hl g => ?_) (fun P h6 e hV P6 Z6 g => ?_) (n + 1) 0 0 0 [] P0 h5 (by omega) (by omega) (Nat.le_refl 0) rfl hW (fun u hu => absurd hu List.not_mem_nil) VP_0 P5 Z0of O5 fq.rfl' rfl
  · have f6 : fq inRC h h6 := f5.trans (g.mono (fun a i q => by unfold inCl at q; unfold inRC; omega))
    have H6 := f6.rs ‹mj_RS h›
    refine kb_2_108 (fun c => absurd c (m1_ne (by omega))) (fun _ => kb_2_113 kd_P (rf_P_plan H6) kd_PL (by decide) (kb_140_0 kd_PL ?_))
    have g7 : fr (fun a i => a = 9) h6 (mj_w (mj_w h6 9 1 (.int 0)) 9 3 (.int 0)) := (fr.wi (P := fun a i => a = 9) fr.rfl' rfl).wi rfl
    refine tail (nI l) P0 _ _ VP_0 (f6.trans (g7.q.mono (fun a i q => by unfold inRC; omega))) ((WW_fq W5 g (fun a i h1 h2 => by unfold inCl; omega)).fr g7 (fun a i h1 h2 => by omega)) (P0of (by rw [w_in (by omega)]; exact w_ie ⟨rfl, rfl⟩) (w_ie ⟨rfl, rfl⟩)) Z0of ((g7.n (by omega)).trans ((g.n (by unfold inCl; omega)).trans o5)) ((g7.n (by omega)).trans ((g.n (by unfold inCl; omega)).trans z5)) (fun h8 f8 W8 P8 a1 a2 a3 a4 a5 => kb_2_148 (fun _ => kb_2_163 (kb_2_166 (fin h8 P0 _ (Or.inl ⟨l, e, rfl, rfl⟩) VP_0 f8 W8 P8 a1 a2 a3 a4 a5))) (fun c => absurd (m1_ne (by omega)) c))
  · have f6 : fq inRC h h6 := f5.trans (g.mono (fun a i q => by unfold inCl at q; unfold inRC; omega))
    refine kb_2_108 (fun _ => ?_) (fun c => absurd rfl c)
    refine tail (-1) P h6 _ hV f6 (WW_fq W5 g (fun a i h1 h2 => by unfold inCl; omega)) P6 Z6 ((g.n (by unfold inCl; omega)).trans o5) ((g.n (by unfold inCl; omega)).trans z5) (fun h8 f8 W8 P8 a1 a2 a3 a4 a5 => kb_2_148 (fun c => absurd rfl c) (fun _ => ?_))
    have H8 := f8.rs ‹mj_RS h›
    refine kb_2_153 kd_P (rf_P_plan H8) kd_PL (kb_2_166 ?_)
    rw [P8.1]
    exact fin h8 P _ (Or.inr ⟨e, rfl⟩) hV f8 W8 P8 a1 a2 a3 a4 a5
theorem mj_ops : mj_Ops mj_J mj_KK 573 := ⟨mj_op1, mj_op2, mj_op3, mj_op4, mj_op5, mj_op6, mj_op7, mj_op8, mj_op9, mj_op10, mj_op11, mj_op12⟩
