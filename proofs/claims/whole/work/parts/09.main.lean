theorem mj_lv_args {z : Nat} {g : Nat → Nat} : ∀ (vs : List Value) (k i : Nat) (v : Value), (mj_sl vs)[i]? = some (some v) → (k + i, mj_v z g v) ∈ lv_args k (vs.map (mj_v z g))
  | [], _, _, _, h => by simp [mj_sl] at h
  | w :: vs, k, i, v, h => by
    unfold mj_sl at h
    simp only [List.map_cons, lv_args]
    split at h
    · rename_i hc
      rw [if_pos (by rw [mj_v_cat]; exact hc)]
      match i, h with
      | 0, h =>
        simp at h
        subst h
        exact List.mem_cons_self
      | 1, h => simp at h
      | i + 2, h =>
        have h1 : (mj_sl vs)[i]? = some (some v) := h
        have h2 := mj_lv_args (z := z) (g := g) vs (k + 2) i v h1
        rw [show k + (i + 2) = k + 2 + i by omega]
        exact List.mem_cons_of_mem _ h2
    · rename_i hc
      rw [if_neg (by rw [mj_v_cat]; exact hc)]
      match i, h with
      | 0, h =>
        simp at h
        subst h
        exact List.mem_cons_self
      | i + 1, h =>
        have h1 : (mj_sl vs)[i]? = some (some v) := h
        have h2 := mj_lv_args (z := z) (g := g) vs (k + 1) i v h1
        rw [show k + (i + 1) = k + 1 + i by omega]
        exact List.mem_cons_of_mem _ h2
theorem mj_sl_len {z : Nat} {g : Nat → Nat} : ∀ vs : List Value, (lg_sl (vs.map (mj_v z g))).length = (mj_sl vs).length
  | [] => rfl
  | w :: vs => by
    have ih := mj_sl_len (z := z) (g := g) vs
    have e : lg_sl ((w :: vs).map (mj_v z g)) = (if (mj_v z g w).category = 2 then [Slot.val (mj_v z g w), .second] else [Slot.val (mj_v z g w)]) ++ lg_sl (vs.map (mj_v z g)) := rfl
    rw [e, List.length_append, ih, mj_v_cat, show mj_sl (w :: vs) = if w.category = 2 then some w :: none :: mj_sl vs else some w :: mj_sl vs from rfl]
    split
    · simp only [List.length_cons, List.length_nil]; omega
    · simp only [List.length_cons, List.length_nil]; omega
theorem mj_entry_len {j : Nat} {vs : List Value} (h : (mj_sl vs).length ≤ mj_ml j) : (mj_entry j vs).length = mj_ml j := by
  simp [mj_entry]
  omega
theorem mj_entry_ls {z : Nat} {g : Nat → Nat} {j : Nat} {vs : List Value} (h : (mj_sl vs).length ≤ mj_ml j) : mj_ls z g (mj_entry j vs) ((lg_sl (vs.map (mj_v z g)) ++ List.replicate (mj_ml j - (lg_sl (vs.map (mj_v z g))).length) Slot.unset).toArray) := by
  have h1 := lv_entry (vs.map (mj_v z g)) (n := mj_ml j) (by rw [mj_sl_len]; exact h)
  refine ⟨by rw [h1.1, mj_entry_len h], h1.2.1, fun i v hi => ?_⟩
  unfold mj_entry at hi
  by_cases hl : i < (mj_sl vs).length
  · rw [List.getElem?_append_left hl] at hi
    have h2 := mj_lv_args (z := z) (g := g) vs 0 i v hi
    rw [Nat.zero_add] at h2
    exact h1.2.2 (i, mj_v z g v) h2
  · rw [List.getElem?_append_right (by omega)] at hi
    have h2 := List.eq_of_mem_replicate (List.mem_of_getElem? hi)
    cases h2
def mj_Snd (l : Launch) (z : Nat) (g : Nat → Nat) (D : va_G) (dA : Nat → ClassId) (f : Nat) : Prop := ∀ (d j pc : Nat) (ls : mj_L) (st : List Value) (K : mj_K) (h : mj_H) (v : Option Value) (K' : mj_K) (h' : mj_H), mj_run f d j pc ls st K h = some (v, K', h') → ls.length = mj_ml j →
  ∀ (p : Program) (e : Env) (s : State) (m : MethodId) (args : Array Value) (below : List Frame) (meth : Method) (c : Code) (H : Heap) (locs : List Loc) (cells slots : Nat) (A : Array Slot) (mc ms : Nat), mj_At z g D dA j p s m args meth c → mj_ls z g ls A → mj_R z g D dA K h H → va_S (fun q => z ≤ q) s.heap H locs → cells + (K'.length - K.length) = mc → slots + (mj_ks K' - mj_ks K) = ms →
  W p l e (mj_room d mc ms) s m args below meth c H locs cells slots (MQ below (mj_Q z g D dA v K' h') args s mc ms (fun q => z ≤ q)) (F0 m pc A (st.map (mj_v z g)))
section MJM
variable {l : Launch} {z : Nat} {g : Nat → Nat} {D : va_G} {dA : Nat → ClassId}
/-- a method's contract, out of its run -/
theorem mj_met {f d j : Nat} {As : List Value} {K K' : mj_K} {h h' : mj_H} {v : Option Value} (ih : mj_Snd l z g D dA f) (hpl : plainName (mj_y j).cls = true) (hl : (mj_sl As).length ≤ mj_ml j) (hrun : mj_run f d j 0 (mj_entry j As) [] K h = some (v, K', h')) :
    Met l (mj_y j) (mj_ws j) (mj_room d (K'.length - K.length) (mj_ks K' - mj_ks K)) (mj_Pc z g D dA As K h) (mj_Q z g D dA v K' h') (K'.length - K.length) (mj_ks K' - mj_ks K) (fun q => z ≤ q) := by
  refine Met.ofW (cc := mj_b j) (maxL := mj_ml j) (ret := mj_ret j) hpl rfl ?_
  intro p e s m args below meth c s₁ B hml hv
  obtain ⟨rfl, hR, hU⟩ := hv
  have hts := atoms_spec (ws := mj_ws j) B.pre
  rw [lg_entry_eq]
  exact ih d j 0 _ [] K h v K' h' hrun (mj_entry_len hl) p e s m _ below meth c s.heap [] 0 0 _ _ _ ⟨B.exec, B.bytes, B.returns, hml, findClass_of_methodNamed B.named, fun w hw => hts w (List.mem_cons_of_mem _ hw), B.notSynchronized, hU, (name_of_methodNamed B.named B.method).1⟩ (mj_entry_ls hl) hR va_S.rf (by omega) (by omega)
theorem mj_ws_good {j : Nat} {k : Nat} (h : mj_inx k (.code (mj_y j) (mj_b j) (mj_ml j) (mj_ret j)) = true) : GoodIn mj_T (mj_ws j) := by
  intro w hw
  rcases List.mem_cons.mp hw with rfl | hw
  · exact ⟨mj_ins_T h rfl, Or.inl rfl⟩
  · exact mj_T_good w hw
set_option maxHeartbeats 4000000 in
theorem mj_sound (hJ : mj_JOK l) (hOK : ∀ (j pc : Nat) (x : mj_X), mj_code j pc = some x → decode (mj_b j) pc = .ok (x.1, x.2.1) ∧ mj_sok (mj_y j).cls (mj_hst j) (mj_ini j) x = true) (hCal : ∀ a, a < mj_nM → mj_cal a = true) : ∀ f, mj_Snd l z g D dA f := by
  intro f
  induction f with
  | zero => intro d j pc ls st K h v K' h' hr; cases hr
  | succ f ih =>
    intro d j pc ls st K h v K' h' hrun hlen p e s m args below meth c H locs cells slots A mc ms C hl hR hS hmc hms
    unfold mj_run at hrun
    split at hrun
    · cases hrun
    · rename_i x hx
      obtain ⟨hdc, hso⟩ := hOK j pc x hx
      split at hrun
      · rename_i v0 hctl
        cases hrun
        have e1 : cells = mc := by omega
        have e2 : slots = ms := by omega
        subst e1
        subst e2
        exact mj_ret_ok C hdc hso hctl hR hS
      · rename_i j' As rest hctl
        split at hrun
        · cases hrun
        · rename_i d'
          split at hrun
          · rename_i hck
            obtain ⟨hsl, hcat, hrok⟩ := hck
            split at hrun
            · cases hrun
            · rename_i v1 K1 h1 hcall
              obtain ⟨E1, e1⟩ := mj_run_K _ _ _ _ _ _ _ _ _ _ _ hcall
              obtain ⟨E2, e2⟩ := mj_run_K _ _ _ _ _ _ _ _ _ _ _ hrun
              have k1 : K.length ≤ K1.length := by rw [e1]; simp
              have k2 : K1.length ≤ K'.length := by rw [e2]; simp
              have k3 : mj_ks K ≤ mj_ks K1 := by rw [e1, mj_ks_app]; omega
              have k4 : mj_ks K1 ≤ mj_ks K' := by rw [e2, mj_ks_app]; omega
              obtain ⟨hx0, hb, hr, hml, hown, hts, hlocks, hU, hnm⟩ := id C
              have hAs : A.size = mj_ml j := by rw [hl.1]; exact hlen
              have next : ∀ (H1 : Heap) (locs1 : List Loc), mj_R z g D dA K1 h1 H1 → va_S (fun q => z ≤ q) s.heap H1 locs1 → W p l e (mj_room (d' + 1) mc ms) s m args below meth c H1 locs1 (cells + (K1.length - K.length)) (slots + (mj_ks K1 - mj_ks K)) (MQ below (mj_Q z g D dA v K' h') args s mc ms (fun q => z ≤ q)) (F0 m (pc + 3) A ((v1.map (mj_v z g)).toList ++ rest.map (mj_v z g))) := by
                intro H1 locs1 g1 g2
                have key := ih (d' + 1) j (pc + 3) _ _ K1 h1 v K' h' hrun (by rw [mj_clear_len]; exact hlen) p e s m args below meth c H1 locs1 (cells + (K1.length - K.length)) (slots + (mj_ks K1 - mj_ks K)) A mc ms C (mj_ls_clear hl _) g1 g2 (by omega) (by omega)
                have es : (v1.toList ++ rest).map (mj_v z g) = (v1.map (mj_v z g)).toList ++ rest.map (mj_v z g) := by
                  cases v1 <;> simp
                rw [es] at key
                exact key
              have hcat2 : ((rest.map (mj_v z g)).map fun v => v.category).sum ≤ 8 := by rw [mj_cat_map]; exact hcat
              have hfit : cells + (K1.length - K.length) ≤ (mj_room (d' + 1) mc ms).cells ∧ slots + (mj_ks K1 - mj_ks K) ≤ (mj_room (d' + 1) mc ms).slots := ⟨by show _ ≤ mc; omega, by show _ ≤ ms; omega⟩
              have words : ∀ {i b q c0 : Nat}, mj_cok (mj_y j).cls (mj_hst j) i j' b q c0 = true → Met l (mj_y j') (mj_ws j') (mj_room d' (K1.length - K.length) (mj_ks K1 - mj_ks K)) (mj_Pc z g D dA As K h) (mj_Q z g D dA v1 K1 h1) (K1.length - K.length) (mj_ks K1 - mj_ks K) (fun q => z ≤ q) ∧ mj_inx (mj_ix j').1 (.code (mj_y j') (mj_b j') (mj_ml j') (mj_ret j')) = true ∧ (if c0 % 2 = 0 then mj_inx (c0 / 1000) (.methodLink (mj_y j).cls i (mj_y j')) else mj_inx (c0 / 1000) (.methodLinkNest (mj_y j).cls i (mj_y j') (mj_hst j))) = true ∧ (Cond.initialized (mj_y j').cls).before args s = true ∧ ((mj_y j').cls ≠ "java/lang/invoke/MethodHandle" ∧ (mj_y j').cls ≠ "java/lang/invoke/VarHandle" ∧ (parseMethodDescriptor (mj_y j').desc).map (fun q => q.parameters.length) = some b) ∧ ((mj_room d' (K1.length - K.length) (mj_ks K1 - mj_ks K)).frames + 1 ≤ (mj_room (d' + 1) mc ms).frames ∧ 8 + (mj_ml j' + 11) + (mj_room d' (K1.length - K.length) (mj_ks K1 - mj_ks K)).locals ≤ (mj_room (d' + 1) mc ms).locals) ∧ (match q with
                  | 0 => mj_inx (mj_ix j').2.2.1 (.static (mj_y j'))
                  | 1 => mj_inx (mj_ix j').2.2.1 (.instanceMethod (mj_y j')) && mj_inx (mj_ix j').2.2.2 (.selects (mj_y j').cls (mj_y j') (mj_y j'))
                  | _ => mj_inx (mj_ix j').2.2.1 (.instanceMethod (mj_y j')) && decide ((mj_y j').name = "<init>") && decide (mj_ret j' = none)) = true := by
                intro i b q c0 hk
                simp only [mj_cok, Bool.and_eq_true, decide_eq_true_eq] at hk
                obtain ⟨⟨k1', k2'⟩, k3'⟩ := hk
                have hc := hCal j' k1'
                unfold mj_cal at hc
                rw [k2'] at hc
                simp only [Bool.and_eq_true, decide_eq_true_eq] at hc
                obtain ⟨⟨⟨⟨⟨⟨⟨q1, q3⟩, q4⟩, q5⟩, q6⟩, q7⟩, q8⟩, q9⟩ := hc
                refine ⟨mj_met ih q7 hsl hcall, q1, k3', hts _ (mj_ins_T q3 rfl), ⟨q5, q6, q4⟩, ⟨Nat.le_refl _, ?_⟩, q9⟩
                show 8 + (mj_ml j' + 11) + d' * mj_LW ≤ (d' + 1) * mj_LW
                rw [Nat.succ_mul]
                omega
              have fix : CallFix p m c (mj_b j) (mj_ml j) s args mj_T (mj_y j).cls := ⟨hx0, hb, hml, hown, hts⟩
              obtain ⟨I, n, a, b, c0⟩ := x
              cases I
              case invokestatic i =>
                simp only [mj_ctl] at hctl
                split at hctl
                · rename_i hq
                  cases hctl
                  simp only [mj_sok, Bool.and_eq_true, decide_eq_true_eq] at hso
                  obtain ⟨rfl, hso⟩ := hso
                  rw [if_pos hq.1] at hso
                  obtain ⟨hM, w1, w2, w3, w4, w5, w6⟩ := words hso
                  have hst : st.map (mj_v z g) = (((st.take b).reverse).map (mj_v z g)).reverse ++ (st.drop b).map (mj_v z g) := by
                    rw [List.map_reverse, List.reverse_reverse, ← List.map_append, List.take_append_drop]
                  have hnb : (((st.take b).reverse).map (mj_v z g)).length = b := by simp; omega
                  by_cases h0 : c0 % 2 = 0
                  · rw [if_pos h0] at w2
                    exact mj_cont (va_runS (bytes := mj_b j') (maxL := mj_ml j') (ret := mj_ret j') fix hM ⟨callB_of b hts (mj_ws_good w1) rfl rfl rfl w3 (hts _ (mj_ins_T w2 rfl)) w4 w5, hts _ (mj_ins_T w6 rfl)⟩ ⟨mj_Pc_blind, mj_Pc_at hU hR hS⟩ rfl hnb hAs hst (lv_room hcat2) hdc hfit) hS next
                  · rw [if_neg h0] at w2
                    exact mj_cont (va_runSN (bytes := mj_b j') (maxL := mj_ml j') (ret := mj_ret j') fix hM ⟨va_cnB b hts (mj_ws_good w1) rfl rfl rfl (hU.1.2.1 _ (mj_ins_N w2 rfl)) w3 w4 w5, hts _ (mj_ins_T w6 rfl), trivial⟩ ⟨mj_Pc_blind, mj_Pc_at hU hR hS⟩ rfl hnb hAs hst (lv_room hcat2) hdc hfit) hS next
                · cases hctl
              case invokespecial i =>
                simp only [mj_ctl] at hctl
                split at hctl
                · rename_i hq
                  split at hctl
                  · rename_i q r hdr
                    cases hctl
                    simp only [mj_sok, Bool.and_eq_true, decide_eq_true_eq] at hso
                    obtain ⟨rfl, hso⟩ := hso
                    rw [if_pos hq] at hso
                    obtain ⟨hM, w1, w2, w3, w4, w5, w6⟩ := words hso
                    simp only [Bool.and_eq_true, decide_eq_true_eq] at w6
                    obtain ⟨⟨o4, o2⟩, o3⟩ := w6
                    have hst : st.map (mj_v z g) = (((st.take b).reverse).map (mj_v z g)).reverse ++ Value.ref (z + q) :: rest.map (mj_v z g) := by
                      conv => lhs; rw [← List.take_append_drop b st, hdr]
                      simp [mj_v]
                    have hnb : (((st.take b).reverse).map (mj_v z g)).length = b := by
                      have : b < st.length := by
                        rcases Nat.lt_or_ge b st.length with q | q
                        · exact q
                        · rw [List.drop_eq_nil_of_le q] at hdr; cases hdr
                      simp; omega
                    by_cases h0 : c0 % 2 = 0
                    · rw [if_pos h0] at w2
                      have cb := callB_of (R := mj_room (d' + 1) mc ms) (own := (mj_y j).cls) (index := i) b hts (mj_ws_good w1) rfl (rm := mj_room d' (K1.length - K.length) (mj_ks K1 - mj_ks K)) rfl rfl w3 (hts _ (mj_ins_T w2 rfl)) w4 w5
                      rw [o3] at cb
                      exact mj_cont (va_runI (b := z + q) (bytes := mj_b j') (maxL := mj_ml j') fix hM ⟨cb, o2, hts _ (mj_ins_T o4 rfl)⟩ ⟨mj_Pc_blind, mj_Pc_at hU hR hS⟩ rfl hnb hAs hst (lv_room hcat2) hdc hfit) hS next
                    · rw [if_neg h0] at w2
                      have cb := va_cnB (R := mj_room (d' + 1) mc ms) (own := (mj_y j).cls) (index := i) b hts (mj_ws_good w1) rfl (rm := mj_room d' (K1.length - K.length) (mj_ks K1 - mj_ks K)) rfl rfl (hU.1.2.1 _ (mj_ins_N w2 rfl)) w3 w4 w5
                      rw [o3] at cb
                      exact mj_cont (va_runIN (b := z + q) (bytes := mj_b j') (maxL := mj_ml j') fix hM ⟨cb, o2, hts _ (mj_ins_T o4 rfl)⟩ ⟨mj_Pc_blind, mj_Pc_at hU hR hS⟩ rfl hnb hAs hst (lv_room hcat2) hdc hfit) hS next
                  · cases hctl
                · cases hctl
              case invokevirtual i =>
                simp only [mj_ctl] at hctl
                split at hctl
                · rename_i hq
                  split at hctl
                  · rename_i q r hdr
                    cases hctl
                    simp only [mj_sok, Bool.and_eq_true, decide_eq_true_eq] at hso
                    obtain ⟨rfl, hso⟩ := hso
                    rw [if_pos hq] at hso
                    simp only [Bool.and_eq_true, decide_eq_true_eq] at hso
                    obtain ⟨⟨o1, o4⟩, o5⟩ := hso
                    obtain ⟨hM, w1, w2, w3, w4, w5, w6⟩ := words o1
                    simp only [Bool.and_eq_true] at w6
                    obtain ⟨o2, o3⟩ := w6
                    have hst : st.map (mj_v z g) = (((st.take b).reverse).map (mj_v z g)).reverse ++ Value.ref (z + q) :: rest.map (mj_v z g) := by
                      conv => lhs; rw [← List.take_append_drop b st, hdr]
                      simp [mj_v]
                    have hnb : (((st.take b).reverse).map (mj_v z g)).length = b := by
                      have : b < st.length := by
                        rcases Nat.lt_or_ge b st.length with q | q
                        · exact q
                        · rw [List.drop_eq_nil_of_le q] at hdr; cases hdr
                      simp; omega
                    have hkd : mj_kd K q = c0 % 1000 / 2 := by simpa [mj_rok] using hrok
                    have hk1 : c0 % 1000 / 2 < 100 := Nat.lt_of_lt_of_le o4 mj_nC_ok
                    have hrecv : ∃ cellB : Cell, H[z + q]? = some cellB ∧ cellB.vm.isStatics = false ∧ s.vm.findClass (mj_y j').cls = some cellB.cls := by
                      rcases hR.2 q _ _ (mj_kd_at hkd (by omega)) with ⟨-, r', g2, g3, cell, q1, q2, q3, -⟩ | ⟨g1, -⟩
                      · cases (mj_cr_at o4).symm.trans g2
                        exact ⟨cell, q1, by rw [q3]; rfl, by rw [q2, ← o5]; exact (hU.1.1.1 _ _ (mj_cr_at o4)).2.1⟩
                      · omega
                    by_cases h0 : c0 % 2 = 0
                    · rw [if_pos h0] at w2
                      exact mj_cont (va_runV (b := z + q) (C := (mj_y j').cls) (bytes := mj_b j') (maxL := mj_ml j') (ret := mj_ret j') fix hM ⟨callB_of b hts (mj_ws_good w1) rfl rfl rfl w3 (hts _ (mj_ins_T w2 rfl)) w4 w5, hts _ (mj_ins_T o2 rfl), hts _ (mj_ins_T o3 rfl)⟩ ⟨mj_Pc_blind, hrecv, mj_Pc_at hU hR hS⟩ rfl hnb hAs hst (lv_room hcat2) hdc hfit) hS next
                    · rw [if_neg h0] at w2
                      exact mj_cont (va_runVN (b := z + q) (C := (mj_y j').cls) (bytes := mj_b j') (maxL := mj_ml j') (ret := mj_ret j') fix hM ⟨va_cnB b hts (mj_ws_good w1) rfl rfl rfl (hU.1.2.1 _ (mj_ins_N w2 rfl)) w3 w4 w5, hts _ (mj_ins_T o2 rfl), hts _ (mj_ins_T o3 rfl)⟩ ⟨mj_Pc_blind, hrecv, mj_Pc_at hU hR hS⟩ rfl hnb hAs hst (lv_room hcat2) hdc hfit) hS next
                  · cases hctl
                · cases hctl
              all_goals (
                exfalso
                simp only [mj_ctl] at hctl
                repeat' split at hctl
                all_goals (cases hctl))
          · cases hrun
      · split at hrun
        · cases hrun
        · rename_i pc2 ls2 st2 K2 h2 hp
          obtain ⟨hl2, E1, e1⟩ := mj_plain_K hp
          obtain ⟨E2, e2⟩ := mj_run_K _ _ _ _ _ _ _ _ _ _ _ hrun
          have k1 : K.length ≤ K2.length := by rw [e1]; simp
          have k2 : K2.length ≤ K'.length := by rw [e2]; simp
          have k3 : mj_ks K ≤ mj_ks K2 := by rw [e1, mj_ks_app]; omega
          have k4 : mj_ks K2 ≤ mj_ks K' := by rw [e2, mj_ks_app]; omega
          obtain ⟨I, n, a, b, c0⟩ := x
          refine mj_plain_ok hJ I p e _ s m args below meth c H locs cells slots _ pc A z g D dA K h st j d n a b c0 pc2 ls ls2 st2 K2 h2 C hdc hso hp hl hlen hR hS (by show _ ≤ mc; omega) (by show _ ≤ ms; omega) (Nat.le_refl d) (Nat.le_refl (d * mj_LW)) (fun A' H' locs' g1 g2 g3 => ?_)
          exact ih d j pc2 _ st2 K2 h2 v K' h' hrun (by rw [mj_clear_len, hl2]; exact hlen) p e s m args below meth c H' locs' _ _ A' mc ms C (mj_ls_clear g1 _) g2 g3 (by omega) (by omega)
end MJM
