/-- one operation: from every state that J holds, class and reference answer alike, and J holds again -/
def mj_Op (J : mj_H → Prop) (KK : mj_K) (aM jc jm : Nat) (As : List Value) : Prop := ∀ h, J h → ∃ (r : Int32) (h1 h2 : mj_H) (f1 f2 : Nat), mj_run f1 60 jc 0 (mj_entry jc (.ref 0 :: As)) [] KK h = some (some (.int r), KK, h1) ∧ mj_run f2 60 jm 0 (mj_entry jm (.ref aM :: As)) [] KK h1 = some (some (.int r), KK, h2) ∧ J h2
def mj_Ops (J : mj_H → Prop) (KK : mj_K) (aM : Nat) : Prop := (∀ (w : Int64), mj_Op J KK aM 1 24 [.long w]) ∧ (mj_Op J KK aM 2 51 []) ∧ (mj_Op J KK aM 3 52 []) ∧ (∀ (a b : Int32), mj_Op J KK aM 4 53 [.int a, .int b]) ∧ (∀ (a b : Int32), mj_Op J KK aM 5 54 [.int a, .int b]) ∧ (mj_Op J KK aM 6 61 []) ∧ (mj_Op J KK aM 7 62 []) ∧ (∀ (a : Int32), mj_Op J KK aM 8 71 [.int a]) ∧ (∀ (a b : Int32), mj_Op J KK aM 9 80 [.int a, .int b]) ∧ (∀ (a b c : Int32), mj_Op J KK aM 10 81 [.int a, .int b, .int c]) ∧ (∀ (a b c : Int32), mj_Op J KK aM 11 83 [.int a, .int b, .int c]) ∧ (∀ (a b : Int32), mj_Op J KK aM 12 87 [.int a, .int b])
/-- what the law's entry gives -/
def mj_LC (z : Nat) (g : Nat → Nat) (D : va_G) (dA : Nat → ClassId) (p : Program) (s : State) (m : MethodId) (b : Nat) (c : Code) : Prop := p.tables.exec = Jvm.exec ∧ c.code = code ∧ c.maxLocals = 4 ∧ s.vm.findClass R_law = some m.cls ∧ (∀ w ∈ mj_T, w.before #[Value.ref b] s = true) ∧ mj_US z g D dA s
section MJLAW
variable {p : Program} {l : Launch} {e : Env} {s : State} {m : MethodId} {b : Nat} {below : List Frame} {meth : Method} {c : Code} {H : Heap} {locs : List Loc} {cells slots : Nat} {Q : State → Prop}
variable {pc : Nat} {A : Array Slot} {z : Nat} {g : Nat → Nat} {D : va_G} {dA : Nat → ClassId} {K K' : mj_K} {h h' : mj_H} {st0 rest : List Value}
theorem mj_lcall {f j q i n ci k : Nat} {As : List Value} {r : Int32} (C : mj_LC z g D dA p s m b c) (hrun : mj_run f 60 j 0 (mj_entry j (.ref q :: As)) [] K h = some (some (.int r), K, h')) (hj : j < mj_nM) (hnb : mj_nb j = (n, 1)) (hlk : mj_at k = some (.methodLink R_law i (mj_y j))) (hci : ci < mj_cl.length) (hcn : (mj_cr ci).1 = (mj_y j).cls) (hkd : mj_kd K q = ci) (hn : As.length = n) (hsl : (mj_sl (.ref q :: As)).length ≤ mj_ml j) (hA : A.size = 4) (hcat : (rest.map fun v => v.category).sum ≤ 8)
    (hst : st0 = (As.map (mj_v z g)).reverse ++ .ref (z + q) :: rest) (hd : decode code pc = .ok (.invokevirtual i, 3)) (hc : cells ≤ 600000) (hs : slots ≤ 7302250) (hR : mj_R z g D dA K h H) (hS : va_S (fun q => z ≤ q) s.heap H locs)
    (kk : ∀ (H1 : Heap) (locs1 : List Loc), mj_R z g D dA K h' H1 → va_S (fun q => z ≤ q) s.heap H1 locs1 → W p l e room_1 s m #[Value.ref b] below meth c H1 locs1 cells slots Q (F0 m (pc + 3) A (.int r :: rest))) : W p l e room_1 s m #[Value.ref b] below meth c H locs cells slots Q (F0 m pc A st0) := by
  obtain ⟨hx, hb, hml, hown, hts, hU⟩ := C
  have hcal := mj_Cal j hj
  unfold mj_cal at hcal
  rw [hnb] at hcal
  simp only [Bool.and_eq_true, decide_eq_true_eq] at hcal
  obtain ⟨⟨⟨⟨⟨⟨⟨q1, q3⟩, q4⟩, q5⟩, q6⟩, q7⟩, q8⟩, q9, q10⟩ := hcal
  have hM := mj_met (mj_sound (l := l) (z := z) (g := g) (D := D) (dA := dA) (mj_jok l) mj_OK mj_Cal f) q7 hsl hrun
  have hk1 : ci < 100 := Nat.lt_of_lt_of_le hci mj_nC_ok
  have hrecv : ∃ cellB : Cell, H[z + q]? = some cellB ∧ cellB.vm.isStatics = false ∧ s.vm.findClass (mj_y j).cls = some cellB.cls := by
    rcases hR.2 q _ _ (mj_kd_at hkd (by omega)) with ⟨-, r', g2, g3, cell, p1, p2, p3, -⟩ | ⟨g1, -⟩
    · cases (mj_cr_at hci).symm.trans g2
      exact ⟨cell, p1, by rw [p3]; rfl, by rw [p2, ← hcn]; exact (hU.1.1.1 _ _ (mj_cr_at hci)).2.1⟩
    · omega
  have hLW : mj_ml j + 19 ≤ 40 := q8
  have e1 : K.length - K.length = 0 := Nat.sub_self _
  have e2 : mj_ks K - mj_ks K = 0 := Nat.sub_self _
  refine mj_cont (va_runV (b := z + q) (As := As.map (mj_v z g)) (rest := rest) (n := n) (C := (mj_y j).cls) (bytes := mj_b j) (maxL := mj_ml j) (ret := mj_ret j) ⟨hx, hb, hml, hown, hts⟩ hM ⟨callB_of n hts (mj_ws_good q1) rfl rfl rfl (hts _ (mj_ins_T q3 rfl)) (hts _ (mj_T_in (mj_at_mem hlk) rfl)) ⟨q5, q6, q4⟩ ⟨by show 60 + 1 ≤ 2048; decide, by show 8 + (mj_ml j + 11) + 60 * 40 ≤ 84000; omega⟩, hts _ (mj_ins_T q9 rfl), hts _ (mj_ins_T q10 rfl)⟩ ⟨mj_Pc_blind, hrecv, mj_Pc_at hU hR hS⟩ rfl (by rw [List.length_map]; exact hn) hA hst (lv_room hcat) hd ⟨by rw [e1]; exact hc, by rw [e2]; exact hs⟩) hS (fun H1 locs1 g1 g2 => ?_)
  exact W.cs (by omega) (by omega) (kk H1 locs1 g1 g2)
theorem mj_lnew {f j i n k : Nat} (C : mj_LC z g D dA p s m b c) (hrun : mj_run f 60 j 0 (mj_entry j [.ref n]) [] K h = some (none, K', h')) (hj : j < mj_nM) (hnb : mj_nb j = (0, 2)) (hlk : mj_at k = some (.methodLink R_law i (mj_y j))) (hsl : 1 ≤ mj_ml j) (hA : A.size = 4) (hcat : (rest.map fun v => v.category).sum ≤ 8)
    (hst : st0 = .ref (z + n) :: rest) (hd : decode code pc = .ok (.invokespecial i, 3)) (hc : cells + (K'.length - K.length) ≤ 600000) (hs : slots + (mj_ks K' - mj_ks K) ≤ 7302250) (hR : mj_R z g D dA K h H) (hS : va_S (fun q => z ≤ q) s.heap H locs)
    (kk : ∀ (H1 : Heap) (locs1 : List Loc), mj_R z g D dA K' h' H1 → va_S (fun q => z ≤ q) s.heap H1 locs1 → W p l e room_1 s m #[Value.ref b] below meth c H1 locs1 (cells + (K'.length - K.length)) (slots + (mj_ks K' - mj_ks K)) Q (F0 m (pc + 3) A rest)) : W p l e room_1 s m #[Value.ref b] below meth c H locs cells slots Q (F0 m pc A st0) := by
  obtain ⟨hx, hb, hml, hown, hts, hU⟩ := C
  have hcal := mj_Cal j hj
  unfold mj_cal at hcal
  rw [hnb] at hcal
  simp only [Bool.and_eq_true, decide_eq_true_eq] at hcal
  obtain ⟨⟨⟨⟨⟨⟨⟨q1, q3⟩, q4⟩, q5⟩, q6⟩, q7⟩, q8⟩, ⟨q9, q10⟩, q11⟩ := hcal
  have hM := mj_met (mj_sound (l := l) (z := z) (g := g) (D := D) (dA := dA) (mj_jok l) mj_OK mj_Cal f) q7 (As := [.ref n]) (by exact hsl) hrun
  have hLW : mj_ml j + 19 ≤ 40 := q8
  have cb := callB_of (R := room_1) (own := R_law) (index := i) 0 hts (mj_ws_good q1) rfl (rm := mj_room 60 (K'.length - K.length) (mj_ks K' - mj_ks K)) rfl rfl (hts _ (mj_ins_T q3 rfl)) (hts _ (mj_T_in (mj_at_mem hlk) rfl)) ⟨q5, q6, q4⟩ ⟨by show 60 + 1 ≤ 2048; decide, by show 8 + (mj_ml j + 11) + 60 * 40 ≤ 84000; omega⟩
  rw [q11] at cb
  exact mj_cont (va_runI (b := z + n) (As := []) (rest := rest) (bytes := mj_b j) (maxL := mj_ml j) ⟨hx, hb, hml, hown, hts⟩ hM ⟨cb, q10, hts _ (mj_ins_T q9 rfl)⟩ ⟨mj_Pc_blind, mj_Pc_at (As := [.ref n]) hU hR hS⟩ rfl rfl hA hst (lv_room hcat) hd ⟨hc, hs⟩) hS kk
end MJLAW
set_option maxHeartbeats 4000000 in
set_option maxRecDepth 100000 in
theorem mj_loop {J : mj_H → Prop} {KK : mj_K} {aM : Nat} (hOps : mj_Ops J KK aM) (hk0 : mj_kd KK 0 = 0) (hkM : mj_kd KK aM = 12) {p : Program} {l : Launch} {e : Env} {s : State} {m : MethodId} {below : List Frame} {meth : Method} {c : Code} {z : Nat} {g : Nat → Nat} {D : va_G} {dA : Nat → ClassId} {b L : Nat} {xs : Nat → Int32} (hL : L ≤ 2048) (C0 : lw_At p s m meth c b L xs) (hzs : z = s.heap.size) (CL : mj_LC z g D dA p s m b c) {cells slots : Nat} (hc : cells ≤ 600000) (hs : slots ≤ 7302250) :
    ∀ (n i : Nat), i ≤ L → L + 1 ≤ i + n → ∀ (h : mj_H) (H : Heap) (locs : List Loc) (ls : Array Slot), J h → mj_R z g D dA KK h H → va_S (fun q => z ≤ q) s.heap H locs → lv_has ls 4 [(0, .ref b), (1, .ref (z + 0)), (2, .ref (z + aM)), (3, .int (nI i))] → W p l e room_1 s m #[Value.ref b] below meth c H locs cells slots (lw_Z below #[Value.ref b] s) (F0 m 18 ls []) := by
  obtain ⟨hx, hb, hr, hml, hown, hts, hX, hbl, hlocks, hgv⟩ := C0
  have hbA : ¬ (fun q => z ≤ q) b := by rw [hzs]; exact Nat.not_le.mpr hbl
  obtain ⟨o_text, o_read, o_branch, o_job, o_needs, o_check, o_culprit, o_expand, o_expanded, o_pair, o_step, o_wants⟩ := hOps
  intro n
  induction n with
  | zero =>
    intro i h1 h2
    exfalso
    omega
  | succ n ih =>
    intro i hi hin h H locs ls hJ hR hS hl
    have hiz : i < 2 ^ 31 := by omega
    refine lv_iload_n hx hb dL_18 rfl (lv_at hl 3 rfl) ?_
    refine lv_aload_n hx hb dL_19 rfl (lv_at hl 0 rfl) ?_
    refine va_slen hx hb hX hbl hbA hS dL_20 ?_
    refine lv_iconst (v := 4) hx hb dL_21 (by decide) ?_
    refine lv_isub hx hb dL_22 ?_
    refine lv_icmp_gt (tgt := 448) hx hb dL_23 (by decide) (fun cq => ?_) (fun cq => ?_)
    · refine lv_iconst (v := 1) hx hb dL_448 (by decide) ?_
      refine va_forget (fun q hq => by have := hS.2.2 q hq; rw [hzs] at this; exact this) ?_
      refine W.widen (k := 600000) (n := 7302250) hc hs ?_
      exact lw_ret hx hb hr hlocks dL_449
    · have hlt : i + 4 ≤ L := by
        rcases Nat.lt_or_ge L 4 with q | q
        · exfalso
          apply cq
          rw [show (4 : Int32) = nI 4 from rfl]
          show nI L - nI 4 < nI i
          rw [Int32.lt_iff_toInt_lt, pk_sub_toInt (by omega) (by omega), nI_toInt hiz]
          omega
        · rcases Nat.lt_or_ge L (i + 4) with q2 | q2
          · exfalso
            apply cq
            rw [show (4 : Int32) = nI 4 from rfl]
            show nI L - nI 4 < nI i
            rw [Int32.lt_iff_toInt_lt, pk_sub_toInt (by omega) (by omega), nI_toInt hiz]
            omega
          · exact q2
      have hv0 : vp_in (nI i) L := vp_in_nI (by omega) (by omega)
      have hv1 : vp_in (nI i + 1) L := by rw [nI_1]; exact vp_in_nI (by omega) (by omega)
      have hv2 : vp_in (nI i + 2) L := by rw [show (2 : Int32) = nI 2 from rfl, nI_add]; exact vp_in_nI (by omega) (by omega)
      have hv3 : vp_in (nI i + 3) L := by rw [show (3 : Int32) = nI 3 from rfl, nI_add]; exact vp_in_nI (by omega) (by omega)
      have next : ∀ (h : mj_H) (H : Heap) (locs : List Loc), J h → mj_R z g D dA KK h H → va_S (fun q => z ≤ q) s.heap H locs → W p l e room_1 s m #[Value.ref b] below meth c H locs cells slots (lw_Z below #[Value.ref b] s) (F0 m 442 ls []) := by
        intro h H locs hJ hR hS
        refine lv_iinc (v := nI (i + 4)) (lv' := [(3, .int (nI (i + 4))), (0, .ref b), (1, .ref (z + 0)), (2, .ref (z + aM))]) hx hb dL_442 hl (k := 3) rfl (by rw [← nI_add]; rfl) (by decide) rfl (fun ls hl => ?_)
        refine lv_goto (tgt := 18) hx hb dL_445 (by decide) ?_
        exact ih (i + 4) (by omega) (by omega) h H locs ls hJ hR hS (lv_sub hl [1, 2, 3, 0] rfl)
      refine lv_aload_n hx hb dL_26 rfl (lv_at hl 0 rfl) ?_
      refine lv_iload_n hx hb dL_27 rfl (lv_at hl 3 rfl) ?_
      refine va_sld hx hb hX hbl hbA hS hv0 dL_28 ?_
      refine lv_bipush (v := 15) hx hb dL_29 (by decide) ?_
      refine lv_iand hx hb dL_31 ?_
      obtain ⟨kk, hkk, ekk⟩ := pk_andE (xs (nI i).toNatClampNeg) (m := 15) 4 (by decide)
      rw [ekk]
      by_cases hk12 : kk < 12
      · match kk, hk12 with
        | 0, _ =>
          refine lv_tableIn (tgt := 96) hx hb dL_32 (by decide) (by decide) (show _ = some (64 : Int) from rfl) (by decide) ?_
          refine lv_aload_n hx hb dL_96 rfl (lv_at hl 1 rfl) ?_
          refine lv_aload_n hx hb dL_97 rfl (lv_at hl 0 rfl) ?_
          refine lv_iload_n hx hb dL_98 rfl (lv_at hl 3 rfl) ?_
          refine lv_iconst (v := 1) hx hb dL_99 (by decide) ?_
          refine lv_iadd hx hb dL_100 ?_
          refine va_sld hx hb hX hbl hbA hS hv1 dL_101 ?_
          refine lv_i2l hx hb dL_102 rfl ?_
          refine lv_bipush (v := 32) hx hb dL_103 (by decide) ?_
          refine lv_lshl hx hb dL_105 rfl ?_
          refine lv_aload_n hx hb dL_106 rfl (lv_at hl 0 rfl) ?_
          refine lv_iload_n hx hb dL_107 rfl (lv_at hl 3 rfl) ?_
          refine lv_iconst (v := 2) hx hb dL_108 (by decide) ?_
          refine lv_iadd hx hb dL_109 ?_
          refine va_sld hx hb hX hbl hbA hS hv2 dL_110 ?_
          refine lv_i2l hx hb dL_111 rfl ?_
          refine lv_ldc2 hx hb hown (hts (.constantLong R_law 13 4294967295) (mj_at_mem (k := 1287) (by decide +kernel))) dL_112 ?_
          refine lv_land hx hb dL_115 ?_
          refine lv_lor hx hb dL_116 ?_
          obtain ⟨r, h1, h2, f1, f2, r1, r2, hJ2⟩ := o_text (((xs (nI i + 1).toNatClampNeg).toInt64 <<< ((32 : Int32).toInt64 &&& 63)) ||| ((xs (nI i + 2).toNatClampNeg).toInt64 &&& 4294967295)) h hJ
          refine mj_lcall (n := 1) (ci := 0) (k := 420) (As := [.long (((xs (nI i + 1).toNatClampNeg).toInt64 <<< ((32 : Int32).toInt64 &&& 63)) ||| ((xs (nI i + 2).toNatClampNeg).toInt64 &&& 4294967295))]) (rest := []) CL r1 (by decide) rfl (by decide +kernel) (by decide) rfl hk0 rfl (Nat.le_of_ble_eq_true rfl) hl.1 (Nat.le_of_ble_eq_true rfl) rfl dL_117 hc hs hR hS (fun H1 locs1 hR hS => ?_)
          refine lv_aload_n hx hb dL_120 rfl (lv_at hl 2 rfl) ?_
          refine lv_aload_n hx hb dL_121 rfl (lv_at hl 0 rfl) ?_
          refine lv_iload_n hx hb dL_122 rfl (lv_at hl 3 rfl) ?_
          refine lv_iconst (v := 1) hx hb dL_123 (by decide) ?_
          refine lv_iadd hx hb dL_124 ?_
          refine va_sld hx hb hX hbl hbA hS hv1 dL_125 ?_
          refine lv_i2l hx hb dL_126 rfl ?_
          refine lv_bipush (v := 32) hx hb dL_127 (by decide) ?_
          refine lv_lshl hx hb dL_129 rfl ?_
          refine lv_aload_n hx hb dL_130 rfl (lv_at hl 0 rfl) ?_
          refine lv_iload_n hx hb dL_131 rfl (lv_at hl 3 rfl) ?_
          refine lv_iconst (v := 2) hx hb dL_132 (by decide) ?_
          refine lv_iadd hx hb dL_133 ?_
          refine va_sld hx hb hX hbl hbA hS hv2 dL_134 ?_
          refine lv_i2l hx hb dL_135 rfl ?_
          refine lv_ldc2 hx hb hown (hts (.constantLong R_law 13 4294967295) (mj_at_mem (k := 1287) (by decide +kernel))) dL_136 ?_
          refine lv_land hx hb dL_139 ?_
          refine lv_lor hx hb dL_140 ?_
          refine mj_lcall (n := 1) (ci := 12) (k := 1011) (As := [.long (((xs (nI i + 1).toNatClampNeg).toInt64 <<< ((32 : Int32).toInt64 &&& 63)) ||| ((xs (nI i + 2).toNatClampNeg).toInt64 &&& 4294967295))]) (rest := [.int r]) CL r2 (by decide) rfl (by decide +kernel) (by decide) rfl hkM rfl (Nat.le_of_ble_eq_true rfl) hl.1 (Nat.le_of_ble_eq_true rfl) rfl dL_141 hc hs hR hS (fun H2 locs2 hR hS => ?_)
          exact lv_icmp_eq (tgt := 442) hx hb dL_144 (by decide) (fun _ => next h2 H2 locs2 hJ2 hR hS) (fun w => absurd rfl w)
        | 1, _ =>
          refine lv_tableIn (tgt := 149) hx hb dL_32 (by decide) (by decide) (show _ = some (117 : Int) from rfl) (by decide) ?_
          refine lv_aload_n hx hb dL_149 rfl (lv_at hl 1 rfl) ?_
          obtain ⟨r, h1, h2, f1, f2, r1, r2, hJ2⟩ := o_read h hJ
          refine mj_lcall (n := 0) (ci := 0) (k := 427) (As := []) (rest := []) CL r1 (by decide) rfl (by decide +kernel) (by decide) rfl hk0 rfl (Nat.le_of_ble_eq_true rfl) hl.1 (Nat.le_of_ble_eq_true rfl) rfl dL_150 hc hs hR hS (fun H1 locs1 hR hS => ?_)
          refine lv_aload_n hx hb dL_153 rfl (lv_at hl 2 rfl) ?_
          refine mj_lcall (n := 0) (ci := 12) (k := 1016) (As := []) (rest := [.int r]) CL r2 (by decide) rfl (by decide +kernel) (by decide) rfl hkM rfl (Nat.le_of_ble_eq_true rfl) hl.1 (Nat.le_of_ble_eq_true rfl) rfl dL_154 hc hs hR hS (fun H2 locs2 hR hS => ?_)
          exact lv_icmp_eq (tgt := 442) hx hb dL_157 (by decide) (fun _ => next h2 H2 locs2 hJ2 hR hS) (fun w => absurd rfl w)
        | 2, _ =>
          refine lv_tableIn (tgt := 162) hx hb dL_32 (by decide) (by decide) (show _ = some (130 : Int) from rfl) (by decide) ?_
          refine lv_aload_n hx hb dL_162 rfl (lv_at hl 1 rfl) ?_
          obtain ⟨r, h1, h2, f1, f2, r1, r2, hJ2⟩ := o_branch h hJ
          refine mj_lcall (n := 0) (ci := 0) (k := 704) (As := []) (rest := []) CL r1 (by decide) rfl (by decide +kernel) (by decide) rfl hk0 rfl (Nat.le_of_ble_eq_true rfl) hl.1 (Nat.le_of_ble_eq_true rfl) rfl dL_163 hc hs hR hS (fun H1 locs1 hR hS => ?_)
          refine lv_aload_n hx hb dL_166 rfl (lv_at hl 2 rfl) ?_
          refine mj_lcall (n := 0) (ci := 12) (k := 1135) (As := []) (rest := [.int r]) CL r2 (by decide) rfl (by decide +kernel) (by decide) rfl hkM rfl (Nat.le_of_ble_eq_true rfl) hl.1 (Nat.le_of_ble_eq_true rfl) rfl dL_167 hc hs hR hS (fun H2 locs2 hR hS => ?_)
          exact lv_icmp_eq (tgt := 442) hx hb dL_170 (by decide) (fun _ => next h2 H2 locs2 hJ2 hR hS) (fun w => absurd rfl w)
        | 3, _ =>
          refine lv_tableIn (tgt := 175) hx hb dL_32 (by decide) (by decide) (show _ = some (143 : Int) from rfl) (by decide) ?_
          refine lv_aload_n hx hb dL_175 rfl (lv_at hl 1 rfl) ?_
          refine lv_aload_n hx hb dL_176 rfl (lv_at hl 0 rfl) ?_
          refine lv_iload_n hx hb dL_177 rfl (lv_at hl 3 rfl) ?_
          refine lv_iconst (v := 1) hx hb dL_178 (by decide) ?_
          refine lv_iadd hx hb dL_179 ?_
          refine va_sld hx hb hX hbl hbA hS hv1 dL_180 ?_
          refine lv_aload_n hx hb dL_181 rfl (lv_at hl 0 rfl) ?_
          refine lv_iload_n hx hb dL_182 rfl (lv_at hl 3 rfl) ?_
          refine lv_iconst (v := 2) hx hb dL_183 (by decide) ?_
          refine lv_iadd hx hb dL_184 ?_
          refine va_sld hx hb hX hbl hbA hS hv2 dL_185 ?_
          obtain ⟨r, h1, h2, f1, f2, r1, r2, hJ2⟩ := o_job (xs (nI i + 1).toNatClampNeg) (xs (nI i + 2).toNatClampNeg) h hJ
          refine mj_lcall (n := 2) (ci := 0) (k := 709) (As := [.int (xs (nI i + 1).toNatClampNeg), .int (xs (nI i + 2).toNatClampNeg)]) (rest := []) CL r1 (by decide) rfl (by decide +kernel) (by decide) rfl hk0 rfl (Nat.le_of_ble_eq_true rfl) hl.1 (Nat.le_of_ble_eq_true rfl) rfl dL_186 hc hs hR hS (fun H1 locs1 hR hS => ?_)
          refine lv_aload_n hx hb dL_189 rfl (lv_at hl 2 rfl) ?_
          refine lv_aload_n hx hb dL_190 rfl (lv_at hl 0 rfl) ?_
          refine lv_iload_n hx hb dL_191 rfl (lv_at hl 3 rfl) ?_
          refine lv_iconst (v := 1) hx hb dL_192 (by decide) ?_
          refine lv_iadd hx hb dL_193 ?_
          refine va_sld hx hb hX hbl hbA hS hv1 dL_194 ?_
          refine lv_aload_n hx hb dL_195 rfl (lv_at hl 0 rfl) ?_
          refine lv_iload_n hx hb dL_196 rfl (lv_at hl 3 rfl) ?_
          refine lv_iconst (v := 2) hx hb dL_197 (by decide) ?_
          refine lv_iadd hx hb dL_198 ?_
          refine va_sld hx hb hX hbl hbA hS hv2 dL_199 ?_
          refine mj_lcall (n := 2) (ci := 12) (k := 1139) (As := [.int (xs (nI i + 1).toNatClampNeg), .int (xs (nI i + 2).toNatClampNeg)]) (rest := [.int r]) CL r2 (by decide) rfl (by decide +kernel) (by decide) rfl hkM rfl (Nat.le_of_ble_eq_true rfl) hl.1 (Nat.le_of_ble_eq_true rfl) rfl dL_200 hc hs hR hS (fun H2 locs2 hR hS => ?_)
          exact lv_icmp_eq (tgt := 442) hx hb dL_203 (by decide) (fun _ => next h2 H2 locs2 hJ2 hR hS) (fun w => absurd rfl w)
        | 4, _ =>
          refine lv_tableIn (tgt := 208) hx hb dL_32 (by decide) (by decide) (show _ = some (176 : Int) from rfl) (by decide) ?_
          refine lv_aload_n hx hb dL_208 rfl (lv_at hl 1 rfl) ?_
          refine lv_aload_n hx hb dL_209 rfl (lv_at hl 0 rfl) ?_
          refine lv_iload_n hx hb dL_210 rfl (lv_at hl 3 rfl) ?_
          refine lv_iconst (v := 1) hx hb dL_211 (by decide) ?_
          refine lv_iadd hx hb dL_212 ?_
          refine va_sld hx hb hX hbl hbA hS hv1 dL_213 ?_
          refine lv_aload_n hx hb dL_214 rfl (lv_at hl 0 rfl) ?_
          refine lv_iload_n hx hb dL_215 rfl (lv_at hl 3 rfl) ?_
          refine lv_iconst (v := 2) hx hb dL_216 (by decide) ?_
          refine lv_iadd hx hb dL_217 ?_
          refine va_sld hx hb hX hbl hbA hS hv2 dL_218 ?_
          obtain ⟨r, h1, h2, f1, f2, r1, r2, hJ2⟩ := o_needs (xs (nI i + 1).toNatClampNeg) (xs (nI i + 2).toNatClampNeg) h hJ
          refine mj_lcall (n := 2) (ci := 0) (k := 717) (As := [.int (xs (nI i + 1).toNatClampNeg), .int (xs (nI i + 2).toNatClampNeg)]) (rest := []) CL r1 (by decide) rfl (by decide +kernel) (by decide) rfl hk0 rfl (Nat.le_of_ble_eq_true rfl) hl.1 (Nat.le_of_ble_eq_true rfl) rfl dL_219 hc hs hR hS (fun H1 locs1 hR hS => ?_)
          refine lv_aload_n hx hb dL_222 rfl (lv_at hl 2 rfl) ?_
          refine lv_aload_n hx hb dL_223 rfl (lv_at hl 0 rfl) ?_
          refine lv_iload_n hx hb dL_224 rfl (lv_at hl 3 rfl) ?_
          refine lv_iconst (v := 1) hx hb dL_225 (by decide) ?_
          refine lv_iadd hx hb dL_226 ?_
          refine va_sld hx hb hX hbl hbA hS hv1 dL_227 ?_
          refine lv_aload_n hx hb dL_228 rfl (lv_at hl 0 rfl) ?_
          refine lv_iload_n hx hb dL_229 rfl (lv_at hl 3 rfl) ?_
          refine lv_iconst (v := 2) hx hb dL_230 (by decide) ?_
          refine lv_iadd hx hb dL_231 ?_
          refine va_sld hx hb hX hbl hbA hS hv2 dL_232 ?_
          refine mj_lcall (n := 2) (ci := 12) (k := 1143) (As := [.int (xs (nI i + 1).toNatClampNeg), .int (xs (nI i + 2).toNatClampNeg)]) (rest := [.int r]) CL r2 (by decide) rfl (by decide +kernel) (by decide) rfl hkM rfl (Nat.le_of_ble_eq_true rfl) hl.1 (Nat.le_of_ble_eq_true rfl) rfl dL_233 hc hs hR hS (fun H2 locs2 hR hS => ?_)
          exact lv_icmp_eq (tgt := 442) hx hb dL_236 (by decide) (fun _ => next h2 H2 locs2 hJ2 hR hS) (fun w => absurd rfl w)
        | 5, _ =>
          refine lv_tableIn (tgt := 241) hx hb dL_32 (by decide) (by decide) (show _ = some (209 : Int) from rfl) (by decide) ?_
          refine lv_aload_n hx hb dL_241 rfl (lv_at hl 1 rfl) ?_
          obtain ⟨r, h1, h2, f1, f2, r1, r2, hJ2⟩ := o_check h hJ
          refine mj_lcall (n := 0) (ci := 0) (k := 722) (As := []) (rest := []) CL r1 (by decide) rfl (by decide +kernel) (by decide) rfl hk0 rfl (Nat.le_of_ble_eq_true rfl) hl.1 (Nat.le_of_ble_eq_true rfl) rfl dL_242 hc hs hR hS (fun H1 locs1 hR hS => ?_)
          refine lv_aload_n hx hb dL_245 rfl (lv_at hl 2 rfl) ?_
          refine mj_lcall (n := 0) (ci := 12) (k := 1147) (As := []) (rest := [.int r]) CL r2 (by decide) rfl (by decide +kernel) (by decide) rfl hkM rfl (Nat.le_of_ble_eq_true rfl) hl.1 (Nat.le_of_ble_eq_true rfl) rfl dL_246 hc hs hR hS (fun H2 locs2 hR hS => ?_)
          exact lv_icmp_eq (tgt := 442) hx hb dL_249 (by decide) (fun _ => next h2 H2 locs2 hJ2 hR hS) (fun w => absurd rfl w)
        | 6, _ =>
          refine lv_tableIn (tgt := 254) hx hb dL_32 (by decide) (by decide) (show _ = some (222 : Int) from rfl) (by decide) ?_
          refine lv_aload_n hx hb dL_254 rfl (lv_at hl 1 rfl) ?_
          obtain ⟨r, h1, h2, f1, f2, r1, r2, hJ2⟩ := o_culprit h hJ
          refine mj_lcall (n := 0) (ci := 0) (k := 726) (As := []) (rest := []) CL r1 (by decide) rfl (by decide +kernel) (by decide) rfl hk0 rfl (Nat.le_of_ble_eq_true rfl) hl.1 (Nat.le_of_ble_eq_true rfl) rfl dL_255 hc hs hR hS (fun H1 locs1 hR hS => ?_)
          refine lv_aload_n hx hb dL_258 rfl (lv_at hl 2 rfl) ?_
          refine mj_lcall (n := 0) (ci := 12) (k := 1175) (As := []) (rest := [.int r]) CL r2 (by decide) rfl (by decide +kernel) (by decide) rfl hkM rfl (Nat.le_of_ble_eq_true rfl) hl.1 (Nat.le_of_ble_eq_true rfl) rfl dL_259 hc hs hR hS (fun H2 locs2 hR hS => ?_)
          exact lv_icmp_eq (tgt := 442) hx hb dL_262 (by decide) (fun _ => next h2 H2 locs2 hJ2 hR hS) (fun w => absurd rfl w)
        | 7, _ =>
          refine lv_tableIn (tgt := 267) hx hb dL_32 (by decide) (by decide) (show _ = some (235 : Int) from rfl) (by decide) ?_
          refine lv_aload_n hx hb dL_267 rfl (lv_at hl 1 rfl) ?_
          refine lv_aload_n hx hb dL_268 rfl (lv_at hl 0 rfl) ?_
          refine lv_iload_n hx hb dL_269 rfl (lv_at hl 3 rfl) ?_
          refine lv_iconst (v := 1) hx hb dL_270 (by decide) ?_
          refine lv_iadd hx hb dL_271 ?_
          refine va_sld hx hb hX hbl hbA hS hv1 dL_272 ?_
          obtain ⟨r, h1, h2, f1, f2, r1, r2, hJ2⟩ := o_expand (xs (nI i + 1).toNatClampNeg) h hJ
          refine mj_lcall (n := 1) (ci := 0) (k := 730) (As := [.int (xs (nI i + 1).toNatClampNeg)]) (rest := []) CL r1 (by decide) rfl (by decide +kernel) (by decide) rfl hk0 rfl (Nat.le_of_ble_eq_true rfl) hl.1 (Nat.le_of_ble_eq_true rfl) rfl dL_273 hc hs hR hS (fun H1 locs1 hR hS => ?_)
          refine lv_aload_n hx hb dL_276 rfl (lv_at hl 2 rfl) ?_
          refine lv_aload_n hx hb dL_277 rfl (lv_at hl 0 rfl) ?_
          refine lv_iload_n hx hb dL_278 rfl (lv_at hl 3 rfl) ?_
          refine lv_iconst (v := 1) hx hb dL_279 (by decide) ?_
          refine lv_iadd hx hb dL_280 ?_
          refine va_sld hx hb hX hbl hbA hS hv1 dL_281 ?_
          refine mj_lcall (n := 1) (ci := 12) (k := 1180) (As := [.int (xs (nI i + 1).toNatClampNeg)]) (rest := [.int r]) CL r2 (by decide) rfl (by decide +kernel) (by decide) rfl hkM rfl (Nat.le_of_ble_eq_true rfl) hl.1 (Nat.le_of_ble_eq_true rfl) rfl dL_282 hc hs hR hS (fun H2 locs2 hR hS => ?_)
          exact lv_icmp_eq (tgt := 442) hx hb dL_285 (by decide) (fun _ => next h2 H2 locs2 hJ2 hR hS) (fun w => absurd rfl w)
        | 8, _ =>
          refine lv_tableIn (tgt := 290) hx hb dL_32 (by decide) (by decide) (show _ = some (258 : Int) from rfl) (by decide) ?_
          refine lv_aload_n hx hb dL_290 rfl (lv_at hl 1 rfl) ?_
          refine lv_aload_n hx hb dL_291 rfl (lv_at hl 0 rfl) ?_
          refine lv_iload_n hx hb dL_292 rfl (lv_at hl 3 rfl) ?_
          refine lv_iconst (v := 1) hx hb dL_293 (by decide) ?_
          refine lv_iadd hx hb dL_294 ?_
          refine va_sld hx hb hX hbl hbA hS hv1 dL_295 ?_
          refine lv_aload_n hx hb dL_296 rfl (lv_at hl 0 rfl) ?_
          refine lv_iload_n hx hb dL_297 rfl (lv_at hl 3 rfl) ?_
          refine lv_iconst (v := 2) hx hb dL_298 (by decide) ?_
          refine lv_iadd hx hb dL_299 ?_
          refine va_sld hx hb hX hbl hbA hS hv2 dL_300 ?_
          obtain ⟨r, h1, h2, f1, f2, r1, r2, hJ2⟩ := o_expanded (xs (nI i + 1).toNatClampNeg) (xs (nI i + 2).toNatClampNeg) h hJ
          refine mj_lcall (n := 2) (ci := 0) (k := 791) (As := [.int (xs (nI i + 1).toNatClampNeg), .int (xs (nI i + 2).toNatClampNeg)]) (rest := []) CL r1 (by decide) rfl (by decide +kernel) (by decide) rfl hk0 rfl (Nat.le_of_ble_eq_true rfl) hl.1 (Nat.le_of_ble_eq_true rfl) rfl dL_301 hc hs hR hS (fun H1 locs1 hR hS => ?_)
          refine lv_aload_n hx hb dL_304 rfl (lv_at hl 2 rfl) ?_
          refine lv_aload_n hx hb dL_305 rfl (lv_at hl 0 rfl) ?_
          refine lv_iload_n hx hb dL_306 rfl (lv_at hl 3 rfl) ?_
          refine lv_iconst (v := 1) hx hb dL_307 (by decide) ?_
          refine lv_iadd hx hb dL_308 ?_
          refine va_sld hx hb hX hbl hbA hS hv1 dL_309 ?_
          refine lv_aload_n hx hb dL_310 rfl (lv_at hl 0 rfl) ?_
          refine lv_iload_n hx hb dL_311 rfl (lv_at hl 3 rfl) ?_
          refine lv_iconst (v := 2) hx hb dL_312 (by decide) ?_
          refine lv_iadd hx hb dL_313 ?_
          refine va_sld hx hb hX hbl hbA hS hv2 dL_314 ?_
          refine mj_lcall (n := 2) (ci := 12) (k := 1216) (As := [.int (xs (nI i + 1).toNatClampNeg), .int (xs (nI i + 2).toNatClampNeg)]) (rest := [.int r]) CL r2 (by decide) rfl (by decide +kernel) (by decide) rfl hkM rfl (Nat.le_of_ble_eq_true rfl) hl.1 (Nat.le_of_ble_eq_true rfl) rfl dL_315 hc hs hR hS (fun H2 locs2 hR hS => ?_)
          exact lv_icmp_eq (tgt := 442) hx hb dL_318 (by decide) (fun _ => next h2 H2 locs2 hJ2 hR hS) (fun w => absurd rfl w)
        | 9, _ =>
          refine lv_tableIn (tgt := 323) hx hb dL_32 (by decide) (by decide) (show _ = some (291 : Int) from rfl) (by decide) ?_
          refine lv_aload_n hx hb dL_323 rfl (lv_at hl 1 rfl) ?_
          refine lv_aload_n hx hb dL_324 rfl (lv_at hl 0 rfl) ?_
          refine lv_iload_n hx hb dL_325 rfl (lv_at hl 3 rfl) ?_
          refine lv_iconst (v := 1) hx hb dL_326 (by decide) ?_
          refine lv_iadd hx hb dL_327 ?_
          refine va_sld hx hb hX hbl hbA hS hv1 dL_328 ?_
          refine lv_aload_n hx hb dL_329 rfl (lv_at hl 0 rfl) ?_
          refine lv_iload_n hx hb dL_330 rfl (lv_at hl 3 rfl) ?_
          refine lv_iconst (v := 2) hx hb dL_331 (by decide) ?_
          refine lv_iadd hx hb dL_332 ?_
          refine va_sld hx hb hX hbl hbA hS hv2 dL_333 ?_
          refine lv_aload_n hx hb dL_334 rfl (lv_at hl 0 rfl) ?_
          refine lv_iload_n hx hb dL_335 rfl (lv_at hl 3 rfl) ?_
          refine lv_iconst (v := 3) hx hb dL_336 (by decide) ?_
          refine lv_iadd hx hb dL_337 ?_
          refine va_sld hx hb hX hbl hbA hS hv3 dL_338 ?_
          obtain ⟨r, h1, h2, f1, f2, r1, r2, hJ2⟩ := o_pair (xs (nI i + 1).toNatClampNeg) (xs (nI i + 2).toNatClampNeg) (xs (nI i + 3).toNatClampNeg) h hJ
          refine mj_lcall (n := 3) (ci := 0) (k := 809) (As := [.int (xs (nI i + 1).toNatClampNeg), .int (xs (nI i + 2).toNatClampNeg), .int (xs (nI i + 3).toNatClampNeg)]) (rest := []) CL r1 (by decide) rfl (by decide +kernel) (by decide) rfl hk0 rfl (Nat.le_of_ble_eq_true rfl) hl.1 (Nat.le_of_ble_eq_true rfl) rfl dL_339 hc hs hR hS (fun H1 locs1 hR hS => ?_)
          refine lv_aload_n hx hb dL_342 rfl (lv_at hl 2 rfl) ?_
          refine lv_aload_n hx hb dL_343 rfl (lv_at hl 0 rfl) ?_
          refine lv_iload_n hx hb dL_344 rfl (lv_at hl 3 rfl) ?_
          refine lv_iconst (v := 1) hx hb dL_345 (by decide) ?_
          refine lv_iadd hx hb dL_346 ?_
          refine va_sld hx hb hX hbl hbA hS hv1 dL_347 ?_
          refine lv_aload_n hx hb dL_348 rfl (lv_at hl 0 rfl) ?_
          refine lv_iload_n hx hb dL_349 rfl (lv_at hl 3 rfl) ?_
          refine lv_iconst (v := 2) hx hb dL_350 (by decide) ?_
          refine lv_iadd hx hb dL_351 ?_
          refine va_sld hx hb hX hbl hbA hS hv2 dL_352 ?_
          refine lv_aload_n hx hb dL_353 rfl (lv_at hl 0 rfl) ?_
          refine lv_iload_n hx hb dL_354 rfl (lv_at hl 3 rfl) ?_
          refine lv_iconst (v := 3) hx hb dL_355 (by decide) ?_
          refine lv_iadd hx hb dL_356 ?_
          refine va_sld hx hb hX hbl hbA hS hv3 dL_357 ?_
          refine mj_lcall (n := 3) (ci := 12) (k := 1236) (As := [.int (xs (nI i + 1).toNatClampNeg), .int (xs (nI i + 2).toNatClampNeg), .int (xs (nI i + 3).toNatClampNeg)]) (rest := [.int r]) CL r2 (by decide) rfl (by decide +kernel) (by decide) rfl hkM rfl (Nat.le_of_ble_eq_true rfl) hl.1 (Nat.le_of_ble_eq_true rfl) rfl dL_358 hc hs hR hS (fun H2 locs2 hR hS => ?_)
          exact lv_icmp_eq (tgt := 442) hx hb dL_361 (by decide) (fun _ => next h2 H2 locs2 hJ2 hR hS) (fun w => absurd rfl w)
        | 10, _ =>
          refine lv_tableIn (tgt := 366) hx hb dL_32 (by decide) (by decide) (show _ = some (334 : Int) from rfl) (by decide) ?_
          refine lv_aload_n hx hb dL_366 rfl (lv_at hl 1 rfl) ?_
          refine lv_aload_n hx hb dL_367 rfl (lv_at hl 0 rfl) ?_
          refine lv_iload_n hx hb dL_368 rfl (lv_at hl 3 rfl) ?_
          refine lv_iconst (v := 1) hx hb dL_369 (by decide) ?_
          refine lv_iadd hx hb dL_370 ?_
          refine va_sld hx hb hX hbl hbA hS hv1 dL_371 ?_
          refine lv_aload_n hx hb dL_372 rfl (lv_at hl 0 rfl) ?_
          refine lv_iload_n hx hb dL_373 rfl (lv_at hl 3 rfl) ?_
          refine lv_iconst (v := 2) hx hb dL_374 (by decide) ?_
          refine lv_iadd hx hb dL_375 ?_
          refine va_sld hx hb hX hbl hbA hS hv2 dL_376 ?_
          refine lv_aload_n hx hb dL_377 rfl (lv_at hl 0 rfl) ?_
          refine lv_iload_n hx hb dL_378 rfl (lv_at hl 3 rfl) ?_
          refine lv_iconst (v := 3) hx hb dL_379 (by decide) ?_
          refine lv_iadd hx hb dL_380 ?_
          refine va_sld hx hb hX hbl hbA hS hv3 dL_381 ?_
          obtain ⟨r, h1, h2, f1, f2, r1, r2, hJ2⟩ := o_step (xs (nI i + 1).toNatClampNeg) (xs (nI i + 2).toNatClampNeg) (xs (nI i + 3).toNatClampNeg) h hJ
          refine mj_lcall (n := 3) (ci := 0) (k := 819) (As := [.int (xs (nI i + 1).toNatClampNeg), .int (xs (nI i + 2).toNatClampNeg), .int (xs (nI i + 3).toNatClampNeg)]) (rest := []) CL r1 (by decide) rfl (by decide +kernel) (by decide) rfl hk0 rfl (Nat.le_of_ble_eq_true rfl) hl.1 (Nat.le_of_ble_eq_true rfl) rfl dL_382 hc hs hR hS (fun H1 locs1 hR hS => ?_)
          refine lv_aload_n hx hb dL_385 rfl (lv_at hl 2 rfl) ?_
          refine lv_aload_n hx hb dL_386 rfl (lv_at hl 0 rfl) ?_
          refine lv_iload_n hx hb dL_387 rfl (lv_at hl 3 rfl) ?_
          refine lv_iconst (v := 1) hx hb dL_388 (by decide) ?_
          refine lv_iadd hx hb dL_389 ?_
          refine va_sld hx hb hX hbl hbA hS hv1 dL_390 ?_
          refine lv_aload_n hx hb dL_391 rfl (lv_at hl 0 rfl) ?_
          refine lv_iload_n hx hb dL_392 rfl (lv_at hl 3 rfl) ?_
          refine lv_iconst (v := 2) hx hb dL_393 (by decide) ?_
          refine lv_iadd hx hb dL_394 ?_
          refine va_sld hx hb hX hbl hbA hS hv2 dL_395 ?_
          refine lv_aload_n hx hb dL_396 rfl (lv_at hl 0 rfl) ?_
          refine lv_iload_n hx hb dL_397 rfl (lv_at hl 3 rfl) ?_
          refine lv_iconst (v := 3) hx hb dL_398 (by decide) ?_
          refine lv_iadd hx hb dL_399 ?_
          refine va_sld hx hb hX hbl hbA hS hv3 dL_400 ?_
          refine mj_lcall (n := 3) (ci := 12) (k := 1254) (As := [.int (xs (nI i + 1).toNatClampNeg), .int (xs (nI i + 2).toNatClampNeg), .int (xs (nI i + 3).toNatClampNeg)]) (rest := [.int r]) CL r2 (by decide) rfl (by decide +kernel) (by decide) rfl hkM rfl (Nat.le_of_ble_eq_true rfl) hl.1 (Nat.le_of_ble_eq_true rfl) rfl dL_401 hc hs hR hS (fun H2 locs2 hR hS => ?_)
          exact lv_icmp_eq (tgt := 442) hx hb dL_404 (by decide) (fun _ => next h2 H2 locs2 hJ2 hR hS) (fun w => absurd rfl w)
        | 11, _ =>
          refine lv_tableIn (tgt := 409) hx hb dL_32 (by decide) (by decide) (show _ = some (377 : Int) from rfl) (by decide) ?_
          refine lv_aload_n hx hb dL_409 rfl (lv_at hl 1 rfl) ?_
          refine lv_aload_n hx hb dL_410 rfl (lv_at hl 0 rfl) ?_
          refine lv_iload_n hx hb dL_411 rfl (lv_at hl 3 rfl) ?_
          refine lv_iconst (v := 1) hx hb dL_412 (by decide) ?_
          refine lv_iadd hx hb dL_413 ?_
          refine va_sld hx hb hX hbl hbA hS hv1 dL_414 ?_
          refine lv_aload_n hx hb dL_415 rfl (lv_at hl 0 rfl) ?_
          refine lv_iload_n hx hb dL_416 rfl (lv_at hl 3 rfl) ?_
          refine lv_iconst (v := 2) hx hb dL_417 (by decide) ?_
          refine lv_iadd hx hb dL_418 ?_
          refine va_sld hx hb hX hbl hbA hS hv2 dL_419 ?_
          obtain ⟨r, h1, h2, f1, f2, r1, r2, hJ2⟩ := o_wants (xs (nI i + 1).toNatClampNeg) (xs (nI i + 2).toNatClampNeg) h hJ
          refine mj_lcall (n := 2) (ci := 0) (k := 846) (As := [.int (xs (nI i + 1).toNatClampNeg), .int (xs (nI i + 2).toNatClampNeg)]) (rest := []) CL r1 (by decide) rfl (by decide +kernel) (by decide) rfl hk0 rfl (Nat.le_of_ble_eq_true rfl) hl.1 (Nat.le_of_ble_eq_true rfl) rfl dL_420 hc hs hR hS (fun H1 locs1 hR hS => ?_)
          refine lv_aload_n hx hb dL_423 rfl (lv_at hl 2 rfl) ?_
          refine lv_aload_n hx hb dL_424 rfl (lv_at hl 0 rfl) ?_
          refine lv_iload_n hx hb dL_425 rfl (lv_at hl 3 rfl) ?_
          refine lv_iconst (v := 1) hx hb dL_426 (by decide) ?_
          refine lv_iadd hx hb dL_427 ?_
          refine va_sld hx hb hX hbl hbA hS hv1 dL_428 ?_
          refine lv_aload_n hx hb dL_429 rfl (lv_at hl 0 rfl) ?_
          refine lv_iload_n hx hb dL_430 rfl (lv_at hl 3 rfl) ?_
          refine lv_iconst (v := 2) hx hb dL_431 (by decide) ?_
          refine lv_iadd hx hb dL_432 ?_
          refine va_sld hx hb hX hbl hbA hS hv2 dL_433 ?_
          refine mj_lcall (n := 2) (ci := 12) (k := 1270) (As := [.int (xs (nI i + 1).toNatClampNeg), .int (xs (nI i + 2).toNatClampNeg)]) (rest := [.int r]) CL r2 (by decide) rfl (by decide +kernel) (by decide) rfl hkM rfl (Nat.le_of_ble_eq_true rfl) hl.1 (Nat.le_of_ble_eq_true rfl) rfl dL_434 hc hs hR hS (fun H2 locs2 hR hS => ?_)
          exact lv_icmp_eq (tgt := 442) hx hb dL_437 (by decide) (fun _ => next h2 H2 locs2 hJ2 hR hS) (fun w => absurd rfl w)
        | kk + 12, hq => exact absurd hq (by omega)
      · refine lv_tableOut (tgt := 442) hx hb dL_32 (Or.inr ?_) (by decide) (next h H locs hJ hR hS)
        rw [nI_toInt (by omega)]
        omega
