set_option maxHeartbeats 4000000 in
set_option maxRecDepth 100000 in
/-- the law out of the runs: what is left is of the small machine alone -/
theorem mj_whole {J : mj_H → Prop} {K1 KK : mj_K} {h1 h2 : mj_H} {f1 f2 : Nat} (r1 : mj_run f1 60 0 0 (mj_entry 0 [.ref 0]) [] [(0, 8)] (mj_zero mj_h0 0) = some (none, K1, h1)) (r2 : mj_run f2 60 22 0 (mj_entry 22 [.ref K1.length]) [] (K1 ++ [(12, 44)]) (mj_zero h1 K1.length) = some (none, KK, h2)) (hJ : J h2) (hOps : mj_Ops J KK K1.length) (hk0 : mj_kd KK 0 = 0) (hkM : mj_kd KK K1.length = 12) (hkc : KK.length ≤ 600000) (hks : mj_ks KK ≤ 7302250)
    {p : Program} {e : Env} {s : State} {m : MethodId} {below : List Frame} {meth : Method} {c : Code} (l : Launch) {b L : Nat} {xs : Nat → Int32} (hL : L ≤ 2048) (C0 : lw_At p s m meth c b L xs) : W p l e room_1 s m #[Value.ref b] below meth c s.heap [] 0 0 (lw_Z below #[Value.ref b] s) (entryFrame m ([Value.ref b] : List Value).toArray 4) := by
  obtain ⟨hx, hb, hr, hml, hown, hts, hX, hbl, hlocks, hgv⟩ := id C0
  obtain ⟨g, D, dA, hU⟩ := mj_start hts hgv
  have htT : ∀ w ∈ mj_T, w.before #[Value.ref b] s = true := fun w hw => hts w (List.mem_filter.mp hw).1
  have CL : mj_LC s.heap.size g D dA p s m b c := ⟨hx, hb, hml, hown, htT, hU⟩
  have hR0 : mj_R s.heap.size g D dA [] mj_h0 s.heap := ⟨by simp, fun a k n h => by simp at h⟩
  have hS0 : va_S (fun q => s.heap.size ≤ q) s.heap s.heap [] := va_S.rf
  obtain ⟨E1, e1⟩ := mj_run_K _ _ _ _ _ _ _ _ _ _ _ r1
  obtain ⟨E2, e2⟩ := mj_run_K _ _ _ _ _ _ _ _ _ _ _ r2
  have l1 : 1 ≤ K1.length := by rw [e1]; simp
  have l2 : K1.length + 1 ≤ KK.length := by rw [e2]; simp
  have s1 : 8 ≤ mj_ks K1 := by rw [e1, mj_ks_app]; show 8 ≤ 8 + _; omega
  have s2 : mj_ks K1 + 44 ≤ mj_ks KK := by rw [e2, mj_ks_app, mj_ks_app]; show mj_ks K1 + 44 ≤ mj_ks K1 + 44 + _; omega
  have hl := lv_entry ([Value.ref b]) (n := 4) (Nat.le_of_ble_eq_true rfl)
  rw [lg_entry_eq]
  generalize (lg_sl ([Value.ref b]) ++ List.replicate (4 - (lg_sl ([Value.ref b])).length) Slot.unset).toArray = ls at hl ⊢
  have hl : lv_has ls 4 [(0, .ref b)] := hl
  refine mj_new_ok (K := []) (h := mj_h0) (z := s.heap.size) (g := g) (D := D) (dA := dA) (st := []) hx hb htT hown hU.1 hR0 hS0 (k := 0) (r := mj_cr 0) rfl (by decide) (mj_T_in (mj_at_mem (k := 94) (by decide +kernel)) rfl) (mj_T_in (mj_at_mem (k := 95) (by decide +kernel)) rfl) (mj_T_in (mj_at_mem (k := 76) (by decide +kernel)) rfl) (by decide) (by decide) dL_0 (fun H1 hR1 hS1 => ?_)
  refine lv_dup hx hb dL_3 rfl ?_
  have hR1 : mj_R s.heap.size g D dA [(0, 8)] (mj_zero mj_h0 0) H1 := hR1
  refine mj_lnew (K := [(0, 8)]) (n := 0) (k := 96) (rest := [.ref (s.heap.size + 0)]) CL r1 (by decide) rfl (by decide +kernel) (by decide) hl.1 (Nat.le_of_ble_eq_true rfl) rfl dL_4 (by show 0 + 1 + (K1.length - 1) ≤ 600000; omega) (by show 0 + 8 + (mj_ks K1 - 8) ≤ 7302250; omega) hR1 hS1 (fun H2 locs2 hR2 hS2 => ?_)
  refine lv_astore_n (lv' := [(1, .ref (s.heap.size + 0)), (0, .ref b)]) hx hb dL_7 rfl hl (by decide) rfl (fun ls hl => ?_)
  refine W.cs (cells' := K1.length) (slots' := mj_ks K1) (by show 0 + 1 + (K1.length - 1) = K1.length; omega) (by show 0 + 8 + (mj_ks K1 - 8) = mj_ks K1; omega) ?_
  refine mj_new_ok (K := K1) (h := h1) (z := s.heap.size) (g := g) (D := D) (dA := dA) (st := []) hx hb htT hown hU.1 hR2 hS2 (k := 12) (r := mj_cr 12) rfl (by decide) (mj_T_in (mj_at_mem (k := 871) (by decide +kernel)) rfl) (mj_T_in (mj_at_mem (k := 872) (by decide +kernel)) rfl) (mj_T_in (mj_at_mem (k := 88) (by decide +kernel)) rfl) (by show K1.length + 1 ≤ 600000; omega) (by show mj_ks K1 + 44 ≤ 7302250; omega) dL_8 (fun H3 hR3 hS3 => ?_)
  refine lv_dup hx hb dL_11 rfl ?_
  have hR3 : mj_R s.heap.size g D dA (K1 ++ [(12, 44)]) (mj_zero h1 K1.length) H3 := hR3
  have l3 : (K1 ++ [(12, 44)]).length = K1.length + 1 := by simp
  have s3 : mj_ks (K1 ++ [(12, 44)]) = mj_ks K1 + 44 := by rw [mj_ks_app]; rfl
  refine mj_lnew (K := K1 ++ [(12, 44)]) (n := K1.length) (k := 873) (rest := [.ref (s.heap.size + K1.length)]) CL r2 (by decide) rfl (by decide +kernel) (by decide) hl.1 (Nat.le_of_ble_eq_true rfl) rfl dL_12 (by rw [l3]; omega) (by rw [s3]; show mj_ks K1 + 44 + _ ≤ _; omega) hR3 hS3 (fun H4 locs4 hR4 hS4 => ?_)
  refine lv_astore_n (lv' := [(2, .ref (s.heap.size + K1.length)), (1, .ref (s.heap.size + 0)), (0, .ref b)]) hx hb dL_15 rfl hl (by decide) rfl (fun ls hl => ?_)
  refine lv_iconst (v := 0) hx hb dL_16 (by decide) ?_
  refine lv_istore_n (lv' := [(3, .int 0), (2, .ref (s.heap.size + K1.length)), (1, .ref (s.heap.size + 0)), (0, .ref b)]) hx hb dL_17 rfl hl (by decide) rfl (fun ls hl => ?_)
  refine W.cs (cells' := KK.length) (slots' := mj_ks KK) (by rw [l3]; omega) (by rw [s3]; show mj_ks K1 + 44 + _ = _; omega) ?_
  exact mj_loop hOps hk0 hkM hL C0 rfl CL hkc hks (L + 1) 0 (Nat.zero_le L) (by omega) h2 H4 locs4 ls hJ hR4 hS4 (lv_sub hl [3, 2, 1, 0] rfl)
