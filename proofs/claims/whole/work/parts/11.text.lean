-- ===== the members of a constant text that are reached: length, charAt =====
def yT_len : MethodName := ⟨"java/lang/String", "length", "()I"⟩
def wT_len : List Cond := .code yT_len prog_16_method_54_code 1 (some .int) :: mj_T
theorem dT_len_0 : decode prog_16_method_54_code 0 = .ok (.aload_n 0, 1) := by decide +kernel
theorem dT_len_1 : decode prog_16_method_54_code 1 = .ok (.getfield 9, 3) := by decide +kernel
theorem dT_len_4 : decode prog_16_method_54_code 4 = .ok (.arraylength, 1) := by decide +kernel
theorem dT_len_5 : decode prog_16_method_54_code 5 = .ok (.aload_n 0, 1) := by decide +kernel
theorem dT_len_6 : decode prog_16_method_54_code 6 = .ok (.invokevirtual 335, 3) := by decide +kernel
theorem dT_len_9 : decode prog_16_method_54_code 9 = .ok (.ishr, 1) := by decide +kernel
theorem dT_len_10 : decode prog_16_method_54_code 10 = .ok (.ireturn, 1) := by decide +kernel
def yT_cod : MethodName := ⟨"java/lang/String", "coder", "()B"⟩
def wT_cod : List Cond := .code yT_cod prog_16_method_152_code 1 (some .byte) :: mj_T
theorem dT_cod_0 : decode prog_16_method_152_code 0 = .ok (.getstatic 38, 3) := by decide +kernel
theorem dT_cod_3 : decode prog_16_method_152_code 3 = .ok (.ifCond .eq 10, 3) := by decide +kernel
theorem dT_cod_6 : decode prog_16_method_152_code 6 = .ok (.aload_n 0, 1) := by decide +kernel
theorem dT_cod_7 : decode prog_16_method_152_code 7 = .ok (.getfield 15, 3) := by decide +kernel
theorem dT_cod_10 : decode prog_16_method_152_code 10 = .ok (.goto 4, 3) := by decide +kernel
theorem dT_cod_14 : decode prog_16_method_152_code 14 = .ok (.ireturn, 1) := by decide +kernel
def yT_lat : MethodName := ⟨"java/lang/String", "isLatin1", "()Z"⟩
def wT_lat : List Cond := .code yT_lat prog_16_method_154_code 1 (some .boolean) :: mj_T
theorem dT_lat_0 : decode prog_16_method_154_code 0 = .ok (.getstatic 38, 3) := by decide +kernel
theorem dT_lat_3 : decode prog_16_method_154_code 3 = .ok (.ifCond .eq 14, 3) := by decide +kernel
theorem dT_lat_6 : decode prog_16_method_154_code 6 = .ok (.aload_n 0, 1) := by decide +kernel
theorem dT_lat_7 : decode prog_16_method_154_code 7 = .ok (.getfield 15, 3) := by decide +kernel
theorem dT_lat_10 : decode prog_16_method_154_code 10 = .ok (.ifCond .ne 7, 3) := by decide +kernel
theorem dT_lat_13 : decode prog_16_method_154_code 13 = .ok (.iconst 1, 1) := by decide +kernel
theorem dT_lat_14 : decode prog_16_method_154_code 14 = .ok (.goto 4, 3) := by decide +kernel
theorem dT_lat_18 : decode prog_16_method_154_code 18 = .ok (.ireturn, 1) := by decide +kernel
def yT_cha : MethodName := ⟨"java/lang/String", "charAt", "(I)C"⟩
def wT_cha : List Cond := .code yT_cha prog_16_method_56_code 2 (some .char) :: mj_T
theorem dT_cha_0 : decode prog_16_method_56_code 0 = .ok (.aload_n 0, 1) := by decide +kernel
theorem dT_cha_1 : decode prog_16_method_56_code 1 = .ok (.invokevirtual 492, 3) := by decide +kernel
theorem dT_cha_4 : decode prog_16_method_56_code 4 = .ok (.ifCond .eq 12, 3) := by decide +kernel
theorem dT_cha_7 : decode prog_16_method_56_code 7 = .ok (.aload_n 0, 1) := by decide +kernel
theorem dT_cha_8 : decode prog_16_method_56_code 8 = .ok (.getfield 9, 3) := by decide +kernel
theorem dT_cha_11 : decode prog_16_method_56_code 11 = .ok (.iload_n 1, 1) := by decide +kernel
theorem dT_cha_12 : decode prog_16_method_56_code 12 = .ok (.invokestatic 495, 3) := by decide +kernel
theorem dT_cha_15 : decode prog_16_method_56_code 15 = .ok (.ireturn, 1) := by decide +kernel
def yT_lch : MethodName := ⟨"java/lang/StringLatin1", "charAt", "([BI)C"⟩
def wT_lch : List Cond := .code yT_lch prog_17_method_2_code 2 (some .char) :: mj_T
theorem dT_lch_0 : decode prog_17_method_2_code 0 = .ok (.iload_n 1, 1) := by decide +kernel
theorem dT_lch_1 : decode prog_17_method_2_code 1 = .ok (.aload_n 0, 1) := by decide +kernel
theorem dT_lch_2 : decode prog_17_method_2_code 2 = .ok (.arraylength, 1) := by decide +kernel
theorem dT_lch_3 : decode prog_17_method_2_code 3 = .ok (.invokestatic 9, 3) := by decide +kernel
theorem dT_lch_6 : decode prog_17_method_2_code 6 = .ok (.aload_n 0, 1) := by decide +kernel
theorem dT_lch_7 : decode prog_17_method_2_code 7 = .ok (.iload_n 1, 1) := by decide +kernel
theorem dT_lch_8 : decode prog_17_method_2_code 8 = .ok (.baload, 1) := by decide +kernel
theorem dT_lch_9 : decode prog_17_method_2_code 9 = .ok (.sipush 255, 3) := by decide +kernel
theorem dT_lch_12 : decode prog_17_method_2_code 12 = .ok (.iand, 1) := by decide +kernel
theorem dT_lch_13 : decode prog_17_method_2_code 13 = .ok (.i2c, 1) := by decide +kernel
theorem dT_lch_14 : decode prog_17_method_2_code 14 = .ok (.ireturn, 1) := by decide +kernel
def yT_chk : MethodName := ⟨"java/lang/String", "checkIndex", "(II)V"⟩
def wT_chk : List Cond := .code yT_chk prog_16_method_155_code 2 none :: mj_T
theorem dT_chk_0 : decode prog_16_method_155_code 0 = .ok (.iload_n 0, 1) := by decide +kernel
theorem dT_chk_1 : decode prog_16_method_155_code 1 = .ok (.iload_n 1, 1) := by decide +kernel
theorem dT_chk_2 : decode prog_16_method_155_code 2 = .ok (.getstatic 1053, 3) := by decide +kernel
theorem dT_chk_5 : decode prog_16_method_155_code 5 = .ok (.invokestatic 1059, 3) := by decide +kernel
theorem dT_chk_8 : decode prog_16_method_155_code 8 = .ok (.pop, 1) := by decide +kernel
theorem dT_chk_9 : decode prog_16_method_155_code 9 = .ok (.return_, 1) := by decide +kernel
def yT_pre : MethodName := ⟨"jdk/internal/util/Preconditions", "checkIndex", "(IILjava/util/function/BiFunction;)I"⟩
def wT_pre : List Cond := .code yT_pre prog_19_method_11_code 3 (some .int) :: mj_T
theorem dT_pre_0 : decode prog_19_method_11_code 0 = .ok (.iload_n 0, 1) := by decide +kernel
theorem dT_pre_1 : decode prog_19_method_11_code 1 = .ok (.ifCond .lt 8, 3) := by decide +kernel
theorem dT_pre_4 : decode prog_19_method_11_code 4 = .ok (.iload_n 0, 1) := by decide +kernel
theorem dT_pre_5 : decode prog_19_method_11_code 5 = .ok (.iload_n 1, 1) := by decide +kernel
theorem dT_pre_6 : decode prog_19_method_11_code 6 = .ok (.if_icmp .lt 10, 3) := by decide +kernel
theorem dT_pre_16 : decode prog_19_method_11_code 16 = .ok (.iload_n 0, 1) := by decide +kernel
theorem dT_pre_17 : decode prog_19_method_11_code 17 = .ok (.ireturn, 1) := by decide +kernel
theorem mj_tw (k : Nat) {w : Cond} (h : mj_at k = some w) (hg : mj_goodB w = true) : w ∈ mj_T := mj_T_in (mj_at_mem h) hg
theorem mj_tg2 {w : Cond} (h : w ∈ mj_T) (hg : (w.onTables && w.keeps) = true) : GoodIn mj_T (w :: mj_T) := by
  intro x hx
  rcases List.mem_cons.mp hx with rfl | hx
  · exact ⟨h, Or.inl hg⟩
  · exact mj_T_good x hx
theorem mj_SV_blind {z : Nat} {g gv : Nat → Nat} {av : List Value} : FrameBlind (va_Pc av (mj_SV z g gv)) := by
  intro a U gg mk ⟨h1, h2⟩
  exact ⟨h1, mj_SV_same (s := U) (U := U.calling gg mk a) rfl rfl h2⟩
def rmT (f n : Nat) : Room := { frames := f, cells := 0, slots := 0, locals := n }
theorem mT_cod (l : Launch) (z : Nat) (g gv : Nat → Nat) {k : Nat} (hk : k < mj_nS) : Met l yT_cod wT_cod (rmT 0 0) (va_Pc [.ref (g k)] (mj_SV z g gv)) (QcRead 0) 0 0 (fun _ => False) := by
  refine Met.ofW (cc := prog_16_method_152_code) (maxL := 1) (ret := (some .byte)) (by decide) rfl ?_
  intro p e s m args below meth c s₁ B hml hv
  obtain ⟨rfl, hV, hZ, hQ⟩ := hv
  have hx := B.exec
  have hb := B.bytes
  have hr := B.returns
  have hlocks := B.notSynchronized
  have hts0 := atoms_spec (ws := wT_cod) B.pre
  have hts : ∀ w ∈ mj_T, w.before _ s = true := fun w hw => hts0 w (List.mem_cons_of_mem _ hw)
  have hown : s.vm.findClass "java/lang/String" = some m.cls := findClass_of_methodNamed B.named
  have hS : va_S (fun q => z ≤ q) s.heap s.heap [] := va_S.rf
  have hl := lv_entry ([Value.ref (g k)]) (n := 1) (Nat.le_of_ble_eq_true rfl)
  rw [lg_entry_eq]
  generalize (lg_sl ([Value.ref (g k)]) ++ List.replicate (1 - (lg_sl ([Value.ref (g k)])).length) Slot.unset).toArray = ls at hl ⊢
  have hl : lv_has ls 1 [(0, .ref (g k))] := hl
  refine va_gets hx hb hZ hS hown (hts (.fieldLink "java/lang/String" 38 "java/lang/String" "COMPACT_STRINGS" "Z") (mj_tw 482 (by decide +kernel) rfl)) (fun _ h => h) dT_cod_0 ?_
  refine lv_if_eq (tgt := 13) hx hb dT_cod_3 (by decide) (fun q => absurd q (by decide)) (fun _ => ?_)
  refine lv_aload_n hx hb dT_cod_6 rfl (lv_at hl 0 rfl) ?_
  refine vk_getf hx hb (hV.1 k hk).2.1 hS hown (hts (.fieldLink "java/lang/String" 15 "java/lang/String" "coder" "B") (mj_tw 1289 (by decide +kernel) rfl)) (fun _ h => h) dT_cod_7 ?_
  refine lv_goto (tgt := 14) hx hb dT_cod_10 (by decide) ?_
  exact W.zret (ty := .byte) hx hb hr rfl (fun t ht hW => ⟨rfl, ht⟩) (fun _ h => by cases h) dT_cod_14
theorem mT_lat (l : Launch) (z : Nat) (g gv : Nat → Nat) {k : Nat} (hk : k < mj_nS) : Met l yT_lat wT_lat (rmT 0 0) (va_Pc [.ref (g k)] (mj_SV z g gv)) (QcRead 1) 0 0 (fun _ => False) := by
  refine Met.ofW (cc := prog_16_method_154_code) (maxL := 1) (ret := (some .boolean)) (by decide) rfl ?_
  intro p e s m args below meth c s₁ B hml hv
  obtain ⟨rfl, hV, hZ, hQ⟩ := hv
  have hx := B.exec
  have hb := B.bytes
  have hr := B.returns
  have hlocks := B.notSynchronized
  have hts0 := atoms_spec (ws := wT_lat) B.pre
  have hts : ∀ w ∈ mj_T, w.before _ s = true := fun w hw => hts0 w (List.mem_cons_of_mem _ hw)
  have hown : s.vm.findClass "java/lang/String" = some m.cls := findClass_of_methodNamed B.named
  have hS : va_S (fun q => z ≤ q) s.heap s.heap [] := va_S.rf
  have hl := lv_entry ([Value.ref (g k)]) (n := 1) (Nat.le_of_ble_eq_true rfl)
  rw [lg_entry_eq]
  generalize (lg_sl ([Value.ref (g k)]) ++ List.replicate (1 - (lg_sl ([Value.ref (g k)])).length) Slot.unset).toArray = ls at hl ⊢
  have hl : lv_has ls 1 [(0, .ref (g k))] := hl
  refine va_gets hx hb hZ hS hown (hts (.fieldLink "java/lang/String" 38 "java/lang/String" "COMPACT_STRINGS" "Z") (mj_tw 482 (by decide +kernel) rfl)) (fun _ h => h) dT_lat_0 ?_
  refine lv_if_eq (tgt := 17) hx hb dT_lat_3 (by decide) (fun q => absurd q (by decide)) (fun _ => ?_)
  refine lv_aload_n hx hb dT_lat_6 rfl (lv_at hl 0 rfl) ?_
  refine vk_getf hx hb (hV.1 k hk).2.1 hS hown (hts (.fieldLink "java/lang/String" 15 "java/lang/String" "coder" "B") (mj_tw 1289 (by decide +kernel) rfl)) (fun _ h => h) dT_lat_7 ?_
  refine lv_if_ne (tgt := 17) hx hb dT_lat_10 (by decide) (fun q => absurd rfl q) (fun _ => ?_)
  refine lv_iconst (v := 1) hx hb dT_lat_13 (by decide) ?_
  refine lv_goto (tgt := 18) hx hb dT_lat_14 (by decide) ?_
  exact W.zret (ty := .boolean) hx hb hr rfl (fun t ht hW => ⟨rfl, ht⟩) (fun _ h => by cases h) dT_lat_18
theorem mT_pre (l : Launch) (i n : Int32) (q : Value) (hq : q.category = 1) (h0 : ¬ i < 0) (h1 : i < n) : Met l yT_pre wT_pre (rmT 0 0) (va_Pc [.int i, .int n, q] (fun _ => True)) (QcRead i) 0 0 (fun _ => False) := by
  refine Met.ofW (cc := prog_19_method_11_code) (maxL := 3) (ret := (some .int)) (by decide) rfl ?_
  intro p e s m args below meth c s₁ B hml hv
  obtain ⟨rfl, -⟩ := hv
  have hx := B.exec
  have hb := B.bytes
  have hr := B.returns
  have hlocks := B.notSynchronized
  have hsl : lg_sl [Value.int i, Value.int n, q] = [.val (.int i), .val (.int n), .val q] := by cases q <;> simp_all [lg_sl, Value.category]
  have hl := lv_entry ([Value.int i, Value.int n, q]) (n := 3) (by rw [hsl]; exact Nat.le_refl 3)
  rw [lg_entry_eq]
  generalize (lg_sl ([Value.int i, Value.int n, q]) ++ List.replicate (3 - (lg_sl ([Value.int i, Value.int n, q])).length) Slot.unset).toArray = ls at hl ⊢
  have hl : lv_has ls 3 [(0, .int i), (1, .int n), (2, q)] := hl
  refine lv_iload_n hx hb dT_pre_0 rfl (lv_at hl 0 rfl) ?_
  refine lv_if_lt (tgt := 9) hx hb dT_pre_1 (by decide) (fun w => absurd w h0) (fun _ => ?_)
  refine lv_iload_n hx hb dT_pre_4 rfl (lv_at hl 0 rfl) ?_
  refine lv_iload_n hx hb dT_pre_5 rfl (lv_at hl 1 rfl) ?_
  refine lv_icmp_lt (tgt := 16) hx hb dT_pre_6 (by decide) (fun _ => ?_) (fun w => absurd h1 w)
  refine lv_iload_n hx hb dT_pre_16 rfl (lv_at hl 0 rfl) ?_
  exact W.iret hx hb hr (fun t ht hW => ⟨rfl, ht⟩) (fun _ h => by cases h) dT_pre_17
def mj_QcN : Array Value → State → Outcome → State → Prop := fun _ st o t => o = .returned none ∧ t.heap = st.heap
theorem mj_callN {p : Program} {l : Launch} {e : Env} {R : Room} {s : State} {m : MethodId} {args : Array Value} {below : List Frame} {meth : Method} {c : Code} {H : Heap} {locs : List Loc} {cells slots : Nat} {Q : State → Prop} {g : JFrame} {rest : List Value} {a : Array Value} (hr : CallRun p l e R s m args below meth c H locs cells slots 0 0 g rest (mj_QcN a) (fun _ => False)) (kk : W p l e R s m args below meth c H locs cells slots Q { g with pc := g.pc + 3, stack := rest }) : W p l e R s m args below meth c H locs cells slots Q g := by
  intro T hT X
  obtain ⟨v, st₀, t, T', L, h0, X', hL, e1, ⟨hv, hh⟩, st⟩ := hr T hT X
  cases hv
  obtain ⟨t2, a1, b1⟩ := kk T' (by rw [e1, hh, h0]) (Stand.forget X' (fun q h => (hL q h).elim))
  exact ⟨t2, st t2 a1, b1⟩
theorem mT_chk (l : Launch) (z : Nat) (g gv : Nat → Nat) (i n : Int32) (h0 : ¬ i < 0) (h1 : i < n) : Met l yT_chk wT_chk (rmT 1 22) (va_Pc [.int i, .int n] (mj_SV z g gv)) mj_QcN 0 0 (fun _ => False) := by
  refine Met.ofW (cc := prog_16_method_155_code) (maxL := 2) (ret := none) (by decide) rfl ?_
  intro p e s m args below meth c s₁ B hml hv
  obtain ⟨rfl, hV, hZ, hQ⟩ := hv
  have hx := B.exec
  have hb := B.bytes
  have hr := B.returns
  have hlocks := B.notSynchronized
  have hts0 := atoms_spec (ws := wT_chk) B.pre
  have hts : ∀ w ∈ mj_T, w.before _ s = true := fun w hw => hts0 w (List.mem_cons_of_mem _ hw)
  have hown : s.vm.findClass "java/lang/String" = some m.cls := findClass_of_methodNamed B.named
  have hS : va_S (fun q => z ≤ q) s.heap s.heap [] := va_S.rf
  have hl := lv_entry ([Value.int i, Value.int n]) (n := 2) (Nat.le_of_ble_eq_true rfl)
  rw [lg_entry_eq]
  generalize (lg_sl ([Value.int i, Value.int n]) ++ List.replicate (2 - (lg_sl ([Value.int i, Value.int n])).length) Slot.unset).toArray = ls at hl ⊢
  have hl : lv_has ls 2 [(0, .int i), (1, .int n)] := hl
  refine lv_iload_n hx hb dT_chk_0 rfl (lv_at hl 0 rfl) ?_
  refine lv_iload_n hx hb dT_chk_1 rfl (lv_at hl 1 rfl) ?_
  have go : ∀ v : Value, v.category = 1 → W p l e (headSpec wT_chk (rmT 1 22)).room s m [Value.int i, Value.int n].toArray below meth c s.heap [] 0 0 (MQ below mj_QcN [Value.int i, Value.int n].toArray s 0 0 (fun _ => False)) (F0 m 5 ls [v, .int n, .int i]) := by
    intro v hv
    refine W.callR (W.runS (As := [.int i, .int n, v]) (rest := []) (n := 3) (bytes := prog_19_method_11_code) (maxL := 3) (ret := some .int) ⟨hx, hb, hml, hown, hts⟩ (mT_pre l i n v hv h0 h1) ⟨callB_of 3 hts (mj_tg2 (mj_tw 502 (by decide +kernel) rfl) rfl) rfl rfl rfl (hts (.initialized "jdk/internal/util/Preconditions") (mj_tw 92 (by decide +kernel) rfl)) (hts (.methodLink "java/lang/String" 1059 yT_pre) (mj_tw 500 (by decide +kernel) rfl)) (by decide +kernel) ⟨Nat.le_of_ble_eq_true rfl, Nat.le_of_ble_eq_true rfl⟩, hts (.static yT_pre) (mj_tw 501 (by decide +kernel) rfl)⟩ ⟨fun _ _ _ _ w => w, fun _ _ _ => ⟨rfl, trivial⟩⟩ rfl rfl hl.1 rfl (room0 rfl) dT_chk_5 ⟨Nat.le_refl 0, Nat.le_refl 0⟩) ?_
    refine lv_pop hx hb dT_chk_8 rfl ?_
    exact W.vret hx hb hr (fun t ht hW => ⟨rfl, ht⟩) (fun _ h => by cases h) dT_chk_9
  rcases hQ with hQ | ⟨t, hQ⟩
  · exact va_gets hx hb hQ hS hown (hts (.fieldLink "java/lang/String" 1053 "jdk/internal/util/Preconditions" "SIOOBE_FORMATTER" "Ljava/util/function/BiFunction;") (mj_tw 498 (by decide +kernel) rfl)) (fun _ h => h) dT_chk_2 (go _ rfl)
  · exact va_gets hx hb hQ hS hown (hts (.fieldLink "java/lang/String" 1053 "jdk/internal/util/Preconditions" "SIOOBE_FORMATTER" "Ljava/util/function/BiFunction;") (mj_tw 498 (by decide +kernel) rfl)) (fun _ h => h) dT_chk_2 (go _ rfl)
theorem mj_bytes : ∀ k, k < mj_nS → (mj_sln.getD k 0 = (mj_str k).length ∧ (mj_str k).length < 1000 ∧ ∀ i, i < mj_sln.getD k 0 → (((((mj_sby.getD k []).getD i 0) &&& 255).toUInt32 % 65536).toInt32 = nI ((mj_str k).getD i 0) ∧ narrow .char (.int (nI ((mj_str k).getD i 0))) = .int (nI ((mj_str k).getD i 0)))) := by decide +kernel
theorem mT_len (l : Launch) (z : Nat) (g gv : Nat → Nat) {k : Nat} (hk : k < mj_nS) : Met l yT_len wT_len (rmT 1 20) (va_Pc [.ref (g k)] (mj_SV z g gv)) (QcRead (Int32.ofNat (mj_str k).length)) 0 0 (fun _ => False) := by
  refine Met.ofW (cc := prog_16_method_54_code) (maxL := 1) (ret := (some .int)) (by decide) rfl ?_
  intro p e s m args below meth c s₁ B hml hv
  obtain ⟨rfl, hV, hZ, hQ⟩ := hv
  have hx := B.exec
  have hb := B.bytes
  have hr := B.returns
  have hlocks := B.notSynchronized
  have hts0 := atoms_spec (ws := wT_len) B.pre
  have hts : ∀ w ∈ mj_T, w.before _ s = true := fun w hw => hts0 w (List.mem_cons_of_mem _ hw)
  have hown : s.vm.findClass "java/lang/String" = some m.cls := findClass_of_methodNamed B.named
  have hS : va_S (fun q => z ≤ q) s.heap s.heap [] := va_S.rf
  have hl := lv_entry ([Value.ref (g k)]) (n := 1) (Nat.le_of_ble_eq_true rfl)
  rw [lg_entry_eq]
  generalize (lg_sl ([Value.ref (g k)]) ++ List.replicate (1 - (lg_sl ([Value.ref (g k)])).length) Slot.unset).toArray = ls at hl ⊢
  have hl : lv_has ls 1 [(0, .ref (g k))] := hl
  obtain ⟨b1, b2, b3⟩ := mj_bytes k hk
  refine lv_aload_n hx hb dT_len_0 rfl (lv_at hl 0 rfl) ?_
  refine vk_getf hx hb (hV.1 k hk).2.2.1 hS hown (hts (.fieldLink "java/lang/String" 9 "java/lang/String" "value" "[B") (mj_tw 1288 (by decide +kernel) rfl)) (fun _ h => h) dT_len_1 ?_
  obtain ⟨cell, t1, t2, t3, t4, t5, t6, t7⟩ := (hV.1 k hk).2.2.2
  refine W.alen hx hb t1 t2 t5 rfl rfl dT_len_4 ?_
  refine W.eq (g2 := F0 m 5 ls [.int (Int32.ofNat (mj_sln.getD k 0))]) rfl ?_
  refine lv_aload_n hx hb dT_len_5 rfl (lv_at hl 0 rfl) ?_
  refine W.callR (W.runV (As := []) (rest := [.int (Int32.ofNat (mj_sln.getD k 0))]) (b := g k) (C := "java/lang/String") (n := 0) (bytes := prog_16_method_152_code) (maxL := 1) (ret := some .byte) ⟨hx, hb, hml, hown, hts⟩ (mT_cod l z g gv hk) ⟨callB_of 0 hts (mj_tg2 (mj_tw 481 (by decide +kernel) rfl) rfl) rfl rfl rfl (hts (.initialized "java/lang/String") (mj_tw 90 (by decide +kernel) rfl)) (hts (.methodLink "java/lang/String" 335 yT_cod) (mj_tw 478 (by decide +kernel) rfl)) (by decide +kernel) ⟨Nat.le_of_ble_eq_true rfl, Nat.le_of_ble_eq_true rfl⟩, hts (.instanceMethod yT_cod) (mj_tw 479 (by decide +kernel) rfl), hts (.selects "java/lang/String" yT_cod yT_cod) (mj_tw 480 (by decide +kernel) rfl)⟩ ⟨mj_SV_blind, vk_recv hV hk hS, fun U hU hW => ⟨rfl, mj_SV_moved hW.alike (fun q _ _ => by rw [hU]) ⟨hV, hZ, hQ⟩⟩⟩ rfl rfl hl.1 rfl (room1 rfl) dT_len_6 ⟨Nat.le_refl 0, Nat.le_refl 0⟩) ?_
  refine W.eq (g2 := F0 m 9 ls [.int 0, .int (Int32.ofNat (mj_sln.getD k 0))]) rfl ?_
  refine lv_ishr hx hb dT_len_9 ?_
  refine W.eq (g2 := F0 m 10 ls [.int (Int32.ofNat (mj_str k).length)]) (by rw [sb_shr0, b1]) ?_
  exact W.iret hx hb hr (fun t ht hW => ⟨rfl, ht⟩) (fun _ h => by cases h) dT_len_10
theorem mT_lch (l : Launch) (z : Nat) (g gv : Nat → Nat) {k i : Nat} (hk : k < mj_nS) (hi : i < (mj_str k).length) : Met l yT_lch wT_lch (rmT 2 43) (va_Pc [.ref (gv k), .int (nI i)] (mj_SV z g gv)) (QcRead (nI ((mj_str k).getD i 0))) 0 0 (fun _ => False) := by
  refine Met.ofW (cc := prog_17_method_2_code) (maxL := 2) (ret := (some .char)) (by decide) rfl ?_
  intro p e s m args below meth c s₁ B hml hv
  obtain ⟨rfl, hV, hZ, hQ⟩ := hv
  have hx := B.exec
  have hb := B.bytes
  have hr := B.returns
  have hlocks := B.notSynchronized
  have hts0 := atoms_spec (ws := wT_lch) B.pre
  have hts : ∀ w ∈ mj_T, w.before _ s = true := fun w hw => hts0 w (List.mem_cons_of_mem _ hw)
  have hown : s.vm.findClass "java/lang/StringLatin1" = some m.cls := findClass_of_methodNamed B.named
  have hS : va_S (fun q => z ≤ q) s.heap s.heap [] := va_S.rf
  have hl := lv_entry ([Value.ref (gv k), Value.int (nI i)]) (n := 2) (Nat.le_of_ble_eq_true rfl)
  rw [lg_entry_eq]
  generalize (lg_sl ([Value.ref (gv k), Value.int (nI i)]) ++ List.replicate (2 - (lg_sl ([Value.ref (gv k), Value.int (nI i)])).length) Slot.unset).toArray = ls at hl ⊢
  have hl : lv_has ls 2 [(0, .ref (gv k)), (1, .int (nI i))] := hl
  obtain ⟨b1, b2, b3⟩ := mj_bytes k hk
  obtain ⟨b4, b5⟩ := b3 i (by rw [b1]; exact hi)
  obtain ⟨cell, t1, t2, t3, t4, t5, t6, t7⟩ := (hV.1 k hk).2.2.2
  have hi31 : i < 2 ^ 31 := by omega
  refine lv_iload_n hx hb dT_lch_0 rfl (lv_at hl 1 rfl) ?_
  refine lv_aload_n hx hb dT_lch_1 rfl (lv_at hl 0 rfl) ?_
  refine W.alen hx hb t1 t2 t5 rfl rfl dT_lch_2 ?_
  refine W.eq (g2 := F0 m 3 ls [.int (Int32.ofNat (mj_sln.getD k 0)), .int (nI i)]) rfl ?_
  refine mj_callN (W.runS (As := [.int (nI i), .int (Int32.ofNat (mj_sln.getD k 0))]) (rest := []) (n := 2) (bytes := prog_16_method_155_code) (maxL := 2) (ret := none) ⟨hx, hb, hml, hown, hts⟩ (mT_chk l z g gv (nI i) (Int32.ofNat (mj_sln.getD k 0)) (nI_pos hi31) (nI_lt (by rw [b1]; exact hi) (by rw [b1]; omega))) ⟨callB_of 2 hts (mj_tg2 (mj_tw 497 (by decide +kernel) rfl) rfl) rfl rfl rfl (hts (.initialized "java/lang/String") (mj_tw 90 (by decide +kernel) rfl)) (hts (.methodLink "java/lang/StringLatin1" 9 yT_chk) (mj_tw 495 (by decide +kernel) rfl)) (by decide +kernel) ⟨Nat.le_of_ble_eq_true rfl, Nat.le_of_ble_eq_true rfl⟩, hts (.static yT_chk) (mj_tw 496 (by decide +kernel) rfl)⟩ ⟨mj_SV_blind, fun U hU hW => ⟨rfl, mj_SV_moved hW.alike (fun q _ _ => by rw [hU]) ⟨hV, hZ, hQ⟩⟩⟩ rfl rfl hl.1 rfl (room0 rfl) dT_lch_3 ⟨Nat.le_refl 0, Nat.le_refl 0⟩) ?_
  refine W.eq (g2 := F0 m 6 ls []) rfl ?_
  refine lv_aload_n hx hb dT_lch_6 rfl (lv_at hl 0 rfl) ?_
  refine lv_iload_n hx hb dT_lch_7 rfl (lv_at hl 1 rfl) ?_
  refine W.bald hx hb t1 t2 t3 (fun w => w.elim (nI_pos hi31) (fun w => by rw [nI_clamp hi31] at w; omega)) (by rw [nI_clamp hi31]; exact t6 i (by rw [b1]; exact hi)) rfl rfl dT_lch_8 ?_
  refine W.eq (g2 := F0 m 9 ls [.int ((mj_sby.getD k []).getD i 0)]) rfl ?_
  refine lv_sipush (v := 255) hx hb dT_lch_9 (by decide) ?_
  refine lv_iand hx hb dT_lch_12 ?_
  refine lv_i2c hx hb dT_lch_13 b4 ?_
  exact W.zret (ty := .char) hx hb hr b5 (fun t ht hW => ⟨rfl, ht⟩) (fun _ h => by cases h) dT_lch_14
theorem mT_cha (l : Launch) (z : Nat) (g gv : Nat → Nat) {k i : Nat} (hk : k < mj_nS) (hi : i < (mj_str k).length) : Met l yT_cha wT_cha (rmT 3 64) (va_Pc [.ref (g k), .int (nI i)] (mj_SV z g gv)) (QcRead (nI ((mj_str k).getD i 0))) 0 0 (fun _ => False) := by
  refine Met.ofW (cc := prog_16_method_56_code) (maxL := 2) (ret := (some .char)) (by decide) rfl ?_
  intro p e s m args below meth c s₁ B hml hv
  obtain ⟨rfl, hV, hZ, hQ⟩ := hv
  have hx := B.exec
  have hb := B.bytes
  have hr := B.returns
  have hlocks := B.notSynchronized
  have hts0 := atoms_spec (ws := wT_cha) B.pre
  have hts : ∀ w ∈ mj_T, w.before _ s = true := fun w hw => hts0 w (List.mem_cons_of_mem _ hw)
  have hown : s.vm.findClass "java/lang/String" = some m.cls := findClass_of_methodNamed B.named
  have hS : va_S (fun q => z ≤ q) s.heap s.heap [] := va_S.rf
  have hl := lv_entry ([Value.ref (g k), Value.int (nI i)]) (n := 2) (Nat.le_of_ble_eq_true rfl)
  rw [lg_entry_eq]
  generalize (lg_sl ([Value.ref (g k), Value.int (nI i)]) ++ List.replicate (2 - (lg_sl ([Value.ref (g k), Value.int (nI i)])).length) Slot.unset).toArray = ls at hl ⊢
  have hl : lv_has ls 2 [(0, .ref (g k)), (1, .int (nI i))] := hl
  obtain ⟨b1, b2, b3⟩ := mj_bytes k hk
  obtain ⟨b4, b5⟩ := b3 i (by rw [b1]; exact hi)
  refine lv_aload_n hx hb dT_cha_0 rfl (lv_at hl 0 rfl) ?_
  refine W.callR (W.runV (As := []) (rest := []) (b := g k) (C := "java/lang/String") (n := 0) (bytes := prog_16_method_154_code) (maxL := 1) (ret := some .boolean) ⟨hx, hb, hml, hown, hts⟩ (mT_lat l z g gv hk) ⟨callB_of 0 hts (mj_tg2 (mj_tw 491 (by decide +kernel) rfl) rfl) rfl rfl rfl (hts (.initialized "java/lang/String") (mj_tw 90 (by decide +kernel) rfl)) (hts (.methodLink "java/lang/String" 492 yT_lat) (mj_tw 488 (by decide +kernel) rfl)) (by decide +kernel) ⟨Nat.le_of_ble_eq_true rfl, Nat.le_of_ble_eq_true rfl⟩, hts (.instanceMethod yT_lat) (mj_tw 489 (by decide +kernel) rfl), hts (.selects "java/lang/String" yT_lat yT_lat) (mj_tw 490 (by decide +kernel) rfl)⟩ ⟨mj_SV_blind, vk_recv hV hk hS, fun U hU hW => ⟨rfl, mj_SV_moved hW.alike (fun q _ _ => by rw [hU]) ⟨hV, hZ, hQ⟩⟩⟩ rfl rfl hl.1 rfl (room0 rfl) dT_cha_1 ⟨Nat.le_refl 0, Nat.le_refl 0⟩) ?_
  refine W.eq (g2 := F0 m 4 ls [.int 1]) rfl ?_
  refine lv_if_eq (tgt := 16) hx hb dT_cha_4 (by decide) (fun q => absurd q (by decide)) (fun _ => ?_)
  refine lv_aload_n hx hb dT_cha_7 rfl (lv_at hl 0 rfl) ?_
  refine vk_getf hx hb (hV.1 k hk).2.2.1 hS hown (hts (.fieldLink "java/lang/String" 9 "java/lang/String" "value" "[B") (mj_tw 1288 (by decide +kernel) rfl)) (fun _ h => h) dT_cha_8 ?_
  refine lv_iload_n hx hb dT_cha_11 rfl (lv_at hl 1 rfl) ?_
  refine W.callR (W.runS (As := [.ref (gv k), .int (nI i)]) (rest := []) (n := 2) (bytes := prog_17_method_2_code) (maxL := 2) (ret := some .char) ⟨hx, hb, hml, hown, hts⟩ (mT_lch l z g gv hk hi) ⟨callB_of 2 hts (mj_tg2 (mj_tw 494 (by decide +kernel) rfl) rfl) rfl rfl rfl (hts (.initialized "java/lang/StringLatin1") (mj_tw 91 (by decide +kernel) rfl)) (hts (.methodLink "java/lang/String" 495 yT_lch) (mj_tw 492 (by decide +kernel) rfl)) (by decide +kernel) ⟨Nat.le_of_ble_eq_true rfl, Nat.le_of_ble_eq_true rfl⟩, hts (.static yT_lch) (mj_tw 493 (by decide +kernel) rfl)⟩ ⟨mj_SV_blind, fun U hU hW => ⟨rfl, mj_SV_moved hW.alike (fun q _ _ => by rw [hU]) ⟨hV, hZ, hQ⟩⟩⟩ rfl rfl hl.1 rfl (room0 rfl) dT_cha_12 ⟨Nat.le_refl 0, Nat.le_refl 0⟩) ?_
  refine W.eq (g2 := F0 m 15 ls [.int (nI ((mj_str k).getD i 0))]) rfl ?_
  exact W.zret (ty := .char) hx hb hr b5 (fun t ht hW => ⟨rfl, ht⟩) (fun _ h => by cases h) dT_cha_15
theorem mj_jok (l : Launch) : mj_JOK l := by
  intro p e R s m args below meth c H locs cells slots Q z g D dA j i a d pc A st st' C hA hS hfr hlo hc hs hdc hcase hq kk
  obtain ⟨hx, hb, hr, hml, hown, hts, hlocks, ⟨hU, ⟨hR, gv, hV⟩, hz⟩, hnm⟩ := C
  have hL40 : d * 40 ≤ R.locals := hlo
  have pre : ∀ av : List Value, ∀ U : State, U.heap = H → s.WarmedH U.vm → va_Pc av (mj_SV z g gv) av.toArray U := fun av U hH hW => ⟨rfl, mj_SV_moved hW.alike (fun q h1 h2 => by rw [hH]; exact hS.2.1 q h1 h2) hV⟩
  rcases hcase with ⟨rfl, hin⟩ | ⟨rfl, hin⟩
  · simp only [mj_intr] at hq
    split at hq
    · split at hq
      · rename_i k r hk
        cases hq
        obtain ⟨h8, hk1, hk2⟩ := hk
        simp only [mj_SL, List.mem_singleton, Prod.mk.injEq] at hin
        obtain ⟨hin1, rfl⟩ := hin
        rw [hin1] at hown
        exact W.callR (W.runV (As := []) (rest := r.map (mj_v z g)) (b := g k) (C := "java/lang/String") (n := 0) (bytes := prog_16_method_54_code) (maxL := 1) (ret := some .int) ⟨hx, hb, hml, hown, hts⟩ (mT_len l z g gv hk1) ⟨callB_of 0 hts (mj_tg2 (mj_tw 477 (by decide +kernel) rfl) rfl) rfl rfl rfl (hts (.initialized "java/lang/String") (mj_tw 90 (by decide +kernel) rfl)) (hts (.methodLink "PipelineText$Words" 50 yT_len) (mj_tw 474 (by decide +kernel) rfl)) (by decide +kernel) ⟨by show 1 + 1 ≤ R.frames; omega, by show 8 + (1 + 11) + 20 ≤ R.locals; omega⟩, hts (.instanceMethod yT_len) (mj_tw 475 (by decide +kernel) rfl), hts (.selects "java/lang/String" yT_len yT_len) (mj_tw 476 (by decide +kernel) rfl)⟩ ⟨mj_SV_blind, vk_recv hV.1 hk1 hS, pre _⟩ rfl rfl hA rfl (lv_room (by rw [mj_cat_map]; exact hk2)) hdc ⟨by show cells + 0 ≤ R.cells; omega, by show slots + 0 ≤ R.slots; omega⟩) kk
      · cases hq
    · cases hq
  · simp only [mj_intr] at hq
    split at hq
    · split at hq
      · rename_i i0 k r hk
        cases hq
        obtain ⟨h8, hk1, hk3, hk2⟩ := hk
        simp only [mj_SC, List.mem_singleton, Prod.mk.injEq] at hin
        obtain ⟨hin1, rfl⟩ := hin
        rw [hin1] at hown
        obtain ⟨b1, b2, b3⟩ := mj_bytes k hk1
        obtain ⟨q, hq1, rfl⟩ := vp_in_of (x := i0) (n := (mj_str k).length) (by unfold vp_in; simpa [mj_in] using hk3) (by omega)
        rw [nI_clamp (by omega)] at kk
        exact W.callR (W.runV (As := [.int (nI q)]) (rest := r.map (mj_v z g)) (b := g k) (C := "java/lang/String") (n := 1) (bytes := prog_16_method_56_code) (maxL := 2) (ret := some .char) ⟨hx, hb, hml, hown, hts⟩ (mT_cha l z g gv hk1 hq1) ⟨callB_of 1 hts (mj_tg2 (mj_tw 487 (by decide +kernel) rfl) rfl) rfl rfl rfl (hts (.initialized "java/lang/String") (mj_tw 90 (by decide +kernel) rfl)) (hts (.methodLink "PipelineText$Words" 56 yT_cha) (mj_tw 484 (by decide +kernel) rfl)) (by decide +kernel) ⟨by show 3 + 1 ≤ R.frames; omega, by show 8 + (2 + 11) + 64 ≤ R.locals; omega⟩, hts (.instanceMethod yT_cha) (mj_tw 485 (by decide +kernel) rfl), hts (.selects "java/lang/String" yT_cha yT_cha) (mj_tw 486 (by decide +kernel) rfl)⟩ ⟨mj_SV_blind, vk_recv hV.1 hk1 hS, pre _⟩ rfl rfl hA rfl (lv_room (by rw [mj_cat_map]; exact hk2)) hdc ⟨by show cells + 0 ≤ R.cells; omega, by show slots + 0 ≤ R.slots; omega⟩) kk
      · cases hq
    · cases hq
