-- ===== where a method of the small machine stands =====
def mj_SV (z : Nat) (g gv : Nat → Nat) (U : State) : Prop := vk_S mj_nS mj_sln mj_sby g gv (fun q => z ≤ q) U U.heap ∧ va_Z "java/lang/String" "COMPACT_STRINGS" "Z" (.int 1) (fun q => z ≤ q) U U.heap ∧ va_Zq "jdk/internal/util/Preconditions" "SIOOBE_FORMATTER" "Ljava/util/function/BiFunction;" (fun q => z ≤ q) U U.heap
def mj_SS (z : Nat) (g : Nat → Nat) (U : State) : Prop := (∀ q ∈ mj_SR, vk_R q.1 q.2.1 (mj_txt q.2.2) (g q.2.2) U) ∧ ∃ gv, mj_SV z g gv U
def mj_US (z : Nat) (g : Nat → Nat) (D : va_G) (dA : Nat → ClassId) (U : State) : Prop := mj_U D dA U ∧ mj_SS z g U ∧ z ≤ U.heap.size
def mj_At (z : Nat) (g : Nat → Nat) (D : va_G) (dA : Nat → ClassId) (j : Nat) (p : Program) (s : State) (m : MethodId) (args : Array Value) (meth : Method) (c : Code) : Prop :=
  p.tables.exec = Jvm.exec ∧ c.code = mj_b j ∧ meth.sig.returnType = mj_ret j ∧ c.maxLocals = mj_ml j ∧ s.vm.findClass (mj_y j).cls = some m.cls ∧ (∀ w ∈ mj_T, w.before args s = true) ∧ meth.locks = false ∧ mj_US z g D dA s ∧ meth.name = (mj_y j).name
def mj_ini (j : Nat) : Bool := decide ((mj_y j).name = "<init>")
def mj_ks (K : mj_K) : Nat := (K.map (fun q => q.2)).sum
theorem mj_ks_app (K E : mj_K) : mj_ks (K ++ E) = mj_ks K + mj_ks E := by simp [mj_ks]
/-- the texts' own members: to be walked apart -/
def mj_JOK (l : Launch) : Prop := ∀ (p : Program) (e : Env) (R : Room) (s : State) (m : MethodId) (args : Array Value) (below : List Frame) (meth : Method) (c : Code) (H : Heap) (locs : List Loc) (cells slots : Nat) (Q : State → Prop) (z : Nat) (g : Nat → Nat) (D : va_G) (dA : Nat → ClassId) (j i a d pc : Nat) (A : Array Slot) (st st' : List Value),
  mj_At z g D dA j p s m args meth c → A.size = mj_ml j → va_S (fun q => z ≤ q) s.heap H locs → d ≤ R.frames → d * mj_LW ≤ R.locals → cells ≤ R.cells → slots ≤ R.slots → decode (mj_b j) pc = .ok (.invokevirtual i, 3) → (a = 1000 ∧ ((mj_y j).cls, i) ∈ mj_SL ∨ a = 1001 ∧ ((mj_y j).cls, i) ∈ mj_SC) → mj_intr a d st = some st' →
  W p l e R s m args below meth c H locs cells slots Q (F0 m (pc + 3) A (st'.map (mj_v z g))) → W p l e R s m args below meth c H locs cells slots Q (F0 m pc A (st.map (mj_v z g)))
theorem mj_cat_map (z : Nat) (g : Nat → Nat) (st : List Value) : ((st.map (mj_v z g)).map fun v => v.category).sum = (st.map fun v => v.category).sum := by
  rw [List.map_map]
  congr 1
  apply List.map_congr_left
  intro v _
  exact mj_v_cat z g v
theorem mj_sto_len (t : Nat) (ls : mj_L) (i : Nat) (v : Value) : (mj_sto t ls i v).length = ls.length := by
  unfold mj_sto
  split <;> simp [mj_st1, mj_st2, mj_cl1_len]
theorem mj_simple_len {I : Instr} {n pc pc' : Nat} {ls ls' : mj_L} {st st' : List Value} (hp : mj_simple I n pc ls st = some (pc', ls', st')) : ls'.length = ls.length := by
  unfold mj_simple at hp
  repeat' split at hp
  all_goals first | (cases hp; done) | (cases hp; rfl) | (cases hp; exact mj_sto_len _ _ _ _)
/-- what is said of an instruction: its step of the small machine is the machine's -/
def mj_PO (l : Launch) (I : Instr) : Prop := ∀ (p : Program) (e : Env) (R : Room) (s : State) (m : MethodId) (args : Array Value) (below : List Frame) (meth : Method) (c : Code) (H : Heap) (locs : List Loc) (cells slots : Nat) (Q : State → Prop) (pc : Nat) (A : Array Slot) (z : Nat) (g : Nat → Nat) (D : va_G) (dA : Nat → ClassId) (K : mj_K) (h : mj_H) (st : List Value) (j d n a b c0 pc' : Nat) (ls ls' : mj_L) (st' : List Value) (K' : mj_K) (h' : mj_H),
  mj_At z g D dA j p s m args meth c → decode (mj_b j) pc = .ok (I, n) → mj_sok (mj_y j).cls (mj_hst j) (mj_ini j) (I, n, a, b, c0) = true → mj_plain (I, n, a, b, c0) d pc ls st K h = some (pc', ls', st', K', h') → mj_ls z g ls A → ls.length = mj_ml j → mj_R z g D dA K h H → va_S (fun q => z ≤ q) s.heap H locs → cells + (K'.length - K.length) ≤ R.cells → slots + (mj_ks K' - mj_ks K) ≤ R.slots → d ≤ R.frames → d * mj_LW ≤ R.locals →
  (∀ (A' : Array Slot) (H' : Heap) (locs' : List Loc), mj_ls z g ls' A' → mj_R z g D dA K' h' H' → va_S (fun q => z ≤ q) s.heap H' locs' → W p l e R s m args below meth c H' locs' (cells + (K'.length - K.length)) (slots + (mj_ks K' - mj_ks K)) Q (F0 m pc' A' (st'.map (mj_v z g)))) →
  W p l e R s m args below meth c H locs cells slots Q (F0 m pc A (st.map (mj_v z g)))
set_option maxHeartbeats 1000000 in
theorem mj_po_getfield {l : Launch} (i : Nat) : mj_PO l (.getfield i) := by
  intro p e R s m args below meth c H locs cells slots Q pc A z g D dA K h st j d n a b c0 pc' ls ls' st' K' h' C hdc hso hp hl hlen hR hS hc hs hfr hlo kk
  obtain ⟨hx, hb, hr, hml, hown, hts, hlocks, ⟨hU, hSS, hzs⟩, hnm⟩ := id C
  have hAs : A.size = mj_ml j := by rw [hl.1]; exact hlen
  have hmem : ∀ k w, mj_inx k w = true → mj_goodB w = true → w.before args s = true := fun _ w h1 h2 => hts w (mj_ins_T h1 h2)
  have same : K' = K → ∀ (A' : Array Slot) (H' : Heap) (locs' : List Loc), mj_ls z g ls' A' → mj_R z g D dA K' h' H' → va_S (fun q => z ≤ q) s.heap H' locs' → W p l e R s m args below meth c H' locs' cells slots Q (F0 m pc' A' (st'.map (mj_v z g))) := by
    intro hK A' H' locs' h1 h2 h3
    subst hK
    exact W.cs (by omega) (by omega) (kk A' H' locs' h1 h2 h3)
  dsimp only [mj_plain] at hp
  split at hp
  · split at hp
    · rename_i q r hk
      cases hp
      dsimp only [mj_sok] at hso
      simp only [Bool.and_eq_true, Bool.or_eq_true, decide_eq_true_eq] at hso
      obtain ⟨⟨⟨h1, h2⟩, h3⟩, h4⟩ := hso
      have hk1 : a < 100 := Nat.lt_of_lt_of_le h1 mj_nC_ok
      have ha := mj_kd_at hk (by omega)
      have hn : mj_ln K q = (mj_cr a).2.2 := by
        rcases hR.2 q a _ ha with ⟨-, r', g2, g3, -⟩ | ⟨g1, -⟩
        · cases (mj_cr_at h1).symm.trans g2
          exact g3.symm
        · omega
      subst h3
      refine mj_get_ok hx hb hts hown hU hR ha hk1 (by rw [hn]; exact h2) (mj_cr_at h1) ?_ hdc (same rfl A H locs hl hR hS)
      rcases h4 with h4 | h4
      · exact Or.inl (mj_ins_T h4 rfl)
      · exact Or.inr ⟨_, mj_ins_N h4 rfl⟩
    · cases hp
  · cases hp
set_option maxHeartbeats 1000000 in
theorem mj_po_putfield {l : Launch} (i : Nat) : mj_PO l (.putfield i) := by
  intro p e R s m args below meth c H locs cells slots Q pc A z g D dA K h st j d n a b c0 pc' ls ls' st' K' h' C hdc hso hp hl hlen hR hS hc hs hfr hlo kk
  obtain ⟨hx, hb, hr, hml, hown, hts, hlocks, ⟨hU, hSS, hzs⟩, hnm⟩ := id C
  have hAs : A.size = mj_ml j := by rw [hl.1]; exact hlen
  have hmem : ∀ k w, mj_inx k w = true → mj_goodB w = true → w.before args s = true := fun _ w h1 h2 => hts w (mj_ins_T h1 h2)
  have same : K' = K → ∀ (A' : Array Slot) (H' : Heap) (locs' : List Loc), mj_ls z g ls' A' → mj_R z g D dA K' h' H' → va_S (fun q => z ≤ q) s.heap H' locs' → W p l e R s m args below meth c H' locs' cells slots Q (F0 m pc' A' (st'.map (mj_v z g))) := by
    intro hK A' H' locs' h1 h2 h3
    subst hK
    exact W.cs (by omega) (by omega) (kk A' H' locs' h1 h2 h3)
  dsimp only [mj_plain] at hp
  split at hp
  · split at hp
    · rename_i v q r hk
      cases hp
      dsimp only [mj_sok] at hso
      simp only [Bool.and_eq_true, Bool.or_eq_true, decide_eq_true_eq, Bool.not_eq_true'] at hso
      obtain ⟨⟨⟨h1, h2⟩, h3⟩, h4⟩ := hso
      have hk1 : a < 100 := Nat.lt_of_lt_of_le h1 mj_nC_ok
      have ha := mj_kd_at hk.1 (by omega)
      have hn : mj_ln K q = (mj_cr a).2.2 := by
        rcases hR.2 q a _ ha with ⟨-, r', g2, g3, -⟩ | ⟨g1, -⟩
        · cases (mj_cr_at h1).symm.trans g2
          exact g3.symm
        · omega
      subst h3
      refine mj_put_ok hx hb hts hown hU hR hS ha hk1 (by rw [hn]; exact h2) (mj_cr_at h1) ?_ hk.2 hdc (fun H' locs' g1 g2 => same rfl A H' locs' hl g1 g2)
      rcases h4 with ⟨h4, h5⟩ | ⟨h5, h4⟩
      · refine Or.inl ⟨mj_ins_T h4 rfl, ?_⟩
        rcases h5 with h5 | ⟨h5, h6⟩
        · exact Or.inl h5
        · cases hf : ((mj_cr a).2.1 b).2.2.2 with
          | false => exact Or.inl rfl
          | true => exact Or.inr ⟨rfl, by rw [hnm]; simpa [mj_ini] using h5, h6⟩
      · exact Or.inr ⟨h5, _, mj_ins_N h4 rfl⟩
    · cases hp
  · cases hp
set_option maxHeartbeats 1000000 in
theorem mj_po_iaload {l : Launch} : mj_PO l (.iaload) := by
  intro p e R s m args below meth c H locs cells slots Q pc A z g D dA K h st j d n a b c0 pc' ls ls' st' K' h' C hdc hso hp hl hlen hR hS hc hs hfr hlo kk
  obtain ⟨hx, hb, hr, hml, hown, hts, hlocks, ⟨hU, hSS, hzs⟩, hnm⟩ := id C
  have hAs : A.size = mj_ml j := by rw [hl.1]; exact hlen
  have hmem : ∀ k w, mj_inx k w = true → mj_goodB w = true → w.before args s = true := fun _ w h1 h2 => hts w (mj_ins_T h1 h2)
  have same : K' = K → ∀ (A' : Array Slot) (H' : Heap) (locs' : List Loc), mj_ls z g ls' A' → mj_R z g D dA K' h' H' → va_S (fun q => z ≤ q) s.heap H' locs' → W p l e R s m args below meth c H' locs' cells slots Q (F0 m pc' A' (st'.map (mj_v z g))) := by
    intro hK A' H' locs' h1 h2 h3
    subst hK
    exact W.cs (by omega) (by omega) (kk A' H' locs' h1 h2 h3)
  dsimp only [mj_plain] at hp
  split at hp
  · split at hp
    · rename_i q r hk
      cases hp
      dsimp only [mj_sok] at hso
      simp only [Bool.and_eq_true, decide_eq_true_eq] at hso
      obtain ⟨⟨rfl, h1⟩, h2⟩ := hso
      exact mj_ald_ok hx hb hU hR (mj_kd_at hk.1 (mj_100ne h1)) (by omega) (by rw [Nat.add_sub_cancel_left]; exact h2) hk.2 hdc (same rfl A H locs hl hR hS)
    · cases hp
  · cases hp
set_option maxHeartbeats 1000000 in
theorem mj_po_laload {l : Launch} : mj_PO l (.laload) := by
  intro p e R s m args below meth c H locs cells slots Q pc A z g D dA K h st j d n a b c0 pc' ls ls' st' K' h' C hdc hso hp hl hlen hR hS hc hs hfr hlo kk
  obtain ⟨hx, hb, hr, hml, hown, hts, hlocks, ⟨hU, hSS, hzs⟩, hnm⟩ := id C
  have hAs : A.size = mj_ml j := by rw [hl.1]; exact hlen
  have hmem : ∀ k w, mj_inx k w = true → mj_goodB w = true → w.before args s = true := fun _ w h1 h2 => hts w (mj_ins_T h1 h2)
  have same : K' = K → ∀ (A' : Array Slot) (H' : Heap) (locs' : List Loc), mj_ls z g ls' A' → mj_R z g D dA K' h' H' → va_S (fun q => z ≤ q) s.heap H' locs' → W p l e R s m args below meth c H' locs' cells slots Q (F0 m pc' A' (st'.map (mj_v z g))) := by
    intro hK A' H' locs' h1 h2 h3
    subst hK
    exact W.cs (by omega) (by omega) (kk A' H' locs' h1 h2 h3)
  dsimp only [mj_plain] at hp
  split at hp
  · split at hp
    · rename_i q r hk
      cases hp
      dsimp only [mj_sok] at hso
      simp only [Bool.and_eq_true, decide_eq_true_eq] at hso
      obtain ⟨⟨rfl, h1⟩, h2⟩ := hso
      exact mj_ald_ok hx hb hU hR (mj_kd_at hk.1 (mj_100ne h1)) (by omega) (by rw [Nat.add_sub_cancel_left]; exact h2) hk.2 hdc (same rfl A H locs hl hR hS)
    · cases hp
  · cases hp
set_option maxHeartbeats 1000000 in
theorem mj_po_caload {l : Launch} : mj_PO l (.caload) := by
  intro p e R s m args below meth c H locs cells slots Q pc A z g D dA K h st j d n a b c0 pc' ls ls' st' K' h' C hdc hso hp hl hlen hR hS hc hs hfr hlo kk
  obtain ⟨hx, hb, hr, hml, hown, hts, hlocks, ⟨hU, hSS, hzs⟩, hnm⟩ := id C
  have hAs : A.size = mj_ml j := by rw [hl.1]; exact hlen
  have hmem : ∀ k w, mj_inx k w = true → mj_goodB w = true → w.before args s = true := fun _ w h1 h2 => hts w (mj_ins_T h1 h2)
  have same : K' = K → ∀ (A' : Array Slot) (H' : Heap) (locs' : List Loc), mj_ls z g ls' A' → mj_R z g D dA K' h' H' → va_S (fun q => z ≤ q) s.heap H' locs' → W p l e R s m args below meth c H' locs' cells slots Q (F0 m pc' A' (st'.map (mj_v z g))) := by
    intro hK A' H' locs' h1 h2 h3
    subst hK
    exact W.cs (by omega) (by omega) (kk A' H' locs' h1 h2 h3)
  dsimp only [mj_plain] at hp
  split at hp
  · split at hp
    · rename_i q r hk
      cases hp
      dsimp only [mj_sok] at hso
      simp only [Bool.and_eq_true, decide_eq_true_eq] at hso
      obtain ⟨⟨rfl, h1⟩, h2⟩ := hso
      exact mj_ald_ok hx hb hU hR (mj_kd_at hk.1 (mj_100ne h1)) (by omega) (by rw [Nat.add_sub_cancel_left]; exact h2) hk.2 hdc (same rfl A H locs hl hR hS)
    · cases hp
  · cases hp
set_option maxHeartbeats 1000000 in
theorem mj_po_baload {l : Launch} : mj_PO l (.baload) := by
  intro p e R s m args below meth c H locs cells slots Q pc A z g D dA K h st j d n a b c0 pc' ls ls' st' K' h' C hdc hso hp hl hlen hR hS hc hs hfr hlo kk
  obtain ⟨hx, hb, hr, hml, hown, hts, hlocks, ⟨hU, hSS, hzs⟩, hnm⟩ := id C
  have hAs : A.size = mj_ml j := by rw [hl.1]; exact hlen
  have hmem : ∀ k w, mj_inx k w = true → mj_goodB w = true → w.before args s = true := fun _ w h1 h2 => hts w (mj_ins_T h1 h2)
  have same : K' = K → ∀ (A' : Array Slot) (H' : Heap) (locs' : List Loc), mj_ls z g ls' A' → mj_R z g D dA K' h' H' → va_S (fun q => z ≤ q) s.heap H' locs' → W p l e R s m args below meth c H' locs' cells slots Q (F0 m pc' A' (st'.map (mj_v z g))) := by
    intro hK A' H' locs' h1 h2 h3
    subst hK
    exact W.cs (by omega) (by omega) (kk A' H' locs' h1 h2 h3)
  dsimp only [mj_plain] at hp
  split at hp
  · split at hp
    · rename_i q r hk
      cases hp
      dsimp only [mj_sok] at hso
      simp only [Bool.and_eq_true, decide_eq_true_eq] at hso
      obtain ⟨⟨rfl, h1⟩, h2⟩ := hso
      exact mj_ald_ok hx hb hU hR (mj_kd_at hk.1 (mj_100ne h1)) (by omega) (by rw [Nat.add_sub_cancel_left]; exact h2) hk.2 hdc (same rfl A H locs hl hR hS)
    · cases hp
  · cases hp
set_option maxHeartbeats 1000000 in
theorem mj_po_aaload {l : Launch} : mj_PO l (.aaload) := by
  intro p e R s m args below meth c H locs cells slots Q pc A z g D dA K h st j d n a b c0 pc' ls ls' st' K' h' C hdc hso hp hl hlen hR hS hc hs hfr hlo kk
  obtain ⟨hx, hb, hr, hml, hown, hts, hlocks, ⟨hU, hSS, hzs⟩, hnm⟩ := id C
  have hAs : A.size = mj_ml j := by rw [hl.1]; exact hlen
  have hmem : ∀ k w, mj_inx k w = true → mj_goodB w = true → w.before args s = true := fun _ w h1 h2 => hts w (mj_ins_T h1 h2)
  have same : K' = K → ∀ (A' : Array Slot) (H' : Heap) (locs' : List Loc), mj_ls z g ls' A' → mj_R z g D dA K' h' H' → va_S (fun q => z ≤ q) s.heap H' locs' → W p l e R s m args below meth c H' locs' cells slots Q (F0 m pc' A' (st'.map (mj_v z g))) := by
    intro hK A' H' locs' h1 h2 h3
    subst hK
    exact W.cs (by omega) (by omega) (kk A' H' locs' h1 h2 h3)
  dsimp only [mj_plain] at hp
  split at hp
  · split at hp
    · rename_i q r hk
      cases hp
      dsimp only [mj_sok] at hso
      simp only [Bool.and_eq_true, decide_eq_true_eq] at hso
      obtain ⟨⟨rfl, h1⟩, h2⟩ := hso
      exact mj_ald_ok hx hb hU hR (mj_kd_at hk.1 (mj_100ne h1)) (by omega) (by rw [Nat.add_sub_cancel_left]; exact h2) hk.2 hdc (same rfl A H locs hl hR hS)
    · cases hp
  · cases hp
set_option maxHeartbeats 1000000 in
theorem mj_po_iastore {l : Launch} : mj_PO l (.iastore) := by
  intro p e R s m args below meth c H locs cells slots Q pc A z g D dA K h st j d n a b c0 pc' ls ls' st' K' h' C hdc hso hp hl hlen hR hS hc hs hfr hlo kk
  obtain ⟨hx, hb, hr, hml, hown, hts, hlocks, ⟨hU, hSS, hzs⟩, hnm⟩ := id C
  have hAs : A.size = mj_ml j := by rw [hl.1]; exact hlen
  have hmem : ∀ k w, mj_inx k w = true → mj_goodB w = true → w.before args s = true := fun _ w h1 h2 => hts w (mj_ins_T h1 h2)
  have same : K' = K → ∀ (A' : Array Slot) (H' : Heap) (locs' : List Loc), mj_ls z g ls' A' → mj_R z g D dA K' h' H' → va_S (fun q => z ≤ q) s.heap H' locs' → W p l e R s m args below meth c H' locs' cells slots Q (F0 m pc' A' (st'.map (mj_v z g))) := by
    intro hK A' H' locs' h1 h2 h3
    subst hK
    exact W.cs (by omega) (by omega) (kk A' H' locs' h1 h2 h3)
  dsimp only [mj_plain] at hp
  split at hp
  · split at hp
    · rename_i v q r hk
      cases hp
      dsimp only [mj_sok] at hso
      simp only [Bool.and_eq_true, decide_eq_true_eq] at hso
      obtain ⟨⟨rfl, h1⟩, h2⟩ := hso
      exact mj_ast_ok hx hb hU hR hS (mj_kd_at hk.1 (mj_100ne h1)) (by omega) (by rw [Nat.add_sub_cancel_left, h2]; rfl) hk.2 hdc (fun H' locs' g1 g2 => same rfl A H' locs' hl g1 g2)
    · cases hp
  · cases hp
set_option maxHeartbeats 1000000 in
theorem mj_po_lastore {l : Launch} : mj_PO l (.lastore) := by
  intro p e R s m args below meth c H locs cells slots Q pc A z g D dA K h st j d n a b c0 pc' ls ls' st' K' h' C hdc hso hp hl hlen hR hS hc hs hfr hlo kk
  obtain ⟨hx, hb, hr, hml, hown, hts, hlocks, ⟨hU, hSS, hzs⟩, hnm⟩ := id C
  have hAs : A.size = mj_ml j := by rw [hl.1]; exact hlen
  have hmem : ∀ k w, mj_inx k w = true → mj_goodB w = true → w.before args s = true := fun _ w h1 h2 => hts w (mj_ins_T h1 h2)
  have same : K' = K → ∀ (A' : Array Slot) (H' : Heap) (locs' : List Loc), mj_ls z g ls' A' → mj_R z g D dA K' h' H' → va_S (fun q => z ≤ q) s.heap H' locs' → W p l e R s m args below meth c H' locs' cells slots Q (F0 m pc' A' (st'.map (mj_v z g))) := by
    intro hK A' H' locs' h1 h2 h3
    subst hK
    exact W.cs (by omega) (by omega) (kk A' H' locs' h1 h2 h3)
  dsimp only [mj_plain] at hp
  split at hp
  · split at hp
    · rename_i v q r hk
      cases hp
      dsimp only [mj_sok] at hso
      simp only [Bool.and_eq_true, decide_eq_true_eq] at hso
      obtain ⟨⟨rfl, h1⟩, h2⟩ := hso
      exact mj_ast_ok hx hb hU hR hS (mj_kd_at hk.1 (mj_100ne h1)) (by omega) (by rw [Nat.add_sub_cancel_left, h2]; rfl) hk.2 hdc (fun H' locs' g1 g2 => same rfl A H' locs' hl g1 g2)
    · cases hp
  · cases hp
set_option maxHeartbeats 1000000 in
theorem mj_po_castore {l : Launch} : mj_PO l (.castore) := by
  intro p e R s m args below meth c H locs cells slots Q pc A z g D dA K h st j d n a b c0 pc' ls ls' st' K' h' C hdc hso hp hl hlen hR hS hc hs hfr hlo kk
  obtain ⟨hx, hb, hr, hml, hown, hts, hlocks, ⟨hU, hSS, hzs⟩, hnm⟩ := id C
  have hAs : A.size = mj_ml j := by rw [hl.1]; exact hlen
  have hmem : ∀ k w, mj_inx k w = true → mj_goodB w = true → w.before args s = true := fun _ w h1 h2 => hts w (mj_ins_T h1 h2)
  have same : K' = K → ∀ (A' : Array Slot) (H' : Heap) (locs' : List Loc), mj_ls z g ls' A' → mj_R z g D dA K' h' H' → va_S (fun q => z ≤ q) s.heap H' locs' → W p l e R s m args below meth c H' locs' cells slots Q (F0 m pc' A' (st'.map (mj_v z g))) := by
    intro hK A' H' locs' h1 h2 h3
    subst hK
    exact W.cs (by omega) (by omega) (kk A' H' locs' h1 h2 h3)
  dsimp only [mj_plain] at hp
  split at hp
  · split at hp
    · rename_i v q r hk
      cases hp
      dsimp only [mj_sok] at hso
      simp only [Bool.and_eq_true, decide_eq_true_eq] at hso
      obtain ⟨⟨rfl, h1⟩, h2⟩ := hso
      exact mj_ast_ok hx hb hU hR hS (mj_kd_at hk.1 (mj_100ne h1)) (by omega) (by rw [Nat.add_sub_cancel_left, h2]; rfl) hk.2 hdc (fun H' locs' g1 g2 => same rfl A H' locs' hl g1 g2)
    · cases hp
  · cases hp
set_option maxHeartbeats 1000000 in
theorem mj_po_bastore {l : Launch} : mj_PO l (.bastore) := by
  intro p e R s m args below meth c H locs cells slots Q pc A z g D dA K h st j d n a b c0 pc' ls ls' st' K' h' C hdc hso hp hl hlen hR hS hc hs hfr hlo kk
  obtain ⟨hx, hb, hr, hml, hown, hts, hlocks, ⟨hU, hSS, hzs⟩, hnm⟩ := id C
  have hAs : A.size = mj_ml j := by rw [hl.1]; exact hlen
  have hmem : ∀ k w, mj_inx k w = true → mj_goodB w = true → w.before args s = true := fun _ w h1 h2 => hts w (mj_ins_T h1 h2)
  have same : K' = K → ∀ (A' : Array Slot) (H' : Heap) (locs' : List Loc), mj_ls z g ls' A' → mj_R z g D dA K' h' H' → va_S (fun q => z ≤ q) s.heap H' locs' → W p l e R s m args below meth c H' locs' cells slots Q (F0 m pc' A' (st'.map (mj_v z g))) := by
    intro hK A' H' locs' h1 h2 h3
    subst hK
    exact W.cs (by omega) (by omega) (kk A' H' locs' h1 h2 h3)
  dsimp only [mj_plain] at hp
  split at hp
  · split at hp
    · rename_i v q r hk
      cases hp
      dsimp only [mj_sok] at hso
      simp only [Bool.and_eq_true, Bool.or_eq_true, decide_eq_true_eq] at hso
      obtain ⟨⟨rfl, h1⟩, h2⟩ := hso
      refine mj_ast_ok hx hb hU hR hS (mj_kd_at hk.1 (mj_100ne h1)) (by omega) ?_ hk.2 hdc (fun H' locs' g1 g2 => same rfl A H' locs' hl g1 g2)
      rw [Nat.add_sub_cancel_left]
      rcases h2 with h2 | h2 <;> rw [h2] <;> rfl
    · cases hp
  · cases hp
set_option maxHeartbeats 1000000 in
theorem mj_po_aastore {l : Launch} : mj_PO l (.aastore) := by
  intro p e R s m args below meth c H locs cells slots Q pc A z g D dA K h st j d n a b c0 pc' ls ls' st' K' h' C hdc hso hp hl hlen hR hS hc hs hfr hlo kk
  obtain ⟨hx, hb, hr, hml, hown, hts, hlocks, ⟨hU, hSS, hzs⟩, hnm⟩ := id C
  have hAs : A.size = mj_ml j := by rw [hl.1]; exact hlen
  have hmem : ∀ k w, mj_inx k w = true → mj_goodB w = true → w.before args s = true := fun _ w h1 h2 => hts w (mj_ins_T h1 h2)
  have same : K' = K → ∀ (A' : Array Slot) (H' : Heap) (locs' : List Loc), mj_ls z g ls' A' → mj_R z g D dA K' h' H' → va_S (fun q => z ≤ q) s.heap H' locs' → W p l e R s m args below meth c H' locs' cells slots Q (F0 m pc' A' (st'.map (mj_v z g))) := by
    intro hK A' H' locs' h1 h2 h3
    subst hK
    exact W.cs (by omega) (by omega) (kk A' H' locs' h1 h2 h3)
  dsimp only [mj_plain] at hp
  split at hp
  · split at hp
    · rename_i v q r hk
      cases hp
      dsimp only [mj_sok] at hso
      simp only [Bool.and_eq_true, decide_eq_true_eq] at hso
      obtain ⟨⟨⟨rfl, h1⟩, h2⟩, h3⟩ := hso
      have hk1 : b < 100 := Nat.lt_of_lt_of_le h2 mj_nC_ok
      exact mj_aast_ok hx hb hU hR hS (mj_kd_at hk.1 (mj_100ne h1)) (by omega) (mj_kd_at hk.2.1 (by omega)) hk1 (mj_cr_at h2) (by rw [Nat.add_sub_cancel_left]; exact h3) hk.2.2 hdc (fun H' locs' g1 g2 => same rfl A H' locs' hl g1 g2)
    · cases hp
  · cases hp
set_option maxHeartbeats 1000000 in
theorem mj_po_arraylength {l : Launch} : mj_PO l (.arraylength) := by
  intro p e R s m args below meth c H locs cells slots Q pc A z g D dA K h st j d n a b c0 pc' ls ls' st' K' h' C hdc hso hp hl hlen hR hS hc hs hfr hlo kk
  obtain ⟨hx, hb, hr, hml, hown, hts, hlocks, ⟨hU, hSS, hzs⟩, hnm⟩ := id C
  have hAs : A.size = mj_ml j := by rw [hl.1]; exact hlen
  have hmem : ∀ k w, mj_inx k w = true → mj_goodB w = true → w.before args s = true := fun _ w h1 h2 => hts w (mj_ins_T h1 h2)
  have same : K' = K → ∀ (A' : Array Slot) (H' : Heap) (locs' : List Loc), mj_ls z g ls' A' → mj_R z g D dA K' h' H' → va_S (fun q => z ≤ q) s.heap H' locs' → W p l e R s m args below meth c H' locs' cells slots Q (F0 m pc' A' (st'.map (mj_v z g))) := by
    intro hK A' H' locs' h1 h2 h3
    subst hK
    exact W.cs (by omega) (by omega) (kk A' H' locs' h1 h2 h3)
  dsimp only [mj_plain] at hp
  split at hp
  · split at hp
    · rename_i q r hk
      cases hp
      dsimp only [mj_sok] at hso
      simp only [decide_eq_true_eq] at hso
      subst hso
      exact mj_alen_ok hx hb hU hR (mj_kd_at rfl (by omega)) hk.1 hdc (same rfl A H locs hl hR hS)
    · cases hp
  · cases hp
set_option maxHeartbeats 1000000 in
theorem mj_po_new {l : Launch} (i : Nat) : mj_PO l (.new i) := by
  intro p e R s m args below meth c H locs cells slots Q pc A z g D dA K h st j d n a b c0 pc' ls ls' st' K' h' C hdc hso hp hl hlen hR hS hc hs hfr hlo kk
  obtain ⟨hx, hb, hr, hml, hown, hts, hlocks, ⟨hU, hSS, hzs⟩, hnm⟩ := id C
  have hAs : A.size = mj_ml j := by rw [hl.1]; exact hlen
  have hmem : ∀ k w, mj_inx k w = true → mj_goodB w = true → w.before args s = true := fun _ w h1 h2 => hts w (mj_ins_T h1 h2)
  have same : K' = K → ∀ (A' : Array Slot) (H' : Heap) (locs' : List Loc), mj_ls z g ls' A' → mj_R z g D dA K' h' H' → va_S (fun q => z ≤ q) s.heap H' locs' → W p l e R s m args below meth c H' locs' cells slots Q (F0 m pc' A' (st'.map (mj_v z g))) := by
    intro hK A' H' locs' h1 h2 h3
    subst hK
    exact W.cs (by omega) (by omega) (kk A' H' locs' h1 h2 h3)
  dsimp only [mj_plain] at hp
  cases hp
  dsimp only [mj_sok] at hso
  simp only [Bool.and_eq_true, decide_eq_true_eq] at hso
  obtain ⟨⟨⟨⟨rfl, h1⟩, h2⟩, h3⟩, h4⟩ := hso
  have hk1 : a < 100 := Nat.lt_of_lt_of_le h1 mj_nC_ok
  have hcn : mj_cn a = (mj_cr a).2.2 := by unfold mj_cn; rw [mj_cr_at h1]; rfl
  have e1 : (K ++ [(a, mj_cn a)]).length - K.length = 1 := by simp
  have e2 : mj_ks (K ++ [(a, mj_cn a)]) - mj_ks K = (mj_cr a).2.2 := by rw [mj_ks_app, hcn]; simp [mj_ks]
  rw [e1] at hc
  rw [e2] at hs
  refine mj_new_ok hx hb hts hown hU hR hS (mj_cr_at h1) hk1 (mj_ins_T h2 rfl) (mj_ins_T h3 rfl) (mj_ins_T h4 rfl) hc hs hdc (fun H' g1 g2 => ?_)
  exact W.cs (by rw [e1]) (by rw [e2]) (kk A H' locs hl (by rw [hcn]; exact g1) g2)
set_option maxHeartbeats 1000000 in
theorem mj_po_newarray {l : Launch} (ty : ArrayType) : mj_PO l (.newarray ty) := by
  intro p e R s m args below meth c H locs cells slots Q pc A z g D dA K h st j d n a b c0 pc' ls ls' st' K' h' C hdc hso hp hl hlen hR hS hc hs hfr hlo kk
  obtain ⟨hx, hb, hr, hml, hown, hts, hlocks, ⟨hU, hSS, hzs⟩, hnm⟩ := id C
  have hAs : A.size = mj_ml j := by rw [hl.1]; exact hlen
  have hmem : ∀ k w, mj_inx k w = true → mj_goodB w = true → w.before args s = true := fun _ w h1 h2 => hts w (mj_ins_T h1 h2)
  have same : K' = K → ∀ (A' : Array Slot) (H' : Heap) (locs' : List Loc), mj_ls z g ls' A' → mj_R z g D dA K' h' H' → va_S (fun q => z ≤ q) s.heap H' locs' → W p l e R s m args below meth c H' locs' cells slots Q (F0 m pc' A' (st'.map (mj_v z g))) := by
    intro hK A' H' locs' h1 h2 h3
    subst hK
    exact W.cs (by omega) (by omega) (kk A' H' locs' h1 h2 h3)
  dsimp only [mj_plain] at hp
  split at hp
  · split at hp
    · rename_i n0 r hk
      cases hp
      dsimp only [mj_sok] at hso
      simp only [Bool.and_eq_true, decide_eq_true_eq] at hso
      obtain ⟨⟨⟨⟨⟨rfl, h1⟩, h2⟩, h3⟩, h4⟩, h5⟩ := hso
      have hin : ¬ (n0 < 0 ∨ 65536 ≤ n0.toNatClampNeg) := by simpa [mj_in] using hk
      have e1 : (K ++ [(100 + a, n0.toNatClampNeg)]).length - K.length = 1 := by simp
      have e2 : mj_ks (K ++ [(100 + a, n0.toNatClampNeg)]) - mj_ks K = n0.toNatClampNeg := by rw [mj_ks_app]; simp [mj_ks]
      rw [e1] at hc
      rw [e2] at hs
      refine mj_newa_ok hx hb hts hU hR hS h1 h2 ⟨h3, h4⟩ (mj_ins_T h5 rfl) (fun q => hin (Or.inl q)) (by omega) hc hs hdc (fun H' g1 g2 => ?_)
      exact W.cs (by rw [e1]) (by rw [e2]) (kk A H' locs hl g1 g2)
    · cases hp
  · cases hp
set_option maxHeartbeats 1000000 in
theorem mj_po_anewarray {l : Launch} (i : Nat) : mj_PO l (.anewarray i) := by
  intro p e R s m args below meth c H locs cells slots Q pc A z g D dA K h st j d n a b c0 pc' ls ls' st' K' h' C hdc hso hp hl hlen hR hS hc hs hfr hlo kk
  obtain ⟨hx, hb, hr, hml, hown, hts, hlocks, ⟨hU, hSS, hzs⟩, hnm⟩ := id C
  have hAs : A.size = mj_ml j := by rw [hl.1]; exact hlen
  have hmem : ∀ k w, mj_inx k w = true → mj_goodB w = true → w.before args s = true := fun _ w h1 h2 => hts w (mj_ins_T h1 h2)
  have same : K' = K → ∀ (A' : Array Slot) (H' : Heap) (locs' : List Loc), mj_ls z g ls' A' → mj_R z g D dA K' h' H' → va_S (fun q => z ≤ q) s.heap H' locs' → W p l e R s m args below meth c H' locs' cells slots Q (F0 m pc' A' (st'.map (mj_v z g))) := by
    intro hK A' H' locs' h1 h2 h3
    subst hK
    exact W.cs (by omega) (by omega) (kk A' H' locs' h1 h2 h3)
  dsimp only [mj_plain] at hp
  split at hp
  · split at hp
    · rename_i n0 r hk
      cases hp
      dsimp only [mj_sok] at hso
      simp only [Bool.and_eq_true, decide_eq_true_eq] at hso
      obtain ⟨⟨rfl, h1⟩, h2⟩ := hso
      split at h2
      · rename_i C hC
        simp only [Bool.and_eq_true, decide_eq_true_eq] at h2
        have hin : ¬ (n0 < 0 ∨ 65536 ≤ n0.toNatClampNeg) := by simpa [mj_in] using hk
        have e1 : (K ++ [(100 + a, n0.toNatClampNeg)]).length - K.length = 1 := by simp
        have e2 : mj_ks (K ++ [(100 + a, n0.toNatClampNeg)]) - mj_ks K = n0.toNatClampNeg := by rw [mj_ks_app]; simp [mj_ks]
        rw [e1] at hc
        rw [e2] at hs
        refine mj_anew_ok hx hb hts hown hU hR hS h1 hC (mj_ins_T h2.1 rfl) (va_AO.use (hU.2.2 C h2.2)) (fun q => hin (Or.inl q)) (by omega) hc hs hdc (fun H' g1 g2 => ?_)
        exact W.cs (by rw [e1]) (by rw [e2]) (kk A H' locs hl g1 g2)
      · cases h2
    · cases hp
  · cases hp
set_option maxHeartbeats 1000000 in
theorem mj_po_iinc {l : Launch} (i : Nat) (k : Int) : mj_PO l (.iinc i k) := by
  intro p e R s m args below meth c H locs cells slots Q pc A z g D dA K h st j d n a b c0 pc' ls ls' st' K' h' C hdc hso hp hl hlen hR hS hc hs hfr hlo kk
  obtain ⟨hx, hb, hr, hml, hown, hts, hlocks, ⟨hU, hSS, hzs⟩, hnm⟩ := id C
  have hAs : A.size = mj_ml j := by rw [hl.1]; exact hlen
  have hmem : ∀ k w, mj_inx k w = true → mj_goodB w = true → w.before args s = true := fun _ w h1 h2 => hts w (mj_ins_T h1 h2)
  have same : K' = K → ∀ (A' : Array Slot) (H' : Heap) (locs' : List Loc), mj_ls z g ls' A' → mj_R z g D dA K' h' H' → va_S (fun q => z ≤ q) s.heap H' locs' → W p l e R s m args below meth c H' locs' cells slots Q (F0 m pc' A' (st'.map (mj_v z g))) := by
    intro hK A' H' locs' h1 h2 h3
    subst hK
    exact W.cs (by omega) (by omega) (kk A' H' locs' h1 h2 h3)
  dsimp only [mj_plain] at hp
  split at hp
  · split at hp
    · rename_i v hv hn
      cases hp
      subst hn
      exact mj_iinc_ok hx hb hl hv hdc (fun A' h1 => same rfl A' H locs h1 hR hS)
    · cases hp
  · cases hp
set_option maxHeartbeats 1000000 in
theorem mj_po_bipush {l : Launch} (k : Int) : mj_PO l (.bipush k) := by
  intro p e R s m args below meth c H locs cells slots Q pc A z g D dA K h st j d n a b c0 pc' ls ls' st' K' h' C hdc hso hp hl hlen hR hS hc hs hfr hlo kk
  obtain ⟨hx, hb, hr, hml, hown, hts, hlocks, ⟨hU, hSS, hzs⟩, hnm⟩ := id C
  have hAs : A.size = mj_ml j := by rw [hl.1]; exact hlen
  have hmem : ∀ k w, mj_inx k w = true → mj_goodB w = true → w.before args s = true := fun _ w h1 h2 => hts w (mj_ins_T h1 h2)
  have same : K' = K → ∀ (A' : Array Slot) (H' : Heap) (locs' : List Loc), mj_ls z g ls' A' → mj_R z g D dA K' h' H' → va_S (fun q => z ≤ q) s.heap H' locs' → W p l e R s m args below meth c H' locs' cells slots Q (F0 m pc' A' (st'.map (mj_v z g))) := by
    intro hK A' H' locs' h1 h2 h3
    subst hK
    exact W.cs (by omega) (by omega) (kk A' H' locs' h1 h2 h3)
  dsimp only [mj_plain] at hp
  cases hp
  dsimp only [mj_sok] at hso
  simp only [decide_eq_true_eq] at hso
  subst hso
  exact lv_bipush hx hb hdc rfl (same rfl A H locs hl hR hS)
set_option maxHeartbeats 1000000 in
theorem mj_po_sipush {l : Launch} (k : Int) : mj_PO l (.sipush k) := by
  intro p e R s m args below meth c H locs cells slots Q pc A z g D dA K h st j d n a b c0 pc' ls ls' st' K' h' C hdc hso hp hl hlen hR hS hc hs hfr hlo kk
  obtain ⟨hx, hb, hr, hml, hown, hts, hlocks, ⟨hU, hSS, hzs⟩, hnm⟩ := id C
  have hAs : A.size = mj_ml j := by rw [hl.1]; exact hlen
  have hmem : ∀ k w, mj_inx k w = true → mj_goodB w = true → w.before args s = true := fun _ w h1 h2 => hts w (mj_ins_T h1 h2)
  have same : K' = K → ∀ (A' : Array Slot) (H' : Heap) (locs' : List Loc), mj_ls z g ls' A' → mj_R z g D dA K' h' H' → va_S (fun q => z ≤ q) s.heap H' locs' → W p l e R s m args below meth c H' locs' cells slots Q (F0 m pc' A' (st'.map (mj_v z g))) := by
    intro hK A' H' locs' h1 h2 h3
    subst hK
    exact W.cs (by omega) (by omega) (kk A' H' locs' h1 h2 h3)
  dsimp only [mj_plain] at hp
  cases hp
  dsimp only [mj_sok] at hso
  simp only [decide_eq_true_eq] at hso
  subst hso
  exact lv_sipush hx hb hdc rfl (same rfl A H locs hl hR hS)
set_option maxHeartbeats 1000000 in
theorem mj_po_ldc {l : Launch} (i : Nat) : mj_PO l (.ldc i) := by
  intro p e R s m args below meth c H locs cells slots Q pc A z g D dA K h st j d n a b c0 pc' ls ls' st' K' h' C hdc hso hp hl hlen hR hS hc hs hfr hlo kk
  obtain ⟨hx, hb, hr, hml, hown, hts, hlocks, ⟨hU, hSS, hzs⟩, hnm⟩ := id C
  have hAs : A.size = mj_ml j := by rw [hl.1]; exact hlen
  have hmem : ∀ k w, mj_inx k w = true → mj_goodB w = true → w.before args s = true := fun _ w h1 h2 => hts w (mj_ins_T h1 h2)
  have same : K' = K → ∀ (A' : Array Slot) (H' : Heap) (locs' : List Loc), mj_ls z g ls' A' → mj_R z g D dA K' h' H' → va_S (fun q => z ≤ q) s.heap H' locs' → W p l e R s m args below meth c H' locs' cells slots Q (F0 m pc' A' (st'.map (mj_v z g))) := by
    intro hK A' H' locs' h1 h2 h3
    subst hK
    exact W.cs (by omega) (by omega) (kk A' H' locs' h1 h2 h3)
  dsimp only [mj_plain] at hp
  dsimp only [mj_sok] at hso
  simp only [Bool.and_eq_true, decide_eq_true_eq] at hso
  obtain ⟨rfl, h1⟩ := hso
  split at hp
  · rename_i h0
    cases hp
    rw [if_pos h0] at h1
    exact va_ldcS hx hb hown (hSS.1 ((mj_y j).cls, i, a) (by simpa using h1)) hdc (same rfl A H locs hl hR hS)
  · rename_i h0
    cases hp
    rw [if_neg h0] at h1
    exact lv_ldc hx hb hown (hmem _ _ h1 rfl) hdc (same rfl A H locs hl hR hS)
set_option maxHeartbeats 1000000 in
theorem mj_po_ldc2_w {l : Launch} (i : Nat) : mj_PO l (.ldc2_w i) := by
  intro p e R s m args below meth c H locs cells slots Q pc A z g D dA K h st j d n a b c0 pc' ls ls' st' K' h' C hdc hso hp hl hlen hR hS hc hs hfr hlo kk
  obtain ⟨hx, hb, hr, hml, hown, hts, hlocks, ⟨hU, hSS, hzs⟩, hnm⟩ := id C
  have hAs : A.size = mj_ml j := by rw [hl.1]; exact hlen
  have hmem : ∀ k w, mj_inx k w = true → mj_goodB w = true → w.before args s = true := fun _ w h1 h2 => hts w (mj_ins_T h1 h2)
  have same : K' = K → ∀ (A' : Array Slot) (H' : Heap) (locs' : List Loc), mj_ls z g ls' A' → mj_R z g D dA K' h' H' → va_S (fun q => z ≤ q) s.heap H' locs' → W p l e R s m args below meth c H' locs' cells slots Q (F0 m pc' A' (st'.map (mj_v z g))) := by
    intro hK A' H' locs' h1 h2 h3
    subst hK
    exact W.cs (by omega) (by omega) (kk A' H' locs' h1 h2 h3)
  dsimp only [mj_plain] at hp
  cases hp
  dsimp only [mj_sok] at hso
  simp only [Bool.and_eq_true, decide_eq_true_eq] at hso
  obtain ⟨rfl, h1⟩ := hso
  exact lv_ldc2 hx hb hown (hmem _ _ h1 rfl) hdc (same rfl A H locs hl hR hS)
set_option maxHeartbeats 1000000 in
theorem mj_po_invokestatic {l : Launch} (i : Nat) : mj_PO l (.invokestatic i) := by
  intro p e R s m args below meth c H locs cells slots Q pc A z g D dA K h st j d n a b c0 pc' ls ls' st' K' h' C hdc hso hp hl hlen hR hS hc hs hfr hlo kk
  obtain ⟨hx, hb, hr, hml, hown, hts, hlocks, ⟨hU, hSS, hzs⟩, hnm⟩ := id C
  have hAs : A.size = mj_ml j := by rw [hl.1]; exact hlen
  have hmem : ∀ k w, mj_inx k w = true → mj_goodB w = true → w.before args s = true := fun _ w h1 h2 => hts w (mj_ins_T h1 h2)
  have same : K' = K → ∀ (A' : Array Slot) (H' : Heap) (locs' : List Loc), mj_ls z g ls' A' → mj_R z g D dA K' h' H' → va_S (fun q => z ≤ q) s.heap H' locs' → W p l e R s m args below meth c H' locs' cells slots Q (F0 m pc' A' (st'.map (mj_v z g))) := by
    intro hK A' H' locs' h1 h2 h3
    subst hK
    exact W.cs (by omega) (by omega) (kk A' H' locs' h1 h2 h3)
  dsimp only [mj_plain] at hp
  obtain ⟨r, hq, h2⟩ := Option.map_eq_some_iff.mp hp
  cases h2
  dsimp only [mj_sok] at hso
  simp only [Bool.and_eq_true, decide_eq_true_eq] at hso
  obtain ⟨rfl, h1⟩ := hso
  split at h1
  · rename_i h0
    exfalso
    unfold mj_intr at hq
    split at hq <;> first | omega | (cases hq; done)
  · simp only [Bool.and_eq_true, decide_eq_true_eq] at h1
    obtain ⟨⟨⟨⟨rfl, g1⟩, g2⟩, g3⟩, g4⟩ := h1
    simp only [mj_intr] at hq
    split at hq
    · split at hq
      · rename_i y x r0 hk
        cases hq
        have h13 : 13 + 8 ≤ mj_LW := mj_LW_ok
        refine va_mmin hx hb (by rw [hml, hAs]) hown (hmem _ _ g1 rfl) (hmem _ _ g2 rfl) (hmem _ _ g3 rfl) (hmem _ _ g4 rfl) (by omega) ?_ (by omega) (by omega) hdc (same rfl A H locs hl hR hS)
        rw [mj_cat_map]
        have : mj_LW ≤ d * mj_LW := Nat.le_mul_of_pos_left _ hk.1
        omega
      · cases hq
    · cases hq
set_option maxHeartbeats 1000000 in
theorem mj_po_invokespecial {l : Launch} (i : Nat) : mj_PO l (.invokespecial i) := by
  intro p e R s m args below meth c H locs cells slots Q pc A z g D dA K h st j d n a b c0 pc' ls ls' st' K' h' C hdc hso hp hl hlen hR hS hc hs hfr hlo kk
  obtain ⟨hx, hb, hr, hml, hown, hts, hlocks, ⟨hU, hSS, hzs⟩, hnm⟩ := id C
  have hAs : A.size = mj_ml j := by rw [hl.1]; exact hlen
  have hmem : ∀ k w, mj_inx k w = true → mj_goodB w = true → w.before args s = true := fun _ w h1 h2 => hts w (mj_ins_T h1 h2)
  have same : K' = K → ∀ (A' : Array Slot) (H' : Heap) (locs' : List Loc), mj_ls z g ls' A' → mj_R z g D dA K' h' H' → va_S (fun q => z ≤ q) s.heap H' locs' → W p l e R s m args below meth c H' locs' cells slots Q (F0 m pc' A' (st'.map (mj_v z g))) := by
    intro hK A' H' locs' h1 h2 h3
    subst hK
    exact W.cs (by omega) (by omega) (kk A' H' locs' h1 h2 h3)
  dsimp only [mj_plain] at hp
  obtain ⟨r, hq, h2⟩ := Option.map_eq_some_iff.mp hp
  cases h2
  dsimp only [mj_sok] at hso
  simp only [Bool.and_eq_true, decide_eq_true_eq] at hso
  obtain ⟨rfl, h1⟩ := hso
  split at h1
  · rename_i h0
    exfalso
    unfold mj_intr at hq
    split at hq <;> first | omega | (cases hq; done)
  · simp only [Bool.and_eq_true, decide_eq_true_eq] at h1
    obtain ⟨⟨⟨rfl, g1⟩, g2⟩, g3⟩ := h1
    simp only [mj_intr] at hq
    split at hq
    · split at hq
      · rename_i q0 r0 hk
        cases hq
        have h13 : 13 + 8 ≤ mj_LW := mj_LW_ok
        have : mj_LW ≤ d * mj_LW := Nat.le_mul_of_pos_left _ hk.1
        refine W.objInit hx hb hown (hmem _ _ g1 rfl) (hmem _ _ g2 rfl) (hmem _ _ g3 rfl) rfl (by rw [hml]; exact hAs) rfl hdc (by omega) ?_ (same rfl A H locs hl hR hS)
        show 2 * 0 + _ + 12 ≤ _
        rw [mj_cat_map]
        omega
      · cases hq
    · cases hq
set_option maxHeartbeats 1000000 in
theorem mj_po_invokevirtual {l : Launch} (hJ : mj_JOK l) (i : Nat) : mj_PO l (.invokevirtual i) := by
  intro p e R s m args below meth c H locs cells slots Q pc A z g D dA K h st j d n a b c0 pc' ls ls' st' K' h' C hdc hso hp hl hlen hR hS hc hs hfr hlo kk
  obtain ⟨hx, hb, hr, hml, hown, hts, hlocks, ⟨hU, hSS, hzs⟩, hnm⟩ := id C
  have hAs : A.size = mj_ml j := by rw [hl.1]; exact hlen
  have hmem : ∀ k w, mj_inx k w = true → mj_goodB w = true → w.before args s = true := fun _ w h1 h2 => hts w (mj_ins_T h1 h2)
  have same : K' = K → ∀ (A' : Array Slot) (H' : Heap) (locs' : List Loc), mj_ls z g ls' A' → mj_R z g D dA K' h' H' → va_S (fun q => z ≤ q) s.heap H' locs' → W p l e R s m args below meth c H' locs' cells slots Q (F0 m pc' A' (st'.map (mj_v z g))) := by
    intro hK A' H' locs' h1 h2 h3
    subst hK
    exact W.cs (by omega) (by omega) (kk A' H' locs' h1 h2 h3)
  dsimp only [mj_plain] at hp
  obtain ⟨r, hq, h2⟩ := Option.map_eq_some_iff.mp hp
  cases h2
  dsimp only [mj_sok] at hso
  simp only [Bool.and_eq_true, decide_eq_true_eq] at hso
  obtain ⟨rfl, h1⟩ := hso
  split at h1
  · rename_i h0
    exfalso
    unfold mj_intr at hq
    split at hq <;> first | omega | (cases hq; done)
  · refine hJ p e R s m args below meth c H locs cells slots Q z g D dA j i a d pc A st _ C hAs hS hfr hlo (by omega) (by omega) hdc ?_ hq (same rfl A H locs hl hR hS)
    split at h1
    · rename_i h0
      exact Or.inl ⟨h0, by simpa using h1⟩
    · simp only [Bool.and_eq_true, decide_eq_true_eq] at h1
      exact Or.inr h1
theorem mj_po_simple {l : Launch} {I : Instr} (hI : ∀ (n a b c0 d pc : Nat) (ls : mj_L) (st : List Value) (K : mj_K) (h : mj_H), mj_plain (I, n, a, b, c0) d pc ls st K h = (mj_simple I n pc ls st).map (fun (q : Nat × mj_L × List Value) => (q.1, q.2.1, q.2.2, K, h))) : mj_PO l I := by
  intro p e R s m args below meth c H locs cells slots Q pc A z g D dA K h st j d n a b c0 pc' ls ls' st' K' h' C hdc hso hp hl hlen hR hS hc hs hfr hlo kk
  obtain ⟨hx, hb, hr, hml, hown, hts, hlocks, ⟨hU, hSS, hzs⟩, hnm⟩ := id C
  rw [hI] at hp
  obtain ⟨⟨pc2, ls2, st2⟩, h1, h2⟩ := Option.map_eq_some_iff.mp hp
  cases h2
  exact mj_simple_ok hx hb h1 hdc hl (fun A' hA' => W.cs (by omega) (by omega) (kk A' H locs hA' hR hS))
theorem mj_plain_ok {l : Launch} (hJ : mj_JOK l) (I : Instr) : mj_PO l I := by
  cases I
  case getfield i => exact mj_po_getfield i
  case putfield i => exact mj_po_putfield i
  case iaload => exact mj_po_iaload
  case laload => exact mj_po_laload
  case caload => exact mj_po_caload
  case baload => exact mj_po_baload
  case aaload => exact mj_po_aaload
  case iastore => exact mj_po_iastore
  case lastore => exact mj_po_lastore
  case castore => exact mj_po_castore
  case bastore => exact mj_po_bastore
  case aastore => exact mj_po_aastore
  case arraylength => exact mj_po_arraylength
  case new i => exact mj_po_new i
  case newarray ty => exact mj_po_newarray ty
  case anewarray i => exact mj_po_anewarray i
  case iinc i k => exact mj_po_iinc i k
  case bipush k => exact mj_po_bipush k
  case sipush k => exact mj_po_sipush k
  case ldc i => exact mj_po_ldc i
  case ldc2_w i => exact mj_po_ldc2_w i
  case invokestatic i => exact mj_po_invokestatic i
  case invokespecial i => exact mj_po_invokespecial i
  case invokevirtual i => exact mj_po_invokevirtual hJ i
  all_goals exact mj_po_simple (fun _ _ _ _ _ _ _ _ _ _ => rfl)
