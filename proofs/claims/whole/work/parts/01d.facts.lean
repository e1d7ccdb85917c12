theorem mj_nC_ok : mj_cl.length ≤ 100 := by decide +kernel
theorem mj_100ne {a : Nat} (h : a < mj_nA) : 100 + a ≠ 99999 := by
  have h1 : mj_nA ≤ 1000 := by decide
  omega
theorem mj_LW_ok : 13 + 8 ≤ mj_LW := by decide
theorem mw_0 : ∀ w ∈ u_ws "PipelineText" mt_0 8, w ∈ lw_tbl := by decide +kernel
theorem mw_1 : ∀ w ∈ u_ws "PipelineText$Words" mt_1 7, w ∈ lw_tbl := by decide +kernel
theorem mw_2 : ∀ w ∈ u_ws "PipelineText$Plan" mt_2 4, w ∈ lw_tbl := by decide +kernel
theorem mw_3 : ∀ w ∈ u_ws "PipelineText$Job" mt_3 8, w ∈ lw_tbl := by decide +kernel
theorem mw_4 : ∀ w ∈ u_ws "PipelineText$Section" mt_4 5, w ∈ lw_tbl := by decide +kernel
theorem mw_5 : ∀ w ∈ u_ws "PipelineText$PairRows" mt_5 2, w ∈ lw_tbl := by decide +kernel
theorem mw_6 : ∀ w ∈ u_ws "PipelineText$Pairs" mt_6 3, w ∈ lw_tbl := by decide +kernel
theorem mw_7 : ∀ w ∈ u_ws "PipelineText$Condition" mt_7 6, w ∈ lw_tbl := by decide +kernel
theorem mw_8 : ∀ w ∈ u_ws "PipelineText$Axis" mt_8 3, w ∈ lw_tbl := by decide +kernel
theorem mw_9 : ∀ w ∈ u_ws "PipelineText$Reader" mt_9 2, w ∈ lw_tbl := by decide +kernel
theorem mw_10 : ∀ w ∈ u_ws "PipelineText$Faults" mt_10 3, w ∈ lw_tbl := by decide +kernel
theorem mw_11 : ∀ w ∈ u_ws "PipelineText$Expansion" mt_11 4, w ∈ lw_tbl := by decide +kernel
theorem mw_12 : ∀ w ∈ u_ws "PipelineTextModel" mt_12 44, w ∈ lw_tbl := by decide +kernel
theorem mj_u_good (C : String) (T : u_T) (N : Nat) : ∀ w ∈ u_ws C T N, mj_goodB w = true := by
  intro w hw
  obtain ⟨k, -, rfl⟩ := List.mem_map.mp hw
  unfold u_lay
  split <;> rfl
theorem mj_cl_in : ∀ (k : Nat) (r : vw_C), mj_cl[k]? = some r → ∀ w ∈ u_ws r.1 r.2.1 r.2.2, w ∈ mj_T := by
  intro k r hr
  match k, hr with
  | 0, hr => cases hr; exact fun w h => mj_T_in (mw_0 w h) (mj_u_good _ _ _ w h)
  | 1, hr => cases hr; exact fun w h => mj_T_in (mw_1 w h) (mj_u_good _ _ _ w h)
  | 2, hr => cases hr; exact fun w h => mj_T_in (mw_2 w h) (mj_u_good _ _ _ w h)
  | 3, hr => cases hr; exact fun w h => mj_T_in (mw_3 w h) (mj_u_good _ _ _ w h)
  | 4, hr => cases hr; exact fun w h => mj_T_in (mw_4 w h) (mj_u_good _ _ _ w h)
  | 5, hr => cases hr; exact fun w h => mj_T_in (mw_5 w h) (mj_u_good _ _ _ w h)
  | 6, hr => cases hr; exact fun w h => mj_T_in (mw_6 w h) (mj_u_good _ _ _ w h)
  | 7, hr => cases hr; exact fun w h => mj_T_in (mw_7 w h) (mj_u_good _ _ _ w h)
  | 8, hr => cases hr; exact fun w h => mj_T_in (mw_8 w h) (mj_u_good _ _ _ w h)
  | 9, hr => cases hr; exact fun w h => mj_T_in (mw_9 w h) (mj_u_good _ _ _ w h)
  | 10, hr => cases hr; exact fun w h => mj_T_in (mw_10 w h) (mj_u_good _ _ _ w h)
  | 11, hr => cases hr; exact fun w h => mj_T_in (mw_11 w h) (mj_u_good _ _ _ w h)
  | 12, hr => cases hr; exact fun w h => mj_T_in (mw_12 w h) (mj_u_good _ _ _ w h)
  | k + 13, hr => simp [mj_cl] at hr
theorem mn_0 : ∀ a, a < 8 → ∀ b, b < 8 → a ≠ b → (mt_0 a).2.1 ≠ (mt_0 b).2.1 := by decide +kernel
theorem mp_0 : ∀ i, i < 8 → parseFieldDescriptor (mt_0 i).2.2.1 = some (mf_0 i) := by decide +kernel
theorem mq_0 : ∀ i, i < 8 → mf_0 i ≠ .float ∧ mf_0 i ≠ .double := by decide +kernel
theorem mn_1 : ∀ a, a < 7 → ∀ b, b < 7 → a ≠ b → (mt_1 a).2.1 ≠ (mt_1 b).2.1 := by decide +kernel
theorem mp_1 : ∀ i, i < 7 → parseFieldDescriptor (mt_1 i).2.2.1 = some (mf_1 i) := by decide +kernel
theorem mq_1 : ∀ i, i < 7 → mf_1 i ≠ .float ∧ mf_1 i ≠ .double := by decide +kernel
theorem mn_2 : ∀ a, a < 4 → ∀ b, b < 4 → a ≠ b → (mt_2 a).2.1 ≠ (mt_2 b).2.1 := by decide +kernel
theorem mp_2 : ∀ i, i < 4 → parseFieldDescriptor (mt_2 i).2.2.1 = some (mf_2 i) := by decide +kernel
theorem mq_2 : ∀ i, i < 4 → mf_2 i ≠ .float ∧ mf_2 i ≠ .double := by decide +kernel
theorem mn_3 : ∀ a, a < 8 → ∀ b, b < 8 → a ≠ b → (mt_3 a).2.1 ≠ (mt_3 b).2.1 := by decide +kernel
theorem mp_3 : ∀ i, i < 8 → parseFieldDescriptor (mt_3 i).2.2.1 = some (mf_3 i) := by decide +kernel
theorem mq_3 : ∀ i, i < 8 → mf_3 i ≠ .float ∧ mf_3 i ≠ .double := by decide +kernel
theorem mn_4 : ∀ a, a < 5 → ∀ b, b < 5 → a ≠ b → (mt_4 a).2.1 ≠ (mt_4 b).2.1 := by decide +kernel
theorem mp_4 : ∀ i, i < 5 → parseFieldDescriptor (mt_4 i).2.2.1 = some (mf_4 i) := by decide +kernel
theorem mq_4 : ∀ i, i < 5 → mf_4 i ≠ .float ∧ mf_4 i ≠ .double := by decide +kernel
theorem mn_5 : ∀ a, a < 2 → ∀ b, b < 2 → a ≠ b → (mt_5 a).2.1 ≠ (mt_5 b).2.1 := by decide +kernel
theorem mp_5 : ∀ i, i < 2 → parseFieldDescriptor (mt_5 i).2.2.1 = some (mf_5 i) := by decide +kernel
theorem mq_5 : ∀ i, i < 2 → mf_5 i ≠ .float ∧ mf_5 i ≠ .double := by decide +kernel
theorem mn_6 : ∀ a, a < 3 → ∀ b, b < 3 → a ≠ b → (mt_6 a).2.1 ≠ (mt_6 b).2.1 := by decide +kernel
theorem mp_6 : ∀ i, i < 3 → parseFieldDescriptor (mt_6 i).2.2.1 = some (mf_6 i) := by decide +kernel
theorem mq_6 : ∀ i, i < 3 → mf_6 i ≠ .float ∧ mf_6 i ≠ .double := by decide +kernel
theorem mn_7 : ∀ a, a < 6 → ∀ b, b < 6 → a ≠ b → (mt_7 a).2.1 ≠ (mt_7 b).2.1 := by decide +kernel
theorem mp_7 : ∀ i, i < 6 → parseFieldDescriptor (mt_7 i).2.2.1 = some (mf_7 i) := by decide +kernel
theorem mq_7 : ∀ i, i < 6 → mf_7 i ≠ .float ∧ mf_7 i ≠ .double := by decide +kernel
theorem mn_8 : ∀ a, a < 3 → ∀ b, b < 3 → a ≠ b → (mt_8 a).2.1 ≠ (mt_8 b).2.1 := by decide +kernel
theorem mp_8 : ∀ i, i < 3 → parseFieldDescriptor (mt_8 i).2.2.1 = some (mf_8 i) := by decide +kernel
theorem mq_8 : ∀ i, i < 3 → mf_8 i ≠ .float ∧ mf_8 i ≠ .double := by decide +kernel
theorem mn_9 : ∀ a, a < 2 → ∀ b, b < 2 → a ≠ b → (mt_9 a).2.1 ≠ (mt_9 b).2.1 := by decide +kernel
theorem mp_9 : ∀ i, i < 2 → parseFieldDescriptor (mt_9 i).2.2.1 = some (mf_9 i) := by decide +kernel
theorem mq_9 : ∀ i, i < 2 → mf_9 i ≠ .float ∧ mf_9 i ≠ .double := by decide +kernel
theorem mn_10 : ∀ a, a < 3 → ∀ b, b < 3 → a ≠ b → (mt_10 a).2.1 ≠ (mt_10 b).2.1 := by decide +kernel
theorem mp_10 : ∀ i, i < 3 → parseFieldDescriptor (mt_10 i).2.2.1 = some (mf_10 i) := by decide +kernel
theorem mq_10 : ∀ i, i < 3 → mf_10 i ≠ .float ∧ mf_10 i ≠ .double := by decide +kernel
theorem mn_11 : ∀ a, a < 4 → ∀ b, b < 4 → a ≠ b → (mt_11 a).2.1 ≠ (mt_11 b).2.1 := by decide +kernel
theorem mp_11 : ∀ i, i < 4 → parseFieldDescriptor (mt_11 i).2.2.1 = some (mf_11 i) := by decide +kernel
theorem mq_11 : ∀ i, i < 4 → mf_11 i ≠ .float ∧ mf_11 i ≠ .double := by decide +kernel
theorem mn_12 : ∀ a, a < 44 → ∀ b, b < 44 → a ≠ b → (mt_12 a).2.1 ≠ (mt_12 b).2.1 := by decide +kernel
theorem mp_12 : ∀ i, i < 44 → parseFieldDescriptor (mt_12 i).2.2.1 = some (mf_12 i) := by decide +kernel
theorem mq_12 : ∀ i, i < 44 → mf_12 i ≠ .float ∧ mf_12 i ≠ .double := by decide +kernel
theorem mj_cl_ty : ∀ (k : Nat) (r : vw_C), mj_cl[k]? = some r → ∀ i, i < r.2.2 → parseFieldDescriptor (r.2.1 i).2.2.1 = some (mj_fty k i) := by
  intro k r hr
  match k, hr with
  | 0, hr => cases hr; exact mp_0
  | 1, hr => cases hr; exact mp_1
  | 2, hr => cases hr; exact mp_2
  | 3, hr => cases hr; exact mp_3
  | 4, hr => cases hr; exact mp_4
  | 5, hr => cases hr; exact mp_5
  | 6, hr => cases hr; exact mp_6
  | 7, hr => cases hr; exact mp_7
  | 8, hr => cases hr; exact mp_8
  | 9, hr => cases hr; exact mp_9
  | 10, hr => cases hr; exact mp_10
  | 11, hr => cases hr; exact mp_11
  | 12, hr => cases hr; exact mp_12
  | k + 13, hr => simp [mj_cl] at hr
theorem mj_cl_nm : ∀ (k : Nat) (r : vw_C), mj_cl[k]? = some r → ∀ a, a < r.2.2 → ∀ b, b < r.2.2 → a ≠ b → (r.2.1 a).2.1 ≠ (r.2.1 b).2.1 := by
  intro k r hr
  match k, hr with
  | 0, hr => cases hr; exact mn_0
  | 1, hr => cases hr; exact mn_1
  | 2, hr => cases hr; exact mn_2
  | 3, hr => cases hr; exact mn_3
  | 4, hr => cases hr; exact mn_4
  | 5, hr => cases hr; exact mn_5
  | 6, hr => cases hr; exact mn_6
  | 7, hr => cases hr; exact mn_7
  | 8, hr => cases hr; exact mn_8
  | 9, hr => cases hr; exact mn_9
  | 10, hr => cases hr; exact mn_10
  | 11, hr => cases hr; exact mn_11
  | 12, hr => cases hr; exact mn_12
  | k + 13, hr => simp [mj_cl] at hr
theorem mj_cl_nf : ∀ (k : Nat) (r : vw_C), mj_cl[k]? = some r → ∀ i, i < r.2.2 → mj_fty k i ≠ .float ∧ mj_fty k i ≠ .double := by
  intro k r hr
  match k, hr with
  | 0, hr => cases hr; exact mq_0
  | 1, hr => cases hr; exact mq_1
  | 2, hr => cases hr; exact mq_2
  | 3, hr => cases hr; exact mq_3
  | 4, hr => cases hr; exact mq_4
  | 5, hr => cases hr; exact mq_5
  | 6, hr => cases hr; exact mq_6
  | 7, hr => cases hr; exact mq_7
  | 8, hr => cases hr; exact mq_8
  | 9, hr => cases hr; exact mq_9
  | 10, hr => cases hr; exact mq_10
  | 11, hr => cases hr; exact mq_11
  | 12, hr => cases hr; exact mq_12
  | k + 13, hr => simp [mj_cl] at hr
