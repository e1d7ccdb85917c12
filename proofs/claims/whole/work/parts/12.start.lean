theorem mj_cl_ins : ∀ (k : Nat) (r : vw_C), mj_cl[k]? = some r → Cond.instantiable r.1 r.2.2 ∈ lw_tbl := by
  intro k r hr
  match k, hr with
  | 0, hr => cases hr; exact mj_at_mem (k := 95) (by decide +kernel)
  | 1, hr => cases hr; exact mj_at_mem (k := 103) (by decide +kernel)
  | 2, hr => cases hr; exact mj_at_mem (k := 140) (by decide +kernel)
  | 3, hr => cases hr; exact mj_at_mem (k := 149) (by decide +kernel)
  | 4, hr => cases hr; exact mj_at_mem (k := 155) (by decide +kernel)
  | 5, hr => cases hr; exact mj_at_mem (k := 187) (by decide +kernel)
  | 6, hr => cases hr; exact mj_at_mem (k := 194) (by decide +kernel)
  | 7, hr => cases hr; exact mj_at_mem (k := 226) (by decide +kernel)
  | 8, hr => cases hr; exact mj_at_mem (k := 252) (by decide +kernel)
  | 9, hr => cases hr; exact mj_at_mem (k := 340) (by decide +kernel)
  | 10, hr => cases hr; exact mj_at_mem (k := 353) (by decide +kernel)
  | 11, hr => cases hr; exact mj_at_mem (k := 371) (by decide +kernel)
  | 12, hr => cases hr; exact mj_at_mem (k := 872) (by decide +kernel)
  | k + 13, hr => simp [mj_cl] at hr
def mj_tm (i : Nat) : Term := match i with
  | 0 => .string "PipelineText$Condition" 39
  | 1 => .string "PipelineText$Condition" 54
  | 2 => .string "PipelineText$Condition" 56
  | 3 => .string "PipelineText$Condition" 58
  | 4 => .string "PipelineText$Condition" 64
  | 5 => .string "PipelineText$Condition" 72
  | 6 => .string "PipelineText$Condition" 74
  | 7 => .string "PipelineText$Condition" 76
  | 8 => .string "PipelineText$Reader" 25
  | 9 => .string "PipelineText$Reader" 38
  | 10 => .string "PipelineText$Reader" 43
  | 11 => .string "PipelineText$Reader" 51
  | 12 => .string "PipelineText$Reader" 57
  | 13 => .string "PipelineText$Reader" 65
  | 14 => .string "PipelineText$Reader" 70
  | 15 => .string "PipelineText$Reader" 81
  | _ => .string "PipelineText$Reader" 86
def mj_G : List Cond := flatC (Jvm.Cond.and given_1 narrow_1)
def mg_ex : List Nat := [251, 229, 120, 136, 210, 151, 172, 190, 9, 16, 25, 35, 45, 58, 71, 88, 106]
def mg_co : List Nat := [252, 230, 121, 137, 211, 152, 173, 191, 10, 17, 26, 36, 46, 59, 72, 89, 107]
def mg_ar : List Nat := [253, 231, 122, 138, 212, 153, 174, 192, 11, 18, 27, 37, 47, 60, 73, 90, 108]
def mg_le : List Nat := [254, 232, 123, 139, 213, 154, 175, 193, 12, 19, 28, 38, 48, 61, 74, 91, 109]
def mg_el : List (List Nat) := [[255, 256], [233, 234, 235], [124, 125, 126], [140], [214], [155, 156, 157, 158, 159, 160], [176, 177], [194, 195, 196], [13, 14, 15], [20, 21, 22, 23], [29, 30, 31, 32], [39, 40, 41], [49, 50, 51, 52, 53], [62, 63, 64, 65], [75, 76, 77, 78, 79, 80, 81], [92, 93, 94, 95, 96, 97, 98], [110, 111]]
def mg_ne : List (List Nat) := [[], [272], [266, 245], [267, 246, 150], [271, 250, 224, 225], [268, 247, 170, 171, 226], [269, 248, 187, 188, 227, 189], [270, 249, 206, 207, 228, 208, 209], [257, 236, 127, 141, 215, 161, 178, 197], [258, 237, 128, 142, 216, 162, 179, 198, 24], [259, 238, 129, 143, 217, 163, 180, 199, 33, 34], [260, 239, 130, 144, 218, 164, 181, 200, 42, 43, 44], [261, 240, 131, 145, 219, 165, 182, 201, 54, 55, 56, 57], [262, 241, 132, 146, 220, 166, 183, 202, 66, 67, 68, 69, 70], [263, 242, 133, 147, 221, 167, 184, 203, 82, 83, 84, 85, 86, 87], [264, 243, 134, 148, 222, 168, 185, 204, 99, 100, 101, 102, 103, 104, 105], [265, 244, 135, 149, 223, 169, 186, 205, 112, 113, 114, 115, 116, 117, 118, 119]]
theorem mj_gm {k : Nat} {w : Cond} (h : mj_G[k]? = some w) : w ∈ mj_G := List.mem_of_getElem? h
theorem mg_exs_0 : mj_G[mg_ex.getD 0 0]? = some (Cond.exactly (mj_tm 0) "java/lang/String") := by decide +kernel
theorem mg_exs_1 : mj_G[mg_ex.getD 1 0]? = some (Cond.exactly (mj_tm 1) "java/lang/String") := by decide +kernel
theorem mg_exs_2 : mj_G[mg_ex.getD 2 0]? = some (Cond.exactly (mj_tm 2) "java/lang/String") := by decide +kernel
theorem mg_exs_3 : mj_G[mg_ex.getD 3 0]? = some (Cond.exactly (mj_tm 3) "java/lang/String") := by decide +kernel
theorem mg_exs_4 : mj_G[mg_ex.getD 4 0]? = some (Cond.exactly (mj_tm 4) "java/lang/String") := by decide +kernel
theorem mg_exs_5 : mj_G[mg_ex.getD 5 0]? = some (Cond.exactly (mj_tm 5) "java/lang/String") := by decide +kernel
theorem mg_exs_6 : mj_G[mg_ex.getD 6 0]? = some (Cond.exactly (mj_tm 6) "java/lang/String") := by decide +kernel
theorem mg_exs_7 : mj_G[mg_ex.getD 7 0]? = some (Cond.exactly (mj_tm 7) "java/lang/String") := by decide +kernel
theorem mg_exs_8 : mj_G[mg_ex.getD 8 0]? = some (Cond.exactly (mj_tm 8) "java/lang/String") := by decide +kernel
theorem mg_exs_9 : mj_G[mg_ex.getD 9 0]? = some (Cond.exactly (mj_tm 9) "java/lang/String") := by decide +kernel
theorem mg_exs_10 : mj_G[mg_ex.getD 10 0]? = some (Cond.exactly (mj_tm 10) "java/lang/String") := by decide +kernel
theorem mg_exs_11 : mj_G[mg_ex.getD 11 0]? = some (Cond.exactly (mj_tm 11) "java/lang/String") := by decide +kernel
theorem mg_exs_12 : mj_G[mg_ex.getD 12 0]? = some (Cond.exactly (mj_tm 12) "java/lang/String") := by decide +kernel
theorem mg_exs_13 : mj_G[mg_ex.getD 13 0]? = some (Cond.exactly (mj_tm 13) "java/lang/String") := by decide +kernel
theorem mg_exs_14 : mj_G[mg_ex.getD 14 0]? = some (Cond.exactly (mj_tm 14) "java/lang/String") := by decide +kernel
theorem mg_exs_15 : mj_G[mg_ex.getD 15 0]? = some (Cond.exactly (mj_tm 15) "java/lang/String") := by decide +kernel
theorem mg_exs_16 : mj_G[mg_ex.getD 16 0]? = some (Cond.exactly (mj_tm 16) "java/lang/String") := by decide +kernel
theorem mg_cos_0 : mj_G[mg_co.getD 0 0]? = some (Cond.eq (.field (mj_tm 0) "java/lang/String" "coder" "B") (.int 0)) := by decide +kernel
theorem mg_cos_1 : mj_G[mg_co.getD 1 0]? = some (Cond.eq (.field (mj_tm 1) "java/lang/String" "coder" "B") (.int 0)) := by decide +kernel
theorem mg_cos_2 : mj_G[mg_co.getD 2 0]? = some (Cond.eq (.field (mj_tm 2) "java/lang/String" "coder" "B") (.int 0)) := by decide +kernel
theorem mg_cos_3 : mj_G[mg_co.getD 3 0]? = some (Cond.eq (.field (mj_tm 3) "java/lang/String" "coder" "B") (.int 0)) := by decide +kernel
theorem mg_cos_4 : mj_G[mg_co.getD 4 0]? = some (Cond.eq (.field (mj_tm 4) "java/lang/String" "coder" "B") (.int 0)) := by decide +kernel
theorem mg_cos_5 : mj_G[mg_co.getD 5 0]? = some (Cond.eq (.field (mj_tm 5) "java/lang/String" "coder" "B") (.int 0)) := by decide +kernel
theorem mg_cos_6 : mj_G[mg_co.getD 6 0]? = some (Cond.eq (.field (mj_tm 6) "java/lang/String" "coder" "B") (.int 0)) := by decide +kernel
theorem mg_cos_7 : mj_G[mg_co.getD 7 0]? = some (Cond.eq (.field (mj_tm 7) "java/lang/String" "coder" "B") (.int 0)) := by decide +kernel
theorem mg_cos_8 : mj_G[mg_co.getD 8 0]? = some (Cond.eq (.field (mj_tm 8) "java/lang/String" "coder" "B") (.int 0)) := by decide +kernel
theorem mg_cos_9 : mj_G[mg_co.getD 9 0]? = some (Cond.eq (.field (mj_tm 9) "java/lang/String" "coder" "B") (.int 0)) := by decide +kernel
theorem mg_cos_10 : mj_G[mg_co.getD 10 0]? = some (Cond.eq (.field (mj_tm 10) "java/lang/String" "coder" "B") (.int 0)) := by decide +kernel
theorem mg_cos_11 : mj_G[mg_co.getD 11 0]? = some (Cond.eq (.field (mj_tm 11) "java/lang/String" "coder" "B") (.int 0)) := by decide +kernel
theorem mg_cos_12 : mj_G[mg_co.getD 12 0]? = some (Cond.eq (.field (mj_tm 12) "java/lang/String" "coder" "B") (.int 0)) := by decide +kernel
theorem mg_cos_13 : mj_G[mg_co.getD 13 0]? = some (Cond.eq (.field (mj_tm 13) "java/lang/String" "coder" "B") (.int 0)) := by decide +kernel
theorem mg_cos_14 : mj_G[mg_co.getD 14 0]? = some (Cond.eq (.field (mj_tm 14) "java/lang/String" "coder" "B") (.int 0)) := by decide +kernel
theorem mg_cos_15 : mj_G[mg_co.getD 15 0]? = some (Cond.eq (.field (mj_tm 15) "java/lang/String" "coder" "B") (.int 0)) := by decide +kernel
theorem mg_cos_16 : mj_G[mg_co.getD 16 0]? = some (Cond.eq (.field (mj_tm 16) "java/lang/String" "coder" "B") (.int 0)) := by decide +kernel
theorem mg_ars_0 : mj_G[mg_ar.getD 0 0]? = some (Cond.arrayOf (.field (mj_tm 0) "java/lang/String" "value" "[B") .byte) := by decide +kernel
theorem mg_ars_1 : mj_G[mg_ar.getD 1 0]? = some (Cond.arrayOf (.field (mj_tm 1) "java/lang/String" "value" "[B") .byte) := by decide +kernel
theorem mg_ars_2 : mj_G[mg_ar.getD 2 0]? = some (Cond.arrayOf (.field (mj_tm 2) "java/lang/String" "value" "[B") .byte) := by decide +kernel
theorem mg_ars_3 : mj_G[mg_ar.getD 3 0]? = some (Cond.arrayOf (.field (mj_tm 3) "java/lang/String" "value" "[B") .byte) := by decide +kernel
theorem mg_ars_4 : mj_G[mg_ar.getD 4 0]? = some (Cond.arrayOf (.field (mj_tm 4) "java/lang/String" "value" "[B") .byte) := by decide +kernel
theorem mg_ars_5 : mj_G[mg_ar.getD 5 0]? = some (Cond.arrayOf (.field (mj_tm 5) "java/lang/String" "value" "[B") .byte) := by decide +kernel
theorem mg_ars_6 : mj_G[mg_ar.getD 6 0]? = some (Cond.arrayOf (.field (mj_tm 6) "java/lang/String" "value" "[B") .byte) := by decide +kernel
theorem mg_ars_7 : mj_G[mg_ar.getD 7 0]? = some (Cond.arrayOf (.field (mj_tm 7) "java/lang/String" "value" "[B") .byte) := by decide +kernel
theorem mg_ars_8 : mj_G[mg_ar.getD 8 0]? = some (Cond.arrayOf (.field (mj_tm 8) "java/lang/String" "value" "[B") .byte) := by decide +kernel
theorem mg_ars_9 : mj_G[mg_ar.getD 9 0]? = some (Cond.arrayOf (.field (mj_tm 9) "java/lang/String" "value" "[B") .byte) := by decide +kernel
theorem mg_ars_10 : mj_G[mg_ar.getD 10 0]? = some (Cond.arrayOf (.field (mj_tm 10) "java/lang/String" "value" "[B") .byte) := by decide +kernel
theorem mg_ars_11 : mj_G[mg_ar.getD 11 0]? = some (Cond.arrayOf (.field (mj_tm 11) "java/lang/String" "value" "[B") .byte) := by decide +kernel
theorem mg_ars_12 : mj_G[mg_ar.getD 12 0]? = some (Cond.arrayOf (.field (mj_tm 12) "java/lang/String" "value" "[B") .byte) := by decide +kernel
theorem mg_ars_13 : mj_G[mg_ar.getD 13 0]? = some (Cond.arrayOf (.field (mj_tm 13) "java/lang/String" "value" "[B") .byte) := by decide +kernel
theorem mg_ars_14 : mj_G[mg_ar.getD 14 0]? = some (Cond.arrayOf (.field (mj_tm 14) "java/lang/String" "value" "[B") .byte) := by decide +kernel
theorem mg_ars_15 : mj_G[mg_ar.getD 15 0]? = some (Cond.arrayOf (.field (mj_tm 15) "java/lang/String" "value" "[B") .byte) := by decide +kernel
theorem mg_ars_16 : mj_G[mg_ar.getD 16 0]? = some (Cond.arrayOf (.field (mj_tm 16) "java/lang/String" "value" "[B") .byte) := by decide +kernel
theorem mg_les_0 : mj_G[mg_le.getD 0 0]? = some (Cond.eq (.length (.field (mj_tm 0) "java/lang/String" "value" "[B")) (.int (Int32.ofNat (mj_sln.getD 0 0)))) := by decide +kernel
theorem mg_les_1 : mj_G[mg_le.getD 1 0]? = some (Cond.eq (.length (.field (mj_tm 1) "java/lang/String" "value" "[B")) (.int (Int32.ofNat (mj_sln.getD 1 0)))) := by decide +kernel
theorem mg_les_2 : mj_G[mg_le.getD 2 0]? = some (Cond.eq (.length (.field (mj_tm 2) "java/lang/String" "value" "[B")) (.int (Int32.ofNat (mj_sln.getD 2 0)))) := by decide +kernel
theorem mg_les_3 : mj_G[mg_le.getD 3 0]? = some (Cond.eq (.length (.field (mj_tm 3) "java/lang/String" "value" "[B")) (.int (Int32.ofNat (mj_sln.getD 3 0)))) := by decide +kernel
theorem mg_les_4 : mj_G[mg_le.getD 4 0]? = some (Cond.eq (.length (.field (mj_tm 4) "java/lang/String" "value" "[B")) (.int (Int32.ofNat (mj_sln.getD 4 0)))) := by decide +kernel
theorem mg_les_5 : mj_G[mg_le.getD 5 0]? = some (Cond.eq (.length (.field (mj_tm 5) "java/lang/String" "value" "[B")) (.int (Int32.ofNat (mj_sln.getD 5 0)))) := by decide +kernel
theorem mg_les_6 : mj_G[mg_le.getD 6 0]? = some (Cond.eq (.length (.field (mj_tm 6) "java/lang/String" "value" "[B")) (.int (Int32.ofNat (mj_sln.getD 6 0)))) := by decide +kernel
theorem mg_les_7 : mj_G[mg_le.getD 7 0]? = some (Cond.eq (.length (.field (mj_tm 7) "java/lang/String" "value" "[B")) (.int (Int32.ofNat (mj_sln.getD 7 0)))) := by decide +kernel
theorem mg_les_8 : mj_G[mg_le.getD 8 0]? = some (Cond.eq (.length (.field (mj_tm 8) "java/lang/String" "value" "[B")) (.int (Int32.ofNat (mj_sln.getD 8 0)))) := by decide +kernel
theorem mg_les_9 : mj_G[mg_le.getD 9 0]? = some (Cond.eq (.length (.field (mj_tm 9) "java/lang/String" "value" "[B")) (.int (Int32.ofNat (mj_sln.getD 9 0)))) := by decide +kernel
theorem mg_les_10 : mj_G[mg_le.getD 10 0]? = some (Cond.eq (.length (.field (mj_tm 10) "java/lang/String" "value" "[B")) (.int (Int32.ofNat (mj_sln.getD 10 0)))) := by decide +kernel
theorem mg_les_11 : mj_G[mg_le.getD 11 0]? = some (Cond.eq (.length (.field (mj_tm 11) "java/lang/String" "value" "[B")) (.int (Int32.ofNat (mj_sln.getD 11 0)))) := by decide +kernel
theorem mg_les_12 : mj_G[mg_le.getD 12 0]? = some (Cond.eq (.length (.field (mj_tm 12) "java/lang/String" "value" "[B")) (.int (Int32.ofNat (mj_sln.getD 12 0)))) := by decide +kernel
theorem mg_les_13 : mj_G[mg_le.getD 13 0]? = some (Cond.eq (.length (.field (mj_tm 13) "java/lang/String" "value" "[B")) (.int (Int32.ofNat (mj_sln.getD 13 0)))) := by decide +kernel
theorem mg_les_14 : mj_G[mg_le.getD 14 0]? = some (Cond.eq (.length (.field (mj_tm 14) "java/lang/String" "value" "[B")) (.int (Int32.ofNat (mj_sln.getD 14 0)))) := by decide +kernel
theorem mg_les_15 : mj_G[mg_le.getD 15 0]? = some (Cond.eq (.length (.field (mj_tm 15) "java/lang/String" "value" "[B")) (.int (Int32.ofNat (mj_sln.getD 15 0)))) := by decide +kernel
theorem mg_les_16 : mj_G[mg_le.getD 16 0]? = some (Cond.eq (.length (.field (mj_tm 16) "java/lang/String" "value" "[B")) (.int (Int32.ofNat (mj_sln.getD 16 0)))) := by decide +kernel
theorem mg_els_0 : ∀ j, j < mj_sln.getD 0 0 → mj_G[(mg_el.getD 0 []).getD j 0]? = some (Cond.eq (.elem (.field (mj_tm 0) "java/lang/String" "value" "[B") (.int (Int32.ofNat j))) (.int ((mj_sby.getD 0 []).getD j 0))) := by decide +kernel
theorem mg_els_1 : ∀ j, j < mj_sln.getD 1 0 → mj_G[(mg_el.getD 1 []).getD j 0]? = some (Cond.eq (.elem (.field (mj_tm 1) "java/lang/String" "value" "[B") (.int (Int32.ofNat j))) (.int ((mj_sby.getD 1 []).getD j 0))) := by decide +kernel
theorem mg_els_2 : ∀ j, j < mj_sln.getD 2 0 → mj_G[(mg_el.getD 2 []).getD j 0]? = some (Cond.eq (.elem (.field (mj_tm 2) "java/lang/String" "value" "[B") (.int (Int32.ofNat j))) (.int ((mj_sby.getD 2 []).getD j 0))) := by decide +kernel
theorem mg_els_3 : ∀ j, j < mj_sln.getD 3 0 → mj_G[(mg_el.getD 3 []).getD j 0]? = some (Cond.eq (.elem (.field (mj_tm 3) "java/lang/String" "value" "[B") (.int (Int32.ofNat j))) (.int ((mj_sby.getD 3 []).getD j 0))) := by decide +kernel
theorem mg_els_4 : ∀ j, j < mj_sln.getD 4 0 → mj_G[(mg_el.getD 4 []).getD j 0]? = some (Cond.eq (.elem (.field (mj_tm 4) "java/lang/String" "value" "[B") (.int (Int32.ofNat j))) (.int ((mj_sby.getD 4 []).getD j 0))) := by decide +kernel
theorem mg_els_5 : ∀ j, j < mj_sln.getD 5 0 → mj_G[(mg_el.getD 5 []).getD j 0]? = some (Cond.eq (.elem (.field (mj_tm 5) "java/lang/String" "value" "[B") (.int (Int32.ofNat j))) (.int ((mj_sby.getD 5 []).getD j 0))) := by decide +kernel
theorem mg_els_6 : ∀ j, j < mj_sln.getD 6 0 → mj_G[(mg_el.getD 6 []).getD j 0]? = some (Cond.eq (.elem (.field (mj_tm 6) "java/lang/String" "value" "[B") (.int (Int32.ofNat j))) (.int ((mj_sby.getD 6 []).getD j 0))) := by decide +kernel
theorem mg_els_7 : ∀ j, j < mj_sln.getD 7 0 → mj_G[(mg_el.getD 7 []).getD j 0]? = some (Cond.eq (.elem (.field (mj_tm 7) "java/lang/String" "value" "[B") (.int (Int32.ofNat j))) (.int ((mj_sby.getD 7 []).getD j 0))) := by decide +kernel
theorem mg_els_8 : ∀ j, j < mj_sln.getD 8 0 → mj_G[(mg_el.getD 8 []).getD j 0]? = some (Cond.eq (.elem (.field (mj_tm 8) "java/lang/String" "value" "[B") (.int (Int32.ofNat j))) (.int ((mj_sby.getD 8 []).getD j 0))) := by decide +kernel
theorem mg_els_9 : ∀ j, j < mj_sln.getD 9 0 → mj_G[(mg_el.getD 9 []).getD j 0]? = some (Cond.eq (.elem (.field (mj_tm 9) "java/lang/String" "value" "[B") (.int (Int32.ofNat j))) (.int ((mj_sby.getD 9 []).getD j 0))) := by decide +kernel
theorem mg_els_10 : ∀ j, j < mj_sln.getD 10 0 → mj_G[(mg_el.getD 10 []).getD j 0]? = some (Cond.eq (.elem (.field (mj_tm 10) "java/lang/String" "value" "[B") (.int (Int32.ofNat j))) (.int ((mj_sby.getD 10 []).getD j 0))) := by decide +kernel
theorem mg_els_11 : ∀ j, j < mj_sln.getD 11 0 → mj_G[(mg_el.getD 11 []).getD j 0]? = some (Cond.eq (.elem (.field (mj_tm 11) "java/lang/String" "value" "[B") (.int (Int32.ofNat j))) (.int ((mj_sby.getD 11 []).getD j 0))) := by decide +kernel
theorem mg_els_12 : ∀ j, j < mj_sln.getD 12 0 → mj_G[(mg_el.getD 12 []).getD j 0]? = some (Cond.eq (.elem (.field (mj_tm 12) "java/lang/String" "value" "[B") (.int (Int32.ofNat j))) (.int ((mj_sby.getD 12 []).getD j 0))) := by decide +kernel
theorem mg_els_13 : ∀ j, j < mj_sln.getD 13 0 → mj_G[(mg_el.getD 13 []).getD j 0]? = some (Cond.eq (.elem (.field (mj_tm 13) "java/lang/String" "value" "[B") (.int (Int32.ofNat j))) (.int ((mj_sby.getD 13 []).getD j 0))) := by decide +kernel
theorem mg_els_14 : ∀ j, j < mj_sln.getD 14 0 → mj_G[(mg_el.getD 14 []).getD j 0]? = some (Cond.eq (.elem (.field (mj_tm 14) "java/lang/String" "value" "[B") (.int (Int32.ofNat j))) (.int ((mj_sby.getD 14 []).getD j 0))) := by decide +kernel
theorem mg_els_15 : ∀ j, j < mj_sln.getD 15 0 → mj_G[(mg_el.getD 15 []).getD j 0]? = some (Cond.eq (.elem (.field (mj_tm 15) "java/lang/String" "value" "[B") (.int (Int32.ofNat j))) (.int ((mj_sby.getD 15 []).getD j 0))) := by decide +kernel
theorem mg_els_16 : ∀ j, j < mj_sln.getD 16 0 → mj_G[(mg_el.getD 16 []).getD j 0]? = some (Cond.eq (.elem (.field (mj_tm 16) "java/lang/String" "value" "[B") (.int (Int32.ofNat j))) (.int ((mj_sby.getD 16 []).getD j 0))) := by decide +kernel
theorem mg_nes_0 : ∀ j, j < 0 → (mj_G[(mg_ne.getD 0 []).getD j 0]? = some (Cond.not (Cond.eq (mj_tm 0) (mj_tm j))) ∨ mj_G[(mg_ne.getD 0 []).getD j 0]? = some (Cond.not (Cond.eq (mj_tm j) (mj_tm 0)))) := by decide +kernel
theorem mg_nes_1 : ∀ j, j < 1 → (mj_G[(mg_ne.getD 1 []).getD j 0]? = some (Cond.not (Cond.eq (mj_tm 1) (mj_tm j))) ∨ mj_G[(mg_ne.getD 1 []).getD j 0]? = some (Cond.not (Cond.eq (mj_tm j) (mj_tm 1)))) := by decide +kernel
theorem mg_nes_2 : ∀ j, j < 2 → (mj_G[(mg_ne.getD 2 []).getD j 0]? = some (Cond.not (Cond.eq (mj_tm 2) (mj_tm j))) ∨ mj_G[(mg_ne.getD 2 []).getD j 0]? = some (Cond.not (Cond.eq (mj_tm j) (mj_tm 2)))) := by decide +kernel
theorem mg_nes_3 : ∀ j, j < 3 → (mj_G[(mg_ne.getD 3 []).getD j 0]? = some (Cond.not (Cond.eq (mj_tm 3) (mj_tm j))) ∨ mj_G[(mg_ne.getD 3 []).getD j 0]? = some (Cond.not (Cond.eq (mj_tm j) (mj_tm 3)))) := by decide +kernel
theorem mg_nes_4 : ∀ j, j < 4 → (mj_G[(mg_ne.getD 4 []).getD j 0]? = some (Cond.not (Cond.eq (mj_tm 4) (mj_tm j))) ∨ mj_G[(mg_ne.getD 4 []).getD j 0]? = some (Cond.not (Cond.eq (mj_tm j) (mj_tm 4)))) := by decide +kernel
theorem mg_nes_5 : ∀ j, j < 5 → (mj_G[(mg_ne.getD 5 []).getD j 0]? = some (Cond.not (Cond.eq (mj_tm 5) (mj_tm j))) ∨ mj_G[(mg_ne.getD 5 []).getD j 0]? = some (Cond.not (Cond.eq (mj_tm j) (mj_tm 5)))) := by decide +kernel
theorem mg_nes_6 : ∀ j, j < 6 → (mj_G[(mg_ne.getD 6 []).getD j 0]? = some (Cond.not (Cond.eq (mj_tm 6) (mj_tm j))) ∨ mj_G[(mg_ne.getD 6 []).getD j 0]? = some (Cond.not (Cond.eq (mj_tm j) (mj_tm 6)))) := by decide +kernel
theorem mg_nes_7 : ∀ j, j < 7 → (mj_G[(mg_ne.getD 7 []).getD j 0]? = some (Cond.not (Cond.eq (mj_tm 7) (mj_tm j))) ∨ mj_G[(mg_ne.getD 7 []).getD j 0]? = some (Cond.not (Cond.eq (mj_tm j) (mj_tm 7)))) := by decide +kernel
theorem mg_nes_8 : ∀ j, j < 8 → (mj_G[(mg_ne.getD 8 []).getD j 0]? = some (Cond.not (Cond.eq (mj_tm 8) (mj_tm j))) ∨ mj_G[(mg_ne.getD 8 []).getD j 0]? = some (Cond.not (Cond.eq (mj_tm j) (mj_tm 8)))) := by decide +kernel
theorem mg_nes_9 : ∀ j, j < 9 → (mj_G[(mg_ne.getD 9 []).getD j 0]? = some (Cond.not (Cond.eq (mj_tm 9) (mj_tm j))) ∨ mj_G[(mg_ne.getD 9 []).getD j 0]? = some (Cond.not (Cond.eq (mj_tm j) (mj_tm 9)))) := by decide +kernel
theorem mg_nes_10 : ∀ j, j < 10 → (mj_G[(mg_ne.getD 10 []).getD j 0]? = some (Cond.not (Cond.eq (mj_tm 10) (mj_tm j))) ∨ mj_G[(mg_ne.getD 10 []).getD j 0]? = some (Cond.not (Cond.eq (mj_tm j) (mj_tm 10)))) := by decide +kernel
theorem mg_nes_11 : ∀ j, j < 11 → (mj_G[(mg_ne.getD 11 []).getD j 0]? = some (Cond.not (Cond.eq (mj_tm 11) (mj_tm j))) ∨ mj_G[(mg_ne.getD 11 []).getD j 0]? = some (Cond.not (Cond.eq (mj_tm j) (mj_tm 11)))) := by decide +kernel
theorem mg_nes_12 : ∀ j, j < 12 → (mj_G[(mg_ne.getD 12 []).getD j 0]? = some (Cond.not (Cond.eq (mj_tm 12) (mj_tm j))) ∨ mj_G[(mg_ne.getD 12 []).getD j 0]? = some (Cond.not (Cond.eq (mj_tm j) (mj_tm 12)))) := by decide +kernel
theorem mg_nes_13 : ∀ j, j < 13 → (mj_G[(mg_ne.getD 13 []).getD j 0]? = some (Cond.not (Cond.eq (mj_tm 13) (mj_tm j))) ∨ mj_G[(mg_ne.getD 13 []).getD j 0]? = some (Cond.not (Cond.eq (mj_tm j) (mj_tm 13)))) := by decide +kernel
theorem mg_nes_14 : ∀ j, j < 14 → (mj_G[(mg_ne.getD 14 []).getD j 0]? = some (Cond.not (Cond.eq (mj_tm 14) (mj_tm j))) ∨ mj_G[(mg_ne.getD 14 []).getD j 0]? = some (Cond.not (Cond.eq (mj_tm j) (mj_tm 14)))) := by decide +kernel
theorem mg_nes_15 : ∀ j, j < 15 → (mj_G[(mg_ne.getD 15 []).getD j 0]? = some (Cond.not (Cond.eq (mj_tm 15) (mj_tm j))) ∨ mj_G[(mg_ne.getD 15 []).getD j 0]? = some (Cond.not (Cond.eq (mj_tm j) (mj_tm 15)))) := by decide +kernel
theorem mg_nes_16 : ∀ j, j < 16 → (mj_G[(mg_ne.getD 16 []).getD j 0]? = some (Cond.not (Cond.eq (mj_tm 16) (mj_tm j))) ∨ mj_G[(mg_ne.getD 16 []).getD j 0]? = some (Cond.not (Cond.eq (mj_tm j) (mj_tm 16)))) := by decide +kernel
theorem mj_st_ex : ∀ i, i < mj_nS → Cond.exactly (mj_tm i) "java/lang/String" ∈ mj_G := by
  intro i hi
  match i, hi with
  | 0, _ => exact mj_gm mg_exs_0
  | 1, _ => exact mj_gm mg_exs_1
  | 2, _ => exact mj_gm mg_exs_2
  | 3, _ => exact mj_gm mg_exs_3
  | 4, _ => exact mj_gm mg_exs_4
  | 5, _ => exact mj_gm mg_exs_5
  | 6, _ => exact mj_gm mg_exs_6
  | 7, _ => exact mj_gm mg_exs_7
  | 8, _ => exact mj_gm mg_exs_8
  | 9, _ => exact mj_gm mg_exs_9
  | 10, _ => exact mj_gm mg_exs_10
  | 11, _ => exact mj_gm mg_exs_11
  | 12, _ => exact mj_gm mg_exs_12
  | 13, _ => exact mj_gm mg_exs_13
  | 14, _ => exact mj_gm mg_exs_14
  | 15, _ => exact mj_gm mg_exs_15
  | 16, _ => exact mj_gm mg_exs_16
  | i + 17, h => exact absurd h (by show ¬ i + 17 < 17; omega)
theorem mj_st_co : ∀ i, i < mj_nS → Cond.eq (.field (mj_tm i) "java/lang/String" "coder" "B") (.int 0) ∈ mj_G := by
  intro i hi
  match i, hi with
  | 0, _ => exact mj_gm mg_cos_0
  | 1, _ => exact mj_gm mg_cos_1
  | 2, _ => exact mj_gm mg_cos_2
  | 3, _ => exact mj_gm mg_cos_3
  | 4, _ => exact mj_gm mg_cos_4
  | 5, _ => exact mj_gm mg_cos_5
  | 6, _ => exact mj_gm mg_cos_6
  | 7, _ => exact mj_gm mg_cos_7
  | 8, _ => exact mj_gm mg_cos_8
  | 9, _ => exact mj_gm mg_cos_9
  | 10, _ => exact mj_gm mg_cos_10
  | 11, _ => exact mj_gm mg_cos_11
  | 12, _ => exact mj_gm mg_cos_12
  | 13, _ => exact mj_gm mg_cos_13
  | 14, _ => exact mj_gm mg_cos_14
  | 15, _ => exact mj_gm mg_cos_15
  | 16, _ => exact mj_gm mg_cos_16
  | i + 17, h => exact absurd h (by show ¬ i + 17 < 17; omega)
theorem mj_st_ar : ∀ i, i < mj_nS → Cond.arrayOf (.field (mj_tm i) "java/lang/String" "value" "[B") .byte ∈ mj_G := by
  intro i hi
  match i, hi with
  | 0, _ => exact mj_gm mg_ars_0
  | 1, _ => exact mj_gm mg_ars_1
  | 2, _ => exact mj_gm mg_ars_2
  | 3, _ => exact mj_gm mg_ars_3
  | 4, _ => exact mj_gm mg_ars_4
  | 5, _ => exact mj_gm mg_ars_5
  | 6, _ => exact mj_gm mg_ars_6
  | 7, _ => exact mj_gm mg_ars_7
  | 8, _ => exact mj_gm mg_ars_8
  | 9, _ => exact mj_gm mg_ars_9
  | 10, _ => exact mj_gm mg_ars_10
  | 11, _ => exact mj_gm mg_ars_11
  | 12, _ => exact mj_gm mg_ars_12
  | 13, _ => exact mj_gm mg_ars_13
  | 14, _ => exact mj_gm mg_ars_14
  | 15, _ => exact mj_gm mg_ars_15
  | 16, _ => exact mj_gm mg_ars_16
  | i + 17, h => exact absurd h (by show ¬ i + 17 < 17; omega)
theorem mj_st_le : ∀ i, i < mj_nS → Cond.eq (.length (.field (mj_tm i) "java/lang/String" "value" "[B")) (.int (Int32.ofNat (mj_sln.getD i 0))) ∈ mj_G := by
  intro i hi
  match i, hi with
  | 0, _ => exact mj_gm mg_les_0
  | 1, _ => exact mj_gm mg_les_1
  | 2, _ => exact mj_gm mg_les_2
  | 3, _ => exact mj_gm mg_les_3
  | 4, _ => exact mj_gm mg_les_4
  | 5, _ => exact mj_gm mg_les_5
  | 6, _ => exact mj_gm mg_les_6
  | 7, _ => exact mj_gm mg_les_7
  | 8, _ => exact mj_gm mg_les_8
  | 9, _ => exact mj_gm mg_les_9
  | 10, _ => exact mj_gm mg_les_10
  | 11, _ => exact mj_gm mg_les_11
  | 12, _ => exact mj_gm mg_les_12
  | 13, _ => exact mj_gm mg_les_13
  | 14, _ => exact mj_gm mg_les_14
  | 15, _ => exact mj_gm mg_les_15
  | 16, _ => exact mj_gm mg_les_16
  | i + 17, h => exact absurd h (by show ¬ i + 17 < 17; omega)
theorem mj_st_el : ∀ i, i < mj_nS → ∀ j, j < mj_sln.getD i 0 → Cond.eq (.elem (.field (mj_tm i) "java/lang/String" "value" "[B") (.int (Int32.ofNat j))) (.int ((mj_sby.getD i []).getD j 0)) ∈ mj_G := by
  intro i hi
  match i, hi with
  | 0, _ => exact fun j hj => mj_gm (mg_els_0 j hj)
  | 1, _ => exact fun j hj => mj_gm (mg_els_1 j hj)
  | 2, _ => exact fun j hj => mj_gm (mg_els_2 j hj)
  | 3, _ => exact fun j hj => mj_gm (mg_els_3 j hj)
  | 4, _ => exact fun j hj => mj_gm (mg_els_4 j hj)
  | 5, _ => exact fun j hj => mj_gm (mg_els_5 j hj)
  | 6, _ => exact fun j hj => mj_gm (mg_els_6 j hj)
  | 7, _ => exact fun j hj => mj_gm (mg_els_7 j hj)
  | 8, _ => exact fun j hj => mj_gm (mg_els_8 j hj)
  | 9, _ => exact fun j hj => mj_gm (mg_els_9 j hj)
  | 10, _ => exact fun j hj => mj_gm (mg_els_10 j hj)
  | 11, _ => exact fun j hj => mj_gm (mg_els_11 j hj)
  | 12, _ => exact fun j hj => mj_gm (mg_els_12 j hj)
  | 13, _ => exact fun j hj => mj_gm (mg_els_13 j hj)
  | 14, _ => exact fun j hj => mj_gm (mg_els_14 j hj)
  | 15, _ => exact fun j hj => mj_gm (mg_els_15 j hj)
  | 16, _ => exact fun j hj => mj_gm (mg_els_16 j hj)
  | i + 17, h => exact absurd h (by show ¬ i + 17 < 17; omega)
theorem mj_st_ne : ∀ i, i < mj_nS → ∀ j, j < i → (Cond.not (Cond.eq (mj_tm i) (mj_tm j)) ∈ mj_G ∨ Cond.not (Cond.eq (mj_tm j) (mj_tm i)) ∈ mj_G) := by
  intro i hi
  match i, hi with
  | 0, _ => exact fun j hj => (mg_nes_0 j hj).elim (fun h => Or.inl (mj_gm h)) (fun h => Or.inr (mj_gm h))
  | 1, _ => exact fun j hj => (mg_nes_1 j hj).elim (fun h => Or.inl (mj_gm h)) (fun h => Or.inr (mj_gm h))
  | 2, _ => exact fun j hj => (mg_nes_2 j hj).elim (fun h => Or.inl (mj_gm h)) (fun h => Or.inr (mj_gm h))
  | 3, _ => exact fun j hj => (mg_nes_3 j hj).elim (fun h => Or.inl (mj_gm h)) (fun h => Or.inr (mj_gm h))
  | 4, _ => exact fun j hj => (mg_nes_4 j hj).elim (fun h => Or.inl (mj_gm h)) (fun h => Or.inr (mj_gm h))
  | 5, _ => exact fun j hj => (mg_nes_5 j hj).elim (fun h => Or.inl (mj_gm h)) (fun h => Or.inr (mj_gm h))
  | 6, _ => exact fun j hj => (mg_nes_6 j hj).elim (fun h => Or.inl (mj_gm h)) (fun h => Or.inr (mj_gm h))
  | 7, _ => exact fun j hj => (mg_nes_7 j hj).elim (fun h => Or.inl (mj_gm h)) (fun h => Or.inr (mj_gm h))
  | 8, _ => exact fun j hj => (mg_nes_8 j hj).elim (fun h => Or.inl (mj_gm h)) (fun h => Or.inr (mj_gm h))
  | 9, _ => exact fun j hj => (mg_nes_9 j hj).elim (fun h => Or.inl (mj_gm h)) (fun h => Or.inr (mj_gm h))
  | 10, _ => exact fun j hj => (mg_nes_10 j hj).elim (fun h => Or.inl (mj_gm h)) (fun h => Or.inr (mj_gm h))
  | 11, _ => exact fun j hj => (mg_nes_11 j hj).elim (fun h => Or.inl (mj_gm h)) (fun h => Or.inr (mj_gm h))
  | 12, _ => exact fun j hj => (mg_nes_12 j hj).elim (fun h => Or.inl (mj_gm h)) (fun h => Or.inr (mj_gm h))
  | 13, _ => exact fun j hj => (mg_nes_13 j hj).elim (fun h => Or.inl (mj_gm h)) (fun h => Or.inr (mj_gm h))
  | 14, _ => exact fun j hj => (mg_nes_14 j hj).elim (fun h => Or.inl (mj_gm h)) (fun h => Or.inr (mj_gm h))
  | 15, _ => exact fun j hj => (mg_nes_15 j hj).elim (fun h => Or.inl (mj_gm h)) (fun h => Or.inr (mj_gm h))
  | 16, _ => exact fun j hj => (mg_nes_16 j hj).elim (fun h => Or.inl (mj_gm h)) (fun h => Or.inr (mj_gm h))
  | i + 17, h => exact absurd h (by show ¬ i + 17 < 17; omega)
theorem mj_st_rf : ∀ q ∈ mj_SR, Cond.stringRef q.1 q.2.1 (mj_txt q.2.2) ∈ lw_tbl ∧ mj_tm q.2.2 = .string q.1 q.2.1 ∧ q.2.2 < mj_nS := by
  intro q hq
  simp only [mj_SR, List.mem_cons, List.not_mem_nil, or_false] at hq
  rcases hq with rfl | rfl | rfl | rfl | rfl | rfl | rfl | rfl | rfl | rfl | rfl | rfl | rfl | rfl | rfl | rfl | rfl
  · exact ⟨mj_at_mem (k := 646) (by decide +kernel), rfl, by decide⟩
  · exact ⟨mj_at_mem (k := 645) (by decide +kernel), rfl, by decide⟩
  · exact ⟨mj_at_mem (k := 628) (by decide +kernel), rfl, by decide⟩
  · exact ⟨mj_at_mem (k := 630) (by decide +kernel), rfl, by decide⟩
  · exact ⟨mj_at_mem (k := 644) (by decide +kernel), rfl, by decide⟩
  · exact ⟨mj_at_mem (k := 640) (by decide +kernel), rfl, by decide⟩
  · exact ⟨mj_at_mem (k := 641) (by decide +kernel), rfl, by decide⟩
  · exact ⟨mj_at_mem (k := 642) (by decide +kernel), rfl, by decide⟩
  · exact ⟨mj_at_mem (k := 469) (by decide +kernel), rfl, by decide⟩
  · exact ⟨mj_at_mem (k := 542) (by decide +kernel), rfl, by decide⟩
  · exact ⟨mj_at_mem (k := 552) (by decide +kernel), rfl, by decide⟩
  · exact ⟨mj_at_mem (k := 561) (by decide +kernel), rfl, by decide⟩
  · exact ⟨mj_at_mem (k := 566) (by decide +kernel), rfl, by decide⟩
  · exact ⟨mj_at_mem (k := 576) (by decide +kernel), rfl, by decide⟩
  · exact ⟨mj_at_mem (k := 593) (by decide +kernel), rfl, by decide⟩
  · exact ⟨mj_at_mem (k := 610) (by decide +kernel), rfl, by decide⟩
  · exact ⟨mj_at_mem (k := 611) (by decide +kernel), rfl, by decide⟩
theorem mj_st_ac : ∀ t, t < 4 → Cond.arrayClass (mj_aty t) ∈ lw_tbl := by
  intro t ht
  match t, ht with
  | 0, _ => exact mj_at_mem (k := 137) (by decide +kernel)
  | 1, _ => exact mj_at_mem (k := 138) (by decide +kernel)
  | 2, _ => exact mj_at_mem (k := 136) (by decide +kernel)
  | 3, _ => exact mj_at_mem (k := 1010) (by decide +kernel)
theorem mj_st_ao : ∀ C ∈ mj_AOs, Cond.arrayOver (.object C) ∈ lw_tbl := by
  intro C hC
  simp only [mj_AOs, List.mem_cons, List.not_mem_nil, or_false] at hC
  rcases hC with rfl | rfl | rfl | rfl
  · exact mj_at_mem (k := 185) (by decide +kernel)
  · exact mj_at_mem (k := 193) (by decide +kernel)
  · exact mj_at_mem (k := 146) (by decide +kernel)
  · exact mj_at_mem (k := 148) (by decide +kernel)
set_option maxHeartbeats 1000000 in
/-- what the small machine knows holds at the law's entry -/
theorem mj_start {b : Nat} {s : State} (hts : ∀ w ∈ lw_tbl, w.before #[Value.ref b] s = true) (hgv : (Jvm.Cond.and given_1 narrow_1).before #[Value.ref b] s = true) : ∃ (g : Nat → Nat) (D : va_G) (dA : Nat → ClassId), mj_US s.heap.size g D dA s := by
  have hG : ∀ w ∈ mj_G, w.before #[Value.ref b] s = true := flat_of_before _ hgv
  have hAo : ∀ a : Nat, a < s.heap.size → ¬ s.heap.size ≤ a := fun a h => Nat.not_le.mpr h
  have h1 : ∀ k : Nat, ∃ q : ClassId × (Nat → Nat), ∀ r : vw_C, mj_cl[k]? = some r → u_Kn s r.1 r.2.1 r.2.2 q.1 q.2 := by
    intro k
    cases hk : mj_cl[k]? with
    | none => exact ⟨(0, fun _ => 0), fun r hr => by cases hr⟩
    | some r =>
      obtain ⟨cC, iS, h⟩ := u_known hts (fun w hw => (List.mem_filter.mp (mj_cl_in k r hk w hw)).1) (hts _ (mj_cl_ins k r hk))
      exact ⟨(cC, iS), fun r' hr' => by cases hr'; exact h⟩
  obtain ⟨f, hf⟩ := Classical.axiomOfChoice h1
  have h2 : ∀ t : Nat, ∃ cA : ClassId, t < mj_nA → ArrOfT s cA (mj_aty t) ∧ va_RA s cA (mj_aty t) := by
    intro t
    by_cases ht : t < 4
    · obtain ⟨c, k, comp, q1, q2, q3⟩ := Cond.arrayClass_spec (hts _ (mj_st_ac t ht))
      refine ⟨c, fun _ => ⟨fun n z => ⟨fun k h => (by cases h), k, q2, comp, q3⟩, ?_⟩⟩
      match t, ht, q1 with
      | 0, _, q1 => exact q1
      | 1, _, q1 => exact q1
      | 2, _, q1 => exact q1
      | 3, _, q1 => exact q1
    · by_cases ht2 : t < mj_nA
      · have hex : ∃ C, mj_aty t = .object C ∧ C ∈ mj_AOs := by
          match t, ht, ht2 with

          | 4, _, _ => exact ⟨_, rfl, by decide⟩
          | 5, _, _ => exact ⟨_, rfl, by decide⟩
          | 6, _, _ => exact ⟨_, rfl, by decide⟩
          | 7, _, _ => exact ⟨_, rfl, by decide⟩
          | 0, h, _ => exact absurd (by decide) h
          | 1, h, _ => exact absurd (by decide) h
          | 2, h, _ => exact absurd (by decide) h
          | 3, h, _ => exact absurd (by decide) h
          | t + 8, _, h => exact absurd h (by show ¬ t + 8 < 8; omega)
        obtain ⟨C, hC, hin⟩ := hex
        obtain ⟨comp, c, k, q1, q2, q3, q4, q5⟩ := Cond.arrayOver_spec (hts _ (mj_st_ao C hin))
        refine ⟨c, fun _ => ?_⟩
        rw [hC]
        exact ⟨fun n z => ⟨fun k h => (by cases h), k, q3, comp, q4⟩, k, comp, q3, q4, q1, q5⟩
      · exact ⟨0, fun h => absurd h ht2⟩
  obtain ⟨dA, hdA⟩ := Classical.axiomOfChoice h2
  have hN : ∀ i : Nat, i < mj_nS → mj_sln.getD i 0 < 2 ^ 31 := fun i hi => by
    have := mj_bytes i hi
    omega
  obtain ⟨g, gv, hS, hev⟩ := vk_Sof (A := fun q => s.heap.size ≤ q) (tm := mj_tm) hN (fun i hi => hG _ (mj_st_ex i hi)) (fun i hi => hG _ (mj_st_co i hi)) (fun i hi => hG _ (mj_st_ar i hi)) (fun i hi => hG _ (mj_st_le i hi)) (fun i hi j hj => hG _ (mj_st_el i hi j hj))
    (fun i j hi hj hne => by
      rcases Nat.lt_or_gt_of_ne hne with h | h
      · exact (mj_st_ne j hj i h).elim (fun q => Or.inr (hG _ q)) (fun q => Or.inl (hG _ q))
      · exact (mj_st_ne i hi j h).elim (fun q => Or.inl (hG _ q)) (fun q => Or.inr (hG _ q))) hAo
  refine ⟨g, (fun k => (f k).1, fun k => (f k).2), dA, ⟨⟨fun c q hq => hf c q hq, fun k q hk => ?_⟩, fun w hw => ?_, fun C hC => hts _ (mj_st_ao C hC)⟩, ⟨fun q hq => ?_, gv, hS, ?_, ?_⟩, Nat.le_refl _⟩
  · rw [List.getElem?_map] at hk
    have hl : k < mj_nA := by
      rcases Nat.lt_or_ge k mj_nA with h | h
      · exact h
      · rw [List.getElem?_eq_none (by simpa using h)] at hk; cases hk
    rw [List.getElem?_range hl] at hk
    cases hk
    exact hdA k hl
  · have hn := List.mem_filter.mp hw
    have h3 := hts w hn.1
    have h4 := hn.2
    cases w <;> simp [mj_nestB] at h4
    · exact va_Nw.of rfl h3
    · exact va_Nw.of rfl h3
  · obtain ⟨r1, r2, r3⟩ := mj_st_rf q hq
    exact vk_R.of (hts _ r1) (by rw [← r2]; exact hev _ r3)
  · exact va_Zof (hts (.laysStatic "java/lang/String" "COMPACT_STRINGS" "Z") (mj_at_mem (k := 483) (by decide +kernel))) (hts (.initialized "java/lang/String") (mj_at_mem (k := 90) (by decide +kernel))) (va_eqi (hG (.eq (.static "java/lang/String" "COMPACT_STRINGS" "Z") (.int 1)) (by decide +kernel))) hAo
  · exact va_Zqof (hts (.laysStatic "jdk/internal/util/Preconditions" "SIOOBE_FORMATTER" "Ljava/util/function/BiFunction;") (mj_at_mem (k := 499) (by decide +kernel))) (hts (.initialized "jdk/internal/util/Preconditions") (mj_at_mem (k := 92) (by decide +kernel))) (hG (.isRef (.static "jdk/internal/util/Preconditions" "SIOOBE_FORMATTER" "Ljava/util/function/BiFunction;")) (by decide +kernel)) hAo
