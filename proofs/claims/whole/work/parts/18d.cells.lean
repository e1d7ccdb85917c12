theorem kd_P : mj_kd mj_KK (0) = 0 := by decide +kernel
theorem rm_P_tape : ((0, 0, 1) : Nat × Nat × Nat) ∈ mj_refs := by decide +kernel
theorem rf_P_tape {h : mj_H} (H : mj_RS h) : h.2.2 (0) 0 = some (1) := H _ (rm_P_tape)
theorem kd_P_tape : mj_kd mj_KK (1) = 102 := by decide +kernel
theorem ln_P_tape : mj_ln mj_KK (1) = 700 := by decide +kernel
theorem rm_P_words : ((0, 3, 2) : Nat × Nat × Nat) ∈ mj_refs := by decide +kernel
theorem rf_P_words {h : mj_H} (H : mj_RS h) : h.2.2 (0) 3 = some (2) := H _ (rm_P_words)
theorem rm_P_plan : ((0, 4, 9) : Nat × Nat × Nat) ∈ mj_refs := by decide +kernel
theorem rf_P_plan {h : mj_H} (H : mj_RS h) : h.2.2 (0) 4 = some (9) := H _ (rm_P_plan)
theorem rm_P_reader : ((0, 5, 564) : Nat × Nat × Nat) ∈ mj_refs := by decide +kernel
theorem rf_P_reader {h : mj_H} (H : mj_RS h) : h.2.2 (0) 5 = some (564) := H _ (rm_P_reader)
theorem rm_P_faults : ((0, 6, 565) : Nat × Nat × Nat) ∈ mj_refs := by decide +kernel
theorem rf_P_faults {h : mj_H} (H : mj_RS h) : h.2.2 (0) 6 = some (565) := H _ (rm_P_faults)
theorem rm_P_expansion : ((0, 7, 567) : Nat × Nat × Nat) ∈ mj_refs := by decide +kernel
theorem rf_P_expansion {h : mj_H} (H : mj_RS h) : h.2.2 (0) 7 = some (567) := H _ (rm_P_expansion)
theorem kd_W : mj_kd mj_KK (2) = 1 := by decide +kernel
theorem rm_W_text : ((2, 0, 3) : Nat × Nat × Nat) ∈ mj_refs := by decide +kernel
theorem rf_W_text {h : mj_H} (H : mj_RS h) : h.2.2 (2) 0 = some (3) := H _ (rm_W_text)
theorem kd_W_text : mj_kd mj_KK (3) = 102 := by decide +kernel
theorem ln_W_text : mj_ln mj_KK (3) = 700 := by decide +kernel
theorem rm_W_starts : ((2, 1, 4) : Nat × Nat × Nat) ∈ mj_refs := by decide +kernel
theorem rf_W_starts {h : mj_H} (H : mj_RS h) : h.2.2 (2) 1 = some (4) := H _ (rm_W_starts)
theorem kd_W_starts : mj_kd mj_KK (4) = 100 := by decide +kernel
theorem ln_W_starts : mj_ln mj_KK (4) = 350 := by decide +kernel
theorem rm_W_ends : ((2, 2, 5) : Nat × Nat × Nat) ∈ mj_refs := by decide +kernel
theorem rf_W_ends {h : mj_H} (H : mj_RS h) : h.2.2 (2) 2 = some (5) := H _ (rm_W_ends)
theorem kd_W_ends : mj_kd mj_KK (5) = 100 := by decide +kernel
theorem ln_W_ends : mj_ln mj_KK (5) = 350 := by decide +kernel
theorem rm_W_lines : ((2, 3, 6) : Nat × Nat × Nat) ∈ mj_refs := by decide +kernel
theorem rf_W_lines {h : mj_H} (H : mj_RS h) : h.2.2 (2) 3 = some (6) := H _ (rm_W_lines)
theorem kd_W_lines : mj_kd mj_KK (6) = 100 := by decide +kernel
theorem ln_W_lines : mj_ln mj_KK (6) = 350 := by decide +kernel
theorem rm_W_names : ((2, 4, 7) : Nat × Nat × Nat) ∈ mj_refs := by decide +kernel
theorem rf_W_names {h : mj_H} (H : mj_RS h) : h.2.2 (2) 4 = some (7) := H _ (rm_W_names)
theorem kd_W_names : mj_kd mj_KK (7) = 101 := by decide +kernel
theorem ln_W_names : mj_ln mj_KK (7) = 350 := by decide +kernel
theorem rm_W_values : ((2, 5, 8) : Nat × Nat × Nat) ∈ mj_refs := by decide +kernel
theorem rf_W_values {h : mj_H} (H : mj_RS h) : h.2.2 (2) 5 = some (8) := H _ (rm_W_values)
theorem kd_W_values : mj_kd mj_KK (8) = 101 := by decide +kernel
theorem ln_W_values : mj_ln mj_KK (8) = 350 := by decide +kernel
theorem kd_PL : mj_kd mj_KK (9) = 2 := by decide +kernel
theorem rm_PL_jobs : ((9, 0, 10) : Nat × Nat × Nat) ∈ mj_refs := by decide +kernel
theorem rf_PL_jobs {h : mj_H} (H : mj_RS h) : h.2.2 (9) 0 = some (10) := H _ (rm_PL_jobs)
theorem kd_PL_jobs : mj_kd mj_KK (10) = 106 := by decide +kernel
theorem ln_PL_jobs : mj_ln mj_KK (10) = 12 := by decide +kernel
theorem rm_PL_parts : ((9, 2, 11) : Nat × Nat × Nat) ∈ mj_refs := by decide +kernel
theorem rf_PL_parts {h : mj_H} (H : mj_RS h) : h.2.2 (9) 2 = some (11) := H _ (rm_PL_parts)
theorem kd_PL_parts : mj_kd mj_KK (11) = 107 := by decide +kernel
theorem ln_PL_parts : mj_ln mj_KK (11) = 8 := by decide +kernel
theorem kd_RD : mj_kd mj_KK (564) = 9 := by decide +kernel
theorem kd_FT : mj_kd mj_KK (565) = 10 := by decide +kernel
theorem rm_FT_reached : ((565, 0, 566) : Nat × Nat × Nat) ∈ mj_refs := by decide +kernel
theorem rf_FT_reached {h : mj_H} (H : mj_RS h) : h.2.2 (565) 0 = some (566) := H _ (rm_FT_reached)
theorem kd_FT_reached : mj_kd mj_KK (566) = 100 := by decide +kernel
theorem ln_FT_reached : mj_ln mj_KK (566) = 12 := by decide +kernel
theorem kd_EX : mj_kd mj_KK (567) = 11 := by decide +kernel
theorem rm_EX_jobs : ((567, 0, 568) : Nat × Nat × Nat) ∈ mj_refs := by decide +kernel
theorem rf_EX_jobs {h : mj_H} (H : mj_RS h) : h.2.2 (567) 0 = some (568) := H _ (rm_EX_jobs)
theorem kd_EX_jobs : mj_kd mj_KK (568) = 100 := by decide +kernel
theorem ln_EX_jobs : mj_ln mj_KK (568) = 1548 := by decide +kernel
theorem rm_EX_codes : ((567, 1, 569) : Nat × Nat × Nat) ∈ mj_refs := by decide +kernel
theorem rf_EX_codes {h : mj_H} (H : mj_RS h) : h.2.2 (567) 1 = some (569) := H _ (rm_EX_codes)
theorem kd_EX_codes : mj_kd mj_KK (569) = 100 := by decide +kernel
theorem ln_EX_codes : mj_ln mj_KK (569) = 1548 := by decide +kernel
theorem rm_EX_combination : ((567, 3, 570) : Nat × Nat × Nat) ∈ mj_refs := by decide +kernel
theorem rf_EX_combination {h : mj_H} (H : mj_RS h) : h.2.2 (567) 3 = some (570) := H _ (rm_EX_combination)
theorem kd_CB : mj_kd mj_KK (570) = 6 := by decide +kernel
theorem rm_CB_names : ((570, 0, 571) : Nat × Nat × Nat) ∈ mj_refs := by decide +kernel
theorem rf_CB_names {h : mj_H} (H : mj_RS h) : h.2.2 (570) 0 = some (571) := H _ (rm_CB_names)
theorem kd_CB_names : mj_kd mj_KK (571) = 101 := by decide +kernel
theorem ln_CB_names : mj_ln mj_KK (571) = 4 := by decide +kernel
theorem rm_CB_values : ((570, 1, 572) : Nat × Nat × Nat) ∈ mj_refs := by decide +kernel
theorem rf_CB_values {h : mj_H} (H : mj_RS h) : h.2.2 (570) 1 = some (572) := H _ (rm_CB_values)
theorem kd_CB_values : mj_kd mj_KK (572) = 101 := by decide +kernel
theorem ln_CB_values : mj_ln mj_KK (572) = 4 := by decide +kernel
theorem kd_M : mj_kd mj_KK (573) = 12 := by decide +kernel
theorem rm_M_tape : ((573, 0, 574) : Nat × Nat × Nat) ∈ mj_refs := by decide +kernel
theorem rf_M_tape {h : mj_H} (H : mj_RS h) : h.2.2 (573) 0 = some (574) := H _ (rm_M_tape)
theorem kd_M_tape : mj_kd mj_KK (574) = 100 := by decide +kernel
theorem ln_M_tape : mj_ln mj_KK (574) = 700 := by decide +kernel
theorem rm_M_source : ((573, 1, 575) : Nat × Nat × Nat) ∈ mj_refs := by decide +kernel
theorem rf_M_source {h : mj_H} (H : mj_RS h) : h.2.2 (573) 1 = some (575) := H _ (rm_M_source)
theorem kd_M_source : mj_kd mj_KK (575) = 100 := by decide +kernel
theorem ln_M_source : mj_ln mj_KK (575) = 700 := by decide +kernel
theorem rm_M_wordAt : ((573, 5, 576) : Nat × Nat × Nat) ∈ mj_refs := by decide +kernel
theorem rf_M_wordAt {h : mj_H} (H : mj_RS h) : h.2.2 (573) 5 = some (576) := H _ (rm_M_wordAt)
theorem kd_M_wordAt : mj_kd mj_KK (576) = 100 := by decide +kernel
theorem ln_M_wordAt : mj_ln mj_KK (576) = 360 := by decide +kernel
theorem rm_M_wordEnd : ((573, 6, 577) : Nat × Nat × Nat) ∈ mj_refs := by decide +kernel
theorem rf_M_wordEnd {h : mj_H} (H : mj_RS h) : h.2.2 (573) 6 = some (577) := H _ (rm_M_wordEnd)
theorem kd_M_wordEnd : mj_kd mj_KK (577) = 100 := by decide +kernel
theorem ln_M_wordEnd : mj_ln mj_KK (577) = 360 := by decide +kernel
theorem rm_M_names : ((573, 11, 578) : Nat × Nat × Nat) ∈ mj_refs := by decide +kernel
theorem rf_M_names {h : mj_H} (H : mj_RS h) : h.2.2 (573) 11 = some (578) := H _ (rm_M_names)
theorem kd_M_names : mj_kd mj_KK (578) = 101 := by decide +kernel
theorem ln_M_names : mj_ln mj_KK (578) = 20 := by decide +kernel
theorem rm_M_itemCount : ((573, 12, 579) : Nat × Nat × Nat) ∈ mj_refs := by decide +kernel
theorem rf_M_itemCount {h : mj_H} (H : mj_RS h) : h.2.2 (573) 12 = some (579) := H _ (rm_M_itemCount)
theorem kd_M_itemCount : mj_kd mj_KK (579) = 100 := by decide +kernel
theorem ln_M_itemCount : mj_ln mj_KK (579) = 20 := by decide +kernel
theorem rm_M_itemFirst : ((573, 13, 580) : Nat × Nat × Nat) ∈ mj_refs := by decide +kernel
theorem rf_M_itemFirst {h : mj_H} (H : mj_RS h) : h.2.2 (573) 13 = some (580) := H _ (rm_M_itemFirst)
theorem kd_M_itemFirst : mj_kd mj_KK (580) = 100 := by decide +kernel
theorem ln_M_itemFirst : mj_ln mj_KK (580) = 160 := by decide +kernel
theorem rm_M_itemWords : ((573, 14, 581) : Nat × Nat × Nat) ∈ mj_refs := by decide +kernel
theorem rf_M_itemWords {h : mj_H} (H : mj_RS h) : h.2.2 (573) 14 = some (581) := H _ (rm_M_itemWords)
theorem kd_M_itemWords : mj_kd mj_KK (581) = 100 := by decide +kernel
theorem ln_M_itemWords : mj_ln mj_KK (581) = 160 := by decide +kernel
theorem rm_M_itemUses : ((573, 15, 582) : Nat × Nat × Nat) ∈ mj_refs := by decide +kernel
theorem rf_M_itemUses {h : mj_H} (H : mj_RS h) : h.2.2 (573) 15 = some (582) := H _ (rm_M_itemUses)
theorem kd_M_itemUses : mj_kd mj_KK (582) = 101 := by decide +kernel
theorem ln_M_itemUses : mj_ln mj_KK (582) = 160 := by decide +kernel
theorem rm_M_keptAt : ((573, 16, 583) : Nat × Nat × Nat) ∈ mj_refs := by decide +kernel
theorem rf_M_keptAt {h : mj_H} (H : mj_RS h) : h.2.2 (573) 16 = some (583) := H _ (rm_M_keptAt)
theorem kd_M_keptAt : mj_kd mj_KK (583) = 100 := by decide +kernel
theorem ln_M_keptAt : mj_ln mj_KK (583) = 360 := by decide +kernel
theorem rm_M_keptEnd : ((573, 17, 584) : Nat × Nat × Nat) ∈ mj_refs := by decide +kernel
theorem rf_M_keptEnd {h : mj_H} (H : mj_RS h) : h.2.2 (573) 17 = some (584) := H _ (rm_M_keptEnd)
theorem kd_M_keptEnd : mj_kd mj_KK (584) = 100 := by decide +kernel
theorem ln_M_keptEnd : mj_ln mj_KK (584) = 360 := by decide +kernel
theorem rm_M_needCount : ((573, 19, 585) : Nat × Nat × Nat) ∈ mj_refs := by decide +kernel
theorem rf_M_needCount {h : mj_H} (H : mj_RS h) : h.2.2 (573) 19 = some (585) := H _ (rm_M_needCount)
theorem kd_M_needCount : mj_kd mj_KK (585) = 100 := by decide +kernel
theorem ln_M_needCount : mj_ln mj_KK (585) = 12 := by decide +kernel
theorem rm_M_axisCount : ((573, 20, 586) : Nat × Nat × Nat) ∈ mj_refs := by decide +kernel
theorem rf_M_axisCount {h : mj_H} (H : mj_RS h) : h.2.2 (573) 20 = some (586) := H _ (rm_M_axisCount)
theorem kd_M_axisCount : mj_kd mj_KK (586) = 100 := by decide +kernel
theorem ln_M_axisCount : mj_ln mj_KK (586) = 12 := by decide +kernel
theorem rm_M_valueCount : ((573, 21, 587) : Nat × Nat × Nat) ∈ mj_refs := by decide +kernel
theorem rf_M_valueCount {h : mj_H} (H : mj_RS h) : h.2.2 (573) 21 = some (587) := H _ (rm_M_valueCount)
theorem kd_M_valueCount : mj_kd mj_KK (587) = 100 := by decide +kernel
theorem ln_M_valueCount : mj_ln mj_KK (587) = 36 := by decide +kernel
theorem rm_M_needed : ((573, 22, 588) : Nat × Nat × Nat) ∈ mj_refs := by decide +kernel
theorem rf_M_needed {h : mj_H} (H : mj_RS h) : h.2.2 (573) 22 = some (588) := H _ (rm_M_needed)
theorem kd_M_needed : mj_kd mj_KK (588) = 101 := by decide +kernel
theorem ln_M_needed : mj_ln mj_KK (588) = 72 := by decide +kernel
theorem rm_M_axes : ((573, 23, 589) : Nat × Nat × Nat) ∈ mj_refs := by decide +kernel
theorem rf_M_axes {h : mj_H} (H : mj_RS h) : h.2.2 (573) 23 = some (589) := H _ (rm_M_axes)
theorem kd_M_axes : mj_kd mj_KK (589) = 101 := by decide +kernel
theorem ln_M_axes : mj_ln mj_KK (589) = 36 := by decide +kernel
theorem rm_M_values : ((573, 24, 590) : Nat × Nat × Nat) ∈ mj_refs := by decide +kernel
theorem rf_M_values {h : mj_H} (H : mj_RS h) : h.2.2 (573) 24 = some (590) := H _ (rm_M_values)
theorem kd_M_values : mj_kd mj_KK (590) = 101 := by decide +kernel
theorem ln_M_values : mj_ln mj_KK (590) = 180 := by decide +kernel
theorem rm_M_includes : ((573, 25, 591) : Nat × Nat × Nat) ∈ mj_refs := by decide +kernel
theorem rf_M_includes {h : mj_H} (H : mj_RS h) : h.2.2 (573) 25 = some (591) := H _ (rm_M_includes)
theorem kd_M_includes : mj_kd mj_KK (591) = 100 := by decide +kernel
theorem ln_M_includes : mj_ln mj_KK (591) = 12 := by decide +kernel
theorem rm_M_excludes : ((573, 26, 592) : Nat × Nat × Nat) ∈ mj_refs := by decide +kernel
theorem rf_M_excludes {h : mj_H} (H : mj_RS h) : h.2.2 (573) 26 = some (592) := H _ (rm_M_excludes)
theorem kd_M_excludes : mj_kd mj_KK (592) = 100 := by decide +kernel
theorem ln_M_excludes : mj_ln mj_KK (592) = 12 := by decide +kernel
theorem rm_M_pairCount : ((573, 27, 593) : Nat × Nat × Nat) ∈ mj_refs := by decide +kernel
theorem rf_M_pairCount {h : mj_H} (H : mj_RS h) : h.2.2 (573) 27 = some (593) := H _ (rm_M_pairCount)
theorem kd_M_pairCount : mj_kd mj_KK (593) = 100 := by decide +kernel
theorem ln_M_pairCount : mj_ln mj_KK (593) = 96 := by decide +kernel
theorem rm_M_pairName : ((573, 28, 594) : Nat × Nat × Nat) ∈ mj_refs := by decide +kernel
theorem rf_M_pairName {h : mj_H} (H : mj_RS h) : h.2.2 (573) 28 = some (594) := H _ (rm_M_pairName)
theorem kd_M_pairName : mj_kd mj_KK (594) = 101 := by decide +kernel
theorem ln_M_pairName : mj_ln mj_KK (594) = 384 := by decide +kernel
theorem rm_M_pairValue : ((573, 29, 595) : Nat × Nat × Nat) ∈ mj_refs := by decide +kernel
theorem rf_M_pairValue {h : mj_H} (H : mj_RS h) : h.2.2 (573) 29 = some (595) := H _ (rm_M_pairValue)
theorem kd_M_pairValue : mj_kd mj_KK (595) = 101 := by decide +kernel
theorem ln_M_pairValue : mj_ln mj_KK (595) = 384 := by decide +kernel
theorem rm_M_signCount : ((573, 30, 596) : Nat × Nat × Nat) ∈ mj_refs := by decide +kernel
theorem rf_M_signCount {h : mj_H} (H : mj_RS h) : h.2.2 (573) 30 = some (596) := H _ (rm_M_signCount)
theorem kd_M_signCount : mj_kd mj_KK (596) = 100 := by decide +kernel
theorem ln_M_signCount : mj_ln mj_KK (596) = 12 := by decide +kernel
theorem rm_M_signs : ((573, 31, 597) : Nat × Nat × Nat) ∈ mj_refs := by decide +kernel
theorem rf_M_signs {h : mj_H} (H : mj_RS h) : h.2.2 (573) 31 = some (597) := H _ (rm_M_signs)
theorem kd_M_signs : mj_kd mj_KK (597) = 100 := by decide +kernel
theorem ln_M_signs : mj_ln mj_KK (597) = 240 := by decide +kernel
theorem rm_M_signName : ((573, 32, 598) : Nat × Nat × Nat) ∈ mj_refs := by decide +kernel
theorem rf_M_signName {h : mj_H} (H : mj_RS h) : h.2.2 (573) 32 = some (598) := H _ (rm_M_signName)
theorem kd_M_signName : mj_kd mj_KK (598) = 101 := by decide +kernel
theorem ln_M_signName : mj_ln mj_KK (598) = 240 := by decide +kernel
theorem rm_M_signValue : ((573, 33, 599) : Nat × Nat × Nat) ∈ mj_refs := by decide +kernel
theorem rf_M_signValue {h : mj_H} (H : mj_RS h) : h.2.2 (573) 33 = some (599) := H _ (rm_M_signValue)
theorem kd_M_signValue : mj_kd mj_KK (599) = 101 := by decide +kernel
theorem ln_M_signValue : mj_ln mj_KK (599) = 240 := by decide +kernel
theorem rm_M_whose : ((573, 35, 600) : Nat × Nat × Nat) ∈ mj_refs := by decide +kernel
theorem rf_M_whose {h : mj_H} (H : mj_RS h) : h.2.2 (573) 35 = some (600) := H _ (rm_M_whose)
theorem kd_M_whose : mj_kd mj_KK (600) = 100 := by decide +kernel
theorem ln_M_whose : mj_ln mj_KK (600) = 1600 := by decide +kernel
theorem rm_M_which : ((573, 36, 601) : Nat × Nat × Nat) ∈ mj_refs := by decide +kernel
theorem rf_M_which {h : mj_H} (H : mj_RS h) : h.2.2 (573) 36 = some (601) := H _ (rm_M_which)
theorem kd_M_which : mj_kd mj_KK (601) = 100 := by decide +kernel
theorem ln_M_which : mj_ln mj_KK (601) = 1600 := by decide +kernel
theorem rm_M_pile : ((573, 37, 602) : Nat × Nat × Nat) ∈ mj_refs := by decide +kernel
theorem rf_M_pile {h : mj_H} (H : mj_RS h) : h.2.2 (573) 37 = some (602) := H _ (rm_M_pile)
theorem kd_M_pile : mj_kd mj_KK (602) = 100 := by decide +kernel
theorem ln_M_pile : mj_ln mj_KK (602) = 24 := by decide +kernel
theorem rm_M_reaches : ((573, 40, 603) : Nat × Nat × Nat) ∈ mj_refs := by decide +kernel
theorem rf_M_reaches {h : mj_H} (H : mj_RS h) : h.2.2 (573) 40 = some (603) := H _ (rm_M_reaches)
theorem kd_M_reaches : mj_kd mj_KK (603) = 103 := by decide +kernel
theorem ln_M_reaches : mj_ln mj_KK (603) = 144 := by decide +kernel
theorem rm_M_stepsOf : ((573, 41, 604) : Nat × Nat × Nat) ∈ mj_refs := by decide +kernel
theorem rf_M_stepsOf {h : mj_H} (H : mj_RS h) : h.2.2 (573) 41 = some (604) := H _ (rm_M_stepsOf)
theorem kd_M_stepsOf : mj_kd mj_KK (604) = 100 := by decide +kernel
theorem ln_M_stepsOf : mj_ln mj_KK (604) = 8 := by decide +kernel
theorem rm_M_known : ((573, 42, 605) : Nat × Nat × Nat) ∈ mj_refs := by decide +kernel
theorem rf_M_known {h : mj_H} (H : mj_RS h) : h.2.2 (573) 42 = some (605) := H _ (rm_M_known)
theorem kd_M_known : mj_kd mj_KK (605) = 103 := by decide +kernel
theorem ln_M_known : mj_ln mj_KK (605) = 24 := by decide +kernel
theorem kd_JB : ∀ j, j < 12 → mj_kd mj_KK (12 + 44 * j) = 3 := by decide +kernel
theorem rm_JB_section : ∀ j, j < 12 → ((12 + 44 * j, 0, 13 + 44 * j) : Nat × Nat × Nat) ∈ mj_refs := by decide +kernel
theorem rf_JB_section {h : mj_H} (H : mj_RS h) {j : Nat} (hj : j < 12) : h.2.2 (12 + 44 * j) 0 = some (13 + 44 * j) := H _ (rm_JB_section j hj)
theorem rm_JB_needed : ∀ j, j < 12 → ((12 + 44 * j, 1, 16 + 44 * j) : Nat × Nat × Nat) ∈ mj_refs := by decide +kernel
theorem rf_JB_needed {h : mj_H} (H : mj_RS h) {j : Nat} (hj : j < 12) : h.2.2 (12 + 44 * j) 1 = some (16 + 44 * j) := H _ (rm_JB_needed j hj)
theorem kd_JB_needed : ∀ j, j < 12 → mj_kd mj_KK (16 + 44 * j) = 101 := by decide +kernel
theorem ln_JB_needed : ∀ j, j < 12 → mj_ln mj_KK (16 + 44 * j) = 6 := by decide +kernel
theorem rm_JB_axes : ∀ j, j < 12 → ((12 + 44 * j, 3, 17 + 44 * j) : Nat × Nat × Nat) ∈ mj_refs := by decide +kernel
theorem rf_JB_axes {h : mj_H} (H : mj_RS h) {j : Nat} (hj : j < 12) : h.2.2 (12 + 44 * j) 3 = some (17 + 44 * j) := H _ (rm_JB_axes j hj)
theorem kd_JB_axes : ∀ j, j < 12 → mj_kd mj_KK (17 + 44 * j) = 104 := by decide +kernel
theorem ln_JB_axes : ∀ j, j < 12 → mj_ln mj_KK (17 + 44 * j) = 3 := by decide +kernel
theorem rm_JB_includes : ∀ j, j < 12 → ((12 + 44 * j, 5, 18 + 44 * j) : Nat × Nat × Nat) ∈ mj_refs := by decide +kernel
theorem rf_JB_includes {h : mj_H} (H : mj_RS h) {j : Nat} (hj : j < 12) : h.2.2 (12 + 44 * j) 5 = some (18 + 44 * j) := H _ (rm_JB_includes j hj)
theorem rm_JB_excludes : ∀ j, j < 12 → ((12 + 44 * j, 6, 32 + 44 * j) : Nat × Nat × Nat) ∈ mj_refs := by decide +kernel
theorem rf_JB_excludes {h : mj_H} (H : mj_RS h) {j : Nat} (hj : j < 12) : h.2.2 (12 + 44 * j) 6 = some (32 + 44 * j) := H _ (rm_JB_excludes j hj)
theorem rm_JB_condition : ∀ j, j < 12 → ((12 + 44 * j, 7, 46 + 44 * j) : Nat × Nat × Nat) ∈ mj_refs := by decide +kernel
theorem rf_JB_condition {h : mj_H} (H : mj_RS h) {j : Nat} (hj : j < 12) : h.2.2 (12 + 44 * j) 7 = some (46 + 44 * j) := H _ (rm_JB_condition j hj)
theorem kd_JS : ∀ j, j < 12 → mj_kd mj_KK (13 + 44 * j) = 4 := by decide +kernel
theorem rm_JS_used : ∀ j, j < 12 → ((13 + 44 * j, 1, 14 + 44 * j) : Nat × Nat × Nat) ∈ mj_refs := by decide +kernel
theorem rf_JS_used {h : mj_H} (H : mj_RS h) {j : Nat} (hj : j < 12) : h.2.2 (13 + 44 * j) 1 = some (14 + 44 * j) := H _ (rm_JS_used j hj)
theorem kd_JS_used : ∀ j, j < 12 → mj_kd mj_KK (14 + 44 * j) = 101 := by decide +kernel
theorem ln_JS_used : ∀ j, j < 12 → mj_ln mj_KK (14 + 44 * j) = 8 := by decide +kernel
theorem rm_JS_stepWords : ∀ j, j < 12 → ((13 + 44 * j, 2, 15 + 44 * j) : Nat × Nat × Nat) ∈ mj_refs := by decide +kernel
theorem rf_JS_stepWords {h : mj_H} (H : mj_RS h) {j : Nat} (hj : j < 12) : h.2.2 (13 + 44 * j) 2 = some (15 + 44 * j) := H _ (rm_JS_stepWords j hj)
theorem kd_JS_stepWords : ∀ j, j < 12 → mj_kd mj_KK (15 + 44 * j) = 100 := by decide +kernel
theorem ln_JS_stepWords : ∀ j, j < 12 → mj_ln mj_KK (15 + 44 * j) = 8 := by decide +kernel
theorem kd_PS : ∀ j, j < 8 → mj_kd mj_KK (540 + 3 * j) = 4 := by decide +kernel
theorem rm_PS_used : ∀ j, j < 8 → ((540 + 3 * j, 1, 541 + 3 * j) : Nat × Nat × Nat) ∈ mj_refs := by decide +kernel
theorem rf_PS_used {h : mj_H} (H : mj_RS h) {j : Nat} (hj : j < 8) : h.2.2 (540 + 3 * j) 1 = some (541 + 3 * j) := H _ (rm_PS_used j hj)
theorem kd_PS_used : ∀ j, j < 8 → mj_kd mj_KK (541 + 3 * j) = 101 := by decide +kernel
theorem ln_PS_used : ∀ j, j < 8 → mj_ln mj_KK (541 + 3 * j) = 8 := by decide +kernel
theorem rm_PS_stepWords : ∀ j, j < 8 → ((540 + 3 * j, 2, 542 + 3 * j) : Nat × Nat × Nat) ∈ mj_refs := by decide +kernel
theorem rf_PS_stepWords {h : mj_H} (H : mj_RS h) {j : Nat} (hj : j < 8) : h.2.2 (540 + 3 * j) 2 = some (542 + 3 * j) := H _ (rm_PS_stepWords j hj)
theorem kd_PS_stepWords : ∀ j, j < 8 → mj_kd mj_KK (542 + 3 * j) = 100 := by decide +kernel
theorem ln_PS_stepWords : ∀ j, j < 8 → mj_ln mj_KK (542 + 3 * j) = 8 := by decide +kernel
theorem kd_IN : ∀ j, j < 12 → mj_kd mj_KK (18 + 44 * j) = 5 := by decide +kernel
theorem rm_IN_rows : ∀ j, j < 12 → ((18 + 44 * j, 0, 19 + 44 * j) : Nat × Nat × Nat) ∈ mj_refs := by decide +kernel
theorem rf_IN_rows {h : mj_H} (H : mj_RS h) {j : Nat} (hj : j < 12) : h.2.2 (18 + 44 * j) 0 = some (19 + 44 * j) := H _ (rm_IN_rows j hj)
theorem kd_IN_rows : ∀ j, j < 12 → mj_kd mj_KK (19 + 44 * j) = 105 := by decide +kernel
theorem ln_IN_rows : ∀ j, j < 12 → mj_ln mj_KK (19 + 44 * j) = 4 := by decide +kernel
theorem kd_EC : ∀ j, j < 12 → mj_kd mj_KK (32 + 44 * j) = 5 := by decide +kernel
theorem rm_EC_rows : ∀ j, j < 12 → ((32 + 44 * j, 0, 33 + 44 * j) : Nat × Nat × Nat) ∈ mj_refs := by decide +kernel
theorem rf_EC_rows {h : mj_H} (H : mj_RS h) {j : Nat} (hj : j < 12) : h.2.2 (32 + 44 * j) 0 = some (33 + 44 * j) := H _ (rm_EC_rows j hj)
theorem kd_EC_rows : ∀ j, j < 12 → mj_kd mj_KK (33 + 44 * j) = 105 := by decide +kernel
theorem ln_EC_rows : ∀ j, j < 12 → mj_ln mj_KK (33 + 44 * j) = 4 := by decide +kernel
theorem kd_IR : ∀ j, j < 12 → ∀ r, r < 4 → mj_kd mj_KK (20 + 44 * j + 3 * r) = 6 := by decide +kernel
theorem rm_IR_names : ∀ j, j < 12 → ∀ r, r < 4 → ((20 + 44 * j + 3 * r, 0, 21 + 44 * j + 3 * r) : Nat × Nat × Nat) ∈ mj_refs := by decide +kernel
theorem rf_IR_names {h : mj_H} (H : mj_RS h) {j : Nat} (hj : j < 12) {r : Nat} (hr : r < 4) : h.2.2 (20 + 44 * j + 3 * r) 0 = some (21 + 44 * j + 3 * r) := H _ (rm_IR_names j hj r hr)
theorem kd_IR_names : ∀ j, j < 12 → ∀ r, r < 4 → mj_kd mj_KK (21 + 44 * j + 3 * r) = 101 := by decide +kernel
theorem ln_IR_names : ∀ j, j < 12 → ∀ r, r < 4 → mj_ln mj_KK (21 + 44 * j + 3 * r) = 4 := by decide +kernel
theorem rm_IR_values : ∀ j, j < 12 → ∀ r, r < 4 → ((20 + 44 * j + 3 * r, 1, 22 + 44 * j + 3 * r) : Nat × Nat × Nat) ∈ mj_refs := by decide +kernel
theorem rf_IR_values {h : mj_H} (H : mj_RS h) {j : Nat} (hj : j < 12) {r : Nat} (hr : r < 4) : h.2.2 (20 + 44 * j + 3 * r) 1 = some (22 + 44 * j + 3 * r) := H _ (rm_IR_values j hj r hr)
theorem kd_IR_values : ∀ j, j < 12 → ∀ r, r < 4 → mj_kd mj_KK (22 + 44 * j + 3 * r) = 101 := by decide +kernel
theorem ln_IR_values : ∀ j, j < 12 → ∀ r, r < 4 → mj_ln mj_KK (22 + 44 * j + 3 * r) = 4 := by decide +kernel
theorem kd_ER : ∀ j, j < 12 → ∀ r, r < 4 → mj_kd mj_KK (34 + 44 * j + 3 * r) = 6 := by decide +kernel
theorem rm_ER_names : ∀ j, j < 12 → ∀ r, r < 4 → ((34 + 44 * j + 3 * r, 0, 35 + 44 * j + 3 * r) : Nat × Nat × Nat) ∈ mj_refs := by decide +kernel
theorem rf_ER_names {h : mj_H} (H : mj_RS h) {j : Nat} (hj : j < 12) {r : Nat} (hr : r < 4) : h.2.2 (34 + 44 * j + 3 * r) 0 = some (35 + 44 * j + 3 * r) := H _ (rm_ER_names j hj r hr)
theorem kd_ER_names : ∀ j, j < 12 → ∀ r, r < 4 → mj_kd mj_KK (35 + 44 * j + 3 * r) = 101 := by decide +kernel
theorem ln_ER_names : ∀ j, j < 12 → ∀ r, r < 4 → mj_ln mj_KK (35 + 44 * j + 3 * r) = 4 := by decide +kernel
theorem rm_ER_values : ∀ j, j < 12 → ∀ r, r < 4 → ((34 + 44 * j + 3 * r, 1, 36 + 44 * j + 3 * r) : Nat × Nat × Nat) ∈ mj_refs := by decide +kernel
theorem rf_ER_values {h : mj_H} (H : mj_RS h) {j : Nat} (hj : j < 12) {r : Nat} (hr : r < 4) : h.2.2 (34 + 44 * j + 3 * r) 1 = some (36 + 44 * j + 3 * r) := H _ (rm_ER_values j hj r hr)
theorem kd_ER_values : ∀ j, j < 12 → ∀ r, r < 4 → mj_kd mj_KK (36 + 44 * j + 3 * r) = 101 := by decide +kernel
theorem ln_ER_values : ∀ j, j < 12 → ∀ r, r < 4 → mj_ln mj_KK (36 + 44 * j + 3 * r) = 4 := by decide +kernel
theorem kd_CD : ∀ j, j < 12 → mj_kd mj_KK (46 + 44 * j) = 7 := by decide +kernel
theorem rm_CD_kinds : ∀ j, j < 12 → ((46 + 44 * j, 0, 47 + 44 * j) : Nat × Nat × Nat) ∈ mj_refs := by decide +kernel
theorem rf_CD_kinds {h : mj_H} (H : mj_RS h) {j : Nat} (hj : j < 12) : h.2.2 (46 + 44 * j) 0 = some (47 + 44 * j) := H _ (rm_CD_kinds j hj)
theorem kd_CD_kinds : ∀ j, j < 12 → mj_kd mj_KK (47 + 44 * j) = 100 := by decide +kernel
theorem ln_CD_kinds : ∀ j, j < 12 → mj_ln mj_KK (47 + 44 * j) = 20 := by decide +kernel
theorem rm_CD_names : ∀ j, j < 12 → ((46 + 44 * j, 1, 48 + 44 * j) : Nat × Nat × Nat) ∈ mj_refs := by decide +kernel
theorem rf_CD_names {h : mj_H} (H : mj_RS h) {j : Nat} (hj : j < 12) : h.2.2 (46 + 44 * j) 1 = some (48 + 44 * j) := H _ (rm_CD_names j hj)
theorem kd_CD_names : ∀ j, j < 12 → mj_kd mj_KK (48 + 44 * j) = 101 := by decide +kernel
theorem ln_CD_names : ∀ j, j < 12 → mj_ln mj_KK (48 + 44 * j) = 20 := by decide +kernel
theorem rm_CD_values : ∀ j, j < 12 → ((46 + 44 * j, 2, 49 + 44 * j) : Nat × Nat × Nat) ∈ mj_refs := by decide +kernel
theorem rf_CD_values {h : mj_H} (H : mj_RS h) {j : Nat} (hj : j < 12) : h.2.2 (46 + 44 * j) 2 = some (49 + 44 * j) := H _ (rm_CD_values j hj)
theorem kd_CD_values : ∀ j, j < 12 → mj_kd mj_KK (49 + 44 * j) = 101 := by decide +kernel
theorem ln_CD_values : ∀ j, j < 12 → mj_ln mj_KK (49 + 44 * j) = 20 := by decide +kernel
theorem kd_AX : ∀ j, j < 12 → ∀ r, r < 3 → mj_kd mj_KK (50 + 44 * j + 2 * r) = 8 := by decide +kernel
theorem rm_AX_values : ∀ j, j < 12 → ∀ r, r < 3 → ((50 + 44 * j + 2 * r, 1, 51 + 44 * j + 2 * r) : Nat × Nat × Nat) ∈ mj_refs := by decide +kernel
theorem rf_AX_values {h : mj_H} (H : mj_RS h) {j : Nat} (hj : j < 12) {r : Nat} (hr : r < 3) : h.2.2 (50 + 44 * j + 2 * r) 1 = some (51 + 44 * j + 2 * r) := H _ (rm_AX_values j hj r hr)
theorem kd_AX_values : ∀ j, j < 12 → ∀ r, r < 3 → mj_kd mj_KK (51 + 44 * j + 2 * r) = 101 := by decide +kernel
theorem ln_AX_values : ∀ j, j < 12 → ∀ r, r < 3 → mj_ln mj_KK (51 + 44 * j + 2 * r) = 5 := by decide +kernel
theorem rm_jobs : ∀ j, j < 12 → ((10, j, 12 + 44 * j) : Nat × Nat × Nat) ∈ mj_refs := by decide +kernel
theorem rf_jobs {h : mj_H} (H : mj_RS h) {j : Nat} (hj : j < 12) : h.2.2 10 j = some (12 + 44 * j) := H _ (rm_jobs j hj)
theorem rm_parts : ∀ j, j < 8 → ((11, j, 540 + 3 * j) : Nat × Nat × Nat) ∈ mj_refs := by decide +kernel
theorem rf_parts {h : mj_H} (H : mj_RS h) {j : Nat} (hj : j < 8) : h.2.2 11 j = some (540 + 3 * j) := H _ (rm_parts j hj)
theorem rm_axes : ∀ j, j < 12 → ∀ r, r < 3 → ((17 + 44 * j, r, 50 + 44 * j + 2 * r) : Nat × Nat × Nat) ∈ mj_refs := by decide +kernel
theorem rf_axes {h : mj_H} (H : mj_RS h) {j r : Nat} (hj : j < 12) (hr : r < 3) : h.2.2 (17 + 44 * j) r = some (50 + 44 * j + 2 * r) := H _ (rm_axes j hj r hr)
theorem rm_irows : ∀ j, j < 12 → ∀ r, r < 4 → ((19 + 44 * j, r, 20 + 44 * j + 3 * r) : Nat × Nat × Nat) ∈ mj_refs := by decide +kernel
theorem rf_irows {h : mj_H} (H : mj_RS h) {j r : Nat} (hj : j < 12) (hr : r < 4) : h.2.2 (19 + 44 * j) r = some (20 + 44 * j + 3 * r) := H _ (rm_irows j hj r hr)
theorem rm_erows : ∀ j, j < 12 → ∀ r, r < 4 → ((33 + 44 * j, r, 34 + 44 * j + 3 * r) : Nat × Nat × Nat) ∈ mj_refs := by decide +kernel
theorem rf_erows {h : mj_H} (H : mj_RS h) {j r : Nat} (hj : j < 12) (hr : r < 4) : h.2.2 (33 + 44 * j) r = some (34 + 44 * j + 3 * r) := H _ (rm_erows j hj r hr)
theorem mj_RS_int {h : mj_H} (H : mj_RS h) (a i : Nat) (v : Int32) : mj_RS (mj_w h a i (.int v)) := H
theorem mj_RS_long {h : mj_H} (H : mj_RS h) (a i : Nat) (v : Int64) : mj_RS (mj_w h a i (.long v)) := H
