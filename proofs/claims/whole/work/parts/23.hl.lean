theorem sv_L_X2_area_36 : mm_SV RL 36 RX2 yX2_area cX2_area 4 none 3 := ⟨tw308, tw309, tw310, tw1, tw311, rfl, ⟨by decide +kernel, by decide +kernel, by decide +kernel⟩⟩
theorem sv_L_X2_close_33 : mm_SV RL 33 RX2 yX2_close cX2_close 3 none 2 := ⟨tw301, tw302, tw303, tw1, tw304, rfl, ⟨by decide +kernel, by decide +kernel, by decide +kernel⟩⟩
theorem sv_L_X2_coded_72 : mm_SV RL 72 RX2 yX2_coded cX2_coded 5 (some .int) 2 := ⟨tw450, tw451, tw452, tw1, tw453, rfl, ⟨by decide +kernel, by decide +kernel, by decide +kernel⟩⟩
theorem sv_L_X2_count_75 : mm_SV RL 75 RX2 yX2_count cX2_count 2 (some .int) 1 := ⟨tw457, tw458, tw459, tw1, tw460, rfl, ⟨by decide +kernel, by decide +kernel, by decide +kernel⟩⟩
theorem sv_L_X2_found_54 : mm_SV RL 54 RX2 yX2_found cX2_found 5 (some .int) 3 := ⟨tw391, tw392, tw393, tw1, tw394, rfl, ⟨by decide +kernel, by decide +kernel, by decide +kernel⟩⟩
theorem sv_L_X2_has_43 : mm_SV RL 43 RX2 yX2_has cX2_has 4 (some .int) 3 := ⟨tw334, tw335, tw336, tw1, tw337, rfl, ⟨by decide +kernel, by decide +kernel, by decide +kernel⟩⟩
theorem sv_L_X2_in_47 : mm_SV RL 47 RX2 yX2_in cX2_in 3 (some .int) 2 := ⟨tw373, tw374, tw375, tw1, tw376, rfl, ⟨by decide +kernel, by decide +kernel, by decide +kernel⟩⟩
theorem sv_L_X2_incident_63 : mm_SV RL 63 RX2 yX2_incident cX2_incident 3 (some .int) 2 := ⟨tw420, tw421, tw422, tw1, tw423, rfl, ⟨by decide +kernel, by decide +kernel, by decide +kernel⟩⟩
theorem sv_L_X2_kind_7 : mm_SV RL 7 RX2 yX2_kind cX2_kind 3 (some .int) 1 := ⟨tw114, tw115, tw116, tw1, tw117, rfl, ⟨by decide +kernel, by decide +kernel, by decide +kernel⟩⟩
theorem sv_L_X2_missing_60 : mm_SV RL 60 RX2 yX2_missing cX2_missing 4 (some .int) 3 := ⟨tw413, tw414, tw415, tw1, tw416, rfl, ⟨by decide +kernel, by decide +kernel, by decide +kernel⟩⟩
theorem sv_L_X2_need_29 : mm_SV RL 29 RX2 yX2_need cX2_need 6 none 5 := ⟨tw294, tw295, tw296, tw1, tw297, rfl, ⟨by decide +kernel, by decide +kernel, by decide +kernel⟩⟩
theorem sv_L_X2_open_51 : mm_SV RL 51 RX2 yX2_open cX2_open 6 (some .int) 3 := ⟨tw384, tw385, tw386, tw1, tw387, rfl, ⟨by decide +kernel, by decide +kernel, by decide +kernel⟩⟩
theorem sv_L_X2_parent_17 : mm_SV RL 17 RX2 yX2_parent cX2_parent 3 none 2 := ⟨tw224, tw225, tw226, tw1, tw227, rfl, ⟨by decide +kernel, by decide +kernel, by decide +kernel⟩⟩
theorem sv_L_X2_says_23 : mm_SV RL 23 RX2 yX2_says cX2_says 5 none 4 := ⟨tw255, tw256, tw257, tw1, tw258, rfl, ⟨by decide +kernel, by decide +kernel, by decide +kernel⟩⟩
theorem sv_L_X2_send_57 : mm_SV RL 57 RX2 yX2_send cX2_send 5 (some .int) 3 := ⟨tw406, tw407, tw408, tw1, tw409, rfl, ⟨by decide +kernel, by decide +kernel, by decide +kernel⟩⟩
theorem sv_L_X2_uncovered_69 : mm_SV RL 69 RX2 yX2_uncovered cX2_uncovered 6 (some .int) 2 := ⟨tw435, tw436, tw437, tw1, tw438, rfl, ⟨by decide +kernel, by decide +kernel, by decide +kernel⟩⟩
theorem sv_L_X2_unit_66 : mm_SV RL 66 RX2 yX2_unit cX2_unit 3 none 2 := ⟨tw427, tw428, tw429, tw1, tw430, rfl, ⟨by decide +kernel, by decide +kernel, by decide +kernel⟩⟩
theorem sv_L_X2_upgrade_40 : mm_SV RL 40 RX2 yX2_upgrade cX2_upgrade 4 none 3 := ⟨tw327, tw328, tw329, tw1, tw330, rfl, ⟨by decide +kernel, by decide +kernel, by decide +kernel⟩⟩
theorem dL_kind_0 : decode cL_kind 0 = .ok (.aload_n 2, 1) := by decide +kernel
theorem dL_kind_1 : decode cL_kind 1 = .ok (.iconst 0, 1) := by decide +kernel
theorem dL_kind_2 : decode cL_kind 2 = .ok (.aload_n 0, 1) := by decide +kernel
theorem dL_kind_3 : decode cL_kind 3 = .ok (.iload_n 1, 1) := by decide +kernel
theorem dL_kind_4 : decode cL_kind 4 = .ok (.invokevirtual 7, 3) := by decide +kernel
theorem dL_kind_7 : decode cL_kind 7 = .ok (.i2l, 1) := by decide +kernel
theorem dL_kind_8 : decode cL_kind 8 = .ok (.lastore, 1) := by decide +kernel
theorem dL_kind_9 : decode cL_kind 9 = .ok (.goto 9, 3) := by decide +kernel
theorem dL_kind_12 : decode cL_kind 12 = .ok (.astore_n 3, 1) := by decide +kernel
theorem dL_kind_13 : decode cL_kind 13 = .ok (.iconst 1, 1) := by decide +kernel
theorem dL_kind_14 : decode cL_kind 14 = .ok (.ireturn, 1) := by decide +kernel
theorem dL_kind_15 : decode cL_kind 15 = .ok (.astore_n 3, 1) := by decide +kernel
theorem dL_kind_16 : decode cL_kind 16 = .ok (.iconst 2, 1) := by decide +kernel
theorem dL_kind_17 : decode cL_kind 17 = .ok (.ireturn, 1) := by decide +kernel
theorem dL_kind_18 : decode cL_kind 18 = .ok (.iconst 0, 1) := by decide +kernel
theorem dL_kind_19 : decode cL_kind 19 = .ok (.ireturn, 1) := by decide +kernel
theorem dL_parent_0 : decode cL_parent 0 = .ok (.aload_n 0, 1) := by decide +kernel
theorem dL_parent_1 : decode cL_parent 1 = .ok (.iload_n 1, 1) := by decide +kernel
theorem dL_parent_2 : decode cL_parent 2 = .ok (.iload_n 2, 1) := by decide +kernel
theorem dL_parent_3 : decode cL_parent 3 = .ok (.invokevirtual 17, 3) := by decide +kernel
theorem dL_parent_6 : decode cL_parent 6 = .ok (.goto 9, 3) := by decide +kernel
theorem dL_parent_9 : decode cL_parent 9 = .ok (.astore_n 3, 1) := by decide +kernel
theorem dL_parent_10 : decode cL_parent 10 = .ok (.iconst 1, 1) := by decide +kernel
theorem dL_parent_11 : decode cL_parent 11 = .ok (.ireturn, 1) := by decide +kernel
theorem dL_parent_12 : decode cL_parent 12 = .ok (.astore_n 3, 1) := by decide +kernel
theorem dL_parent_13 : decode cL_parent 13 = .ok (.iconst 2, 1) := by decide +kernel
theorem dL_parent_14 : decode cL_parent 14 = .ok (.ireturn, 1) := by decide +kernel
theorem dL_parent_15 : decode cL_parent 15 = .ok (.iconst 0, 1) := by decide +kernel
theorem dL_parent_16 : decode cL_parent 16 = .ok (.ireturn, 1) := by decide +kernel
theorem dL_says_0 : decode cL_says 0 = .ok (.aload_n 0, 1) := by decide +kernel
theorem dL_says_1 : decode cL_says 1 = .ok (.iload_n 1, 1) := by decide +kernel
theorem dL_says_2 : decode cL_says 2 = .ok (.iload_n 2, 1) := by decide +kernel
theorem dL_says_3 : decode cL_says 3 = .ok (.iload_n 3, 1) := by decide +kernel
theorem dL_says_4 : decode cL_says 4 = .ok (.iload 4, 2) := by decide +kernel
theorem dL_says_6 : decode cL_says 6 = .ok (.invokevirtual 23, 3) := by decide +kernel
theorem dL_says_9 : decode cL_says 9 = .ok (.goto 15, 3) := by decide +kernel
theorem dL_says_12 : decode cL_says 12 = .ok (.astore 5, 2) := by decide +kernel
theorem dL_says_14 : decode cL_says 14 = .ok (.iconst 1, 1) := by decide +kernel
theorem dL_says_15 : decode cL_says 15 = .ok (.ireturn, 1) := by decide +kernel
theorem dL_says_16 : decode cL_says 16 = .ok (.astore 5, 2) := by decide +kernel
theorem dL_says_18 : decode cL_says 18 = .ok (.iconst 2, 1) := by decide +kernel
theorem dL_says_19 : decode cL_says 19 = .ok (.ireturn, 1) := by decide +kernel
theorem dL_says_20 : decode cL_says 20 = .ok (.astore 5, 2) := by decide +kernel
theorem dL_says_22 : decode cL_says 22 = .ok (.iconst 3, 1) := by decide +kernel
theorem dL_says_23 : decode cL_says 23 = .ok (.ireturn, 1) := by decide +kernel
theorem dL_says_24 : decode cL_says 24 = .ok (.iconst 0, 1) := by decide +kernel
theorem dL_says_25 : decode cL_says 25 = .ok (.ireturn, 1) := by decide +kernel
theorem dL_need_0 : decode cL_need 0 = .ok (.aload_n 0, 1) := by decide +kernel
theorem dL_need_1 : decode cL_need 1 = .ok (.iload_n 1, 1) := by decide +kernel
theorem dL_need_2 : decode cL_need 2 = .ok (.iload_n 2, 1) := by decide +kernel
theorem dL_need_3 : decode cL_need 3 = .ok (.iload_n 3, 1) := by decide +kernel
theorem dL_need_4 : decode cL_need 4 = .ok (.iload 4, 2) := by decide +kernel
theorem dL_need_6 : decode cL_need 6 = .ok (.iload 5, 2) := by decide +kernel
theorem dL_need_8 : decode cL_need 8 = .ok (.invokevirtual 29, 3) := by decide +kernel
theorem dL_need_11 : decode cL_need 11 = .ok (.goto 15, 3) := by decide +kernel
theorem dL_need_14 : decode cL_need 14 = .ok (.astore 6, 2) := by decide +kernel
theorem dL_need_16 : decode cL_need 16 = .ok (.iconst 1, 1) := by decide +kernel
theorem dL_need_17 : decode cL_need 17 = .ok (.ireturn, 1) := by decide +kernel
theorem dL_need_18 : decode cL_need 18 = .ok (.astore 6, 2) := by decide +kernel
theorem dL_need_20 : decode cL_need 20 = .ok (.iconst 2, 1) := by decide +kernel
theorem dL_need_21 : decode cL_need 21 = .ok (.ireturn, 1) := by decide +kernel
theorem dL_need_22 : decode cL_need 22 = .ok (.astore 6, 2) := by decide +kernel
theorem dL_need_24 : decode cL_need 24 = .ok (.iconst 3, 1) := by decide +kernel
theorem dL_need_25 : decode cL_need 25 = .ok (.ireturn, 1) := by decide +kernel
theorem dL_need_26 : decode cL_need 26 = .ok (.iconst 0, 1) := by decide +kernel
theorem dL_need_27 : decode cL_need 27 = .ok (.ireturn, 1) := by decide +kernel
theorem dL_close_0 : decode cL_close 0 = .ok (.aload_n 0, 1) := by decide +kernel
theorem dL_close_1 : decode cL_close 1 = .ok (.iload_n 1, 1) := by decide +kernel
theorem dL_close_2 : decode cL_close 2 = .ok (.iload_n 2, 1) := by decide +kernel
theorem dL_close_3 : decode cL_close 3 = .ok (.invokevirtual 33, 3) := by decide +kernel
theorem dL_close_6 : decode cL_close 6 = .ok (.goto 9, 3) := by decide +kernel
theorem dL_close_9 : decode cL_close 9 = .ok (.astore_n 3, 1) := by decide +kernel
theorem dL_close_10 : decode cL_close 10 = .ok (.iconst 1, 1) := by decide +kernel
theorem dL_close_11 : decode cL_close 11 = .ok (.ireturn, 1) := by decide +kernel
theorem dL_close_12 : decode cL_close 12 = .ok (.astore_n 3, 1) := by decide +kernel
theorem dL_close_13 : decode cL_close 13 = .ok (.iconst 2, 1) := by decide +kernel
theorem dL_close_14 : decode cL_close 14 = .ok (.ireturn, 1) := by decide +kernel
theorem dL_close_15 : decode cL_close 15 = .ok (.iconst 0, 1) := by decide +kernel
theorem dL_close_16 : decode cL_close 16 = .ok (.ireturn, 1) := by decide +kernel
theorem dL_area_0 : decode cL_area 0 = .ok (.aload_n 0, 1) := by decide +kernel
theorem dL_area_1 : decode cL_area 1 = .ok (.iload_n 1, 1) := by decide +kernel
theorem dL_area_2 : decode cL_area 2 = .ok (.iload_n 2, 1) := by decide +kernel
theorem dL_area_3 : decode cL_area 3 = .ok (.iload_n 3, 1) := by decide +kernel
theorem dL_area_4 : decode cL_area 4 = .ok (.invokevirtual 36, 3) := by decide +kernel
theorem dL_area_7 : decode cL_area 7 = .ok (.goto 15, 3) := by decide +kernel
theorem dL_area_10 : decode cL_area 10 = .ok (.astore 4, 2) := by decide +kernel
theorem dL_area_12 : decode cL_area 12 = .ok (.iconst 1, 1) := by decide +kernel
theorem dL_area_13 : decode cL_area 13 = .ok (.ireturn, 1) := by decide +kernel
theorem dL_area_14 : decode cL_area 14 = .ok (.astore 4, 2) := by decide +kernel
theorem dL_area_16 : decode cL_area 16 = .ok (.iconst 2, 1) := by decide +kernel
theorem dL_area_17 : decode cL_area 17 = .ok (.ireturn, 1) := by decide +kernel
theorem dL_area_18 : decode cL_area 18 = .ok (.astore 4, 2) := by decide +kernel
theorem dL_area_20 : decode cL_area 20 = .ok (.iconst 3, 1) := by decide +kernel
theorem dL_area_21 : decode cL_area 21 = .ok (.ireturn, 1) := by decide +kernel
theorem dL_area_22 : decode cL_area 22 = .ok (.iconst 0, 1) := by decide +kernel
theorem dL_area_23 : decode cL_area 23 = .ok (.ireturn, 1) := by decide +kernel
theorem dL_upgrade_0 : decode cL_upgrade 0 = .ok (.aload_n 0, 1) := by decide +kernel
theorem dL_upgrade_1 : decode cL_upgrade 1 = .ok (.iload_n 1, 1) := by decide +kernel
theorem dL_upgrade_2 : decode cL_upgrade 2 = .ok (.iload_n 2, 1) := by decide +kernel
theorem dL_upgrade_3 : decode cL_upgrade 3 = .ok (.iload_n 3, 1) := by decide +kernel
theorem dL_upgrade_4 : decode cL_upgrade 4 = .ok (.invokevirtual 40, 3) := by decide +kernel
theorem dL_upgrade_7 : decode cL_upgrade 7 = .ok (.goto 19, 3) := by decide +kernel
theorem dL_upgrade_10 : decode cL_upgrade 10 = .ok (.astore 4, 2) := by decide +kernel
theorem dL_upgrade_12 : decode cL_upgrade 12 = .ok (.iconst 1, 1) := by decide +kernel
theorem dL_upgrade_13 : decode cL_upgrade 13 = .ok (.ireturn, 1) := by decide +kernel
theorem dL_upgrade_14 : decode cL_upgrade 14 = .ok (.astore 4, 2) := by decide +kernel
theorem dL_upgrade_16 : decode cL_upgrade 16 = .ok (.iconst 2, 1) := by decide +kernel
theorem dL_upgrade_17 : decode cL_upgrade 17 = .ok (.ireturn, 1) := by decide +kernel
theorem dL_upgrade_18 : decode cL_upgrade 18 = .ok (.astore 4, 2) := by decide +kernel
theorem dL_upgrade_20 : decode cL_upgrade 20 = .ok (.iconst 3, 1) := by decide +kernel
theorem dL_upgrade_21 : decode cL_upgrade 21 = .ok (.ireturn, 1) := by decide +kernel
theorem dL_upgrade_22 : decode cL_upgrade 22 = .ok (.astore 4, 2) := by decide +kernel
theorem dL_upgrade_24 : decode cL_upgrade 24 = .ok (.iconst 4, 1) := by decide +kernel
theorem dL_upgrade_25 : decode cL_upgrade 25 = .ok (.ireturn, 1) := by decide +kernel
theorem dL_upgrade_26 : decode cL_upgrade 26 = .ok (.iconst 0, 1) := by decide +kernel
theorem dL_upgrade_27 : decode cL_upgrade 27 = .ok (.ireturn, 1) := by decide +kernel
theorem dL_has_0 : decode cL_has 0 = .ok (.aload 4, 2) := by decide +kernel
theorem dL_has_2 : decode cL_has 2 = .ok (.iconst 0, 1) := by decide +kernel
theorem dL_has_3 : decode cL_has 3 = .ok (.aload_n 0, 1) := by decide +kernel
theorem dL_has_4 : decode cL_has 4 = .ok (.iload_n 1, 1) := by decide +kernel
theorem dL_has_5 : decode cL_has 5 = .ok (.iload_n 2, 1) := by decide +kernel
theorem dL_has_6 : decode cL_has 6 = .ok (.iload_n 3, 1) := by decide +kernel
theorem dL_has_7 : decode cL_has 7 = .ok (.invokevirtual 43, 3) := by decide +kernel
theorem dL_has_10 : decode cL_has 10 = .ok (.i2l, 1) := by decide +kernel
theorem dL_has_11 : decode cL_has 11 = .ok (.lastore, 1) := by decide +kernel
theorem dL_has_12 : decode cL_has 12 = .ok (.goto 11, 3) := by decide +kernel
theorem dL_has_15 : decode cL_has 15 = .ok (.astore 5, 2) := by decide +kernel
theorem dL_has_17 : decode cL_has 17 = .ok (.iconst 1, 1) := by decide +kernel
theorem dL_has_18 : decode cL_has 18 = .ok (.ireturn, 1) := by decide +kernel
theorem dL_has_19 : decode cL_has 19 = .ok (.astore 5, 2) := by decide +kernel
theorem dL_has_21 : decode cL_has 21 = .ok (.iconst 2, 1) := by decide +kernel
theorem dL_has_22 : decode cL_has 22 = .ok (.ireturn, 1) := by decide +kernel
theorem dL_has_23 : decode cL_has 23 = .ok (.iconst 0, 1) := by decide +kernel
theorem dL_has_24 : decode cL_has 24 = .ok (.ireturn, 1) := by decide +kernel
theorem dL_in_0 : decode cL_in 0 = .ok (.aload_n 3, 1) := by decide +kernel
theorem dL_in_1 : decode cL_in 1 = .ok (.iconst 0, 1) := by decide +kernel
theorem dL_in_2 : decode cL_in 2 = .ok (.aload_n 0, 1) := by decide +kernel
theorem dL_in_3 : decode cL_in 3 = .ok (.iload_n 1, 1) := by decide +kernel
theorem dL_in_4 : decode cL_in 4 = .ok (.iload_n 2, 1) := by decide +kernel
theorem dL_in_5 : decode cL_in 5 = .ok (.invokevirtual 47, 3) := by decide +kernel
theorem dL_in_8 : decode cL_in 8 = .ok (.i2l, 1) := by decide +kernel
theorem dL_in_9 : decode cL_in 9 = .ok (.lastore, 1) := by decide +kernel
theorem dL_in_10 : decode cL_in 10 = .ok (.goto 11, 3) := by decide +kernel
theorem dL_in_13 : decode cL_in 13 = .ok (.astore 4, 2) := by decide +kernel
theorem dL_in_15 : decode cL_in 15 = .ok (.iconst 1, 1) := by decide +kernel
theorem dL_in_16 : decode cL_in 16 = .ok (.ireturn, 1) := by decide +kernel
theorem dL_in_17 : decode cL_in 17 = .ok (.astore 4, 2) := by decide +kernel
theorem dL_in_19 : decode cL_in 19 = .ok (.iconst 2, 1) := by decide +kernel
theorem dL_in_20 : decode cL_in 20 = .ok (.ireturn, 1) := by decide +kernel
theorem dL_in_21 : decode cL_in 21 = .ok (.iconst 0, 1) := by decide +kernel
theorem dL_in_22 : decode cL_in 22 = .ok (.ireturn, 1) := by decide +kernel
theorem dL_open_0 : decode cL_open 0 = .ok (.aload 4, 2) := by decide +kernel
theorem dL_open_2 : decode cL_open 2 = .ok (.iconst 0, 1) := by decide +kernel
theorem dL_open_3 : decode cL_open 3 = .ok (.aload_n 0, 1) := by decide +kernel
theorem dL_open_4 : decode cL_open 4 = .ok (.iload_n 1, 1) := by decide +kernel
theorem dL_open_5 : decode cL_open 5 = .ok (.iload_n 2, 1) := by decide +kernel
theorem dL_open_6 : decode cL_open 6 = .ok (.iload_n 3, 1) := by decide +kernel
theorem dL_open_7 : decode cL_open 7 = .ok (.invokevirtual 51, 3) := by decide +kernel
theorem dL_open_10 : decode cL_open 10 = .ok (.i2l, 1) := by decide +kernel
theorem dL_open_11 : decode cL_open 11 = .ok (.lastore, 1) := by decide +kernel
theorem dL_open_12 : decode cL_open 12 = .ok (.goto 19, 3) := by decide +kernel
theorem dL_open_15 : decode cL_open 15 = .ok (.astore 5, 2) := by decide +kernel
theorem dL_open_17 : decode cL_open 17 = .ok (.iconst 1, 1) := by decide +kernel
theorem dL_open_18 : decode cL_open 18 = .ok (.ireturn, 1) := by decide +kernel
theorem dL_open_19 : decode cL_open 19 = .ok (.astore 5, 2) := by decide +kernel
theorem dL_open_21 : decode cL_open 21 = .ok (.iconst 2, 1) := by decide +kernel
theorem dL_open_22 : decode cL_open 22 = .ok (.ireturn, 1) := by decide +kernel
theorem dL_open_23 : decode cL_open 23 = .ok (.astore 5, 2) := by decide +kernel
theorem dL_open_25 : decode cL_open 25 = .ok (.iconst 3, 1) := by decide +kernel
theorem dL_open_26 : decode cL_open 26 = .ok (.ireturn, 1) := by decide +kernel
theorem dL_open_27 : decode cL_open 27 = .ok (.astore 5, 2) := by decide +kernel
theorem dL_open_29 : decode cL_open 29 = .ok (.iconst 4, 1) := by decide +kernel
theorem dL_open_30 : decode cL_open 30 = .ok (.ireturn, 1) := by decide +kernel
theorem dL_open_31 : decode cL_open 31 = .ok (.iconst 0, 1) := by decide +kernel
theorem dL_open_32 : decode cL_open 32 = .ok (.ireturn, 1) := by decide +kernel
theorem dL_found_0 : decode cL_found 0 = .ok (.aload 4, 2) := by decide +kernel
theorem dL_found_2 : decode cL_found 2 = .ok (.iconst 0, 1) := by decide +kernel
theorem dL_found_3 : decode cL_found 3 = .ok (.aload_n 0, 1) := by decide +kernel
theorem dL_found_4 : decode cL_found 4 = .ok (.iload_n 1, 1) := by decide +kernel
theorem dL_found_5 : decode cL_found 5 = .ok (.iload_n 2, 1) := by decide +kernel
theorem dL_found_6 : decode cL_found 6 = .ok (.iload_n 3, 1) := by decide +kernel
theorem dL_found_7 : decode cL_found 7 = .ok (.invokevirtual 54, 3) := by decide +kernel
theorem dL_found_10 : decode cL_found 10 = .ok (.i2l, 1) := by decide +kernel
theorem dL_found_11 : decode cL_found 11 = .ok (.lastore, 1) := by decide +kernel
theorem dL_found_12 : decode cL_found 12 = .ok (.goto 15, 3) := by decide +kernel
theorem dL_found_15 : decode cL_found 15 = .ok (.astore 5, 2) := by decide +kernel
theorem dL_found_17 : decode cL_found 17 = .ok (.iconst 1, 1) := by decide +kernel
theorem dL_found_18 : decode cL_found 18 = .ok (.ireturn, 1) := by decide +kernel
theorem dL_found_19 : decode cL_found 19 = .ok (.astore 5, 2) := by decide +kernel
theorem dL_found_21 : decode cL_found 21 = .ok (.iconst 2, 1) := by decide +kernel
theorem dL_found_22 : decode cL_found 22 = .ok (.ireturn, 1) := by decide +kernel
theorem dL_found_23 : decode cL_found 23 = .ok (.astore 5, 2) := by decide +kernel
theorem dL_found_25 : decode cL_found 25 = .ok (.iconst 3, 1) := by decide +kernel
theorem dL_found_26 : decode cL_found 26 = .ok (.ireturn, 1) := by decide +kernel
theorem dL_found_27 : decode cL_found 27 = .ok (.iconst 0, 1) := by decide +kernel
theorem dL_found_28 : decode cL_found 28 = .ok (.ireturn, 1) := by decide +kernel
theorem dL_send_0 : decode cL_send 0 = .ok (.aload 4, 2) := by decide +kernel
theorem dL_send_2 : decode cL_send 2 = .ok (.iconst 0, 1) := by decide +kernel
theorem dL_send_3 : decode cL_send 3 = .ok (.aload_n 0, 1) := by decide +kernel
theorem dL_send_4 : decode cL_send 4 = .ok (.iload_n 1, 1) := by decide +kernel
theorem dL_send_5 : decode cL_send 5 = .ok (.iload_n 2, 1) := by decide +kernel
theorem dL_send_6 : decode cL_send 6 = .ok (.iload_n 3, 1) := by decide +kernel
theorem dL_send_7 : decode cL_send 7 = .ok (.invokevirtual 57, 3) := by decide +kernel
theorem dL_send_10 : decode cL_send 10 = .ok (.i2l, 1) := by decide +kernel
theorem dL_send_11 : decode cL_send 11 = .ok (.lastore, 1) := by decide +kernel
theorem dL_send_12 : decode cL_send 12 = .ok (.goto 15, 3) := by decide +kernel
theorem dL_send_15 : decode cL_send 15 = .ok (.astore 5, 2) := by decide +kernel
theorem dL_send_17 : decode cL_send 17 = .ok (.iconst 1, 1) := by decide +kernel
theorem dL_send_18 : decode cL_send 18 = .ok (.ireturn, 1) := by decide +kernel
theorem dL_send_19 : decode cL_send 19 = .ok (.astore 5, 2) := by decide +kernel
theorem dL_send_21 : decode cL_send 21 = .ok (.iconst 2, 1) := by decide +kernel
theorem dL_send_22 : decode cL_send 22 = .ok (.ireturn, 1) := by decide +kernel
theorem dL_send_23 : decode cL_send 23 = .ok (.astore 5, 2) := by decide +kernel
theorem dL_send_25 : decode cL_send 25 = .ok (.iconst 3, 1) := by decide +kernel
theorem dL_send_26 : decode cL_send 26 = .ok (.ireturn, 1) := by decide +kernel
theorem dL_send_27 : decode cL_send 27 = .ok (.iconst 0, 1) := by decide +kernel
theorem dL_send_28 : decode cL_send 28 = .ok (.ireturn, 1) := by decide +kernel
theorem dL_missing_0 : decode cL_missing 0 = .ok (.aload 4, 2) := by decide +kernel
theorem dL_missing_2 : decode cL_missing 2 = .ok (.iconst 0, 1) := by decide +kernel
theorem dL_missing_3 : decode cL_missing 3 = .ok (.aload_n 0, 1) := by decide +kernel
theorem dL_missing_4 : decode cL_missing 4 = .ok (.iload_n 1, 1) := by decide +kernel
theorem dL_missing_5 : decode cL_missing 5 = .ok (.iload_n 2, 1) := by decide +kernel
theorem dL_missing_6 : decode cL_missing 6 = .ok (.iload_n 3, 1) := by decide +kernel
theorem dL_missing_7 : decode cL_missing 7 = .ok (.invokevirtual 60, 3) := by decide +kernel
theorem dL_missing_10 : decode cL_missing 10 = .ok (.i2l, 1) := by decide +kernel
theorem dL_missing_11 : decode cL_missing 11 = .ok (.lastore, 1) := by decide +kernel
theorem dL_missing_12 : decode cL_missing 12 = .ok (.goto 11, 3) := by decide +kernel
theorem dL_missing_15 : decode cL_missing 15 = .ok (.astore 5, 2) := by decide +kernel
theorem dL_missing_17 : decode cL_missing 17 = .ok (.iconst 1, 1) := by decide +kernel
theorem dL_missing_18 : decode cL_missing 18 = .ok (.ireturn, 1) := by decide +kernel
theorem dL_missing_19 : decode cL_missing 19 = .ok (.astore 5, 2) := by decide +kernel
theorem dL_missing_21 : decode cL_missing 21 = .ok (.iconst 2, 1) := by decide +kernel
theorem dL_missing_22 : decode cL_missing 22 = .ok (.ireturn, 1) := by decide +kernel
theorem dL_missing_23 : decode cL_missing 23 = .ok (.iconst 0, 1) := by decide +kernel
theorem dL_missing_24 : decode cL_missing 24 = .ok (.ireturn, 1) := by decide +kernel
theorem dL_incident_0 : decode cL_incident 0 = .ok (.aload_n 3, 1) := by decide +kernel
theorem dL_incident_1 : decode cL_incident 1 = .ok (.iconst 0, 1) := by decide +kernel
theorem dL_incident_2 : decode cL_incident 2 = .ok (.aload_n 0, 1) := by decide +kernel
theorem dL_incident_3 : decode cL_incident 3 = .ok (.iload_n 1, 1) := by decide +kernel
theorem dL_incident_4 : decode cL_incident 4 = .ok (.iload_n 2, 1) := by decide +kernel
theorem dL_incident_5 : decode cL_incident 5 = .ok (.invokevirtual 63, 3) := by decide +kernel
theorem dL_incident_8 : decode cL_incident 8 = .ok (.i2l, 1) := by decide +kernel
theorem dL_incident_9 : decode cL_incident 9 = .ok (.lastore, 1) := by decide +kernel
theorem dL_incident_10 : decode cL_incident 10 = .ok (.goto 7, 3) := by decide +kernel
theorem dL_incident_13 : decode cL_incident 13 = .ok (.astore 4, 2) := by decide +kernel
theorem dL_incident_15 : decode cL_incident 15 = .ok (.iconst 1, 1) := by decide +kernel
theorem dL_incident_16 : decode cL_incident 16 = .ok (.ireturn, 1) := by decide +kernel
theorem dL_incident_17 : decode cL_incident 17 = .ok (.iconst 0, 1) := by decide +kernel
theorem dL_incident_18 : decode cL_incident 18 = .ok (.ireturn, 1) := by decide +kernel
theorem dL_unit_0 : decode cL_unit 0 = .ok (.aload_n 0, 1) := by decide +kernel
theorem dL_unit_1 : decode cL_unit 1 = .ok (.iload_n 1, 1) := by decide +kernel
theorem dL_unit_2 : decode cL_unit 2 = .ok (.iload_n 2, 1) := by decide +kernel
theorem dL_unit_3 : decode cL_unit 3 = .ok (.invokevirtual 66, 3) := by decide +kernel
theorem dL_unit_6 : decode cL_unit 6 = .ok (.goto 9, 3) := by decide +kernel
theorem dL_unit_9 : decode cL_unit 9 = .ok (.astore_n 3, 1) := by decide +kernel
theorem dL_unit_10 : decode cL_unit 10 = .ok (.iconst 1, 1) := by decide +kernel
theorem dL_unit_11 : decode cL_unit 11 = .ok (.ireturn, 1) := by decide +kernel
theorem dL_unit_12 : decode cL_unit 12 = .ok (.astore_n 3, 1) := by decide +kernel
theorem dL_unit_13 : decode cL_unit 13 = .ok (.iconst 2, 1) := by decide +kernel
theorem dL_unit_14 : decode cL_unit 14 = .ok (.ireturn, 1) := by decide +kernel
theorem dL_unit_15 : decode cL_unit 15 = .ok (.iconst 0, 1) := by decide +kernel
theorem dL_unit_16 : decode cL_unit 16 = .ok (.ireturn, 1) := by decide +kernel
theorem dL_uncovered_0 : decode cL_uncovered 0 = .ok (.aload_n 3, 1) := by decide +kernel
theorem dL_uncovered_1 : decode cL_uncovered 1 = .ok (.iconst 0, 1) := by decide +kernel
theorem dL_uncovered_2 : decode cL_uncovered 2 = .ok (.aload_n 0, 1) := by decide +kernel
theorem dL_uncovered_3 : decode cL_uncovered 3 = .ok (.iload_n 1, 1) := by decide +kernel
theorem dL_uncovered_4 : decode cL_uncovered 4 = .ok (.iload_n 2, 1) := by decide +kernel
theorem dL_uncovered_5 : decode cL_uncovered 5 = .ok (.invokevirtual 69, 3) := by decide +kernel
theorem dL_uncovered_8 : decode cL_uncovered 8 = .ok (.i2l, 1) := by decide +kernel
theorem dL_uncovered_9 : decode cL_uncovered 9 = .ok (.lastore, 1) := by decide +kernel
theorem dL_uncovered_10 : decode cL_uncovered 10 = .ok (.goto 7, 3) := by decide +kernel
theorem dL_uncovered_13 : decode cL_uncovered 13 = .ok (.astore 4, 2) := by decide +kernel
theorem dL_uncovered_15 : decode cL_uncovered 15 = .ok (.iconst 1, 1) := by decide +kernel
theorem dL_uncovered_16 : decode cL_uncovered 16 = .ok (.ireturn, 1) := by decide +kernel
theorem dL_uncovered_17 : decode cL_uncovered 17 = .ok (.iconst 0, 1) := by decide +kernel
theorem dL_uncovered_18 : decode cL_uncovered 18 = .ok (.ireturn, 1) := by decide +kernel
theorem dL_coded_0 : decode cL_coded 0 = .ok (.aload_n 3, 1) := by decide +kernel
theorem dL_coded_1 : decode cL_coded 1 = .ok (.iconst 0, 1) := by decide +kernel
theorem dL_coded_2 : decode cL_coded 2 = .ok (.aload_n 0, 1) := by decide +kernel
theorem dL_coded_3 : decode cL_coded 3 = .ok (.iload_n 1, 1) := by decide +kernel
theorem dL_coded_4 : decode cL_coded 4 = .ok (.iload_n 2, 1) := by decide +kernel
theorem dL_coded_5 : decode cL_coded 5 = .ok (.invokevirtual 72, 3) := by decide +kernel
theorem dL_coded_8 : decode cL_coded 8 = .ok (.i2l, 1) := by decide +kernel
theorem dL_coded_9 : decode cL_coded 9 = .ok (.lastore, 1) := by decide +kernel
theorem dL_coded_10 : decode cL_coded 10 = .ok (.goto 7, 3) := by decide +kernel
theorem dL_coded_13 : decode cL_coded 13 = .ok (.astore 4, 2) := by decide +kernel
theorem dL_coded_15 : decode cL_coded 15 = .ok (.iconst 1, 1) := by decide +kernel
theorem dL_coded_16 : decode cL_coded 16 = .ok (.ireturn, 1) := by decide +kernel
theorem dL_coded_17 : decode cL_coded 17 = .ok (.iconst 0, 1) := by decide +kernel
theorem dL_coded_18 : decode cL_coded 18 = .ok (.ireturn, 1) := by decide +kernel
theorem dL_count_0 : decode cL_count 0 = .ok (.aload_n 2, 1) := by decide +kernel
theorem dL_count_1 : decode cL_count 1 = .ok (.iconst 0, 1) := by decide +kernel
theorem dL_count_2 : decode cL_count 2 = .ok (.aload_n 0, 1) := by decide +kernel
theorem dL_count_3 : decode cL_count 3 = .ok (.iload_n 1, 1) := by decide +kernel
theorem dL_count_4 : decode cL_count 4 = .ok (.invokevirtual 75, 3) := by decide +kernel
theorem dL_count_7 : decode cL_count 7 = .ok (.i2l, 1) := by decide +kernel
theorem dL_count_8 : decode cL_count 8 = .ok (.lastore, 1) := by decide +kernel
theorem dL_count_9 : decode cL_count 9 = .ok (.goto 6, 3) := by decide +kernel
theorem dL_count_12 : decode cL_count 12 = .ok (.astore_n 3, 1) := by decide +kernel
theorem dL_count_13 : decode cL_count 13 = .ok (.iconst 1, 1) := by decide +kernel
theorem dL_count_14 : decode cL_count 14 = .ok (.ireturn, 1) := by decide +kernel
theorem dL_count_15 : decode cL_count 15 = .ok (.iconst 0, 1) := by decide +kernel
theorem dL_count_16 : decode cL_count 16 = .ok (.ireturn, 1) := by decide +kernel
def lw_H (u w : ks_S) (t : Int32) (ck cw : Nat → Int32) (f : Nat → Int64) : List mm_c := ks_H u (ms_H w t ck cw [.inr (.inr (1, f))])
def m_ou (f : Nat → Int64) : ks_O → Nat → Int64
  | .inl _ => f
  | .inr q => match q.1 with
    | some v => vp_updL f (0 : Int32).toNatClampNeg v.toInt64
    | none => f
def mm_rh : Room := { frames := 9, cells := 4, slots := 24, locals := 240 }
abbrev mm_cwH (y : MethodName) (bytes : ByteArray) (maxL : Nat) (ret : Option FieldType) (hh : List (Nat × Nat × Nat × Nat)) : List Cond := Cond.codeWith y bytes maxL ret hh :: mm_all
theorem ne_ia_io : x_ia ≠ x_io := by decide
theorem ne_ia_is : x_ia ≠ x_is := by decide
theorem ne_ia_uo : x_ia ≠ x_uo := by decide
theorem ne_io_is : x_io ≠ x_is := by decide
theorem ne_io_uo : x_io ≠ x_uo := by decide
theorem ne_is_uo : x_is ≠ x_uo := by decide
theorem ou_kind (u : ks_S) (a : Int32) : (∃ E, o_kind u a = .inl E ∧ E ∈ l_kind) ∨ (∃ v u', o_kind u a = .inr (some v, u')) := by
  unfold o_kind
  repeat' (first | exact Or.inl ⟨_, rfl, by simp [l_kind]⟩ | exact Or.inr ⟨_, _, rfl⟩ | split)
set_option maxHeartbeats 4000000 in
set_option maxRecDepth 100000 in
theorem kL_kind (l : Launch) (D : va_G) (u w : ks_S) (t : Int32) (ck cw : Nat → Int32) (f : Nat → Int64) (a : Int32) (k c i : Nat) (hI : ks_I u k c i) : mm_Met l D yL_kind (mm_cwH yL_kind cL_kind 4 (some .int) [(0, 9, 12, 13), (0, 9, 15, 15)]) mm_rh [.ref 0, .int a, .ref 33] (lw_H u w t ck cw f) (fun v hp' => v = some (.int (m_cd l_kind (o_kind u a))) ∧ hp' = lw_H (m_us u (o_kind u a)) w t ck cw (m_ou f (o_kind u a))) (fun _ => False) 4 24 := by
  have hou := ou_kind u a
  refine mm_startH (own := RL) (by decide) rfl rfl (mm_nl rfl) (fun _ => rfl) (fun _ => rfl) (fun g ad hl hD hnL C K => ?_)
  subst hl
  subst hD
  show mm_M g ad 0 0 (lw_H u w t ck cw f) 0 [(0, .ref 0), (1, .int a), (2, .ref 33)] []
  refine mm_aload_n C dL_kind_0 rfl 2 rfl ?_
  refine mm_iconst (v := 0) C dL_kind_1 (by decide) ?_
  refine mm_aload_n C dL_kind_2 rfl 0 rfl ?_
  refine mm_iload_n C dL_kind_3 rfl 1 rfl ?_
  rcases hou with ⟨E, hO, hE⟩ | ⟨v, u', hO⟩
  · refine mm_callV (av := [.int a]) C 0 (mm_gV sv_L_X2_kind_7.1 sv_L_X2_kind_7.2.1 sv_L_X2_kind_7.2.2.1 sv_L_X2_kind_7.2.2.2.1 sv_L_X2_kind_7.2.2.2.2.1) (sv_L_X2_kind_7.2.2.2.2.2) (kX2_kind _ _ u _ a k c i hI) 1 rfl rfl rfl rfl rfl ⟨mm_nl rfl, mm_nl rfl⟩ rfl rfl (mm_nl rfl) dL_kind_4 ⟨mm_nl rfl, mm_nl rfl⟩ (fun E' h' => ?_) (fun v' hp' h' _ => ?_)
    · rw [hO] at h'
      cases h'
      simp only [l_kind, List.mem_cons, List.not_mem_nil, or_false] at hE
      rcases hE with rfl | rfl
      · exact mm_catchn C K [] (0, 9, 12, 13) [(0, 9, 15, 15)] rfl (List.mem_of_getElem? (i := 0) rfl) (fun z hz => absurd hz List.not_mem_nil) (mm_nl rfl) (mm_nl rfl) (by decide) (mm_wc tw112) (List.mem_of_getElem? (i := 6) rfl) hnL (by decide) dL_kind_12 dL_kind_13 (v := 1) (by decide) dL_kind_14 ⟨by rw [hO, cd_kind_1], by rw [hO]; rfl⟩ rfl (mm_nl rfl) (mm_nl rfl)
      · exact mm_catchn C K [(0, 9, 12, 13)] (0, 9, 15, 15) [] rfl (List.mem_of_getElem? (i := 3) rfl) (fun z hz => by
          simp only [List.mem_cons, List.not_mem_nil, or_false] at hz
          subst hz
          exact ⟨by decide, x_ia, List.mem_of_getElem? (i := 0) rfl, (Ne.symm ne_ia_uo), (mm_wc tw112)⟩) (mm_nl rfl) (mm_nl rfl) (by decide) (mm_wc tw113) (List.mem_of_getElem? (i := 13) rfl) hnL (by decide) dL_kind_15 dL_kind_16 (v := 2) (by decide) dL_kind_17 ⟨by rw [hO, cd_kind_2], by rw [hO]; rfl⟩ rfl (mm_nl rfl) (mm_nl rfl)
    · rw [hO] at h'
      cases h'
  · refine mm_callV (av := [.int a]) C 0 (mm_gV sv_L_X2_kind_7.1 sv_L_X2_kind_7.2.1 sv_L_X2_kind_7.2.2.1 sv_L_X2_kind_7.2.2.2.1 sv_L_X2_kind_7.2.2.2.2.1) (sv_L_X2_kind_7.2.2.2.2.2) (kX2_kind _ _ u _ a k c i hI) 1 rfl rfl rfl rfl rfl ⟨mm_nl rfl, mm_nl rfl⟩ rfl rfl (mm_nl rfl) dL_kind_4 ⟨mm_nl rfl, mm_nl rfl⟩ (fun E' h' => ?_) (fun v' hp' h' _ => ?_)
    · rw [hO] at h'
      cases h'
    · rw [hO] at h'
      cases h'
      refine mm_i2l C dL_kind_7 ?_
      refine mm_last C 33 rfl (vp_in_nI (n := 0) (by decide) (by decide)) dL_kind_8 ?_
      refine mm_goto (tgt := 18) C dL_kind_9 (by decide) ?_
      refine mm_iconst (v := 0) C dL_kind_18 (by decide) ?_
      exact mm_iretH C K rfl dL_kind_19 ⟨by rw [hO]; rfl, by rw [hO]; rfl⟩ rfl (mm_nl rfl) (mm_nl rfl)
theorem ou_parent (u : ks_S) (a b : Int32) : (∃ E, o_parent u a b = .inl E ∧ E ∈ l_parent) ∨ (∃ u', o_parent u a b = .inr (none, u')) := by
  unfold o_parent
  repeat' (first | exact Or.inl ⟨_, rfl, by simp [l_parent]⟩ | exact Or.inr ⟨_, rfl⟩ | split)
set_option maxHeartbeats 4000000 in
set_option maxRecDepth 100000 in
theorem kL_parent (l : Launch) (D : va_G) (u w : ks_S) (t : Int32) (ck cw : Nat → Int32) (f : Nat → Int64) (a b : Int32) (k c i : Nat) (hI : ks_I u k c i) : mm_Met l D yL_parent (mm_cwH yL_parent cL_parent 4 (some .int) [(0, 6, 9, 13), (0, 6, 12, 21)]) mm_rh [.ref 0, .int a, .int b] (lw_H u w t ck cw f) (fun v hp' => v = some (.int (m_cd l_parent (o_parent u a b))) ∧ hp' = lw_H (m_us u (o_parent u a b)) w t ck cw f) (fun _ => False) 4 24 := by
  have hou := ou_parent u a b
  refine mm_startH (own := RL) (by decide) rfl rfl (mm_nl rfl) (fun _ => rfl) (fun _ => rfl) (fun g ad hl hD hnL C K => ?_)
  subst hl
  subst hD
  show mm_M g ad 0 0 (lw_H u w t ck cw f) 0 [(0, .ref 0), (1, .int a), (2, .int b)] []
  refine mm_aload_n C dL_parent_0 rfl 0 rfl ?_
  refine mm_iload_n C dL_parent_1 rfl 1 rfl ?_
  refine mm_iload_n C dL_parent_2 rfl 2 rfl ?_
  rcases hou with ⟨E, hO, hE⟩ | ⟨u', hO⟩
  · refine mm_callV (av := [.int a, .int b]) C 0 (mm_gV sv_L_X2_parent_17.1 sv_L_X2_parent_17.2.1 sv_L_X2_parent_17.2.2.1 sv_L_X2_parent_17.2.2.2.1 sv_L_X2_parent_17.2.2.2.2.1) (sv_L_X2_parent_17.2.2.2.2.2) (kX2_parent _ _ u _ a b k c i hI) 2 rfl rfl rfl rfl rfl ⟨mm_nl rfl, mm_nl rfl⟩ rfl rfl (mm_nl rfl) dL_parent_3 ⟨mm_nl rfl, mm_nl rfl⟩ (fun E' h' => ?_) (fun v' hp' h' _ => ?_)
    · rw [hO] at h'
      cases h'
      simp only [l_parent, List.mem_cons, List.not_mem_nil, or_false] at hE
      rcases hE with rfl | rfl
      · exact mm_catchn C K [] (0, 6, 9, 13) [(0, 6, 12, 21)] rfl (List.mem_of_getElem? (i := 0) rfl) (fun z hz => absurd hz List.not_mem_nil) (mm_nl rfl) (mm_nl rfl) (by decide) (mm_wc tw112) (List.mem_of_getElem? (i := 6) rfl) hnL (by decide) dL_parent_9 dL_parent_10 (v := 1) (by decide) dL_parent_11 ⟨by rw [hO, cd_parent_1], by rw [hO]; rfl⟩ rfl (mm_nl rfl) (mm_nl rfl)
      · exact mm_catchn C K [(0, 6, 9, 13)] (0, 6, 12, 21) [] rfl (List.mem_of_getElem? (i := 2) rfl) (fun z hz => by
          simp only [List.mem_cons, List.not_mem_nil, or_false] at hz
          subst hz
          exact ⟨by decide, x_ia, List.mem_of_getElem? (i := 0) rfl, (Ne.symm ne_ia_is), (mm_wc tw112)⟩) (mm_nl rfl) (mm_nl rfl) (by decide) (mm_wc tw223) (List.mem_of_getElem? (i := 14) rfl) hnL (by decide) dL_parent_12 dL_parent_13 (v := 2) (by decide) dL_parent_14 ⟨by rw [hO, cd_parent_2], by rw [hO]; rfl⟩ rfl (mm_nl rfl) (mm_nl rfl)
    · rw [hO] at h'
      cases h'
  · refine mm_callV (av := [.int a, .int b]) C 0 (mm_gV sv_L_X2_parent_17.1 sv_L_X2_parent_17.2.1 sv_L_X2_parent_17.2.2.1 sv_L_X2_parent_17.2.2.2.1 sv_L_X2_parent_17.2.2.2.2.1) (sv_L_X2_parent_17.2.2.2.2.2) (kX2_parent _ _ u _ a b k c i hI) 2 rfl rfl rfl rfl rfl ⟨mm_nl rfl, mm_nl rfl⟩ rfl rfl (mm_nl rfl) dL_parent_3 ⟨mm_nl rfl, mm_nl rfl⟩ (fun E' h' => ?_) (fun v' hp' h' _ => ?_)
    · rw [hO] at h'
      cases h'
    · rw [hO] at h'
      cases h'
      refine mm_goto (tgt := 15) C dL_parent_6 (by decide) ?_
      refine mm_iconst (v := 0) C dL_parent_15 (by decide) ?_
      exact mm_iretH C K rfl dL_parent_16 ⟨by rw [hO]; rfl, by rw [hO]; rfl⟩ rfl (mm_nl rfl) (mm_nl rfl)
theorem ou_says (u : ks_S) (a b e x : Int32) : (∃ E, o_says u a b e x = .inl E ∧ E ∈ l_says) ∨ (∃ u', o_says u a b e x = .inr (none, u')) := by
  unfold o_says
  repeat' (first | exact Or.inl ⟨_, rfl, by simp [l_says]⟩ | exact Or.inr ⟨_, rfl⟩ | split)
set_option maxHeartbeats 4000000 in
set_option maxRecDepth 100000 in
theorem kL_says (l : Launch) (D : va_G) (u w : ks_S) (t : Int32) (ck cw : Nat → Int32) (f : Nat → Int64) (a b e x : Int32) (k c i : Nat) (hI : ks_I u k c i) : mm_Met l D yL_says (mm_cwH yL_says cL_says 6 (some .int) [(0, 9, 12, 13), (0, 9, 16, 27), (0, 9, 20, 15)]) mm_rh [.ref 0, .int a, .int b, .int e, .int x] (lw_H u w t ck cw f) (fun v hp' => v = some (.int (m_cd l_says (o_says u a b e x))) ∧ hp' = lw_H (m_us u (o_says u a b e x)) w t ck cw f) (fun _ => False) 4 24 := by
  have hou := ou_says u a b e x
  refine mm_startH (own := RL) (by decide) rfl rfl (mm_nl rfl) (fun _ => rfl) (fun _ => rfl) (fun g ad hl hD hnL C K => ?_)
  subst hl
  subst hD
  show mm_M g ad 0 0 (lw_H u w t ck cw f) 0 [(0, .ref 0), (1, .int a), (2, .int b), (3, .int e), (4, .int x)] []
  refine mm_aload_n C dL_says_0 rfl 0 rfl ?_
  refine mm_iload_n C dL_says_1 rfl 1 rfl ?_
  refine mm_iload_n C dL_says_2 rfl 2 rfl ?_
  refine mm_iload_n C dL_says_3 rfl 3 rfl ?_
  refine mm_iload C dL_says_4 4 rfl ?_
  rcases hou with ⟨E, hO, hE⟩ | ⟨u', hO⟩
  · refine mm_callV (av := [.int a, .int b, .int e, .int x]) C 0 (mm_gV sv_L_X2_says_23.1 sv_L_X2_says_23.2.1 sv_L_X2_says_23.2.2.1 sv_L_X2_says_23.2.2.2.1 sv_L_X2_says_23.2.2.2.2.1) (sv_L_X2_says_23.2.2.2.2.2) (kX2_says _ _ u _ a b e x k c i hI) 4 rfl rfl rfl rfl rfl ⟨mm_nl rfl, mm_nl rfl⟩ rfl rfl (mm_nl rfl) dL_says_6 ⟨mm_nl rfl, mm_nl rfl⟩ (fun E' h' => ?_) (fun v' hp' h' _ => ?_)
    · rw [hO] at h'
      cases h'
      simp only [l_says, List.mem_cons, List.not_mem_nil, or_false] at hE
      rcases hE with rfl | rfl | rfl
      · exact mm_catchw C K [] (0, 9, 12, 13) [(0, 9, 16, 27), (0, 9, 20, 15)] rfl (List.mem_of_getElem? (i := 0) rfl) (fun z hz => absurd hz List.not_mem_nil) (mm_nl rfl) (mm_nl rfl) (by decide) (mm_wc tw112) (List.mem_of_getElem? (i := 6) rfl) hnL (by decide) dL_says_12 dL_says_14 (v := 1) (by decide) dL_says_15 ⟨by rw [hO, cd_says_1], by rw [hO]; rfl⟩ rfl (mm_nl rfl) (mm_nl rfl)
      · exact mm_catchw C K [(0, 9, 12, 13)] (0, 9, 16, 27) [(0, 9, 20, 15)] rfl (List.mem_of_getElem? (i := 1) rfl) (fun z hz => by
          simp only [List.mem_cons, List.not_mem_nil, or_false] at hz
          subst hz
          exact ⟨by decide, x_ia, List.mem_of_getElem? (i := 0) rfl, (Ne.symm ne_ia_io), (mm_wc tw112)⟩) (mm_nl rfl) (mm_nl rfl) (by decide) (mm_wc tw254) (List.mem_of_getElem? (i := 15) rfl) hnL (by decide) dL_says_16 dL_says_18 (v := 2) (by decide) dL_says_19 ⟨by rw [hO, cd_says_2], by rw [hO]; rfl⟩ rfl (mm_nl rfl) (mm_nl rfl)
      · exact mm_catchw C K [(0, 9, 12, 13), (0, 9, 16, 27)] (0, 9, 20, 15) [] rfl (List.mem_of_getElem? (i := 3) rfl) (fun z hz => by
          simp only [List.mem_cons, List.not_mem_nil, or_false] at hz
          rcases hz with rfl | rfl
          · exact ⟨by decide, x_ia, List.mem_of_getElem? (i := 0) rfl, (Ne.symm ne_ia_uo), (mm_wc tw112)⟩
          · exact ⟨by decide, x_io, List.mem_of_getElem? (i := 1) rfl, (Ne.symm ne_io_uo), (mm_wc tw254)⟩) (mm_nl rfl) (mm_nl rfl) (by decide) (mm_wc tw113) (List.mem_of_getElem? (i := 13) rfl) hnL (by decide) dL_says_20 dL_says_22 (v := 3) (by decide) dL_says_23 ⟨by rw [hO, cd_says_3], by rw [hO]; rfl⟩ rfl (mm_nl rfl) (mm_nl rfl)
    · rw [hO] at h'
      cases h'
  · refine mm_callV (av := [.int a, .int b, .int e, .int x]) C 0 (mm_gV sv_L_X2_says_23.1 sv_L_X2_says_23.2.1 sv_L_X2_says_23.2.2.1 sv_L_X2_says_23.2.2.2.1 sv_L_X2_says_23.2.2.2.2.1) (sv_L_X2_says_23.2.2.2.2.2) (kX2_says _ _ u _ a b e x k c i hI) 4 rfl rfl rfl rfl rfl ⟨mm_nl rfl, mm_nl rfl⟩ rfl rfl (mm_nl rfl) dL_says_6 ⟨mm_nl rfl, mm_nl rfl⟩ (fun E' h' => ?_) (fun v' hp' h' _ => ?_)
    · rw [hO] at h'
      cases h'
    · rw [hO] at h'
      cases h'
      refine mm_goto (tgt := 24) C dL_says_9 (by decide) ?_
      refine mm_iconst (v := 0) C dL_says_24 (by decide) ?_
      exact mm_iretH C K rfl dL_says_25 ⟨by rw [hO]; rfl, by rw [hO]; rfl⟩ rfl (mm_nl rfl) (mm_nl rfl)
theorem ou_need (u : ks_S) (a b e h x : Int32) : (∃ E, o_need u a b e h x = .inl E ∧ E ∈ l_need) ∨ (∃ u', o_need u a b e h x = .inr (none, u')) := by
  unfold o_need
  repeat' (first | exact Or.inl ⟨_, rfl, by simp [l_need]⟩ | exact Or.inr ⟨_, rfl⟩ | split)
set_option maxHeartbeats 4000000 in
set_option maxRecDepth 100000 in
theorem kL_need (l : Launch) (D : va_G) (u w : ks_S) (t : Int32) (ck cw : Nat → Int32) (f : Nat → Int64) (a b e h x : Int32) (k c i : Nat) (hI : ks_I u k c i) : mm_Met l D yL_need (mm_cwH yL_need cL_need 7 (some .int) [(0, 11, 14, 13), (0, 11, 18, 27), (0, 11, 22, 15)]) mm_rh [.ref 0, .int a, .int b, .int e, .int h, .int x] (lw_H u w t ck cw f) (fun v hp' => v = some (.int (m_cd l_need (o_need u a b e h x))) ∧ hp' = lw_H (m_us u (o_need u a b e h x)) w t ck cw f) (fun _ => False) 4 24 := by
  have hou := ou_need u a b e h x
  refine mm_startH (own := RL) (by decide) rfl rfl (mm_nl rfl) (fun _ => rfl) (fun _ => rfl) (fun g ad hl hD hnL C K => ?_)
  subst hl
  subst hD
  show mm_M g ad 0 0 (lw_H u w t ck cw f) 0 [(0, .ref 0), (1, .int a), (2, .int b), (3, .int e), (4, .int h), (5, .int x)] []
  refine mm_aload_n C dL_need_0 rfl 0 rfl ?_
  refine mm_iload_n C dL_need_1 rfl 1 rfl ?_
  refine mm_iload_n C dL_need_2 rfl 2 rfl ?_
  refine mm_iload_n C dL_need_3 rfl 3 rfl ?_
  refine mm_iload C dL_need_4 4 rfl ?_
  refine mm_iload C dL_need_6 5 rfl ?_
  rcases hou with ⟨E, hO, hE⟩ | ⟨u', hO⟩
  · refine mm_callV (av := [.int a, .int b, .int e, .int h, .int x]) C 0 (mm_gV sv_L_X2_need_29.1 sv_L_X2_need_29.2.1 sv_L_X2_need_29.2.2.1 sv_L_X2_need_29.2.2.2.1 sv_L_X2_need_29.2.2.2.2.1) (sv_L_X2_need_29.2.2.2.2.2) (kX2_need _ _ u _ a b e h x k c i hI) 5 rfl rfl rfl rfl rfl ⟨mm_nl rfl, mm_nl rfl⟩ rfl rfl (mm_nl rfl) dL_need_8 ⟨mm_nl rfl, mm_nl rfl⟩ (fun E' h' => ?_) (fun v' hp' h' _ => ?_)
    · rw [hO] at h'
      cases h'
      simp only [l_need, List.mem_cons, List.not_mem_nil, or_false] at hE
      rcases hE with rfl | rfl | rfl
      · exact mm_catchw C K [] (0, 11, 14, 13) [(0, 11, 18, 27), (0, 11, 22, 15)] rfl (List.mem_of_getElem? (i := 0) rfl) (fun z hz => absurd hz List.not_mem_nil) (mm_nl rfl) (mm_nl rfl) (by decide) (mm_wc tw112) (List.mem_of_getElem? (i := 6) rfl) hnL (by decide) dL_need_14 dL_need_16 (v := 1) (by decide) dL_need_17 ⟨by rw [hO, cd_need_1], by rw [hO]; rfl⟩ rfl (mm_nl rfl) (mm_nl rfl)
      · exact mm_catchw C K [(0, 11, 14, 13)] (0, 11, 18, 27) [(0, 11, 22, 15)] rfl (List.mem_of_getElem? (i := 1) rfl) (fun z hz => by
          simp only [List.mem_cons, List.not_mem_nil, or_false] at hz
          subst hz
          exact ⟨by decide, x_ia, List.mem_of_getElem? (i := 0) rfl, (Ne.symm ne_ia_io), (mm_wc tw112)⟩) (mm_nl rfl) (mm_nl rfl) (by decide) (mm_wc tw254) (List.mem_of_getElem? (i := 15) rfl) hnL (by decide) dL_need_18 dL_need_20 (v := 2) (by decide) dL_need_21 ⟨by rw [hO, cd_need_2], by rw [hO]; rfl⟩ rfl (mm_nl rfl) (mm_nl rfl)
      · exact mm_catchw C K [(0, 11, 14, 13), (0, 11, 18, 27)] (0, 11, 22, 15) [] rfl (List.mem_of_getElem? (i := 3) rfl) (fun z hz => by
          simp only [List.mem_cons, List.not_mem_nil, or_false] at hz
          rcases hz with rfl | rfl
          · exact ⟨by decide, x_ia, List.mem_of_getElem? (i := 0) rfl, (Ne.symm ne_ia_uo), (mm_wc tw112)⟩
          · exact ⟨by decide, x_io, List.mem_of_getElem? (i := 1) rfl, (Ne.symm ne_io_uo), (mm_wc tw254)⟩) (mm_nl rfl) (mm_nl rfl) (by decide) (mm_wc tw113) (List.mem_of_getElem? (i := 13) rfl) hnL (by decide) dL_need_22 dL_need_24 (v := 3) (by decide) dL_need_25 ⟨by rw [hO, cd_need_3], by rw [hO]; rfl⟩ rfl (mm_nl rfl) (mm_nl rfl)
    · rw [hO] at h'
      cases h'
  · refine mm_callV (av := [.int a, .int b, .int e, .int h, .int x]) C 0 (mm_gV sv_L_X2_need_29.1 sv_L_X2_need_29.2.1 sv_L_X2_need_29.2.2.1 sv_L_X2_need_29.2.2.2.1 sv_L_X2_need_29.2.2.2.2.1) (sv_L_X2_need_29.2.2.2.2.2) (kX2_need _ _ u _ a b e h x k c i hI) 5 rfl rfl rfl rfl rfl ⟨mm_nl rfl, mm_nl rfl⟩ rfl rfl (mm_nl rfl) dL_need_8 ⟨mm_nl rfl, mm_nl rfl⟩ (fun E' h' => ?_) (fun v' hp' h' _ => ?_)
    · rw [hO] at h'
      cases h'
    · rw [hO] at h'
      cases h'
      refine mm_goto (tgt := 26) C dL_need_11 (by decide) ?_
      refine mm_iconst (v := 0) C dL_need_26 (by decide) ?_
      exact mm_iretH C K rfl dL_need_27 ⟨by rw [hO]; rfl, by rw [hO]; rfl⟩ rfl (mm_nl rfl) (mm_nl rfl)
theorem ou_close (u : ks_S) (a b : Int32) : (∃ E, o_close u a b = .inl E ∧ E ∈ l_close) ∨ (∃ u', o_close u a b = .inr (none, u')) := by
  unfold o_close
  repeat' (first | exact Or.inl ⟨_, rfl, by simp [l_close]⟩ | exact Or.inr ⟨_, rfl⟩ | split)
set_option maxHeartbeats 4000000 in
set_option maxRecDepth 100000 in
theorem kL_close (l : Launch) (D : va_G) (u w : ks_S) (t : Int32) (ck cw : Nat → Int32) (f : Nat → Int64) (a b : Int32) (k c i : Nat) (hI : ks_I u k c i) : mm_Met l D yL_close (mm_cwH yL_close cL_close 4 (some .int) [(0, 6, 9, 13), (0, 6, 12, 27)]) mm_rh [.ref 0, .int a, .int b] (lw_H u w t ck cw f) (fun v hp' => v = some (.int (m_cd l_close (o_close u a b))) ∧ hp' = lw_H (m_us u (o_close u a b)) w t ck cw f) (fun _ => False) 4 24 := by
  have hou := ou_close u a b
  refine mm_startH (own := RL) (by decide) rfl rfl (mm_nl rfl) (fun _ => rfl) (fun _ => rfl) (fun g ad hl hD hnL C K => ?_)
  subst hl
  subst hD
  show mm_M g ad 0 0 (lw_H u w t ck cw f) 0 [(0, .ref 0), (1, .int a), (2, .int b)] []
  refine mm_aload_n C dL_close_0 rfl 0 rfl ?_
  refine mm_iload_n C dL_close_1 rfl 1 rfl ?_
  refine mm_iload_n C dL_close_2 rfl 2 rfl ?_
  rcases hou with ⟨E, hO, hE⟩ | ⟨u', hO⟩
  · refine mm_callV (av := [.int a, .int b]) C 0 (mm_gV sv_L_X2_close_33.1 sv_L_X2_close_33.2.1 sv_L_X2_close_33.2.2.1 sv_L_X2_close_33.2.2.2.1 sv_L_X2_close_33.2.2.2.2.1) (sv_L_X2_close_33.2.2.2.2.2) (kX2_close _ _ u _ a b k c i hI) 2 rfl rfl rfl rfl rfl ⟨mm_nl rfl, mm_nl rfl⟩ rfl rfl (mm_nl rfl) dL_close_3 ⟨mm_nl rfl, mm_nl rfl⟩ (fun E' h' => ?_) (fun v' hp' h' _ => ?_)
    · rw [hO] at h'
      cases h'
      simp only [l_close, List.mem_cons, List.not_mem_nil, or_false] at hE
      rcases hE with rfl | rfl
      · exact mm_catchn C K [] (0, 6, 9, 13) [(0, 6, 12, 27)] rfl (List.mem_of_getElem? (i := 0) rfl) (fun z hz => absurd hz List.not_mem_nil) (mm_nl rfl) (mm_nl rfl) (by decide) (mm_wc tw112) (List.mem_of_getElem? (i := 6) rfl) hnL (by decide) dL_close_9 dL_close_10 (v := 1) (by decide) dL_close_11 ⟨by rw [hO, cd_close_1], by rw [hO]; rfl⟩ rfl (mm_nl rfl) (mm_nl rfl)
      · exact mm_catchn C K [(0, 6, 9, 13)] (0, 6, 12, 27) [] rfl (List.mem_of_getElem? (i := 1) rfl) (fun z hz => by
          simp only [List.mem_cons, List.not_mem_nil, or_false] at hz
          subst hz
          exact ⟨by decide, x_ia, List.mem_of_getElem? (i := 0) rfl, (Ne.symm ne_ia_io), (mm_wc tw112)⟩) (mm_nl rfl) (mm_nl rfl) (by decide) (mm_wc tw254) (List.mem_of_getElem? (i := 15) rfl) hnL (by decide) dL_close_12 dL_close_13 (v := 2) (by decide) dL_close_14 ⟨by rw [hO, cd_close_2], by rw [hO]; rfl⟩ rfl (mm_nl rfl) (mm_nl rfl)
    · rw [hO] at h'
      cases h'
  · refine mm_callV (av := [.int a, .int b]) C 0 (mm_gV sv_L_X2_close_33.1 sv_L_X2_close_33.2.1 sv_L_X2_close_33.2.2.1 sv_L_X2_close_33.2.2.2.1 sv_L_X2_close_33.2.2.2.2.1) (sv_L_X2_close_33.2.2.2.2.2) (kX2_close _ _ u _ a b k c i hI) 2 rfl rfl rfl rfl rfl ⟨mm_nl rfl, mm_nl rfl⟩ rfl rfl (mm_nl rfl) dL_close_3 ⟨mm_nl rfl, mm_nl rfl⟩ (fun E' h' => ?_) (fun v' hp' h' _ => ?_)
    · rw [hO] at h'
      cases h'
    · rw [hO] at h'
      cases h'
      refine mm_goto (tgt := 15) C dL_close_6 (by decide) ?_
      refine mm_iconst (v := 0) C dL_close_15 (by decide) ?_
      exact mm_iretH C K rfl dL_close_16 ⟨by rw [hO]; rfl, by rw [hO]; rfl⟩ rfl (mm_nl rfl) (mm_nl rfl)
theorem ou_area (u : ks_S) (a b e : Int32) : (∃ E, o_area u a b e = .inl E ∧ E ∈ l_area) ∨ (∃ u', o_area u a b e = .inr (none, u')) := by
  unfold o_area
  repeat' (first | exact Or.inl ⟨_, rfl, by simp [l_area]⟩ | exact Or.inr ⟨_, rfl⟩ | split)
set_option maxHeartbeats 4000000 in
set_option maxRecDepth 100000 in
theorem kL_area (l : Launch) (D : va_G) (u w : ks_S) (t : Int32) (ck cw : Nat → Int32) (f : Nat → Int64) (a b e : Int32) (k c i : Nat) (hI : ks_I u k c i) : mm_Met l D yL_area (mm_cwH yL_area cL_area 5 (some .int) [(0, 7, 10, 13), (0, 7, 14, 27), (0, 7, 18, 21)]) mm_rh [.ref 0, .int a, .int b, .int e] (lw_H u w t ck cw f) (fun v hp' => v = some (.int (m_cd l_area (o_area u a b e))) ∧ hp' = lw_H (m_us u (o_area u a b e)) w t ck cw f) (fun _ => False) 4 24 := by
  have hou := ou_area u a b e
  refine mm_startH (own := RL) (by decide) rfl rfl (mm_nl rfl) (fun _ => rfl) (fun _ => rfl) (fun g ad hl hD hnL C K => ?_)
  subst hl
  subst hD
  show mm_M g ad 0 0 (lw_H u w t ck cw f) 0 [(0, .ref 0), (1, .int a), (2, .int b), (3, .int e)] []
  refine mm_aload_n C dL_area_0 rfl 0 rfl ?_
  refine mm_iload_n C dL_area_1 rfl 1 rfl ?_
  refine mm_iload_n C dL_area_2 rfl 2 rfl ?_
  refine mm_iload_n C dL_area_3 rfl 3 rfl ?_
  rcases hou with ⟨E, hO, hE⟩ | ⟨u', hO⟩
  · refine mm_callV (av := [.int a, .int b, .int e]) C 0 (mm_gV sv_L_X2_area_36.1 sv_L_X2_area_36.2.1 sv_L_X2_area_36.2.2.1 sv_L_X2_area_36.2.2.2.1 sv_L_X2_area_36.2.2.2.2.1) (sv_L_X2_area_36.2.2.2.2.2) (kX2_area _ _ u _ a b e k c i hI) 3 rfl rfl rfl rfl rfl ⟨mm_nl rfl, mm_nl rfl⟩ rfl rfl (mm_nl rfl) dL_area_4 ⟨mm_nl rfl, mm_nl rfl⟩ (fun E' h' => ?_) (fun v' hp' h' _ => ?_)
    · rw [hO] at h'
      cases h'
      simp only [l_area, List.mem_cons, List.not_mem_nil, or_false] at hE
      rcases hE with rfl | rfl | rfl
      · exact mm_catchw C K [] (0, 7, 10, 13) [(0, 7, 14, 27), (0, 7, 18, 21)] rfl (List.mem_of_getElem? (i := 0) rfl) (fun z hz => absurd hz List.not_mem_nil) (mm_nl rfl) (mm_nl rfl) (by decide) (mm_wc tw112) (List.mem_of_getElem? (i := 6) rfl) hnL (by decide) dL_area_10 dL_area_12 (v := 1) (by decide) dL_area_13 ⟨by rw [hO, cd_area_1], by rw [hO]; rfl⟩ rfl (mm_nl rfl) (mm_nl rfl)
      · exact mm_catchw C K [(0, 7, 10, 13)] (0, 7, 14, 27) [(0, 7, 18, 21)] rfl (List.mem_of_getElem? (i := 1) rfl) (fun z hz => by
          simp only [List.mem_cons, List.not_mem_nil, or_false] at hz
          subst hz
          exact ⟨by decide, x_ia, List.mem_of_getElem? (i := 0) rfl, (Ne.symm ne_ia_io), (mm_wc tw112)⟩) (mm_nl rfl) (mm_nl rfl) (by decide) (mm_wc tw254) (List.mem_of_getElem? (i := 15) rfl) hnL (by decide) dL_area_14 dL_area_16 (v := 2) (by decide) dL_area_17 ⟨by rw [hO, cd_area_2], by rw [hO]; rfl⟩ rfl (mm_nl rfl) (mm_nl rfl)
      · exact mm_catchw C K [(0, 7, 10, 13), (0, 7, 14, 27)] (0, 7, 18, 21) [] rfl (List.mem_of_getElem? (i := 2) rfl) (fun z hz => by
          simp only [List.mem_cons, List.not_mem_nil, or_false] at hz
          rcases hz with rfl | rfl
          · exact ⟨by decide, x_ia, List.mem_of_getElem? (i := 0) rfl, (Ne.symm ne_ia_is), (mm_wc tw112)⟩
          · exact ⟨by decide, x_io, List.mem_of_getElem? (i := 1) rfl, (Ne.symm ne_io_is), (mm_wc tw254)⟩) (mm_nl rfl) (mm_nl rfl) (by decide) (mm_wc tw223) (List.mem_of_getElem? (i := 14) rfl) hnL (by decide) dL_area_18 dL_area_20 (v := 3) (by decide) dL_area_21 ⟨by rw [hO, cd_area_3], by rw [hO]; rfl⟩ rfl (mm_nl rfl) (mm_nl rfl)
    · rw [hO] at h'
      cases h'
  · refine mm_callV (av := [.int a, .int b, .int e]) C 0 (mm_gV sv_L_X2_area_36.1 sv_L_X2_area_36.2.1 sv_L_X2_area_36.2.2.1 sv_L_X2_area_36.2.2.2.1 sv_L_X2_area_36.2.2.2.2.1) (sv_L_X2_area_36.2.2.2.2.2) (kX2_area _ _ u _ a b e k c i hI) 3 rfl rfl rfl rfl rfl ⟨mm_nl rfl, mm_nl rfl⟩ rfl rfl (mm_nl rfl) dL_area_4 ⟨mm_nl rfl, mm_nl rfl⟩ (fun E' h' => ?_) (fun v' hp' h' _ => ?_)
    · rw [hO] at h'
      cases h'
    · rw [hO] at h'
      cases h'
      refine mm_goto (tgt := 22) C dL_area_7 (by decide) ?_
      refine mm_iconst (v := 0) C dL_area_22 (by decide) ?_
      exact mm_iretH C K rfl dL_area_23 ⟨by rw [hO]; rfl, by rw [hO]; rfl⟩ rfl (mm_nl rfl) (mm_nl rfl)
theorem ou_upgrade (u : ks_S) (a b e : Int32) : (∃ E, o_upgrade u a b e = .inl E ∧ E ∈ l_upgrade) ∨ (∃ u', o_upgrade u a b e = .inr (none, u')) := by
  unfold o_upgrade
  repeat' (first | exact Or.inl ⟨_, rfl, by simp [l_upgrade]⟩ | exact Or.inr ⟨_, rfl⟩ | split)
set_option maxHeartbeats 4000000 in
set_option maxRecDepth 100000 in
theorem kL_upgrade (l : Launch) (D : va_G) (u w : ks_S) (t : Int32) (ck cw : Nat → Int32) (f : Nat → Int64) (a b e : Int32) (k c i : Nat) (hI : ks_I u k c i) : mm_Met l D yL_upgrade (mm_cwH yL_upgrade cL_upgrade 5 (some .int) [(0, 7, 10, 13), (0, 7, 14, 27), (0, 7, 18, 21), (0, 7, 22, 15)]) mm_rh [.ref 0, .int a, .int b, .int e] (lw_H u w t ck cw f) (fun v hp' => v = some (.int (m_cd l_upgrade (o_upgrade u a b e))) ∧ hp' = lw_H (m_us u (o_upgrade u a b e)) w t ck cw f) (fun _ => False) 4 24 := by
  have hou := ou_upgrade u a b e
  refine mm_startH (own := RL) (by decide) rfl rfl (mm_nl rfl) (fun _ => rfl) (fun _ => rfl) (fun g ad hl hD hnL C K => ?_)
  subst hl
  subst hD
  show mm_M g ad 0 0 (lw_H u w t ck cw f) 0 [(0, .ref 0), (1, .int a), (2, .int b), (3, .int e)] []
  refine mm_aload_n C dL_upgrade_0 rfl 0 rfl ?_
  refine mm_iload_n C dL_upgrade_1 rfl 1 rfl ?_
  refine mm_iload_n C dL_upgrade_2 rfl 2 rfl ?_
  refine mm_iload_n C dL_upgrade_3 rfl 3 rfl ?_
  rcases hou with ⟨E, hO, hE⟩ | ⟨u', hO⟩
  · refine mm_callV (av := [.int a, .int b, .int e]) C 0 (mm_gV sv_L_X2_upgrade_40.1 sv_L_X2_upgrade_40.2.1 sv_L_X2_upgrade_40.2.2.1 sv_L_X2_upgrade_40.2.2.2.1 sv_L_X2_upgrade_40.2.2.2.2.1) (sv_L_X2_upgrade_40.2.2.2.2.2) (kX2_upgrade _ _ u _ a b e k c i hI) 3 rfl rfl rfl rfl rfl ⟨mm_nl rfl, mm_nl rfl⟩ rfl rfl (mm_nl rfl) dL_upgrade_4 ⟨mm_nl rfl, mm_nl rfl⟩ (fun E' h' => ?_) (fun v' hp' h' _ => ?_)
    · rw [hO] at h'
      cases h'
      simp only [l_upgrade, List.mem_cons, List.not_mem_nil, or_false] at hE
      rcases hE with rfl | rfl | rfl | rfl
      · exact mm_catchw C K [] (0, 7, 10, 13) [(0, 7, 14, 27), (0, 7, 18, 21), (0, 7, 22, 15)] rfl (List.mem_of_getElem? (i := 0) rfl) (fun z hz => absurd hz List.not_mem_nil) (mm_nl rfl) (mm_nl rfl) (by decide) (mm_wc tw112) (List.mem_of_getElem? (i := 6) rfl) hnL (by decide) dL_upgrade_10 dL_upgrade_12 (v := 1) (by decide) dL_upgrade_13 ⟨by rw [hO, cd_upgrade_1], by rw [hO]; rfl⟩ rfl (mm_nl rfl) (mm_nl rfl)
      · exact mm_catchw C K [(0, 7, 10, 13)] (0, 7, 14, 27) [(0, 7, 18, 21), (0, 7, 22, 15)] rfl (List.mem_of_getElem? (i := 1) rfl) (fun z hz => by
          simp only [List.mem_cons, List.not_mem_nil, or_false] at hz
          subst hz
          exact ⟨by decide, x_ia, List.mem_of_getElem? (i := 0) rfl, (Ne.symm ne_ia_io), (mm_wc tw112)⟩) (mm_nl rfl) (mm_nl rfl) (by decide) (mm_wc tw254) (List.mem_of_getElem? (i := 15) rfl) hnL (by decide) dL_upgrade_14 dL_upgrade_16 (v := 2) (by decide) dL_upgrade_17 ⟨by rw [hO, cd_upgrade_2], by rw [hO]; rfl⟩ rfl (mm_nl rfl) (mm_nl rfl)
      · exact mm_catchw C K [(0, 7, 10, 13), (0, 7, 14, 27)] (0, 7, 18, 21) [(0, 7, 22, 15)] rfl (List.mem_of_getElem? (i := 2) rfl) (fun z hz => by
          simp only [List.mem_cons, List.not_mem_nil, or_false] at hz
          rcases hz with rfl | rfl
          · exact ⟨by decide, x_ia, List.mem_of_getElem? (i := 0) rfl, (Ne.symm ne_ia_is), (mm_wc tw112)⟩
          · exact ⟨by decide, x_io, List.mem_of_getElem? (i := 1) rfl, (Ne.symm ne_io_is), (mm_wc tw254)⟩) (mm_nl rfl) (mm_nl rfl) (by decide) (mm_wc tw223) (List.mem_of_getElem? (i := 14) rfl) hnL (by decide) dL_upgrade_18 dL_upgrade_20 (v := 3) (by decide) dL_upgrade_21 ⟨by rw [hO, cd_upgrade_3], by rw [hO]; rfl⟩ rfl (mm_nl rfl) (mm_nl rfl)
      · exact mm_catchw C K [(0, 7, 10, 13), (0, 7, 14, 27), (0, 7, 18, 21)] (0, 7, 22, 15) [] rfl (List.mem_of_getElem? (i := 3) rfl) (fun z hz => by
          simp only [List.mem_cons, List.not_mem_nil, or_false] at hz
          rcases hz with rfl | rfl | rfl
          · exact ⟨by decide, x_ia, List.mem_of_getElem? (i := 0) rfl, (Ne.symm ne_ia_uo), (mm_wc tw112)⟩
          · exact ⟨by decide, x_io, List.mem_of_getElem? (i := 1) rfl, (Ne.symm ne_io_uo), (mm_wc tw254)⟩
          · exact ⟨by decide, x_is, List.mem_of_getElem? (i := 2) rfl, (Ne.symm ne_is_uo), (mm_wc tw223)⟩) (mm_nl rfl) (mm_nl rfl) (by decide) (mm_wc tw113) (List.mem_of_getElem? (i := 13) rfl) hnL (by decide) dL_upgrade_22 dL_upgrade_24 (v := 4) (by decide) dL_upgrade_25 ⟨by rw [hO, cd_upgrade_4], by rw [hO]; rfl⟩ rfl (mm_nl rfl) (mm_nl rfl)
    · rw [hO] at h'
      cases h'
  · refine mm_callV (av := [.int a, .int b, .int e]) C 0 (mm_gV sv_L_X2_upgrade_40.1 sv_L_X2_upgrade_40.2.1 sv_L_X2_upgrade_40.2.2.1 sv_L_X2_upgrade_40.2.2.2.1 sv_L_X2_upgrade_40.2.2.2.2.1) (sv_L_X2_upgrade_40.2.2.2.2.2) (kX2_upgrade _ _ u _ a b e k c i hI) 3 rfl rfl rfl rfl rfl ⟨mm_nl rfl, mm_nl rfl⟩ rfl rfl (mm_nl rfl) dL_upgrade_4 ⟨mm_nl rfl, mm_nl rfl⟩ (fun E' h' => ?_) (fun v' hp' h' _ => ?_)
    · rw [hO] at h'
      cases h'
    · rw [hO] at h'
      cases h'
      refine mm_goto (tgt := 26) C dL_upgrade_7 (by decide) ?_
      refine mm_iconst (v := 0) C dL_upgrade_26 (by decide) ?_
      exact mm_iretH C K rfl dL_upgrade_27 ⟨by rw [hO]; rfl, by rw [hO]; rfl⟩ rfl (mm_nl rfl) (mm_nl rfl)
theorem ou_has (u : ks_S) (c : Nat) (a b e : Int32) : (∃ E, o_has u c a b e = .inl E ∧ E ∈ l_has) ∨ (∃ v u', o_has u c a b e = .inr (some v, u')) := by
  unfold o_has
  repeat' (first | exact Or.inl ⟨_, rfl, by simp [l_has]⟩ | exact Or.inr ⟨_, _, rfl⟩ | split)
set_option maxHeartbeats 4000000 in
set_option maxRecDepth 100000 in
theorem kL_has (l : Launch) (D : va_G) (u w : ks_S) (t : Int32) (ck cw : Nat → Int32) (f : Nat → Int64) (a b e : Int32) (k c i : Nat) (hI : ks_I u k c i) : mm_Met l D yL_has (mm_cwH yL_has cL_has 6 (some .int) [(0, 12, 15, 13), (0, 12, 19, 27)]) mm_rh [.ref 0, .int a, .int b, .int e, .ref 33] (lw_H u w t ck cw f) (fun v hp' => v = some (.int (m_cd l_has (o_has u c a b e))) ∧ hp' = lw_H (m_us u (o_has u c a b e)) w t ck cw (m_ou f (o_has u c a b e))) (fun _ => False) 4 24 := by
  have hou := ou_has u c a b e
  refine mm_startH (own := RL) (by decide) rfl rfl (mm_nl rfl) (fun _ => rfl) (fun _ => rfl) (fun g ad hl hD hnL C K => ?_)
  subst hl
  subst hD
  show mm_M g ad 0 0 (lw_H u w t ck cw f) 0 [(0, .ref 0), (1, .int a), (2, .int b), (3, .int e), (4, .ref 33)] []
  refine mm_aload C dL_has_0 4 rfl ?_
  refine mm_iconst (v := 0) C dL_has_2 (by decide) ?_
  refine mm_aload_n C dL_has_3 rfl 0 rfl ?_
  refine mm_iload_n C dL_has_4 rfl 1 rfl ?_
  refine mm_iload_n C dL_has_5 rfl 2 rfl ?_
  refine mm_iload_n C dL_has_6 rfl 3 rfl ?_
  rcases hou with ⟨E, hO, hE⟩ | ⟨v, u', hO⟩
  · refine mm_callV (av := [.int a, .int b, .int e]) C 0 (mm_gV sv_L_X2_has_43.1 sv_L_X2_has_43.2.1 sv_L_X2_has_43.2.2.1 sv_L_X2_has_43.2.2.2.1 sv_L_X2_has_43.2.2.2.2.1) (sv_L_X2_has_43.2.2.2.2.2) (kX2_has _ _ u _ a b e k c i hI) 3 rfl rfl rfl rfl rfl ⟨mm_nl rfl, mm_nl rfl⟩ rfl rfl (mm_nl rfl) dL_has_7 ⟨mm_nl rfl, mm_nl rfl⟩ (fun E' h' => ?_) (fun v' hp' h' _ => ?_)
    · rw [hO] at h'
      cases h'
      simp only [l_has, List.mem_cons, List.not_mem_nil, or_false] at hE
      rcases hE with rfl | rfl
      · exact mm_catchw C K [] (0, 12, 15, 13) [(0, 12, 19, 27)] rfl (List.mem_of_getElem? (i := 0) rfl) (fun z hz => absurd hz List.not_mem_nil) (mm_nl rfl) (mm_nl rfl) (by decide) (mm_wc tw112) (List.mem_of_getElem? (i := 6) rfl) hnL (by decide) dL_has_15 dL_has_17 (v := 1) (by decide) dL_has_18 ⟨by rw [hO, cd_has_1], by rw [hO]; rfl⟩ rfl (mm_nl rfl) (mm_nl rfl)
      · exact mm_catchw C K [(0, 12, 15, 13)] (0, 12, 19, 27) [] rfl (List.mem_of_getElem? (i := 1) rfl) (fun z hz => by
          simp only [List.mem_cons, List.not_mem_nil, or_false] at hz
          subst hz
          exact ⟨by decide, x_ia, List.mem_of_getElem? (i := 0) rfl, (Ne.symm ne_ia_io), (mm_wc tw112)⟩) (mm_nl rfl) (mm_nl rfl) (by decide) (mm_wc tw254) (List.mem_of_getElem? (i := 15) rfl) hnL (by decide) dL_has_19 dL_has_21 (v := 2) (by decide) dL_has_22 ⟨by rw [hO, cd_has_2], by rw [hO]; rfl⟩ rfl (mm_nl rfl) (mm_nl rfl)
    · rw [hO] at h'
      cases h'
  · refine mm_callV (av := [.int a, .int b, .int e]) C 0 (mm_gV sv_L_X2_has_43.1 sv_L_X2_has_43.2.1 sv_L_X2_has_43.2.2.1 sv_L_X2_has_43.2.2.2.1 sv_L_X2_has_43.2.2.2.2.1) (sv_L_X2_has_43.2.2.2.2.2) (kX2_has _ _ u _ a b e k c i hI) 3 rfl rfl rfl rfl rfl ⟨mm_nl rfl, mm_nl rfl⟩ rfl rfl (mm_nl rfl) dL_has_7 ⟨mm_nl rfl, mm_nl rfl⟩ (fun E' h' => ?_) (fun v' hp' h' _ => ?_)
    · rw [hO] at h'
      cases h'
    · rw [hO] at h'
      cases h'
      refine mm_i2l C dL_has_10 ?_
      refine mm_last C 33 rfl (vp_in_nI (n := 0) (by decide) (by decide)) dL_has_11 ?_
      refine mm_goto (tgt := 23) C dL_has_12 (by decide) ?_
      refine mm_iconst (v := 0) C dL_has_23 (by decide) ?_
      exact mm_iretH C K rfl dL_has_24 ⟨by rw [hO]; rfl, by rw [hO]; rfl⟩ rfl (mm_nl rfl) (mm_nl rfl)
theorem ou_in (u : ks_S) (a b : Int32) : (∃ E, o_in u a b = .inl E ∧ E ∈ l_in) ∨ (∃ v u', o_in u a b = .inr (some v, u')) := by
  unfold o_in
  repeat' (first | exact Or.inl ⟨_, rfl, by simp [l_in]⟩ | exact Or.inr ⟨_, _, rfl⟩ | split)
set_option maxHeartbeats 4000000 in
set_option maxRecDepth 100000 in
theorem kL_in (l : Launch) (D : va_G) (u w : ks_S) (t : Int32) (ck cw : Nat → Int32) (f : Nat → Int64) (a b : Int32) (k c i : Nat) (hI : ks_I u k c i) : mm_Met l D yL_in (mm_cwH yL_in cL_in 5 (some .int) [(0, 10, 13, 13), (0, 10, 17, 27)]) mm_rh [.ref 0, .int a, .int b, .ref 33] (lw_H u w t ck cw f) (fun v hp' => v = some (.int (m_cd l_in (o_in u a b))) ∧ hp' = lw_H (m_us u (o_in u a b)) w t ck cw (m_ou f (o_in u a b))) (fun _ => False) 4 24 := by
  have hou := ou_in u a b
  refine mm_startH (own := RL) (by decide) rfl rfl (mm_nl rfl) (fun _ => rfl) (fun _ => rfl) (fun g ad hl hD hnL C K => ?_)
  subst hl
  subst hD
  show mm_M g ad 0 0 (lw_H u w t ck cw f) 0 [(0, .ref 0), (1, .int a), (2, .int b), (3, .ref 33)] []
  refine mm_aload_n C dL_in_0 rfl 3 rfl ?_
  refine mm_iconst (v := 0) C dL_in_1 (by decide) ?_
  refine mm_aload_n C dL_in_2 rfl 0 rfl ?_
  refine mm_iload_n C dL_in_3 rfl 1 rfl ?_
  refine mm_iload_n C dL_in_4 rfl 2 rfl ?_
  rcases hou with ⟨E, hO, hE⟩ | ⟨v, u', hO⟩
  · refine mm_callV (av := [.int a, .int b]) C 0 (mm_gV sv_L_X2_in_47.1 sv_L_X2_in_47.2.1 sv_L_X2_in_47.2.2.1 sv_L_X2_in_47.2.2.2.1 sv_L_X2_in_47.2.2.2.2.1) (sv_L_X2_in_47.2.2.2.2.2) (kX2_in _ _ u _ a b k c i hI) 2 rfl rfl rfl rfl rfl ⟨mm_nl rfl, mm_nl rfl⟩ rfl rfl (mm_nl rfl) dL_in_5 ⟨mm_nl rfl, mm_nl rfl⟩ (fun E' h' => ?_) (fun v' hp' h' _ => ?_)
    · rw [hO] at h'
      cases h'
      simp only [l_in, List.mem_cons, List.not_mem_nil, or_false] at hE
      rcases hE with rfl | rfl
      · exact mm_catchw C K [] (0, 10, 13, 13) [(0, 10, 17, 27)] rfl (List.mem_of_getElem? (i := 0) rfl) (fun z hz => absurd hz List.not_mem_nil) (mm_nl rfl) (mm_nl rfl) (by decide) (mm_wc tw112) (List.mem_of_getElem? (i := 6) rfl) hnL (by decide) dL_in_13 dL_in_15 (v := 1) (by decide) dL_in_16 ⟨by rw [hO, cd_in_1], by rw [hO]; rfl⟩ rfl (mm_nl rfl) (mm_nl rfl)
      · exact mm_catchw C K [(0, 10, 13, 13)] (0, 10, 17, 27) [] rfl (List.mem_of_getElem? (i := 1) rfl) (fun z hz => by
          simp only [List.mem_cons, List.not_mem_nil, or_false] at hz
          subst hz
          exact ⟨by decide, x_ia, List.mem_of_getElem? (i := 0) rfl, (Ne.symm ne_ia_io), (mm_wc tw112)⟩) (mm_nl rfl) (mm_nl rfl) (by decide) (mm_wc tw254) (List.mem_of_getElem? (i := 15) rfl) hnL (by decide) dL_in_17 dL_in_19 (v := 2) (by decide) dL_in_20 ⟨by rw [hO, cd_in_2], by rw [hO]; rfl⟩ rfl (mm_nl rfl) (mm_nl rfl)
    · rw [hO] at h'
      cases h'
  · refine mm_callV (av := [.int a, .int b]) C 0 (mm_gV sv_L_X2_in_47.1 sv_L_X2_in_47.2.1 sv_L_X2_in_47.2.2.1 sv_L_X2_in_47.2.2.2.1 sv_L_X2_in_47.2.2.2.2.1) (sv_L_X2_in_47.2.2.2.2.2) (kX2_in _ _ u _ a b k c i hI) 2 rfl rfl rfl rfl rfl ⟨mm_nl rfl, mm_nl rfl⟩ rfl rfl (mm_nl rfl) dL_in_5 ⟨mm_nl rfl, mm_nl rfl⟩ (fun E' h' => ?_) (fun v' hp' h' _ => ?_)
    · rw [hO] at h'
      cases h'
    · rw [hO] at h'
      cases h'
      refine mm_i2l C dL_in_8 ?_
      refine mm_last C 33 rfl (vp_in_nI (n := 0) (by decide) (by decide)) dL_in_9 ?_
      refine mm_goto (tgt := 21) C dL_in_10 (by decide) ?_
      refine mm_iconst (v := 0) C dL_in_21 (by decide) ?_
      exact mm_iretH C K rfl dL_in_22 ⟨by rw [hO]; rfl, by rw [hO]; rfl⟩ rfl (mm_nl rfl) (mm_nl rfl)
theorem ou_open (u : ks_S) (a b e : Int32) : (∃ E, o_open u a b e = .inl E ∧ E ∈ l_open) ∨ (∃ v u', o_open u a b e = .inr (some v, u')) := by
  unfold o_open
  repeat' (first | exact Or.inl ⟨_, rfl, by simp [l_open]⟩ | exact Or.inr ⟨_, _, rfl⟩ | split)
set_option maxHeartbeats 4000000 in
set_option maxRecDepth 100000 in
theorem kL_open (l : Launch) (D : va_G) (u w : ks_S) (t : Int32) (ck cw : Nat → Int32) (f : Nat → Int64) (a b e : Int32) (k c i : Nat) (hI : ks_I u k c i) : mm_Met l D yL_open (mm_cwH yL_open cL_open 6 (some .int) [(0, 12, 15, 13), (0, 12, 19, 27), (0, 12, 23, 21), (0, 12, 27, 15)]) mm_rh [.ref 0, .int a, .int b, .int e, .ref 33] (lw_H u w t ck cw f) (fun v hp' => v = some (.int (m_cd l_open (o_open u a b e))) ∧ hp' = lw_H (m_us u (o_open u a b e)) w t ck cw (m_ou f (o_open u a b e))) (fun _ => False) 4 24 := by
  have hou := ou_open u a b e
  refine mm_startH (own := RL) (by decide) rfl rfl (mm_nl rfl) (fun _ => rfl) (fun _ => rfl) (fun g ad hl hD hnL C K => ?_)
  subst hl
  subst hD
  show mm_M g ad 0 0 (lw_H u w t ck cw f) 0 [(0, .ref 0), (1, .int a), (2, .int b), (3, .int e), (4, .ref 33)] []
  refine mm_aload C dL_open_0 4 rfl ?_
  refine mm_iconst (v := 0) C dL_open_2 (by decide) ?_
  refine mm_aload_n C dL_open_3 rfl 0 rfl ?_
  refine mm_iload_n C dL_open_4 rfl 1 rfl ?_
  refine mm_iload_n C dL_open_5 rfl 2 rfl ?_
  refine mm_iload_n C dL_open_6 rfl 3 rfl ?_
  rcases hou with ⟨E, hO, hE⟩ | ⟨v, u', hO⟩
  · refine mm_callV (av := [.int a, .int b, .int e]) C 0 (mm_gV sv_L_X2_open_51.1 sv_L_X2_open_51.2.1 sv_L_X2_open_51.2.2.1 sv_L_X2_open_51.2.2.2.1 sv_L_X2_open_51.2.2.2.2.1) (sv_L_X2_open_51.2.2.2.2.2) (kX2_open _ _ u _ a b e k c i hI) 3 rfl rfl rfl rfl rfl ⟨mm_nl rfl, mm_nl rfl⟩ rfl rfl (mm_nl rfl) dL_open_7 ⟨mm_nl rfl, mm_nl rfl⟩ (fun E' h' => ?_) (fun v' hp' h' _ => ?_)
    · rw [hO] at h'
      cases h'
      simp only [l_open, List.mem_cons, List.not_mem_nil, or_false] at hE
      rcases hE with rfl | rfl | rfl | rfl
      · exact mm_catchw C K [] (0, 12, 15, 13) [(0, 12, 19, 27), (0, 12, 23, 21), (0, 12, 27, 15)] rfl (List.mem_of_getElem? (i := 0) rfl) (fun z hz => absurd hz List.not_mem_nil) (mm_nl rfl) (mm_nl rfl) (by decide) (mm_wc tw112) (List.mem_of_getElem? (i := 6) rfl) hnL (by decide) dL_open_15 dL_open_17 (v := 1) (by decide) dL_open_18 ⟨by rw [hO, cd_open_1], by rw [hO]; rfl⟩ rfl (mm_nl rfl) (mm_nl rfl)
      · exact mm_catchw C K [(0, 12, 15, 13)] (0, 12, 19, 27) [(0, 12, 23, 21), (0, 12, 27, 15)] rfl (List.mem_of_getElem? (i := 1) rfl) (fun z hz => by
          simp only [List.mem_cons, List.not_mem_nil, or_false] at hz
          subst hz
          exact ⟨by decide, x_ia, List.mem_of_getElem? (i := 0) rfl, (Ne.symm ne_ia_io), (mm_wc tw112)⟩) (mm_nl rfl) (mm_nl rfl) (by decide) (mm_wc tw254) (List.mem_of_getElem? (i := 15) rfl) hnL (by decide) dL_open_19 dL_open_21 (v := 2) (by decide) dL_open_22 ⟨by rw [hO, cd_open_2], by rw [hO]; rfl⟩ rfl (mm_nl rfl) (mm_nl rfl)
      · exact mm_catchw C K [(0, 12, 15, 13), (0, 12, 19, 27)] (0, 12, 23, 21) [(0, 12, 27, 15)] rfl (List.mem_of_getElem? (i := 2) rfl) (fun z hz => by
          simp only [List.mem_cons, List.not_mem_nil, or_false] at hz
          rcases hz with rfl | rfl
          · exact ⟨by decide, x_ia, List.mem_of_getElem? (i := 0) rfl, (Ne.symm ne_ia_is), (mm_wc tw112)⟩
          · exact ⟨by decide, x_io, List.mem_of_getElem? (i := 1) rfl, (Ne.symm ne_io_is), (mm_wc tw254)⟩) (mm_nl rfl) (mm_nl rfl) (by decide) (mm_wc tw223) (List.mem_of_getElem? (i := 14) rfl) hnL (by decide) dL_open_23 dL_open_25 (v := 3) (by decide) dL_open_26 ⟨by rw [hO, cd_open_3], by rw [hO]; rfl⟩ rfl (mm_nl rfl) (mm_nl rfl)
      · exact mm_catchw C K [(0, 12, 15, 13), (0, 12, 19, 27), (0, 12, 23, 21)] (0, 12, 27, 15) [] rfl (List.mem_of_getElem? (i := 3) rfl) (fun z hz => by
          simp only [List.mem_cons, List.not_mem_nil, or_false] at hz
          rcases hz with rfl | rfl | rfl
          · exact ⟨by decide, x_ia, List.mem_of_getElem? (i := 0) rfl, (Ne.symm ne_ia_uo), (mm_wc tw112)⟩
          · exact ⟨by decide, x_io, List.mem_of_getElem? (i := 1) rfl, (Ne.symm ne_io_uo), (mm_wc tw254)⟩
          · exact ⟨by decide, x_is, List.mem_of_getElem? (i := 2) rfl, (Ne.symm ne_is_uo), (mm_wc tw223)⟩) (mm_nl rfl) (mm_nl rfl) (by decide) (mm_wc tw113) (List.mem_of_getElem? (i := 13) rfl) hnL (by decide) dL_open_27 dL_open_29 (v := 4) (by decide) dL_open_30 ⟨by rw [hO, cd_open_4], by rw [hO]; rfl⟩ rfl (mm_nl rfl) (mm_nl rfl)
    · rw [hO] at h'
      cases h'
  · refine mm_callV (av := [.int a, .int b, .int e]) C 0 (mm_gV sv_L_X2_open_51.1 sv_L_X2_open_51.2.1 sv_L_X2_open_51.2.2.1 sv_L_X2_open_51.2.2.2.1 sv_L_X2_open_51.2.2.2.2.1) (sv_L_X2_open_51.2.2.2.2.2) (kX2_open _ _ u _ a b e k c i hI) 3 rfl rfl rfl rfl rfl ⟨mm_nl rfl, mm_nl rfl⟩ rfl rfl (mm_nl rfl) dL_open_7 ⟨mm_nl rfl, mm_nl rfl⟩ (fun E' h' => ?_) (fun v' hp' h' _ => ?_)
    · rw [hO] at h'
      cases h'
    · rw [hO] at h'
      cases h'
      refine mm_i2l C dL_open_10 ?_
      refine mm_last C 33 rfl (vp_in_nI (n := 0) (by decide) (by decide)) dL_open_11 ?_
      refine mm_goto (tgt := 31) C dL_open_12 (by decide) ?_
      refine mm_iconst (v := 0) C dL_open_31 (by decide) ?_
      exact mm_iretH C K rfl dL_open_32 ⟨by rw [hO]; rfl, by rw [hO]; rfl⟩ rfl (mm_nl rfl) (mm_nl rfl)
theorem ou_found (u : ks_S) (a b e : Int32) : (∃ E, o_found u a b e = .inl E ∧ E ∈ l_found) ∨ (∃ v u', o_found u a b e = .inr (some v, u')) := by
  unfold o_found
  repeat' (first | exact Or.inl ⟨_, rfl, by simp [l_found]⟩ | exact Or.inr ⟨_, _, rfl⟩ | split)
set_option maxHeartbeats 4000000 in
set_option maxRecDepth 100000 in
theorem kL_found (l : Launch) (D : va_G) (u w : ks_S) (t : Int32) (ck cw : Nat → Int32) (f : Nat → Int64) (a b e : Int32) (k c i : Nat) (hI : ks_I u k c i) : mm_Met l D yL_found (mm_cwH yL_found cL_found 6 (some .int) [(0, 12, 15, 13), (0, 12, 19, 27), (0, 12, 23, 21)]) mm_rh [.ref 0, .int a, .int b, .int e, .ref 33] (lw_H u w t ck cw f) (fun v hp' => v = some (.int (m_cd l_found (o_found u a b e))) ∧ hp' = lw_H (m_us u (o_found u a b e)) w t ck cw (m_ou f (o_found u a b e))) (fun _ => False) 4 24 := by
  have hou := ou_found u a b e
  refine mm_startH (own := RL) (by decide) rfl rfl (mm_nl rfl) (fun _ => rfl) (fun _ => rfl) (fun g ad hl hD hnL C K => ?_)
  subst hl
  subst hD
  show mm_M g ad 0 0 (lw_H u w t ck cw f) 0 [(0, .ref 0), (1, .int a), (2, .int b), (3, .int e), (4, .ref 33)] []
  refine mm_aload C dL_found_0 4 rfl ?_
  refine mm_iconst (v := 0) C dL_found_2 (by decide) ?_
  refine mm_aload_n C dL_found_3 rfl 0 rfl ?_
  refine mm_iload_n C dL_found_4 rfl 1 rfl ?_
  refine mm_iload_n C dL_found_5 rfl 2 rfl ?_
  refine mm_iload_n C dL_found_6 rfl 3 rfl ?_
  rcases hou with ⟨E, hO, hE⟩ | ⟨v, u', hO⟩
  · refine mm_callV (av := [.int a, .int b, .int e]) C 0 (mm_gV sv_L_X2_found_54.1 sv_L_X2_found_54.2.1 sv_L_X2_found_54.2.2.1 sv_L_X2_found_54.2.2.2.1 sv_L_X2_found_54.2.2.2.2.1) (sv_L_X2_found_54.2.2.2.2.2) (kX2_found _ _ u _ a b e k c i hI) 3 rfl rfl rfl rfl rfl ⟨mm_nl rfl, mm_nl rfl⟩ rfl rfl (mm_nl rfl) dL_found_7 ⟨mm_nl rfl, mm_nl rfl⟩ (fun E' h' => ?_) (fun v' hp' h' _ => ?_)
    · rw [hO] at h'
      cases h'
      simp only [l_found, List.mem_cons, List.not_mem_nil, or_false] at hE
      rcases hE with rfl | rfl | rfl
      · exact mm_catchw C K [] (0, 12, 15, 13) [(0, 12, 19, 27), (0, 12, 23, 21)] rfl (List.mem_of_getElem? (i := 0) rfl) (fun z hz => absurd hz List.not_mem_nil) (mm_nl rfl) (mm_nl rfl) (by decide) (mm_wc tw112) (List.mem_of_getElem? (i := 6) rfl) hnL (by decide) dL_found_15 dL_found_17 (v := 1) (by decide) dL_found_18 ⟨by rw [hO, cd_found_1], by rw [hO]; rfl⟩ rfl (mm_nl rfl) (mm_nl rfl)
      · exact mm_catchw C K [(0, 12, 15, 13)] (0, 12, 19, 27) [(0, 12, 23, 21)] rfl (List.mem_of_getElem? (i := 1) rfl) (fun z hz => by
          simp only [List.mem_cons, List.not_mem_nil, or_false] at hz
          subst hz
          exact ⟨by decide, x_ia, List.mem_of_getElem? (i := 0) rfl, (Ne.symm ne_ia_io), (mm_wc tw112)⟩) (mm_nl rfl) (mm_nl rfl) (by decide) (mm_wc tw254) (List.mem_of_getElem? (i := 15) rfl) hnL (by decide) dL_found_19 dL_found_21 (v := 2) (by decide) dL_found_22 ⟨by rw [hO, cd_found_2], by rw [hO]; rfl⟩ rfl (mm_nl rfl) (mm_nl rfl)
      · exact mm_catchw C K [(0, 12, 15, 13), (0, 12, 19, 27)] (0, 12, 23, 21) [] rfl (List.mem_of_getElem? (i := 2) rfl) (fun z hz => by
          simp only [List.mem_cons, List.not_mem_nil, or_false] at hz
          rcases hz with rfl | rfl
          · exact ⟨by decide, x_ia, List.mem_of_getElem? (i := 0) rfl, (Ne.symm ne_ia_is), (mm_wc tw112)⟩
          · exact ⟨by decide, x_io, List.mem_of_getElem? (i := 1) rfl, (Ne.symm ne_io_is), (mm_wc tw254)⟩) (mm_nl rfl) (mm_nl rfl) (by decide) (mm_wc tw223) (List.mem_of_getElem? (i := 14) rfl) hnL (by decide) dL_found_23 dL_found_25 (v := 3) (by decide) dL_found_26 ⟨by rw [hO, cd_found_3], by rw [hO]; rfl⟩ rfl (mm_nl rfl) (mm_nl rfl)
    · rw [hO] at h'
      cases h'
  · refine mm_callV (av := [.int a, .int b, .int e]) C 0 (mm_gV sv_L_X2_found_54.1 sv_L_X2_found_54.2.1 sv_L_X2_found_54.2.2.1 sv_L_X2_found_54.2.2.2.1 sv_L_X2_found_54.2.2.2.2.1) (sv_L_X2_found_54.2.2.2.2.2) (kX2_found _ _ u _ a b e k c i hI) 3 rfl rfl rfl rfl rfl ⟨mm_nl rfl, mm_nl rfl⟩ rfl rfl (mm_nl rfl) dL_found_7 ⟨mm_nl rfl, mm_nl rfl⟩ (fun E' h' => ?_) (fun v' hp' h' _ => ?_)
    · rw [hO] at h'
      cases h'
    · rw [hO] at h'
      cases h'
      refine mm_i2l C dL_found_10 ?_
      refine mm_last C 33 rfl (vp_in_nI (n := 0) (by decide) (by decide)) dL_found_11 ?_
      refine mm_goto (tgt := 27) C dL_found_12 (by decide) ?_
      refine mm_iconst (v := 0) C dL_found_27 (by decide) ?_
      exact mm_iretH C K rfl dL_found_28 ⟨by rw [hO]; rfl, by rw [hO]; rfl⟩ rfl (mm_nl rfl) (mm_nl rfl)
theorem ou_send (u : ks_S) (a b e : Int32) : (∃ E, o_send u a b e = .inl E ∧ E ∈ l_send) ∨ (∃ v u', o_send u a b e = .inr (some v, u')) := by
  unfold o_send
  repeat' (first | exact Or.inl ⟨_, rfl, by simp [l_send]⟩ | exact Or.inr ⟨_, _, rfl⟩ | split)
set_option maxHeartbeats 4000000 in
set_option maxRecDepth 100000 in
theorem kL_send (l : Launch) (D : va_G) (u w : ks_S) (t : Int32) (ck cw : Nat → Int32) (f : Nat → Int64) (a b e : Int32) (k c i : Nat) (hI : ks_I u k c i) : mm_Met l D yL_send (mm_cwH yL_send cL_send 6 (some .int) [(0, 12, 15, 13), (0, 12, 19, 27), (0, 12, 23, 15)]) mm_rh [.ref 0, .int a, .int b, .int e, .ref 33] (lw_H u w t ck cw f) (fun v hp' => v = some (.int (m_cd l_send (o_send u a b e))) ∧ hp' = lw_H (m_us u (o_send u a b e)) w t ck cw (m_ou f (o_send u a b e))) (fun _ => False) 4 24 := by
  have hou := ou_send u a b e
  refine mm_startH (own := RL) (by decide) rfl rfl (mm_nl rfl) (fun _ => rfl) (fun _ => rfl) (fun g ad hl hD hnL C K => ?_)
  subst hl
  subst hD
  show mm_M g ad 0 0 (lw_H u w t ck cw f) 0 [(0, .ref 0), (1, .int a), (2, .int b), (3, .int e), (4, .ref 33)] []
  refine mm_aload C dL_send_0 4 rfl ?_
  refine mm_iconst (v := 0) C dL_send_2 (by decide) ?_
  refine mm_aload_n C dL_send_3 rfl 0 rfl ?_
  refine mm_iload_n C dL_send_4 rfl 1 rfl ?_
  refine mm_iload_n C dL_send_5 rfl 2 rfl ?_
  refine mm_iload_n C dL_send_6 rfl 3 rfl ?_
  rcases hou with ⟨E, hO, hE⟩ | ⟨v, u', hO⟩
  · refine mm_callV (av := [.int a, .int b, .int e]) C 0 (mm_gV sv_L_X2_send_57.1 sv_L_X2_send_57.2.1 sv_L_X2_send_57.2.2.1 sv_L_X2_send_57.2.2.2.1 sv_L_X2_send_57.2.2.2.2.1) (sv_L_X2_send_57.2.2.2.2.2) (kX2_send _ _ u _ a b e k c i hI) 3 rfl rfl rfl rfl rfl ⟨mm_nl rfl, mm_nl rfl⟩ rfl rfl (mm_nl rfl) dL_send_7 ⟨mm_nl rfl, mm_nl rfl⟩ (fun E' h' => ?_) (fun v' hp' h' _ => ?_)
    · rw [hO] at h'
      cases h'
      simp only [l_send, List.mem_cons, List.not_mem_nil, or_false] at hE
      rcases hE with rfl | rfl | rfl
      · exact mm_catchw C K [] (0, 12, 15, 13) [(0, 12, 19, 27), (0, 12, 23, 15)] rfl (List.mem_of_getElem? (i := 0) rfl) (fun z hz => absurd hz List.not_mem_nil) (mm_nl rfl) (mm_nl rfl) (by decide) (mm_wc tw112) (List.mem_of_getElem? (i := 6) rfl) hnL (by decide) dL_send_15 dL_send_17 (v := 1) (by decide) dL_send_18 ⟨by rw [hO, cd_send_1], by rw [hO]; rfl⟩ rfl (mm_nl rfl) (mm_nl rfl)
      · exact mm_catchw C K [(0, 12, 15, 13)] (0, 12, 19, 27) [(0, 12, 23, 15)] rfl (List.mem_of_getElem? (i := 1) rfl) (fun z hz => by
          simp only [List.mem_cons, List.not_mem_nil, or_false] at hz
          subst hz
          exact ⟨by decide, x_ia, List.mem_of_getElem? (i := 0) rfl, (Ne.symm ne_ia_io), (mm_wc tw112)⟩) (mm_nl rfl) (mm_nl rfl) (by decide) (mm_wc tw254) (List.mem_of_getElem? (i := 15) rfl) hnL (by decide) dL_send_19 dL_send_21 (v := 2) (by decide) dL_send_22 ⟨by rw [hO, cd_send_2], by rw [hO]; rfl⟩ rfl (mm_nl rfl) (mm_nl rfl)
      · exact mm_catchw C K [(0, 12, 15, 13), (0, 12, 19, 27)] (0, 12, 23, 15) [] rfl (List.mem_of_getElem? (i := 3) rfl) (fun z hz => by
          simp only [List.mem_cons, List.not_mem_nil, or_false] at hz
          rcases hz with rfl | rfl
          · exact ⟨by decide, x_ia, List.mem_of_getElem? (i := 0) rfl, (Ne.symm ne_ia_uo), (mm_wc tw112)⟩
          · exact ⟨by decide, x_io, List.mem_of_getElem? (i := 1) rfl, (Ne.symm ne_io_uo), (mm_wc tw254)⟩) (mm_nl rfl) (mm_nl rfl) (by decide) (mm_wc tw113) (List.mem_of_getElem? (i := 13) rfl) hnL (by decide) dL_send_23 dL_send_25 (v := 3) (by decide) dL_send_26 ⟨by rw [hO, cd_send_3], by rw [hO]; rfl⟩ rfl (mm_nl rfl) (mm_nl rfl)
    · rw [hO] at h'
      cases h'
  · refine mm_callV (av := [.int a, .int b, .int e]) C 0 (mm_gV sv_L_X2_send_57.1 sv_L_X2_send_57.2.1 sv_L_X2_send_57.2.2.1 sv_L_X2_send_57.2.2.2.1 sv_L_X2_send_57.2.2.2.2.1) (sv_L_X2_send_57.2.2.2.2.2) (kX2_send _ _ u _ a b e k c i hI) 3 rfl rfl rfl rfl rfl ⟨mm_nl rfl, mm_nl rfl⟩ rfl rfl (mm_nl rfl) dL_send_7 ⟨mm_nl rfl, mm_nl rfl⟩ (fun E' h' => ?_) (fun v' hp' h' _ => ?_)
    · rw [hO] at h'
      cases h'
    · rw [hO] at h'
      cases h'
      refine mm_i2l C dL_send_10 ?_
      refine mm_last C 33 rfl (vp_in_nI (n := 0) (by decide) (by decide)) dL_send_11 ?_
      refine mm_goto (tgt := 27) C dL_send_12 (by decide) ?_
      refine mm_iconst (v := 0) C dL_send_27 (by decide) ?_
      exact mm_iretH C K rfl dL_send_28 ⟨by rw [hO]; rfl, by rw [hO]; rfl⟩ rfl (mm_nl rfl) (mm_nl rfl)
theorem ou_missing (u : ks_S) (c : Nat) (a b e : Int32) : (∃ E, o_missing u c a b e = .inl E ∧ E ∈ l_missing) ∨ (∃ v u', o_missing u c a b e = .inr (some v, u')) := by
  unfold o_missing
  repeat' (first | exact Or.inl ⟨_, rfl, by simp [l_missing]⟩ | exact Or.inr ⟨_, _, rfl⟩ | split)
set_option maxHeartbeats 4000000 in
set_option maxRecDepth 100000 in
theorem kL_missing (l : Launch) (D : va_G) (u w : ks_S) (t : Int32) (ck cw : Nat → Int32) (f : Nat → Int64) (a b e : Int32) (k c i : Nat) (hI : ks_I u k c i) : mm_Met l D yL_missing (mm_cwH yL_missing cL_missing 6 (some .int) [(0, 12, 15, 13), (0, 12, 19, 27)]) mm_rh [.ref 0, .int a, .int b, .int e, .ref 33] (lw_H u w t ck cw f) (fun v hp' => v = some (.int (m_cd l_missing (o_missing u c a b e))) ∧ hp' = lw_H (m_us u (o_missing u c a b e)) w t ck cw (m_ou f (o_missing u c a b e))) (fun _ => False) 4 24 := by
  have hou := ou_missing u c a b e
  refine mm_startH (own := RL) (by decide) rfl rfl (mm_nl rfl) (fun _ => rfl) (fun _ => rfl) (fun g ad hl hD hnL C K => ?_)
  subst hl
  subst hD
  show mm_M g ad 0 0 (lw_H u w t ck cw f) 0 [(0, .ref 0), (1, .int a), (2, .int b), (3, .int e), (4, .ref 33)] []
  refine mm_aload C dL_missing_0 4 rfl ?_
  refine mm_iconst (v := 0) C dL_missing_2 (by decide) ?_
  refine mm_aload_n C dL_missing_3 rfl 0 rfl ?_
  refine mm_iload_n C dL_missing_4 rfl 1 rfl ?_
  refine mm_iload_n C dL_missing_5 rfl 2 rfl ?_
  refine mm_iload_n C dL_missing_6 rfl 3 rfl ?_
  rcases hou with ⟨E, hO, hE⟩ | ⟨v, u', hO⟩
  · refine mm_callV (av := [.int a, .int b, .int e]) C 0 (mm_gV sv_L_X2_missing_60.1 sv_L_X2_missing_60.2.1 sv_L_X2_missing_60.2.2.1 sv_L_X2_missing_60.2.2.2.1 sv_L_X2_missing_60.2.2.2.2.1) (sv_L_X2_missing_60.2.2.2.2.2) (kX2_missing _ _ u _ a b e k c i hI) 3 rfl rfl rfl rfl rfl ⟨mm_nl rfl, mm_nl rfl⟩ rfl rfl (mm_nl rfl) dL_missing_7 ⟨mm_nl rfl, mm_nl rfl⟩ (fun E' h' => ?_) (fun v' hp' h' _ => ?_)
    · rw [hO] at h'
      cases h'
      simp only [l_missing, List.mem_cons, List.not_mem_nil, or_false] at hE
      rcases hE with rfl | rfl
      · exact mm_catchw C K [] (0, 12, 15, 13) [(0, 12, 19, 27)] rfl (List.mem_of_getElem? (i := 0) rfl) (fun z hz => absurd hz List.not_mem_nil) (mm_nl rfl) (mm_nl rfl) (by decide) (mm_wc tw112) (List.mem_of_getElem? (i := 6) rfl) hnL (by decide) dL_missing_15 dL_missing_17 (v := 1) (by decide) dL_missing_18 ⟨by rw [hO, cd_missing_1], by rw [hO]; rfl⟩ rfl (mm_nl rfl) (mm_nl rfl)
      · exact mm_catchw C K [(0, 12, 15, 13)] (0, 12, 19, 27) [] rfl (List.mem_of_getElem? (i := 1) rfl) (fun z hz => by
          simp only [List.mem_cons, List.not_mem_nil, or_false] at hz
          subst hz
          exact ⟨by decide, x_ia, List.mem_of_getElem? (i := 0) rfl, (Ne.symm ne_ia_io), (mm_wc tw112)⟩) (mm_nl rfl) (mm_nl rfl) (by decide) (mm_wc tw254) (List.mem_of_getElem? (i := 15) rfl) hnL (by decide) dL_missing_19 dL_missing_21 (v := 2) (by decide) dL_missing_22 ⟨by rw [hO, cd_missing_2], by rw [hO]; rfl⟩ rfl (mm_nl rfl) (mm_nl rfl)
    · rw [hO] at h'
      cases h'
  · refine mm_callV (av := [.int a, .int b, .int e]) C 0 (mm_gV sv_L_X2_missing_60.1 sv_L_X2_missing_60.2.1 sv_L_X2_missing_60.2.2.1 sv_L_X2_missing_60.2.2.2.1 sv_L_X2_missing_60.2.2.2.2.1) (sv_L_X2_missing_60.2.2.2.2.2) (kX2_missing _ _ u _ a b e k c i hI) 3 rfl rfl rfl rfl rfl ⟨mm_nl rfl, mm_nl rfl⟩ rfl rfl (mm_nl rfl) dL_missing_7 ⟨mm_nl rfl, mm_nl rfl⟩ (fun E' h' => ?_) (fun v' hp' h' _ => ?_)
    · rw [hO] at h'
      cases h'
    · rw [hO] at h'
      cases h'
      refine mm_i2l C dL_missing_10 ?_
      refine mm_last C 33 rfl (vp_in_nI (n := 0) (by decide) (by decide)) dL_missing_11 ?_
      refine mm_goto (tgt := 23) C dL_missing_12 (by decide) ?_
      refine mm_iconst (v := 0) C dL_missing_23 (by decide) ?_
      exact mm_iretH C K rfl dL_missing_24 ⟨by rw [hO]; rfl, by rw [hO]; rfl⟩ rfl (mm_nl rfl) (mm_nl rfl)
theorem ou_incident (u : ks_S) (a b : Int32) : (∃ E, o_incident u a b = .inl E ∧ E ∈ l_incident) ∨ (∃ v u', o_incident u a b = .inr (some v, u')) := by
  unfold o_incident
  repeat' (first | exact Or.inl ⟨_, rfl, by simp [l_incident]⟩ | exact Or.inr ⟨_, _, rfl⟩ | split)
set_option maxHeartbeats 4000000 in
set_option maxRecDepth 100000 in
theorem kL_incident (l : Launch) (D : va_G) (u w : ks_S) (t : Int32) (ck cw : Nat → Int32) (f : Nat → Int64) (a b : Int32) (k c i : Nat) (hI : ks_I u k c i) : mm_Met l D yL_incident (mm_cwH yL_incident cL_incident 5 (some .int) [(0, 10, 13, 13)]) mm_rh [.ref 0, .int a, .int b, .ref 33] (lw_H u w t ck cw f) (fun v hp' => v = some (.int (m_cd l_incident (o_incident u a b))) ∧ hp' = lw_H (m_us u (o_incident u a b)) w t ck cw (m_ou f (o_incident u a b))) (fun _ => False) 4 24 := by
  have hou := ou_incident u a b
  refine mm_startH (own := RL) (by decide) rfl rfl (mm_nl rfl) (fun _ => rfl) (fun _ => rfl) (fun g ad hl hD hnL C K => ?_)
  subst hl
  subst hD
  show mm_M g ad 0 0 (lw_H u w t ck cw f) 0 [(0, .ref 0), (1, .int a), (2, .int b), (3, .ref 33)] []
  refine mm_aload_n C dL_incident_0 rfl 3 rfl ?_
  refine mm_iconst (v := 0) C dL_incident_1 (by decide) ?_
  refine mm_aload_n C dL_incident_2 rfl 0 rfl ?_
  refine mm_iload_n C dL_incident_3 rfl 1 rfl ?_
  refine mm_iload_n C dL_incident_4 rfl 2 rfl ?_
  rcases hou with ⟨E, hO, hE⟩ | ⟨v, u', hO⟩
  · refine mm_callV (av := [.int a, .int b]) C 0 (mm_gV sv_L_X2_incident_63.1 sv_L_X2_incident_63.2.1 sv_L_X2_incident_63.2.2.1 sv_L_X2_incident_63.2.2.2.1 sv_L_X2_incident_63.2.2.2.2.1) (sv_L_X2_incident_63.2.2.2.2.2) (kX2_incident _ _ u _ a b k c i hI) 2 rfl rfl rfl rfl rfl ⟨mm_nl rfl, mm_nl rfl⟩ rfl rfl (mm_nl rfl) dL_incident_5 ⟨mm_nl rfl, mm_nl rfl⟩ (fun E' h' => ?_) (fun v' hp' h' _ => ?_)
    · rw [hO] at h'
      cases h'
      simp only [l_incident, List.mem_cons, List.not_mem_nil, or_false] at hE
      subst hE
      exact mm_catchw C K [] (0, 10, 13, 13) [] rfl (List.mem_of_getElem? (i := 0) rfl) (fun z hz => absurd hz List.not_mem_nil) (mm_nl rfl) (mm_nl rfl) (by decide) (mm_wc tw112) (List.mem_of_getElem? (i := 6) rfl) hnL (by decide) dL_incident_13 dL_incident_15 (v := 1) (by decide) dL_incident_16 ⟨by rw [hO, cd_incident_1], by rw [hO]; rfl⟩ rfl (mm_nl rfl) (mm_nl rfl)
    · rw [hO] at h'
      cases h'
  · refine mm_callV (av := [.int a, .int b]) C 0 (mm_gV sv_L_X2_incident_63.1 sv_L_X2_incident_63.2.1 sv_L_X2_incident_63.2.2.1 sv_L_X2_incident_63.2.2.2.1 sv_L_X2_incident_63.2.2.2.2.1) (sv_L_X2_incident_63.2.2.2.2.2) (kX2_incident _ _ u _ a b k c i hI) 2 rfl rfl rfl rfl rfl ⟨mm_nl rfl, mm_nl rfl⟩ rfl rfl (mm_nl rfl) dL_incident_5 ⟨mm_nl rfl, mm_nl rfl⟩ (fun E' h' => ?_) (fun v' hp' h' _ => ?_)
    · rw [hO] at h'
      cases h'
    · rw [hO] at h'
      cases h'
      refine mm_i2l C dL_incident_8 ?_
      refine mm_last C 33 rfl (vp_in_nI (n := 0) (by decide) (by decide)) dL_incident_9 ?_
      refine mm_goto (tgt := 17) C dL_incident_10 (by decide) ?_
      refine mm_iconst (v := 0) C dL_incident_17 (by decide) ?_
      exact mm_iretH C K rfl dL_incident_18 ⟨by rw [hO]; rfl, by rw [hO]; rfl⟩ rfl (mm_nl rfl) (mm_nl rfl)
theorem ou_unit (u : ks_S) (a b : Int32) : (∃ E, o_unit u a b = .inl E ∧ E ∈ l_unit) ∨ (∃ u', o_unit u a b = .inr (none, u')) := by
  unfold o_unit
  repeat' (first | exact Or.inl ⟨_, rfl, by simp [l_unit]⟩ | exact Or.inr ⟨_, rfl⟩ | split)
set_option maxHeartbeats 4000000 in
set_option maxRecDepth 100000 in
theorem kL_unit (l : Launch) (D : va_G) (u w : ks_S) (t : Int32) (ck cw : Nat → Int32) (f : Nat → Int64) (a b : Int32) (k c i : Nat) (hI : ks_I u k c i) : mm_Met l D yL_unit (mm_cwH yL_unit cL_unit 4 (some .int) [(0, 6, 9, 13), (0, 6, 12, 27)]) mm_rh [.ref 0, .int a, .int b] (lw_H u w t ck cw f) (fun v hp' => v = some (.int (m_cd l_unit (o_unit u a b))) ∧ hp' = lw_H (m_us u (o_unit u a b)) w t ck cw f) (fun _ => False) 4 24 := by
  have hou := ou_unit u a b
  refine mm_startH (own := RL) (by decide) rfl rfl (mm_nl rfl) (fun _ => rfl) (fun _ => rfl) (fun g ad hl hD hnL C K => ?_)
  subst hl
  subst hD
  show mm_M g ad 0 0 (lw_H u w t ck cw f) 0 [(0, .ref 0), (1, .int a), (2, .int b)] []
  refine mm_aload_n C dL_unit_0 rfl 0 rfl ?_
  refine mm_iload_n C dL_unit_1 rfl 1 rfl ?_
  refine mm_iload_n C dL_unit_2 rfl 2 rfl ?_
  rcases hou with ⟨E, hO, hE⟩ | ⟨u', hO⟩
  · refine mm_callV (av := [.int a, .int b]) C 0 (mm_gV sv_L_X2_unit_66.1 sv_L_X2_unit_66.2.1 sv_L_X2_unit_66.2.2.1 sv_L_X2_unit_66.2.2.2.1 sv_L_X2_unit_66.2.2.2.2.1) (sv_L_X2_unit_66.2.2.2.2.2) (kX2_unit _ _ u _ a b k c i hI) 2 rfl rfl rfl rfl rfl ⟨mm_nl rfl, mm_nl rfl⟩ rfl rfl (mm_nl rfl) dL_unit_3 ⟨mm_nl rfl, mm_nl rfl⟩ (fun E' h' => ?_) (fun v' hp' h' _ => ?_)
    · rw [hO] at h'
      cases h'
      simp only [l_unit, List.mem_cons, List.not_mem_nil, or_false] at hE
      rcases hE with rfl | rfl
      · exact mm_catchn C K [] (0, 6, 9, 13) [(0, 6, 12, 27)] rfl (List.mem_of_getElem? (i := 0) rfl) (fun z hz => absurd hz List.not_mem_nil) (mm_nl rfl) (mm_nl rfl) (by decide) (mm_wc tw112) (List.mem_of_getElem? (i := 6) rfl) hnL (by decide) dL_unit_9 dL_unit_10 (v := 1) (by decide) dL_unit_11 ⟨by rw [hO, cd_unit_1], by rw [hO]; rfl⟩ rfl (mm_nl rfl) (mm_nl rfl)
      · exact mm_catchn C K [(0, 6, 9, 13)] (0, 6, 12, 27) [] rfl (List.mem_of_getElem? (i := 1) rfl) (fun z hz => by
          simp only [List.mem_cons, List.not_mem_nil, or_false] at hz
          subst hz
          exact ⟨by decide, x_ia, List.mem_of_getElem? (i := 0) rfl, (Ne.symm ne_ia_io), (mm_wc tw112)⟩) (mm_nl rfl) (mm_nl rfl) (by decide) (mm_wc tw254) (List.mem_of_getElem? (i := 15) rfl) hnL (by decide) dL_unit_12 dL_unit_13 (v := 2) (by decide) dL_unit_14 ⟨by rw [hO, cd_unit_2], by rw [hO]; rfl⟩ rfl (mm_nl rfl) (mm_nl rfl)
    · rw [hO] at h'
      cases h'
  · refine mm_callV (av := [.int a, .int b]) C 0 (mm_gV sv_L_X2_unit_66.1 sv_L_X2_unit_66.2.1 sv_L_X2_unit_66.2.2.1 sv_L_X2_unit_66.2.2.2.1 sv_L_X2_unit_66.2.2.2.2.1) (sv_L_X2_unit_66.2.2.2.2.2) (kX2_unit _ _ u _ a b k c i hI) 2 rfl rfl rfl rfl rfl ⟨mm_nl rfl, mm_nl rfl⟩ rfl rfl (mm_nl rfl) dL_unit_3 ⟨mm_nl rfl, mm_nl rfl⟩ (fun E' h' => ?_) (fun v' hp' h' _ => ?_)
    · rw [hO] at h'
      cases h'
    · rw [hO] at h'
      cases h'
      refine mm_goto (tgt := 15) C dL_unit_6 (by decide) ?_
      refine mm_iconst (v := 0) C dL_unit_15 (by decide) ?_
      exact mm_iretH C K rfl dL_unit_16 ⟨by rw [hO]; rfl, by rw [hO]; rfl⟩ rfl (mm_nl rfl) (mm_nl rfl)
theorem ou_uncovered (u : ks_S) (k c : Nat) (a b : Int32) : (∃ E, o_uncovered u k c a b = .inl E ∧ E ∈ l_uncovered) ∨ (∃ v u', o_uncovered u k c a b = .inr (some v, u')) := by
  unfold o_uncovered
  repeat' (first | exact Or.inl ⟨_, rfl, by simp [l_uncovered]⟩ | exact Or.inr ⟨_, _, rfl⟩ | split)
set_option maxHeartbeats 4000000 in
set_option maxRecDepth 100000 in
theorem kL_uncovered (l : Launch) (D : va_G) (u w : ks_S) (t : Int32) (ck cw : Nat → Int32) (f : Nat → Int64) (a b : Int32) (k c i : Nat) (hI : ks_I u k c i) : mm_Met l D yL_uncovered (mm_cwH yL_uncovered cL_uncovered 5 (some .int) [(0, 10, 13, 27)]) mm_rh [.ref 0, .int a, .int b, .ref 33] (lw_H u w t ck cw f) (fun v hp' => v = some (.int (m_cd l_uncovered (o_uncovered u k c a b))) ∧ hp' = lw_H (m_us u (o_uncovered u k c a b)) w t ck cw (m_ou f (o_uncovered u k c a b))) (fun _ => False) 4 24 := by
  have hou := ou_uncovered u k c a b
  refine mm_startH (own := RL) (by decide) rfl rfl (mm_nl rfl) (fun _ => rfl) (fun _ => rfl) (fun g ad hl hD hnL C K => ?_)
  subst hl
  subst hD
  show mm_M g ad 0 0 (lw_H u w t ck cw f) 0 [(0, .ref 0), (1, .int a), (2, .int b), (3, .ref 33)] []
  refine mm_aload_n C dL_uncovered_0 rfl 3 rfl ?_
  refine mm_iconst (v := 0) C dL_uncovered_1 (by decide) ?_
  refine mm_aload_n C dL_uncovered_2 rfl 0 rfl ?_
  refine mm_iload_n C dL_uncovered_3 rfl 1 rfl ?_
  refine mm_iload_n C dL_uncovered_4 rfl 2 rfl ?_
  rcases hou with ⟨E, hO, hE⟩ | ⟨v, u', hO⟩
  · refine mm_callV (av := [.int a, .int b]) C 0 (mm_gV sv_L_X2_uncovered_69.1 sv_L_X2_uncovered_69.2.1 sv_L_X2_uncovered_69.2.2.1 sv_L_X2_uncovered_69.2.2.2.1 sv_L_X2_uncovered_69.2.2.2.2.1) (sv_L_X2_uncovered_69.2.2.2.2.2) (kX2_uncovered _ _ u _ a b k c i hI) 2 rfl rfl rfl rfl rfl ⟨mm_nl rfl, mm_nl rfl⟩ rfl rfl (mm_nl rfl) dL_uncovered_5 ⟨mm_nl rfl, mm_nl rfl⟩ (fun E' h' => ?_) (fun v' hp' h' _ => ?_)
    · rw [hO] at h'
      cases h'
      simp only [l_uncovered, List.mem_cons, List.not_mem_nil, or_false] at hE
      subst hE
      exact mm_catchw C K [] (0, 10, 13, 27) [] rfl (List.mem_of_getElem? (i := 1) rfl) (fun z hz => absurd hz List.not_mem_nil) (mm_nl rfl) (mm_nl rfl) (by decide) (mm_wc tw254) (List.mem_of_getElem? (i := 15) rfl) hnL (by decide) dL_uncovered_13 dL_uncovered_15 (v := 1) (by decide) dL_uncovered_16 ⟨by rw [hO, cd_uncovered_1], by rw [hO]; rfl⟩ rfl (mm_nl rfl) (mm_nl rfl)
    · rw [hO] at h'
      cases h'
  · refine mm_callV (av := [.int a, .int b]) C 0 (mm_gV sv_L_X2_uncovered_69.1 sv_L_X2_uncovered_69.2.1 sv_L_X2_uncovered_69.2.2.1 sv_L_X2_uncovered_69.2.2.2.1 sv_L_X2_uncovered_69.2.2.2.2.1) (sv_L_X2_uncovered_69.2.2.2.2.2) (kX2_uncovered _ _ u _ a b k c i hI) 2 rfl rfl rfl rfl rfl ⟨mm_nl rfl, mm_nl rfl⟩ rfl rfl (mm_nl rfl) dL_uncovered_5 ⟨mm_nl rfl, mm_nl rfl⟩ (fun E' h' => ?_) (fun v' hp' h' _ => ?_)
    · rw [hO] at h'
      cases h'
    · rw [hO] at h'
      cases h'
      refine mm_i2l C dL_uncovered_8 ?_
      refine mm_last C 33 rfl (vp_in_nI (n := 0) (by decide) (by decide)) dL_uncovered_9 ?_
      refine mm_goto (tgt := 17) C dL_uncovered_10 (by decide) ?_
      refine mm_iconst (v := 0) C dL_uncovered_17 (by decide) ?_
      exact mm_iretH C K rfl dL_uncovered_18 ⟨by rw [hO]; rfl, by rw [hO]; rfl⟩ rfl (mm_nl rfl) (mm_nl rfl)
theorem ou_coded (u : ks_S) (c i : Nat) (a b : Int32) : (∃ E, o_coded u c i a b = .inl E ∧ E ∈ l_coded) ∨ (∃ v u', o_coded u c i a b = .inr (some v, u')) := by
  unfold o_coded
  repeat' (first | exact Or.inl ⟨_, rfl, by simp [l_coded]⟩ | exact Or.inr ⟨_, _, rfl⟩ | split)
set_option maxHeartbeats 4000000 in
set_option maxRecDepth 100000 in
theorem kL_coded (l : Launch) (D : va_G) (u w : ks_S) (t : Int32) (ck cw : Nat → Int32) (f : Nat → Int64) (a b : Int32) (k c i : Nat) (hI : ks_I u k c i) : mm_Met l D yL_coded (mm_cwH yL_coded cL_coded 5 (some .int) [(0, 10, 13, 27)]) mm_rh [.ref 0, .int a, .int b, .ref 33] (lw_H u w t ck cw f) (fun v hp' => v = some (.int (m_cd l_coded (o_coded u c i a b))) ∧ hp' = lw_H (m_us u (o_coded u c i a b)) w t ck cw (m_ou f (o_coded u c i a b))) (fun _ => False) 4 24 := by
  have hou := ou_coded u c i a b
  refine mm_startH (own := RL) (by decide) rfl rfl (mm_nl rfl) (fun _ => rfl) (fun _ => rfl) (fun g ad hl hD hnL C K => ?_)
  subst hl
  subst hD
  show mm_M g ad 0 0 (lw_H u w t ck cw f) 0 [(0, .ref 0), (1, .int a), (2, .int b), (3, .ref 33)] []
  refine mm_aload_n C dL_coded_0 rfl 3 rfl ?_
  refine mm_iconst (v := 0) C dL_coded_1 (by decide) ?_
  refine mm_aload_n C dL_coded_2 rfl 0 rfl ?_
  refine mm_iload_n C dL_coded_3 rfl 1 rfl ?_
  refine mm_iload_n C dL_coded_4 rfl 2 rfl ?_
  rcases hou with ⟨E, hO, hE⟩ | ⟨v, u', hO⟩
  · refine mm_callV (av := [.int a, .int b]) C 0 (mm_gV sv_L_X2_coded_72.1 sv_L_X2_coded_72.2.1 sv_L_X2_coded_72.2.2.1 sv_L_X2_coded_72.2.2.2.1 sv_L_X2_coded_72.2.2.2.2.1) (sv_L_X2_coded_72.2.2.2.2.2) (kX2_coded _ _ u _ a b k c i hI) 2 rfl rfl rfl rfl rfl ⟨mm_nl rfl, mm_nl rfl⟩ rfl rfl (mm_nl rfl) dL_coded_5 ⟨mm_nl rfl, mm_nl rfl⟩ (fun E' h' => ?_) (fun v' hp' h' _ => ?_)
    · rw [hO] at h'
      cases h'
      simp only [l_coded, List.mem_cons, List.not_mem_nil, or_false] at hE
      subst hE
      exact mm_catchw C K [] (0, 10, 13, 27) [] rfl (List.mem_of_getElem? (i := 1) rfl) (fun z hz => absurd hz List.not_mem_nil) (mm_nl rfl) (mm_nl rfl) (by decide) (mm_wc tw254) (List.mem_of_getElem? (i := 15) rfl) hnL (by decide) dL_coded_13 dL_coded_15 (v := 1) (by decide) dL_coded_16 ⟨by rw [hO, cd_coded_1], by rw [hO]; rfl⟩ rfl (mm_nl rfl) (mm_nl rfl)
    · rw [hO] at h'
      cases h'
  · refine mm_callV (av := [.int a, .int b]) C 0 (mm_gV sv_L_X2_coded_72.1 sv_L_X2_coded_72.2.1 sv_L_X2_coded_72.2.2.1 sv_L_X2_coded_72.2.2.2.1 sv_L_X2_coded_72.2.2.2.2.1) (sv_L_X2_coded_72.2.2.2.2.2) (kX2_coded _ _ u _ a b k c i hI) 2 rfl rfl rfl rfl rfl ⟨mm_nl rfl, mm_nl rfl⟩ rfl rfl (mm_nl rfl) dL_coded_5 ⟨mm_nl rfl, mm_nl rfl⟩ (fun E' h' => ?_) (fun v' hp' h' _ => ?_)
    · rw [hO] at h'
      cases h'
    · rw [hO] at h'
      cases h'
      refine mm_i2l C dL_coded_8 ?_
      refine mm_last C 33 rfl (vp_in_nI (n := 0) (by decide) (by decide)) dL_coded_9 ?_
      refine mm_goto (tgt := 17) C dL_coded_10 (by decide) ?_
      refine mm_iconst (v := 0) C dL_coded_17 (by decide) ?_
      exact mm_iretH C K rfl dL_coded_18 ⟨by rw [hO]; rfl, by rw [hO]; rfl⟩ rfl (mm_nl rfl) (mm_nl rfl)
theorem ou_count (u : ks_S) (a : Int32) : (∃ E, o_count u a = .inl E ∧ E ∈ l_count) ∨ (∃ v u', o_count u a = .inr (some v, u')) := by
  unfold o_count
  repeat' (first | exact Or.inl ⟨_, rfl, by simp [l_count]⟩ | exact Or.inr ⟨_, _, rfl⟩ | split)
set_option maxHeartbeats 4000000 in
set_option maxRecDepth 100000 in
theorem kL_count (l : Launch) (D : va_G) (u w : ks_S) (t : Int32) (ck cw : Nat → Int32) (f : Nat → Int64) (a : Int32) (k c i : Nat) (hI : ks_I u k c i) : mm_Met l D yL_count (mm_cwH yL_count cL_count 4 (some .int) [(0, 9, 12, 13)]) mm_rh [.ref 0, .int a, .ref 33] (lw_H u w t ck cw f) (fun v hp' => v = some (.int (m_cd l_count (o_count u a))) ∧ hp' = lw_H (m_us u (o_count u a)) w t ck cw (m_ou f (o_count u a))) (fun _ => False) 4 24 := by
  have hou := ou_count u a
  refine mm_startH (own := RL) (by decide) rfl rfl (mm_nl rfl) (fun _ => rfl) (fun _ => rfl) (fun g ad hl hD hnL C K => ?_)
  subst hl
  subst hD
  show mm_M g ad 0 0 (lw_H u w t ck cw f) 0 [(0, .ref 0), (1, .int a), (2, .ref 33)] []
  refine mm_aload_n C dL_count_0 rfl 2 rfl ?_
  refine mm_iconst (v := 0) C dL_count_1 (by decide) ?_
  refine mm_aload_n C dL_count_2 rfl 0 rfl ?_
  refine mm_iload_n C dL_count_3 rfl 1 rfl ?_
  rcases hou with ⟨E, hO, hE⟩ | ⟨v, u', hO⟩
  · refine mm_callV (av := [.int a]) C 0 (mm_gV sv_L_X2_count_75.1 sv_L_X2_count_75.2.1 sv_L_X2_count_75.2.2.1 sv_L_X2_count_75.2.2.2.1 sv_L_X2_count_75.2.2.2.2.1) (sv_L_X2_count_75.2.2.2.2.2) (kX2_count _ _ u _ a k c i hI) 1 rfl rfl rfl rfl rfl ⟨mm_nl rfl, mm_nl rfl⟩ rfl rfl (mm_nl rfl) dL_count_4 ⟨mm_nl rfl, mm_nl rfl⟩ (fun E' h' => ?_) (fun v' hp' h' _ => ?_)
    · rw [hO] at h'
      cases h'
      simp only [l_count, List.mem_cons, List.not_mem_nil, or_false] at hE
      subst hE
      exact mm_catchn C K [] (0, 9, 12, 13) [] rfl (List.mem_of_getElem? (i := 0) rfl) (fun z hz => absurd hz List.not_mem_nil) (mm_nl rfl) (mm_nl rfl) (by decide) (mm_wc tw112) (List.mem_of_getElem? (i := 6) rfl) hnL (by decide) dL_count_12 dL_count_13 (v := 1) (by decide) dL_count_14 ⟨by rw [hO, cd_count_1], by rw [hO]; rfl⟩ rfl (mm_nl rfl) (mm_nl rfl)
    · rw [hO] at h'
      cases h'
  · refine mm_callV (av := [.int a]) C 0 (mm_gV sv_L_X2_count_75.1 sv_L_X2_count_75.2.1 sv_L_X2_count_75.2.2.1 sv_L_X2_count_75.2.2.2.1 sv_L_X2_count_75.2.2.2.2.1) (sv_L_X2_count_75.2.2.2.2.2) (kX2_count _ _ u _ a k c i hI) 1 rfl rfl rfl rfl rfl ⟨mm_nl rfl, mm_nl rfl⟩ rfl rfl (mm_nl rfl) dL_count_4 ⟨mm_nl rfl, mm_nl rfl⟩ (fun E' h' => ?_) (fun v' hp' h' _ => ?_)
    · rw [hO] at h'
      cases h'
    · rw [hO] at h'
      cases h'
      refine mm_i2l C dL_count_7 ?_
      refine mm_last C 33 rfl (vp_in_nI (n := 0) (by decide) (by decide)) dL_count_8 ?_
      refine mm_goto (tgt := 15) C dL_count_9 (by decide) ?_
      refine mm_iconst (v := 0) C dL_count_15 (by decide) ?_
      exact mm_iretH C K rfl dL_count_16 ⟨by rw [hO]; rfl, by rw [hO]; rfl⟩ rfl (mm_nl rfl) (mm_nl rfl)
