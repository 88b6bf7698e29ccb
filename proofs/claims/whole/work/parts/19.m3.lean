theorem ss_X3_X3_isArea_108 : mm_SS RX3 108 yX3_isArea cX3_isArea 1 (some .boolean) 1 := ⟨tw599, tw600, tw5, tw601, ⟨by decide +kernel, by decide +kernel, by decide +kernel⟩⟩
theorem ss_X3_X3_isDay_81 : mm_SS RX3 81 yX3_isDay cX3_isDay 1 (some .boolean) 1 := ⟨tw553, tw554, tw5, tw555, ⟨by decide +kernel, by decide +kernel, by decide +kernel⟩⟩
theorem ss_X3_X3_most_84 : mm_SS RX3 84 yX3_most cX3_most 1 (some .int) 1 := ⟨tw556, tw557, tw5, tw558, ⟨by decide +kernel, by decide +kernel, by decide +kernel⟩⟩
theorem sv_X3_X3_change_88 : mm_SV RX3 88 RX3 yX3_change cX3_change 6 none 5 := ⟨tw559, tw561, (mm_wp 23 rfl rfl), tw5, tw562, rfl, ⟨by decide +kernel, by decide +kernel, by decide +kernel⟩⟩
theorem sv_X3_X3_depth_102 : mm_SV RX3 102 RX3 yX3_depth cX3_depth 4 (some .int) 1 := ⟨tw587, tw589, (mm_wp 27 rfl rfl), tw5, tw590, rfl, ⟨by decide +kernel, by decide +kernel, by decide +kernel⟩⟩
theorem sv_X3_X3_follow_111 : mm_SV RX3 111 RX3 yX3_follow cX3_follow 4 (some .int) 2 := ⟨tw606, tw608, (mm_wp 29 rfl rfl), tw5, tw609, rfl, ⟨by decide +kernel, by decide +kernel, by decide +kernel⟩⟩
theorem sv_X3_X3_isAbove_74 : mm_SV RX3 74 RX3 yX3_isAbove cX3_isAbove 4 (some .boolean) 2 := ⟨tw545, tw547, (mm_wp 22 rfl rfl), tw5, tw548, rfl, ⟨by decide +kernel, by decide +kernel, by decide +kernel⟩⟩
theorem sv_X3_X3_isCovered_123 : mm_SV RX3 123 RX3 yX3_isCovered cX3_isCovered 6 (some .boolean) 2 := ⟨tw651, tw653, (mm_wp 32 rfl rfl), tw5, tw654, rfl, ⟨by decide +kernel, by decide +kernel, by decide +kernel⟩⟩
theorem sv_X3_X3_isIncident_119 : mm_SV RX3 119 RX3 yX3_isIncident cX3_isIncident 2 (some .boolean) 1 := ⟨tw626, tw628, (mm_wp 31 rfl rfl), tw5, tw629, rfl, ⟨by decide +kernel, by decide +kernel, by decide +kernel⟩⟩
theorem sv_X3_X3_isKind_66 : mm_SV RX3 66 RX3 yX3_isKind cX3_isKind 2 (some .boolean) 1 := ⟨tw530, tw532, (mm_wp 20 rfl rfl), tw5, tw533, rfl, ⟨by decide +kernel, by decide +kernel, by decide +kernel⟩⟩
theorem sv_X3_X3_rowsOf_115 : mm_SV RX3 115 RX3 yX3_rowsOf cX3_rowsOf 4 (some .int) 1 := ⟨tw614, tw616, (mm_wp 30 rfl rfl), tw5, tw617, rfl, ⟨by decide +kernel, by decide +kernel, by decide +kernel⟩⟩
theorem sv_X3_X3_throwing_70 : mm_SV RX3 70 RX3 yX3_throwing cX3_throwing 5 (some .boolean) 4 := ⟨tw537, tw539, (mm_wp 21 rfl rfl), tw5, tw540, rfl, ⟨by decide +kernel, by decide +kernel, by decide +kernel⟩⟩
theorem sv_X3_X3_told_96 : mm_SV RX3 96 RX3 yX3_told cX3_told 6 (some .int) 3 := ⟨tw575, tw577, (mm_wp 24 rfl rfl), tw5, tw578, rfl, ⟨by decide +kernel, by decide +kernel, by decide +kernel⟩⟩
set_option maxHeartbeats 4000000 in
set_option maxRecDepth 100000 in
theorem kX3_kind (l : Launch) (D : va_G) (U u : ks_S) (t : Int32) (ck cw : Nat → Int32) (F : List mm_c) (a : Int32) (k c i : Nat) (J : ms_I u ck cw k c i) : mm_Wr l D yX3_kind (mm_cw yX3_kind cX3_kind 3 (some .int)) (mm_rm 3) [.ref 18, .int a] (ks_H U (ms_H u t ck cw F)) (some (.int (m_an (o_kind u a)))) (ks_H U (ms_H (m_us u (o_kind u a)) (m_cd l_kind (o_kind u a)) ck cw F)) := by
  refine mm_start (own := RX3) (by decide) rfl rfl (mm_nl rfl) (fun _ => rfl) (fun _ => rfl) (fun g ad hl hD hnL C K => ?_)
  subst hl
  subst hD
  have J0 := J
  obtain ⟨hI, wP, wA, wA0, hta, htu, hct, hko, hcl, hhv, hw4, htb, hn1, hn2⟩ := J
  show mm_M g ad 0 0 (ks_H U (ms_H u t ck cw F)) 0 [(0, .ref 18), (1, .int a)] []
  refine mm_iload_n C dX3_kind_0 rfl 1 rfl ?_
  refine mm_iconst (v := (-1)) C dX3_kind_1 (by decide) ?_
  refine mm_icmp_eq (tgt := 17) C dX3_kind_2 (by decide) (fun c2 => ?_) (fun c2 => ?_)
  · skip
    refine mm_iconst (v := 0) C dX3_kind_17 (by decide) ?_
    refine mm_istore_n (lv' := [(2, .int 0), (0, .ref 18), (1, .int a)]) C dX3_kind_18 rfl hnL (by decide) rfl ?_
    refine mm_aload_n C dX3_kind_19 rfl 1 rfl ?_
    refine mm_iload_n C dX3_kind_20 rfl 0 rfl ?_
    refine mm_iload_n C dX3_kind_21 rfl 0 rfl ?_
    refine mm_if_ne (tgt := 38) C dX3_kind_22 (by decide) (fun z => absurd z (by decide)) (fun _ => ?_)
    refine mm_aload_n C dX3_kind_25 rfl 1 rfl ?_
    refine mm_get C 18 1 (fun w h => mm_wc (inX3 w h)) rfl rfl (by decide) (mm_wc tw468) rfl rfl dX3_kind_26 ?_
    refine mm_bipush (v := 40) C dX3_kind_29 (by decide) ?_
    refine mm_icmp_ne (tgt := 38) C dX3_kind_31 (by decide) (fun c31 => ?_) (fun c31 => ?_)
    · skip
      refine mm_iconst (v := 0) C dX3_kind_38 (by decide) ?_
      refine mm_iconst (v := 0) C dX3_kind_39 (by decide) ?_
      refine mm_iconst (v := 0) C dX3_kind_40 (by decide) ?_
      refine mm_riV C 18 sv_X3_X3_throwing_70 rfl rfl (kX3_throwing _ _ U u _ ck cw F false false false false) ⟨rfl, rfl⟩ ⟨mm_nl rfl, mm_nl rfl⟩ rfl rfl (mm_nl rfl) ⟨mm_nl rfl, mm_nl rfl⟩ dX3_kind_41 ?_
      refine mm_if_eq (tgt := 49) C dX3_kind_44 (by decide) (fun _ => ?_) (fun z => absurd z (by decide))
      refine mm_aload_n C dX3_kind_49 rfl 1 rfl ?_
      refine mm_get C 18 2 (fun w h => mm_wc (inX3 w h)) rfl rfl (by decide) (mm_wc tw469) rfl rfl dX3_kind_50 ?_
      refine mm_aload_n C dX3_kind_53 rfl 1 rfl ?_
      refine mm_get C 18 1 (fun w h => mm_wc (inX3 w h)) rfl rfl (by decide) (mm_wc tw468) rfl rfl dX3_kind_54 ?_
      refine mm_iload_n C dX3_kind_57 rfl 2 rfl ?_
      refine mm_iast C 19 rfl (kn_in hI (fun z => c31 ((e_40 hI).mp z))) dX3_kind_58 ?_
      refine mm_aload_n C dX3_kind_59 rfl 1 rfl ?_
      refine mm_get C 18 3 (fun w h => mm_wc (inX3 w h)) rfl rfl (by decide) (mm_wc tw470) rfl rfl dX3_kind_60 ?_
      refine mm_aload_n C dX3_kind_63 rfl 1 rfl ?_
      refine mm_get C 18 1 (fun w h => mm_wc (inX3 w h)) rfl rfl (by decide) (mm_wc tw468) rfl rfl dX3_kind_64 ?_
      refine mm_iconst (v := (-1)) C dX3_kind_67 (by decide) ?_
      refine mm_iast C 20 rfl (kn_in hI (fun z => c31 ((e_40 hI).mp z))) dX3_kind_68 ?_
      refine mm_aload_n C dX3_kind_69 rfl 1 rfl ?_
      refine mm_dup C dX3_kind_70 rfl ?_
      refine mm_get C 18 1 (fun w h => mm_wc (inX3 w h)) rfl rfl (by decide) (mm_wc tw468) rfl rfl dX3_kind_71 ?_
      refine mm_iconst (v := 1) C dX3_kind_74 (by decide) ?_
      refine mm_iadd C dX3_kind_75 ?_
      refine mm_put C 18 1 (fun w h => mm_wc (inX3 w h)) rfl rfl (by decide) tyX3 tyX3_ok nmX3 (mm_wc tw468) rfl rfl (tyX3_ok 1 (by decide)) (fun _ => rfl) (fun _ => rfl) (mm_nl rfl) dX3_kind_76 ?_
      refine mm_aload_n C dX3_kind_79 rfl 1 rfl ?_
      refine mm_get C 18 1 (fun w h => mm_wc (inX3 w h)) rfl rfl (by decide) (mm_wc tw468) rfl rfl dX3_kind_80 ?_
      refine mm_iconst (v := 1) C dX3_kind_83 (by decide) ?_
      refine mm_isub C dX3_kind_84 ?_
      exact mm_iret C K rfl dX3_kind_85 (by
                have ho : o_kind u a = .inr (some (k_kn u), (k_kn u + 1, upd (k_pa u) (k_kn u).toNatClampNeg a, upd (k_cl u) (k_kn u).toNatClampNeg (-1), k_nw u, k_tb u, k_dy u, k_hw u, k_vl u, k_cs u, k_ta u, k_ts u, k_tu u, k_us u, k_inn u, k_ko u, k_ao u, k_be u, k_se u, k_sk u)) := by simp [o_kind, b_kindN, e_40 hI, eq_true c2, c31]
                exact ⟨by rw [ho, Int32.add_sub_cancel]; rfl, by rw [ho]; rfl⟩) rfl (mm_nl rfl) (mm_nl rfl)
    · skip
      refine mm_iconst (v := 1) C dX3_kind_34 (by decide) ?_
      refine mm_goto (tgt := 39) C dX3_kind_35 (by decide) ?_
      refine mm_iconst (v := 0) C dX3_kind_39 (by decide) ?_
      refine mm_iconst (v := 0) C dX3_kind_40 (by decide) ?_
      refine mm_riV C 18 sv_X3_X3_throwing_70 rfl rfl (kX3_throwing _ _ U u _ ck cw F false true false false) ⟨rfl, rfl⟩ ⟨mm_nl rfl, mm_nl rfl⟩ rfl rfl (mm_nl rfl) ⟨mm_nl rfl, mm_nl rfl⟩ dX3_kind_41 ?_
      refine mm_if_eq (tgt := 49) C dX3_kind_44 (by decide) (fun z => absurd z (by decide)) (fun _ => ?_)
      refine mm_iconst (v := 0) C dX3_kind_47 (by decide) ?_
      exact mm_iret C K rfl dX3_kind_48 (by
                have ho : o_kind u a = .inl x_uo := by simp [o_kind, b_kindN, e_40 hI, eq_true c2, eq_true c31]
                exact ⟨by rw [ho]; rfl, by rw [ho, cd_kind_2]; rfl⟩) rfl (mm_nl rfl) (mm_nl rfl)
  · skip
    refine mm_aload_n C dX3_kind_5 rfl 0 rfl ?_
    refine mm_iload_n C dX3_kind_6 rfl 1 rfl ?_
    refine mm_riV C 18 sv_X3_X3_isKind_66 rfl rfl (kX3_isKind _ _ U u _ ck cw F a k c i hI) ⟨rfl, rfl⟩ ⟨mm_nl rfl, mm_nl rfl⟩ rfl rfl (mm_nl rfl) ⟨mm_nl rfl, mm_nl rfl⟩ dX3_kind_7 ?_
    refine mm_ifb_ne (tgt := 17) C dX3_kind_10 (by decide) (fun c10 => ?_) (fun c10 => ?_)
    · skip
      refine mm_iconst (v := 0) C dX3_kind_17 (by decide) ?_
      refine mm_istore_n (lv' := [(2, .int 0), (0, .ref 18), (1, .int a)]) C dX3_kind_18 rfl hnL (by decide) rfl ?_
      refine mm_aload_n C dX3_kind_19 rfl 1 rfl ?_
      refine mm_iload_n C dX3_kind_20 rfl 0 rfl ?_
      refine mm_iload_n C dX3_kind_21 rfl 0 rfl ?_
      refine mm_if_ne (tgt := 38) C dX3_kind_22 (by decide) (fun z => absurd z (by decide)) (fun _ => ?_)
      refine mm_aload_n C dX3_kind_25 rfl 1 rfl ?_
      refine mm_get C 18 1 (fun w h => mm_wc (inX3 w h)) rfl rfl (by decide) (mm_wc tw468) rfl rfl dX3_kind_26 ?_
      refine mm_bipush (v := 40) C dX3_kind_29 (by decide) ?_
      refine mm_icmp_ne (tgt := 38) C dX3_kind_31 (by decide) (fun c31 => ?_) (fun c31 => ?_)
      · skip
        refine mm_iconst (v := 0) C dX3_kind_38 (by decide) ?_
        refine mm_iconst (v := 0) C dX3_kind_39 (by decide) ?_
        refine mm_iconst (v := 0) C dX3_kind_40 (by decide) ?_
        refine mm_riV C 18 sv_X3_X3_throwing_70 rfl rfl (kX3_throwing _ _ U u _ ck cw F false false false false) ⟨rfl, rfl⟩ ⟨mm_nl rfl, mm_nl rfl⟩ rfl rfl (mm_nl rfl) ⟨mm_nl rfl, mm_nl rfl⟩ dX3_kind_41 ?_
        refine mm_if_eq (tgt := 49) C dX3_kind_44 (by decide) (fun _ => ?_) (fun z => absurd z (by decide))
        refine mm_aload_n C dX3_kind_49 rfl 1 rfl ?_
        refine mm_get C 18 2 (fun w h => mm_wc (inX3 w h)) rfl rfl (by decide) (mm_wc tw469) rfl rfl dX3_kind_50 ?_
        refine mm_aload_n C dX3_kind_53 rfl 1 rfl ?_
        refine mm_get C 18 1 (fun w h => mm_wc (inX3 w h)) rfl rfl (by decide) (mm_wc tw468) rfl rfl dX3_kind_54 ?_
        refine mm_iload_n C dX3_kind_57 rfl 2 rfl ?_
        refine mm_iast C 19 rfl (kn_in hI (fun z => c31 ((e_40 hI).mp z))) dX3_kind_58 ?_
        refine mm_aload_n C dX3_kind_59 rfl 1 rfl ?_
        refine mm_get C 18 3 (fun w h => mm_wc (inX3 w h)) rfl rfl (by decide) (mm_wc tw470) rfl rfl dX3_kind_60 ?_
        refine mm_aload_n C dX3_kind_63 rfl 1 rfl ?_
        refine mm_get C 18 1 (fun w h => mm_wc (inX3 w h)) rfl rfl (by decide) (mm_wc tw468) rfl rfl dX3_kind_64 ?_
        refine mm_iconst (v := (-1)) C dX3_kind_67 (by decide) ?_
        refine mm_iast C 20 rfl (kn_in hI (fun z => c31 ((e_40 hI).mp z))) dX3_kind_68 ?_
        refine mm_aload_n C dX3_kind_69 rfl 1 rfl ?_
        refine mm_dup C dX3_kind_70 rfl ?_
        refine mm_get C 18 1 (fun w h => mm_wc (inX3 w h)) rfl rfl (by decide) (mm_wc tw468) rfl rfl dX3_kind_71 ?_
        refine mm_iconst (v := 1) C dX3_kind_74 (by decide) ?_
        refine mm_iadd C dX3_kind_75 ?_
        refine mm_put C 18 1 (fun w h => mm_wc (inX3 w h)) rfl rfl (by decide) tyX3 tyX3_ok nmX3 (mm_wc tw468) rfl rfl (tyX3_ok 1 (by decide)) (fun _ => rfl) (fun _ => rfl) (mm_nl rfl) dX3_kind_76 ?_
        refine mm_aload_n C dX3_kind_79 rfl 1 rfl ?_
        refine mm_get C 18 1 (fun w h => mm_wc (inX3 w h)) rfl rfl (by decide) (mm_wc tw468) rfl rfl dX3_kind_80 ?_
        refine mm_iconst (v := 1) C dX3_kind_83 (by decide) ?_
        refine mm_isub C dX3_kind_84 ?_
        exact mm_iret C K rfl dX3_kind_85 (by
                have ho : o_kind u a = .inr (some (k_kn u), (k_kn u + 1, upd (k_pa u) (k_kn u).toNatClampNeg a, upd (k_cl u) (k_kn u).toNatClampNeg (-1), k_nw u, k_tb u, k_dy u, k_hw u, k_vl u, k_cs u, k_ta u, k_ts u, k_tu u, k_us u, k_inn u, k_ko u, k_ao u, k_be u, k_se u, k_sk u)) := by simp [o_kind, b_kindN, e_40 hI, c2, c10, c31]
                exact ⟨by rw [ho, Int32.add_sub_cancel]; rfl, by rw [ho]; rfl⟩) rfl (mm_nl rfl) (mm_nl rfl)
      · skip
        refine mm_iconst (v := 1) C dX3_kind_34 (by decide) ?_
        refine mm_goto (tgt := 39) C dX3_kind_35 (by decide) ?_
        refine mm_iconst (v := 0) C dX3_kind_39 (by decide) ?_
        refine mm_iconst (v := 0) C dX3_kind_40 (by decide) ?_
        refine mm_riV C 18 sv_X3_X3_throwing_70 rfl rfl (kX3_throwing _ _ U u _ ck cw F false true false false) ⟨rfl, rfl⟩ ⟨mm_nl rfl, mm_nl rfl⟩ rfl rfl (mm_nl rfl) ⟨mm_nl rfl, mm_nl rfl⟩ dX3_kind_41 ?_
        refine mm_if_eq (tgt := 49) C dX3_kind_44 (by decide) (fun z => absurd z (by decide)) (fun _ => ?_)
        refine mm_iconst (v := 0) C dX3_kind_47 (by decide) ?_
        exact mm_iret C K rfl dX3_kind_48 (by
                have ho : o_kind u a = .inl x_uo := by simp [o_kind, b_kindN, e_40 hI, c2, c10, eq_true c31]
                exact ⟨by rw [ho]; rfl, by rw [ho, cd_kind_2]; rfl⟩) rfl (mm_nl rfl) (mm_nl rfl)
    · skip
      refine mm_iconst (v := 1) C dX3_kind_13 (by decide) ?_
      refine mm_goto (tgt := 18) C dX3_kind_14 (by decide) ?_
      refine mm_istore_n (lv' := [(2, .int 1), (0, .ref 18), (1, .int a)]) C dX3_kind_18 rfl hnL (by decide) rfl ?_
      refine mm_aload_n C dX3_kind_19 rfl 1 rfl ?_
      refine mm_iload_n C dX3_kind_20 rfl 0 rfl ?_
      refine mm_iload_n C dX3_kind_21 rfl 0 rfl ?_
      refine mm_if_ne (tgt := 38) C dX3_kind_22 (by decide) (fun _ => ?_) (fun z => absurd z (by decide))
      refine mm_iconst (v := 0) C dX3_kind_38 (by decide) ?_
      refine mm_iconst (v := 0) C dX3_kind_39 (by decide) ?_
      refine mm_iconst (v := 0) C dX3_kind_40 (by decide) ?_
      refine mm_riV C 18 sv_X3_X3_throwing_70 rfl rfl (kX3_throwing _ _ U u _ ck cw F true false false false) ⟨rfl, rfl⟩ ⟨mm_nl rfl, mm_nl rfl⟩ rfl rfl (mm_nl rfl) ⟨mm_nl rfl, mm_nl rfl⟩ dX3_kind_41 ?_
      refine mm_if_eq (tgt := 49) C dX3_kind_44 (by decide) (fun z => absurd z (by decide)) (fun _ => ?_)
      refine mm_iconst (v := 0) C dX3_kind_47 (by decide) ?_
      exact mm_iret C K rfl dX3_kind_48 (by
                have ho : o_kind u a = .inl x_ia := by simp [o_kind, b_kindN, e_40 hI, c2, c10]
                exact ⟨by rw [ho]; rfl, by rw [ho, cd_kind_1]; rfl⟩) rfl (mm_nl rfl) (mm_nl rfl)
set_option maxHeartbeats 4000000 in
set_option maxRecDepth 100000 in
theorem kX3_parent (l : Launch) (D : va_G) (U u : ks_S) (t : Int32) (ck cw : Nat → Int32) (F : List mm_c) (a b : Int32) (k c i : Nat) (J : ms_I u ck cw k c i) : mm_Wr l D yX3_parent (mm_cw yX3_parent cX3_parent 4 none) (mm_rm 3) [.ref 18, .int a, .int b] (ks_H U (ms_H u t ck cw F)) (none) (ks_H U (ms_H (m_us u (o_parent u a b)) (m_cd l_parent (o_parent u a b)) ck cw F)) := by
  refine mm_start (own := RX3) (by decide) rfl rfl (mm_nl rfl) (fun _ => rfl) (fun _ => rfl) (fun g ad hl hD hnL C K => ?_)
  subst hl
  subst hD
  have J0 := J
  obtain ⟨hI, wP, wA, wA0, hta, htu, hct, hko, hcl, hhv, hw4, htb, hn1, hn2⟩ := J
  show mm_M g ad 0 0 (ks_H U (ms_H u t ck cw F)) 0 [(0, .ref 18), (1, .int a), (2, .int b)] []
  refine mm_aload_n C dX3_parent_0 rfl 0 rfl ?_
  refine mm_iload_n C dX3_parent_1 rfl 1 rfl ?_
  refine mm_riV C 18 sv_X3_X3_isKind_66 rfl rfl (kX3_isKind _ _ U u _ ck cw F a k c i hI) ⟨rfl, rfl⟩ ⟨mm_nl rfl, mm_nl rfl⟩ rfl rfl (mm_nl rfl) ⟨mm_nl rfl, mm_nl rfl⟩ dX3_parent_2 ?_
  refine mm_ifb_eq (tgt := 21) C dX3_parent_5 (by decide) (fun c5 => ?_) (fun c5 => ?_)
  · skip
    refine mm_iconst (v := 1) C dX3_parent_21 (by decide) ?_
    refine mm_goto (tgt := 26) C dX3_parent_22 (by decide) ?_
    refine mm_istore_n (lv' := [(3, .int 1), (0, .ref 18), (1, .int a), (2, .int b)]) C dX3_parent_26 rfl hnL (by decide) rfl ?_
    refine mm_aload_n C dX3_parent_27 rfl 1 rfl ?_
    refine mm_iload_n C dX3_parent_28 rfl 0 rfl ?_
    refine mm_iload_n C dX3_parent_29 rfl 0 rfl ?_
    refine mm_if_ne (tgt := 60) C dX3_parent_30 (by decide) (fun _ => ?_) (fun z => absurd z (by decide))
    refine mm_iconst (v := 0) C dX3_parent_60 (by decide) ?_
    refine mm_iconst (v := 0) C dX3_parent_61 (by decide) ?_
    refine mm_iconst (v := 0) C dX3_parent_62 (by decide) ?_
    refine mm_riV C 18 sv_X3_X3_throwing_70 rfl rfl (kX3_throwing _ _ U u _ ck cw F true false false false) ⟨rfl, rfl⟩ ⟨mm_nl rfl, mm_nl rfl⟩ rfl rfl (mm_nl rfl) ⟨mm_nl rfl, mm_nl rfl⟩ dX3_parent_63 ?_
    refine mm_if_eq (tgt := 70) C dX3_parent_66 (by decide) (fun z => absurd z (by decide)) (fun _ => ?_)
    exact mm_vret C K dX3_parent_69 (by
                have ho : o_parent u a b = .inl x_ia := by simp [o_parent, b_kindN, c5]
                exact ⟨rfl, by rw [ho, cd_parent_1]; rfl⟩) rfl (mm_nl rfl) (mm_nl rfl)
  · skip
    refine mm_iload_n C dX3_parent_8 rfl 2 rfl ?_
    refine mm_iconst (v := (-1)) C dX3_parent_9 (by decide) ?_
    refine mm_icmp_eq (tgt := 25) C dX3_parent_10 (by decide) (fun c10 => ?_) (fun c10 => ?_)
    · skip
      refine mm_iconst (v := 0) C dX3_parent_25 (by decide) ?_
      refine mm_istore_n (lv' := [(3, .int 0), (0, .ref 18), (1, .int a), (2, .int b)]) C dX3_parent_26 rfl hnL (by decide) rfl ?_
      refine mm_aload_n C dX3_parent_27 rfl 1 rfl ?_
      refine mm_iload_n C dX3_parent_28 rfl 0 rfl ?_
      refine mm_iload_n C dX3_parent_29 rfl 0 rfl ?_
      refine mm_if_ne (tgt := 60) C dX3_parent_30 (by decide) (fun z => absurd z (by decide)) (fun _ => ?_)
      refine mm_aload_n C dX3_parent_33 rfl 1 rfl ?_
      refine mm_get C 18 2 (fun w h => mm_wc (inX3 w h)) rfl rfl (by decide) (mm_wc tw469) rfl rfl dX3_parent_34 ?_
      refine mm_iload_n C dX3_parent_37 rfl 2 rfl ?_
      refine mm_iald C 19 rfl (ix_b hI.k40 c5) dX3_parent_38 ?_
      refine mm_iload_n C dX3_parent_39 rfl 3 rfl ?_
      refine mm_icmp_eq (tgt := 56) C dX3_parent_40 (by decide) (fun c40 => ?_) (fun c40 => ?_)
      · skip
        refine mm_iconst (v := 1) C dX3_parent_56 (by decide) ?_
        refine mm_goto (tgt := 61) C dX3_parent_57 (by decide) ?_
        refine mm_iconst (v := 0) C dX3_parent_61 (by decide) ?_
        refine mm_iconst (v := 0) C dX3_parent_62 (by decide) ?_
        refine mm_riV C 18 sv_X3_X3_throwing_70 rfl rfl (kX3_throwing _ _ U u _ ck cw F false true false false) ⟨rfl, rfl⟩ ⟨mm_nl rfl, mm_nl rfl⟩ rfl rfl (mm_nl rfl) ⟨mm_nl rfl, mm_nl rfl⟩ dX3_parent_63 ?_
        refine mm_if_eq (tgt := 70) C dX3_parent_66 (by decide) (fun z => absurd z (by decide)) (fun _ => ?_)
        exact mm_vret C K dX3_parent_69 (by
                have ho : o_parent u a b = .inl x_is := by simp [o_parent, b_kindN, c5, eq_true c10, eq_true c40, (show f_sa (k_kn u) (k_pa u) a 40 b = false from by rw [c10]; exact sa_m1 _ _ _ _)]
                exact ⟨rfl, by rw [ho, cd_parent_2]; rfl⟩) rfl (mm_nl rfl) (mm_nl rfl)
      · skip
        refine mm_iload_n C dX3_parent_43 rfl 3 rfl ?_
        refine mm_if_lt (tgt := 60) C dX3_parent_44 (by decide) (fun c44 => ?_) (fun z => False.elim ((fun z => z (lt0_of c10)) z))
        refine mm_iconst (v := 0) C dX3_parent_60 (by decide) ?_
        refine mm_iconst (v := 0) C dX3_parent_61 (by decide) ?_
        refine mm_iconst (v := 0) C dX3_parent_62 (by decide) ?_
        refine mm_riV C 18 sv_X3_X3_throwing_70 rfl rfl (kX3_throwing _ _ U u _ ck cw F false false false false) ⟨rfl, rfl⟩ ⟨mm_nl rfl, mm_nl rfl⟩ rfl rfl (mm_nl rfl) ⟨mm_nl rfl, mm_nl rfl⟩ dX3_parent_63 ?_
        refine mm_if_eq (tgt := 70) C dX3_parent_66 (by decide) (fun _ => ?_) (fun z => absurd z (by decide))
        refine mm_aload_n C dX3_parent_70 rfl 1 rfl ?_
        refine mm_get C 18 2 (fun w h => mm_wc (inX3 w h)) rfl rfl (by decide) (mm_wc tw469) rfl rfl dX3_parent_71 ?_
        refine mm_iload_n C dX3_parent_74 rfl 2 rfl ?_
        refine mm_iload_n C dX3_parent_75 rfl 3 rfl ?_
        refine mm_iast C 19 rfl (ix_b hI.k40 c5) dX3_parent_76 ?_
        exact mm_vret C K dX3_parent_77 (by
                have ho : o_parent u a b = .inr (none, (k_kn u, upd (k_pa u) a.toNatClampNeg b, k_cl u, k_nw u, k_tb u, k_dy u, k_hw u, k_vl u, k_cs u, k_ta u, k_ts u, k_tu u, k_us u, k_inn u, k_ko u, k_ao u, k_be u, k_se u, k_sk u)) := by simp [o_parent, b_kindN, c5, eq_true c10, c40, (show f_sa (k_kn u) (k_pa u) a 40 b = false from by rw [c10]; exact sa_m1 _ _ _ _)]
                exact ⟨rfl, by rw [ho]; rfl⟩) rfl (mm_nl rfl) (mm_nl rfl)
    · skip
      refine mm_aload_n C dX3_parent_13 rfl 0 rfl ?_
      refine mm_iload_n C dX3_parent_14 rfl 2 rfl ?_
      refine mm_riV C 18 sv_X3_X3_isKind_66 rfl rfl (kX3_isKind _ _ U u _ ck cw F b k c i hI) ⟨rfl, rfl⟩ ⟨mm_nl rfl, mm_nl rfl⟩ rfl rfl (mm_nl rfl) ⟨mm_nl rfl, mm_nl rfl⟩ dX3_parent_15 ?_
      refine mm_ifb_ne (tgt := 25) C dX3_parent_18 (by decide) (fun c18 => ?_) (fun c18 => ?_)
      · skip
        refine mm_iconst (v := 0) C dX3_parent_25 (by decide) ?_
        refine mm_istore_n (lv' := [(3, .int 0), (0, .ref 18), (1, .int a), (2, .int b)]) C dX3_parent_26 rfl hnL (by decide) rfl ?_
        refine mm_aload_n C dX3_parent_27 rfl 1 rfl ?_
        refine mm_iload_n C dX3_parent_28 rfl 0 rfl ?_
        refine mm_iload_n C dX3_parent_29 rfl 0 rfl ?_
        refine mm_if_ne (tgt := 60) C dX3_parent_30 (by decide) (fun z => absurd z (by decide)) (fun _ => ?_)
        refine mm_aload_n C dX3_parent_33 rfl 1 rfl ?_
        refine mm_get C 18 2 (fun w h => mm_wc (inX3 w h)) rfl rfl (by decide) (mm_wc tw469) rfl rfl dX3_parent_34 ?_
        refine mm_iload_n C dX3_parent_37 rfl 2 rfl ?_
        refine mm_iald C 19 rfl (ix_b hI.k40 c5) dX3_parent_38 ?_
        refine mm_iload_n C dX3_parent_39 rfl 3 rfl ?_
        refine mm_icmp_eq (tgt := 56) C dX3_parent_40 (by decide) (fun c40 => ?_) (fun c40 => ?_)
        · skip
          refine mm_iconst (v := 1) C dX3_parent_56 (by decide) ?_
          refine mm_goto (tgt := 61) C dX3_parent_57 (by decide) ?_
          refine mm_iconst (v := 0) C dX3_parent_61 (by decide) ?_
          refine mm_iconst (v := 0) C dX3_parent_62 (by decide) ?_
          refine mm_riV C 18 sv_X3_X3_throwing_70 rfl rfl (kX3_throwing _ _ U u _ ck cw F false true false false) ⟨rfl, rfl⟩ ⟨mm_nl rfl, mm_nl rfl⟩ rfl rfl (mm_nl rfl) ⟨mm_nl rfl, mm_nl rfl⟩ dX3_parent_63 ?_
          refine mm_if_eq (tgt := 70) C dX3_parent_66 (by decide) (fun z => absurd z (by decide)) (fun _ => ?_)
          exact mm_vret C K dX3_parent_69 (by
                have ho : o_parent u a b = .inl x_is := by simp [o_parent, b_kindN, c5, c10, c18, eq_true c40]
                exact ⟨rfl, by rw [ho, cd_parent_2]; rfl⟩) rfl (mm_nl rfl) (mm_nl rfl)
        · skip
          refine mm_iload_n C dX3_parent_43 rfl 3 rfl ?_
          refine mm_if_lt (tgt := 60) C dX3_parent_44 (by decide) (fun z => False.elim ((b_nlt c18) z)) (fun c44 => ?_)
          refine mm_aload_n C dX3_parent_47 rfl 1 rfl ?_
          refine mm_iload_n C dX3_parent_48 rfl 2 rfl ?_
          refine mm_iload_n C dX3_parent_49 rfl 3 rfl ?_
          refine mm_riV C 18 sv_X3_X3_isAbove_74 rfl rfl (kX3_isAbove _ _ U u _ ck cw F a b k c i J0 c5 c18) ⟨rfl, rfl⟩ ⟨mm_nl rfl, mm_nl rfl⟩ rfl rfl (mm_nl rfl) ⟨mm_nl rfl, mm_nl rfl⟩ dX3_parent_50 ?_
          refine mm_ifb_eq (tgt := 60) C dX3_parent_53 (by decide) (fun c53 => ?_) (fun c53 => ?_)
          · skip
            refine mm_iconst (v := 0) C dX3_parent_60 (by decide) ?_
            refine mm_iconst (v := 0) C dX3_parent_61 (by decide) ?_
            refine mm_iconst (v := 0) C dX3_parent_62 (by decide) ?_
            refine mm_riV C 18 sv_X3_X3_throwing_70 rfl rfl (kX3_throwing _ _ U u _ ck cw F false false false false) ⟨rfl, rfl⟩ ⟨mm_nl rfl, mm_nl rfl⟩ rfl rfl (mm_nl rfl) ⟨mm_nl rfl, mm_nl rfl⟩ dX3_parent_63 ?_
            refine mm_if_eq (tgt := 70) C dX3_parent_66 (by decide) (fun _ => ?_) (fun z => absurd z (by decide))
            refine mm_aload_n C dX3_parent_70 rfl 1 rfl ?_
            refine mm_get C 18 2 (fun w h => mm_wc (inX3 w h)) rfl rfl (by decide) (mm_wc tw469) rfl rfl dX3_parent_71 ?_
            refine mm_iload_n C dX3_parent_74 rfl 2 rfl ?_
            refine mm_iload_n C dX3_parent_75 rfl 3 rfl ?_
            refine mm_iast C 19 rfl (ix_b hI.k40 c5) dX3_parent_76 ?_
            exact mm_vret C K dX3_parent_77 (by
                have ho : o_parent u a b = .inr (none, (k_kn u, upd (k_pa u) a.toNatClampNeg b, k_cl u, k_nw u, k_tb u, k_dy u, k_hw u, k_vl u, k_cs u, k_ta u, k_ts u, k_tu u, k_us u, k_inn u, k_ko u, k_ao u, k_be u, k_se u, k_sk u)) := by simp [o_parent, b_kindN, c5, c10, c18, c40, c53]
                exact ⟨rfl, by rw [ho]; rfl⟩) rfl (mm_nl rfl) (mm_nl rfl)
          · skip
            refine mm_iconst (v := 1) C dX3_parent_56 (by decide) ?_
            refine mm_goto (tgt := 61) C dX3_parent_57 (by decide) ?_
            refine mm_iconst (v := 0) C dX3_parent_61 (by decide) ?_
            refine mm_iconst (v := 0) C dX3_parent_62 (by decide) ?_
            refine mm_riV C 18 sv_X3_X3_throwing_70 rfl rfl (kX3_throwing _ _ U u _ ck cw F false true false false) ⟨rfl, rfl⟩ ⟨mm_nl rfl, mm_nl rfl⟩ rfl rfl (mm_nl rfl) ⟨mm_nl rfl, mm_nl rfl⟩ dX3_parent_63 ?_
            refine mm_if_eq (tgt := 70) C dX3_parent_66 (by decide) (fun z => absurd z (by decide)) (fun _ => ?_)
            exact mm_vret C K dX3_parent_69 (by
                have ho : o_parent u a b = .inl x_is := by simp [o_parent, b_kindN, c5, c10, c18, c40, c53]
                exact ⟨rfl, by rw [ho, cd_parent_2]; rfl⟩) rfl (mm_nl rfl) (mm_nl rfl)
      · skip
        refine mm_iconst (v := 1) C dX3_parent_21 (by decide) ?_
        refine mm_goto (tgt := 26) C dX3_parent_22 (by decide) ?_
        refine mm_istore_n (lv' := [(3, .int 1), (0, .ref 18), (1, .int a), (2, .int b)]) C dX3_parent_26 rfl hnL (by decide) rfl ?_
        refine mm_aload_n C dX3_parent_27 rfl 1 rfl ?_
        refine mm_iload_n C dX3_parent_28 rfl 0 rfl ?_
        refine mm_iload_n C dX3_parent_29 rfl 0 rfl ?_
        refine mm_if_ne (tgt := 60) C dX3_parent_30 (by decide) (fun _ => ?_) (fun z => absurd z (by decide))
        refine mm_iconst (v := 0) C dX3_parent_60 (by decide) ?_
        refine mm_iconst (v := 0) C dX3_parent_61 (by decide) ?_
        refine mm_iconst (v := 0) C dX3_parent_62 (by decide) ?_
        refine mm_riV C 18 sv_X3_X3_throwing_70 rfl rfl (kX3_throwing _ _ U u _ ck cw F true false false false) ⟨rfl, rfl⟩ ⟨mm_nl rfl, mm_nl rfl⟩ rfl rfl (mm_nl rfl) ⟨mm_nl rfl, mm_nl rfl⟩ dX3_parent_63 ?_
        refine mm_if_eq (tgt := 70) C dX3_parent_66 (by decide) (fun z => absurd z (by decide)) (fun _ => ?_)
        exact mm_vret C K dX3_parent_69 (by
                have ho : o_parent u a b = .inl x_ia := by simp [o_parent, b_kindN, c5, c10, c18]
                exact ⟨rfl, by rw [ho, cd_parent_1]; rfl⟩) rfl (mm_nl rfl) (mm_nl rfl)
set_option maxHeartbeats 4000000 in
set_option maxRecDepth 100000 in
theorem kX3_says (l : Launch) (D : va_G) (U u : ks_S) (t : Int32) (ck cw : Nat → Int32) (F : List mm_c) (a b e x : Int32) (k c i : Nat) (J : ms_I u ck cw k c i) : mm_Wr l D yX3_says (mm_cw yX3_says cX3_says 7 none) (mm_rm 3) [.ref 18, .int a, .int b, .int e, .int x] (ks_H U (ms_H u t ck cw F)) (none) (ks_H U (ms_H (m_us u (o_says u a b e x)) (m_cd l_says (o_says u a b e x)) (m_ar ck (k_cs u).toNatClampNeg a (o_says u a b e x)) (m_ar cw (k_cs u).toNatClampNeg b (o_says u a b e x)) F)) := by
  refine mm_start (own := RX3) (by decide) rfl rfl (mm_nl rfl) (fun _ => rfl) (fun _ => rfl) (fun g ad hl hD hnL C K => ?_)
  subst hl
  subst hD
  have J0 := J
  obtain ⟨hI, wP, wA, wA0, hta, htu, hct, hko, hcl, hhv, hw4, htb, hn1, hn2⟩ := J
  show mm_M g ad 0 0 (ks_H U (ms_H u t ck cw F)) 0 [(0, .ref 18), (1, .int a), (2, .int b), (3, .int e), (4, .int x)] []
  refine mm_aload_n C dX3_says_0 rfl 0 rfl ?_
  refine mm_iload_n C dX3_says_1 rfl 1 rfl ?_
  refine mm_riV C 18 sv_X3_X3_isKind_66 rfl rfl (kX3_isKind _ _ U u _ ck cw F a k c i hI) ⟨rfl, rfl⟩ ⟨mm_nl rfl, mm_nl rfl⟩ rfl rfl (mm_nl rfl) ⟨mm_nl rfl, mm_nl rfl⟩ dX3_says_2 ?_
  refine mm_ifb_eq (tgt := 17) C dX3_says_5 (by decide) (fun c5 => ?_) (fun c5 => ?_)
  · skip
    refine mm_iconst (v := 1) C dX3_says_17 (by decide) ?_
    refine mm_goto (tgt := 22) C dX3_says_18 (by decide) ?_
    refine mm_istore (lv' := [(5, .int 1), (0, .ref 18), (1, .int a), (2, .int b), (3, .int e), (4, .int x)]) C dX3_says_22 hnL (by decide) rfl ?_
    refine mm_iload C dX3_says_24 0 rfl ?_
    refine mm_if_ne (tgt := 49) C dX3_says_26 (by decide) (fun _ => ?_) (fun z => absurd z (by decide))
    refine mm_iconst (v := 1) C dX3_says_49 (by decide) ?_
    refine mm_goto (tgt := 54) C dX3_says_50 (by decide) ?_
    refine mm_istore (lv' := [(6, .int 1), (5, .int 1), (0, .ref 18), (1, .int a), (2, .int b), (3, .int e), (4, .int x)]) C dX3_says_54 hnL (by decide) rfl ?_
    refine mm_aload_n C dX3_says_56 rfl 2 rfl ?_
    refine mm_iload C dX3_says_57 1 rfl ?_
    refine mm_iload C dX3_says_59 0 rfl ?_
    refine mm_aload_n C dX3_says_61 rfl 2 rfl ?_
    refine mm_get C 18 4 (fun w h => mm_wc (inX3 w h)) rfl rfl (by decide) (mm_wc tw471) rfl rfl dX3_says_62 ?_
    refine mm_sipush (v := 200) C dX3_says_65 (by decide) ?_
    refine mm_icmp_ne (tgt := 75) C dX3_says_68 (by decide) (fun c68 => ?_) (fun c68 => ?_)
    · skip
      refine mm_iconst (v := 0) C dX3_says_75 (by decide) ?_
      refine mm_iconst (v := 0) C dX3_says_76 (by decide) ?_
      refine mm_riV C 18 sv_X3_X3_throwing_70 rfl rfl (kX3_throwing _ _ U u _ ck cw F true true false false) ⟨rfl, rfl⟩ ⟨mm_nl rfl, mm_nl rfl⟩ rfl rfl (mm_nl rfl) ⟨mm_nl rfl, mm_nl rfl⟩ dX3_says_77 ?_
      refine mm_if_eq (tgt := 84) C dX3_says_80 (by decide) (fun z => absurd z (by decide)) (fun _ => ?_)
      exact mm_vret C K dX3_says_83 (by
                have ho : o_says u a b e x = .inl x_ia := by simp [o_says, ite_btw, e_200 hI, c5, c68]
                exact ⟨rfl, by rw [ho, cd_says_1]; rfl⟩) rfl (mm_nl rfl) (mm_nl rfl)
    · skip
      refine mm_iconst (v := 1) C dX3_says_71 (by decide) ?_
      refine mm_goto (tgt := 76) C dX3_says_72 (by decide) ?_
      refine mm_iconst (v := 0) C dX3_says_76 (by decide) ?_
      refine mm_riV C 18 sv_X3_X3_throwing_70 rfl rfl (kX3_throwing _ _ U u _ ck cw F true true true false) ⟨rfl, rfl⟩ ⟨mm_nl rfl, mm_nl rfl⟩ rfl rfl (mm_nl rfl) ⟨mm_nl rfl, mm_nl rfl⟩ dX3_says_77 ?_
      refine mm_if_eq (tgt := 84) C dX3_says_80 (by decide) (fun z => absurd z (by decide)) (fun _ => ?_)
      exact mm_vret C K dX3_says_83 (by
                have ho : o_says u a b e x = .inl x_ia := by simp [o_says, ite_btw, e_200 hI, c5, eq_true c68]
                exact ⟨rfl, by rw [ho, cd_says_1]; rfl⟩) rfl (mm_nl rfl) (mm_nl rfl)
  · skip
    refine mm_iload_n C dX3_says_8 rfl 2 rfl ?_
    refine mm_iconst (v := 0) C dX3_says_9 (by decide) ?_
    refine mm_iconst (v := 3) C dX3_says_10 (by decide) ?_
    refine mm_riS C ss_X3_X3_between_59 (kX3_between _ _ _ b 0 3 (b_below b 4) (bw_below (by decide))) ⟨rfl, rfl⟩ ⟨mm_nl rfl, mm_nl rfl⟩ rfl rfl (mm_nl rfl) ⟨mm_nl rfl, mm_nl rfl⟩ dX3_says_11 ?_
    refine mm_ifb_ne (tgt := 21) C dX3_says_14 (by decide) (fun c14 => ?_) (fun c14 => ?_)
    · skip
      refine mm_iconst (v := 0) C dX3_says_21 (by decide) ?_
      refine mm_istore (lv' := [(5, .int 0), (0, .ref 18), (1, .int a), (2, .int b), (3, .int e), (4, .int x)]) C dX3_says_22 hnL (by decide) rfl ?_
      refine mm_iload C dX3_says_24 0 rfl ?_
      refine mm_if_ne (tgt := 49) C dX3_says_26 (by decide) (fun z => absurd z (by decide)) (fun _ => ?_)
      refine mm_iload_n C dX3_says_29 rfl 4 rfl ?_
      refine mm_riS C ss_X3_X3_isDay_81 (kX3_isDay _ _ _ e) ⟨rfl, rfl⟩ ⟨mm_nl rfl, mm_nl rfl⟩ rfl rfl (mm_nl rfl) ⟨mm_nl rfl, mm_nl rfl⟩ dX3_says_30 ?_
      refine mm_ifb_eq (tgt := 49) C dX3_says_33 (by decide) (fun c33 => ?_) (fun c33 => ?_)
      · skip
        refine mm_iconst (v := 1) C dX3_says_49 (by decide) ?_
        refine mm_goto (tgt := 54) C dX3_says_50 (by decide) ?_
        refine mm_istore (lv' := [(6, .int 1), (5, .int 0), (0, .ref 18), (1, .int a), (2, .int b), (3, .int e), (4, .int x)]) C dX3_says_54 hnL (by decide) rfl ?_
        refine mm_aload_n C dX3_says_56 rfl 2 rfl ?_
        refine mm_iload C dX3_says_57 1 rfl ?_
        refine mm_iload C dX3_says_59 0 rfl ?_
        refine mm_aload_n C dX3_says_61 rfl 2 rfl ?_
        refine mm_get C 18 4 (fun w h => mm_wc (inX3 w h)) rfl rfl (by decide) (mm_wc tw471) rfl rfl dX3_says_62 ?_
        refine mm_sipush (v := 200) C dX3_says_65 (by decide) ?_
        refine mm_icmp_ne (tgt := 75) C dX3_says_68 (by decide) (fun c68 => ?_) (fun c68 => ?_)
        · skip
          refine mm_iconst (v := 0) C dX3_says_75 (by decide) ?_
          refine mm_iconst (v := 0) C dX3_says_76 (by decide) ?_
          refine mm_riV C 18 sv_X3_X3_throwing_70 rfl rfl (kX3_throwing _ _ U u _ ck cw F false true false false) ⟨rfl, rfl⟩ ⟨mm_nl rfl, mm_nl rfl⟩ rfl rfl (mm_nl rfl) ⟨mm_nl rfl, mm_nl rfl⟩ dX3_says_77 ?_
          refine mm_if_eq (tgt := 84) C dX3_says_80 (by decide) (fun z => absurd z (by decide)) (fun _ => ?_)
          exact mm_vret C K dX3_says_83 (by
                have ho : o_says u a b e x = .inl x_io := by simp [o_says, ite_btw, e_200 hI, c5, c14, c33, c68]
                exact ⟨rfl, by rw [ho, cd_says_2]; rfl⟩) rfl (mm_nl rfl) (mm_nl rfl)
        · skip
          refine mm_iconst (v := 1) C dX3_says_71 (by decide) ?_
          refine mm_goto (tgt := 76) C dX3_says_72 (by decide) ?_
          refine mm_iconst (v := 0) C dX3_says_76 (by decide) ?_
          refine mm_riV C 18 sv_X3_X3_throwing_70 rfl rfl (kX3_throwing _ _ U u _ ck cw F false true true false) ⟨rfl, rfl⟩ ⟨mm_nl rfl, mm_nl rfl⟩ rfl rfl (mm_nl rfl) ⟨mm_nl rfl, mm_nl rfl⟩ dX3_says_77 ?_
          refine mm_if_eq (tgt := 84) C dX3_says_80 (by decide) (fun z => absurd z (by decide)) (fun _ => ?_)
          exact mm_vret C K dX3_says_83 (by
                have ho : o_says u a b e x = .inl x_io := by simp [o_says, ite_btw, e_200 hI, c5, c14, c33, eq_true c68]
                exact ⟨rfl, by rw [ho, cd_says_2]; rfl⟩) rfl (mm_nl rfl) (mm_nl rfl)
      · skip
        refine mm_iload C dX3_says_36 5 rfl ?_
        refine mm_iconst (v := (-1)) C dX3_says_38 (by decide) ?_
        refine mm_iload_n C dX3_says_39 rfl 3 rfl ?_
        refine mm_riS C ss_X3_X3_most_84 (kX3_most _ _ _ b c14) ⟨rfl, rfl⟩ ⟨mm_nl rfl, mm_nl rfl⟩ rfl rfl (mm_nl rfl) ⟨mm_nl rfl, mm_nl rfl⟩ dX3_says_40 ?_
        refine mm_riS C ss_X3_X3_between_59 (kX3_between _ _ _ x (-1) (f_gw b) (b_btw x (-1) (f_gw b)) rfl) ⟨rfl, rfl⟩ ⟨mm_nl rfl, mm_nl rfl⟩ rfl rfl (mm_nl rfl) ⟨mm_nl rfl, mm_nl rfl⟩ dX3_says_43 ?_
        refine mm_ifb_ne (tgt := 53) C dX3_says_46 (by decide) (fun c46 => ?_) (fun c46 => ?_)
        · skip
          refine mm_iconst (v := 0) C dX3_says_53 (by decide) ?_
          refine mm_istore (lv' := [(6, .int 0), (5, .int 0), (0, .ref 18), (1, .int a), (2, .int b), (3, .int e), (4, .int x)]) C dX3_says_54 hnL (by decide) rfl ?_
          refine mm_aload_n C dX3_says_56 rfl 2 rfl ?_
          refine mm_iload C dX3_says_57 1 rfl ?_
          refine mm_iload C dX3_says_59 0 rfl ?_
          refine mm_aload_n C dX3_says_61 rfl 2 rfl ?_
          refine mm_get C 18 4 (fun w h => mm_wc (inX3 w h)) rfl rfl (by decide) (mm_wc tw471) rfl rfl dX3_says_62 ?_
          refine mm_sipush (v := 200) C dX3_says_65 (by decide) ?_
          refine mm_icmp_ne (tgt := 75) C dX3_says_68 (by decide) (fun c68 => ?_) (fun c68 => ?_)
          · skip
            refine mm_iconst (v := 0) C dX3_says_75 (by decide) ?_
            refine mm_iconst (v := 0) C dX3_says_76 (by decide) ?_
            refine mm_riV C 18 sv_X3_X3_throwing_70 rfl rfl (kX3_throwing _ _ U u _ ck cw F false false false false) ⟨rfl, rfl⟩ ⟨mm_nl rfl, mm_nl rfl⟩ rfl rfl (mm_nl rfl) ⟨mm_nl rfl, mm_nl rfl⟩ dX3_says_77 ?_
            refine mm_if_eq (tgt := 84) C dX3_says_80 (by decide) (fun _ => ?_) (fun z => absurd z (by decide))
            refine mm_aload_n C dX3_says_84 rfl 2 rfl ?_
            refine mm_iload_n C dX3_says_85 rfl 3 rfl ?_
            refine mm_iload_n C dX3_says_86 rfl 4 rfl ?_
            refine mm_iload_n C dX3_says_87 rfl 5 rfl ?_
            refine mm_iload C dX3_says_88 6 rfl ?_
            refine mm_iload C dX3_says_90 6 rfl ?_
            refine mm_if_ge (tgt := 99) C dX3_says_92 (by decide) (fun c92 => ?_) (fun c92 => ?_)
            · skip
              refine mm_iconst (v := 1) C dX3_says_99 (by decide) ?_
              refine mm_rvV C 18 sv_X3_X3_change_88 rfl rfl (kX3_change _ _ U u _ ck cw F a b e x 1 b k c i hI (cs_lt hI (by rw [e_200 hI]; simp [c68]))) ⟨rfl, rfl⟩ ⟨mm_nl rfl, mm_nl rfl⟩ rfl rfl (mm_nl rfl) ⟨mm_nl rfl, mm_nl rfl⟩ dX3_says_100 ?_
              exact mm_vret C K dX3_says_103 (by
                have ho : o_says u a b e x = .inr (none, ks_tell u a b e 1 x) := by simp [o_says, ite_btw, e_200 hI, c5, c14, c33, c46, c68, c92, sx_2 c92]
                exact ⟨rfl, by rw [ho]; rfl⟩) rfl (mm_nl rfl) (mm_nl rfl)
            · skip
              refine mm_iconst (v := 0) C dX3_says_95 (by decide) ?_
              refine mm_goto (tgt := 100) C dX3_says_96 (by decide) ?_
              refine mm_rvV C 18 sv_X3_X3_change_88 rfl rfl (kX3_change _ _ U u _ ck cw F a b e x 0 b k c i hI (cs_lt hI (by rw [e_200 hI]; simp [c68]))) ⟨rfl, rfl⟩ ⟨mm_nl rfl, mm_nl rfl⟩ rfl rfl (mm_nl rfl) ⟨mm_nl rfl, mm_nl rfl⟩ dX3_says_100 ?_
              exact mm_vret C K dX3_says_103 (by
                have ho : o_says u a b e x = .inr (none, ks_tell u a b e 0 x) := by simp [o_says, ite_btw, e_200 hI, c5, c14, c33, c46, c68, c92, eq_true (sx_1 c46 c92)]
                exact ⟨rfl, by rw [ho]; rfl⟩) rfl (mm_nl rfl) (mm_nl rfl)
          · skip
            refine mm_iconst (v := 1) C dX3_says_71 (by decide) ?_
            refine mm_goto (tgt := 76) C dX3_says_72 (by decide) ?_
            refine mm_iconst (v := 0) C dX3_says_76 (by decide) ?_
            refine mm_riV C 18 sv_X3_X3_throwing_70 rfl rfl (kX3_throwing _ _ U u _ ck cw F false false true false) ⟨rfl, rfl⟩ ⟨mm_nl rfl, mm_nl rfl⟩ rfl rfl (mm_nl rfl) ⟨mm_nl rfl, mm_nl rfl⟩ dX3_says_77 ?_
            refine mm_if_eq (tgt := 84) C dX3_says_80 (by decide) (fun z => absurd z (by decide)) (fun _ => ?_)
            exact mm_vret C K dX3_says_83 (by
                have ho : o_says u a b e x = .inl x_uo := by simp [o_says, ite_btw, e_200 hI, c5, c14, c33, c46, eq_true c68]
                exact ⟨rfl, by rw [ho, cd_says_3]; rfl⟩) rfl (mm_nl rfl) (mm_nl rfl)
        · skip
          refine mm_iconst (v := 1) C dX3_says_49 (by decide) ?_
          refine mm_goto (tgt := 54) C dX3_says_50 (by decide) ?_
          refine mm_istore (lv' := [(6, .int 1), (5, .int 0), (0, .ref 18), (1, .int a), (2, .int b), (3, .int e), (4, .int x)]) C dX3_says_54 hnL (by decide) rfl ?_
          refine mm_aload_n C dX3_says_56 rfl 2 rfl ?_
          refine mm_iload C dX3_says_57 1 rfl ?_
          refine mm_iload C dX3_says_59 0 rfl ?_
          refine mm_aload_n C dX3_says_61 rfl 2 rfl ?_
          refine mm_get C 18 4 (fun w h => mm_wc (inX3 w h)) rfl rfl (by decide) (mm_wc tw471) rfl rfl dX3_says_62 ?_
          refine mm_sipush (v := 200) C dX3_says_65 (by decide) ?_
          refine mm_icmp_ne (tgt := 75) C dX3_says_68 (by decide) (fun c68 => ?_) (fun c68 => ?_)
          · skip
            refine mm_iconst (v := 0) C dX3_says_75 (by decide) ?_
            refine mm_iconst (v := 0) C dX3_says_76 (by decide) ?_
            refine mm_riV C 18 sv_X3_X3_throwing_70 rfl rfl (kX3_throwing _ _ U u _ ck cw F false true false false) ⟨rfl, rfl⟩ ⟨mm_nl rfl, mm_nl rfl⟩ rfl rfl (mm_nl rfl) ⟨mm_nl rfl, mm_nl rfl⟩ dX3_says_77 ?_
            refine mm_if_eq (tgt := 84) C dX3_says_80 (by decide) (fun z => absurd z (by decide)) (fun _ => ?_)
            exact mm_vret C K dX3_says_83 (by
                have ho : o_says u a b e x = .inl x_io := by simp [o_says, ite_btw, e_200 hI, c5, c14, c33, c46, c68]
                exact ⟨rfl, by rw [ho, cd_says_2]; rfl⟩) rfl (mm_nl rfl) (mm_nl rfl)
          · skip
            refine mm_iconst (v := 1) C dX3_says_71 (by decide) ?_
            refine mm_goto (tgt := 76) C dX3_says_72 (by decide) ?_
            refine mm_iconst (v := 0) C dX3_says_76 (by decide) ?_
            refine mm_riV C 18 sv_X3_X3_throwing_70 rfl rfl (kX3_throwing _ _ U u _ ck cw F false true true false) ⟨rfl, rfl⟩ ⟨mm_nl rfl, mm_nl rfl⟩ rfl rfl (mm_nl rfl) ⟨mm_nl rfl, mm_nl rfl⟩ dX3_says_77 ?_
            refine mm_if_eq (tgt := 84) C dX3_says_80 (by decide) (fun z => absurd z (by decide)) (fun _ => ?_)
            exact mm_vret C K dX3_says_83 (by
                have ho : o_says u a b e x = .inl x_io := by simp [o_says, ite_btw, e_200 hI, c5, c14, c33, c46, eq_true c68]
                exact ⟨rfl, by rw [ho, cd_says_2]; rfl⟩) rfl (mm_nl rfl) (mm_nl rfl)
    · skip
      refine mm_iconst (v := 1) C dX3_says_17 (by decide) ?_
      refine mm_goto (tgt := 22) C dX3_says_18 (by decide) ?_
      refine mm_istore (lv' := [(5, .int 1), (0, .ref 18), (1, .int a), (2, .int b), (3, .int e), (4, .int x)]) C dX3_says_22 hnL (by decide) rfl ?_
      refine mm_iload C dX3_says_24 0 rfl ?_
      refine mm_if_ne (tgt := 49) C dX3_says_26 (by decide) (fun _ => ?_) (fun z => absurd z (by decide))
      refine mm_iconst (v := 1) C dX3_says_49 (by decide) ?_
      refine mm_goto (tgt := 54) C dX3_says_50 (by decide) ?_
      refine mm_istore (lv' := [(6, .int 1), (5, .int 1), (0, .ref 18), (1, .int a), (2, .int b), (3, .int e), (4, .int x)]) C dX3_says_54 hnL (by decide) rfl ?_
      refine mm_aload_n C dX3_says_56 rfl 2 rfl ?_
      refine mm_iload C dX3_says_57 1 rfl ?_
      refine mm_iload C dX3_says_59 0 rfl ?_
      refine mm_aload_n C dX3_says_61 rfl 2 rfl ?_
      refine mm_get C 18 4 (fun w h => mm_wc (inX3 w h)) rfl rfl (by decide) (mm_wc tw471) rfl rfl dX3_says_62 ?_
      refine mm_sipush (v := 200) C dX3_says_65 (by decide) ?_
      refine mm_icmp_ne (tgt := 75) C dX3_says_68 (by decide) (fun c68 => ?_) (fun c68 => ?_)
      · skip
        refine mm_iconst (v := 0) C dX3_says_75 (by decide) ?_
        refine mm_iconst (v := 0) C dX3_says_76 (by decide) ?_
        refine mm_riV C 18 sv_X3_X3_throwing_70 rfl rfl (kX3_throwing _ _ U u _ ck cw F true true false false) ⟨rfl, rfl⟩ ⟨mm_nl rfl, mm_nl rfl⟩ rfl rfl (mm_nl rfl) ⟨mm_nl rfl, mm_nl rfl⟩ dX3_says_77 ?_
        refine mm_if_eq (tgt := 84) C dX3_says_80 (by decide) (fun z => absurd z (by decide)) (fun _ => ?_)
        exact mm_vret C K dX3_says_83 (by
                have ho : o_says u a b e x = .inl x_ia := by simp [o_says, ite_btw, e_200 hI, c5, c14, c68]
                exact ⟨rfl, by rw [ho, cd_says_1]; rfl⟩) rfl (mm_nl rfl) (mm_nl rfl)
      · skip
        refine mm_iconst (v := 1) C dX3_says_71 (by decide) ?_
        refine mm_goto (tgt := 76) C dX3_says_72 (by decide) ?_
        refine mm_iconst (v := 0) C dX3_says_76 (by decide) ?_
        refine mm_riV C 18 sv_X3_X3_throwing_70 rfl rfl (kX3_throwing _ _ U u _ ck cw F true true true false) ⟨rfl, rfl⟩ ⟨mm_nl rfl, mm_nl rfl⟩ rfl rfl (mm_nl rfl) ⟨mm_nl rfl, mm_nl rfl⟩ dX3_says_77 ?_
        refine mm_if_eq (tgt := 84) C dX3_says_80 (by decide) (fun z => absurd z (by decide)) (fun _ => ?_)
        exact mm_vret C K dX3_says_83 (by
                have ho : o_says u a b e x = .inl x_ia := by simp [o_says, ite_btw, e_200 hI, c5, c14, eq_true c68]
                exact ⟨rfl, by rw [ho, cd_says_1]; rfl⟩) rfl (mm_nl rfl) (mm_nl rfl)
set_option maxHeartbeats 4000000 in
set_option maxRecDepth 100000 in
theorem kX3_need (l : Launch) (D : va_G) (U u : ks_S) (t : Int32) (ck cw : Nat → Int32) (F : List mm_c) (a b e h x : Int32) (k c i : Nat) (J : ms_I u ck cw k c i) : mm_Wr l D yX3_need (mm_cw yX3_need cX3_need 8 none) (mm_rm 3) [.ref 18, .int a, .int b, .int e, .int h, .int x] (ks_H U (ms_H u t ck cw F)) (none) (ks_H U (ms_H (m_us u (o_need u a b e h x)) (m_cd l_need (o_need u a b e h x)) (m_ar ck (k_cs u).toNatClampNeg a (o_need u a b e h x)) (m_ar cw (k_cs u).toNatClampNeg (10 + b) (o_need u a b e h x)) F)) := by
  refine mm_start (own := RX3) (by decide) rfl rfl (mm_nl rfl) (fun _ => rfl) (fun _ => rfl) (fun g ad hl hD hnL C K => ?_)
  subst hl
  subst hD
  have J0 := J
  obtain ⟨hI, wP, wA, wA0, hta, htu, hct, hko, hcl, hhv, hw4, htb, hn1, hn2⟩ := J
  show mm_M g ad 0 0 (ks_H U (ms_H u t ck cw F)) 0 [(0, .ref 18), (1, .int a), (2, .int b), (3, .int e), (4, .int h), (5, .int x)] []
  refine mm_aload_n C dX3_need_0 rfl 0 rfl ?_
  refine mm_iload_n C dX3_need_1 rfl 1 rfl ?_
  refine mm_riV C 18 sv_X3_X3_isKind_66 rfl rfl (kX3_isKind _ _ U u _ ck cw F a k c i hI) ⟨rfl, rfl⟩ ⟨mm_nl rfl, mm_nl rfl⟩ rfl rfl (mm_nl rfl) ⟨mm_nl rfl, mm_nl rfl⟩ dX3_need_2 ?_
  refine mm_ifb_eq (tgt := 18) C dX3_need_5 (by decide) (fun c5 => ?_) (fun c5 => ?_)
  · skip
    refine mm_iconst (v := 1) C dX3_need_18 (by decide) ?_
    refine mm_goto (tgt := 23) C dX3_need_19 (by decide) ?_
    refine mm_istore (lv' := [(6, .int 1), (0, .ref 18), (1, .int a), (2, .int b), (3, .int e), (4, .int h), (5, .int x)]) C dX3_need_23 hnL (by decide) rfl ?_
    refine mm_iload_n C dX3_need_25 rfl 4 rfl ?_
    refine mm_riS C ss_X3_X3_isDay_81 (kX3_isDay _ _ _ e) ⟨rfl, rfl⟩ ⟨mm_nl rfl, mm_nl rfl⟩ rfl rfl (mm_nl rfl) ⟨mm_nl rfl, mm_nl rfl⟩ dX3_need_26 ?_
    refine mm_ifb_eq (tgt := 53) C dX3_need_29 (by decide) (fun c29 => ?_) (fun c29 => ?_)
    · skip
      refine mm_iconst (v := 1) C dX3_need_53 (by decide) ?_
      refine mm_goto (tgt := 58) C dX3_need_54 (by decide) ?_
      refine mm_istore (lv' := [(7, .int 1), (6, .int 1), (0, .ref 18), (1, .int a), (2, .int b), (3, .int e), (4, .int h), (5, .int x)]) C dX3_need_58 hnL (by decide) rfl ?_
      refine mm_aload_n C dX3_need_60 rfl 2 rfl ?_
      refine mm_iload C dX3_need_61 1 rfl ?_
      refine mm_iload C dX3_need_63 0 rfl ?_
      refine mm_aload_n C dX3_need_65 rfl 2 rfl ?_
      refine mm_get C 18 4 (fun w h => mm_wc (inX3 w h)) rfl rfl (by decide) (mm_wc tw471) rfl rfl dX3_need_66 ?_
      refine mm_sipush (v := 200) C dX3_need_69 (by decide) ?_
      refine mm_icmp_ne (tgt := 79) C dX3_need_72 (by decide) (fun c72 => ?_) (fun c72 => ?_)
      · skip
        refine mm_iconst (v := 0) C dX3_need_79 (by decide) ?_
        refine mm_iconst (v := 0) C dX3_need_80 (by decide) ?_
        refine mm_riV C 18 sv_X3_X3_throwing_70 rfl rfl (kX3_throwing _ _ U u _ ck cw F true true false false) ⟨rfl, rfl⟩ ⟨mm_nl rfl, mm_nl rfl⟩ rfl rfl (mm_nl rfl) ⟨mm_nl rfl, mm_nl rfl⟩ dX3_need_81 ?_
        refine mm_if_eq (tgt := 88) C dX3_need_84 (by decide) (fun z => absurd z (by decide)) (fun _ => ?_)
        exact mm_vret C K dX3_need_87 (by
                have ho : o_need u a b e h x = .inl x_ia := by simp [o_need, ite_btw, e_200 hI, c5, c29, c72]
                exact ⟨rfl, by rw [ho, cd_need_1]; rfl⟩) rfl (mm_nl rfl) (mm_nl rfl)
      · skip
        refine mm_iconst (v := 1) C dX3_need_75 (by decide) ?_
        refine mm_goto (tgt := 80) C dX3_need_76 (by decide) ?_
        refine mm_iconst (v := 0) C dX3_need_80 (by decide) ?_
        refine mm_riV C 18 sv_X3_X3_throwing_70 rfl rfl (kX3_throwing _ _ U u _ ck cw F true true true false) ⟨rfl, rfl⟩ ⟨mm_nl rfl, mm_nl rfl⟩ rfl rfl (mm_nl rfl) ⟨mm_nl rfl, mm_nl rfl⟩ dX3_need_81 ?_
        refine mm_if_eq (tgt := 88) C dX3_need_84 (by decide) (fun z => absurd z (by decide)) (fun _ => ?_)
        exact mm_vret C K dX3_need_87 (by
                have ho : o_need u a b e h x = .inl x_ia := by simp [o_need, ite_btw, e_200 hI, c5, c29, eq_true c72]
                exact ⟨rfl, by rw [ho, cd_need_1]; rfl⟩) rfl (mm_nl rfl) (mm_nl rfl)
    · skip
      refine mm_iload C dX3_need_32 5 rfl ?_
      refine mm_iconst (v := 0) C dX3_need_34 (by decide) ?_
      refine mm_iconst (v := 2) C dX3_need_35 (by decide) ?_
      refine mm_riS C ss_X3_X3_between_59 (kX3_between _ _ _ h 0 2 (b_btw h 0 2) rfl) ⟨rfl, rfl⟩ ⟨mm_nl rfl, mm_nl rfl⟩ rfl rfl (mm_nl rfl) ⟨mm_nl rfl, mm_nl rfl⟩ dX3_need_36 ?_
      refine mm_ifb_eq (tgt := 53) C dX3_need_39 (by decide) (fun c39 => ?_) (fun c39 => ?_)
      · skip
        refine mm_iconst (v := 1) C dX3_need_53 (by decide) ?_
        refine mm_goto (tgt := 58) C dX3_need_54 (by decide) ?_
        refine mm_istore (lv' := [(7, .int 1), (6, .int 1), (0, .ref 18), (1, .int a), (2, .int b), (3, .int e), (4, .int h), (5, .int x)]) C dX3_need_58 hnL (by decide) rfl ?_
        refine mm_aload_n C dX3_need_60 rfl 2 rfl ?_
        refine mm_iload C dX3_need_61 1 rfl ?_
        refine mm_iload C dX3_need_63 0 rfl ?_
        refine mm_aload_n C dX3_need_65 rfl 2 rfl ?_
        refine mm_get C 18 4 (fun w h => mm_wc (inX3 w h)) rfl rfl (by decide) (mm_wc tw471) rfl rfl dX3_need_66 ?_
        refine mm_sipush (v := 200) C dX3_need_69 (by decide) ?_
        refine mm_icmp_ne (tgt := 79) C dX3_need_72 (by decide) (fun c72 => ?_) (fun c72 => ?_)
        · skip
          refine mm_iconst (v := 0) C dX3_need_79 (by decide) ?_
          refine mm_iconst (v := 0) C dX3_need_80 (by decide) ?_
          refine mm_riV C 18 sv_X3_X3_throwing_70 rfl rfl (kX3_throwing _ _ U u _ ck cw F true true false false) ⟨rfl, rfl⟩ ⟨mm_nl rfl, mm_nl rfl⟩ rfl rfl (mm_nl rfl) ⟨mm_nl rfl, mm_nl rfl⟩ dX3_need_81 ?_
          refine mm_if_eq (tgt := 88) C dX3_need_84 (by decide) (fun z => absurd z (by decide)) (fun _ => ?_)
          exact mm_vret C K dX3_need_87 (by
                have ho : o_need u a b e h x = .inl x_ia := by simp [o_need, ite_btw, e_200 hI, c5, c29, c39, c72]
                exact ⟨rfl, by rw [ho, cd_need_1]; rfl⟩) rfl (mm_nl rfl) (mm_nl rfl)
        · skip
          refine mm_iconst (v := 1) C dX3_need_75 (by decide) ?_
          refine mm_goto (tgt := 80) C dX3_need_76 (by decide) ?_
          refine mm_iconst (v := 0) C dX3_need_80 (by decide) ?_
          refine mm_riV C 18 sv_X3_X3_throwing_70 rfl rfl (kX3_throwing _ _ U u _ ck cw F true true true false) ⟨rfl, rfl⟩ ⟨mm_nl rfl, mm_nl rfl⟩ rfl rfl (mm_nl rfl) ⟨mm_nl rfl, mm_nl rfl⟩ dX3_need_81 ?_
          refine mm_if_eq (tgt := 88) C dX3_need_84 (by decide) (fun z => absurd z (by decide)) (fun _ => ?_)
          exact mm_vret C K dX3_need_87 (by
                have ho : o_need u a b e h x = .inl x_ia := by simp [o_need, ite_btw, e_200 hI, c5, c29, c39, eq_true c72]
                exact ⟨rfl, by rw [ho, cd_need_1]; rfl⟩) rfl (mm_nl rfl) (mm_nl rfl)
      · skip
        refine mm_iload C dX3_need_42 6 rfl ?_
        refine mm_iconst (v := 0) C dX3_need_44 (by decide) ?_
        refine mm_bipush (v := 20) C dX3_need_45 (by decide) ?_
        refine mm_riS C ss_X3_X3_between_59 (kX3_between _ _ _ x 0 20 (b_btw x 0 20) rfl) ⟨rfl, rfl⟩ ⟨mm_nl rfl, mm_nl rfl⟩ rfl rfl (mm_nl rfl) ⟨mm_nl rfl, mm_nl rfl⟩ dX3_need_47 ?_
        refine mm_ifb_ne (tgt := 57) C dX3_need_50 (by decide) (fun c50 => ?_) (fun c50 => ?_)
        · skip
          refine mm_iconst (v := 0) C dX3_need_57 (by decide) ?_
          refine mm_istore (lv' := [(7, .int 0), (6, .int 1), (0, .ref 18), (1, .int a), (2, .int b), (3, .int e), (4, .int h), (5, .int x)]) C dX3_need_58 hnL (by decide) rfl ?_
          refine mm_aload_n C dX3_need_60 rfl 2 rfl ?_
          refine mm_iload C dX3_need_61 1 rfl ?_
          refine mm_iload C dX3_need_63 0 rfl ?_
          refine mm_aload_n C dX3_need_65 rfl 2 rfl ?_
          refine mm_get C 18 4 (fun w h => mm_wc (inX3 w h)) rfl rfl (by decide) (mm_wc tw471) rfl rfl dX3_need_66 ?_
          refine mm_sipush (v := 200) C dX3_need_69 (by decide) ?_
          refine mm_icmp_ne (tgt := 79) C dX3_need_72 (by decide) (fun c72 => ?_) (fun c72 => ?_)
          · skip
            refine mm_iconst (v := 0) C dX3_need_79 (by decide) ?_
            refine mm_iconst (v := 0) C dX3_need_80 (by decide) ?_
            refine mm_riV C 18 sv_X3_X3_throwing_70 rfl rfl (kX3_throwing _ _ U u _ ck cw F true false false false) ⟨rfl, rfl⟩ ⟨mm_nl rfl, mm_nl rfl⟩ rfl rfl (mm_nl rfl) ⟨mm_nl rfl, mm_nl rfl⟩ dX3_need_81 ?_
            refine mm_if_eq (tgt := 88) C dX3_need_84 (by decide) (fun z => absurd z (by decide)) (fun _ => ?_)
            exact mm_vret C K dX3_need_87 (by
                have ho : o_need u a b e h x = .inl x_ia := by simp [o_need, ite_btw, e_200 hI, c5, c29, c39, c50, c72]
                exact ⟨rfl, by rw [ho, cd_need_1]; rfl⟩) rfl (mm_nl rfl) (mm_nl rfl)
          · skip
            refine mm_iconst (v := 1) C dX3_need_75 (by decide) ?_
            refine mm_goto (tgt := 80) C dX3_need_76 (by decide) ?_
            refine mm_iconst (v := 0) C dX3_need_80 (by decide) ?_
            refine mm_riV C 18 sv_X3_X3_throwing_70 rfl rfl (kX3_throwing _ _ U u _ ck cw F true false true false) ⟨rfl, rfl⟩ ⟨mm_nl rfl, mm_nl rfl⟩ rfl rfl (mm_nl rfl) ⟨mm_nl rfl, mm_nl rfl⟩ dX3_need_81 ?_
            refine mm_if_eq (tgt := 88) C dX3_need_84 (by decide) (fun z => absurd z (by decide)) (fun _ => ?_)
            exact mm_vret C K dX3_need_87 (by
                have ho : o_need u a b e h x = .inl x_ia := by simp [o_need, ite_btw, e_200 hI, c5, c29, c39, c50, eq_true c72]
                exact ⟨rfl, by rw [ho, cd_need_1]; rfl⟩) rfl (mm_nl rfl) (mm_nl rfl)
        · skip
          refine mm_iconst (v := 1) C dX3_need_53 (by decide) ?_
          refine mm_goto (tgt := 58) C dX3_need_54 (by decide) ?_
          refine mm_istore (lv' := [(7, .int 1), (6, .int 1), (0, .ref 18), (1, .int a), (2, .int b), (3, .int e), (4, .int h), (5, .int x)]) C dX3_need_58 hnL (by decide) rfl ?_
          refine mm_aload_n C dX3_need_60 rfl 2 rfl ?_
          refine mm_iload C dX3_need_61 1 rfl ?_
          refine mm_iload C dX3_need_63 0 rfl ?_
          refine mm_aload_n C dX3_need_65 rfl 2 rfl ?_
          refine mm_get C 18 4 (fun w h => mm_wc (inX3 w h)) rfl rfl (by decide) (mm_wc tw471) rfl rfl dX3_need_66 ?_
          refine mm_sipush (v := 200) C dX3_need_69 (by decide) ?_
          refine mm_icmp_ne (tgt := 79) C dX3_need_72 (by decide) (fun c72 => ?_) (fun c72 => ?_)
          · skip
            refine mm_iconst (v := 0) C dX3_need_79 (by decide) ?_
            refine mm_iconst (v := 0) C dX3_need_80 (by decide) ?_
            refine mm_riV C 18 sv_X3_X3_throwing_70 rfl rfl (kX3_throwing _ _ U u _ ck cw F true true false false) ⟨rfl, rfl⟩ ⟨mm_nl rfl, mm_nl rfl⟩ rfl rfl (mm_nl rfl) ⟨mm_nl rfl, mm_nl rfl⟩ dX3_need_81 ?_
            refine mm_if_eq (tgt := 88) C dX3_need_84 (by decide) (fun z => absurd z (by decide)) (fun _ => ?_)
            exact mm_vret C K dX3_need_87 (by
                have ho : o_need u a b e h x = .inl x_ia := by simp [o_need, ite_btw, e_200 hI, c5, c29, c39, c50, c72]
                exact ⟨rfl, by rw [ho, cd_need_1]; rfl⟩) rfl (mm_nl rfl) (mm_nl rfl)
          · skip
            refine mm_iconst (v := 1) C dX3_need_75 (by decide) ?_
            refine mm_goto (tgt := 80) C dX3_need_76 (by decide) ?_
            refine mm_iconst (v := 0) C dX3_need_80 (by decide) ?_
            refine mm_riV C 18 sv_X3_X3_throwing_70 rfl rfl (kX3_throwing _ _ U u _ ck cw F true true true false) ⟨rfl, rfl⟩ ⟨mm_nl rfl, mm_nl rfl⟩ rfl rfl (mm_nl rfl) ⟨mm_nl rfl, mm_nl rfl⟩ dX3_need_81 ?_
            refine mm_if_eq (tgt := 88) C dX3_need_84 (by decide) (fun z => absurd z (by decide)) (fun _ => ?_)
            exact mm_vret C K dX3_need_87 (by
                have ho : o_need u a b e h x = .inl x_ia := by simp [o_need, ite_btw, e_200 hI, c5, c29, c39, c50, eq_true c72]
                exact ⟨rfl, by rw [ho, cd_need_1]; rfl⟩) rfl (mm_nl rfl) (mm_nl rfl)
  · skip
    refine mm_iload_n C dX3_need_8 rfl 2 rfl ?_
    refine mm_iconst (v := 0) C dX3_need_9 (by decide) ?_
    refine mm_bipush (v := 15) C dX3_need_10 (by decide) ?_
    refine mm_riS C ss_X3_X3_between_59 (kX3_between _ _ _ b 0 15 (b_below b 16) (bw_below (by decide))) ⟨rfl, rfl⟩ ⟨mm_nl rfl, mm_nl rfl⟩ rfl rfl (mm_nl rfl) ⟨mm_nl rfl, mm_nl rfl⟩ dX3_need_12 ?_
    refine mm_ifb_ne (tgt := 22) C dX3_need_15 (by decide) (fun c15 => ?_) (fun c15 => ?_)
    · skip
      refine mm_iconst (v := 0) C dX3_need_22 (by decide) ?_
      refine mm_istore (lv' := [(6, .int 0), (0, .ref 18), (1, .int a), (2, .int b), (3, .int e), (4, .int h), (5, .int x)]) C dX3_need_23 hnL (by decide) rfl ?_
      refine mm_iload_n C dX3_need_25 rfl 4 rfl ?_
      refine mm_riS C ss_X3_X3_isDay_81 (kX3_isDay _ _ _ e) ⟨rfl, rfl⟩ ⟨mm_nl rfl, mm_nl rfl⟩ rfl rfl (mm_nl rfl) ⟨mm_nl rfl, mm_nl rfl⟩ dX3_need_26 ?_
      refine mm_ifb_eq (tgt := 53) C dX3_need_29 (by decide) (fun c29 => ?_) (fun c29 => ?_)
      · skip
        refine mm_iconst (v := 1) C dX3_need_53 (by decide) ?_
        refine mm_goto (tgt := 58) C dX3_need_54 (by decide) ?_
        refine mm_istore (lv' := [(7, .int 1), (6, .int 0), (0, .ref 18), (1, .int a), (2, .int b), (3, .int e), (4, .int h), (5, .int x)]) C dX3_need_58 hnL (by decide) rfl ?_
        refine mm_aload_n C dX3_need_60 rfl 2 rfl ?_
        refine mm_iload C dX3_need_61 1 rfl ?_
        refine mm_iload C dX3_need_63 0 rfl ?_
        refine mm_aload_n C dX3_need_65 rfl 2 rfl ?_
        refine mm_get C 18 4 (fun w h => mm_wc (inX3 w h)) rfl rfl (by decide) (mm_wc tw471) rfl rfl dX3_need_66 ?_
        refine mm_sipush (v := 200) C dX3_need_69 (by decide) ?_
        refine mm_icmp_ne (tgt := 79) C dX3_need_72 (by decide) (fun c72 => ?_) (fun c72 => ?_)
        · skip
          refine mm_iconst (v := 0) C dX3_need_79 (by decide) ?_
          refine mm_iconst (v := 0) C dX3_need_80 (by decide) ?_
          refine mm_riV C 18 sv_X3_X3_throwing_70 rfl rfl (kX3_throwing _ _ U u _ ck cw F false true false false) ⟨rfl, rfl⟩ ⟨mm_nl rfl, mm_nl rfl⟩ rfl rfl (mm_nl rfl) ⟨mm_nl rfl, mm_nl rfl⟩ dX3_need_81 ?_
          refine mm_if_eq (tgt := 88) C dX3_need_84 (by decide) (fun z => absurd z (by decide)) (fun _ => ?_)
          exact mm_vret C K dX3_need_87 (by
                have ho : o_need u a b e h x = .inl x_io := by simp [o_need, ite_btw, e_200 hI, c5, c15, c29, c72]
                exact ⟨rfl, by rw [ho, cd_need_2]; rfl⟩) rfl (mm_nl rfl) (mm_nl rfl)
        · skip
          refine mm_iconst (v := 1) C dX3_need_75 (by decide) ?_
          refine mm_goto (tgt := 80) C dX3_need_76 (by decide) ?_
          refine mm_iconst (v := 0) C dX3_need_80 (by decide) ?_
          refine mm_riV C 18 sv_X3_X3_throwing_70 rfl rfl (kX3_throwing _ _ U u _ ck cw F false true true false) ⟨rfl, rfl⟩ ⟨mm_nl rfl, mm_nl rfl⟩ rfl rfl (mm_nl rfl) ⟨mm_nl rfl, mm_nl rfl⟩ dX3_need_81 ?_
          refine mm_if_eq (tgt := 88) C dX3_need_84 (by decide) (fun z => absurd z (by decide)) (fun _ => ?_)
          exact mm_vret C K dX3_need_87 (by
                have ho : o_need u a b e h x = .inl x_io := by simp [o_need, ite_btw, e_200 hI, c5, c15, c29, eq_true c72]
                exact ⟨rfl, by rw [ho, cd_need_2]; rfl⟩) rfl (mm_nl rfl) (mm_nl rfl)
      · skip
        refine mm_iload C dX3_need_32 5 rfl ?_
        refine mm_iconst (v := 0) C dX3_need_34 (by decide) ?_
        refine mm_iconst (v := 2) C dX3_need_35 (by decide) ?_
        refine mm_riS C ss_X3_X3_between_59 (kX3_between _ _ _ h 0 2 (b_btw h 0 2) rfl) ⟨rfl, rfl⟩ ⟨mm_nl rfl, mm_nl rfl⟩ rfl rfl (mm_nl rfl) ⟨mm_nl rfl, mm_nl rfl⟩ dX3_need_36 ?_
        refine mm_ifb_eq (tgt := 53) C dX3_need_39 (by decide) (fun c39 => ?_) (fun c39 => ?_)
        · skip
          refine mm_iconst (v := 1) C dX3_need_53 (by decide) ?_
          refine mm_goto (tgt := 58) C dX3_need_54 (by decide) ?_
          refine mm_istore (lv' := [(7, .int 1), (6, .int 0), (0, .ref 18), (1, .int a), (2, .int b), (3, .int e), (4, .int h), (5, .int x)]) C dX3_need_58 hnL (by decide) rfl ?_
          refine mm_aload_n C dX3_need_60 rfl 2 rfl ?_
          refine mm_iload C dX3_need_61 1 rfl ?_
          refine mm_iload C dX3_need_63 0 rfl ?_
          refine mm_aload_n C dX3_need_65 rfl 2 rfl ?_
          refine mm_get C 18 4 (fun w h => mm_wc (inX3 w h)) rfl rfl (by decide) (mm_wc tw471) rfl rfl dX3_need_66 ?_
          refine mm_sipush (v := 200) C dX3_need_69 (by decide) ?_
          refine mm_icmp_ne (tgt := 79) C dX3_need_72 (by decide) (fun c72 => ?_) (fun c72 => ?_)
          · skip
            refine mm_iconst (v := 0) C dX3_need_79 (by decide) ?_
            refine mm_iconst (v := 0) C dX3_need_80 (by decide) ?_
            refine mm_riV C 18 sv_X3_X3_throwing_70 rfl rfl (kX3_throwing _ _ U u _ ck cw F false true false false) ⟨rfl, rfl⟩ ⟨mm_nl rfl, mm_nl rfl⟩ rfl rfl (mm_nl rfl) ⟨mm_nl rfl, mm_nl rfl⟩ dX3_need_81 ?_
            refine mm_if_eq (tgt := 88) C dX3_need_84 (by decide) (fun z => absurd z (by decide)) (fun _ => ?_)
            exact mm_vret C K dX3_need_87 (by
                have ho : o_need u a b e h x = .inl x_io := by simp [o_need, ite_btw, e_200 hI, c5, c15, c29, c39, c72]
                exact ⟨rfl, by rw [ho, cd_need_2]; rfl⟩) rfl (mm_nl rfl) (mm_nl rfl)
          · skip
            refine mm_iconst (v := 1) C dX3_need_75 (by decide) ?_
            refine mm_goto (tgt := 80) C dX3_need_76 (by decide) ?_
            refine mm_iconst (v := 0) C dX3_need_80 (by decide) ?_
            refine mm_riV C 18 sv_X3_X3_throwing_70 rfl rfl (kX3_throwing _ _ U u _ ck cw F false true true false) ⟨rfl, rfl⟩ ⟨mm_nl rfl, mm_nl rfl⟩ rfl rfl (mm_nl rfl) ⟨mm_nl rfl, mm_nl rfl⟩ dX3_need_81 ?_
            refine mm_if_eq (tgt := 88) C dX3_need_84 (by decide) (fun z => absurd z (by decide)) (fun _ => ?_)
            exact mm_vret C K dX3_need_87 (by
                have ho : o_need u a b e h x = .inl x_io := by simp [o_need, ite_btw, e_200 hI, c5, c15, c29, c39, eq_true c72]
                exact ⟨rfl, by rw [ho, cd_need_2]; rfl⟩) rfl (mm_nl rfl) (mm_nl rfl)
        · skip
          refine mm_iload C dX3_need_42 6 rfl ?_
          refine mm_iconst (v := 0) C dX3_need_44 (by decide) ?_
          refine mm_bipush (v := 20) C dX3_need_45 (by decide) ?_
          refine mm_riS C ss_X3_X3_between_59 (kX3_between _ _ _ x 0 20 (b_btw x 0 20) rfl) ⟨rfl, rfl⟩ ⟨mm_nl rfl, mm_nl rfl⟩ rfl rfl (mm_nl rfl) ⟨mm_nl rfl, mm_nl rfl⟩ dX3_need_47 ?_
          refine mm_ifb_ne (tgt := 57) C dX3_need_50 (by decide) (fun c50 => ?_) (fun c50 => ?_)
          · skip
            refine mm_iconst (v := 0) C dX3_need_57 (by decide) ?_
            refine mm_istore (lv' := [(7, .int 0), (6, .int 0), (0, .ref 18), (1, .int a), (2, .int b), (3, .int e), (4, .int h), (5, .int x)]) C dX3_need_58 hnL (by decide) rfl ?_
            refine mm_aload_n C dX3_need_60 rfl 2 rfl ?_
            refine mm_iload C dX3_need_61 1 rfl ?_
            refine mm_iload C dX3_need_63 0 rfl ?_
            refine mm_aload_n C dX3_need_65 rfl 2 rfl ?_
            refine mm_get C 18 4 (fun w h => mm_wc (inX3 w h)) rfl rfl (by decide) (mm_wc tw471) rfl rfl dX3_need_66 ?_
            refine mm_sipush (v := 200) C dX3_need_69 (by decide) ?_
            refine mm_icmp_ne (tgt := 79) C dX3_need_72 (by decide) (fun c72 => ?_) (fun c72 => ?_)
            · skip
              refine mm_iconst (v := 0) C dX3_need_79 (by decide) ?_
              refine mm_iconst (v := 0) C dX3_need_80 (by decide) ?_
              refine mm_riV C 18 sv_X3_X3_throwing_70 rfl rfl (kX3_throwing _ _ U u _ ck cw F false false false false) ⟨rfl, rfl⟩ ⟨mm_nl rfl, mm_nl rfl⟩ rfl rfl (mm_nl rfl) ⟨mm_nl rfl, mm_nl rfl⟩ dX3_need_81 ?_
              refine mm_if_eq (tgt := 88) C dX3_need_84 (by decide) (fun _ => ?_) (fun z => absurd z (by decide))
              refine mm_aload_n C dX3_need_88 rfl 2 rfl ?_
              refine mm_iload_n C dX3_need_89 rfl 3 rfl ?_
              refine mm_bipush (v := 10) C dX3_need_90 (by decide) ?_
              refine mm_iload_n C dX3_need_92 rfl 4 rfl ?_
              refine mm_iadd C dX3_need_93 ?_
              refine mm_iload_n C dX3_need_94 rfl 5 rfl ?_
              refine mm_iload C dX3_need_95 7 rfl ?_
              refine mm_iload C dX3_need_97 6 rfl ?_
              refine mm_rvV C 18 sv_X3_X3_change_88 rfl rfl (kX3_change _ _ U u _ ck cw F a (10 + b) e x h (4 + b) k c i hI (cs_lt hI (by rw [e_200 hI]; simp [c72]))) ⟨rfl, rfl⟩ ⟨mm_nl rfl, mm_nl rfl⟩ rfl rfl (mm_nl rfl) ⟨mm_nl rfl, mm_nl rfl⟩ dX3_need_99 ?_
              exact mm_vret C K dX3_need_102 (by
                have ho : o_need u a b e h x = .inr (none, ks_tell u a (4 + b) e h x) := by simp [o_need, ite_btw, e_200 hI, c5, c15, c29, c39, c50, c72]
                exact ⟨rfl, by rw [ho]; rfl⟩) rfl (mm_nl rfl) (mm_nl rfl)
            · skip
              refine mm_iconst (v := 1) C dX3_need_75 (by decide) ?_
              refine mm_goto (tgt := 80) C dX3_need_76 (by decide) ?_
              refine mm_iconst (v := 0) C dX3_need_80 (by decide) ?_
              refine mm_riV C 18 sv_X3_X3_throwing_70 rfl rfl (kX3_throwing _ _ U u _ ck cw F false false true false) ⟨rfl, rfl⟩ ⟨mm_nl rfl, mm_nl rfl⟩ rfl rfl (mm_nl rfl) ⟨mm_nl rfl, mm_nl rfl⟩ dX3_need_81 ?_
              refine mm_if_eq (tgt := 88) C dX3_need_84 (by decide) (fun z => absurd z (by decide)) (fun _ => ?_)
              exact mm_vret C K dX3_need_87 (by
                have ho : o_need u a b e h x = .inl x_uo := by simp [o_need, ite_btw, e_200 hI, c5, c15, c29, c39, c50, eq_true c72]
                exact ⟨rfl, by rw [ho, cd_need_3]; rfl⟩) rfl (mm_nl rfl) (mm_nl rfl)
          · skip
            refine mm_iconst (v := 1) C dX3_need_53 (by decide) ?_
            refine mm_goto (tgt := 58) C dX3_need_54 (by decide) ?_
            refine mm_istore (lv' := [(7, .int 1), (6, .int 0), (0, .ref 18), (1, .int a), (2, .int b), (3, .int e), (4, .int h), (5, .int x)]) C dX3_need_58 hnL (by decide) rfl ?_
            refine mm_aload_n C dX3_need_60 rfl 2 rfl ?_
            refine mm_iload C dX3_need_61 1 rfl ?_
            refine mm_iload C dX3_need_63 0 rfl ?_
            refine mm_aload_n C dX3_need_65 rfl 2 rfl ?_
            refine mm_get C 18 4 (fun w h => mm_wc (inX3 w h)) rfl rfl (by decide) (mm_wc tw471) rfl rfl dX3_need_66 ?_
            refine mm_sipush (v := 200) C dX3_need_69 (by decide) ?_
            refine mm_icmp_ne (tgt := 79) C dX3_need_72 (by decide) (fun c72 => ?_) (fun c72 => ?_)
            · skip
              refine mm_iconst (v := 0) C dX3_need_79 (by decide) ?_
              refine mm_iconst (v := 0) C dX3_need_80 (by decide) ?_
              refine mm_riV C 18 sv_X3_X3_throwing_70 rfl rfl (kX3_throwing _ _ U u _ ck cw F false true false false) ⟨rfl, rfl⟩ ⟨mm_nl rfl, mm_nl rfl⟩ rfl rfl (mm_nl rfl) ⟨mm_nl rfl, mm_nl rfl⟩ dX3_need_81 ?_
              refine mm_if_eq (tgt := 88) C dX3_need_84 (by decide) (fun z => absurd z (by decide)) (fun _ => ?_)
              exact mm_vret C K dX3_need_87 (by
                have ho : o_need u a b e h x = .inl x_io := by simp [o_need, ite_btw, e_200 hI, c5, c15, c29, c39, c50, c72]
                exact ⟨rfl, by rw [ho, cd_need_2]; rfl⟩) rfl (mm_nl rfl) (mm_nl rfl)
            · skip
              refine mm_iconst (v := 1) C dX3_need_75 (by decide) ?_
              refine mm_goto (tgt := 80) C dX3_need_76 (by decide) ?_
              refine mm_iconst (v := 0) C dX3_need_80 (by decide) ?_
              refine mm_riV C 18 sv_X3_X3_throwing_70 rfl rfl (kX3_throwing _ _ U u _ ck cw F false true true false) ⟨rfl, rfl⟩ ⟨mm_nl rfl, mm_nl rfl⟩ rfl rfl (mm_nl rfl) ⟨mm_nl rfl, mm_nl rfl⟩ dX3_need_81 ?_
              refine mm_if_eq (tgt := 88) C dX3_need_84 (by decide) (fun z => absurd z (by decide)) (fun _ => ?_)
              exact mm_vret C K dX3_need_87 (by
                have ho : o_need u a b e h x = .inl x_io := by simp [o_need, ite_btw, e_200 hI, c5, c15, c29, c39, c50, eq_true c72]
                exact ⟨rfl, by rw [ho, cd_need_2]; rfl⟩) rfl (mm_nl rfl) (mm_nl rfl)
    · skip
      refine mm_iconst (v := 1) C dX3_need_18 (by decide) ?_
      refine mm_goto (tgt := 23) C dX3_need_19 (by decide) ?_
      refine mm_istore (lv' := [(6, .int 1), (0, .ref 18), (1, .int a), (2, .int b), (3, .int e), (4, .int h), (5, .int x)]) C dX3_need_23 hnL (by decide) rfl ?_
      refine mm_iload_n C dX3_need_25 rfl 4 rfl ?_
      refine mm_riS C ss_X3_X3_isDay_81 (kX3_isDay _ _ _ e) ⟨rfl, rfl⟩ ⟨mm_nl rfl, mm_nl rfl⟩ rfl rfl (mm_nl rfl) ⟨mm_nl rfl, mm_nl rfl⟩ dX3_need_26 ?_
      refine mm_ifb_eq (tgt := 53) C dX3_need_29 (by decide) (fun c29 => ?_) (fun c29 => ?_)
      · skip
        refine mm_iconst (v := 1) C dX3_need_53 (by decide) ?_
        refine mm_goto (tgt := 58) C dX3_need_54 (by decide) ?_
        refine mm_istore (lv' := [(7, .int 1), (6, .int 1), (0, .ref 18), (1, .int a), (2, .int b), (3, .int e), (4, .int h), (5, .int x)]) C dX3_need_58 hnL (by decide) rfl ?_
        refine mm_aload_n C dX3_need_60 rfl 2 rfl ?_
        refine mm_iload C dX3_need_61 1 rfl ?_
        refine mm_iload C dX3_need_63 0 rfl ?_
        refine mm_aload_n C dX3_need_65 rfl 2 rfl ?_
        refine mm_get C 18 4 (fun w h => mm_wc (inX3 w h)) rfl rfl (by decide) (mm_wc tw471) rfl rfl dX3_need_66 ?_
        refine mm_sipush (v := 200) C dX3_need_69 (by decide) ?_
        refine mm_icmp_ne (tgt := 79) C dX3_need_72 (by decide) (fun c72 => ?_) (fun c72 => ?_)
        · skip
          refine mm_iconst (v := 0) C dX3_need_79 (by decide) ?_
          refine mm_iconst (v := 0) C dX3_need_80 (by decide) ?_
          refine mm_riV C 18 sv_X3_X3_throwing_70 rfl rfl (kX3_throwing _ _ U u _ ck cw F true true false false) ⟨rfl, rfl⟩ ⟨mm_nl rfl, mm_nl rfl⟩ rfl rfl (mm_nl rfl) ⟨mm_nl rfl, mm_nl rfl⟩ dX3_need_81 ?_
          refine mm_if_eq (tgt := 88) C dX3_need_84 (by decide) (fun z => absurd z (by decide)) (fun _ => ?_)
          exact mm_vret C K dX3_need_87 (by
                have ho : o_need u a b e h x = .inl x_ia := by simp [o_need, ite_btw, e_200 hI, c5, c15, c29, c72]
                exact ⟨rfl, by rw [ho, cd_need_1]; rfl⟩) rfl (mm_nl rfl) (mm_nl rfl)
        · skip
          refine mm_iconst (v := 1) C dX3_need_75 (by decide) ?_
          refine mm_goto (tgt := 80) C dX3_need_76 (by decide) ?_
          refine mm_iconst (v := 0) C dX3_need_80 (by decide) ?_
          refine mm_riV C 18 sv_X3_X3_throwing_70 rfl rfl (kX3_throwing _ _ U u _ ck cw F true true true false) ⟨rfl, rfl⟩ ⟨mm_nl rfl, mm_nl rfl⟩ rfl rfl (mm_nl rfl) ⟨mm_nl rfl, mm_nl rfl⟩ dX3_need_81 ?_
          refine mm_if_eq (tgt := 88) C dX3_need_84 (by decide) (fun z => absurd z (by decide)) (fun _ => ?_)
          exact mm_vret C K dX3_need_87 (by
                have ho : o_need u a b e h x = .inl x_ia := by simp [o_need, ite_btw, e_200 hI, c5, c15, c29, eq_true c72]
                exact ⟨rfl, by rw [ho, cd_need_1]; rfl⟩) rfl (mm_nl rfl) (mm_nl rfl)
      · skip
        refine mm_iload C dX3_need_32 5 rfl ?_
        refine mm_iconst (v := 0) C dX3_need_34 (by decide) ?_
        refine mm_iconst (v := 2) C dX3_need_35 (by decide) ?_
        refine mm_riS C ss_X3_X3_between_59 (kX3_between _ _ _ h 0 2 (b_btw h 0 2) rfl) ⟨rfl, rfl⟩ ⟨mm_nl rfl, mm_nl rfl⟩ rfl rfl (mm_nl rfl) ⟨mm_nl rfl, mm_nl rfl⟩ dX3_need_36 ?_
        refine mm_ifb_eq (tgt := 53) C dX3_need_39 (by decide) (fun c39 => ?_) (fun c39 => ?_)
        · skip
          refine mm_iconst (v := 1) C dX3_need_53 (by decide) ?_
          refine mm_goto (tgt := 58) C dX3_need_54 (by decide) ?_
          refine mm_istore (lv' := [(7, .int 1), (6, .int 1), (0, .ref 18), (1, .int a), (2, .int b), (3, .int e), (4, .int h), (5, .int x)]) C dX3_need_58 hnL (by decide) rfl ?_
          refine mm_aload_n C dX3_need_60 rfl 2 rfl ?_
          refine mm_iload C dX3_need_61 1 rfl ?_
          refine mm_iload C dX3_need_63 0 rfl ?_
          refine mm_aload_n C dX3_need_65 rfl 2 rfl ?_
          refine mm_get C 18 4 (fun w h => mm_wc (inX3 w h)) rfl rfl (by decide) (mm_wc tw471) rfl rfl dX3_need_66 ?_
          refine mm_sipush (v := 200) C dX3_need_69 (by decide) ?_
          refine mm_icmp_ne (tgt := 79) C dX3_need_72 (by decide) (fun c72 => ?_) (fun c72 => ?_)
          · skip
            refine mm_iconst (v := 0) C dX3_need_79 (by decide) ?_
            refine mm_iconst (v := 0) C dX3_need_80 (by decide) ?_
            refine mm_riV C 18 sv_X3_X3_throwing_70 rfl rfl (kX3_throwing _ _ U u _ ck cw F true true false false) ⟨rfl, rfl⟩ ⟨mm_nl rfl, mm_nl rfl⟩ rfl rfl (mm_nl rfl) ⟨mm_nl rfl, mm_nl rfl⟩ dX3_need_81 ?_
            refine mm_if_eq (tgt := 88) C dX3_need_84 (by decide) (fun z => absurd z (by decide)) (fun _ => ?_)
            exact mm_vret C K dX3_need_87 (by
                have ho : o_need u a b e h x = .inl x_ia := by simp [o_need, ite_btw, e_200 hI, c5, c15, c29, c39, c72]
                exact ⟨rfl, by rw [ho, cd_need_1]; rfl⟩) rfl (mm_nl rfl) (mm_nl rfl)
          · skip
            refine mm_iconst (v := 1) C dX3_need_75 (by decide) ?_
            refine mm_goto (tgt := 80) C dX3_need_76 (by decide) ?_
            refine mm_iconst (v := 0) C dX3_need_80 (by decide) ?_
            refine mm_riV C 18 sv_X3_X3_throwing_70 rfl rfl (kX3_throwing _ _ U u _ ck cw F true true true false) ⟨rfl, rfl⟩ ⟨mm_nl rfl, mm_nl rfl⟩ rfl rfl (mm_nl rfl) ⟨mm_nl rfl, mm_nl rfl⟩ dX3_need_81 ?_
            refine mm_if_eq (tgt := 88) C dX3_need_84 (by decide) (fun z => absurd z (by decide)) (fun _ => ?_)
            exact mm_vret C K dX3_need_87 (by
                have ho : o_need u a b e h x = .inl x_ia := by simp [o_need, ite_btw, e_200 hI, c5, c15, c29, c39, eq_true c72]
                exact ⟨rfl, by rw [ho, cd_need_1]; rfl⟩) rfl (mm_nl rfl) (mm_nl rfl)
        · skip
          refine mm_iload C dX3_need_42 6 rfl ?_
          refine mm_iconst (v := 0) C dX3_need_44 (by decide) ?_
          refine mm_bipush (v := 20) C dX3_need_45 (by decide) ?_
          refine mm_riS C ss_X3_X3_between_59 (kX3_between _ _ _ x 0 20 (b_btw x 0 20) rfl) ⟨rfl, rfl⟩ ⟨mm_nl rfl, mm_nl rfl⟩ rfl rfl (mm_nl rfl) ⟨mm_nl rfl, mm_nl rfl⟩ dX3_need_47 ?_
          refine mm_ifb_ne (tgt := 57) C dX3_need_50 (by decide) (fun c50 => ?_) (fun c50 => ?_)
          · skip
            refine mm_iconst (v := 0) C dX3_need_57 (by decide) ?_
            refine mm_istore (lv' := [(7, .int 0), (6, .int 1), (0, .ref 18), (1, .int a), (2, .int b), (3, .int e), (4, .int h), (5, .int x)]) C dX3_need_58 hnL (by decide) rfl ?_
            refine mm_aload_n C dX3_need_60 rfl 2 rfl ?_
            refine mm_iload C dX3_need_61 1 rfl ?_
            refine mm_iload C dX3_need_63 0 rfl ?_
            refine mm_aload_n C dX3_need_65 rfl 2 rfl ?_
            refine mm_get C 18 4 (fun w h => mm_wc (inX3 w h)) rfl rfl (by decide) (mm_wc tw471) rfl rfl dX3_need_66 ?_
            refine mm_sipush (v := 200) C dX3_need_69 (by decide) ?_
            refine mm_icmp_ne (tgt := 79) C dX3_need_72 (by decide) (fun c72 => ?_) (fun c72 => ?_)
            · skip
              refine mm_iconst (v := 0) C dX3_need_79 (by decide) ?_
              refine mm_iconst (v := 0) C dX3_need_80 (by decide) ?_
              refine mm_riV C 18 sv_X3_X3_throwing_70 rfl rfl (kX3_throwing _ _ U u _ ck cw F true false false false) ⟨rfl, rfl⟩ ⟨mm_nl rfl, mm_nl rfl⟩ rfl rfl (mm_nl rfl) ⟨mm_nl rfl, mm_nl rfl⟩ dX3_need_81 ?_
              refine mm_if_eq (tgt := 88) C dX3_need_84 (by decide) (fun z => absurd z (by decide)) (fun _ => ?_)
              exact mm_vret C K dX3_need_87 (by
                have ho : o_need u a b e h x = .inl x_ia := by simp [o_need, ite_btw, e_200 hI, c5, c15, c29, c39, c50, c72]
                exact ⟨rfl, by rw [ho, cd_need_1]; rfl⟩) rfl (mm_nl rfl) (mm_nl rfl)
            · skip
              refine mm_iconst (v := 1) C dX3_need_75 (by decide) ?_
              refine mm_goto (tgt := 80) C dX3_need_76 (by decide) ?_
              refine mm_iconst (v := 0) C dX3_need_80 (by decide) ?_
              refine mm_riV C 18 sv_X3_X3_throwing_70 rfl rfl (kX3_throwing _ _ U u _ ck cw F true false true false) ⟨rfl, rfl⟩ ⟨mm_nl rfl, mm_nl rfl⟩ rfl rfl (mm_nl rfl) ⟨mm_nl rfl, mm_nl rfl⟩ dX3_need_81 ?_
              refine mm_if_eq (tgt := 88) C dX3_need_84 (by decide) (fun z => absurd z (by decide)) (fun _ => ?_)
              exact mm_vret C K dX3_need_87 (by
                have ho : o_need u a b e h x = .inl x_ia := by simp [o_need, ite_btw, e_200 hI, c5, c15, c29, c39, c50, eq_true c72]
                exact ⟨rfl, by rw [ho, cd_need_1]; rfl⟩) rfl (mm_nl rfl) (mm_nl rfl)
          · skip
            refine mm_iconst (v := 1) C dX3_need_53 (by decide) ?_
            refine mm_goto (tgt := 58) C dX3_need_54 (by decide) ?_
            refine mm_istore (lv' := [(7, .int 1), (6, .int 1), (0, .ref 18), (1, .int a), (2, .int b), (3, .int e), (4, .int h), (5, .int x)]) C dX3_need_58 hnL (by decide) rfl ?_
            refine mm_aload_n C dX3_need_60 rfl 2 rfl ?_
            refine mm_iload C dX3_need_61 1 rfl ?_
            refine mm_iload C dX3_need_63 0 rfl ?_
            refine mm_aload_n C dX3_need_65 rfl 2 rfl ?_
            refine mm_get C 18 4 (fun w h => mm_wc (inX3 w h)) rfl rfl (by decide) (mm_wc tw471) rfl rfl dX3_need_66 ?_
            refine mm_sipush (v := 200) C dX3_need_69 (by decide) ?_
            refine mm_icmp_ne (tgt := 79) C dX3_need_72 (by decide) (fun c72 => ?_) (fun c72 => ?_)
            · skip
              refine mm_iconst (v := 0) C dX3_need_79 (by decide) ?_
              refine mm_iconst (v := 0) C dX3_need_80 (by decide) ?_
              refine mm_riV C 18 sv_X3_X3_throwing_70 rfl rfl (kX3_throwing _ _ U u _ ck cw F true true false false) ⟨rfl, rfl⟩ ⟨mm_nl rfl, mm_nl rfl⟩ rfl rfl (mm_nl rfl) ⟨mm_nl rfl, mm_nl rfl⟩ dX3_need_81 ?_
              refine mm_if_eq (tgt := 88) C dX3_need_84 (by decide) (fun z => absurd z (by decide)) (fun _ => ?_)
              exact mm_vret C K dX3_need_87 (by
                have ho : o_need u a b e h x = .inl x_ia := by simp [o_need, ite_btw, e_200 hI, c5, c15, c29, c39, c50, c72]
                exact ⟨rfl, by rw [ho, cd_need_1]; rfl⟩) rfl (mm_nl rfl) (mm_nl rfl)
            · skip
              refine mm_iconst (v := 1) C dX3_need_75 (by decide) ?_
              refine mm_goto (tgt := 80) C dX3_need_76 (by decide) ?_
              refine mm_iconst (v := 0) C dX3_need_80 (by decide) ?_
              refine mm_riV C 18 sv_X3_X3_throwing_70 rfl rfl (kX3_throwing _ _ U u _ ck cw F true true true false) ⟨rfl, rfl⟩ ⟨mm_nl rfl, mm_nl rfl⟩ rfl rfl (mm_nl rfl) ⟨mm_nl rfl, mm_nl rfl⟩ dX3_need_81 ?_
              refine mm_if_eq (tgt := 88) C dX3_need_84 (by decide) (fun z => absurd z (by decide)) (fun _ => ?_)
              exact mm_vret C K dX3_need_87 (by
                have ho : o_need u a b e h x = .inl x_ia := by simp [o_need, ite_btw, e_200 hI, c5, c15, c29, c39, c50, eq_true c72]
                exact ⟨rfl, by rw [ho, cd_need_1]; rfl⟩) rfl (mm_nl rfl) (mm_nl rfl)
set_option maxHeartbeats 4000000 in
set_option maxRecDepth 100000 in
theorem kX3_close (l : Launch) (D : va_G) (U u : ks_S) (t : Int32) (ck cw : Nat → Int32) (F : List mm_c) (a b : Int32) (k c i : Nat) (J : ms_I u ck cw k c i) : mm_Wr l D yX3_close (mm_cw yX3_close cX3_close 3 none) (mm_rm 3) [.ref 18, .int a, .int b] (ks_H U (ms_H u t ck cw F)) (none) (ks_H U (ms_H (m_us u (o_close u a b)) (m_cd l_close (o_close u a b)) ck cw F)) := by
  refine mm_start (own := RX3) (by decide) rfl rfl (mm_nl rfl) (fun _ => rfl) (fun _ => rfl) (fun g ad hl hD hnL C K => ?_)
  subst hl
  subst hD
  have J0 := J
  obtain ⟨hI, wP, wA, wA0, hta, htu, hct, hko, hcl, hhv, hw4, htb, hn1, hn2⟩ := J
  show mm_M g ad 0 0 (ks_H U (ms_H u t ck cw F)) 0 [(0, .ref 18), (1, .int a), (2, .int b)] []
  refine mm_aload_n C dX3_close_0 rfl 0 rfl ?_
  refine mm_aload_n C dX3_close_1 rfl 0 rfl ?_
  refine mm_iload_n C dX3_close_2 rfl 1 rfl ?_
  refine mm_riV C 18 sv_X3_X3_isKind_66 rfl rfl (kX3_isKind _ _ U u _ ck cw F a k c i hI) ⟨rfl, rfl⟩ ⟨mm_nl rfl, mm_nl rfl⟩ rfl rfl (mm_nl rfl) ⟨mm_nl rfl, mm_nl rfl⟩ dX3_close_3 ?_
  refine mm_ifb_ne (tgt := 13) C dX3_close_6 (by decide) (fun c6 => ?_) (fun c6 => ?_)
  · skip
    refine mm_iconst (v := 0) C dX3_close_13 (by decide) ?_
    refine mm_iload_n C dX3_close_14 rfl 2 rfl ?_
    refine mm_iconst (v := (-1)) C dX3_close_15 (by decide) ?_
    refine mm_sipush (v := 9999) C dX3_close_16 (by decide) ?_
    refine mm_riS C ss_X3_X3_between_59 (kX3_between _ _ _ b (-1) 9999 (b_btw b (-1) 9999) rfl) ⟨rfl, rfl⟩ ⟨mm_nl rfl, mm_nl rfl⟩ rfl rfl (mm_nl rfl) ⟨mm_nl rfl, mm_nl rfl⟩ dX3_close_19 ?_
    refine mm_ifb_ne (tgt := 29) C dX3_close_22 (by decide) (fun c22 => ?_) (fun c22 => ?_)
    · skip
      refine mm_iconst (v := 0) C dX3_close_29 (by decide) ?_
      refine mm_iconst (v := 0) C dX3_close_30 (by decide) ?_
      refine mm_iconst (v := 0) C dX3_close_31 (by decide) ?_
      refine mm_riV C 18 sv_X3_X3_throwing_70 rfl rfl (kX3_throwing _ _ U u _ ck cw F false false false false) ⟨rfl, rfl⟩ ⟨mm_nl rfl, mm_nl rfl⟩ rfl rfl (mm_nl rfl) ⟨mm_nl rfl, mm_nl rfl⟩ dX3_close_32 ?_
      refine mm_if_eq (tgt := 39) C dX3_close_35 (by decide) (fun _ => ?_) (fun z => absurd z (by decide))
      refine mm_aload_n C dX3_close_39 rfl 0 rfl ?_
      refine mm_get C 18 3 (fun w h => mm_wc (inX3 w h)) rfl rfl (by decide) (mm_wc tw470) rfl rfl dX3_close_40 ?_
      refine mm_iload_n C dX3_close_43 rfl 1 rfl ?_
      refine mm_iload_n C dX3_close_44 rfl 2 rfl ?_
      refine mm_iast C 20 rfl (ix_b hI.k40 c6) dX3_close_45 ?_
      exact mm_vret C K dX3_close_46 (by
                have ho : o_close u a b = .inr (none, (k_kn u, k_pa u, upd (k_cl u) a.toNatClampNeg b, k_nw u, k_tb u, k_dy u, k_hw u, k_vl u, k_cs u, k_ta u, k_ts u, k_tu u, k_us u, k_inn u, k_ko u, k_ao u, k_be u, k_se u, k_sk u)) := by simp [o_close, ite_cl, c6, c22]
                exact ⟨rfl, by rw [ho]; rfl⟩) rfl (mm_nl rfl) (mm_nl rfl)
    · skip
      refine mm_iconst (v := 1) C dX3_close_25 (by decide) ?_
      refine mm_goto (tgt := 30) C dX3_close_26 (by decide) ?_
      refine mm_iconst (v := 0) C dX3_close_30 (by decide) ?_
      refine mm_iconst (v := 0) C dX3_close_31 (by decide) ?_
      refine mm_riV C 18 sv_X3_X3_throwing_70 rfl rfl (kX3_throwing _ _ U u _ ck cw F false true false false) ⟨rfl, rfl⟩ ⟨mm_nl rfl, mm_nl rfl⟩ rfl rfl (mm_nl rfl) ⟨mm_nl rfl, mm_nl rfl⟩ dX3_close_32 ?_
      refine mm_if_eq (tgt := 39) C dX3_close_35 (by decide) (fun z => absurd z (by decide)) (fun _ => ?_)
      exact mm_vret C K dX3_close_38 (by
                have ho : o_close u a b = .inl x_io := by simp [o_close, ite_cl, c6, c22]
                exact ⟨rfl, by rw [ho, cd_close_2]; rfl⟩) rfl (mm_nl rfl) (mm_nl rfl)
  · skip
    refine mm_iconst (v := 1) C dX3_close_9 (by decide) ?_
    refine mm_goto (tgt := 14) C dX3_close_10 (by decide) ?_
    refine mm_iload_n C dX3_close_14 rfl 2 rfl ?_
    refine mm_iconst (v := (-1)) C dX3_close_15 (by decide) ?_
    refine mm_sipush (v := 9999) C dX3_close_16 (by decide) ?_
    refine mm_riS C ss_X3_X3_between_59 (kX3_between _ _ _ b (-1) 9999 (b_btw b (-1) 9999) rfl) ⟨rfl, rfl⟩ ⟨mm_nl rfl, mm_nl rfl⟩ rfl rfl (mm_nl rfl) ⟨mm_nl rfl, mm_nl rfl⟩ dX3_close_19 ?_
    refine mm_ifb_ne (tgt := 29) C dX3_close_22 (by decide) (fun c22 => ?_) (fun c22 => ?_)
    · skip
      refine mm_iconst (v := 0) C dX3_close_29 (by decide) ?_
      refine mm_iconst (v := 0) C dX3_close_30 (by decide) ?_
      refine mm_iconst (v := 0) C dX3_close_31 (by decide) ?_
      refine mm_riV C 18 sv_X3_X3_throwing_70 rfl rfl (kX3_throwing _ _ U u _ ck cw F true false false false) ⟨rfl, rfl⟩ ⟨mm_nl rfl, mm_nl rfl⟩ rfl rfl (mm_nl rfl) ⟨mm_nl rfl, mm_nl rfl⟩ dX3_close_32 ?_
      refine mm_if_eq (tgt := 39) C dX3_close_35 (by decide) (fun z => absurd z (by decide)) (fun _ => ?_)
      exact mm_vret C K dX3_close_38 (by
                have ho : o_close u a b = .inl x_ia := by simp [o_close, ite_cl, c6, c22]
                exact ⟨rfl, by rw [ho, cd_close_1]; rfl⟩) rfl (mm_nl rfl) (mm_nl rfl)
    · skip
      refine mm_iconst (v := 1) C dX3_close_25 (by decide) ?_
      refine mm_goto (tgt := 30) C dX3_close_26 (by decide) ?_
      refine mm_iconst (v := 0) C dX3_close_30 (by decide) ?_
      refine mm_iconst (v := 0) C dX3_close_31 (by decide) ?_
      refine mm_riV C 18 sv_X3_X3_throwing_70 rfl rfl (kX3_throwing _ _ U u _ ck cw F true true false false) ⟨rfl, rfl⟩ ⟨mm_nl rfl, mm_nl rfl⟩ rfl rfl (mm_nl rfl) ⟨mm_nl rfl, mm_nl rfl⟩ dX3_close_32 ?_
      refine mm_if_eq (tgt := 39) C dX3_close_35 (by decide) (fun z => absurd z (by decide)) (fun _ => ?_)
      exact mm_vret C K dX3_close_38 (by
                have ho : o_close u a b = .inl x_ia := by simp [o_close, ite_cl, c6, c22]
                exact ⟨rfl, by rw [ho, cd_close_1]; rfl⟩) rfl (mm_nl rfl) (mm_nl rfl)
set_option maxHeartbeats 4000000 in
set_option maxRecDepth 100000 in
theorem kX3_in (l : Launch) (D : va_G) (U u : ks_S) (t : Int32) (ck cw : Nat → Int32) (F : List mm_c) (a b : Int32) (k c i : Nat) (J : ms_I u ck cw k c i) : mm_Wr l D yX3_in (mm_cw yX3_in cX3_in 3 (some .int)) (mm_rm 3) [.ref 18, .int a, .int b] (ks_H U (ms_H u t ck cw F)) (some (.int (m_an (o_in u a b)))) (ks_H U (ms_H (m_us u (o_in u a b)) (m_cd l_in (o_in u a b)) ck cw F)) := by
  refine mm_start (own := RX3) (by decide) rfl rfl (mm_nl rfl) (fun _ => rfl) (fun _ => rfl) (fun g ad hl hD hnL C K => ?_)
  subst hl
  subst hD
  have J0 := J
  obtain ⟨hI, wP, wA, wA0, hta, htu, hct, hko, hcl, hhv, hw4, htb, hn1, hn2⟩ := J
  show mm_M g ad 0 0 (ks_H U (ms_H u t ck cw F)) 0 [(0, .ref 18), (1, .int a), (2, .int b)] []
  refine mm_aload_n C dX3_in_0 rfl 0 rfl ?_
  refine mm_aload_n C dX3_in_1 rfl 0 rfl ?_
  refine mm_iload_n C dX3_in_2 rfl 1 rfl ?_
  refine mm_riV C 18 sv_X3_X3_isKind_66 rfl rfl (kX3_isKind _ _ U u _ ck cw F a k c i hI) ⟨rfl, rfl⟩ ⟨mm_nl rfl, mm_nl rfl⟩ rfl rfl (mm_nl rfl) ⟨mm_nl rfl, mm_nl rfl⟩ dX3_in_3 ?_
  refine mm_ifb_ne (tgt := 13) C dX3_in_6 (by decide) (fun c6 => ?_) (fun c6 => ?_)
  · skip
    refine mm_iconst (v := 0) C dX3_in_13 (by decide) ?_
    refine mm_iload_n C dX3_in_14 rfl 2 rfl ?_
    refine mm_riS C ss_X3_X3_isArea_108 (kX3_isArea _ _ _ b) ⟨rfl, rfl⟩ ⟨mm_nl rfl, mm_nl rfl⟩ rfl rfl (mm_nl rfl) ⟨mm_nl rfl, mm_nl rfl⟩ dX3_in_15 ?_
    refine mm_ifb_ne (tgt := 25) C dX3_in_18 (by decide) (fun c18 => ?_) (fun c18 => ?_)
    · skip
      refine mm_iconst (v := 0) C dX3_in_25 (by decide) ?_
      refine mm_iconst (v := 0) C dX3_in_26 (by decide) ?_
      refine mm_iconst (v := 0) C dX3_in_27 (by decide) ?_
      refine mm_riV C 18 sv_X3_X3_throwing_70 rfl rfl (kX3_throwing _ _ U u _ ck cw F false false false false) ⟨rfl, rfl⟩ ⟨mm_nl rfl, mm_nl rfl⟩ rfl rfl (mm_nl rfl) ⟨mm_nl rfl, mm_nl rfl⟩ dX3_in_28 ?_
      refine mm_if_eq (tgt := 36) C dX3_in_31 (by decide) (fun _ => ?_) (fun z => absurd z (by decide))
      refine mm_aload_n C dX3_in_36 rfl 0 rfl ?_
      refine mm_iload_n C dX3_in_37 rfl 1 rfl ?_
      refine mm_iload_n C dX3_in_38 rfl 2 rfl ?_
      refine mm_riV C 18 sv_X3_X3_follow_111 rfl rfl (kX3_follow _ _ U u _ ck cw F a b k c i J0 c6 c18) ⟨rfl, rfl⟩ ⟨mm_nl rfl, mm_nl rfl⟩ rfl rfl (mm_nl rfl) ⟨mm_nl rfl, mm_nl rfl⟩ dX3_in_39 ?_
      exact mm_iret C K rfl dX3_in_42 (by
                have ho : o_in u a b = .inr (some (f_ka (k_kn u) (k_ta u) b 40 a), u) := by simp [o_in, c6, c18]
                exact ⟨by rw [ho]; rfl, by rw [ho]; rfl⟩) rfl (mm_nl rfl) (mm_nl rfl)
    · skip
      refine mm_iconst (v := 1) C dX3_in_21 (by decide) ?_
      refine mm_goto (tgt := 26) C dX3_in_22 (by decide) ?_
      refine mm_iconst (v := 0) C dX3_in_26 (by decide) ?_
      refine mm_iconst (v := 0) C dX3_in_27 (by decide) ?_
      refine mm_riV C 18 sv_X3_X3_throwing_70 rfl rfl (kX3_throwing _ _ U u _ ck cw F false true false false) ⟨rfl, rfl⟩ ⟨mm_nl rfl, mm_nl rfl⟩ rfl rfl (mm_nl rfl) ⟨mm_nl rfl, mm_nl rfl⟩ dX3_in_28 ?_
      refine mm_if_eq (tgt := 36) C dX3_in_31 (by decide) (fun z => absurd z (by decide)) (fun _ => ?_)
      refine mm_iconst (v := 0) C dX3_in_34 (by decide) ?_
      exact mm_iret C K rfl dX3_in_35 (by
                have ho : o_in u a b = .inl x_io := by simp [o_in, c6, c18]
                exact ⟨by rw [ho]; rfl, by rw [ho, cd_in_2]; rfl⟩) rfl (mm_nl rfl) (mm_nl rfl)
  · skip
    refine mm_iconst (v := 1) C dX3_in_9 (by decide) ?_
    refine mm_goto (tgt := 14) C dX3_in_10 (by decide) ?_
    refine mm_iload_n C dX3_in_14 rfl 2 rfl ?_
    refine mm_riS C ss_X3_X3_isArea_108 (kX3_isArea _ _ _ b) ⟨rfl, rfl⟩ ⟨mm_nl rfl, mm_nl rfl⟩ rfl rfl (mm_nl rfl) ⟨mm_nl rfl, mm_nl rfl⟩ dX3_in_15 ?_
    refine mm_ifb_ne (tgt := 25) C dX3_in_18 (by decide) (fun c18 => ?_) (fun c18 => ?_)
    · skip
      refine mm_iconst (v := 0) C dX3_in_25 (by decide) ?_
      refine mm_iconst (v := 0) C dX3_in_26 (by decide) ?_
      refine mm_iconst (v := 0) C dX3_in_27 (by decide) ?_
      refine mm_riV C 18 sv_X3_X3_throwing_70 rfl rfl (kX3_throwing _ _ U u _ ck cw F true false false false) ⟨rfl, rfl⟩ ⟨mm_nl rfl, mm_nl rfl⟩ rfl rfl (mm_nl rfl) ⟨mm_nl rfl, mm_nl rfl⟩ dX3_in_28 ?_
      refine mm_if_eq (tgt := 36) C dX3_in_31 (by decide) (fun z => absurd z (by decide)) (fun _ => ?_)
      refine mm_iconst (v := 0) C dX3_in_34 (by decide) ?_
      exact mm_iret C K rfl dX3_in_35 (by
                have ho : o_in u a b = .inl x_ia := by simp [o_in, c6, c18]
                exact ⟨by rw [ho]; rfl, by rw [ho, cd_in_1]; rfl⟩) rfl (mm_nl rfl) (mm_nl rfl)
    · skip
      refine mm_iconst (v := 1) C dX3_in_21 (by decide) ?_
      refine mm_goto (tgt := 26) C dX3_in_22 (by decide) ?_
      refine mm_iconst (v := 0) C dX3_in_26 (by decide) ?_
      refine mm_iconst (v := 0) C dX3_in_27 (by decide) ?_
      refine mm_riV C 18 sv_X3_X3_throwing_70 rfl rfl (kX3_throwing _ _ U u _ ck cw F true true false false) ⟨rfl, rfl⟩ ⟨mm_nl rfl, mm_nl rfl⟩ rfl rfl (mm_nl rfl) ⟨mm_nl rfl, mm_nl rfl⟩ dX3_in_28 ?_
      refine mm_if_eq (tgt := 36) C dX3_in_31 (by decide) (fun z => absurd z (by decide)) (fun _ => ?_)
      refine mm_iconst (v := 0) C dX3_in_34 (by decide) ?_
      exact mm_iret C K rfl dX3_in_35 (by
                have ho : o_in u a b = .inl x_ia := by simp [o_in, c6, c18]
                exact ⟨by rw [ho]; rfl, by rw [ho, cd_in_1]; rfl⟩) rfl (mm_nl rfl) (mm_nl rfl)
set_option maxHeartbeats 4000000 in
set_option maxRecDepth 100000 in
theorem kX3_upgrade (l : Launch) (D : va_G) (U u : ks_S) (t : Int32) (ck cw : Nat → Int32) (F : List mm_c) (a b e : Int32) (k c i : Nat) (J : ms_I u ck cw k c i) : mm_Wr l D yX3_upgrade (mm_cw yX3_upgrade cX3_upgrade 7 none) (mm_rm 3) [.ref 18, .int a, .int b, .int e] (ks_H U (ms_H u t ck cw F)) (none) (ks_H U (ms_H (m_us u (o_upgrade u a b e)) (m_cd l_upgrade (o_upgrade u a b e)) ck cw F)) := by
  refine mm_start (own := RX3) (by decide) rfl rfl (mm_nl rfl) (fun _ => rfl) (fun _ => rfl) (fun g ad hl hD hnL C K => ?_)
  subst hl
  subst hD
  have J0 := J
  obtain ⟨hI, wP, wA, wA0, hta, htu, hct, hko, hcl, hhv, hw4, htb, hn1, hn2⟩ := J
  show mm_M g ad 0 0 (ks_H U (ms_H u t ck cw F)) 0 [(0, .ref 18), (1, .int a), (2, .int b), (3, .int e)] []
  refine mm_aload_n C dX3_upgrade_0 rfl 0 rfl ?_
  refine mm_iload_n C dX3_upgrade_1 rfl 1 rfl ?_
  refine mm_riV C 18 sv_X3_X3_isKind_66 rfl rfl (kX3_isKind _ _ U u _ ck cw F a k c i hI) ⟨rfl, rfl⟩ ⟨mm_nl rfl, mm_nl rfl⟩ rfl rfl (mm_nl rfl) ⟨mm_nl rfl, mm_nl rfl⟩ dX3_upgrade_2 ?_
  refine mm_ifb_eq (tgt := 21) C dX3_upgrade_5 (by decide) (fun c5 => ?_) (fun c5 => ?_)
  · skip
    refine mm_iconst (v := 1) C dX3_upgrade_21 (by decide) ?_
    refine mm_goto (tgt := 26) C dX3_upgrade_22 (by decide) ?_
    refine mm_istore (lv' := [(4, .int 1), (0, .ref 18), (1, .int a), (2, .int b), (3, .int e)]) C dX3_upgrade_26 hnL (by decide) rfl ?_
    refine mm_iload_n C dX3_upgrade_28 rfl 3 rfl ?_
    refine mm_iconst (v := 0) C dX3_upgrade_29 (by decide) ?_
    refine mm_bipush (v := 31) C dX3_upgrade_30 (by decide) ?_
    refine mm_riS C ss_X3_X3_between_59 (kX3_between _ _ _ b 0 31 (b_below b 32) (bw_below (by decide))) ⟨rfl, rfl⟩ ⟨mm_nl rfl, mm_nl rfl⟩ rfl rfl (mm_nl rfl) ⟨mm_nl rfl, mm_nl rfl⟩ dX3_upgrade_32 ?_
    refine mm_ifb_ne (tgt := 42) C dX3_upgrade_35 (by decide) (fun c35 => ?_) (fun c35 => ?_)
    · skip
      refine mm_iconst (v := 0) C dX3_upgrade_42 (by decide) ?_
      refine mm_istore (lv' := [(5, .int 0), (4, .int 1), (0, .ref 18), (1, .int a), (2, .int b), (3, .int e)]) C dX3_upgrade_43 hnL (by decide) rfl ?_
      refine mm_iload C dX3_upgrade_45 1 rfl ?_
      refine mm_if_ne (tgt := 77) C dX3_upgrade_47 (by decide) (fun _ => ?_) (fun z => absurd z (by decide))
      refine mm_iconst (v := 0) C dX3_upgrade_77 (by decide) ?_
      refine mm_istore (lv' := [(6, .int 0), (5, .int 0), (4, .int 1), (0, .ref 18), (1, .int a), (2, .int b), (3, .int e)]) C dX3_upgrade_78 hnL (by decide) rfl ?_
      refine mm_aload_n C dX3_upgrade_80 rfl 3 rfl ?_
      refine mm_iload C dX3_upgrade_81 2 rfl ?_
      refine mm_iload C dX3_upgrade_83 1 rfl ?_
      refine mm_iload C dX3_upgrade_85 2 rfl ?_
      refine mm_if_ne (tgt := 99) C dX3_upgrade_87 (by decide) (fun _ => ?_) (fun z => absurd z (by decide))
      refine mm_iconst (v := 0) C dX3_upgrade_99 (by decide) ?_
      refine mm_iload C dX3_upgrade_100 0 rfl ?_
      refine mm_if_eq (tgt := 119) C dX3_upgrade_102 (by decide) (fun _ => ?_) (fun z => absurd z (by decide))
      refine mm_iconst (v := 0) C dX3_upgrade_119 (by decide) ?_
      refine mm_riV C 18 sv_X3_X3_throwing_70 rfl rfl (kX3_throwing _ _ U u _ ck cw F true false false false) ⟨rfl, rfl⟩ ⟨mm_nl rfl, mm_nl rfl⟩ rfl rfl (mm_nl rfl) ⟨mm_nl rfl, mm_nl rfl⟩ dX3_upgrade_120 ?_
      refine mm_if_eq (tgt := 127) C dX3_upgrade_123 (by decide) (fun z => absurd z (by decide)) (fun _ => ?_)
      exact mm_vret C K dX3_upgrade_126 (by
                have ho : o_upgrade u a b e = .inl x_ia := by simp [o_upgrade, b_kindN, e_100 hct.2.1 hct.2.2, c5, c35]
                exact ⟨rfl, by rw [ho, cd_upgrade_1]; rfl⟩) rfl (mm_nl rfl) (mm_nl rfl)
    · skip
      refine mm_iconst (v := 1) C dX3_upgrade_38 (by decide) ?_
      refine mm_goto (tgt := 43) C dX3_upgrade_39 (by decide) ?_
      refine mm_istore (lv' := [(5, .int 1), (4, .int 1), (0, .ref 18), (1, .int a), (2, .int b), (3, .int e)]) C dX3_upgrade_43 hnL (by decide) rfl ?_
      refine mm_iload C dX3_upgrade_45 1 rfl ?_
      refine mm_if_ne (tgt := 77) C dX3_upgrade_47 (by decide) (fun _ => ?_) (fun z => absurd z (by decide))
      refine mm_iconst (v := 0) C dX3_upgrade_77 (by decide) ?_
      refine mm_istore (lv' := [(6, .int 0), (5, .int 1), (4, .int 1), (0, .ref 18), (1, .int a), (2, .int b), (3, .int e)]) C dX3_upgrade_78 hnL (by decide) rfl ?_
      refine mm_aload_n C dX3_upgrade_80 rfl 3 rfl ?_
      refine mm_iload C dX3_upgrade_81 2 rfl ?_
      refine mm_iload C dX3_upgrade_83 1 rfl ?_
      refine mm_iload C dX3_upgrade_85 2 rfl ?_
      refine mm_if_ne (tgt := 99) C dX3_upgrade_87 (by decide) (fun _ => ?_) (fun z => absurd z (by decide))
      refine mm_iconst (v := 0) C dX3_upgrade_99 (by decide) ?_
      refine mm_iload C dX3_upgrade_100 0 rfl ?_
      refine mm_if_eq (tgt := 119) C dX3_upgrade_102 (by decide) (fun _ => ?_) (fun z => absurd z (by decide))
      refine mm_iconst (v := 0) C dX3_upgrade_119 (by decide) ?_
      refine mm_riV C 18 sv_X3_X3_throwing_70 rfl rfl (kX3_throwing _ _ U u _ ck cw F true true false false) ⟨rfl, rfl⟩ ⟨mm_nl rfl, mm_nl rfl⟩ rfl rfl (mm_nl rfl) ⟨mm_nl rfl, mm_nl rfl⟩ dX3_upgrade_120 ?_
      refine mm_if_eq (tgt := 127) C dX3_upgrade_123 (by decide) (fun z => absurd z (by decide)) (fun _ => ?_)
      exact mm_vret C K dX3_upgrade_126 (by
                have ho : o_upgrade u a b e = .inl x_ia := by simp [o_upgrade, b_kindN, e_100 hct.2.1 hct.2.2, c5, c35]
                exact ⟨rfl, by rw [ho, cd_upgrade_1]; rfl⟩) rfl (mm_nl rfl) (mm_nl rfl)
  · skip
    refine mm_iload_n C dX3_upgrade_8 rfl 3 rfl ?_
    refine mm_iconst (v := (-1)) C dX3_upgrade_9 (by decide) ?_
    refine mm_icmp_eq (tgt := 25) C dX3_upgrade_10 (by decide) (fun c10 => ?_) (fun c10 => ?_)
    · skip
      refine mm_iconst (v := 0) C dX3_upgrade_25 (by decide) ?_
      refine mm_istore (lv' := [(4, .int 0), (0, .ref 18), (1, .int a), (2, .int b), (3, .int e)]) C dX3_upgrade_26 hnL (by decide) rfl ?_
      refine mm_iload_n C dX3_upgrade_28 rfl 3 rfl ?_
      refine mm_iconst (v := 0) C dX3_upgrade_29 (by decide) ?_
      refine mm_bipush (v := 31) C dX3_upgrade_30 (by decide) ?_
      refine mm_riS C ss_X3_X3_between_59 (kX3_between _ _ _ b 0 31 (b_below b 32) (bw_below (by decide))) ⟨rfl, rfl⟩ ⟨mm_nl rfl, mm_nl rfl⟩ rfl rfl (mm_nl rfl) ⟨mm_nl rfl, mm_nl rfl⟩ dX3_upgrade_32 ?_
      refine mm_ifb_ne (tgt := 42) C dX3_upgrade_35 (by decide) (fun c35 => ?_) (fun c35 => ?_)
      · skip
        refine mm_iconst (v := 0) C dX3_upgrade_42 (by decide) ?_
        refine mm_istore (lv' := [(5, .int 0), (4, .int 0), (0, .ref 18), (1, .int a), (2, .int b), (3, .int e)]) C dX3_upgrade_43 hnL (by decide) rfl ?_
        refine mm_iload C dX3_upgrade_45 1 rfl ?_
        refine mm_if_ne (tgt := 77) C dX3_upgrade_47 (by decide) (fun z => absurd z (by decide)) (fun _ => ?_)
        refine mm_iload C dX3_upgrade_50 0 rfl ?_
        refine mm_if_ne (tgt := 77) C dX3_upgrade_52 (by decide) (fun z => absurd z (by decide)) (fun _ => ?_)
        refine mm_iload_n C dX3_upgrade_55 rfl 5 rfl ?_
        refine mm_if_lt (tgt := 77) C dX3_upgrade_56 (by decide) (fun c56 => ?_) (fun z => False.elim ((fun z => z (lt0_of c10)) z))
        refine mm_iconst (v := 0) C dX3_upgrade_77 (by decide) ?_
        refine mm_istore (lv' := [(6, .int 0), (5, .int 0), (4, .int 0), (0, .ref 18), (1, .int a), (2, .int b), (3, .int e)]) C dX3_upgrade_78 hnL (by decide) rfl ?_
        refine mm_aload_n C dX3_upgrade_80 rfl 3 rfl ?_
        refine mm_iload C dX3_upgrade_81 2 rfl ?_
        refine mm_iload C dX3_upgrade_83 1 rfl ?_
        refine mm_iload C dX3_upgrade_85 2 rfl ?_
        refine mm_if_ne (tgt := 99) C dX3_upgrade_87 (by decide) (fun z => absurd z (by decide)) (fun _ => ?_)
        refine mm_iload_n C dX3_upgrade_90 rfl 6 rfl ?_
        refine mm_iload_n C dX3_upgrade_91 rfl 4 rfl ?_
        refine mm_icmp_ne (tgt := 99) C dX3_upgrade_92 (by decide) (fun c92 => ?_) (fun z => False.elim ((fun z => b_nm1 c5 (z.symm.trans c10)) z))
        refine mm_iconst (v := 0) C dX3_upgrade_99 (by decide) ?_
        refine mm_iload C dX3_upgrade_100 0 rfl ?_
        refine mm_if_eq (tgt := 119) C dX3_upgrade_102 (by decide) (fun _ => ?_) (fun z => absurd z (by decide))
        refine mm_iconst (v := 0) C dX3_upgrade_119 (by decide) ?_
        refine mm_riV C 18 sv_X3_X3_throwing_70 rfl rfl (kX3_throwing _ _ U u _ ck cw F false false false false) ⟨rfl, rfl⟩ ⟨mm_nl rfl, mm_nl rfl⟩ rfl rfl (mm_nl rfl) ⟨mm_nl rfl, mm_nl rfl⟩ dX3_upgrade_120 ?_
        refine mm_if_eq (tgt := 127) C dX3_upgrade_123 (by decide) (fun _ => ?_) (fun z => absurd z (by decide))
        refine mm_aload_n C dX3_upgrade_127 rfl 3 rfl ?_
        refine mm_get C 18 11 (fun w h => mm_wc (inX3 w h)) rfl rfl (by decide) (mm_wc tw478) rfl rfl dX3_upgrade_128 ?_
        refine mm_bipush (v := 32) C dX3_upgrade_131 (by decide) ?_
        refine mm_iload_n C dX3_upgrade_133 rfl 4 rfl ?_
        refine mm_imulc C dX3_upgrade_134 ?_
        refine mm_iload_n C dX3_upgrade_135 rfl 5 rfl ?_
        refine mm_iadd C dX3_upgrade_136 ?_
        refine mm_iload_n C dX3_upgrade_137 rfl 6 rfl ?_
        refine mm_iast C 27 rfl (ix_m (c := 32) hI.k40 c5 (bt c35 rfl) (by decide) (by decide) (by decide)) dX3_upgrade_138 ?_
        exact mm_vret C K dX3_upgrade_139 (by
                have ho : o_upgrade u a b e = .inr (none, ks_putU u a b e) := by simp [o_upgrade, b_kindN, e_100 hct.2.1 hct.2.2, c5, eq_true c10, c35, (show ¬ e = a from fun z => b_nm1 c5 (z.symm.trans c10))]
                exact ⟨rfl, by rw [ho]; rfl⟩) rfl (mm_nl rfl) (mm_nl rfl)
      · skip
        refine mm_iconst (v := 1) C dX3_upgrade_38 (by decide) ?_
        refine mm_goto (tgt := 43) C dX3_upgrade_39 (by decide) ?_
        refine mm_istore (lv' := [(5, .int 1), (4, .int 0), (0, .ref 18), (1, .int a), (2, .int b), (3, .int e)]) C dX3_upgrade_43 hnL (by decide) rfl ?_
        refine mm_iload C dX3_upgrade_45 1 rfl ?_
        refine mm_if_ne (tgt := 77) C dX3_upgrade_47 (by decide) (fun z => absurd z (by decide)) (fun _ => ?_)
        refine mm_iload C dX3_upgrade_50 0 rfl ?_
        refine mm_if_ne (tgt := 77) C dX3_upgrade_52 (by decide) (fun _ => ?_) (fun z => absurd z (by decide))
        refine mm_iconst (v := 0) C dX3_upgrade_77 (by decide) ?_
        refine mm_istore (lv' := [(6, .int 0), (5, .int 1), (4, .int 0), (0, .ref 18), (1, .int a), (2, .int b), (3, .int e)]) C dX3_upgrade_78 hnL (by decide) rfl ?_
        refine mm_aload_n C dX3_upgrade_80 rfl 3 rfl ?_
        refine mm_iload C dX3_upgrade_81 2 rfl ?_
        refine mm_iload C dX3_upgrade_83 1 rfl ?_
        refine mm_iload C dX3_upgrade_85 2 rfl ?_
        refine mm_if_ne (tgt := 99) C dX3_upgrade_87 (by decide) (fun z => absurd z (by decide)) (fun _ => ?_)
        refine mm_iload_n C dX3_upgrade_90 rfl 6 rfl ?_
        refine mm_iload_n C dX3_upgrade_91 rfl 4 rfl ?_
        refine mm_icmp_ne (tgt := 99) C dX3_upgrade_92 (by decide) (fun c92 => ?_) (fun z => False.elim ((fun z => b_nm1 c5 (z.symm.trans c10)) z))
        refine mm_iconst (v := 0) C dX3_upgrade_99 (by decide) ?_
        refine mm_iload C dX3_upgrade_100 0 rfl ?_
        refine mm_if_eq (tgt := 119) C dX3_upgrade_102 (by decide) (fun _ => ?_) (fun z => absurd z (by decide))
        refine mm_iconst (v := 0) C dX3_upgrade_119 (by decide) ?_
        refine mm_riV C 18 sv_X3_X3_throwing_70 rfl rfl (kX3_throwing _ _ U u _ ck cw F false true false false) ⟨rfl, rfl⟩ ⟨mm_nl rfl, mm_nl rfl⟩ rfl rfl (mm_nl rfl) ⟨mm_nl rfl, mm_nl rfl⟩ dX3_upgrade_120 ?_
        refine mm_if_eq (tgt := 127) C dX3_upgrade_123 (by decide) (fun z => absurd z (by decide)) (fun _ => ?_)
        exact mm_vret C K dX3_upgrade_126 (by
                have ho : o_upgrade u a b e = .inl x_io := by simp [o_upgrade, b_kindN, e_100 hct.2.1 hct.2.2, c5, eq_true c10, c35, (show ¬ e = a from fun z => b_nm1 c5 (z.symm.trans c10))]
                exact ⟨rfl, by rw [ho, cd_upgrade_2]; rfl⟩) rfl (mm_nl rfl) (mm_nl rfl)
    · skip
      refine mm_aload_n C dX3_upgrade_13 rfl 0 rfl ?_
      refine mm_iload_n C dX3_upgrade_14 rfl 3 rfl ?_
      refine mm_riV C 18 sv_X3_X3_isKind_66 rfl rfl (kX3_isKind _ _ U u _ ck cw F e k c i hI) ⟨rfl, rfl⟩ ⟨mm_nl rfl, mm_nl rfl⟩ rfl rfl (mm_nl rfl) ⟨mm_nl rfl, mm_nl rfl⟩ dX3_upgrade_15 ?_
      refine mm_ifb_ne (tgt := 25) C dX3_upgrade_18 (by decide) (fun c18 => ?_) (fun c18 => ?_)
      · skip
        refine mm_iconst (v := 0) C dX3_upgrade_25 (by decide) ?_
        refine mm_istore (lv' := [(4, .int 0), (0, .ref 18), (1, .int a), (2, .int b), (3, .int e)]) C dX3_upgrade_26 hnL (by decide) rfl ?_
        refine mm_iload_n C dX3_upgrade_28 rfl 3 rfl ?_
        refine mm_iconst (v := 0) C dX3_upgrade_29 (by decide) ?_
        refine mm_bipush (v := 31) C dX3_upgrade_30 (by decide) ?_
        refine mm_riS C ss_X3_X3_between_59 (kX3_between _ _ _ b 0 31 (b_below b 32) (bw_below (by decide))) ⟨rfl, rfl⟩ ⟨mm_nl rfl, mm_nl rfl⟩ rfl rfl (mm_nl rfl) ⟨mm_nl rfl, mm_nl rfl⟩ dX3_upgrade_32 ?_
        refine mm_ifb_ne (tgt := 42) C dX3_upgrade_35 (by decide) (fun c35 => ?_) (fun c35 => ?_)
        · skip
          refine mm_iconst (v := 0) C dX3_upgrade_42 (by decide) ?_
          refine mm_istore (lv' := [(5, .int 0), (4, .int 0), (0, .ref 18), (1, .int a), (2, .int b), (3, .int e)]) C dX3_upgrade_43 hnL (by decide) rfl ?_
          refine mm_iload C dX3_upgrade_45 1 rfl ?_
          refine mm_if_ne (tgt := 77) C dX3_upgrade_47 (by decide) (fun z => absurd z (by decide)) (fun _ => ?_)
          refine mm_iload C dX3_upgrade_50 0 rfl ?_
          refine mm_if_ne (tgt := 77) C dX3_upgrade_52 (by decide) (fun z => absurd z (by decide)) (fun _ => ?_)
          refine mm_iload_n C dX3_upgrade_55 rfl 5 rfl ?_
          refine mm_if_lt (tgt := 77) C dX3_upgrade_56 (by decide) (fun z => False.elim ((b_nlt c18) z)) (fun c56 => ?_)
          refine mm_aload_n C dX3_upgrade_59 rfl 2 rfl ?_
          refine mm_get C 18 11 (fun w h => mm_wc (inX3 w h)) rfl rfl (by decide) (mm_wc tw478) rfl rfl dX3_upgrade_60 ?_
          refine mm_bipush (v := 32) C dX3_upgrade_63 (by decide) ?_
          refine mm_iload_n C dX3_upgrade_65 rfl 3 rfl ?_
          refine mm_imulc C dX3_upgrade_66 ?_
          refine mm_iload_n C dX3_upgrade_67 rfl 4 rfl ?_
          refine mm_iadd C dX3_upgrade_68 ?_
          refine mm_iald C 27 rfl (ix_m (c := 32) hI.k40 c5 (bt c35 rfl) (by decide) (by decide) (by decide)) dX3_upgrade_69 ?_
          refine mm_if_ge (tgt := 77) C dX3_upgrade_70 (by decide) (fun c70 => ?_) (fun c70 => ?_)
          · skip
            refine mm_iconst (v := 0) C dX3_upgrade_77 (by decide) ?_
            refine mm_istore (lv' := [(6, .int 0), (5, .int 0), (4, .int 0), (0, .ref 18), (1, .int a), (2, .int b), (3, .int e)]) C dX3_upgrade_78 hnL (by decide) rfl ?_
            refine mm_aload_n C dX3_upgrade_80 rfl 3 rfl ?_
            refine mm_iload C dX3_upgrade_81 2 rfl ?_
            refine mm_iload C dX3_upgrade_83 1 rfl ?_
            refine mm_iload C dX3_upgrade_85 2 rfl ?_
            refine mm_if_ne (tgt := 99) C dX3_upgrade_87 (by decide) (fun z => absurd z (by decide)) (fun _ => ?_)
            refine mm_iload_n C dX3_upgrade_90 rfl 6 rfl ?_
            refine mm_iload_n C dX3_upgrade_91 rfl 4 rfl ?_
            refine mm_icmp_ne (tgt := 99) C dX3_upgrade_92 (by decide) (fun c92 => ?_) (fun c92 => ?_)
            · skip
              refine mm_iconst (v := 0) C dX3_upgrade_99 (by decide) ?_
              refine mm_iload C dX3_upgrade_100 0 rfl ?_
              refine mm_if_eq (tgt := 119) C dX3_upgrade_102 (by decide) (fun _ => ?_) (fun z => absurd z (by decide))
              refine mm_iconst (v := 0) C dX3_upgrade_119 (by decide) ?_
              refine mm_riV C 18 sv_X3_X3_throwing_70 rfl rfl (kX3_throwing _ _ U u _ ck cw F false false false false) ⟨rfl, rfl⟩ ⟨mm_nl rfl, mm_nl rfl⟩ rfl rfl (mm_nl rfl) ⟨mm_nl rfl, mm_nl rfl⟩ dX3_upgrade_120 ?_
              refine mm_if_eq (tgt := 127) C dX3_upgrade_123 (by decide) (fun _ => ?_) (fun z => absurd z (by decide))
              refine mm_aload_n C dX3_upgrade_127 rfl 3 rfl ?_
              refine mm_get C 18 11 (fun w h => mm_wc (inX3 w h)) rfl rfl (by decide) (mm_wc tw478) rfl rfl dX3_upgrade_128 ?_
              refine mm_bipush (v := 32) C dX3_upgrade_131 (by decide) ?_
              refine mm_iload_n C dX3_upgrade_133 rfl 4 rfl ?_
              refine mm_imulc C dX3_upgrade_134 ?_
              refine mm_iload_n C dX3_upgrade_135 rfl 5 rfl ?_
              refine mm_iadd C dX3_upgrade_136 ?_
              refine mm_iload_n C dX3_upgrade_137 rfl 6 rfl ?_
              refine mm_iast C 27 rfl (ix_m (c := 32) hI.k40 c5 (bt c35 rfl) (by decide) (by decide) (by decide)) dX3_upgrade_138 ?_
              exact mm_vret C K dX3_upgrade_139 (by
                have ho : o_upgrade u a b e = .inr (none, ks_putU u a b e) := by simp [o_upgrade, b_kindN, e_100 hct.2.1 hct.2.2, c5, c10, c18, c35, c70, c92, sx_2 c70]
                exact ⟨rfl, by rw [ho]; rfl⟩) rfl (mm_nl rfl) (mm_nl rfl)
            · skip
              refine mm_iconst (v := 1) C dX3_upgrade_95 (by decide) ?_
              refine mm_goto (tgt := 100) C dX3_upgrade_96 (by decide) ?_
              refine mm_iload C dX3_upgrade_100 0 rfl ?_
              refine mm_if_eq (tgt := 119) C dX3_upgrade_102 (by decide) (fun _ => ?_) (fun z => absurd z (by decide))
              refine mm_iconst (v := 0) C dX3_upgrade_119 (by decide) ?_
              refine mm_riV C 18 sv_X3_X3_throwing_70 rfl rfl (kX3_throwing _ _ U u _ ck cw F false false true false) ⟨rfl, rfl⟩ ⟨mm_nl rfl, mm_nl rfl⟩ rfl rfl (mm_nl rfl) ⟨mm_nl rfl, mm_nl rfl⟩ dX3_upgrade_120 ?_
              refine mm_if_eq (tgt := 127) C dX3_upgrade_123 (by decide) (fun z => absurd z (by decide)) (fun _ => ?_)
              exact mm_vret C K dX3_upgrade_126 (by
                have ho : o_upgrade u a b e = .inl x_is := by simp [o_upgrade, b_kindN, e_100 hct.2.1 hct.2.2, c5, c10, c18, c35, c70, eq_true c92, sx_2 c70]
                exact ⟨rfl, by rw [ho, cd_upgrade_3]; rfl⟩) rfl (mm_nl rfl) (mm_nl rfl)
          · skip
            refine mm_iconst (v := 1) C dX3_upgrade_73 (by decide) ?_
            refine mm_goto (tgt := 78) C dX3_upgrade_74 (by decide) ?_
            refine mm_istore (lv' := [(6, .int 1), (5, .int 0), (4, .int 0), (0, .ref 18), (1, .int a), (2, .int b), (3, .int e)]) C dX3_upgrade_78 hnL (by decide) rfl ?_
            refine mm_aload_n C dX3_upgrade_80 rfl 3 rfl ?_
            refine mm_iload C dX3_upgrade_81 2 rfl ?_
            refine mm_iload C dX3_upgrade_83 1 rfl ?_
            refine mm_iload C dX3_upgrade_85 2 rfl ?_
            refine mm_if_ne (tgt := 99) C dX3_upgrade_87 (by decide) (fun z => absurd z (by decide)) (fun _ => ?_)
            refine mm_iload_n C dX3_upgrade_90 rfl 6 rfl ?_
            refine mm_iload_n C dX3_upgrade_91 rfl 4 rfl ?_
            refine mm_icmp_ne (tgt := 99) C dX3_upgrade_92 (by decide) (fun c92 => ?_) (fun c92 => ?_)
            · skip
              refine mm_iconst (v := 0) C dX3_upgrade_99 (by decide) ?_
              refine mm_iload C dX3_upgrade_100 0 rfl ?_
              refine mm_if_eq (tgt := 119) C dX3_upgrade_102 (by decide) (fun z => absurd z (by decide)) (fun _ => ?_)
              refine mm_aload_n C dX3_upgrade_105 rfl 3 rfl ?_
              refine mm_iconst (v := 0) C dX3_upgrade_106 (by decide) ?_
              refine mm_riV C 18 sv_X3_X3_rowsOf_115 rfl rfl (kX3_rowsOfU _ _ U u _ ck cw F hct.2.1) ⟨rfl, rfl⟩ ⟨mm_nl rfl, mm_nl rfl⟩ rfl rfl (mm_nl rfl) ⟨mm_nl rfl, mm_nl rfl⟩ dX3_upgrade_107 ?_
              refine mm_bipush (v := 100) C dX3_upgrade_110 (by decide) ?_
              refine mm_icmp_ne (tgt := 119) C dX3_upgrade_112 (by decide) (fun c112 => ?_) (fun c112 => ?_)
              · skip
                refine mm_iconst (v := 0) C dX3_upgrade_119 (by decide) ?_
                refine mm_riV C 18 sv_X3_X3_throwing_70 rfl rfl (kX3_throwing _ _ U u _ ck cw F false false false false) ⟨rfl, rfl⟩ ⟨mm_nl rfl, mm_nl rfl⟩ rfl rfl (mm_nl rfl) ⟨mm_nl rfl, mm_nl rfl⟩ dX3_upgrade_120 ?_
                refine mm_if_eq (tgt := 127) C dX3_upgrade_123 (by decide) (fun _ => ?_) (fun z => absurd z (by decide))
                refine mm_aload_n C dX3_upgrade_127 rfl 3 rfl ?_
                refine mm_get C 18 11 (fun w h => mm_wc (inX3 w h)) rfl rfl (by decide) (mm_wc tw478) rfl rfl dX3_upgrade_128 ?_
                refine mm_bipush (v := 32) C dX3_upgrade_131 (by decide) ?_
                refine mm_iload_n C dX3_upgrade_133 rfl 4 rfl ?_
                refine mm_imulc C dX3_upgrade_134 ?_
                refine mm_iload_n C dX3_upgrade_135 rfl 5 rfl ?_
                refine mm_iadd C dX3_upgrade_136 ?_
                refine mm_iload_n C dX3_upgrade_137 rfl 6 rfl ?_
                refine mm_iast C 27 rfl (ix_m (c := 32) hI.k40 c5 (bt c35 rfl) (by decide) (by decide) (by decide)) dX3_upgrade_138 ?_
                exact mm_vret C K dX3_upgrade_139 (by
                have ho : o_upgrade u a b e = .inr (none, ks_putU u a b e) := by simp [o_upgrade, b_kindN, e_100 hct.2.1 hct.2.2, c5, c10, c18, c35, c70, c92, c112, (show k_tu u (a * 32 + b).toNatClampNeg = -1 from vd_m (htu _ (in_clamp (ix_m (c := 32) hI.k40 c5 (bt c35 rfl) (by decide) (by decide) (by decide)))) c70)]
                exact ⟨rfl, by rw [ho]; rfl⟩) rfl (mm_nl rfl) (mm_nl rfl)
              · skip
                refine mm_iconst (v := 1) C dX3_upgrade_115 (by decide) ?_
                refine mm_goto (tgt := 120) C dX3_upgrade_116 (by decide) ?_
                refine mm_riV C 18 sv_X3_X3_throwing_70 rfl rfl (kX3_throwing _ _ U u _ ck cw F false false false true) ⟨rfl, rfl⟩ ⟨mm_nl rfl, mm_nl rfl⟩ rfl rfl (mm_nl rfl) ⟨mm_nl rfl, mm_nl rfl⟩ dX3_upgrade_120 ?_
                refine mm_if_eq (tgt := 127) C dX3_upgrade_123 (by decide) (fun z => absurd z (by decide)) (fun _ => ?_)
                exact mm_vret C K dX3_upgrade_126 (by
                have ho : o_upgrade u a b e = .inl x_uo := by simp [o_upgrade, b_kindN, e_100 hct.2.1 hct.2.2, c5, c10, c18, c35, c70, c92, eq_true c112, (show k_tu u (a * 32 + b).toNatClampNeg = -1 from vd_m (htu _ (in_clamp (ix_m (c := 32) hI.k40 c5 (bt c35 rfl) (by decide) (by decide) (by decide)))) c70)]
                exact ⟨rfl, by rw [ho, cd_upgrade_4]; rfl⟩) rfl (mm_nl rfl) (mm_nl rfl)
            · skip
              refine mm_iconst (v := 1) C dX3_upgrade_95 (by decide) ?_
              refine mm_goto (tgt := 100) C dX3_upgrade_96 (by decide) ?_
              refine mm_iload C dX3_upgrade_100 0 rfl ?_
              refine mm_if_eq (tgt := 119) C dX3_upgrade_102 (by decide) (fun z => absurd z (by decide)) (fun _ => ?_)
              refine mm_aload_n C dX3_upgrade_105 rfl 3 rfl ?_
              refine mm_iconst (v := 0) C dX3_upgrade_106 (by decide) ?_
              refine mm_riV C 18 sv_X3_X3_rowsOf_115 rfl rfl (kX3_rowsOfU _ _ U u _ ck cw F hct.2.1) ⟨rfl, rfl⟩ ⟨mm_nl rfl, mm_nl rfl⟩ rfl rfl (mm_nl rfl) ⟨mm_nl rfl, mm_nl rfl⟩ dX3_upgrade_107 ?_
              refine mm_bipush (v := 100) C dX3_upgrade_110 (by decide) ?_
              refine mm_icmp_ne (tgt := 119) C dX3_upgrade_112 (by decide) (fun c112 => ?_) (fun c112 => ?_)
              · skip
                refine mm_iconst (v := 0) C dX3_upgrade_119 (by decide) ?_
                refine mm_riV C 18 sv_X3_X3_throwing_70 rfl rfl (kX3_throwing _ _ U u _ ck cw F false false true false) ⟨rfl, rfl⟩ ⟨mm_nl rfl, mm_nl rfl⟩ rfl rfl (mm_nl rfl) ⟨mm_nl rfl, mm_nl rfl⟩ dX3_upgrade_120 ?_
                refine mm_if_eq (tgt := 127) C dX3_upgrade_123 (by decide) (fun z => absurd z (by decide)) (fun _ => ?_)
                exact mm_vret C K dX3_upgrade_126 (by
                have ho : o_upgrade u a b e = .inl x_is := by simp [o_upgrade, b_kindN, e_100 hct.2.1 hct.2.2, c5, c10, c18, c35, c70, eq_true c92, c112, (show k_tu u (a * 32 + b).toNatClampNeg = -1 from vd_m (htu _ (in_clamp (ix_m (c := 32) hI.k40 c5 (bt c35 rfl) (by decide) (by decide) (by decide)))) c70)]
                exact ⟨rfl, by rw [ho, cd_upgrade_3]; rfl⟩) rfl (mm_nl rfl) (mm_nl rfl)
              · skip
                refine mm_iconst (v := 1) C dX3_upgrade_115 (by decide) ?_
                refine mm_goto (tgt := 120) C dX3_upgrade_116 (by decide) ?_
                refine mm_riV C 18 sv_X3_X3_throwing_70 rfl rfl (kX3_throwing _ _ U u _ ck cw F false false true true) ⟨rfl, rfl⟩ ⟨mm_nl rfl, mm_nl rfl⟩ rfl rfl (mm_nl rfl) ⟨mm_nl rfl, mm_nl rfl⟩ dX3_upgrade_120 ?_
                refine mm_if_eq (tgt := 127) C dX3_upgrade_123 (by decide) (fun z => absurd z (by decide)) (fun _ => ?_)
                exact mm_vret C K dX3_upgrade_126 (by
                have ho : o_upgrade u a b e = .inl x_is := by simp [o_upgrade, b_kindN, e_100 hct.2.1 hct.2.2, c5, c10, c18, c35, c70, eq_true c92, eq_true c112, (show k_tu u (a * 32 + b).toNatClampNeg = -1 from vd_m (htu _ (in_clamp (ix_m (c := 32) hI.k40 c5 (bt c35 rfl) (by decide) (by decide) (by decide)))) c70)]
                exact ⟨rfl, by rw [ho, cd_upgrade_3]; rfl⟩) rfl (mm_nl rfl) (mm_nl rfl)
        · skip
          refine mm_iconst (v := 1) C dX3_upgrade_38 (by decide) ?_
          refine mm_goto (tgt := 43) C dX3_upgrade_39 (by decide) ?_
          refine mm_istore (lv' := [(5, .int 1), (4, .int 0), (0, .ref 18), (1, .int a), (2, .int b), (3, .int e)]) C dX3_upgrade_43 hnL (by decide) rfl ?_
          refine mm_iload C dX3_upgrade_45 1 rfl ?_
          refine mm_if_ne (tgt := 77) C dX3_upgrade_47 (by decide) (fun z => absurd z (by decide)) (fun _ => ?_)
          refine mm_iload C dX3_upgrade_50 0 rfl ?_
          refine mm_if_ne (tgt := 77) C dX3_upgrade_52 (by decide) (fun _ => ?_) (fun z => absurd z (by decide))
          refine mm_iconst (v := 0) C dX3_upgrade_77 (by decide) ?_
          refine mm_istore (lv' := [(6, .int 0), (5, .int 1), (4, .int 0), (0, .ref 18), (1, .int a), (2, .int b), (3, .int e)]) C dX3_upgrade_78 hnL (by decide) rfl ?_
          refine mm_aload_n C dX3_upgrade_80 rfl 3 rfl ?_
          refine mm_iload C dX3_upgrade_81 2 rfl ?_
          refine mm_iload C dX3_upgrade_83 1 rfl ?_
          refine mm_iload C dX3_upgrade_85 2 rfl ?_
          refine mm_if_ne (tgt := 99) C dX3_upgrade_87 (by decide) (fun z => absurd z (by decide)) (fun _ => ?_)
          refine mm_iload_n C dX3_upgrade_90 rfl 6 rfl ?_
          refine mm_iload_n C dX3_upgrade_91 rfl 4 rfl ?_
          refine mm_icmp_ne (tgt := 99) C dX3_upgrade_92 (by decide) (fun c92 => ?_) (fun c92 => ?_)
          · skip
            refine mm_iconst (v := 0) C dX3_upgrade_99 (by decide) ?_
            refine mm_iload C dX3_upgrade_100 0 rfl ?_
            refine mm_if_eq (tgt := 119) C dX3_upgrade_102 (by decide) (fun _ => ?_) (fun z => absurd z (by decide))
            refine mm_iconst (v := 0) C dX3_upgrade_119 (by decide) ?_
            refine mm_riV C 18 sv_X3_X3_throwing_70 rfl rfl (kX3_throwing _ _ U u _ ck cw F false true false false) ⟨rfl, rfl⟩ ⟨mm_nl rfl, mm_nl rfl⟩ rfl rfl (mm_nl rfl) ⟨mm_nl rfl, mm_nl rfl⟩ dX3_upgrade_120 ?_
            refine mm_if_eq (tgt := 127) C dX3_upgrade_123 (by decide) (fun z => absurd z (by decide)) (fun _ => ?_)
            exact mm_vret C K dX3_upgrade_126 (by
                have ho : o_upgrade u a b e = .inl x_io := by simp [o_upgrade, b_kindN, e_100 hct.2.1 hct.2.2, c5, c10, c18, c35, c92]
                exact ⟨rfl, by rw [ho, cd_upgrade_2]; rfl⟩) rfl (mm_nl rfl) (mm_nl rfl)
          · skip
            refine mm_iconst (v := 1) C dX3_upgrade_95 (by decide) ?_
            refine mm_goto (tgt := 100) C dX3_upgrade_96 (by decide) ?_
            refine mm_iload C dX3_upgrade_100 0 rfl ?_
            refine mm_if_eq (tgt := 119) C dX3_upgrade_102 (by decide) (fun _ => ?_) (fun z => absurd z (by decide))
            refine mm_iconst (v := 0) C dX3_upgrade_119 (by decide) ?_
            refine mm_riV C 18 sv_X3_X3_throwing_70 rfl rfl (kX3_throwing _ _ U u _ ck cw F false true true false) ⟨rfl, rfl⟩ ⟨mm_nl rfl, mm_nl rfl⟩ rfl rfl (mm_nl rfl) ⟨mm_nl rfl, mm_nl rfl⟩ dX3_upgrade_120 ?_
            refine mm_if_eq (tgt := 127) C dX3_upgrade_123 (by decide) (fun z => absurd z (by decide)) (fun _ => ?_)
            exact mm_vret C K dX3_upgrade_126 (by
                have ho : o_upgrade u a b e = .inl x_io := by simp [o_upgrade, b_kindN, e_100 hct.2.1 hct.2.2, c5, c10, c18, c35, eq_true c92]
                exact ⟨rfl, by rw [ho, cd_upgrade_2]; rfl⟩) rfl (mm_nl rfl) (mm_nl rfl)
      · skip
        refine mm_iconst (v := 1) C dX3_upgrade_21 (by decide) ?_
        refine mm_goto (tgt := 26) C dX3_upgrade_22 (by decide) ?_
        refine mm_istore (lv' := [(4, .int 1), (0, .ref 18), (1, .int a), (2, .int b), (3, .int e)]) C dX3_upgrade_26 hnL (by decide) rfl ?_
        refine mm_iload_n C dX3_upgrade_28 rfl 3 rfl ?_
        refine mm_iconst (v := 0) C dX3_upgrade_29 (by decide) ?_
        refine mm_bipush (v := 31) C dX3_upgrade_30 (by decide) ?_
        refine mm_riS C ss_X3_X3_between_59 (kX3_between _ _ _ b 0 31 (b_below b 32) (bw_below (by decide))) ⟨rfl, rfl⟩ ⟨mm_nl rfl, mm_nl rfl⟩ rfl rfl (mm_nl rfl) ⟨mm_nl rfl, mm_nl rfl⟩ dX3_upgrade_32 ?_
        refine mm_ifb_ne (tgt := 42) C dX3_upgrade_35 (by decide) (fun c35 => ?_) (fun c35 => ?_)
        · skip
          refine mm_iconst (v := 0) C dX3_upgrade_42 (by decide) ?_
          refine mm_istore (lv' := [(5, .int 0), (4, .int 1), (0, .ref 18), (1, .int a), (2, .int b), (3, .int e)]) C dX3_upgrade_43 hnL (by decide) rfl ?_
          refine mm_iload C dX3_upgrade_45 1 rfl ?_
          refine mm_if_ne (tgt := 77) C dX3_upgrade_47 (by decide) (fun _ => ?_) (fun z => absurd z (by decide))
          refine mm_iconst (v := 0) C dX3_upgrade_77 (by decide) ?_
          refine mm_istore (lv' := [(6, .int 0), (5, .int 0), (4, .int 1), (0, .ref 18), (1, .int a), (2, .int b), (3, .int e)]) C dX3_upgrade_78 hnL (by decide) rfl ?_
          refine mm_aload_n C dX3_upgrade_80 rfl 3 rfl ?_
          refine mm_iload C dX3_upgrade_81 2 rfl ?_
          refine mm_iload C dX3_upgrade_83 1 rfl ?_
          refine mm_iload C dX3_upgrade_85 2 rfl ?_
          refine mm_if_ne (tgt := 99) C dX3_upgrade_87 (by decide) (fun _ => ?_) (fun z => absurd z (by decide))
          refine mm_iconst (v := 0) C dX3_upgrade_99 (by decide) ?_
          refine mm_iload C dX3_upgrade_100 0 rfl ?_
          refine mm_if_eq (tgt := 119) C dX3_upgrade_102 (by decide) (fun _ => ?_) (fun z => absurd z (by decide))
          refine mm_iconst (v := 0) C dX3_upgrade_119 (by decide) ?_
          refine mm_riV C 18 sv_X3_X3_throwing_70 rfl rfl (kX3_throwing _ _ U u _ ck cw F true false false false) ⟨rfl, rfl⟩ ⟨mm_nl rfl, mm_nl rfl⟩ rfl rfl (mm_nl rfl) ⟨mm_nl rfl, mm_nl rfl⟩ dX3_upgrade_120 ?_
          refine mm_if_eq (tgt := 127) C dX3_upgrade_123 (by decide) (fun z => absurd z (by decide)) (fun _ => ?_)
          exact mm_vret C K dX3_upgrade_126 (by
                have ho : o_upgrade u a b e = .inl x_ia := by simp [o_upgrade, b_kindN, e_100 hct.2.1 hct.2.2, c5, c10, c18, c35]
                exact ⟨rfl, by rw [ho, cd_upgrade_1]; rfl⟩) rfl (mm_nl rfl) (mm_nl rfl)
        · skip
          refine mm_iconst (v := 1) C dX3_upgrade_38 (by decide) ?_
          refine mm_goto (tgt := 43) C dX3_upgrade_39 (by decide) ?_
          refine mm_istore (lv' := [(5, .int 1), (4, .int 1), (0, .ref 18), (1, .int a), (2, .int b), (3, .int e)]) C dX3_upgrade_43 hnL (by decide) rfl ?_
          refine mm_iload C dX3_upgrade_45 1 rfl ?_
          refine mm_if_ne (tgt := 77) C dX3_upgrade_47 (by decide) (fun _ => ?_) (fun z => absurd z (by decide))
          refine mm_iconst (v := 0) C dX3_upgrade_77 (by decide) ?_
          refine mm_istore (lv' := [(6, .int 0), (5, .int 1), (4, .int 1), (0, .ref 18), (1, .int a), (2, .int b), (3, .int e)]) C dX3_upgrade_78 hnL (by decide) rfl ?_
          refine mm_aload_n C dX3_upgrade_80 rfl 3 rfl ?_
          refine mm_iload C dX3_upgrade_81 2 rfl ?_
          refine mm_iload C dX3_upgrade_83 1 rfl ?_
          refine mm_iload C dX3_upgrade_85 2 rfl ?_
          refine mm_if_ne (tgt := 99) C dX3_upgrade_87 (by decide) (fun _ => ?_) (fun z => absurd z (by decide))
          refine mm_iconst (v := 0) C dX3_upgrade_99 (by decide) ?_
          refine mm_iload C dX3_upgrade_100 0 rfl ?_
          refine mm_if_eq (tgt := 119) C dX3_upgrade_102 (by decide) (fun _ => ?_) (fun z => absurd z (by decide))
          refine mm_iconst (v := 0) C dX3_upgrade_119 (by decide) ?_
          refine mm_riV C 18 sv_X3_X3_throwing_70 rfl rfl (kX3_throwing _ _ U u _ ck cw F true true false false) ⟨rfl, rfl⟩ ⟨mm_nl rfl, mm_nl rfl⟩ rfl rfl (mm_nl rfl) ⟨mm_nl rfl, mm_nl rfl⟩ dX3_upgrade_120 ?_
          refine mm_if_eq (tgt := 127) C dX3_upgrade_123 (by decide) (fun z => absurd z (by decide)) (fun _ => ?_)
          exact mm_vret C K dX3_upgrade_126 (by
                have ho : o_upgrade u a b e = .inl x_ia := by simp [o_upgrade, b_kindN, e_100 hct.2.1 hct.2.2, c5, c10, c18, c35]
                exact ⟨rfl, by rw [ho, cd_upgrade_1]; rfl⟩) rfl (mm_nl rfl) (mm_nl rfl)
set_option maxHeartbeats 4000000 in
set_option maxRecDepth 100000 in
theorem kX3_open (l : Launch) (D : va_G) (U u : ks_S) (t : Int32) (ck cw : Nat → Int32) (F : List mm_c) (a b e : Int32) (k c i : Nat) (J : ms_I u ck cw k c i) : mm_Wr l D yX3_open (mm_cw yX3_open cX3_open 7 (some .int)) (mm_rm 3) [.ref 18, .int a, .int b, .int e] (ks_H U (ms_H u t ck cw F)) (some (.int (m_an (o_open u a b e)))) (ks_H U (ms_H (m_us u (o_open u a b e)) (m_cd l_open (o_open u a b e)) ck cw F)) := by
  refine mm_start (own := RX3) (by decide) rfl rfl (mm_nl rfl) (fun _ => rfl) (fun _ => rfl) (fun g ad hl hD hnL C K => ?_)
  subst hl
  subst hD
  have J0 := J
  obtain ⟨hI, wP, wA, wA0, hta, htu, hct, hko, hcl, hhv, hw4, htb, hn1, hn2⟩ := J
  show mm_M g ad 0 0 (ks_H U (ms_H u t ck cw F)) 0 [(0, .ref 18), (1, .int a), (2, .int b), (3, .int e)] []
  refine mm_aload_n C dX3_open_0 rfl 0 rfl ?_
  refine mm_iload_n C dX3_open_1 rfl 1 rfl ?_
  refine mm_riV C 18 sv_X3_X3_isKind_66 rfl rfl (kX3_isKind _ _ U u _ ck cw F a k c i hI) ⟨rfl, rfl⟩ ⟨mm_nl rfl, mm_nl rfl⟩ rfl rfl (mm_nl rfl) ⟨mm_nl rfl, mm_nl rfl⟩ dX3_open_2 ?_
  refine mm_ifb_ne (tgt := 12) C dX3_open_5 (by decide) (fun c5 => ?_) (fun c5 => ?_)
  · skip
    refine mm_iconst (v := 0) C dX3_open_12 (by decide) ?_
    refine mm_istore (lv' := [(4, .int 0), (0, .ref 18), (1, .int a), (2, .int b), (3, .int e)]) C dX3_open_13 hnL (by decide) rfl ?_
    refine mm_iload_n C dX3_open_15 rfl 3 rfl ?_
    refine mm_riS C ss_X3_X3_isArea_108 (kX3_isArea _ _ _ b) ⟨rfl, rfl⟩ ⟨mm_nl rfl, mm_nl rfl⟩ rfl rfl (mm_nl rfl) ⟨mm_nl rfl, mm_nl rfl⟩ dX3_open_16 ?_
    refine mm_ifb_eq (tgt := 29) C dX3_open_19 (by decide) (fun c19 => ?_) (fun c19 => ?_)
    · skip
      refine mm_iconst (v := 1) C dX3_open_29 (by decide) ?_
      refine mm_goto (tgt := 34) C dX3_open_30 (by decide) ?_
      refine mm_istore (lv' := [(5, .int 1), (4, .int 0), (0, .ref 18), (1, .int a), (2, .int b), (3, .int e)]) C dX3_open_34 hnL (by decide) rfl ?_
      refine mm_iload C dX3_open_36 1 rfl ?_
      refine mm_if_ne (tgt := 46) C dX3_open_38 (by decide) (fun z => absurd z (by decide)) (fun _ => ?_)
      refine mm_iload C dX3_open_41 0 rfl ?_
      refine mm_if_eq (tgt := 50) C dX3_open_43 (by decide) (fun z => absurd z (by decide)) (fun _ => ?_)
      refine mm_iconst (v := (-1)) C dX3_open_46 (by decide) ?_
      refine mm_goto (tgt := 56) C dX3_open_47 (by decide) ?_
      refine mm_istore (lv' := [(6, .int (-1)), (5, .int 1), (4, .int 0), (0, .ref 18), (1, .int a), (2, .int b), (3, .int e)]) C dX3_open_56 hnL (by decide) rfl ?_
      refine mm_aload_n C dX3_open_58 rfl 3 rfl ?_
      refine mm_iload C dX3_open_59 2 rfl ?_
      refine mm_iload C dX3_open_61 1 rfl ?_
      refine mm_iload C dX3_open_63 0 rfl ?_
      refine mm_if_lt (tgt := 82) C dX3_open_65 (by decide) (fun _ => ?_) (fun z => absurd z (by decide))
      refine mm_iconst (v := 0) C dX3_open_82 (by decide) ?_
      refine mm_aload_n C dX3_open_83 rfl 3 rfl ?_
      refine mm_get C 18 12 (fun w h => mm_wc (inX3 w h)) rfl rfl (by decide) (mm_wc tw479) rfl rfl dX3_open_84 ?_
      refine mm_bipush (v := 60) C dX3_open_87 (by decide) ?_
      refine mm_icmp_ne (tgt := 96) C dX3_open_89 (by decide) (fun c89 => ?_) (fun c89 => ?_)
      · skip
        refine mm_iconst (v := 0) C dX3_open_96 (by decide) ?_
        refine mm_riV C 18 sv_X3_X3_throwing_70 rfl rfl (kX3_throwing _ _ U u _ ck cw F false true false false) ⟨rfl, rfl⟩ ⟨mm_nl rfl, mm_nl rfl⟩ rfl rfl (mm_nl rfl) ⟨mm_nl rfl, mm_nl rfl⟩ dX3_open_97 ?_
        refine mm_if_eq (tgt := 105) C dX3_open_100 (by decide) (fun z => absurd z (by decide)) (fun _ => ?_)
        refine mm_iconst (v := 0) C dX3_open_103 (by decide) ?_
        exact mm_iret C K rfl dX3_open_104 (by
                have ho : o_open u a b e = .inl x_io := by simp [o_open, e_60 hI, c5, c19, c89]
                exact ⟨by rw [ho]; rfl, by rw [ho, cd_open_2]; rfl⟩) rfl (mm_nl rfl) (mm_nl rfl)
      · skip
        refine mm_iconst (v := 1) C dX3_open_92 (by decide) ?_
        refine mm_goto (tgt := 97) C dX3_open_93 (by decide) ?_
        refine mm_riV C 18 sv_X3_X3_throwing_70 rfl rfl (kX3_throwing _ _ U u _ ck cw F false true false true) ⟨rfl, rfl⟩ ⟨mm_nl rfl, mm_nl rfl⟩ rfl rfl (mm_nl rfl) ⟨mm_nl rfl, mm_nl rfl⟩ dX3_open_97 ?_
        refine mm_if_eq (tgt := 105) C dX3_open_100 (by decide) (fun z => absurd z (by decide)) (fun _ => ?_)
        refine mm_iconst (v := 0) C dX3_open_103 (by decide) ?_
        exact mm_iret C K rfl dX3_open_104 (by
                have ho : o_open u a b e = .inl x_io := by simp [o_open, e_60 hI, c5, c19, eq_true c89]
                exact ⟨by rw [ho]; rfl, by rw [ho, cd_open_2]; rfl⟩) rfl (mm_nl rfl) (mm_nl rfl)
    · skip
      refine mm_iload_n C dX3_open_22 rfl 4 rfl ?_
      refine mm_riS C ss_X3_X3_isDay_81 (kX3_isDay _ _ _ e) ⟨rfl, rfl⟩ ⟨mm_nl rfl, mm_nl rfl⟩ rfl rfl (mm_nl rfl) ⟨mm_nl rfl, mm_nl rfl⟩ dX3_open_23 ?_
      refine mm_ifb_ne (tgt := 33) C dX3_open_26 (by decide) (fun c26 => ?_) (fun c26 => ?_)
      · skip
        refine mm_iconst (v := 0) C dX3_open_33 (by decide) ?_
        refine mm_istore (lv' := [(5, .int 0), (4, .int 0), (0, .ref 18), (1, .int a), (2, .int b), (3, .int e)]) C dX3_open_34 hnL (by decide) rfl ?_
        refine mm_iload C dX3_open_36 1 rfl ?_
        refine mm_if_ne (tgt := 46) C dX3_open_38 (by decide) (fun z => absurd z (by decide)) (fun _ => ?_)
        refine mm_iload C dX3_open_41 0 rfl ?_
        refine mm_if_eq (tgt := 50) C dX3_open_43 (by decide) (fun _ => ?_) (fun z => absurd z (by decide))
        refine mm_aload_n C dX3_open_50 rfl 2 rfl ?_
        refine mm_iload_n C dX3_open_51 rfl 3 rfl ?_
        refine mm_iload_n C dX3_open_52 rfl 4 rfl ?_
        refine mm_riV C 18 sv_X3_X3_follow_111 rfl rfl (kX3_follow _ _ U u _ ck cw F a b k c i J0 c5 c19) ⟨rfl, rfl⟩ ⟨mm_nl rfl, mm_nl rfl⟩ rfl rfl (mm_nl rfl) ⟨mm_nl rfl, mm_nl rfl⟩ dX3_open_53 ?_
        refine mm_istore (lv' := [(6, .int (f_ka (k_kn u) (k_ta u) b 40 a)), (5, .int 0), (4, .int 0), (0, .ref 18), (1, .int a), (2, .int b), (3, .int e)]) C dX3_open_56 hnL (by decide) rfl ?_
        refine mm_aload_n C dX3_open_58 rfl 3 rfl ?_
        refine mm_iload C dX3_open_59 2 rfl ?_
        refine mm_iload C dX3_open_61 1 rfl ?_
        refine mm_iload C dX3_open_63 0 rfl ?_
        refine mm_if_lt (tgt := 82) C dX3_open_65 (by decide) (fun z => False.elim ((b_nlt (ka_ok J0 (b := b) 40 a c5)) z)) (fun c65 => ?_)
        refine mm_aload_n C dX3_open_68 rfl 3 rfl ?_
        refine mm_iload C dX3_open_69 0 rfl ?_
        refine mm_iload_n C dX3_open_71 rfl 6 rfl ?_
        refine mm_riV C 18 sv_X3_X3_isClosed_99 rfl rfl (kX3_isClosed _ _ U u _ ck cw F (f_ka (k_kn u) (k_ta u) b 40 a) e k c i J0 (ka_ok J0 40 a c5)) ⟨rfl, rfl⟩ ⟨mm_nl rfl, mm_nl rfl⟩ rfl rfl (mm_nl rfl) ⟨mm_nl rfl, mm_nl rfl⟩ dX3_open_72 ?_
        refine mm_ifb_eq (tgt := 82) C dX3_open_75 (by decide) (fun c75 => ?_) (fun c75 => ?_)
        · skip
          refine mm_iconst (v := 0) C dX3_open_82 (by decide) ?_
          refine mm_aload_n C dX3_open_83 rfl 3 rfl ?_
          refine mm_get C 18 12 (fun w h => mm_wc (inX3 w h)) rfl rfl (by decide) (mm_wc tw479) rfl rfl dX3_open_84 ?_
          refine mm_bipush (v := 60) C dX3_open_87 (by decide) ?_
          refine mm_icmp_ne (tgt := 96) C dX3_open_89 (by decide) (fun c89 => ?_) (fun c89 => ?_)
          · skip
            refine mm_iconst (v := 0) C dX3_open_96 (by decide) ?_
            refine mm_riV C 18 sv_X3_X3_throwing_70 rfl rfl (kX3_throwing _ _ U u _ ck cw F false false false false) ⟨rfl, rfl⟩ ⟨mm_nl rfl, mm_nl rfl⟩ rfl rfl (mm_nl rfl) ⟨mm_nl rfl, mm_nl rfl⟩ dX3_open_97 ?_
            refine mm_if_eq (tgt := 105) C dX3_open_100 (by decide) (fun _ => ?_) (fun z => absurd z (by decide))
            refine mm_aload_n C dX3_open_105 rfl 3 rfl ?_
            refine mm_get C 18 13 (fun w h => mm_wc (inX3 w h)) rfl rfl (by decide) (mm_wc tw480) rfl rfl dX3_open_106 ?_
            refine mm_aload_n C dX3_open_109 rfl 3 rfl ?_
            refine mm_get C 18 12 (fun w h => mm_wc (inX3 w h)) rfl rfl (by decide) (mm_wc tw479) rfl rfl dX3_open_110 ?_
            refine mm_iload C dX3_open_113 0 rfl ?_
            refine mm_iast C 28 rfl (inn_in hI (fun z => c89 ((e_60 hI).mp z))) dX3_open_115 ?_
            refine mm_aload_n C dX3_open_116 rfl 3 rfl ?_
            refine mm_get C 18 14 (fun w h => mm_wc (inX3 w h)) rfl rfl (by decide) (mm_wc tw481) rfl rfl dX3_open_117 ?_
            refine mm_aload_n C dX3_open_120 rfl 3 rfl ?_
            refine mm_get C 18 12 (fun w h => mm_wc (inX3 w h)) rfl rfl (by decide) (mm_wc tw479) rfl rfl dX3_open_121 ?_
            refine mm_iload_n C dX3_open_124 rfl 5 rfl ?_
            refine mm_iast C 29 rfl (inn_in hI (fun z => c89 ((e_60 hI).mp z))) dX3_open_125 ?_
            refine mm_aload_n C dX3_open_126 rfl 3 rfl ?_
            refine mm_dup C dX3_open_127 rfl ?_
            refine mm_get C 18 12 (fun w h => mm_wc (inX3 w h)) rfl rfl (by decide) (mm_wc tw479) rfl rfl dX3_open_128 ?_
            refine mm_iconst (v := 1) C dX3_open_131 (by decide) ?_
            refine mm_iadd C dX3_open_132 ?_
            refine mm_put C 18 12 (fun w h => mm_wc (inX3 w h)) rfl rfl (by decide) tyX3 tyX3_ok nmX3 (mm_wc tw479) rfl rfl (tyX3_ok 12 (by decide)) (fun _ => rfl) (fun _ => rfl) (mm_nl rfl) dX3_open_133 ?_
            refine mm_aload_n C dX3_open_136 rfl 3 rfl ?_
            refine mm_get C 18 12 (fun w h => mm_wc (inX3 w h)) rfl rfl (by decide) (mm_wc tw479) rfl rfl dX3_open_137 ?_
            refine mm_iconst (v := 1) C dX3_open_140 (by decide) ?_
            refine mm_isub C dX3_open_141 ?_
            exact mm_iret C K rfl dX3_open_142 (by
                have ho : o_open u a b e = .inr (some (k_inn u), (k_kn u, k_pa u, k_cl u, k_nw u, k_tb u, k_dy u, k_hw u, k_vl u, k_cs u, k_ta u, k_ts u, k_tu u, k_us u, k_inn u + 1, upd (k_ko u) (k_inn u).toNatClampNeg (f_ka (k_kn u) (k_ta u) b 40 a), upd (k_ao u) (k_inn u).toNatClampNeg b, k_be u, k_se u, k_sk u)) := by simp [o_open, e_60 hI, c5, c19, c26, c75, c89]
                exact ⟨by rw [ho, Int32.add_sub_cancel]; rfl, by rw [ho]; rfl⟩) rfl (mm_nl rfl) (mm_nl rfl)
          · skip
            refine mm_iconst (v := 1) C dX3_open_92 (by decide) ?_
            refine mm_goto (tgt := 97) C dX3_open_93 (by decide) ?_
            refine mm_riV C 18 sv_X3_X3_throwing_70 rfl rfl (kX3_throwing _ _ U u _ ck cw F false false false true) ⟨rfl, rfl⟩ ⟨mm_nl rfl, mm_nl rfl⟩ rfl rfl (mm_nl rfl) ⟨mm_nl rfl, mm_nl rfl⟩ dX3_open_97 ?_
            refine mm_if_eq (tgt := 105) C dX3_open_100 (by decide) (fun z => absurd z (by decide)) (fun _ => ?_)
            refine mm_iconst (v := 0) C dX3_open_103 (by decide) ?_
            exact mm_iret C K rfl dX3_open_104 (by
                have ho : o_open u a b e = .inl x_uo := by simp [o_open, e_60 hI, c5, c19, c26, c75, eq_true c89]
                exact ⟨by rw [ho]; rfl, by rw [ho, cd_open_4]; rfl⟩) rfl (mm_nl rfl) (mm_nl rfl)
        · skip
          refine mm_iconst (v := 1) C dX3_open_78 (by decide) ?_
          refine mm_goto (tgt := 83) C dX3_open_79 (by decide) ?_
          refine mm_aload_n C dX3_open_83 rfl 3 rfl ?_
          refine mm_get C 18 12 (fun w h => mm_wc (inX3 w h)) rfl rfl (by decide) (mm_wc tw479) rfl rfl dX3_open_84 ?_
          refine mm_bipush (v := 60) C dX3_open_87 (by decide) ?_
          refine mm_icmp_ne (tgt := 96) C dX3_open_89 (by decide) (fun c89 => ?_) (fun c89 => ?_)
          · skip
            refine mm_iconst (v := 0) C dX3_open_96 (by decide) ?_
            refine mm_riV C 18 sv_X3_X3_throwing_70 rfl rfl (kX3_throwing _ _ U u _ ck cw F false false true false) ⟨rfl, rfl⟩ ⟨mm_nl rfl, mm_nl rfl⟩ rfl rfl (mm_nl rfl) ⟨mm_nl rfl, mm_nl rfl⟩ dX3_open_97 ?_
            refine mm_if_eq (tgt := 105) C dX3_open_100 (by decide) (fun z => absurd z (by decide)) (fun _ => ?_)
            refine mm_iconst (v := 0) C dX3_open_103 (by decide) ?_
            exact mm_iret C K rfl dX3_open_104 (by
                have ho : o_open u a b e = .inl x_is := by simp [o_open, e_60 hI, c5, c19, c26, c75, c89]
                exact ⟨by rw [ho]; rfl, by rw [ho, cd_open_3]; rfl⟩) rfl (mm_nl rfl) (mm_nl rfl)
          · skip
            refine mm_iconst (v := 1) C dX3_open_92 (by decide) ?_
            refine mm_goto (tgt := 97) C dX3_open_93 (by decide) ?_
            refine mm_riV C 18 sv_X3_X3_throwing_70 rfl rfl (kX3_throwing _ _ U u _ ck cw F false false true true) ⟨rfl, rfl⟩ ⟨mm_nl rfl, mm_nl rfl⟩ rfl rfl (mm_nl rfl) ⟨mm_nl rfl, mm_nl rfl⟩ dX3_open_97 ?_
            refine mm_if_eq (tgt := 105) C dX3_open_100 (by decide) (fun z => absurd z (by decide)) (fun _ => ?_)
            refine mm_iconst (v := 0) C dX3_open_103 (by decide) ?_
            exact mm_iret C K rfl dX3_open_104 (by
                have ho : o_open u a b e = .inl x_is := by simp [o_open, e_60 hI, c5, c19, c26, c75, eq_true c89]
                exact ⟨by rw [ho]; rfl, by rw [ho, cd_open_3]; rfl⟩) rfl (mm_nl rfl) (mm_nl rfl)
      · skip
        refine mm_iconst (v := 1) C dX3_open_29 (by decide) ?_
        refine mm_goto (tgt := 34) C dX3_open_30 (by decide) ?_
        refine mm_istore (lv' := [(5, .int 1), (4, .int 0), (0, .ref 18), (1, .int a), (2, .int b), (3, .int e)]) C dX3_open_34 hnL (by decide) rfl ?_
        refine mm_iload C dX3_open_36 1 rfl ?_
        refine mm_if_ne (tgt := 46) C dX3_open_38 (by decide) (fun z => absurd z (by decide)) (fun _ => ?_)
        refine mm_iload C dX3_open_41 0 rfl ?_
        refine mm_if_eq (tgt := 50) C dX3_open_43 (by decide) (fun z => absurd z (by decide)) (fun _ => ?_)
        refine mm_iconst (v := (-1)) C dX3_open_46 (by decide) ?_
        refine mm_goto (tgt := 56) C dX3_open_47 (by decide) ?_
        refine mm_istore (lv' := [(6, .int (-1)), (5, .int 1), (4, .int 0), (0, .ref 18), (1, .int a), (2, .int b), (3, .int e)]) C dX3_open_56 hnL (by decide) rfl ?_
        refine mm_aload_n C dX3_open_58 rfl 3 rfl ?_
        refine mm_iload C dX3_open_59 2 rfl ?_
        refine mm_iload C dX3_open_61 1 rfl ?_
        refine mm_iload C dX3_open_63 0 rfl ?_
        refine mm_if_lt (tgt := 82) C dX3_open_65 (by decide) (fun _ => ?_) (fun z => absurd z (by decide))
        refine mm_iconst (v := 0) C dX3_open_82 (by decide) ?_
        refine mm_aload_n C dX3_open_83 rfl 3 rfl ?_
        refine mm_get C 18 12 (fun w h => mm_wc (inX3 w h)) rfl rfl (by decide) (mm_wc tw479) rfl rfl dX3_open_84 ?_
        refine mm_bipush (v := 60) C dX3_open_87 (by decide) ?_
        refine mm_icmp_ne (tgt := 96) C dX3_open_89 (by decide) (fun c89 => ?_) (fun c89 => ?_)
        · skip
          refine mm_iconst (v := 0) C dX3_open_96 (by decide) ?_
          refine mm_riV C 18 sv_X3_X3_throwing_70 rfl rfl (kX3_throwing _ _ U u _ ck cw F false true false false) ⟨rfl, rfl⟩ ⟨mm_nl rfl, mm_nl rfl⟩ rfl rfl (mm_nl rfl) ⟨mm_nl rfl, mm_nl rfl⟩ dX3_open_97 ?_
          refine mm_if_eq (tgt := 105) C dX3_open_100 (by decide) (fun z => absurd z (by decide)) (fun _ => ?_)
          refine mm_iconst (v := 0) C dX3_open_103 (by decide) ?_
          exact mm_iret C K rfl dX3_open_104 (by
                have ho : o_open u a b e = .inl x_io := by simp [o_open, e_60 hI, c5, c19, c26, c89]
                exact ⟨by rw [ho]; rfl, by rw [ho, cd_open_2]; rfl⟩) rfl (mm_nl rfl) (mm_nl rfl)
        · skip
          refine mm_iconst (v := 1) C dX3_open_92 (by decide) ?_
          refine mm_goto (tgt := 97) C dX3_open_93 (by decide) ?_
          refine mm_riV C 18 sv_X3_X3_throwing_70 rfl rfl (kX3_throwing _ _ U u _ ck cw F false true false true) ⟨rfl, rfl⟩ ⟨mm_nl rfl, mm_nl rfl⟩ rfl rfl (mm_nl rfl) ⟨mm_nl rfl, mm_nl rfl⟩ dX3_open_97 ?_
          refine mm_if_eq (tgt := 105) C dX3_open_100 (by decide) (fun z => absurd z (by decide)) (fun _ => ?_)
          refine mm_iconst (v := 0) C dX3_open_103 (by decide) ?_
          exact mm_iret C K rfl dX3_open_104 (by
                have ho : o_open u a b e = .inl x_io := by simp [o_open, e_60 hI, c5, c19, c26, eq_true c89]
                exact ⟨by rw [ho]; rfl, by rw [ho, cd_open_2]; rfl⟩) rfl (mm_nl rfl) (mm_nl rfl)
  · skip
    refine mm_iconst (v := 1) C dX3_open_8 (by decide) ?_
    refine mm_goto (tgt := 13) C dX3_open_9 (by decide) ?_
    refine mm_istore (lv' := [(4, .int 1), (0, .ref 18), (1, .int a), (2, .int b), (3, .int e)]) C dX3_open_13 hnL (by decide) rfl ?_
    refine mm_iload_n C dX3_open_15 rfl 3 rfl ?_
    refine mm_riS C ss_X3_X3_isArea_108 (kX3_isArea _ _ _ b) ⟨rfl, rfl⟩ ⟨mm_nl rfl, mm_nl rfl⟩ rfl rfl (mm_nl rfl) ⟨mm_nl rfl, mm_nl rfl⟩ dX3_open_16 ?_
    refine mm_ifb_eq (tgt := 29) C dX3_open_19 (by decide) (fun c19 => ?_) (fun c19 => ?_)
    · skip
      refine mm_iconst (v := 1) C dX3_open_29 (by decide) ?_
      refine mm_goto (tgt := 34) C dX3_open_30 (by decide) ?_
      refine mm_istore (lv' := [(5, .int 1), (4, .int 1), (0, .ref 18), (1, .int a), (2, .int b), (3, .int e)]) C dX3_open_34 hnL (by decide) rfl ?_
      refine mm_iload C dX3_open_36 1 rfl ?_
      refine mm_if_ne (tgt := 46) C dX3_open_38 (by decide) (fun _ => ?_) (fun z => absurd z (by decide))
      refine mm_iconst (v := (-1)) C dX3_open_46 (by decide) ?_
      refine mm_goto (tgt := 56) C dX3_open_47 (by decide) ?_
      refine mm_istore (lv' := [(6, .int (-1)), (5, .int 1), (4, .int 1), (0, .ref 18), (1, .int a), (2, .int b), (3, .int e)]) C dX3_open_56 hnL (by decide) rfl ?_
      refine mm_aload_n C dX3_open_58 rfl 3 rfl ?_
      refine mm_iload C dX3_open_59 2 rfl ?_
      refine mm_iload C dX3_open_61 1 rfl ?_
      refine mm_iload C dX3_open_63 0 rfl ?_
      refine mm_if_lt (tgt := 82) C dX3_open_65 (by decide) (fun _ => ?_) (fun z => absurd z (by decide))
      refine mm_iconst (v := 0) C dX3_open_82 (by decide) ?_
      refine mm_aload_n C dX3_open_83 rfl 3 rfl ?_
      refine mm_get C 18 12 (fun w h => mm_wc (inX3 w h)) rfl rfl (by decide) (mm_wc tw479) rfl rfl dX3_open_84 ?_
      refine mm_bipush (v := 60) C dX3_open_87 (by decide) ?_
      refine mm_icmp_ne (tgt := 96) C dX3_open_89 (by decide) (fun c89 => ?_) (fun c89 => ?_)
      · skip
        refine mm_iconst (v := 0) C dX3_open_96 (by decide) ?_
        refine mm_riV C 18 sv_X3_X3_throwing_70 rfl rfl (kX3_throwing _ _ U u _ ck cw F true true false false) ⟨rfl, rfl⟩ ⟨mm_nl rfl, mm_nl rfl⟩ rfl rfl (mm_nl rfl) ⟨mm_nl rfl, mm_nl rfl⟩ dX3_open_97 ?_
        refine mm_if_eq (tgt := 105) C dX3_open_100 (by decide) (fun z => absurd z (by decide)) (fun _ => ?_)
        refine mm_iconst (v := 0) C dX3_open_103 (by decide) ?_
        exact mm_iret C K rfl dX3_open_104 (by
                have ho : o_open u a b e = .inl x_ia := by simp [o_open, e_60 hI, c5, c19, c89]
                exact ⟨by rw [ho]; rfl, by rw [ho, cd_open_1]; rfl⟩) rfl (mm_nl rfl) (mm_nl rfl)
      · skip
        refine mm_iconst (v := 1) C dX3_open_92 (by decide) ?_
        refine mm_goto (tgt := 97) C dX3_open_93 (by decide) ?_
        refine mm_riV C 18 sv_X3_X3_throwing_70 rfl rfl (kX3_throwing _ _ U u _ ck cw F true true false true) ⟨rfl, rfl⟩ ⟨mm_nl rfl, mm_nl rfl⟩ rfl rfl (mm_nl rfl) ⟨mm_nl rfl, mm_nl rfl⟩ dX3_open_97 ?_
        refine mm_if_eq (tgt := 105) C dX3_open_100 (by decide) (fun z => absurd z (by decide)) (fun _ => ?_)
        refine mm_iconst (v := 0) C dX3_open_103 (by decide) ?_
        exact mm_iret C K rfl dX3_open_104 (by
                have ho : o_open u a b e = .inl x_ia := by simp [o_open, e_60 hI, c5, c19, eq_true c89]
                exact ⟨by rw [ho]; rfl, by rw [ho, cd_open_1]; rfl⟩) rfl (mm_nl rfl) (mm_nl rfl)
    · skip
      refine mm_iload_n C dX3_open_22 rfl 4 rfl ?_
      refine mm_riS C ss_X3_X3_isDay_81 (kX3_isDay _ _ _ e) ⟨rfl, rfl⟩ ⟨mm_nl rfl, mm_nl rfl⟩ rfl rfl (mm_nl rfl) ⟨mm_nl rfl, mm_nl rfl⟩ dX3_open_23 ?_
      refine mm_ifb_ne (tgt := 33) C dX3_open_26 (by decide) (fun c26 => ?_) (fun c26 => ?_)
      · skip
        refine mm_iconst (v := 0) C dX3_open_33 (by decide) ?_
        refine mm_istore (lv' := [(5, .int 0), (4, .int 1), (0, .ref 18), (1, .int a), (2, .int b), (3, .int e)]) C dX3_open_34 hnL (by decide) rfl ?_
        refine mm_iload C dX3_open_36 1 rfl ?_
        refine mm_if_ne (tgt := 46) C dX3_open_38 (by decide) (fun _ => ?_) (fun z => absurd z (by decide))
        refine mm_iconst (v := (-1)) C dX3_open_46 (by decide) ?_
        refine mm_goto (tgt := 56) C dX3_open_47 (by decide) ?_
        refine mm_istore (lv' := [(6, .int (-1)), (5, .int 0), (4, .int 1), (0, .ref 18), (1, .int a), (2, .int b), (3, .int e)]) C dX3_open_56 hnL (by decide) rfl ?_
        refine mm_aload_n C dX3_open_58 rfl 3 rfl ?_
        refine mm_iload C dX3_open_59 2 rfl ?_
        refine mm_iload C dX3_open_61 1 rfl ?_
        refine mm_iload C dX3_open_63 0 rfl ?_
        refine mm_if_lt (tgt := 82) C dX3_open_65 (by decide) (fun _ => ?_) (fun z => absurd z (by decide))
        refine mm_iconst (v := 0) C dX3_open_82 (by decide) ?_
        refine mm_aload_n C dX3_open_83 rfl 3 rfl ?_
        refine mm_get C 18 12 (fun w h => mm_wc (inX3 w h)) rfl rfl (by decide) (mm_wc tw479) rfl rfl dX3_open_84 ?_
        refine mm_bipush (v := 60) C dX3_open_87 (by decide) ?_
        refine mm_icmp_ne (tgt := 96) C dX3_open_89 (by decide) (fun c89 => ?_) (fun c89 => ?_)
        · skip
          refine mm_iconst (v := 0) C dX3_open_96 (by decide) ?_
          refine mm_riV C 18 sv_X3_X3_throwing_70 rfl rfl (kX3_throwing _ _ U u _ ck cw F true false false false) ⟨rfl, rfl⟩ ⟨mm_nl rfl, mm_nl rfl⟩ rfl rfl (mm_nl rfl) ⟨mm_nl rfl, mm_nl rfl⟩ dX3_open_97 ?_
          refine mm_if_eq (tgt := 105) C dX3_open_100 (by decide) (fun z => absurd z (by decide)) (fun _ => ?_)
          refine mm_iconst (v := 0) C dX3_open_103 (by decide) ?_
          exact mm_iret C K rfl dX3_open_104 (by
                have ho : o_open u a b e = .inl x_ia := by simp [o_open, e_60 hI, c5, c19, c26, c89]
                exact ⟨by rw [ho]; rfl, by rw [ho, cd_open_1]; rfl⟩) rfl (mm_nl rfl) (mm_nl rfl)
        · skip
          refine mm_iconst (v := 1) C dX3_open_92 (by decide) ?_
          refine mm_goto (tgt := 97) C dX3_open_93 (by decide) ?_
          refine mm_riV C 18 sv_X3_X3_throwing_70 rfl rfl (kX3_throwing _ _ U u _ ck cw F true false false true) ⟨rfl, rfl⟩ ⟨mm_nl rfl, mm_nl rfl⟩ rfl rfl (mm_nl rfl) ⟨mm_nl rfl, mm_nl rfl⟩ dX3_open_97 ?_
          refine mm_if_eq (tgt := 105) C dX3_open_100 (by decide) (fun z => absurd z (by decide)) (fun _ => ?_)
          refine mm_iconst (v := 0) C dX3_open_103 (by decide) ?_
          exact mm_iret C K rfl dX3_open_104 (by
                have ho : o_open u a b e = .inl x_ia := by simp [o_open, e_60 hI, c5, c19, c26, eq_true c89]
                exact ⟨by rw [ho]; rfl, by rw [ho, cd_open_1]; rfl⟩) rfl (mm_nl rfl) (mm_nl rfl)
      · skip
        refine mm_iconst (v := 1) C dX3_open_29 (by decide) ?_
        refine mm_goto (tgt := 34) C dX3_open_30 (by decide) ?_
        refine mm_istore (lv' := [(5, .int 1), (4, .int 1), (0, .ref 18), (1, .int a), (2, .int b), (3, .int e)]) C dX3_open_34 hnL (by decide) rfl ?_
        refine mm_iload C dX3_open_36 1 rfl ?_
        refine mm_if_ne (tgt := 46) C dX3_open_38 (by decide) (fun _ => ?_) (fun z => absurd z (by decide))
        refine mm_iconst (v := (-1)) C dX3_open_46 (by decide) ?_
        refine mm_goto (tgt := 56) C dX3_open_47 (by decide) ?_
        refine mm_istore (lv' := [(6, .int (-1)), (5, .int 1), (4, .int 1), (0, .ref 18), (1, .int a), (2, .int b), (3, .int e)]) C dX3_open_56 hnL (by decide) rfl ?_
        refine mm_aload_n C dX3_open_58 rfl 3 rfl ?_
        refine mm_iload C dX3_open_59 2 rfl ?_
        refine mm_iload C dX3_open_61 1 rfl ?_
        refine mm_iload C dX3_open_63 0 rfl ?_
        refine mm_if_lt (tgt := 82) C dX3_open_65 (by decide) (fun _ => ?_) (fun z => absurd z (by decide))
        refine mm_iconst (v := 0) C dX3_open_82 (by decide) ?_
        refine mm_aload_n C dX3_open_83 rfl 3 rfl ?_
        refine mm_get C 18 12 (fun w h => mm_wc (inX3 w h)) rfl rfl (by decide) (mm_wc tw479) rfl rfl dX3_open_84 ?_
        refine mm_bipush (v := 60) C dX3_open_87 (by decide) ?_
        refine mm_icmp_ne (tgt := 96) C dX3_open_89 (by decide) (fun c89 => ?_) (fun c89 => ?_)
        · skip
          refine mm_iconst (v := 0) C dX3_open_96 (by decide) ?_
          refine mm_riV C 18 sv_X3_X3_throwing_70 rfl rfl (kX3_throwing _ _ U u _ ck cw F true true false false) ⟨rfl, rfl⟩ ⟨mm_nl rfl, mm_nl rfl⟩ rfl rfl (mm_nl rfl) ⟨mm_nl rfl, mm_nl rfl⟩ dX3_open_97 ?_
          refine mm_if_eq (tgt := 105) C dX3_open_100 (by decide) (fun z => absurd z (by decide)) (fun _ => ?_)
          refine mm_iconst (v := 0) C dX3_open_103 (by decide) ?_
          exact mm_iret C K rfl dX3_open_104 (by
                have ho : o_open u a b e = .inl x_ia := by simp [o_open, e_60 hI, c5, c19, c26, c89]
                exact ⟨by rw [ho]; rfl, by rw [ho, cd_open_1]; rfl⟩) rfl (mm_nl rfl) (mm_nl rfl)
        · skip
          refine mm_iconst (v := 1) C dX3_open_92 (by decide) ?_
          refine mm_goto (tgt := 97) C dX3_open_93 (by decide) ?_
          refine mm_riV C 18 sv_X3_X3_throwing_70 rfl rfl (kX3_throwing _ _ U u _ ck cw F true true false true) ⟨rfl, rfl⟩ ⟨mm_nl rfl, mm_nl rfl⟩ rfl rfl (mm_nl rfl) ⟨mm_nl rfl, mm_nl rfl⟩ dX3_open_97 ?_
          refine mm_if_eq (tgt := 105) C dX3_open_100 (by decide) (fun z => absurd z (by decide)) (fun _ => ?_)
          refine mm_iconst (v := 0) C dX3_open_103 (by decide) ?_
          exact mm_iret C K rfl dX3_open_104 (by
                have ho : o_open u a b e = .inl x_ia := by simp [o_open, e_60 hI, c5, c19, c26, eq_true c89]
                exact ⟨by rw [ho]; rfl, by rw [ho, cd_open_1]; rfl⟩) rfl (mm_nl rfl) (mm_nl rfl)
set_option maxHeartbeats 4000000 in
set_option maxRecDepth 100000 in
theorem kX3_send (l : Launch) (D : va_G) (U u : ks_S) (t : Int32) (ck cw : Nat → Int32) (F : List mm_c) (a b e : Int32) (k c i : Nat) (J : ms_I u ck cw k c i) : mm_Wr l D yX3_send (mm_cw yX3_send cX3_send 6 (some .int)) (mm_rm 3) [.ref 18, .int a, .int b, .int e] (ks_H U (ms_H u t ck cw F)) (some (.int (m_an (o_send u a b e)))) (ks_H U (ms_H (m_us u (o_send u a b e)) (m_cd l_send (o_send u a b e)) ck cw F)) := by
  refine mm_start (own := RX3) (by decide) rfl rfl (mm_nl rfl) (fun _ => rfl) (fun _ => rfl) (fun g ad hl hD hnL C K => ?_)
  subst hl
  subst hD
  have J0 := J
  obtain ⟨hI, wP, wA, wA0, hta, htu, hct, hko, hcl, hhv, hw4, htb, hn1, hn2⟩ := J
  show mm_M g ad 0 0 (ks_H U (ms_H u t ck cw F)) 0 [(0, .ref 18), (1, .int a), (2, .int b), (3, .int e)] []
  refine mm_aload_n C dX3_send_0 rfl 0 rfl ?_
  refine mm_iload_n C dX3_send_1 rfl 1 rfl ?_
  refine mm_riV C 18 sv_X3_X3_isIncident_119 rfl rfl (kX3_isIncident _ _ U u _ ck cw F a k c i hI) ⟨rfl, rfl⟩ ⟨mm_nl rfl, mm_nl rfl⟩ rfl rfl (mm_nl rfl) ⟨mm_nl rfl, mm_nl rfl⟩ dX3_send_2 ?_
  refine mm_ifb_eq (tgt := 18) C dX3_send_5 (by decide) (fun c5 => ?_) (fun c5 => ?_)
  · skip
    refine mm_iconst (v := 1) C dX3_send_18 (by decide) ?_
    refine mm_goto (tgt := 23) C dX3_send_19 (by decide) ?_
    refine mm_istore (lv' := [(4, .int 1), (0, .ref 18), (1, .int a), (2, .int b), (3, .int e)]) C dX3_send_23 hnL (by decide) rfl ?_
    refine mm_iload_n C dX3_send_25 rfl 4 rfl ?_
    refine mm_iconst (v := 1) C dX3_send_26 (by decide) ?_
    refine mm_bipush (v := 100) C dX3_send_27 (by decide) ?_
    refine mm_riS C ss_X3_X3_between_59 (kX3_between _ _ _ e 1 100 (b_btw e 1 100) rfl) ⟨rfl, rfl⟩ ⟨mm_nl rfl, mm_nl rfl⟩ rfl rfl (mm_nl rfl) ⟨mm_nl rfl, mm_nl rfl⟩ dX3_send_29 ?_
    refine mm_ifb_ne (tgt := 39) C dX3_send_32 (by decide) (fun c32 => ?_) (fun c32 => ?_)
    · skip
      refine mm_iconst (v := 0) C dX3_send_39 (by decide) ?_
      refine mm_istore (lv' := [(5, .int 0), (4, .int 1), (0, .ref 18), (1, .int a), (2, .int b), (3, .int e)]) C dX3_send_40 hnL (by decide) rfl ?_
      refine mm_aload_n C dX3_send_42 rfl 2 rfl ?_
      refine mm_iload C dX3_send_43 1 rfl ?_
      refine mm_iload C dX3_send_45 0 rfl ?_
      refine mm_iload C dX3_send_47 1 rfl ?_
      refine mm_if_ne (tgt := 98) C dX3_send_49 (by decide) (fun _ => ?_) (fun z => absurd z (by decide))
      refine mm_iconst (v := 0) C dX3_send_98 (by decide) ?_
      refine mm_iconst (v := 0) C dX3_send_99 (by decide) ?_
      refine mm_riV C 18 sv_X3_X3_throwing_70 rfl rfl (kX3_throwing _ _ U u _ ck cw F true false false false) ⟨rfl, rfl⟩ ⟨mm_nl rfl, mm_nl rfl⟩ rfl rfl (mm_nl rfl) ⟨mm_nl rfl, mm_nl rfl⟩ dX3_send_100 ?_
      refine mm_if_eq (tgt := 108) C dX3_send_103 (by decide) (fun z => absurd z (by decide)) (fun _ => ?_)
      refine mm_iconst (v := 0) C dX3_send_106 (by decide) ?_
      exact mm_iret C K rfl dX3_send_107 (by
                have ho : o_send u a b e = .inl x_ia := by simp [o_send, ite_btw, c5, c32]
                exact ⟨by rw [ho]; rfl, by rw [ho, cd_send_1]; rfl⟩) rfl (mm_nl rfl) (mm_nl rfl)
    · skip
      refine mm_iconst (v := 1) C dX3_send_35 (by decide) ?_
      refine mm_goto (tgt := 40) C dX3_send_36 (by decide) ?_
      refine mm_istore (lv' := [(5, .int 1), (4, .int 1), (0, .ref 18), (1, .int a), (2, .int b), (3, .int e)]) C dX3_send_40 hnL (by decide) rfl ?_
      refine mm_aload_n C dX3_send_42 rfl 2 rfl ?_
      refine mm_iload C dX3_send_43 1 rfl ?_
      refine mm_iload C dX3_send_45 0 rfl ?_
      refine mm_iload C dX3_send_47 1 rfl ?_
      refine mm_if_ne (tgt := 98) C dX3_send_49 (by decide) (fun _ => ?_) (fun z => absurd z (by decide))
      refine mm_iconst (v := 0) C dX3_send_98 (by decide) ?_
      refine mm_iconst (v := 0) C dX3_send_99 (by decide) ?_
      refine mm_riV C 18 sv_X3_X3_throwing_70 rfl rfl (kX3_throwing _ _ U u _ ck cw F true true false false) ⟨rfl, rfl⟩ ⟨mm_nl rfl, mm_nl rfl⟩ rfl rfl (mm_nl rfl) ⟨mm_nl rfl, mm_nl rfl⟩ dX3_send_100 ?_
      refine mm_if_eq (tgt := 108) C dX3_send_103 (by decide) (fun z => absurd z (by decide)) (fun _ => ?_)
      refine mm_iconst (v := 0) C dX3_send_106 (by decide) ?_
      exact mm_iret C K rfl dX3_send_107 (by
                have ho : o_send u a b e = .inl x_ia := by simp [o_send, ite_btw, c5, c32]
                exact ⟨by rw [ho]; rfl, by rw [ho, cd_send_1]; rfl⟩) rfl (mm_nl rfl) (mm_nl rfl)
  · skip
    refine mm_iload_n C dX3_send_8 rfl 2 rfl ?_
    refine mm_iconst (v := 0) C dX3_send_9 (by decide) ?_
    refine mm_bipush (v := 15) C dX3_send_10 (by decide) ?_
    refine mm_riS C ss_X3_X3_between_59 (kX3_between _ _ _ b 0 15 (b_below b 16) (bw_below (by decide))) ⟨rfl, rfl⟩ ⟨mm_nl rfl, mm_nl rfl⟩ rfl rfl (mm_nl rfl) ⟨mm_nl rfl, mm_nl rfl⟩ dX3_send_12 ?_
    refine mm_ifb_ne (tgt := 22) C dX3_send_15 (by decide) (fun c15 => ?_) (fun c15 => ?_)
    · skip
      refine mm_iconst (v := 0) C dX3_send_22 (by decide) ?_
      refine mm_istore (lv' := [(4, .int 0), (0, .ref 18), (1, .int a), (2, .int b), (3, .int e)]) C dX3_send_23 hnL (by decide) rfl ?_
      refine mm_iload_n C dX3_send_25 rfl 4 rfl ?_
      refine mm_iconst (v := 1) C dX3_send_26 (by decide) ?_
      refine mm_bipush (v := 100) C dX3_send_27 (by decide) ?_
      refine mm_riS C ss_X3_X3_between_59 (kX3_between _ _ _ e 1 100 (b_btw e 1 100) rfl) ⟨rfl, rfl⟩ ⟨mm_nl rfl, mm_nl rfl⟩ rfl rfl (mm_nl rfl) ⟨mm_nl rfl, mm_nl rfl⟩ dX3_send_29 ?_
      refine mm_ifb_ne (tgt := 39) C dX3_send_32 (by decide) (fun c32 => ?_) (fun c32 => ?_)
      · skip
        refine mm_iconst (v := 0) C dX3_send_39 (by decide) ?_
        refine mm_istore (lv' := [(5, .int 0), (4, .int 0), (0, .ref 18), (1, .int a), (2, .int b), (3, .int e)]) C dX3_send_40 hnL (by decide) rfl ?_
        refine mm_aload_n C dX3_send_42 rfl 2 rfl ?_
        refine mm_iload C dX3_send_43 1 rfl ?_
        refine mm_iload C dX3_send_45 0 rfl ?_
        refine mm_iload C dX3_send_47 1 rfl ?_
        refine mm_if_ne (tgt := 98) C dX3_send_49 (by decide) (fun z => absurd z (by decide)) (fun _ => ?_)
        refine mm_iload C dX3_send_52 0 rfl ?_
        refine mm_if_ne (tgt := 98) C dX3_send_54 (by decide) (fun z => absurd z (by decide)) (fun _ => ?_)
        refine mm_aload_n C dX3_send_57 rfl 2 rfl ?_
        refine mm_get C 18 16 (fun w h => mm_wc (inX3 w h)) rfl rfl (by decide) (mm_wc tw483) rfl rfl dX3_send_58 ?_
        refine mm_bipush (v := 16) C dX3_send_61 (by decide) ?_
        refine mm_iload C dX3_send_63 1 rfl ?_
        refine mm_if_eq (tgt := 72) C dX3_send_65 (by decide) (fun _ => ?_) (fun z => absurd z (by decide))
        refine mm_iload_n C dX3_send_72 rfl 3 rfl ?_
        refine mm_imulc C dX3_send_73 ?_
        refine mm_iload C dX3_send_74 1 rfl ?_
        refine mm_if_eq (tgt := 83) C dX3_send_76 (by decide) (fun _ => ?_) (fun z => absurd z (by decide))
        refine mm_iload_n C dX3_send_83 rfl 4 rfl ?_
        refine mm_iadd C dX3_send_84 ?_
        refine mm_iald C 31 rfl (ix_m (c := 16) hI.i60 c5 (bt c15 rfl) (by decide) (by decide) (by decide)) dX3_send_85 ?_
        refine mm_iload_n C dX3_send_86 rfl 5 rfl ?_
        refine mm_iadd C dX3_send_87 ?_
        refine mm_sipush (v := 1000) C dX3_send_88 (by decide) ?_
        refine mm_icmp_le (tgt := 98) C dX3_send_91 (by decide) (fun c91 => ?_) (fun c91 => ?_)
        · skip
          refine mm_iconst (v := 0) C dX3_send_98 (by decide) ?_
          refine mm_iconst (v := 0) C dX3_send_99 (by decide) ?_
          refine mm_riV C 18 sv_X3_X3_throwing_70 rfl rfl (kX3_throwing _ _ U u _ ck cw F false false false false) ⟨rfl, rfl⟩ ⟨mm_nl rfl, mm_nl rfl⟩ rfl rfl (mm_nl rfl) ⟨mm_nl rfl, mm_nl rfl⟩ dX3_send_100 ?_
          refine mm_if_eq (tgt := 108) C dX3_send_103 (by decide) (fun _ => ?_) (fun z => absurd z (by decide))
          refine mm_aload_n C dX3_send_108 rfl 2 rfl ?_
          refine mm_get C 18 16 (fun w h => mm_wc (inX3 w h)) rfl rfl (by decide) (mm_wc tw483) rfl rfl dX3_send_109 ?_
          refine mm_bipush (v := 16) C dX3_send_112 (by decide) ?_
          refine mm_iload_n C dX3_send_114 rfl 3 rfl ?_
          refine mm_imulc C dX3_send_115 ?_
          refine mm_iload_n C dX3_send_116 rfl 4 rfl ?_
          refine mm_iadd C dX3_send_117 ?_
          refine mm_dup2 C dX3_send_118 rfl rfl ?_
          refine mm_iald C 31 rfl (ix_m (c := 16) hI.i60 c5 (bt c15 rfl) (by decide) (by decide) (by decide)) dX3_send_119 ?_
          refine mm_iload_n C dX3_send_120 rfl 5 rfl ?_
          refine mm_iadd C dX3_send_121 ?_
          refine mm_iast C 31 rfl (ix_m (c := 16) hI.i60 c5 (bt c15 rfl) (by decide) (by decide) (by decide)) dX3_send_122 ?_
          refine mm_aload_n C dX3_send_123 rfl 2 rfl ?_
          refine mm_get C 18 16 (fun w h => mm_wc (inX3 w h)) rfl rfl (by decide) (mm_wc tw483) rfl rfl dX3_send_124 ?_
          refine mm_bipush (v := 16) C dX3_send_127 (by decide) ?_
          refine mm_iload_n C dX3_send_129 rfl 3 rfl ?_
          refine mm_imulc C dX3_send_130 ?_
          refine mm_iload_n C dX3_send_131 rfl 4 rfl ?_
          refine mm_iadd C dX3_send_132 ?_
          refine mm_iald C 31 rfl (ix_m (c := 16) hI.i60 c5 (bt c15 rfl) (by decide) (by decide) (by decide)) dX3_send_133 ?_
          exact mm_iret C K rfl dX3_send_134 (by
                have ho : o_send u a b e = .inr (some (k_se u (a * 16 + b).toNatClampNeg + e), (k_kn u, k_pa u, k_cl u, k_nw u, k_tb u, k_dy u, k_hw u, k_vl u, k_cs u, k_ta u, k_ts u, k_tu u, k_us u, k_inn u, k_ko u, k_ao u, k_be u, upd (k_se u) (a * 16 + b).toNatClampNeg (k_se u (a * 16 + b).toNatClampNeg + e), k_sk u)) := by simp [o_send, ite_btw, c5, c15, c32, c91, Int32.not_lt.mpr c91]
                exact ⟨by rw [ho, pk_us]; rfl, by rw [ho]; rfl⟩) rfl (mm_nl rfl) (mm_nl rfl)
        · skip
          refine mm_iconst (v := 1) C dX3_send_94 (by decide) ?_
          refine mm_goto (tgt := 99) C dX3_send_95 (by decide) ?_
          refine mm_iconst (v := 0) C dX3_send_99 (by decide) ?_
          refine mm_riV C 18 sv_X3_X3_throwing_70 rfl rfl (kX3_throwing _ _ U u _ ck cw F false false true false) ⟨rfl, rfl⟩ ⟨mm_nl rfl, mm_nl rfl⟩ rfl rfl (mm_nl rfl) ⟨mm_nl rfl, mm_nl rfl⟩ dX3_send_100 ?_
          refine mm_if_eq (tgt := 108) C dX3_send_103 (by decide) (fun z => absurd z (by decide)) (fun _ => ?_)
          refine mm_iconst (v := 0) C dX3_send_106 (by decide) ?_
          exact mm_iret C K rfl dX3_send_107 (by
                have ho : o_send u a b e = .inl x_uo := by simp [o_send, ite_btw, c5, c15, c32, c91, Int32.not_le.mp c91]
                exact ⟨by rw [ho]; rfl, by rw [ho, cd_send_3]; rfl⟩) rfl (mm_nl rfl) (mm_nl rfl)
      · skip
        refine mm_iconst (v := 1) C dX3_send_35 (by decide) ?_
        refine mm_goto (tgt := 40) C dX3_send_36 (by decide) ?_
        refine mm_istore (lv' := [(5, .int 1), (4, .int 0), (0, .ref 18), (1, .int a), (2, .int b), (3, .int e)]) C dX3_send_40 hnL (by decide) rfl ?_
        refine mm_aload_n C dX3_send_42 rfl 2 rfl ?_
        refine mm_iload C dX3_send_43 1 rfl ?_
        refine mm_iload C dX3_send_45 0 rfl ?_
        refine mm_iload C dX3_send_47 1 rfl ?_
        refine mm_if_ne (tgt := 98) C dX3_send_49 (by decide) (fun z => absurd z (by decide)) (fun _ => ?_)
        refine mm_iload C dX3_send_52 0 rfl ?_
        refine mm_if_ne (tgt := 98) C dX3_send_54 (by decide) (fun _ => ?_) (fun z => absurd z (by decide))
        refine mm_iconst (v := 0) C dX3_send_98 (by decide) ?_
        refine mm_iconst (v := 0) C dX3_send_99 (by decide) ?_
        refine mm_riV C 18 sv_X3_X3_throwing_70 rfl rfl (kX3_throwing _ _ U u _ ck cw F false true false false) ⟨rfl, rfl⟩ ⟨mm_nl rfl, mm_nl rfl⟩ rfl rfl (mm_nl rfl) ⟨mm_nl rfl, mm_nl rfl⟩ dX3_send_100 ?_
        refine mm_if_eq (tgt := 108) C dX3_send_103 (by decide) (fun z => absurd z (by decide)) (fun _ => ?_)
        refine mm_iconst (v := 0) C dX3_send_106 (by decide) ?_
        exact mm_iret C K rfl dX3_send_107 (by
                have ho : o_send u a b e = .inl x_io := by simp [o_send, ite_btw, c5, c15, c32]
                exact ⟨by rw [ho]; rfl, by rw [ho, cd_send_2]; rfl⟩) rfl (mm_nl rfl) (mm_nl rfl)
    · skip
      refine mm_iconst (v := 1) C dX3_send_18 (by decide) ?_
      refine mm_goto (tgt := 23) C dX3_send_19 (by decide) ?_
      refine mm_istore (lv' := [(4, .int 1), (0, .ref 18), (1, .int a), (2, .int b), (3, .int e)]) C dX3_send_23 hnL (by decide) rfl ?_
      refine mm_iload_n C dX3_send_25 rfl 4 rfl ?_
      refine mm_iconst (v := 1) C dX3_send_26 (by decide) ?_
      refine mm_bipush (v := 100) C dX3_send_27 (by decide) ?_
      refine mm_riS C ss_X3_X3_between_59 (kX3_between _ _ _ e 1 100 (b_btw e 1 100) rfl) ⟨rfl, rfl⟩ ⟨mm_nl rfl, mm_nl rfl⟩ rfl rfl (mm_nl rfl) ⟨mm_nl rfl, mm_nl rfl⟩ dX3_send_29 ?_
      refine mm_ifb_ne (tgt := 39) C dX3_send_32 (by decide) (fun c32 => ?_) (fun c32 => ?_)
      · skip
        refine mm_iconst (v := 0) C dX3_send_39 (by decide) ?_
        refine mm_istore (lv' := [(5, .int 0), (4, .int 1), (0, .ref 18), (1, .int a), (2, .int b), (3, .int e)]) C dX3_send_40 hnL (by decide) rfl ?_
        refine mm_aload_n C dX3_send_42 rfl 2 rfl ?_
        refine mm_iload C dX3_send_43 1 rfl ?_
        refine mm_iload C dX3_send_45 0 rfl ?_
        refine mm_iload C dX3_send_47 1 rfl ?_
        refine mm_if_ne (tgt := 98) C dX3_send_49 (by decide) (fun _ => ?_) (fun z => absurd z (by decide))
        refine mm_iconst (v := 0) C dX3_send_98 (by decide) ?_
        refine mm_iconst (v := 0) C dX3_send_99 (by decide) ?_
        refine mm_riV C 18 sv_X3_X3_throwing_70 rfl rfl (kX3_throwing _ _ U u _ ck cw F true false false false) ⟨rfl, rfl⟩ ⟨mm_nl rfl, mm_nl rfl⟩ rfl rfl (mm_nl rfl) ⟨mm_nl rfl, mm_nl rfl⟩ dX3_send_100 ?_
        refine mm_if_eq (tgt := 108) C dX3_send_103 (by decide) (fun z => absurd z (by decide)) (fun _ => ?_)
        refine mm_iconst (v := 0) C dX3_send_106 (by decide) ?_
        exact mm_iret C K rfl dX3_send_107 (by
                have ho : o_send u a b e = .inl x_ia := by simp [o_send, ite_btw, c5, c15, c32]
                exact ⟨by rw [ho]; rfl, by rw [ho, cd_send_1]; rfl⟩) rfl (mm_nl rfl) (mm_nl rfl)
      · skip
        refine mm_iconst (v := 1) C dX3_send_35 (by decide) ?_
        refine mm_goto (tgt := 40) C dX3_send_36 (by decide) ?_
        refine mm_istore (lv' := [(5, .int 1), (4, .int 1), (0, .ref 18), (1, .int a), (2, .int b), (3, .int e)]) C dX3_send_40 hnL (by decide) rfl ?_
        refine mm_aload_n C dX3_send_42 rfl 2 rfl ?_
        refine mm_iload C dX3_send_43 1 rfl ?_
        refine mm_iload C dX3_send_45 0 rfl ?_
        refine mm_iload C dX3_send_47 1 rfl ?_
        refine mm_if_ne (tgt := 98) C dX3_send_49 (by decide) (fun _ => ?_) (fun z => absurd z (by decide))
        refine mm_iconst (v := 0) C dX3_send_98 (by decide) ?_
        refine mm_iconst (v := 0) C dX3_send_99 (by decide) ?_
        refine mm_riV C 18 sv_X3_X3_throwing_70 rfl rfl (kX3_throwing _ _ U u _ ck cw F true true false false) ⟨rfl, rfl⟩ ⟨mm_nl rfl, mm_nl rfl⟩ rfl rfl (mm_nl rfl) ⟨mm_nl rfl, mm_nl rfl⟩ dX3_send_100 ?_
        refine mm_if_eq (tgt := 108) C dX3_send_103 (by decide) (fun z => absurd z (by decide)) (fun _ => ?_)
        refine mm_iconst (v := 0) C dX3_send_106 (by decide) ?_
        exact mm_iret C K rfl dX3_send_107 (by
                have ho : o_send u a b e = .inl x_ia := by simp [o_send, ite_btw, c5, c15, c32]
                exact ⟨by rw [ho]; rfl, by rw [ho, cd_send_1]; rfl⟩) rfl (mm_nl rfl) (mm_nl rfl)
set_option maxHeartbeats 4000000 in
set_option maxRecDepth 100000 in
theorem kX3_missing (l : Launch) (D : va_G) (U u : ks_S) (t : Int32) (ck cw : Nat → Int32) (F : List mm_c) (a b e : Int32) (k c i : Nat) (J : ms_I u ck cw k c i) : mm_Wr l D yX3_missing (mm_cw yX3_missing cX3_missing 6 (some .int)) (mm_rm 3) [.ref 18, .int a, .int b, .int e] (ks_H U (ms_H u t ck cw F)) (some (.int (m_an (o_missing u c a b e)))) (ks_H U (ms_H (m_us u (o_missing u c a b e)) (m_cd l_missing (o_missing u c a b e)) ck cw F)) := by
  refine mm_start (own := RX3) (by decide) rfl rfl (mm_nl rfl) (fun _ => rfl) (fun _ => rfl) (fun g ad hl hD hnL C K => ?_)
  subst hl
  subst hD
  have J0 := J
  obtain ⟨hI, wP, wA, wA0, hta, htu, hct, hko, hcl, hhv, hw4, htb, hn1, hn2⟩ := J
  show mm_M g ad 0 0 (ks_H U (ms_H u t ck cw F)) 0 [(0, .ref 18), (1, .int a), (2, .int b), (3, .int e)] []
  refine mm_aload_n C dX3_missing_0 rfl 0 rfl ?_
  refine mm_iload_n C dX3_missing_1 rfl 1 rfl ?_
  refine mm_riV C 18 sv_X3_X3_isIncident_119 rfl rfl (kX3_isIncident _ _ U u _ ck cw F a k c i hI) ⟨rfl, rfl⟩ ⟨mm_nl rfl, mm_nl rfl⟩ rfl rfl (mm_nl rfl) ⟨mm_nl rfl, mm_nl rfl⟩ dX3_missing_2 ?_
  refine mm_ifb_eq (tgt := 18) C dX3_missing_5 (by decide) (fun c5 => ?_) (fun c5 => ?_)
  · skip
    refine mm_iconst (v := 1) C dX3_missing_18 (by decide) ?_
    refine mm_goto (tgt := 23) C dX3_missing_19 (by decide) ?_
    refine mm_istore (lv' := [(4, .int 1), (0, .ref 18), (1, .int a), (2, .int b), (3, .int e)]) C dX3_missing_23 hnL (by decide) rfl ?_
    refine mm_aload_n C dX3_missing_25 rfl 1 rfl ?_
    refine mm_iload C dX3_missing_26 0 rfl ?_
    refine mm_iload_n C dX3_missing_28 rfl 4 rfl ?_
    refine mm_riS C ss_X3_X3_isDay_81 (kX3_isDay _ _ _ e) ⟨rfl, rfl⟩ ⟨mm_nl rfl, mm_nl rfl⟩ rfl rfl (mm_nl rfl) ⟨mm_nl rfl, mm_nl rfl⟩ dX3_missing_29 ?_
    refine mm_ifb_ne (tgt := 39) C dX3_missing_32 (by decide) (fun c32 => ?_) (fun c32 => ?_)
    · skip
      refine mm_iconst (v := 0) C dX3_missing_39 (by decide) ?_
      refine mm_iconst (v := 0) C dX3_missing_40 (by decide) ?_
      refine mm_iconst (v := 0) C dX3_missing_41 (by decide) ?_
      refine mm_riV C 18 sv_X3_X3_throwing_70 rfl rfl (kX3_throwing _ _ U u _ ck cw F true false false false) ⟨rfl, rfl⟩ ⟨mm_nl rfl, mm_nl rfl⟩ rfl rfl (mm_nl rfl) ⟨mm_nl rfl, mm_nl rfl⟩ dX3_missing_42 ?_
      refine mm_if_eq (tgt := 50) C dX3_missing_45 (by decide) (fun z => absurd z (by decide)) (fun _ => ?_)
      refine mm_iconst (v := 0) C dX3_missing_48 (by decide) ?_
      exact mm_iret C K rfl dX3_missing_49 (by
                have ho : o_missing u c a b e = .inl x_ia := by simp [o_missing, c5, c32]
                exact ⟨by rw [ho]; rfl, by rw [ho, cd_missing_1]; rfl⟩) rfl (mm_nl rfl) (mm_nl rfl)
    · skip
      refine mm_iconst (v := 1) C dX3_missing_35 (by decide) ?_
      refine mm_goto (tgt := 40) C dX3_missing_36 (by decide) ?_
      refine mm_iconst (v := 0) C dX3_missing_40 (by decide) ?_
      refine mm_iconst (v := 0) C dX3_missing_41 (by decide) ?_
      refine mm_riV C 18 sv_X3_X3_throwing_70 rfl rfl (kX3_throwing _ _ U u _ ck cw F true true false false) ⟨rfl, rfl⟩ ⟨mm_nl rfl, mm_nl rfl⟩ rfl rfl (mm_nl rfl) ⟨mm_nl rfl, mm_nl rfl⟩ dX3_missing_42 ?_
      refine mm_if_eq (tgt := 50) C dX3_missing_45 (by decide) (fun z => absurd z (by decide)) (fun _ => ?_)
      refine mm_iconst (v := 0) C dX3_missing_48 (by decide) ?_
      exact mm_iret C K rfl dX3_missing_49 (by
                have ho : o_missing u c a b e = .inl x_ia := by simp [o_missing, c5, c32]
                exact ⟨by rw [ho]; rfl, by rw [ho, cd_missing_1]; rfl⟩) rfl (mm_nl rfl) (mm_nl rfl)
  · skip
    refine mm_iload_n C dX3_missing_8 rfl 2 rfl ?_
    refine mm_iconst (v := 0) C dX3_missing_9 (by decide) ?_
    refine mm_bipush (v := 15) C dX3_missing_10 (by decide) ?_
    refine mm_riS C ss_X3_X3_between_59 (kX3_between _ _ _ b 0 15 (b_below b 16) (bw_below (by decide))) ⟨rfl, rfl⟩ ⟨mm_nl rfl, mm_nl rfl⟩ rfl rfl (mm_nl rfl) ⟨mm_nl rfl, mm_nl rfl⟩ dX3_missing_12 ?_
    refine mm_ifb_ne (tgt := 22) C dX3_missing_15 (by decide) (fun c15 => ?_) (fun c15 => ?_)
    · skip
      refine mm_iconst (v := 0) C dX3_missing_22 (by decide) ?_
      refine mm_istore (lv' := [(4, .int 0), (0, .ref 18), (1, .int a), (2, .int b), (3, .int e)]) C dX3_missing_23 hnL (by decide) rfl ?_
      refine mm_aload_n C dX3_missing_25 rfl 1 rfl ?_
      refine mm_iload C dX3_missing_26 0 rfl ?_
      refine mm_iload_n C dX3_missing_28 rfl 4 rfl ?_
      refine mm_riS C ss_X3_X3_isDay_81 (kX3_isDay _ _ _ e) ⟨rfl, rfl⟩ ⟨mm_nl rfl, mm_nl rfl⟩ rfl rfl (mm_nl rfl) ⟨mm_nl rfl, mm_nl rfl⟩ dX3_missing_29 ?_
      refine mm_ifb_ne (tgt := 39) C dX3_missing_32 (by decide) (fun c32 => ?_) (fun c32 => ?_)
      · skip
        refine mm_iconst (v := 0) C dX3_missing_39 (by decide) ?_
        refine mm_iconst (v := 0) C dX3_missing_40 (by decide) ?_
        refine mm_iconst (v := 0) C dX3_missing_41 (by decide) ?_
        refine mm_riV C 18 sv_X3_X3_throwing_70 rfl rfl (kX3_throwing _ _ U u _ ck cw F false false false false) ⟨rfl, rfl⟩ ⟨mm_nl rfl, mm_nl rfl⟩ rfl rfl (mm_nl rfl) ⟨mm_nl rfl, mm_nl rfl⟩ dX3_missing_42 ?_
        refine mm_if_eq (tgt := 50) C dX3_missing_45 (by decide) (fun _ => ?_) (fun z => absurd z (by decide))
        refine mm_aload_n C dX3_missing_50 rfl 1 rfl ?_
        refine mm_aload_n C dX3_missing_51 rfl 1 rfl ?_
        refine mm_get C 18 13 (fun w h => mm_wc (inX3 w h)) rfl rfl (by decide) (mm_wc tw480) rfl rfl dX3_missing_52 ?_
        refine mm_iload_n C dX3_missing_55 rfl 2 rfl ?_
        refine mm_iald C 28 rfl (ix_b hI.i60 c5) dX3_missing_56 ?_
        refine mm_iload_n C dX3_missing_57 rfl 3 rfl ?_
        refine mm_iload_n C dX3_missing_58 rfl 4 rfl ?_
        refine mm_riV C 18 sv_X3_X3_needs_105 rfl rfl (kX3_needs _ _ U u _ ck cw F ((k_ko u) a.toNatClampNeg) b e k c i J0 (by obtain ⟨m, h1, _, h3⟩ := i_x hI c5; rw [h3]; exact hko m h1) c15) ⟨rfl, rfl⟩ ⟨mm_nl rfl, mm_nl rfl⟩ rfl rfl (mm_nl rfl) ⟨mm_nl rfl, mm_nl rfl⟩ dX3_missing_59 ?_
        refine mm_aload_n C dX3_missing_62 rfl 1 rfl ?_
        refine mm_get C 18 16 (fun w h => mm_wc (inX3 w h)) rfl rfl (by decide) (mm_wc tw483) rfl rfl dX3_missing_63 ?_
        refine mm_bipush (v := 16) C dX3_missing_66 (by decide) ?_
        refine mm_iload_n C dX3_missing_68 rfl 2 rfl ?_
        refine mm_imulc C dX3_missing_69 ?_
        refine mm_iload_n C dX3_missing_70 rfl 3 rfl ?_
        refine mm_iadd C dX3_missing_71 ?_
        refine mm_iald C 31 rfl (ix_m (c := 16) hI.i60 c5 (bt c15 rfl) (by decide) (by decide) (by decide)) dX3_missing_72 ?_
        refine mm_isub C dX3_missing_73 ?_
        refine mm_istore (lv' := [(5, .int ((f_nd u c ((k_ko u) a.toNatClampNeg) b e) - ((k_se u) ((a * 16) + b).toNatClampNeg))), (4, .int 0), (0, .ref 18), (1, .int a), (2, .int b), (3, .int e)]) C dX3_missing_74 hnL (by decide) rfl ?_
        refine mm_iload C dX3_missing_76 0 rfl ?_
        refine mm_if_ge (tgt := 85) C dX3_missing_78 (by decide) (fun c78 => ?_) (fun c78 => ?_)
        · skip
          refine mm_iload C dX3_missing_85 0 rfl ?_
          exact mm_iret C K rfl dX3_missing_87 (by
                have ho : o_missing u c a b e = .inr (some ((f_nd u c ((k_ko u) a.toNatClampNeg) b e) - ((k_se u) ((a * 16) + b).toNatClampNeg)), u) := by simp [o_missing, c5, c15, c32, c78, mx_0 c78]
                exact ⟨by rw [ho]; rfl, by rw [ho]; rfl⟩) rfl (mm_nl rfl) (mm_nl rfl)
        · skip
          refine mm_iconst (v := 0) C dX3_missing_81 (by decide) ?_
          refine mm_goto (tgt := 87) C dX3_missing_82 (by decide) ?_
          exact mm_iret C K rfl dX3_missing_87 (by
                have ho : o_missing u c a b e = .inr (some 0, u) := by simp [o_missing, c5, c15, c32, c78, mx_n c78]
                exact ⟨by rw [ho]; rfl, by rw [ho]; rfl⟩) rfl (mm_nl rfl) (mm_nl rfl)
      · skip
        refine mm_iconst (v := 1) C dX3_missing_35 (by decide) ?_
        refine mm_goto (tgt := 40) C dX3_missing_36 (by decide) ?_
        refine mm_iconst (v := 0) C dX3_missing_40 (by decide) ?_
        refine mm_iconst (v := 0) C dX3_missing_41 (by decide) ?_
        refine mm_riV C 18 sv_X3_X3_throwing_70 rfl rfl (kX3_throwing _ _ U u _ ck cw F false true false false) ⟨rfl, rfl⟩ ⟨mm_nl rfl, mm_nl rfl⟩ rfl rfl (mm_nl rfl) ⟨mm_nl rfl, mm_nl rfl⟩ dX3_missing_42 ?_
        refine mm_if_eq (tgt := 50) C dX3_missing_45 (by decide) (fun z => absurd z (by decide)) (fun _ => ?_)
        refine mm_iconst (v := 0) C dX3_missing_48 (by decide) ?_
        exact mm_iret C K rfl dX3_missing_49 (by
                have ho : o_missing u c a b e = .inl x_io := by simp [o_missing, c5, c15, c32]
                exact ⟨by rw [ho]; rfl, by rw [ho, cd_missing_2]; rfl⟩) rfl (mm_nl rfl) (mm_nl rfl)
    · skip
      refine mm_iconst (v := 1) C dX3_missing_18 (by decide) ?_
      refine mm_goto (tgt := 23) C dX3_missing_19 (by decide) ?_
      refine mm_istore (lv' := [(4, .int 1), (0, .ref 18), (1, .int a), (2, .int b), (3, .int e)]) C dX3_missing_23 hnL (by decide) rfl ?_
      refine mm_aload_n C dX3_missing_25 rfl 1 rfl ?_
      refine mm_iload C dX3_missing_26 0 rfl ?_
      refine mm_iload_n C dX3_missing_28 rfl 4 rfl ?_
      refine mm_riS C ss_X3_X3_isDay_81 (kX3_isDay _ _ _ e) ⟨rfl, rfl⟩ ⟨mm_nl rfl, mm_nl rfl⟩ rfl rfl (mm_nl rfl) ⟨mm_nl rfl, mm_nl rfl⟩ dX3_missing_29 ?_
      refine mm_ifb_ne (tgt := 39) C dX3_missing_32 (by decide) (fun c32 => ?_) (fun c32 => ?_)
      · skip
        refine mm_iconst (v := 0) C dX3_missing_39 (by decide) ?_
        refine mm_iconst (v := 0) C dX3_missing_40 (by decide) ?_
        refine mm_iconst (v := 0) C dX3_missing_41 (by decide) ?_
        refine mm_riV C 18 sv_X3_X3_throwing_70 rfl rfl (kX3_throwing _ _ U u _ ck cw F true false false false) ⟨rfl, rfl⟩ ⟨mm_nl rfl, mm_nl rfl⟩ rfl rfl (mm_nl rfl) ⟨mm_nl rfl, mm_nl rfl⟩ dX3_missing_42 ?_
        refine mm_if_eq (tgt := 50) C dX3_missing_45 (by decide) (fun z => absurd z (by decide)) (fun _ => ?_)
        refine mm_iconst (v := 0) C dX3_missing_48 (by decide) ?_
        exact mm_iret C K rfl dX3_missing_49 (by
                have ho : o_missing u c a b e = .inl x_ia := by simp [o_missing, c5, c15, c32]
                exact ⟨by rw [ho]; rfl, by rw [ho, cd_missing_1]; rfl⟩) rfl (mm_nl rfl) (mm_nl rfl)
      · skip
        refine mm_iconst (v := 1) C dX3_missing_35 (by decide) ?_
        refine mm_goto (tgt := 40) C dX3_missing_36 (by decide) ?_
        refine mm_iconst (v := 0) C dX3_missing_40 (by decide) ?_
        refine mm_iconst (v := 0) C dX3_missing_41 (by decide) ?_
        refine mm_riV C 18 sv_X3_X3_throwing_70 rfl rfl (kX3_throwing _ _ U u _ ck cw F true true false false) ⟨rfl, rfl⟩ ⟨mm_nl rfl, mm_nl rfl⟩ rfl rfl (mm_nl rfl) ⟨mm_nl rfl, mm_nl rfl⟩ dX3_missing_42 ?_
        refine mm_if_eq (tgt := 50) C dX3_missing_45 (by decide) (fun z => absurd z (by decide)) (fun _ => ?_)
        refine mm_iconst (v := 0) C dX3_missing_48 (by decide) ?_
        exact mm_iret C K rfl dX3_missing_49 (by
                have ho : o_missing u c a b e = .inl x_ia := by simp [o_missing, c5, c15, c32]
                exact ⟨by rw [ho]; rfl, by rw [ho, cd_missing_1]; rfl⟩) rfl (mm_nl rfl) (mm_nl rfl)
set_option maxHeartbeats 4000000 in
set_option maxRecDepth 100000 in
theorem kX3_incident (l : Launch) (D : va_G) (U u : ks_S) (t : Int32) (ck cw : Nat → Int32) (F : List mm_c) (a b : Int32) (k c i : Nat) (J : ms_I u ck cw k c i) : mm_Wr l D yX3_incident (mm_cw yX3_incident cX3_incident 3 (some .int)) (mm_rm 3) [.ref 18, .int a, .int b] (ks_H U (ms_H u t ck cw F)) (some (.int (m_an (o_incident u a b)))) (ks_H U (ms_H (m_us u (o_incident u a b)) (m_cd l_incident (o_incident u a b)) ck cw F)) := by
  refine mm_start (own := RX3) (by decide) rfl rfl (mm_nl rfl) (fun _ => rfl) (fun _ => rfl) (fun g ad hl hD hnL C K => ?_)
  subst hl
  subst hD
  have J0 := J
  obtain ⟨hI, wP, wA, wA0, hta, htu, hct, hko, hcl, hhv, hw4, htb, hn1, hn2⟩ := J
  show mm_M g ad 0 0 (ks_H U (ms_H u t ck cw F)) 0 [(0, .ref 18), (1, .int a), (2, .int b)] []
  refine mm_aload_n C dX3_incident_0 rfl 0 rfl ?_
  refine mm_aload_n C dX3_incident_1 rfl 0 rfl ?_
  refine mm_iload_n C dX3_incident_2 rfl 1 rfl ?_
  refine mm_riV C 18 sv_X3_X3_isIncident_119 rfl rfl (kX3_isIncident _ _ U u _ ck cw F a k c i hI) ⟨rfl, rfl⟩ ⟨mm_nl rfl, mm_nl rfl⟩ rfl rfl (mm_nl rfl) ⟨mm_nl rfl, mm_nl rfl⟩ dX3_incident_3 ?_
  refine mm_ifb_eq (tgt := 18) C dX3_incident_6 (by decide) (fun c6 => ?_) (fun c6 => ?_)
  · skip
    refine mm_iconst (v := 1) C dX3_incident_18 (by decide) ?_
    refine mm_goto (tgt := 23) C dX3_incident_19 (by decide) ?_
    refine mm_iconst (v := 0) C dX3_incident_23 (by decide) ?_
    refine mm_iconst (v := 0) C dX3_incident_24 (by decide) ?_
    refine mm_iconst (v := 0) C dX3_incident_25 (by decide) ?_
    refine mm_riV C 18 sv_X3_X3_throwing_70 rfl rfl (kX3_throwing _ _ U u _ ck cw F true false false false) ⟨rfl, rfl⟩ ⟨mm_nl rfl, mm_nl rfl⟩ rfl rfl (mm_nl rfl) ⟨mm_nl rfl, mm_nl rfl⟩ dX3_incident_26 ?_
    refine mm_if_eq (tgt := 34) C dX3_incident_29 (by decide) (fun z => absurd z (by decide)) (fun _ => ?_)
    refine mm_iconst (v := 0) C dX3_incident_32 (by decide) ?_
    exact mm_iret C K rfl dX3_incident_33 (by
                have ho : o_incident u a b = .inl x_ia := by simp [o_incident, c6]
                exact ⟨by rw [ho]; rfl, by rw [ho, cd_incident_1]; rfl⟩) rfl (mm_nl rfl) (mm_nl rfl)
  · skip
    refine mm_iload_n C dX3_incident_9 rfl 2 rfl ?_
    refine mm_iconst (v := 0) C dX3_incident_10 (by decide) ?_
    refine mm_iconst (v := 2) C dX3_incident_11 (by decide) ?_
    refine mm_riS C ss_X3_X3_between_59 (kX3_between _ _ _ b 0 2 (b_below b 3) (bw_below (by decide))) ⟨rfl, rfl⟩ ⟨mm_nl rfl, mm_nl rfl⟩ rfl rfl (mm_nl rfl) ⟨mm_nl rfl, mm_nl rfl⟩ dX3_incident_12 ?_
    refine mm_ifb_ne (tgt := 22) C dX3_incident_15 (by decide) (fun c15 => ?_) (fun c15 => ?_)
    · skip
      refine mm_iconst (v := 0) C dX3_incident_22 (by decide) ?_
      refine mm_iconst (v := 0) C dX3_incident_23 (by decide) ?_
      refine mm_iconst (v := 0) C dX3_incident_24 (by decide) ?_
      refine mm_iconst (v := 0) C dX3_incident_25 (by decide) ?_
      refine mm_riV C 18 sv_X3_X3_throwing_70 rfl rfl (kX3_throwing _ _ U u _ ck cw F false false false false) ⟨rfl, rfl⟩ ⟨mm_nl rfl, mm_nl rfl⟩ rfl rfl (mm_nl rfl) ⟨mm_nl rfl, mm_nl rfl⟩ dX3_incident_26 ?_
      refine mm_if_eq (tgt := 34) C dX3_incident_29 (by decide) (fun _ => ?_) (fun z => absurd z (by decide))
      refine mm_iload_n C dX3_incident_34 rfl 2 rfl ?_
      refine mm_if_ne (tgt := 47) C dX3_incident_35 (by decide) (fun c35 => ?_) (fun c35 => ?_)
      · skip
        refine mm_iload_n C dX3_incident_47 rfl 2 rfl ?_
        refine mm_iconst (v := 1) C dX3_incident_48 (by decide) ?_
        refine mm_icmp_ne (tgt := 61) C dX3_incident_49 (by decide) (fun c49 => ?_) (fun c49 => ?_)
        · skip
          refine mm_aload_n C dX3_incident_61 rfl 0 rfl ?_
          refine mm_get C 18 15 (fun w h => mm_wc (inX3 w h)) rfl rfl (by decide) (mm_wc tw482) rfl rfl dX3_incident_62 ?_
          refine mm_iload_n C dX3_incident_65 rfl 1 rfl ?_
          refine mm_iald C 30 rfl (ix_b hI.i60 c6) dX3_incident_66 ?_
          exact mm_iret C K rfl dX3_incident_67 (by
                have ho : o_incident u a b = .inr (some ((k_be u) a.toNatClampNeg), u) := by simp [o_incident, c6, c15, c35, c49]
                exact ⟨by rw [ho]; rfl, by rw [ho]; rfl⟩) rfl (mm_nl rfl) (mm_nl rfl)
        · skip
          refine mm_aload_n C dX3_incident_52 rfl 0 rfl ?_
          refine mm_get C 18 14 (fun w h => mm_wc (inX3 w h)) rfl rfl (by decide) (mm_wc tw481) rfl rfl dX3_incident_53 ?_
          refine mm_iload_n C dX3_incident_56 rfl 1 rfl ?_
          refine mm_iald C 29 rfl (ix_b hI.i60 c6) dX3_incident_57 ?_
          refine mm_goto (tgt := 67) C dX3_incident_58 (by decide) ?_
          exact mm_iret C K rfl dX3_incident_67 (by
                have ho : o_incident u a b = .inr (some ((k_ao u) a.toNatClampNeg), u) := by simp [o_incident, c6, c15, c35, eq_true c49]
                exact ⟨by rw [ho]; rfl, by rw [ho]; rfl⟩) rfl (mm_nl rfl) (mm_nl rfl)
      · skip
        refine mm_aload_n C dX3_incident_38 rfl 0 rfl ?_
        refine mm_get C 18 13 (fun w h => mm_wc (inX3 w h)) rfl rfl (by decide) (mm_wc tw480) rfl rfl dX3_incident_39 ?_
        refine mm_iload_n C dX3_incident_42 rfl 1 rfl ?_
        refine mm_iald C 28 rfl (ix_b hI.i60 c6) dX3_incident_43 ?_
        refine mm_goto (tgt := 67) C dX3_incident_44 (by decide) ?_
        exact mm_iret C K rfl dX3_incident_67 (by
                have ho : o_incident u a b = .inr (some ((k_ko u) a.toNatClampNeg), u) := by simp [o_incident, c6, c15, eq_true c35]
                exact ⟨by rw [ho]; rfl, by rw [ho]; rfl⟩) rfl (mm_nl rfl) (mm_nl rfl)
    · skip
      refine mm_iconst (v := 1) C dX3_incident_18 (by decide) ?_
      refine mm_goto (tgt := 23) C dX3_incident_19 (by decide) ?_
      refine mm_iconst (v := 0) C dX3_incident_23 (by decide) ?_
      refine mm_iconst (v := 0) C dX3_incident_24 (by decide) ?_
      refine mm_iconst (v := 0) C dX3_incident_25 (by decide) ?_
      refine mm_riV C 18 sv_X3_X3_throwing_70 rfl rfl (kX3_throwing _ _ U u _ ck cw F true false false false) ⟨rfl, rfl⟩ ⟨mm_nl rfl, mm_nl rfl⟩ rfl rfl (mm_nl rfl) ⟨mm_nl rfl, mm_nl rfl⟩ dX3_incident_26 ?_
      refine mm_if_eq (tgt := 34) C dX3_incident_29 (by decide) (fun z => absurd z (by decide)) (fun _ => ?_)
      refine mm_iconst (v := 0) C dX3_incident_32 (by decide) ?_
      exact mm_iret C K rfl dX3_incident_33 (by
                have ho : o_incident u a b = .inl x_ia := by simp [o_incident, c6, c15]
                exact ⟨by rw [ho]; rfl, by rw [ho, cd_incident_1]; rfl⟩) rfl (mm_nl rfl) (mm_nl rfl)
set_option maxHeartbeats 4000000 in
set_option maxRecDepth 100000 in
theorem kX3_unit (l : Launch) (D : va_G) (U u : ks_S) (t : Int32) (ck cw : Nat → Int32) (F : List mm_c) (a b : Int32) (k c i : Nat) (J : ms_I u ck cw k c i) : mm_Wr l D yX3_unit (mm_cw yX3_unit cX3_unit 3 none) (mm_rm 3) [.ref 18, .int a, .int b] (ks_H U (ms_H u t ck cw F)) (none) (ks_H U (ms_H (m_us u (o_unit u a b)) (m_cd l_unit (o_unit u a b)) ck cw F)) := by
  refine mm_start (own := RX3) (by decide) rfl rfl (mm_nl rfl) (fun _ => rfl) (fun _ => rfl) (fun g ad hl hD hnL C K => ?_)
  subst hl
  subst hD
  have J0 := J
  obtain ⟨hI, wP, wA, wA0, hta, htu, hct, hko, hcl, hhv, hw4, htb, hn1, hn2⟩ := J
  show mm_M g ad 0 0 (ks_H U (ms_H u t ck cw F)) 0 [(0, .ref 18), (1, .int a), (2, .int b)] []
  refine mm_aload_n C dX3_unit_0 rfl 0 rfl ?_
  refine mm_iload_n C dX3_unit_1 rfl 1 rfl ?_
  refine mm_iconst (v := 0) C dX3_unit_2 (by decide) ?_
  refine mm_bipush (v := 19) C dX3_unit_3 (by decide) ?_
  refine mm_riS C ss_X3_X3_between_59 (kX3_between _ _ _ a 0 19 (b_below a 20) (bw_below (by decide))) ⟨rfl, rfl⟩ ⟨mm_nl rfl, mm_nl rfl⟩ rfl rfl (mm_nl rfl) ⟨mm_nl rfl, mm_nl rfl⟩ dX3_unit_5 ?_
  refine mm_ifb_ne (tgt := 15) C dX3_unit_8 (by decide) (fun c8 => ?_) (fun c8 => ?_)
  · skip
    refine mm_iconst (v := 0) C dX3_unit_15 (by decide) ?_
    refine mm_iload_n C dX3_unit_16 rfl 2 rfl ?_
    refine mm_iconst (v := 0) C dX3_unit_17 (by decide) ?_
    refine mm_ldc (v := 65535) C dX3_unit_18 (mm_wc tw646) ?_
    refine mm_riS C ss_X3_X3_between_59 (kX3_between _ _ _ b 0 65535 (b_btw b 0 65535) rfl) ⟨rfl, rfl⟩ ⟨mm_nl rfl, mm_nl rfl⟩ rfl rfl (mm_nl rfl) ⟨mm_nl rfl, mm_nl rfl⟩ dX3_unit_20 ?_
    refine mm_ifb_ne (tgt := 30) C dX3_unit_23 (by decide) (fun c23 => ?_) (fun c23 => ?_)
    · skip
      refine mm_iconst (v := 0) C dX3_unit_30 (by decide) ?_
      refine mm_iconst (v := 0) C dX3_unit_31 (by decide) ?_
      refine mm_iconst (v := 0) C dX3_unit_32 (by decide) ?_
      refine mm_riV C 18 sv_X3_X3_throwing_70 rfl rfl (kX3_throwing _ _ U u _ ck cw F false false false false) ⟨rfl, rfl⟩ ⟨mm_nl rfl, mm_nl rfl⟩ rfl rfl (mm_nl rfl) ⟨mm_nl rfl, mm_nl rfl⟩ dX3_unit_33 ?_
      refine mm_if_eq (tgt := 40) C dX3_unit_36 (by decide) (fun _ => ?_) (fun z => absurd z (by decide))
      refine mm_aload_n C dX3_unit_40 rfl 0 rfl ?_
      refine mm_get C 18 17 (fun w h => mm_wc (inX3 w h)) rfl rfl (by decide) (mm_wc tw484) rfl rfl dX3_unit_41 ?_
      refine mm_iload_n C dX3_unit_44 rfl 1 rfl ?_
      refine mm_iload_n C dX3_unit_45 rfl 2 rfl ?_
      refine mm_iast C 32 rfl (bt_in (bt c8 rfl)) dX3_unit_46 ?_
      exact mm_vret C K dX3_unit_47 (by
                have ho : o_unit u a b = .inr (none, (k_kn u, k_pa u, k_cl u, k_nw u, k_tb u, k_dy u, k_hw u, k_vl u, k_cs u, k_ta u, k_ts u, k_tu u, k_us u, k_inn u, k_ko u, k_ao u, k_be u, k_se u, upd (k_sk u) a.toNatClampNeg b)) := by simp [o_unit, ite_btw, c8, c23]
                exact ⟨rfl, by rw [ho]; rfl⟩) rfl (mm_nl rfl) (mm_nl rfl)
    · skip
      refine mm_iconst (v := 1) C dX3_unit_26 (by decide) ?_
      refine mm_goto (tgt := 31) C dX3_unit_27 (by decide) ?_
      refine mm_iconst (v := 0) C dX3_unit_31 (by decide) ?_
      refine mm_iconst (v := 0) C dX3_unit_32 (by decide) ?_
      refine mm_riV C 18 sv_X3_X3_throwing_70 rfl rfl (kX3_throwing _ _ U u _ ck cw F false true false false) ⟨rfl, rfl⟩ ⟨mm_nl rfl, mm_nl rfl⟩ rfl rfl (mm_nl rfl) ⟨mm_nl rfl, mm_nl rfl⟩ dX3_unit_33 ?_
      refine mm_if_eq (tgt := 40) C dX3_unit_36 (by decide) (fun z => absurd z (by decide)) (fun _ => ?_)
      exact mm_vret C K dX3_unit_39 (by
                have ho : o_unit u a b = .inl x_io := by simp [o_unit, ite_btw, c8, c23]
                exact ⟨rfl, by rw [ho, cd_unit_2]; rfl⟩) rfl (mm_nl rfl) (mm_nl rfl)
  · skip
    refine mm_iconst (v := 1) C dX3_unit_11 (by decide) ?_
    refine mm_goto (tgt := 16) C dX3_unit_12 (by decide) ?_
    refine mm_iload_n C dX3_unit_16 rfl 2 rfl ?_
    refine mm_iconst (v := 0) C dX3_unit_17 (by decide) ?_
    refine mm_ldc (v := 65535) C dX3_unit_18 (mm_wc tw646) ?_
    refine mm_riS C ss_X3_X3_between_59 (kX3_between _ _ _ b 0 65535 (b_btw b 0 65535) rfl) ⟨rfl, rfl⟩ ⟨mm_nl rfl, mm_nl rfl⟩ rfl rfl (mm_nl rfl) ⟨mm_nl rfl, mm_nl rfl⟩ dX3_unit_20 ?_
    refine mm_ifb_ne (tgt := 30) C dX3_unit_23 (by decide) (fun c23 => ?_) (fun c23 => ?_)
    · skip
      refine mm_iconst (v := 0) C dX3_unit_30 (by decide) ?_
      refine mm_iconst (v := 0) C dX3_unit_31 (by decide) ?_
      refine mm_iconst (v := 0) C dX3_unit_32 (by decide) ?_
      refine mm_riV C 18 sv_X3_X3_throwing_70 rfl rfl (kX3_throwing _ _ U u _ ck cw F true false false false) ⟨rfl, rfl⟩ ⟨mm_nl rfl, mm_nl rfl⟩ rfl rfl (mm_nl rfl) ⟨mm_nl rfl, mm_nl rfl⟩ dX3_unit_33 ?_
      refine mm_if_eq (tgt := 40) C dX3_unit_36 (by decide) (fun z => absurd z (by decide)) (fun _ => ?_)
      exact mm_vret C K dX3_unit_39 (by
                have ho : o_unit u a b = .inl x_ia := by simp [o_unit, ite_btw, c8, c23]
                exact ⟨rfl, by rw [ho, cd_unit_1]; rfl⟩) rfl (mm_nl rfl) (mm_nl rfl)
    · skip
      refine mm_iconst (v := 1) C dX3_unit_26 (by decide) ?_
      refine mm_goto (tgt := 31) C dX3_unit_27 (by decide) ?_
      refine mm_iconst (v := 0) C dX3_unit_31 (by decide) ?_
      refine mm_iconst (v := 0) C dX3_unit_32 (by decide) ?_
      refine mm_riV C 18 sv_X3_X3_throwing_70 rfl rfl (kX3_throwing _ _ U u _ ck cw F true true false false) ⟨rfl, rfl⟩ ⟨mm_nl rfl, mm_nl rfl⟩ rfl rfl (mm_nl rfl) ⟨mm_nl rfl, mm_nl rfl⟩ dX3_unit_33 ?_
      refine mm_if_eq (tgt := 40) C dX3_unit_36 (by decide) (fun z => absurd z (by decide)) (fun _ => ?_)
      exact mm_vret C K dX3_unit_39 (by
                have ho : o_unit u a b = .inl x_ia := by simp [o_unit, ite_btw, c8, c23]
                exact ⟨rfl, by rw [ho, cd_unit_1]; rfl⟩) rfl (mm_nl rfl) (mm_nl rfl)
set_option maxHeartbeats 4000000 in
set_option maxRecDepth 100000 in
theorem kX3_count (l : Launch) (D : va_G) (U u : ks_S) (t : Int32) (ck cw : Nat → Int32) (F : List mm_c) (a : Int32) (k c i : Nat) (J : ms_I u ck cw k c i) : mm_Wr l D yX3_count (mm_cw yX3_count cX3_count 2 (some .int)) (mm_rm 3) [.ref 18, .int a] (ks_H U (ms_H u t ck cw F)) (some (.int (m_an (o_count u a)))) (ks_H U (ms_H (m_us u (o_count u a)) (m_cd l_count (o_count u a)) ck cw F)) := by
  refine mm_start (own := RX3) (by decide) rfl rfl (mm_nl rfl) (fun _ => rfl) (fun _ => rfl) (fun g ad hl hD hnL C K => ?_)
  subst hl
  subst hD
  have J0 := J
  obtain ⟨hI, wP, wA, wA0, hta, htu, hct, hko, hcl, hhv, hw4, htb, hn1, hn2⟩ := J
  show mm_M g ad 0 0 (ks_H U (ms_H u t ck cw F)) 0 [(0, .ref 18), (1, .int a)] []
  refine mm_aload_n C dX3_count_0 rfl 0 rfl ?_
  refine mm_iload_n C dX3_count_1 rfl 1 rfl ?_
  refine mm_iconst (v := 0) C dX3_count_2 (by decide) ?_
  refine mm_iconst (v := 4) C dX3_count_3 (by decide) ?_
  refine mm_riS C ss_X3_X3_between_59 (kX3_between _ _ _ a 0 4 (b_below a 5) (bw_below (by decide))) ⟨rfl, rfl⟩ ⟨mm_nl rfl, mm_nl rfl⟩ rfl rfl (mm_nl rfl) ⟨mm_nl rfl, mm_nl rfl⟩ dX3_count_4 ?_
  refine mm_ifb_ne (tgt := 14) C dX3_count_7 (by decide) (fun c7 => ?_) (fun c7 => ?_)
  · skip
    refine mm_iconst (v := 0) C dX3_count_14 (by decide) ?_
    refine mm_iconst (v := 0) C dX3_count_15 (by decide) ?_
    refine mm_iconst (v := 0) C dX3_count_16 (by decide) ?_
    refine mm_iconst (v := 0) C dX3_count_17 (by decide) ?_
    refine mm_riV C 18 sv_X3_X3_throwing_70 rfl rfl (kX3_throwing _ _ U u _ ck cw F false false false false) ⟨rfl, rfl⟩ ⟨mm_nl rfl, mm_nl rfl⟩ rfl rfl (mm_nl rfl) ⟨mm_nl rfl, mm_nl rfl⟩ dX3_count_18 ?_
    refine mm_if_eq (tgt := 26) C dX3_count_21 (by decide) (fun _ => ?_) (fun z => absurd z (by decide))
    refine mm_iload_n C dX3_count_26 rfl 1 rfl ?_
    refine mm_if_ne (tgt := 37) C dX3_count_27 (by decide) (fun c27 => ?_) (fun c27 => ?_)
    · skip
      refine mm_iload_n C dX3_count_37 rfl 1 rfl ?_
      refine mm_iconst (v := 1) C dX3_count_38 (by decide) ?_
      refine mm_icmp_ne (tgt := 49) C dX3_count_39 (by decide) (fun c39 => ?_) (fun c39 => ?_)
      · skip
        refine mm_iload_n C dX3_count_49 rfl 1 rfl ?_
        refine mm_iconst (v := 2) C dX3_count_50 (by decide) ?_
        refine mm_icmp_ne (tgt := 62) C dX3_count_51 (by decide) (fun c51 => ?_) (fun c51 => ?_)
        · skip
          refine mm_iload_n C dX3_count_62 rfl 1 rfl ?_
          refine mm_iconst (v := 3) C dX3_count_63 (by decide) ?_
          refine mm_icmp_ne (tgt := 75) C dX3_count_64 (by decide) (fun c64 => ?_) (fun c64 => ?_)
          · skip
            refine mm_aload_n C dX3_count_75 rfl 0 rfl ?_
            refine mm_get C 18 12 (fun w h => mm_wc (inX3 w h)) rfl rfl (by decide) (mm_wc tw479) rfl rfl dX3_count_76 ?_
            exact mm_iret C K rfl dX3_count_79 (by
                have ho : o_count u a = .inr (some (k_inn u), u) := by simp [o_count, c7, c27, c39, c51, c64]
                exact ⟨by rw [ho]; rfl, by rw [ho]; rfl⟩) rfl (mm_nl rfl) (mm_nl rfl)
          · skip
            refine mm_aload_n C dX3_count_67 rfl 0 rfl ?_
            refine mm_iconst (v := 0) C dX3_count_68 (by decide) ?_
            refine mm_riV C 18 sv_X3_X3_rowsOf_115 rfl rfl (kX3_rowsOfU _ _ U u _ ck cw F hct.2.1) ⟨rfl, rfl⟩ ⟨mm_nl rfl, mm_nl rfl⟩ rfl rfl (mm_nl rfl) ⟨mm_nl rfl, mm_nl rfl⟩ dX3_count_69 ?_
            refine mm_goto (tgt := 79) C dX3_count_72 (by decide) ?_
            exact mm_iret C K rfl dX3_count_79 (by
                have ho : o_count u a = .inr (some (k_us u), u) := by simp [o_count, c7, c27, c39, c51, eq_true c64]
                exact ⟨by rw [ho]; rfl, by rw [ho]; rfl⟩) rfl (mm_nl rfl) (mm_nl rfl)
        · skip
          refine mm_aload_n C dX3_count_54 rfl 0 rfl ?_
          refine mm_iconst (v := 1) C dX3_count_55 (by decide) ?_
          refine mm_riV C 18 sv_X3_X3_rowsOf_115 rfl rfl (kX3_rowsOfA _ _ U u _ ck cw F hct.1) ⟨rfl, rfl⟩ ⟨mm_nl rfl, mm_nl rfl⟩ rfl rfl (mm_nl rfl) ⟨mm_nl rfl, mm_nl rfl⟩ dX3_count_56 ?_
          refine mm_goto (tgt := 79) C dX3_count_59 (by decide) ?_
          exact mm_iret C K rfl dX3_count_79 (by
                have ho : o_count u a = .inr (some (k_ts u), u) := by simp [o_count, c7, c27, c39, eq_true c51]
                exact ⟨by rw [ho]; rfl, by rw [ho]; rfl⟩) rfl (mm_nl rfl) (mm_nl rfl)
      · skip
        refine mm_aload_n C dX3_count_42 rfl 0 rfl ?_
        refine mm_get C 18 4 (fun w h => mm_wc (inX3 w h)) rfl rfl (by decide) (mm_wc tw471) rfl rfl dX3_count_43 ?_
        refine mm_goto (tgt := 79) C dX3_count_46 (by decide) ?_
        exact mm_iret C K rfl dX3_count_79 (by
                have ho : o_count u a = .inr (some (k_cs u), u) := by simp [o_count, c7, c27, eq_true c39]
                exact ⟨by rw [ho]; rfl, by rw [ho]; rfl⟩) rfl (mm_nl rfl) (mm_nl rfl)
    · skip
      refine mm_aload_n C dX3_count_30 rfl 0 rfl ?_
      refine mm_get C 18 1 (fun w h => mm_wc (inX3 w h)) rfl rfl (by decide) (mm_wc tw468) rfl rfl dX3_count_31 ?_
      refine mm_goto (tgt := 79) C dX3_count_34 (by decide) ?_
      exact mm_iret C K rfl dX3_count_79 (by
                have ho : o_count u a = .inr (some (k_kn u), u) := by simp [o_count, c7, eq_true c27]
                exact ⟨by rw [ho]; rfl, by rw [ho]; rfl⟩) rfl (mm_nl rfl) (mm_nl rfl)
  · skip
    refine mm_iconst (v := 1) C dX3_count_10 (by decide) ?_
    refine mm_goto (tgt := 15) C dX3_count_11 (by decide) ?_
    refine mm_iconst (v := 0) C dX3_count_15 (by decide) ?_
    refine mm_iconst (v := 0) C dX3_count_16 (by decide) ?_
    refine mm_iconst (v := 0) C dX3_count_17 (by decide) ?_
    refine mm_riV C 18 sv_X3_X3_throwing_70 rfl rfl (kX3_throwing _ _ U u _ ck cw F true false false false) ⟨rfl, rfl⟩ ⟨mm_nl rfl, mm_nl rfl⟩ rfl rfl (mm_nl rfl) ⟨mm_nl rfl, mm_nl rfl⟩ dX3_count_18 ?_
    refine mm_if_eq (tgt := 26) C dX3_count_21 (by decide) (fun z => absurd z (by decide)) (fun _ => ?_)
    refine mm_iconst (v := 0) C dX3_count_24 (by decide) ?_
    exact mm_iret C K rfl dX3_count_25 (by
                have ho : o_count u a = .inl x_ia := by simp [o_count, c7]
                exact ⟨by rw [ho]; rfl, by rw [ho, cd_count_1]; rfl⟩) rfl (mm_nl rfl) (mm_nl rfl)
set_option maxHeartbeats 4000000 in
set_option maxRecDepth 100000 in
theorem kX3_has (l : Launch) (D : va_G) (U u : ks_S) (t : Int32) (ck cw : Nat → Int32) (F : List mm_c) (a b e : Int32) (k c i : Nat) (J : ms_I u ck cw k c i) : mm_Wr l D yX3_has (mm_cw yX3_has cX3_has 4 (some .int)) (mm_rm 3) [.ref 18, .int a, .int b, .int e] (ks_H U (ms_H u t ck cw F)) (some (.int (m_an (o_has u c a b e)))) (ks_H U (ms_H (m_us u (o_has u c a b e)) (m_cd l_has (o_has u c a b e)) ck cw F)) := by
  refine mm_start (own := RX3) (by decide) rfl rfl (mm_nl rfl) (fun _ => rfl) (fun _ => rfl) (fun g ad hl hD hnL C K => ?_)
  subst hl
  subst hD
  have J0 := J
  obtain ⟨hI, wP, wA, wA0, hta, htu, hct, hko, hcl, hhv, hw4, htb, hn1, hn2⟩ := J
  show mm_M g ad 0 0 (ks_H U (ms_H u t ck cw F)) 0 [(0, .ref 18), (1, .int a), (2, .int b), (3, .int e)] []
  refine mm_aload_n C dX3_has_0 rfl 0 rfl ?_
  refine mm_aload_n C dX3_has_1 rfl 0 rfl ?_
  refine mm_iload_n C dX3_has_2 rfl 1 rfl ?_
  refine mm_riV C 18 sv_X3_X3_isKind_66 rfl rfl (kX3_isKind _ _ U u _ ck cw F a k c i hI) ⟨rfl, rfl⟩ ⟨mm_nl rfl, mm_nl rfl⟩ rfl rfl (mm_nl rfl) ⟨mm_nl rfl, mm_nl rfl⟩ dX3_has_3 ?_
  refine mm_ifb_eq (tgt := 29) C dX3_has_6 (by decide) (fun c6 => ?_) (fun c6 => ?_)
  · skip
    refine mm_iconst (v := 1) C dX3_has_29 (by decide) ?_
    refine mm_goto (tgt := 34) C dX3_has_30 (by decide) ?_
    refine mm_iload_n C dX3_has_34 rfl 3 rfl ?_
    refine mm_riS C ss_X3_X3_isDay_81 (kX3_isDay _ _ _ e) ⟨rfl, rfl⟩ ⟨mm_nl rfl, mm_nl rfl⟩ rfl rfl (mm_nl rfl) ⟨mm_nl rfl, mm_nl rfl⟩ dX3_has_35 ?_
    refine mm_ifb_ne (tgt := 45) C dX3_has_38 (by decide) (fun c38 => ?_) (fun c38 => ?_)
    · skip
      refine mm_iconst (v := 0) C dX3_has_45 (by decide) ?_
      refine mm_iconst (v := 0) C dX3_has_46 (by decide) ?_
      refine mm_iconst (v := 0) C dX3_has_47 (by decide) ?_
      refine mm_riV C 18 sv_X3_X3_throwing_70 rfl rfl (kX3_throwing _ _ U u _ ck cw F true false false false) ⟨rfl, rfl⟩ ⟨mm_nl rfl, mm_nl rfl⟩ rfl rfl (mm_nl rfl) ⟨mm_nl rfl, mm_nl rfl⟩ dX3_has_48 ?_
      refine mm_if_eq (tgt := 56) C dX3_has_51 (by decide) (fun z => absurd z (by decide)) (fun _ => ?_)
      refine mm_iconst (v := 0) C dX3_has_54 (by decide) ?_
      exact mm_iret C K rfl dX3_has_55 (by
                have ho : o_has u c a b e = .inl x_ia := by simp [o_has, c6, c38]
                exact ⟨by rw [ho]; rfl, by rw [ho, cd_has_1]; rfl⟩) rfl (mm_nl rfl) (mm_nl rfl)
    · skip
      refine mm_iconst (v := 1) C dX3_has_41 (by decide) ?_
      refine mm_goto (tgt := 46) C dX3_has_42 (by decide) ?_
      refine mm_iconst (v := 0) C dX3_has_46 (by decide) ?_
      refine mm_iconst (v := 0) C dX3_has_47 (by decide) ?_
      refine mm_riV C 18 sv_X3_X3_throwing_70 rfl rfl (kX3_throwing _ _ U u _ ck cw F true true false false) ⟨rfl, rfl⟩ ⟨mm_nl rfl, mm_nl rfl⟩ rfl rfl (mm_nl rfl) ⟨mm_nl rfl, mm_nl rfl⟩ dX3_has_48 ?_
      refine mm_if_eq (tgt := 56) C dX3_has_51 (by decide) (fun z => absurd z (by decide)) (fun _ => ?_)
      refine mm_iconst (v := 0) C dX3_has_54 (by decide) ?_
      exact mm_iret C K rfl dX3_has_55 (by
                have ho : o_has u c a b e = .inl x_ia := by simp [o_has, c6, c38]
                exact ⟨by rw [ho]; rfl, by rw [ho, cd_has_1]; rfl⟩) rfl (mm_nl rfl) (mm_nl rfl)
  · skip
    refine mm_iload_n C dX3_has_9 rfl 2 rfl ?_
    refine mm_iconst (v := 0) C dX3_has_10 (by decide) ?_
    refine mm_iconst (v := 5) C dX3_has_11 (by decide) ?_
    refine mm_riS C ss_X3_X3_between_59 (kX3_between _ _ _ b 0 5 (b_below b 6) (bw_below (by decide))) ⟨rfl, rfl⟩ ⟨mm_nl rfl, mm_nl rfl⟩ rfl rfl (mm_nl rfl) ⟨mm_nl rfl, mm_nl rfl⟩ dX3_has_12 ?_
    refine mm_ifb_ne (tgt := 33) C dX3_has_15 (by decide) (fun c15 => ?_) (fun c15 => ?_)
    · skip
      refine mm_iconst (v := 0) C dX3_has_33 (by decide) ?_
      refine mm_iload_n C dX3_has_34 rfl 3 rfl ?_
      refine mm_riS C ss_X3_X3_isDay_81 (kX3_isDay _ _ _ e) ⟨rfl, rfl⟩ ⟨mm_nl rfl, mm_nl rfl⟩ rfl rfl (mm_nl rfl) ⟨mm_nl rfl, mm_nl rfl⟩ dX3_has_35 ?_
      refine mm_ifb_ne (tgt := 45) C dX3_has_38 (by decide) (fun c38 => ?_) (fun c38 => ?_)
      · skip
        refine mm_iconst (v := 0) C dX3_has_45 (by decide) ?_
        refine mm_iconst (v := 0) C dX3_has_46 (by decide) ?_
        refine mm_iconst (v := 0) C dX3_has_47 (by decide) ?_
        refine mm_riV C 18 sv_X3_X3_throwing_70 rfl rfl (kX3_throwing _ _ U u _ ck cw F false false false false) ⟨rfl, rfl⟩ ⟨mm_nl rfl, mm_nl rfl⟩ rfl rfl (mm_nl rfl) ⟨mm_nl rfl, mm_nl rfl⟩ dX3_has_48 ?_
        refine mm_if_eq (tgt := 56) C dX3_has_51 (by decide) (fun _ => ?_) (fun z => absurd z (by decide))
        have hz : hz_P b := Or.inl (bt (N := 6) c15 rfl)
        refine mm_iload_n C dX3_has_56 rfl 2 rfl ?_
        refine mm_iconst (v := 4) C dX3_has_57 (by decide) ?_
        refine mm_icmp_ge (tgt := 69) C dX3_has_58 (by decide) (fun c58 => ?_) (fun c58 => ?_)
        · skip
          refine mm_iload_n C dX3_has_69 rfl 2 rfl ?_
          refine mm_iconst (v := 4) C dX3_has_70 (by decide) ?_
          refine mm_icmp_ne (tgt := 89) C dX3_has_71 (by decide) (fun c71 => ?_) (fun c71 => ?_)
          · skip
            refine mm_iload_n C dX3_has_89 rfl 2 rfl ?_
            refine mm_iconst (v := 5) C dX3_has_90 (by decide) ?_
            refine mm_icmp_ne (tgt := 102) C dX3_has_91 (by decide) (fun c91 => ?_) (fun c91 => ?_)
            · skip
              refine mm_aload_n C dX3_has_102 rfl 0 rfl ?_
              refine mm_iload_n C dX3_has_103 rfl 1 rfl ?_
              refine mm_iload_n C dX3_has_104 rfl 2 rfl ?_
              refine mm_bipush (v := 10) C dX3_has_105 (by decide) ?_
              refine mm_isub C dX3_has_107 ?_
              refine mm_iload_n C dX3_has_108 rfl 3 rfl ?_
              refine mm_riV C 18 sv_X3_X3_needs_105 rfl rfl (kX3_needs _ _ U u _ ck cw F a (b - 10) e k c i J0 c6 (hz_16 hz c58 c71 c91)) ⟨rfl, rfl⟩ ⟨mm_nl rfl, mm_nl rfl⟩ rfl rfl (mm_nl rfl) ⟨mm_nl rfl, mm_nl rfl⟩ dX3_has_109 ?_
              exact mm_iret C K rfl dX3_has_112 (by
                have ho : o_has u c a b e = .inr (some (f_nd u c a (b - 10) e), u) := by simp [o_has, c6, c15, c38, c58, c71, c91, i_b]
                exact ⟨by rw [ho]; rfl, by rw [ho]; rfl⟩) rfl (mm_nl rfl) (mm_nl rfl)
            · skip
              refine mm_aload_n C dX3_has_94 rfl 0 rfl ?_
              refine mm_iload_n C dX3_has_95 rfl 1 rfl ?_
              refine mm_riV C 18 sv_X3_X3_depth_102 rfl rfl (kX3_depth _ _ U u _ ck cw F a k c i J0 c6) ⟨rfl, rfl⟩ ⟨mm_nl rfl, mm_nl rfl⟩ rfl rfl (mm_nl rfl) ⟨mm_nl rfl, mm_nl rfl⟩ dX3_has_96 ?_
              refine mm_goto (tgt := 112) C dX3_has_99 (by decide) ?_
              exact mm_iret C K rfl dX3_has_112 (by
                have ho : o_has u c a b e = .inr (some (f_dp (k_kn u) (k_pa u) 40 (k_pa u a.toNatClampNeg) 0), u) := by simp [o_has, c6, c15, c38, c58, c71, eq_true c91, i_b]
                exact ⟨by rw [ho]; rfl, by rw [ho]; rfl⟩) rfl (mm_nl rfl) (mm_nl rfl)
          · skip
            refine mm_aload_n C dX3_has_74 rfl 0 rfl ?_
            refine mm_iload_n C dX3_has_75 rfl 1 rfl ?_
            refine mm_iload_n C dX3_has_76 rfl 3 rfl ?_
            refine mm_riV C 18 sv_X3_X3_isClosed_99 rfl rfl (kX3_isClosed _ _ U u _ ck cw F a e k c i J0 c6) ⟨rfl, rfl⟩ ⟨mm_nl rfl, mm_nl rfl⟩ rfl rfl (mm_nl rfl) ⟨mm_nl rfl, mm_nl rfl⟩ dX3_has_77 ?_
            refine mm_ifb_eq (tgt := 87) C dX3_has_80 (by decide) (fun c80 => ?_) (fun c80 => ?_)
            · skip
              refine mm_iconst (v := 0) C dX3_has_87 (by decide) ?_
              exact mm_iret C K rfl dX3_has_88 (by
                have ho : o_has u c a b e = .inr (some 0, u) := by simp [o_has, c6, c15, c38, c58, eq_true c71, c80, i_b]
                exact ⟨by rw [ho]; rfl, by rw [ho]; rfl⟩) rfl (mm_nl rfl) (mm_nl rfl)
            · skip
              refine mm_iconst (v := 1) C dX3_has_83 (by decide) ?_
              refine mm_goto (tgt := 88) C dX3_has_84 (by decide) ?_
              exact mm_iret C K rfl dX3_has_88 (by
                have ho : o_has u c a b e = .inr (some 1, u) := by simp [o_has, c6, c15, c38, c58, eq_true c71, c80, i_b]
                exact ⟨by rw [ho]; rfl, by rw [ho]; rfl⟩) rfl (mm_nl rfl) (mm_nl rfl)
        · skip
          refine mm_aload_n C dX3_has_61 rfl 0 rfl ?_
          refine mm_iload_n C dX3_has_62 rfl 1 rfl ?_
          refine mm_iload_n C dX3_has_63 rfl 2 rfl ?_
          refine mm_iload_n C dX3_has_64 rfl 3 rfl ?_
          refine mm_riV C 18 sv_X3_X3_told_96 rfl rfl (kX3_told _ _ U u _ ck cw F a b e k c i J0 c6 (hz_3 hz c58)) ⟨rfl, rfl⟩ ⟨mm_nl rfl, mm_nl rfl⟩ rfl rfl (mm_nl rfl) ⟨mm_nl rfl, mm_nl rfl⟩ dX3_has_65 ?_
          exact mm_iret C K rfl dX3_has_68 (by
                have ho : o_has u c a b e = .inr (some (f_wo u c a b e), u) := by simp [o_has, c6, c15, c38, c58, n_45 c58 (x := 4) (by decide), n_45 c58 (x := 5) (by decide), i_b]
                exact ⟨by rw [ho]; rfl, by rw [ho]; rfl⟩) rfl (mm_nl rfl) (mm_nl rfl)
      · skip
        refine mm_iconst (v := 1) C dX3_has_41 (by decide) ?_
        refine mm_goto (tgt := 46) C dX3_has_42 (by decide) ?_
        refine mm_iconst (v := 0) C dX3_has_46 (by decide) ?_
        refine mm_iconst (v := 0) C dX3_has_47 (by decide) ?_
        refine mm_riV C 18 sv_X3_X3_throwing_70 rfl rfl (kX3_throwing _ _ U u _ ck cw F false true false false) ⟨rfl, rfl⟩ ⟨mm_nl rfl, mm_nl rfl⟩ rfl rfl (mm_nl rfl) ⟨mm_nl rfl, mm_nl rfl⟩ dX3_has_48 ?_
        refine mm_if_eq (tgt := 56) C dX3_has_51 (by decide) (fun z => absurd z (by decide)) (fun _ => ?_)
        refine mm_iconst (v := 0) C dX3_has_54 (by decide) ?_
        exact mm_iret C K rfl dX3_has_55 (by
                have ho : o_has u c a b e = .inl x_io := by simp [o_has, c6, c15, c38]
                exact ⟨by rw [ho]; rfl, by rw [ho, cd_has_2]; rfl⟩) rfl (mm_nl rfl) (mm_nl rfl)
    · skip
      refine mm_iload_n C dX3_has_18 rfl 2 rfl ?_
      refine mm_bipush (v := 10) C dX3_has_19 (by decide) ?_
      refine mm_bipush (v := 25) C dX3_has_21 (by decide) ?_
      refine mm_riS C ss_X3_X3_between_59 (kX3_between _ _ _ b 10 25 (b_need b) bw_need) ⟨rfl, rfl⟩ ⟨mm_nl rfl, mm_nl rfl⟩ rfl rfl (mm_nl rfl) ⟨mm_nl rfl, mm_nl rfl⟩ dX3_has_23 ?_
      refine mm_ifb_ne (tgt := 33) C dX3_has_26 (by decide) (fun c26 => ?_) (fun c26 => ?_)
      · skip
        refine mm_iconst (v := 0) C dX3_has_33 (by decide) ?_
        refine mm_iload_n C dX3_has_34 rfl 3 rfl ?_
        refine mm_riS C ss_X3_X3_isDay_81 (kX3_isDay _ _ _ e) ⟨rfl, rfl⟩ ⟨mm_nl rfl, mm_nl rfl⟩ rfl rfl (mm_nl rfl) ⟨mm_nl rfl, mm_nl rfl⟩ dX3_has_35 ?_
        refine mm_ifb_ne (tgt := 45) C dX3_has_38 (by decide) (fun c38 => ?_) (fun c38 => ?_)
        · skip
          refine mm_iconst (v := 0) C dX3_has_45 (by decide) ?_
          refine mm_iconst (v := 0) C dX3_has_46 (by decide) ?_
          refine mm_iconst (v := 0) C dX3_has_47 (by decide) ?_
          refine mm_riV C 18 sv_X3_X3_throwing_70 rfl rfl (kX3_throwing _ _ U u _ ck cw F false false false false) ⟨rfl, rfl⟩ ⟨mm_nl rfl, mm_nl rfl⟩ rfl rfl (mm_nl rfl) ⟨mm_nl rfl, mm_nl rfl⟩ dX3_has_48 ?_
          refine mm_if_eq (tgt := 56) C dX3_has_51 (by decide) (fun _ => ?_) (fun z => absurd z (by decide))
          have hz : hz_P b := Or.inr (bneed c26)
          refine mm_iload_n C dX3_has_56 rfl 2 rfl ?_
          refine mm_iconst (v := 4) C dX3_has_57 (by decide) ?_
          refine mm_icmp_ge (tgt := 69) C dX3_has_58 (by decide) (fun c58 => ?_) (fun c58 => ?_)
          · skip
            refine mm_iload_n C dX3_has_69 rfl 2 rfl ?_
            refine mm_iconst (v := 4) C dX3_has_70 (by decide) ?_
            refine mm_icmp_ne (tgt := 89) C dX3_has_71 (by decide) (fun c71 => ?_) (fun c71 => ?_)
            · skip
              refine mm_iload_n C dX3_has_89 rfl 2 rfl ?_
              refine mm_iconst (v := 5) C dX3_has_90 (by decide) ?_
              refine mm_icmp_ne (tgt := 102) C dX3_has_91 (by decide) (fun c91 => ?_) (fun c91 => ?_)
              · skip
                refine mm_aload_n C dX3_has_102 rfl 0 rfl ?_
                refine mm_iload_n C dX3_has_103 rfl 1 rfl ?_
                refine mm_iload_n C dX3_has_104 rfl 2 rfl ?_
                refine mm_bipush (v := 10) C dX3_has_105 (by decide) ?_
                refine mm_isub C dX3_has_107 ?_
                refine mm_iload_n C dX3_has_108 rfl 3 rfl ?_
                refine mm_riV C 18 sv_X3_X3_needs_105 rfl rfl (kX3_needs _ _ U u _ ck cw F a (b - 10) e k c i J0 c6 (hz_16 hz c58 c71 c91)) ⟨rfl, rfl⟩ ⟨mm_nl rfl, mm_nl rfl⟩ rfl rfl (mm_nl rfl) ⟨mm_nl rfl, mm_nl rfl⟩ dX3_has_109 ?_
                exact mm_iret C K rfl dX3_has_112 (by
                have ho : o_has u c a b e = .inr (some (f_nd u c a (b - 10) e), u) := by simp [o_has, c6, c15, c26, c38, c58, c71, c91, i_b]
                exact ⟨by rw [ho]; rfl, by rw [ho]; rfl⟩) rfl (mm_nl rfl) (mm_nl rfl)
              · skip
                refine mm_aload_n C dX3_has_94 rfl 0 rfl ?_
                refine mm_iload_n C dX3_has_95 rfl 1 rfl ?_
                refine mm_riV C 18 sv_X3_X3_depth_102 rfl rfl (kX3_depth _ _ U u _ ck cw F a k c i J0 c6) ⟨rfl, rfl⟩ ⟨mm_nl rfl, mm_nl rfl⟩ rfl rfl (mm_nl rfl) ⟨mm_nl rfl, mm_nl rfl⟩ dX3_has_96 ?_
                refine mm_goto (tgt := 112) C dX3_has_99 (by decide) ?_
                exact mm_iret C K rfl dX3_has_112 (by
                have ho : o_has u c a b e = .inr (some (f_dp (k_kn u) (k_pa u) 40 (k_pa u a.toNatClampNeg) 0), u) := by simp [o_has, c6, c15, c26, c38, c58, c71, eq_true c91, i_b]
                exact ⟨by rw [ho]; rfl, by rw [ho]; rfl⟩) rfl (mm_nl rfl) (mm_nl rfl)
            · skip
              refine mm_aload_n C dX3_has_74 rfl 0 rfl ?_
              refine mm_iload_n C dX3_has_75 rfl 1 rfl ?_
              refine mm_iload_n C dX3_has_76 rfl 3 rfl ?_
              refine mm_riV C 18 sv_X3_X3_isClosed_99 rfl rfl (kX3_isClosed _ _ U u _ ck cw F a e k c i J0 c6) ⟨rfl, rfl⟩ ⟨mm_nl rfl, mm_nl rfl⟩ rfl rfl (mm_nl rfl) ⟨mm_nl rfl, mm_nl rfl⟩ dX3_has_77 ?_
              refine mm_ifb_eq (tgt := 87) C dX3_has_80 (by decide) (fun c80 => ?_) (fun c80 => ?_)
              · skip
                refine mm_iconst (v := 0) C dX3_has_87 (by decide) ?_
                exact mm_iret C K rfl dX3_has_88 (by
                have ho : o_has u c a b e = .inr (some 0, u) := by simp [o_has, c6, c15, c26, c38, c58, eq_true c71, c80, i_b]
                exact ⟨by rw [ho]; rfl, by rw [ho]; rfl⟩) rfl (mm_nl rfl) (mm_nl rfl)
              · skip
                refine mm_iconst (v := 1) C dX3_has_83 (by decide) ?_
                refine mm_goto (tgt := 88) C dX3_has_84 (by decide) ?_
                exact mm_iret C K rfl dX3_has_88 (by
                have ho : o_has u c a b e = .inr (some 1, u) := by simp [o_has, c6, c15, c26, c38, c58, eq_true c71, c80, i_b]
                exact ⟨by rw [ho]; rfl, by rw [ho]; rfl⟩) rfl (mm_nl rfl) (mm_nl rfl)
          · skip
            refine mm_aload_n C dX3_has_61 rfl 0 rfl ?_
            refine mm_iload_n C dX3_has_62 rfl 1 rfl ?_
            refine mm_iload_n C dX3_has_63 rfl 2 rfl ?_
            refine mm_iload_n C dX3_has_64 rfl 3 rfl ?_
            refine mm_riV C 18 sv_X3_X3_told_96 rfl rfl (kX3_told _ _ U u _ ck cw F a b e k c i J0 c6 (hz_3 hz c58)) ⟨rfl, rfl⟩ ⟨mm_nl rfl, mm_nl rfl⟩ rfl rfl (mm_nl rfl) ⟨mm_nl rfl, mm_nl rfl⟩ dX3_has_65 ?_
            exact mm_iret C K rfl dX3_has_68 (by
                have ho : o_has u c a b e = .inr (some (f_wo u c a b e), u) := by simp [o_has, c6, c15, c26, c38, c58, n_45 c58 (x := 4) (by decide), n_45 c58 (x := 5) (by decide), i_b]
                exact ⟨by rw [ho]; rfl, by rw [ho]; rfl⟩) rfl (mm_nl rfl) (mm_nl rfl)
        · skip
          refine mm_iconst (v := 1) C dX3_has_41 (by decide) ?_
          refine mm_goto (tgt := 46) C dX3_has_42 (by decide) ?_
          refine mm_iconst (v := 0) C dX3_has_46 (by decide) ?_
          refine mm_iconst (v := 0) C dX3_has_47 (by decide) ?_
          refine mm_riV C 18 sv_X3_X3_throwing_70 rfl rfl (kX3_throwing _ _ U u _ ck cw F false true false false) ⟨rfl, rfl⟩ ⟨mm_nl rfl, mm_nl rfl⟩ rfl rfl (mm_nl rfl) ⟨mm_nl rfl, mm_nl rfl⟩ dX3_has_48 ?_
          refine mm_if_eq (tgt := 56) C dX3_has_51 (by decide) (fun z => absurd z (by decide)) (fun _ => ?_)
          refine mm_iconst (v := 0) C dX3_has_54 (by decide) ?_
          exact mm_iret C K rfl dX3_has_55 (by
                have ho : o_has u c a b e = .inl x_io := by simp [o_has, c6, c15, c26, c38]
                exact ⟨by rw [ho]; rfl, by rw [ho, cd_has_2]; rfl⟩) rfl (mm_nl rfl) (mm_nl rfl)
      · skip
        refine mm_iconst (v := 1) C dX3_has_29 (by decide) ?_
        refine mm_goto (tgt := 34) C dX3_has_30 (by decide) ?_
        refine mm_iload_n C dX3_has_34 rfl 3 rfl ?_
        refine mm_riS C ss_X3_X3_isDay_81 (kX3_isDay _ _ _ e) ⟨rfl, rfl⟩ ⟨mm_nl rfl, mm_nl rfl⟩ rfl rfl (mm_nl rfl) ⟨mm_nl rfl, mm_nl rfl⟩ dX3_has_35 ?_
        refine mm_ifb_ne (tgt := 45) C dX3_has_38 (by decide) (fun c38 => ?_) (fun c38 => ?_)
        · skip
          refine mm_iconst (v := 0) C dX3_has_45 (by decide) ?_
          refine mm_iconst (v := 0) C dX3_has_46 (by decide) ?_
          refine mm_iconst (v := 0) C dX3_has_47 (by decide) ?_
          refine mm_riV C 18 sv_X3_X3_throwing_70 rfl rfl (kX3_throwing _ _ U u _ ck cw F true false false false) ⟨rfl, rfl⟩ ⟨mm_nl rfl, mm_nl rfl⟩ rfl rfl (mm_nl rfl) ⟨mm_nl rfl, mm_nl rfl⟩ dX3_has_48 ?_
          refine mm_if_eq (tgt := 56) C dX3_has_51 (by decide) (fun z => absurd z (by decide)) (fun _ => ?_)
          refine mm_iconst (v := 0) C dX3_has_54 (by decide) ?_
          exact mm_iret C K rfl dX3_has_55 (by
                have ho : o_has u c a b e = .inl x_ia := by simp [o_has, c6, c15, c26, c38]
                exact ⟨by rw [ho]; rfl, by rw [ho, cd_has_1]; rfl⟩) rfl (mm_nl rfl) (mm_nl rfl)
        · skip
          refine mm_iconst (v := 1) C dX3_has_41 (by decide) ?_
          refine mm_goto (tgt := 46) C dX3_has_42 (by decide) ?_
          refine mm_iconst (v := 0) C dX3_has_46 (by decide) ?_
          refine mm_iconst (v := 0) C dX3_has_47 (by decide) ?_
          refine mm_riV C 18 sv_X3_X3_throwing_70 rfl rfl (kX3_throwing _ _ U u _ ck cw F true true false false) ⟨rfl, rfl⟩ ⟨mm_nl rfl, mm_nl rfl⟩ rfl rfl (mm_nl rfl) ⟨mm_nl rfl, mm_nl rfl⟩ dX3_has_48 ?_
          refine mm_if_eq (tgt := 56) C dX3_has_51 (by decide) (fun z => absurd z (by decide)) (fun _ => ?_)
          refine mm_iconst (v := 0) C dX3_has_54 (by decide) ?_
          exact mm_iret C K rfl dX3_has_55 (by
                have ho : o_has u c a b e = .inl x_ia := by simp [o_has, c6, c15, c26, c38]
                exact ⟨by rw [ho]; rfl, by rw [ho, cd_has_1]; rfl⟩) rfl (mm_nl rfl) (mm_nl rfl)
set_option maxHeartbeats 4000000 in
set_option maxRecDepth 100000 in
theorem kX3_area (l : Launch) (D : va_G) (U u : ks_S) (t : Int32) (ck cw : Nat → Int32) (F : List mm_c) (a b e : Int32) (k c i : Nat) (J : ms_I u ck cw k c i) : mm_Wr l D yX3_area (mm_cw yX3_area cX3_area 7 none) (mm_rm 3) [.ref 18, .int a, .int b, .int e] (ks_H U (ms_H u t ck cw F)) (none) (ks_H U (ms_H (m_us u (o_area u a b e)) (m_cd l_area (o_area u a b e)) ck cw F)) := by
  refine mm_start (own := RX3) (by decide) rfl rfl (mm_nl rfl) (fun _ => rfl) (fun _ => rfl) (fun g ad hl hD hnL C K => ?_)
  subst hl
  subst hD
  have J0 := J
  obtain ⟨hI, wP, wA, wA0, hta, htu, hct, hko, hcl, hhv, hw4, htb, hn1, hn2⟩ := J
  have loop : ∀ (n : Nat) (d : Nat) (x : Int32), w_st (k_kn u) (nxA u b) n x → b_below a (k_kn u) = true → b_kindN (k_kn u) e = true → b_below b 10 = true → f_ld (k_kn u) (k_ta u) b a (n + d) x = f_ld (k_kn u) (k_ta u) b a 40 e → mm_M g ad 0 0 (ks_H U (ms_H u t ck cw F)) 50 [(6, .int x), (5, .int 0), (4, .int 0), (0, .ref 18), (1, .int a), (2, .int b), (3, .int e)] [] := by
    intro n
    induction n with
    | zero =>
      intro d x hw c5 hke c40 hr
      refine mm_iload C dX3_area_50 0 rfl ?_
      refine mm_if_lt (tgt := 99) C dX3_area_52 (by decide) (fun c52 => ?_) (fun z => False.elim ((fun z => z (lt0_of hw)) z))
      refine mm_aload_n C dX3_area_99 rfl 3 rfl ?_
      refine mm_iload C dX3_area_100 2 rfl ?_
      refine mm_iload_n C dX3_area_102 rfl 5 rfl ?_
      refine mm_riS C ss_X3_X3_isArea_108 (kX3_isArea _ _ _ b) ⟨rfl, rfl⟩ ⟨mm_nl rfl, mm_nl rfl⟩ rfl rfl (mm_nl rfl) ⟨mm_nl rfl, mm_nl rfl⟩ dX3_area_103 ?_
      refine mm_ifb_ne (tgt := 113) C dX3_area_106 (by decide) (fun c106 => ?_) (fun z => False.elim ((bft c40) z))
      refine mm_iconst (v := 0) C dX3_area_113 (by decide) ?_
      refine mm_iload C dX3_area_114 1 rfl ?_
      refine mm_iconst (v := 0) C dX3_area_116 (by decide) ?_
      refine mm_riV C 18 sv_X3_X3_throwing_70 rfl rfl (kX3_throwing _ _ U u _ ck cw F false false false false) ⟨rfl, rfl⟩ ⟨mm_nl rfl, mm_nl rfl⟩ rfl rfl (mm_nl rfl) ⟨mm_nl rfl, mm_nl rfl⟩ dX3_area_117 ?_
      refine mm_if_eq (tgt := 124) C dX3_area_120 (by decide) (fun _ => ?_) (fun z => absurd z (by decide))
      refine mm_aload_n C dX3_area_124 rfl 3 rfl ?_
      refine mm_get C 18 10 (fun w h => mm_wc (inX3 w h)) rfl rfl (by decide) (mm_wc tw477) rfl rfl dX3_area_125 ?_
      refine mm_bipush (v := 10) C dX3_area_128 (by decide) ?_
      refine mm_iload_n C dX3_area_130 rfl 4 rfl ?_
      refine mm_imulc C dX3_area_131 ?_
      refine mm_iload_n C dX3_area_132 rfl 5 rfl ?_
      refine mm_iadd C dX3_area_133 ?_
      refine mm_iload_n C dX3_area_134 rfl 6 rfl ?_
      refine mm_iast C 26 rfl (ix_m (c := 10) hI.k40 c5 (bt c40 rfl) (by decide) (by decide) (by decide)) dX3_area_135 ?_
      exact mm_vret C K dX3_area_136 (by
                have ho : o_area u a b e = .inr (none, ks_putA u a b e) := by simp [o_area, c5, hke, c40, (show f_ld (k_kn u) (k_ta u) b a 40 e = false from by rw [← hr, show x = -1 from hw, ld_m1])]
                exact ⟨rfl, by rw [ho]; rfl⟩) rfl (mm_nl rfl) (mm_nl rfl)
    | succ n ih =>
      intro d x hw c5 hke c40 hr
      rw [show n + 1 + d = (n + d) + 1 from by omega] at hr
      refine mm_iload C dX3_area_50 0 rfl ?_
      refine mm_if_lt (tgt := 99) C dX3_area_52 (by decide) (fun z => False.elim ((b_nlt hw.1) z)) (fun c52 => ?_)
      refine mm_iload C dX3_area_55 1 rfl ?_
      refine mm_if_ne (tgt := 66) C dX3_area_57 (by decide) (fun z => absurd z (by decide)) (fun _ => ?_)
      refine mm_iload C dX3_area_60 0 rfl ?_
      refine mm_iload_n C dX3_area_62 rfl 4 rfl ?_
      refine mm_icmp_ne (tgt := 70) C dX3_area_63 (by decide) (fun c63 => ?_) (fun c63 => ?_)
      · skip
        refine mm_iconst (v := 0) C dX3_area_70 (by decide) ?_
        refine mm_istore (lv' := [(5, .int 0), (6, .int x), (4, .int 0), (0, .ref 18), (1, .int a), (2, .int b), (3, .int e)]) C dX3_area_71 hnL (by decide) rfl ?_
        refine mm_iload C dX3_area_73 0 rfl ?_
        refine mm_if_eq (tgt := 82) C dX3_area_75 (by decide) (fun _ => ?_) (fun z => absurd z (by decide))
        refine mm_aload_n C dX3_area_82 rfl 3 rfl ?_
        refine mm_get C 18 10 (fun w h => mm_wc (inX3 w h)) rfl rfl (by decide) (mm_wc tw477) rfl rfl dX3_area_83 ?_
        refine mm_bipush (v := 10) C dX3_area_86 (by decide) ?_
        refine mm_iload C dX3_area_88 1 rfl ?_
        refine mm_imulc C dX3_area_90 ?_
        refine mm_iload_n C dX3_area_91 rfl 5 rfl ?_
        refine mm_iadd C dX3_area_92 ?_
        refine mm_iald C 26 rfl (ix_m (c := 10) hI.k40 hw.1 (bt c40 rfl) (by decide) (by decide) (by decide)) dX3_area_93 ?_
        refine mm_istore (lv' := [(6, .int ((k_ta u) ((x * 10) + b).toNatClampNeg)), (5, .int 0), (4, .int 0), (0, .ref 18), (1, .int a), (2, .int b), (3, .int e)]) C dX3_area_94 hnL (by decide) rfl ?_
        refine mm_goto (tgt := 50) C dX3_area_96 (by decide) ?_
        exact ih d _ hw.2 c5 hke c40 (by rw [← hr]; simp [f_ld, hw.1, c63, nxA])
      · skip
        refine mm_iconst (v := 1) C dX3_area_66 (by decide) ?_
        refine mm_goto (tgt := 71) C dX3_area_67 (by decide) ?_
        refine mm_istore (lv' := [(5, .int 1), (6, .int x), (4, .int 0), (0, .ref 18), (1, .int a), (2, .int b), (3, .int e)]) C dX3_area_71 hnL (by decide) rfl ?_
        refine mm_iload C dX3_area_73 0 rfl ?_
        refine mm_if_eq (tgt := 82) C dX3_area_75 (by decide) (fun z => absurd z (by decide)) (fun _ => ?_)
        refine mm_iconst (v := (-1)) C dX3_area_78 (by decide) ?_
        refine mm_goto (tgt := 94) C dX3_area_79 (by decide) ?_
        refine mm_istore (lv' := [(6, .int (-1)), (5, .int 1), (4, .int 0), (0, .ref 18), (1, .int a), (2, .int b), (3, .int e)]) C dX3_area_94 hnL (by decide) rfl ?_
        refine mm_goto (tgt := 50) C dX3_area_96 (by decide) ?_
        refine mm_iload C dX3_area_50 0 rfl ?_
        refine mm_if_lt (tgt := 99) C dX3_area_52 (by decide) (fun _ => ?_) (fun z => absurd z (by decide))
        refine mm_aload_n C dX3_area_99 rfl 3 rfl ?_
        refine mm_iload C dX3_area_100 2 rfl ?_
        refine mm_iload_n C dX3_area_102 rfl 5 rfl ?_
        refine mm_riS C ss_X3_X3_isArea_108 (kX3_isArea _ _ _ b) ⟨rfl, rfl⟩ ⟨mm_nl rfl, mm_nl rfl⟩ rfl rfl (mm_nl rfl) ⟨mm_nl rfl, mm_nl rfl⟩ dX3_area_103 ?_
        refine mm_ifb_ne (tgt := 113) C dX3_area_106 (by decide) (fun c106 => ?_) (fun z => False.elim ((bft c40) z))
        refine mm_iconst (v := 0) C dX3_area_113 (by decide) ?_
        refine mm_iload C dX3_area_114 1 rfl ?_
        refine mm_iconst (v := 0) C dX3_area_116 (by decide) ?_
        refine mm_riV C 18 sv_X3_X3_throwing_70 rfl rfl (kX3_throwing _ _ U u _ ck cw F false false true false) ⟨rfl, rfl⟩ ⟨mm_nl rfl, mm_nl rfl⟩ rfl rfl (mm_nl rfl) ⟨mm_nl rfl, mm_nl rfl⟩ dX3_area_117 ?_
        refine mm_if_eq (tgt := 124) C dX3_area_120 (by decide) (fun z => absurd z (by decide)) (fun _ => ?_)
        exact mm_vret C K dX3_area_123 (by
                have ho : o_area u a b e = .inl x_is := by simp [o_area, eq_true c63, c5, hke, c40, (show f_ld (k_kn u) (k_ta u) b a 40 e = true from by rw [← hr, f_ld, if_pos hw.1, if_pos c63])]
                exact ⟨rfl, by rw [ho, cd_area_3]; rfl⟩) rfl (mm_nl rfl) (mm_nl rfl)
  show mm_M g ad 0 0 (ks_H U (ms_H u t ck cw F)) 0 [(0, .ref 18), (1, .int a), (2, .int b), (3, .int e)] []
  refine mm_aload_n C dX3_area_0 rfl 0 rfl ?_
  refine mm_iload_n C dX3_area_1 rfl 1 rfl ?_
  refine mm_riV C 18 sv_X3_X3_isKind_66 rfl rfl (kX3_isKind _ _ U u _ ck cw F a k c i hI) ⟨rfl, rfl⟩ ⟨mm_nl rfl, mm_nl rfl⟩ rfl rfl (mm_nl rfl) ⟨mm_nl rfl, mm_nl rfl⟩ dX3_area_2 ?_
  refine mm_ifb_eq (tgt := 21) C dX3_area_5 (by decide) (fun c5 => ?_) (fun c5 => ?_)
  · skip
    refine mm_iconst (v := 1) C dX3_area_21 (by decide) ?_
    refine mm_goto (tgt := 26) C dX3_area_22 (by decide) ?_
    refine mm_istore (lv' := [(4, .int 1), (0, .ref 18), (1, .int a), (2, .int b), (3, .int e)]) C dX3_area_26 hnL (by decide) rfl ?_
    refine mm_iconst (v := 0) C dX3_area_28 (by decide) ?_
    refine mm_istore (lv' := [(5, .int 0), (4, .int 1), (0, .ref 18), (1, .int a), (2, .int b), (3, .int e)]) C dX3_area_29 hnL (by decide) rfl ?_
    refine mm_iload C dX3_area_31 1 rfl ?_
    refine mm_if_ne (tgt := 43) C dX3_area_33 (by decide) (fun _ => ?_) (fun z => absurd z (by decide))
    refine mm_iconst (v := (-1)) C dX3_area_43 (by decide) ?_
    refine mm_goto (tgt := 48) C dX3_area_44 (by decide) ?_
    refine mm_istore (lv' := [(6, .int (-1)), (5, .int 0), (4, .int 1), (0, .ref 18), (1, .int a), (2, .int b), (3, .int e)]) C dX3_area_48 hnL (by decide) rfl ?_
    refine mm_iload C dX3_area_50 0 rfl ?_
    refine mm_if_lt (tgt := 99) C dX3_area_52 (by decide) (fun _ => ?_) (fun z => absurd z (by decide))
    refine mm_aload_n C dX3_area_99 rfl 3 rfl ?_
    refine mm_iload C dX3_area_100 2 rfl ?_
    refine mm_iload_n C dX3_area_102 rfl 5 rfl ?_
    refine mm_riS C ss_X3_X3_isArea_108 (kX3_isArea _ _ _ b) ⟨rfl, rfl⟩ ⟨mm_nl rfl, mm_nl rfl⟩ rfl rfl (mm_nl rfl) ⟨mm_nl rfl, mm_nl rfl⟩ dX3_area_103 ?_
    refine mm_ifb_ne (tgt := 113) C dX3_area_106 (by decide) (fun c106 => ?_) (fun c106 => ?_)
    · skip
      refine mm_iconst (v := 0) C dX3_area_113 (by decide) ?_
      refine mm_iload C dX3_area_114 1 rfl ?_
      refine mm_iconst (v := 0) C dX3_area_116 (by decide) ?_
      refine mm_riV C 18 sv_X3_X3_throwing_70 rfl rfl (kX3_throwing _ _ U u _ ck cw F true false false false) ⟨rfl, rfl⟩ ⟨mm_nl rfl, mm_nl rfl⟩ rfl rfl (mm_nl rfl) ⟨mm_nl rfl, mm_nl rfl⟩ dX3_area_117 ?_
      refine mm_if_eq (tgt := 124) C dX3_area_120 (by decide) (fun z => absurd z (by decide)) (fun _ => ?_)
      exact mm_vret C K dX3_area_123 (by
                have ho : o_area u a b e = .inl x_ia := by simp [o_area, c5, c106, b_kindN]
                exact ⟨rfl, by rw [ho, cd_area_1]; rfl⟩) rfl (mm_nl rfl) (mm_nl rfl)
    · skip
      refine mm_iconst (v := 1) C dX3_area_109 (by decide) ?_
      refine mm_goto (tgt := 114) C dX3_area_110 (by decide) ?_
      refine mm_iload C dX3_area_114 1 rfl ?_
      refine mm_iconst (v := 0) C dX3_area_116 (by decide) ?_
      refine mm_riV C 18 sv_X3_X3_throwing_70 rfl rfl (kX3_throwing _ _ U u _ ck cw F true true false false) ⟨rfl, rfl⟩ ⟨mm_nl rfl, mm_nl rfl⟩ rfl rfl (mm_nl rfl) ⟨mm_nl rfl, mm_nl rfl⟩ dX3_area_117 ?_
      refine mm_if_eq (tgt := 124) C dX3_area_120 (by decide) (fun z => absurd z (by decide)) (fun _ => ?_)
      exact mm_vret C K dX3_area_123 (by
                have ho : o_area u a b e = .inl x_ia := by simp [o_area, c5, c106, b_kindN]
                exact ⟨rfl, by rw [ho, cd_area_1]; rfl⟩) rfl (mm_nl rfl) (mm_nl rfl)
  · skip
    refine mm_iload_n C dX3_area_8 rfl 3 rfl ?_
    refine mm_iconst (v := (-1)) C dX3_area_9 (by decide) ?_
    refine mm_icmp_eq (tgt := 25) C dX3_area_10 (by decide) (fun c10 => ?_) (fun c10 => ?_)
    · skip
      refine mm_iconst (v := 0) C dX3_area_25 (by decide) ?_
      refine mm_istore (lv' := [(4, .int 0), (0, .ref 18), (1, .int a), (2, .int b), (3, .int e)]) C dX3_area_26 hnL (by decide) rfl ?_
      refine mm_iconst (v := 0) C dX3_area_28 (by decide) ?_
      refine mm_istore (lv' := [(5, .int 0), (4, .int 0), (0, .ref 18), (1, .int a), (2, .int b), (3, .int e)]) C dX3_area_29 hnL (by decide) rfl ?_
      refine mm_iload C dX3_area_31 1 rfl ?_
      refine mm_if_ne (tgt := 43) C dX3_area_33 (by decide) (fun z => absurd z (by decide)) (fun _ => ?_)
      refine mm_iload_n C dX3_area_36 rfl 4 rfl ?_
      refine mm_riS C ss_X3_X3_isArea_108 (kX3_isArea _ _ _ b) ⟨rfl, rfl⟩ ⟨mm_nl rfl, mm_nl rfl⟩ rfl rfl (mm_nl rfl) ⟨mm_nl rfl, mm_nl rfl⟩ dX3_area_37 ?_
      refine mm_ifb_ne (tgt := 47) C dX3_area_40 (by decide) (fun c40 => ?_) (fun c40 => ?_)
      · skip
        refine mm_iload_n C dX3_area_47 rfl 5 rfl ?_
        refine mm_istore (lv' := [(6, .int e), (5, .int 0), (4, .int 0), (0, .ref 18), (1, .int a), (2, .int b), (3, .int e)]) C dX3_area_48 hnL (by decide) rfl ?_
        exact loop 0 40 e c10 c5 (by simp [b_kindN, eq_true c10]) c40 (by rw [Nat.zero_add])
      · skip
        refine mm_iconst (v := (-1)) C dX3_area_43 (by decide) ?_
        refine mm_goto (tgt := 48) C dX3_area_44 (by decide) ?_
        refine mm_istore (lv' := [(6, .int (-1)), (5, .int 0), (4, .int 0), (0, .ref 18), (1, .int a), (2, .int b), (3, .int e)]) C dX3_area_48 hnL (by decide) rfl ?_
        refine mm_iload C dX3_area_50 0 rfl ?_
        refine mm_if_lt (tgt := 99) C dX3_area_52 (by decide) (fun _ => ?_) (fun z => absurd z (by decide))
        refine mm_aload_n C dX3_area_99 rfl 3 rfl ?_
        refine mm_iload C dX3_area_100 2 rfl ?_
        refine mm_iload_n C dX3_area_102 rfl 5 rfl ?_
        refine mm_riS C ss_X3_X3_isArea_108 (kX3_isArea _ _ _ b) ⟨rfl, rfl⟩ ⟨mm_nl rfl, mm_nl rfl⟩ rfl rfl (mm_nl rfl) ⟨mm_nl rfl, mm_nl rfl⟩ dX3_area_103 ?_
        refine mm_ifb_ne (tgt := 113) C dX3_area_106 (by decide) (fun z => False.elim ((btf c40) z)) (fun c106 => ?_)
        refine mm_iconst (v := 1) C dX3_area_109 (by decide) ?_
        refine mm_goto (tgt := 114) C dX3_area_110 (by decide) ?_
        refine mm_iload C dX3_area_114 1 rfl ?_
        refine mm_iconst (v := 0) C dX3_area_116 (by decide) ?_
        refine mm_riV C 18 sv_X3_X3_throwing_70 rfl rfl (kX3_throwing _ _ U u _ ck cw F false true false false) ⟨rfl, rfl⟩ ⟨mm_nl rfl, mm_nl rfl⟩ rfl rfl (mm_nl rfl) ⟨mm_nl rfl, mm_nl rfl⟩ dX3_area_117 ?_
        refine mm_if_eq (tgt := 124) C dX3_area_120 (by decide) (fun z => absurd z (by decide)) (fun _ => ?_)
        exact mm_vret C K dX3_area_123 (by
                have ho : o_area u a b e = .inl x_io := by simp [o_area, c5, eq_true c10, c40, b_kindN]
                exact ⟨rfl, by rw [ho, cd_area_2]; rfl⟩) rfl (mm_nl rfl) (mm_nl rfl)
    · skip
      refine mm_aload_n C dX3_area_13 rfl 0 rfl ?_
      refine mm_iload_n C dX3_area_14 rfl 3 rfl ?_
      refine mm_riV C 18 sv_X3_X3_isKind_66 rfl rfl (kX3_isKind _ _ U u _ ck cw F e k c i hI) ⟨rfl, rfl⟩ ⟨mm_nl rfl, mm_nl rfl⟩ rfl rfl (mm_nl rfl) ⟨mm_nl rfl, mm_nl rfl⟩ dX3_area_15 ?_
      refine mm_ifb_ne (tgt := 25) C dX3_area_18 (by decide) (fun c18 => ?_) (fun c18 => ?_)
      · skip
        refine mm_iconst (v := 0) C dX3_area_25 (by decide) ?_
        refine mm_istore (lv' := [(4, .int 0), (0, .ref 18), (1, .int a), (2, .int b), (3, .int e)]) C dX3_area_26 hnL (by decide) rfl ?_
        refine mm_iconst (v := 0) C dX3_area_28 (by decide) ?_
        refine mm_istore (lv' := [(5, .int 0), (4, .int 0), (0, .ref 18), (1, .int a), (2, .int b), (3, .int e)]) C dX3_area_29 hnL (by decide) rfl ?_
        refine mm_iload C dX3_area_31 1 rfl ?_
        refine mm_if_ne (tgt := 43) C dX3_area_33 (by decide) (fun z => absurd z (by decide)) (fun _ => ?_)
        refine mm_iload_n C dX3_area_36 rfl 4 rfl ?_
        refine mm_riS C ss_X3_X3_isArea_108 (kX3_isArea _ _ _ b) ⟨rfl, rfl⟩ ⟨mm_nl rfl, mm_nl rfl⟩ rfl rfl (mm_nl rfl) ⟨mm_nl rfl, mm_nl rfl⟩ dX3_area_37 ?_
        refine mm_ifb_ne (tgt := 47) C dX3_area_40 (by decide) (fun c40 => ?_) (fun c40 => ?_)
        · skip
          refine mm_iload_n C dX3_area_47 rfl 5 rfl ?_
          refine mm_istore (lv' := [(6, .int e), (5, .int 0), (4, .int 0), (0, .ref 18), (1, .int a), (2, .int b), (3, .int e)]) C dX3_area_48 hnL (by decide) rfl ?_
          obtain ⟨nb, hwb⟩ := wA b e c40 c18
          obtain ⟨d, hd9⟩ := w_40 hI hwb
          exact loop nb d e hwb c5 (by simp [b_kindN, c18]) c40 (by rw [← hd9])
        · skip
          refine mm_iconst (v := (-1)) C dX3_area_43 (by decide) ?_
          refine mm_goto (tgt := 48) C dX3_area_44 (by decide) ?_
          refine mm_istore (lv' := [(6, .int (-1)), (5, .int 0), (4, .int 0), (0, .ref 18), (1, .int a), (2, .int b), (3, .int e)]) C dX3_area_48 hnL (by decide) rfl ?_
          refine mm_iload C dX3_area_50 0 rfl ?_
          refine mm_if_lt (tgt := 99) C dX3_area_52 (by decide) (fun _ => ?_) (fun z => absurd z (by decide))
          refine mm_aload_n C dX3_area_99 rfl 3 rfl ?_
          refine mm_iload C dX3_area_100 2 rfl ?_
          refine mm_iload_n C dX3_area_102 rfl 5 rfl ?_
          refine mm_riS C ss_X3_X3_isArea_108 (kX3_isArea _ _ _ b) ⟨rfl, rfl⟩ ⟨mm_nl rfl, mm_nl rfl⟩ rfl rfl (mm_nl rfl) ⟨mm_nl rfl, mm_nl rfl⟩ dX3_area_103 ?_
          refine mm_ifb_ne (tgt := 113) C dX3_area_106 (by decide) (fun z => False.elim ((btf c40) z)) (fun c106 => ?_)
          refine mm_iconst (v := 1) C dX3_area_109 (by decide) ?_
          refine mm_goto (tgt := 114) C dX3_area_110 (by decide) ?_
          refine mm_iload C dX3_area_114 1 rfl ?_
          refine mm_iconst (v := 0) C dX3_area_116 (by decide) ?_
          refine mm_riV C 18 sv_X3_X3_throwing_70 rfl rfl (kX3_throwing _ _ U u _ ck cw F false true false false) ⟨rfl, rfl⟩ ⟨mm_nl rfl, mm_nl rfl⟩ rfl rfl (mm_nl rfl) ⟨mm_nl rfl, mm_nl rfl⟩ dX3_area_117 ?_
          refine mm_if_eq (tgt := 124) C dX3_area_120 (by decide) (fun z => absurd z (by decide)) (fun _ => ?_)
          exact mm_vret C K dX3_area_123 (by
                have ho : o_area u a b e = .inl x_io := by simp [o_area, c5, c10, c18, c40, b_kindN]
                exact ⟨rfl, by rw [ho, cd_area_2]; rfl⟩) rfl (mm_nl rfl) (mm_nl rfl)
      · skip
        refine mm_iconst (v := 1) C dX3_area_21 (by decide) ?_
        refine mm_goto (tgt := 26) C dX3_area_22 (by decide) ?_
        refine mm_istore (lv' := [(4, .int 1), (0, .ref 18), (1, .int a), (2, .int b), (3, .int e)]) C dX3_area_26 hnL (by decide) rfl ?_
        refine mm_iconst (v := 0) C dX3_area_28 (by decide) ?_
        refine mm_istore (lv' := [(5, .int 0), (4, .int 1), (0, .ref 18), (1, .int a), (2, .int b), (3, .int e)]) C dX3_area_29 hnL (by decide) rfl ?_
        refine mm_iload C dX3_area_31 1 rfl ?_
        refine mm_if_ne (tgt := 43) C dX3_area_33 (by decide) (fun _ => ?_) (fun z => absurd z (by decide))
        refine mm_iconst (v := (-1)) C dX3_area_43 (by decide) ?_
        refine mm_goto (tgt := 48) C dX3_area_44 (by decide) ?_
        refine mm_istore (lv' := [(6, .int (-1)), (5, .int 0), (4, .int 1), (0, .ref 18), (1, .int a), (2, .int b), (3, .int e)]) C dX3_area_48 hnL (by decide) rfl ?_
        refine mm_iload C dX3_area_50 0 rfl ?_
        refine mm_if_lt (tgt := 99) C dX3_area_52 (by decide) (fun _ => ?_) (fun z => absurd z (by decide))
        refine mm_aload_n C dX3_area_99 rfl 3 rfl ?_
        refine mm_iload C dX3_area_100 2 rfl ?_
        refine mm_iload_n C dX3_area_102 rfl 5 rfl ?_
        refine mm_riS C ss_X3_X3_isArea_108 (kX3_isArea _ _ _ b) ⟨rfl, rfl⟩ ⟨mm_nl rfl, mm_nl rfl⟩ rfl rfl (mm_nl rfl) ⟨mm_nl rfl, mm_nl rfl⟩ dX3_area_103 ?_
        refine mm_ifb_ne (tgt := 113) C dX3_area_106 (by decide) (fun c106 => ?_) (fun c106 => ?_)
        · skip
          refine mm_iconst (v := 0) C dX3_area_113 (by decide) ?_
          refine mm_iload C dX3_area_114 1 rfl ?_
          refine mm_iconst (v := 0) C dX3_area_116 (by decide) ?_
          refine mm_riV C 18 sv_X3_X3_throwing_70 rfl rfl (kX3_throwing _ _ U u _ ck cw F true false false false) ⟨rfl, rfl⟩ ⟨mm_nl rfl, mm_nl rfl⟩ rfl rfl (mm_nl rfl) ⟨mm_nl rfl, mm_nl rfl⟩ dX3_area_117 ?_
          refine mm_if_eq (tgt := 124) C dX3_area_120 (by decide) (fun z => absurd z (by decide)) (fun _ => ?_)
          exact mm_vret C K dX3_area_123 (by
                have ho : o_area u a b e = .inl x_ia := by simp [o_area, c5, c10, c18, c106, b_kindN]
                exact ⟨rfl, by rw [ho, cd_area_1]; rfl⟩) rfl (mm_nl rfl) (mm_nl rfl)
        · skip
          refine mm_iconst (v := 1) C dX3_area_109 (by decide) ?_
          refine mm_goto (tgt := 114) C dX3_area_110 (by decide) ?_
          refine mm_iload C dX3_area_114 1 rfl ?_
          refine mm_iconst (v := 0) C dX3_area_116 (by decide) ?_
          refine mm_riV C 18 sv_X3_X3_throwing_70 rfl rfl (kX3_throwing _ _ U u _ ck cw F true true false false) ⟨rfl, rfl⟩ ⟨mm_nl rfl, mm_nl rfl⟩ rfl rfl (mm_nl rfl) ⟨mm_nl rfl, mm_nl rfl⟩ dX3_area_117 ?_
          refine mm_if_eq (tgt := 124) C dX3_area_120 (by decide) (fun z => absurd z (by decide)) (fun _ => ?_)
          exact mm_vret C K dX3_area_123 (by
                have ho : o_area u a b e = .inl x_ia := by simp [o_area, c5, c10, c18, c106, b_kindN]
                exact ⟨rfl, by rw [ho, cd_area_1]; rfl⟩) rfl (mm_nl rfl) (mm_nl rfl)
set_option maxHeartbeats 4000000 in
set_option maxRecDepth 100000 in
theorem kX3_found (l : Launch) (D : va_G) (U u : ks_S) (t : Int32) (ck cw : Nat → Int32) (F : List mm_c) (a b e : Int32) (k c i : Nat) (J : ms_I u ck cw k c i) : mm_Wr l D yX3_found (mm_cw yX3_found cX3_found 8 (some .int)) (mm_rm 3) [.ref 18, .int a, .int b, .int e] (ks_H U (ms_H u t ck cw F)) (some (.int (m_an (o_found u a b e)))) (ks_H U (ms_H (m_us u (o_found u a b e)) (m_cd l_found (o_found u a b e)) ck cw F)) := by
  refine mm_start (own := RX3) (by decide) rfl rfl (mm_nl rfl) (fun _ => rfl) (fun _ => rfl) (fun g ad hl hD hnL C K => ?_)
  subst hl
  subst hD
  have J0 := J
  obtain ⟨hI, wP, wA, wA0, hta, htu, hct, hko, hcl, hhv, hw4, htb, hn1, hn2⟩ := J
  have loop : ∀ (n : Nat) (d : Nat) (x : Int32), w_st (k_kn u) (nxP u) n x → b_below a (k_inn u) = true → b_below b 32 = true → b_day e = true → f_up (k_kn u) (k_pa u) (k_tu u) b (n + d) x = f_up (k_kn u) (k_pa u) (k_tu u) b 40 (k_ko u a.toNatClampNeg) → mm_M g ad 0 0 (ks_H U (ms_H u t ck cw F)) 61 [(6, .int x), (5, .int 0), (4, .int 0), (0, .ref 18), (1, .int a), (2, .int b), (3, .int e)] [] := by
    intro n
    induction n with
    | zero =>
      intro d x hw c5 c22 c29 hr
      refine mm_iload C dX3_found_61 0 rfl ?_
      refine mm_if_lt (tgt := 93) C dX3_found_63 (by decide) (fun c63 => ?_) (fun z => False.elim ((fun z => z (lt0_of hw)) z))
      refine mm_iload C dX3_found_93 0 rfl ?_
      refine mm_if_ge (tgt := 102) C dX3_found_95 (by decide) (fun z => False.elim ((fun z => absurd z (Int32.not_le.mpr (lt0_of hw))) z)) (fun c95 => ?_)
      refine mm_iconst (v := (-1)) C dX3_found_98 (by decide) ?_
      refine mm_goto (tgt := 114) C dX3_found_99 (by decide) ?_
      refine mm_istore (lv' := [(7, .int (-1)), (6, .int x), (5, .int 0), (4, .int 0), (0, .ref 18), (1, .int a), (2, .int b), (3, .int e)]) C dX3_found_114 hnL (by decide) rfl ?_
      refine mm_aload_n C dX3_found_116 rfl 4 rfl ?_
      refine mm_iload C dX3_found_117 3 rfl ?_
      refine mm_iload C dX3_found_119 2 rfl ?_
      refine mm_iload C dX3_found_121 0 rfl ?_
      refine mm_if_lt (tgt := 136) C dX3_found_123 (by decide) (fun _ => ?_) (fun z => absurd z (by decide))
      refine mm_iconst (v := 1) C dX3_found_136 (by decide) ?_
      refine mm_goto (tgt := 141) C dX3_found_137 (by decide) ?_
      refine mm_iconst (v := 0) C dX3_found_141 (by decide) ?_
      refine mm_riV C 18 sv_X3_X3_throwing_70 rfl rfl (kX3_throwing _ _ U u _ ck cw F false false true false) ⟨rfl, rfl⟩ ⟨mm_nl rfl, mm_nl rfl⟩ rfl rfl (mm_nl rfl) ⟨mm_nl rfl, mm_nl rfl⟩ dX3_found_142 ?_
      refine mm_if_eq (tgt := 150) C dX3_found_145 (by decide) (fun z => absurd z (by decide)) (fun _ => ?_)
      refine mm_iconst (v := 0) C dX3_found_148 (by decide) ?_
      exact mm_iret C K rfl dX3_found_149 (by
                have ho : o_found u a b e = .inl x_is := by simp [o_found, c5, c22, c29, (show f_up (k_kn u) (k_pa u) (k_tu u) b 40 (k_ko u a.toNatClampNeg) = -1 from by rw [← hr, show x = -1 from hw, up_m1])]
                exact ⟨by rw [ho]; rfl, by rw [ho, cd_found_3]; rfl⟩) rfl (mm_nl rfl) (mm_nl rfl)
    | succ n ih =>
      intro d x hw c5 c22 c29 hr
      rw [show n + 1 + d = (n + d) + 1 from by omega] at hr
      refine mm_iload C dX3_found_61 0 rfl ?_
      refine mm_if_lt (tgt := 93) C dX3_found_63 (by decide) (fun z => False.elim ((b_nlt hw.1) z)) (fun c63 => ?_)
      refine mm_aload_n C dX3_found_66 rfl 3 rfl ?_
      refine mm_get C 18 11 (fun w h => mm_wc (inX3 w h)) rfl rfl (by decide) (mm_wc tw478) rfl rfl dX3_found_67 ?_
      refine mm_bipush (v := 32) C dX3_found_70 (by decide) ?_
      refine mm_iload C dX3_found_72 0 rfl ?_
      refine mm_imulc C dX3_found_74 ?_
      refine mm_iload_n C dX3_found_75 rfl 5 rfl ?_
      refine mm_iadd C dX3_found_76 ?_
      refine mm_iald C 27 rfl (ix_m (c := 32) hI.k40 hw.1 (bt c22 rfl) (by decide) (by decide) (by decide)) dX3_found_77 ?_
      refine mm_if_ge (tgt := 93) C dX3_found_78 (by decide) (fun c78 => ?_) (fun c78 => ?_)
      · skip
        refine mm_iload C dX3_found_93 0 rfl ?_
        refine mm_if_ge (tgt := 102) C dX3_found_95 (by decide) (fun c95 => ?_) (fun z => False.elim ((fun z => z (b_ge hw.1)) z))
        refine mm_aload_n C dX3_found_102 rfl 3 rfl ?_
        refine mm_get C 18 11 (fun w h => mm_wc (inX3 w h)) rfl rfl (by decide) (mm_wc tw478) rfl rfl dX3_found_103 ?_
        refine mm_bipush (v := 32) C dX3_found_106 (by decide) ?_
        refine mm_iload C dX3_found_108 0 rfl ?_
        refine mm_imulc C dX3_found_110 ?_
        refine mm_iload_n C dX3_found_111 rfl 5 rfl ?_
        refine mm_iadd C dX3_found_112 ?_
        refine mm_iald C 27 rfl (ix_m (c := 32) hI.k40 hw.1 (bt c22 rfl) (by decide) (by decide) (by decide)) dX3_found_113 ?_
        refine mm_istore (lv' := [(7, .int ((k_tu u) ((x * 32) + b).toNatClampNeg)), (6, .int x), (5, .int 0), (4, .int 0), (0, .ref 18), (1, .int a), (2, .int b), (3, .int e)]) C dX3_found_114 hnL (by decide) rfl ?_
        refine mm_aload_n C dX3_found_116 rfl 4 rfl ?_
        refine mm_iload C dX3_found_117 3 rfl ?_
        refine mm_iload C dX3_found_119 2 rfl ?_
        refine mm_iload C dX3_found_121 0 rfl ?_
        refine mm_if_lt (tgt := 136) C dX3_found_123 (by decide) (fun z => False.elim ((fun z => absurd c78 (Int32.not_le.mpr z)) z)) (fun c123 => ?_)
        refine mm_aload_n C dX3_found_126 rfl 4 rfl ?_
        refine mm_iload C dX3_found_127 0 rfl ?_
        refine mm_iload_n C dX3_found_129 rfl 7 rfl ?_
        refine mm_riV C 18 sv_X3_X3_isClosed_99 rfl rfl (kX3_isClosed _ _ U u _ ck cw F ((k_tu u) ((x * 32) + b).toNatClampNeg) e k c i J0 (vd_p (htu _ (in_clamp (ix_m (c := 32) hI.k40 hw.1 (bt c22 rfl) (by decide) (by decide) (by decide)))) c78)) ⟨rfl, rfl⟩ ⟨mm_nl rfl, mm_nl rfl⟩ rfl rfl (mm_nl rfl) ⟨mm_nl rfl, mm_nl rfl⟩ dX3_found_130 ?_
        refine mm_ifb_eq (tgt := 140) C dX3_found_133 (by decide) (fun c133 => ?_) (fun c133 => ?_)
        · skip
          refine mm_iconst (v := 0) C dX3_found_140 (by decide) ?_
          refine mm_iconst (v := 0) C dX3_found_141 (by decide) ?_
          refine mm_riV C 18 sv_X3_X3_throwing_70 rfl rfl (kX3_throwing _ _ U u _ ck cw F false false false false) ⟨rfl, rfl⟩ ⟨mm_nl rfl, mm_nl rfl⟩ rfl rfl (mm_nl rfl) ⟨mm_nl rfl, mm_nl rfl⟩ dX3_found_142 ?_
          refine mm_if_eq (tgt := 150) C dX3_found_145 (by decide) (fun _ => ?_) (fun z => absurd z (by decide))
          refine mm_aload_n C dX3_found_150 rfl 4 rfl ?_
          refine mm_get C 18 15 (fun w h => mm_wc (inX3 w h)) rfl rfl (by decide) (mm_wc tw482) rfl rfl dX3_found_151 ?_
          refine mm_iload_n C dX3_found_154 rfl 5 rfl ?_
          refine mm_dup2 C dX3_found_155 rfl rfl ?_
          refine mm_iald C 30 rfl (ix_b hI.i60 c5) dX3_found_156 ?_
          refine mm_aload_n C dX3_found_157 rfl 4 rfl ?_
          refine mm_get C 18 13 (fun w h => mm_wc (inX3 w h)) rfl rfl (by decide) (mm_wc tw480) rfl rfl dX3_found_158 ?_
          refine mm_iload_n C dX3_found_161 rfl 5 rfl ?_
          refine mm_iald C 28 rfl (ix_b hI.i60 c5) dX3_found_162 ?_
          refine mm_iload C dX3_found_163 0 rfl ?_
          refine mm_icmp_ne (tgt := 172) C dX3_found_165 (by decide) (fun c165 => ?_) (fun c165 => ?_)
          · skip
            refine mm_iconst (v := 1) C dX3_found_172 (by decide) ?_
            refine mm_iadd C dX3_found_173 ?_
            refine mm_iast C 30 rfl (ix_b hI.i60 c5) dX3_found_174 ?_
            refine mm_aload_n C dX3_found_175 rfl 4 rfl ?_
            refine mm_get C 18 13 (fun w h => mm_wc (inX3 w h)) rfl rfl (by decide) (mm_wc tw480) rfl rfl dX3_found_176 ?_
            refine mm_iload_n C dX3_found_179 rfl 5 rfl ?_
            refine mm_iload C dX3_found_180 0 rfl ?_
            refine mm_iast C 28 rfl (ix_b hI.i60 c5) dX3_found_182 ?_
            refine mm_iload C dX3_found_183 0 rfl ?_
            exact mm_iret C K rfl dX3_found_185 (by
                have ho : o_found u a b e = .inr (some (k_tu u (x * 32 + b).toNatClampNeg), (k_kn u, k_pa u, k_cl u, k_nw u, k_tb u, k_dy u, k_hw u, k_vl u, k_cs u, k_ta u, k_ts u, k_tu u, k_us u, k_inn u, upd (k_ko u) a.toNatClampNeg (k_tu u (x * 32 + b).toNatClampNeg), k_ao u, upd (k_be u) a.toNatClampNeg (k_be u a.toNatClampNeg + 1), k_se u, k_sk u)) := by simp [o_found, c78, c133, c165, c5, c22, c29, (show f_up (k_kn u) (k_pa u) (k_tu u) b 40 (k_ko u a.toNatClampNeg) = (k_tu u (x * 32 + b).toNatClampNeg) from by rw [← hr]; exact up_2 hw.1 (sx_2 c78)), sx_2 c78, (show ¬ (k_tu u (x * 32 + b).toNatClampNeg) = (k_ko u a.toNatClampNeg) from fun z => c165 z.symm)]
                exact ⟨by rw [ho]; rfl, by rw [ho]; rfl⟩) rfl (mm_nl rfl) (mm_nl rfl)
          · skip
            refine mm_iconst (v := 0) C dX3_found_168 (by decide) ?_
            refine mm_goto (tgt := 173) C dX3_found_169 (by decide) ?_
            refine mm_iadd C dX3_found_173 ?_
            refine mm_iast C 30 rfl (ix_b hI.i60 c5) dX3_found_174 ?_
            refine mm_aload_n C dX3_found_175 rfl 4 rfl ?_
            refine mm_get C 18 13 (fun w h => mm_wc (inX3 w h)) rfl rfl (by decide) (mm_wc tw480) rfl rfl dX3_found_176 ?_
            refine mm_iload_n C dX3_found_179 rfl 5 rfl ?_
            refine mm_iload C dX3_found_180 0 rfl ?_
            refine mm_iast C 28 rfl (ix_b hI.i60 c5) dX3_found_182 ?_
            refine mm_iload C dX3_found_183 0 rfl ?_
            exact mm_iret C K rfl dX3_found_185 (by
                have ho : o_found u a b e = .inr (some (k_tu u (x * 32 + b).toNatClampNeg), u) := by simp [o_found, c78, c133, eq_true c165, c5, c22, c29, (show f_up (k_kn u) (k_pa u) (k_tu u) b 40 (k_ko u a.toNatClampNeg) = (k_tu u (x * 32 + b).toNatClampNeg) from by rw [← hr]; exact up_2 hw.1 (sx_2 c78)), sx_2 c78, eq_true c165.symm]
                exact ⟨by rw [ho]; rfl, by rw [ho, Int32.add_zero, upd_id (k_be u) a.toNatClampNeg rfl, upd_id (k_ko u) a.toNatClampNeg c165]; rfl⟩) rfl (mm_nl rfl) (mm_nl rfl)
        · skip
          refine mm_iconst (v := 1) C dX3_found_136 (by decide) ?_
          refine mm_goto (tgt := 141) C dX3_found_137 (by decide) ?_
          refine mm_iconst (v := 0) C dX3_found_141 (by decide) ?_
          refine mm_riV C 18 sv_X3_X3_throwing_70 rfl rfl (kX3_throwing _ _ U u _ ck cw F false false true false) ⟨rfl, rfl⟩ ⟨mm_nl rfl, mm_nl rfl⟩ rfl rfl (mm_nl rfl) ⟨mm_nl rfl, mm_nl rfl⟩ dX3_found_142 ?_
          refine mm_if_eq (tgt := 150) C dX3_found_145 (by decide) (fun z => absurd z (by decide)) (fun _ => ?_)
          refine mm_iconst (v := 0) C dX3_found_148 (by decide) ?_
          exact mm_iret C K rfl dX3_found_149 (by
                have ho : o_found u a b e = .inl x_is := by simp [o_found, c78, c133, c5, c22, c29, (show f_up (k_kn u) (k_pa u) (k_tu u) b 40 (k_ko u a.toNatClampNeg) = (k_tu u (x * 32 + b).toNatClampNeg) from by rw [← hr]; exact up_2 hw.1 (sx_2 c78)), sx_2 c78]
                exact ⟨by rw [ho]; rfl, by rw [ho, cd_found_3]; rfl⟩) rfl (mm_nl rfl) (mm_nl rfl)
      · skip
        refine mm_aload_n C dX3_found_81 rfl 3 rfl ?_
        refine mm_get C 18 2 (fun w h => mm_wc (inX3 w h)) rfl rfl (by decide) (mm_wc tw469) rfl rfl dX3_found_82 ?_
        refine mm_iload C dX3_found_85 0 rfl ?_
        refine mm_iald C 19 rfl (ix_b hI.k40 hw.1) dX3_found_87 ?_
        refine mm_istore (lv' := [(6, .int ((k_pa u) x.toNatClampNeg)), (5, .int 0), (4, .int 0), (0, .ref 18), (1, .int a), (2, .int b), (3, .int e)]) C dX3_found_88 hnL (by decide) rfl ?_
        refine mm_goto (tgt := 61) C dX3_found_90 (by decide) ?_
        exact ih d _ hw.2 c5 c22 c29 (by rw [← hr]; exact (up_1 hw.1 (vd_m (htu _ (in_clamp (ix_m (c := 32) hI.k40 hw.1 (bt c22 rfl) (by decide) (by decide) (by decide)))) c78)).symm)
  show mm_M g ad 0 0 (ks_H U (ms_H u t ck cw F)) 0 [(0, .ref 18), (1, .int a), (2, .int b), (3, .int e)] []
  refine mm_aload_n C dX3_found_0 rfl 0 rfl ?_
  refine mm_iload_n C dX3_found_1 rfl 1 rfl ?_
  refine mm_riV C 18 sv_X3_X3_isIncident_119 rfl rfl (kX3_isIncident _ _ U u _ ck cw F a k c i hI) ⟨rfl, rfl⟩ ⟨mm_nl rfl, mm_nl rfl⟩ rfl rfl (mm_nl rfl) ⟨mm_nl rfl, mm_nl rfl⟩ dX3_found_2 ?_
  refine mm_ifb_ne (tgt := 12) C dX3_found_5 (by decide) (fun c5 => ?_) (fun c5 => ?_)
  · skip
    refine mm_iconst (v := 0) C dX3_found_12 (by decide) ?_
    refine mm_istore (lv' := [(4, .int 0), (0, .ref 18), (1, .int a), (2, .int b), (3, .int e)]) C dX3_found_13 hnL (by decide) rfl ?_
    refine mm_iload_n C dX3_found_15 rfl 3 rfl ?_
    refine mm_iconst (v := 0) C dX3_found_16 (by decide) ?_
    refine mm_bipush (v := 31) C dX3_found_17 (by decide) ?_
    refine mm_riS C ss_X3_X3_between_59 (kX3_between _ _ _ b 0 31 (b_below b 32) (bw_below (by decide))) ⟨rfl, rfl⟩ ⟨mm_nl rfl, mm_nl rfl⟩ rfl rfl (mm_nl rfl) ⟨mm_nl rfl, mm_nl rfl⟩ dX3_found_19 ?_
    refine mm_ifb_eq (tgt := 32) C dX3_found_22 (by decide) (fun c22 => ?_) (fun c22 => ?_)
    · skip
      refine mm_iconst (v := 1) C dX3_found_32 (by decide) ?_
      refine mm_goto (tgt := 37) C dX3_found_33 (by decide) ?_
      refine mm_istore (lv' := [(5, .int 1), (4, .int 0), (0, .ref 18), (1, .int a), (2, .int b), (3, .int e)]) C dX3_found_37 hnL (by decide) rfl ?_
      refine mm_iload C dX3_found_39 1 rfl ?_
      refine mm_if_ne (tgt := 49) C dX3_found_41 (by decide) (fun z => absurd z (by decide)) (fun _ => ?_)
      refine mm_iload C dX3_found_44 0 rfl ?_
      refine mm_if_eq (tgt := 53) C dX3_found_46 (by decide) (fun z => absurd z (by decide)) (fun _ => ?_)
      refine mm_iconst (v := (-1)) C dX3_found_49 (by decide) ?_
      refine mm_goto (tgt := 59) C dX3_found_50 (by decide) ?_
      refine mm_istore (lv' := [(6, .int (-1)), (5, .int 1), (4, .int 0), (0, .ref 18), (1, .int a), (2, .int b), (3, .int e)]) C dX3_found_59 hnL (by decide) rfl ?_
      refine mm_iload C dX3_found_61 0 rfl ?_
      refine mm_if_lt (tgt := 93) C dX3_found_63 (by decide) (fun _ => ?_) (fun z => absurd z (by decide))
      refine mm_iload C dX3_found_93 0 rfl ?_
      refine mm_if_ge (tgt := 102) C dX3_found_95 (by decide) (fun z => absurd z (by decide)) (fun _ => ?_)
      refine mm_iconst (v := (-1)) C dX3_found_98 (by decide) ?_
      refine mm_goto (tgt := 114) C dX3_found_99 (by decide) ?_
      refine mm_istore (lv' := [(7, .int (-1)), (6, .int (-1)), (5, .int 1), (4, .int 0), (0, .ref 18), (1, .int a), (2, .int b), (3, .int e)]) C dX3_found_114 hnL (by decide) rfl ?_
      refine mm_aload_n C dX3_found_116 rfl 4 rfl ?_
      refine mm_iload C dX3_found_117 3 rfl ?_
      refine mm_iload C dX3_found_119 2 rfl ?_
      refine mm_iload C dX3_found_121 0 rfl ?_
      refine mm_if_lt (tgt := 136) C dX3_found_123 (by decide) (fun _ => ?_) (fun z => absurd z (by decide))
      refine mm_iconst (v := 1) C dX3_found_136 (by decide) ?_
      refine mm_goto (tgt := 141) C dX3_found_137 (by decide) ?_
      refine mm_iconst (v := 0) C dX3_found_141 (by decide) ?_
      refine mm_riV C 18 sv_X3_X3_throwing_70 rfl rfl (kX3_throwing _ _ U u _ ck cw F false true true false) ⟨rfl, rfl⟩ ⟨mm_nl rfl, mm_nl rfl⟩ rfl rfl (mm_nl rfl) ⟨mm_nl rfl, mm_nl rfl⟩ dX3_found_142 ?_
      refine mm_if_eq (tgt := 150) C dX3_found_145 (by decide) (fun z => absurd z (by decide)) (fun _ => ?_)
      refine mm_iconst (v := 0) C dX3_found_148 (by decide) ?_
      exact mm_iret C K rfl dX3_found_149 (by
                have ho : o_found u a b e = .inl x_io := by simp [o_found, c5, c22]
                exact ⟨by rw [ho]; rfl, by rw [ho, cd_found_2]; rfl⟩) rfl (mm_nl rfl) (mm_nl rfl)
    · skip
      refine mm_iload_n C dX3_found_25 rfl 4 rfl ?_
      refine mm_riS C ss_X3_X3_isDay_81 (kX3_isDay _ _ _ e) ⟨rfl, rfl⟩ ⟨mm_nl rfl, mm_nl rfl⟩ rfl rfl (mm_nl rfl) ⟨mm_nl rfl, mm_nl rfl⟩ dX3_found_26 ?_
      refine mm_ifb_ne (tgt := 36) C dX3_found_29 (by decide) (fun c29 => ?_) (fun c29 => ?_)
      · skip
        refine mm_iconst (v := 0) C dX3_found_36 (by decide) ?_
        refine mm_istore (lv' := [(5, .int 0), (4, .int 0), (0, .ref 18), (1, .int a), (2, .int b), (3, .int e)]) C dX3_found_37 hnL (by decide) rfl ?_
        refine mm_iload C dX3_found_39 1 rfl ?_
        refine mm_if_ne (tgt := 49) C dX3_found_41 (by decide) (fun z => absurd z (by decide)) (fun _ => ?_)
        refine mm_iload C dX3_found_44 0 rfl ?_
        refine mm_if_eq (tgt := 53) C dX3_found_46 (by decide) (fun _ => ?_) (fun z => absurd z (by decide))
        refine mm_aload_n C dX3_found_53 rfl 2 rfl ?_
        refine mm_get C 18 13 (fun w h => mm_wc (inX3 w h)) rfl rfl (by decide) (mm_wc tw480) rfl rfl dX3_found_54 ?_
        refine mm_iload_n C dX3_found_57 rfl 3 rfl ?_
        refine mm_iald C 28 rfl (ix_b hI.i60 c5) dX3_found_58 ?_
        refine mm_istore (lv' := [(6, .int ((k_ko u) a.toNatClampNeg)), (5, .int 0), (4, .int 0), (0, .ref 18), (1, .int a), (2, .int b), (3, .int e)]) C dX3_found_59 hnL (by decide) rfl ?_
        obtain ⟨nb, hwb⟩ := wP (k_ko u a.toNatClampNeg) (by obtain ⟨m, h1, _, h3⟩ := i_x hI c5; rw [h3]; exact hko m h1)
        obtain ⟨d, hd9⟩ := w_40 hI hwb
        exact loop nb d _ hwb c5 c22 c29 (by rw [← hd9])
      · skip
        refine mm_iconst (v := 1) C dX3_found_32 (by decide) ?_
        refine mm_goto (tgt := 37) C dX3_found_33 (by decide) ?_
        refine mm_istore (lv' := [(5, .int 1), (4, .int 0), (0, .ref 18), (1, .int a), (2, .int b), (3, .int e)]) C dX3_found_37 hnL (by decide) rfl ?_
        refine mm_iload C dX3_found_39 1 rfl ?_
        refine mm_if_ne (tgt := 49) C dX3_found_41 (by decide) (fun z => absurd z (by decide)) (fun _ => ?_)
        refine mm_iload C dX3_found_44 0 rfl ?_
        refine mm_if_eq (tgt := 53) C dX3_found_46 (by decide) (fun z => absurd z (by decide)) (fun _ => ?_)
        refine mm_iconst (v := (-1)) C dX3_found_49 (by decide) ?_
        refine mm_goto (tgt := 59) C dX3_found_50 (by decide) ?_
        refine mm_istore (lv' := [(6, .int (-1)), (5, .int 1), (4, .int 0), (0, .ref 18), (1, .int a), (2, .int b), (3, .int e)]) C dX3_found_59 hnL (by decide) rfl ?_
        refine mm_iload C dX3_found_61 0 rfl ?_
        refine mm_if_lt (tgt := 93) C dX3_found_63 (by decide) (fun _ => ?_) (fun z => absurd z (by decide))
        refine mm_iload C dX3_found_93 0 rfl ?_
        refine mm_if_ge (tgt := 102) C dX3_found_95 (by decide) (fun z => absurd z (by decide)) (fun _ => ?_)
        refine mm_iconst (v := (-1)) C dX3_found_98 (by decide) ?_
        refine mm_goto (tgt := 114) C dX3_found_99 (by decide) ?_
        refine mm_istore (lv' := [(7, .int (-1)), (6, .int (-1)), (5, .int 1), (4, .int 0), (0, .ref 18), (1, .int a), (2, .int b), (3, .int e)]) C dX3_found_114 hnL (by decide) rfl ?_
        refine mm_aload_n C dX3_found_116 rfl 4 rfl ?_
        refine mm_iload C dX3_found_117 3 rfl ?_
        refine mm_iload C dX3_found_119 2 rfl ?_
        refine mm_iload C dX3_found_121 0 rfl ?_
        refine mm_if_lt (tgt := 136) C dX3_found_123 (by decide) (fun _ => ?_) (fun z => absurd z (by decide))
        refine mm_iconst (v := 1) C dX3_found_136 (by decide) ?_
        refine mm_goto (tgt := 141) C dX3_found_137 (by decide) ?_
        refine mm_iconst (v := 0) C dX3_found_141 (by decide) ?_
        refine mm_riV C 18 sv_X3_X3_throwing_70 rfl rfl (kX3_throwing _ _ U u _ ck cw F false true true false) ⟨rfl, rfl⟩ ⟨mm_nl rfl, mm_nl rfl⟩ rfl rfl (mm_nl rfl) ⟨mm_nl rfl, mm_nl rfl⟩ dX3_found_142 ?_
        refine mm_if_eq (tgt := 150) C dX3_found_145 (by decide) (fun z => absurd z (by decide)) (fun _ => ?_)
        refine mm_iconst (v := 0) C dX3_found_148 (by decide) ?_
        exact mm_iret C K rfl dX3_found_149 (by
                have ho : o_found u a b e = .inl x_io := by simp [o_found, c5, c22, c29]
                exact ⟨by rw [ho]; rfl, by rw [ho, cd_found_2]; rfl⟩) rfl (mm_nl rfl) (mm_nl rfl)
  · skip
    refine mm_iconst (v := 1) C dX3_found_8 (by decide) ?_
    refine mm_goto (tgt := 13) C dX3_found_9 (by decide) ?_
    refine mm_istore (lv' := [(4, .int 1), (0, .ref 18), (1, .int a), (2, .int b), (3, .int e)]) C dX3_found_13 hnL (by decide) rfl ?_
    refine mm_iload_n C dX3_found_15 rfl 3 rfl ?_
    refine mm_iconst (v := 0) C dX3_found_16 (by decide) ?_
    refine mm_bipush (v := 31) C dX3_found_17 (by decide) ?_
    refine mm_riS C ss_X3_X3_between_59 (kX3_between _ _ _ b 0 31 (b_below b 32) (bw_below (by decide))) ⟨rfl, rfl⟩ ⟨mm_nl rfl, mm_nl rfl⟩ rfl rfl (mm_nl rfl) ⟨mm_nl rfl, mm_nl rfl⟩ dX3_found_19 ?_
    refine mm_ifb_eq (tgt := 32) C dX3_found_22 (by decide) (fun c22 => ?_) (fun c22 => ?_)
    · skip
      refine mm_iconst (v := 1) C dX3_found_32 (by decide) ?_
      refine mm_goto (tgt := 37) C dX3_found_33 (by decide) ?_
      refine mm_istore (lv' := [(5, .int 1), (4, .int 1), (0, .ref 18), (1, .int a), (2, .int b), (3, .int e)]) C dX3_found_37 hnL (by decide) rfl ?_
      refine mm_iload C dX3_found_39 1 rfl ?_
      refine mm_if_ne (tgt := 49) C dX3_found_41 (by decide) (fun _ => ?_) (fun z => absurd z (by decide))
      refine mm_iconst (v := (-1)) C dX3_found_49 (by decide) ?_
      refine mm_goto (tgt := 59) C dX3_found_50 (by decide) ?_
      refine mm_istore (lv' := [(6, .int (-1)), (5, .int 1), (4, .int 1), (0, .ref 18), (1, .int a), (2, .int b), (3, .int e)]) C dX3_found_59 hnL (by decide) rfl ?_
      refine mm_iload C dX3_found_61 0 rfl ?_
      refine mm_if_lt (tgt := 93) C dX3_found_63 (by decide) (fun _ => ?_) (fun z => absurd z (by decide))
      refine mm_iload C dX3_found_93 0 rfl ?_
      refine mm_if_ge (tgt := 102) C dX3_found_95 (by decide) (fun z => absurd z (by decide)) (fun _ => ?_)
      refine mm_iconst (v := (-1)) C dX3_found_98 (by decide) ?_
      refine mm_goto (tgt := 114) C dX3_found_99 (by decide) ?_
      refine mm_istore (lv' := [(7, .int (-1)), (6, .int (-1)), (5, .int 1), (4, .int 1), (0, .ref 18), (1, .int a), (2, .int b), (3, .int e)]) C dX3_found_114 hnL (by decide) rfl ?_
      refine mm_aload_n C dX3_found_116 rfl 4 rfl ?_
      refine mm_iload C dX3_found_117 3 rfl ?_
      refine mm_iload C dX3_found_119 2 rfl ?_
      refine mm_iload C dX3_found_121 0 rfl ?_
      refine mm_if_lt (tgt := 136) C dX3_found_123 (by decide) (fun _ => ?_) (fun z => absurd z (by decide))
      refine mm_iconst (v := 1) C dX3_found_136 (by decide) ?_
      refine mm_goto (tgt := 141) C dX3_found_137 (by decide) ?_
      refine mm_iconst (v := 0) C dX3_found_141 (by decide) ?_
      refine mm_riV C 18 sv_X3_X3_throwing_70 rfl rfl (kX3_throwing _ _ U u _ ck cw F true true true false) ⟨rfl, rfl⟩ ⟨mm_nl rfl, mm_nl rfl⟩ rfl rfl (mm_nl rfl) ⟨mm_nl rfl, mm_nl rfl⟩ dX3_found_142 ?_
      refine mm_if_eq (tgt := 150) C dX3_found_145 (by decide) (fun z => absurd z (by decide)) (fun _ => ?_)
      refine mm_iconst (v := 0) C dX3_found_148 (by decide) ?_
      exact mm_iret C K rfl dX3_found_149 (by
                have ho : o_found u a b e = .inl x_ia := by simp [o_found, c5, c22]
                exact ⟨by rw [ho]; rfl, by rw [ho, cd_found_1]; rfl⟩) rfl (mm_nl rfl) (mm_nl rfl)
    · skip
      refine mm_iload_n C dX3_found_25 rfl 4 rfl ?_
      refine mm_riS C ss_X3_X3_isDay_81 (kX3_isDay _ _ _ e) ⟨rfl, rfl⟩ ⟨mm_nl rfl, mm_nl rfl⟩ rfl rfl (mm_nl rfl) ⟨mm_nl rfl, mm_nl rfl⟩ dX3_found_26 ?_
      refine mm_ifb_ne (tgt := 36) C dX3_found_29 (by decide) (fun c29 => ?_) (fun c29 => ?_)
      · skip
        refine mm_iconst (v := 0) C dX3_found_36 (by decide) ?_
        refine mm_istore (lv' := [(5, .int 0), (4, .int 1), (0, .ref 18), (1, .int a), (2, .int b), (3, .int e)]) C dX3_found_37 hnL (by decide) rfl ?_
        refine mm_iload C dX3_found_39 1 rfl ?_
        refine mm_if_ne (tgt := 49) C dX3_found_41 (by decide) (fun _ => ?_) (fun z => absurd z (by decide))
        refine mm_iconst (v := (-1)) C dX3_found_49 (by decide) ?_
        refine mm_goto (tgt := 59) C dX3_found_50 (by decide) ?_
        refine mm_istore (lv' := [(6, .int (-1)), (5, .int 0), (4, .int 1), (0, .ref 18), (1, .int a), (2, .int b), (3, .int e)]) C dX3_found_59 hnL (by decide) rfl ?_
        refine mm_iload C dX3_found_61 0 rfl ?_
        refine mm_if_lt (tgt := 93) C dX3_found_63 (by decide) (fun _ => ?_) (fun z => absurd z (by decide))
        refine mm_iload C dX3_found_93 0 rfl ?_
        refine mm_if_ge (tgt := 102) C dX3_found_95 (by decide) (fun z => absurd z (by decide)) (fun _ => ?_)
        refine mm_iconst (v := (-1)) C dX3_found_98 (by decide) ?_
        refine mm_goto (tgt := 114) C dX3_found_99 (by decide) ?_
        refine mm_istore (lv' := [(7, .int (-1)), (6, .int (-1)), (5, .int 0), (4, .int 1), (0, .ref 18), (1, .int a), (2, .int b), (3, .int e)]) C dX3_found_114 hnL (by decide) rfl ?_
        refine mm_aload_n C dX3_found_116 rfl 4 rfl ?_
        refine mm_iload C dX3_found_117 3 rfl ?_
        refine mm_iload C dX3_found_119 2 rfl ?_
        refine mm_iload C dX3_found_121 0 rfl ?_
        refine mm_if_lt (tgt := 136) C dX3_found_123 (by decide) (fun _ => ?_) (fun z => absurd z (by decide))
        refine mm_iconst (v := 1) C dX3_found_136 (by decide) ?_
        refine mm_goto (tgt := 141) C dX3_found_137 (by decide) ?_
        refine mm_iconst (v := 0) C dX3_found_141 (by decide) ?_
        refine mm_riV C 18 sv_X3_X3_throwing_70 rfl rfl (kX3_throwing _ _ U u _ ck cw F true false true false) ⟨rfl, rfl⟩ ⟨mm_nl rfl, mm_nl rfl⟩ rfl rfl (mm_nl rfl) ⟨mm_nl rfl, mm_nl rfl⟩ dX3_found_142 ?_
        refine mm_if_eq (tgt := 150) C dX3_found_145 (by decide) (fun z => absurd z (by decide)) (fun _ => ?_)
        refine mm_iconst (v := 0) C dX3_found_148 (by decide) ?_
        exact mm_iret C K rfl dX3_found_149 (by
                have ho : o_found u a b e = .inl x_ia := by simp [o_found, c5, c22, c29]
                exact ⟨by rw [ho]; rfl, by rw [ho, cd_found_1]; rfl⟩) rfl (mm_nl rfl) (mm_nl rfl)
      · skip
        refine mm_iconst (v := 1) C dX3_found_32 (by decide) ?_
        refine mm_goto (tgt := 37) C dX3_found_33 (by decide) ?_
        refine mm_istore (lv' := [(5, .int 1), (4, .int 1), (0, .ref 18), (1, .int a), (2, .int b), (3, .int e)]) C dX3_found_37 hnL (by decide) rfl ?_
        refine mm_iload C dX3_found_39 1 rfl ?_
        refine mm_if_ne (tgt := 49) C dX3_found_41 (by decide) (fun _ => ?_) (fun z => absurd z (by decide))
        refine mm_iconst (v := (-1)) C dX3_found_49 (by decide) ?_
        refine mm_goto (tgt := 59) C dX3_found_50 (by decide) ?_
        refine mm_istore (lv' := [(6, .int (-1)), (5, .int 1), (4, .int 1), (0, .ref 18), (1, .int a), (2, .int b), (3, .int e)]) C dX3_found_59 hnL (by decide) rfl ?_
        refine mm_iload C dX3_found_61 0 rfl ?_
        refine mm_if_lt (tgt := 93) C dX3_found_63 (by decide) (fun _ => ?_) (fun z => absurd z (by decide))
        refine mm_iload C dX3_found_93 0 rfl ?_
        refine mm_if_ge (tgt := 102) C dX3_found_95 (by decide) (fun z => absurd z (by decide)) (fun _ => ?_)
        refine mm_iconst (v := (-1)) C dX3_found_98 (by decide) ?_
        refine mm_goto (tgt := 114) C dX3_found_99 (by decide) ?_
        refine mm_istore (lv' := [(7, .int (-1)), (6, .int (-1)), (5, .int 1), (4, .int 1), (0, .ref 18), (1, .int a), (2, .int b), (3, .int e)]) C dX3_found_114 hnL (by decide) rfl ?_
        refine mm_aload_n C dX3_found_116 rfl 4 rfl ?_
        refine mm_iload C dX3_found_117 3 rfl ?_
        refine mm_iload C dX3_found_119 2 rfl ?_
        refine mm_iload C dX3_found_121 0 rfl ?_
        refine mm_if_lt (tgt := 136) C dX3_found_123 (by decide) (fun _ => ?_) (fun z => absurd z (by decide))
        refine mm_iconst (v := 1) C dX3_found_136 (by decide) ?_
        refine mm_goto (tgt := 141) C dX3_found_137 (by decide) ?_
        refine mm_iconst (v := 0) C dX3_found_141 (by decide) ?_
        refine mm_riV C 18 sv_X3_X3_throwing_70 rfl rfl (kX3_throwing _ _ U u _ ck cw F true true true false) ⟨rfl, rfl⟩ ⟨mm_nl rfl, mm_nl rfl⟩ rfl rfl (mm_nl rfl) ⟨mm_nl rfl, mm_nl rfl⟩ dX3_found_142 ?_
        refine mm_if_eq (tgt := 150) C dX3_found_145 (by decide) (fun z => absurd z (by decide)) (fun _ => ?_)
        refine mm_iconst (v := 0) C dX3_found_148 (by decide) ?_
        exact mm_iret C K rfl dX3_found_149 (by
                have ho : o_found u a b e = .inl x_ia := by simp [o_found, c5, c22, c29]
                exact ⟨by rw [ho]; rfl, by rw [ho, cd_found_1]; rfl⟩) rfl (mm_nl rfl) (mm_nl rfl)
theorem uc_1 {u : ks_S} {c : Nat} {s e : Int32} {n j : Nat} {y : Int32} (h : (f_cl (k_kn u) (k_pa u) (k_cl u) e 40 (nI j) || !f_no s (fun q => f_nd u c (nI j) (nI q) e) 16 0) = true) : f_uc u c s e (n + 1) j y = f_uc u c s e n (j + 1) y := by
  conv => lhs; unfold f_uc
  rw [Bool.or_eq_true] at h
  rcases h with h | h
  · rw [if_pos h]
  · rw [Bool.not_eq_true'] at h
    rw [h, if_neg (show ¬ (false = true) by decide)]
    split
    · rfl
    · rfl
theorem uc_2 {u : ks_S} {c : Nat} {s e : Int32} {n j : Nat} {y : Int32} (h : (f_cl (k_kn u) (k_pa u) (k_cl u) e 40 (nI j) || !f_no s (fun q => f_nd u c (nI j) (nI q) e) 16 0) = false) (hy : ¬ y = 0) : f_uc u c s e (n + 1) j y = f_uc u c s e n (j + 1) (y + (-1)) := by
  rw [Bool.or_eq_false_iff, Bool.not_eq_false'] at h
  conv => lhs; unfold f_uc
  rw [h.1, h.2, if_neg (by decide), if_pos rfl, if_neg hy]
theorem uc_3 {u : ks_S} {c : Nat} {s e : Int32} {n j : Nat} {y : Int32} (h : (f_cl (k_kn u) (k_pa u) (k_cl u) e 40 (nI j) || !f_no s (fun q => f_nd u c (nI j) (nI q) e) 16 0) = false) (hy : y = 0) : f_uc u c s e (n + 1) j y = nI j := by
  rw [Bool.or_eq_false_iff, Bool.not_eq_false'] at h
  conv => lhs; unfold f_uc
  rw [h.1, h.2, if_neg (by decide), if_pos rfl, if_pos hy]
theorem b_j {u : ks_S} {k c i : Nat} (hI : ks_I u k c i) {j : Nat} (h : j < k) : b_below (nI j) (k_kn u) = true := by
  rw [hI.1]; exact b_nIm (by have := hI.2.1; omega) h
set_option maxHeartbeats 4000000 in
set_option maxRecDepth 100000 in
theorem kX3_uncovered (l : Launch) (D : va_G) (U u : ks_S) (t : Int32) (ck cw : Nat → Int32) (F : List mm_c) (a b : Int32) (k c i : Nat) (J : ms_I u ck cw k c i) : mm_Wr l D yX3_uncovered (mm_cw yX3_uncovered cX3_uncovered 5 (some .int)) (mm_rm 4) [.ref 18, .int a, .int b] (ks_H U (ms_H u t ck cw F)) (some (.int (m_an (o_uncovered u k c a b)))) (ks_H U (ms_H (m_us u (o_uncovered u k c a b)) (m_cd l_uncovered (o_uncovered u k c a b)) ck cw F)) := by
  refine mm_start (own := RX3) (by decide) rfl rfl (mm_nl rfl) (fun _ => rfl) (fun _ => rfl) (fun g ad hl hD hnL C K => ?_)
  subst hl
  subst hD
  have J0 := J
  obtain ⟨hI, wP, wA, wA0, hta, htu, hct, hko, hcl, hhv, hw4, htb, hn1, hn2⟩ := J
  have hk9 : k < 1000000 := by have := hI.2.1; omega
  have loop : ∀ (n : Nat) (j : Nat) (y : Int32), j + n = k → f_uc u c (65535 &&& (f_sk (k_sk u) 20 ^^^ (-1))) a n j y = f_uc u c (65535 &&& (f_sk (k_sk u) 20 ^^^ (-1))) a k 0 b → o_uncovered u k c a b = .inr (some (f_uc u c (65535 &&& (f_sk (k_sk u) 20 ^^^ (-1))) a k 0 b), u) → mm_M g ad 0 0 (ks_H U (ms_H u (f_th false false false false) ck cw F)) 33 [(4, .int (nI j)), (3, .int y), (0, .ref 18), (1, .int a), (2, .int b)] [] := by
    intro n
    induction n with
    | zero =>
      intro j y hj hr ho
      refine mm_iload C dX3_uncovered_33 0 rfl ?_
      refine mm_aload_n C dX3_uncovered_35 rfl 2 rfl ?_
      refine mm_get C 18 1 (fun w h => mm_wc (inX3 w h)) rfl rfl (by decide) (mm_wc tw468) rfl rfl dX3_uncovered_36 ?_
      refine mm_icmp_ge (tgt := 68) C dX3_uncovered_39 (by decide) (fun c39 => ?_) (fun z => False.elim ((fun z => cn_t hj (by rw [← hI.1]; exact z)) z))
      refine mm_iconst (v := (-1)) C dX3_uncovered_68 (by decide) ?_
      exact mm_iret C K rfl dX3_uncovered_69 ⟨by rw [ho, ← hr]; rfl, by rw [ho]; rfl⟩ rfl (mm_nl rfl) (mm_nl rfl)
    | succ n ih =>
      intro j y hj hr ho
      refine mm_iload C dX3_uncovered_33 0 rfl ?_
      refine mm_aload_n C dX3_uncovered_35 rfl 2 rfl ?_
      refine mm_get C 18 1 (fun w h => mm_wc (inX3 w h)) rfl rfl (by decide) (mm_wc tw468) rfl rfl dX3_uncovered_36 ?_
      refine mm_icmp_ge (tgt := 68) C dX3_uncovered_39 (by decide) (fun z => False.elim ((fun z => cn_f hj hk9 (by rw [← hI.1]; exact z)) z)) (fun c39 => ?_)
      refine mm_aload_n C dX3_uncovered_42 rfl 2 rfl ?_
      refine mm_iload C dX3_uncovered_43 0 rfl ?_
      refine mm_iload_n C dX3_uncovered_45 rfl 3 rfl ?_
      refine mm_riV C 18 sv_X3_X3_isCovered_123 rfl rfl (kX3_isCovered _ _ U u _ ck cw F (nI j) a k c i J0 (b_j hI (by omega)) _ rfl) ⟨rfl, rfl⟩ ⟨mm_nl rfl, mm_nl rfl⟩ rfl rfl (mm_nl rfl) ⟨mm_nl rfl, mm_nl rfl⟩ dX3_uncovered_46 ?_
      refine mm_ifb_ne (tgt := 62) C dX3_uncovered_49 (by decide) (fun c49 => ?_) (fun c49 => ?_)
      · skip
        refine mm_iinc (q := 0) (v := (nI (j + 1))) (lv' := [(4, .int (nI (j + 1))), (3, .int y), (0, .ref 18), (1, .int a), (2, .int b)]) C dX3_uncovered_62 rfl (nI_1 j) hnL (by decide) rfl ?_
        refine mm_goto (tgt := 33) C dX3_uncovered_65 (by decide) ?_
        exact ih (j + 1) _ (by omega) (by rw [← hr]; exact (uc_1 c49).symm) ho
      · skip
        refine mm_iload_n C dX3_uncovered_52 rfl 1 rfl ?_
        refine mm_if_ne (tgt := 59) C dX3_uncovered_53 (by decide) (fun c53 => ?_) (fun c53 => ?_)
        · skip
          refine mm_iinc (q := 1) (v := y + (-1)) (lv' := [(3, .int (y + (-1))), (4, .int (nI j)), (0, .ref 18), (1, .int a), (2, .int b)]) C dX3_uncovered_59 rfl rfl hnL (by decide) rfl ?_
          refine mm_iinc (q := 1) (v := (nI (j + 1))) (lv' := [(4, .int (nI (j + 1))), (3, .int (y + (-1))), (0, .ref 18), (1, .int a), (2, .int b)]) C dX3_uncovered_62 rfl (nI_1 j) hnL (by decide) rfl ?_
          refine mm_goto (tgt := 33) C dX3_uncovered_65 (by decide) ?_
          exact ih (j + 1) _ (by omega) (by rw [← hr]; exact (uc_2 c49 c53).symm) ho
        · skip
          refine mm_iload C dX3_uncovered_56 0 rfl ?_
          exact mm_iret C K rfl dX3_uncovered_58 ⟨by rw [ho, ← hr, uc_3 c49 c53]; rfl, by rw [ho]; rfl⟩ rfl (mm_nl rfl) (mm_nl rfl)
  show mm_M g ad 0 0 (ks_H U (ms_H u t ck cw F)) 0 [(0, .ref 18), (1, .int a), (2, .int b)] []
  refine mm_aload_n C dX3_uncovered_0 rfl 0 rfl ?_
  refine mm_iload_n C dX3_uncovered_1 rfl 1 rfl ?_
  refine mm_riS C ss_X3_X3_isDay_81 (kX3_isDay _ _ _ a) ⟨rfl, rfl⟩ ⟨mm_nl rfl, mm_nl rfl⟩ rfl rfl (mm_nl rfl) ⟨mm_nl rfl, mm_nl rfl⟩ dX3_uncovered_2 ?_
  refine mm_ifb_eq (tgt := 12) C dX3_uncovered_5 (by decide) (fun c5 => ?_) (fun c5 => ?_)
  · skip
    refine mm_iconst (v := 1) C dX3_uncovered_12 (by decide) ?_
    refine mm_goto (tgt := 17) C dX3_uncovered_13 (by decide) ?_
    refine mm_iconst (v := 0) C dX3_uncovered_17 (by decide) ?_
    refine mm_iconst (v := 0) C dX3_uncovered_18 (by decide) ?_
    refine mm_iconst (v := 0) C dX3_uncovered_19 (by decide) ?_
    refine mm_riV C 18 sv_X3_X3_throwing_70 rfl rfl (kX3_throwing _ _ U u _ ck cw F true false false false) ⟨rfl, rfl⟩ ⟨mm_nl rfl, mm_nl rfl⟩ rfl rfl (mm_nl rfl) ⟨mm_nl rfl, mm_nl rfl⟩ dX3_uncovered_20 ?_
    refine mm_if_eq (tgt := 28) C dX3_uncovered_23 (by decide) (fun z => absurd z (by decide)) (fun _ => ?_)
    refine mm_iconst (v := 0) C dX3_uncovered_26 (by decide) ?_
    exact mm_iret C K rfl dX3_uncovered_27 (by
                have ho : o_uncovered u k c a b = .inl x_io := by simp [o_uncovered, c5]
                exact ⟨by rw [ho]; rfl, by rw [ho, cd_uncovered_1]; rfl⟩) rfl (mm_nl rfl) (mm_nl rfl)
  · skip
    refine mm_iload_n C dX3_uncovered_8 rfl 2 rfl ?_
    refine mm_if_ge (tgt := 16) C dX3_uncovered_9 (by decide) (fun c9 => ?_) (fun c9 => ?_)
    · skip
      refine mm_iconst (v := 0) C dX3_uncovered_16 (by decide) ?_
      refine mm_iconst (v := 0) C dX3_uncovered_17 (by decide) ?_
      refine mm_iconst (v := 0) C dX3_uncovered_18 (by decide) ?_
      refine mm_iconst (v := 0) C dX3_uncovered_19 (by decide) ?_
      refine mm_riV C 18 sv_X3_X3_throwing_70 rfl rfl (kX3_throwing _ _ U u _ ck cw F false false false false) ⟨rfl, rfl⟩ ⟨mm_nl rfl, mm_nl rfl⟩ rfl rfl (mm_nl rfl) ⟨mm_nl rfl, mm_nl rfl⟩ dX3_uncovered_20 ?_
      refine mm_if_eq (tgt := 28) C dX3_uncovered_23 (by decide) (fun _ => ?_) (fun z => absurd z (by decide))
      refine mm_iload_n C dX3_uncovered_28 rfl 2 rfl ?_
      refine mm_istore_n (lv' := [(3, .int b), (0, .ref 18), (1, .int a), (2, .int b)]) C dX3_uncovered_29 rfl hnL (by decide) rfl ?_
      refine mm_iconst (v := 0) C dX3_uncovered_30 (by decide) ?_
      refine mm_istore (lv' := [(4, .int 0), (3, .int b), (0, .ref 18), (1, .int a), (2, .int b)]) C dX3_uncovered_31 hnL (by decide) rfl ?_
      exact loop k 0 b (by omega) rfl (by simp [o_uncovered, c5, c9, Int32.not_lt.mpr c9])
    · skip
      refine mm_iconst (v := 1) C dX3_uncovered_12 (by decide) ?_
      refine mm_goto (tgt := 17) C dX3_uncovered_13 (by decide) ?_
      refine mm_iconst (v := 0) C dX3_uncovered_17 (by decide) ?_
      refine mm_iconst (v := 0) C dX3_uncovered_18 (by decide) ?_
      refine mm_iconst (v := 0) C dX3_uncovered_19 (by decide) ?_
      refine mm_riV C 18 sv_X3_X3_throwing_70 rfl rfl (kX3_throwing _ _ U u _ ck cw F true false false false) ⟨rfl, rfl⟩ ⟨mm_nl rfl, mm_nl rfl⟩ rfl rfl (mm_nl rfl) ⟨mm_nl rfl, mm_nl rfl⟩ dX3_uncovered_20 ?_
      refine mm_if_eq (tgt := 28) C dX3_uncovered_23 (by decide) (fun z => absurd z (by decide)) (fun _ => ?_)
      refine mm_iconst (v := 0) C dX3_uncovered_26 (by decide) ?_
      exact mm_iret C K rfl dX3_uncovered_27 (by
                have ho : o_uncovered u k c a b = .inl x_io := by simp [o_uncovered, c5, c9, Int32.not_le.mp c9]
                exact ⟨by rw [ho]; rfl, by rw [ho, cd_uncovered_1]; rfl⟩) rfl (mm_nl rfl) (mm_nl rfl)
set_option maxHeartbeats 4000000 in
set_option maxRecDepth 100000 in
theorem kX3_coded (l : Launch) (D : va_G) (U u : ks_S) (t : Int32) (ck cw : Nat → Int32) (F : List mm_c) (a b : Int32) (k c i : Nat) (J : ms_I u ck cw k c i) : mm_Wr l D yX3_coded (mm_cw yX3_coded cX3_coded 5 (some .int)) (mm_rm 4) [.ref 18, .int a, .int b] (ks_H U (ms_H u t ck cw F)) (some (.int (m_an (o_coded u c i a b)))) (ks_H U (ms_H (m_us u (o_coded u c i a b)) (m_cd l_coded (o_coded u c i a b)) ck cw F)) := by
  refine mm_start (own := RX3) (by decide) rfl rfl (mm_nl rfl) (fun _ => rfl) (fun _ => rfl) (fun g ad hl hD hnL C K => ?_)
  subst hl
  subst hD
  have J0 := J
  obtain ⟨hI, wP, wA, wA0, hta, htu, hct, hko, hcl, hhv, hw4, htb, hn1, hn2⟩ := J
  have hi := hI.2.2.2.2.2.1
  have hi9 : i < 1000000 := by omega
  have loop : ∀ (n : Nat) (j : Nat) (y : Int32), j + n = i → f_cd u c a b n j y = f_cd u c a b i 0 0 → o_coded u c i a b = .inr (some (f_cd u c a b i 0 0), u) → mm_M g ad 0 0 (ks_H U (ms_H u (f_th false false false false) ck cw F)) 39 [(4, .int (nI j)), (3, .int y), (0, .ref 18), (1, .int a), (2, .int b)] [] := by
    intro n
    induction n with
    | zero =>
      intro j y hj hr ho
      refine mm_iload C dX3_coded_39 0 rfl ?_
      refine mm_aload_n C dX3_coded_41 rfl 2 rfl ?_
      refine mm_get C 18 12 (fun w h => mm_wc (inX3 w h)) rfl rfl (by decide) (mm_wc tw479) rfl rfl dX3_coded_42 ?_
      refine mm_icmp_ge (tgt := 79) C dX3_coded_45 (by decide) (fun c45 => ?_) (fun z => False.elim ((fun z => cn_t hj (by rw [← hI.2.2.2.2.1]; exact z)) z))
      refine mm_iload_n C dX3_coded_79 rfl 1 rfl ?_
      exact mm_iret C K rfl dX3_coded_80 ⟨by rw [ho, ← hr]; rfl, by rw [ho]; rfl⟩ rfl (mm_nl rfl) (mm_nl rfl)
    | succ n ih =>
      intro j y hj hr ho
      have ej : (nI j).toNatClampNeg = j := nI_clamp (by omega)
      refine mm_iload C dX3_coded_39 0 rfl ?_
      refine mm_aload_n C dX3_coded_41 rfl 2 rfl ?_
      refine mm_get C 18 12 (fun w h => mm_wc (inX3 w h)) rfl rfl (by decide) (mm_wc tw479) rfl rfl dX3_coded_42 ?_
      refine mm_icmp_ge (tgt := 79) C dX3_coded_45 (by decide) (fun z => False.elim ((fun z => cn_f hj hi9 (by rw [← hI.2.2.2.2.1]; exact z)) z)) (fun c45 => ?_)
      refine mm_iload_n C dX3_coded_48 rfl 1 rfl ?_
      refine mm_aload_n C dX3_coded_49 rfl 2 rfl ?_
      refine mm_aload_n C dX3_coded_50 rfl 2 rfl ?_
      refine mm_get C 18 13 (fun w h => mm_wc (inX3 w h)) rfl rfl (by decide) (mm_wc tw480) rfl rfl dX3_coded_51 ?_
      refine mm_iload C dX3_coded_54 0 rfl ?_
      refine mm_iald C 28 rfl (vp_in_nI (by omega) (by decide)) dX3_coded_56 ?_
      refine mm_iconst (v := 3) C dX3_coded_57 (by decide) ?_
      refine mm_iload_n C dX3_coded_58 rfl 4 rfl ?_
      refine mm_riV C 18 sv_X3_X3_told_96 rfl rfl (kX3_told _ _ U u _ ck cw F ((k_ko u) (nI j).toNatClampNeg) 3 b k c i J0 (by rw [ej]; exact hko j (by omega)) (by decide)) ⟨rfl, rfl⟩ ⟨mm_nl rfl, mm_nl rfl⟩ rfl rfl (mm_nl rfl) ⟨mm_nl rfl, mm_nl rfl⟩ dX3_coded_59 ?_
      refine mm_iload_n C dX3_coded_62 rfl 3 rfl ?_
      refine mm_icmp_ne (tgt := 70) C dX3_coded_63 (by decide) (fun c63 => ?_) (fun c63 => ?_)
      · skip
        refine mm_iconst (v := 0) C dX3_coded_70 (by decide) ?_
        refine mm_iadd C dX3_coded_71 ?_
        refine mm_istore_n (lv' := [(3, .int (y + 0)), (4, .int (nI j)), (0, .ref 18), (1, .int a), (2, .int b)]) C dX3_coded_72 rfl hnL (by decide) rfl ?_
        refine mm_iinc (q := 1) (v := (nI (j + 1))) (lv' := [(4, .int (nI (j + 1))), (3, .int (y + 0)), (0, .ref 18), (1, .int a), (2, .int b)]) C dX3_coded_73 rfl (nI_1 j) hnL (by decide) rfl ?_
        refine mm_goto (tgt := 39) C dX3_coded_76 (by decide) ?_
        exact ih (j + 1) _ (by omega) (by simp only [ej] at c63; rw [← hr, f_cd, if_neg c63]; rw [Int32.add_zero]) ho
      · skip
        refine mm_iconst (v := 1) C dX3_coded_66 (by decide) ?_
        refine mm_goto (tgt := 71) C dX3_coded_67 (by decide) ?_
        refine mm_iadd C dX3_coded_71 ?_
        refine mm_istore_n (lv' := [(3, .int (y + 1)), (4, .int (nI j)), (0, .ref 18), (1, .int a), (2, .int b)]) C dX3_coded_72 rfl hnL (by decide) rfl ?_
        refine mm_iinc (q := 1) (v := (nI (j + 1))) (lv' := [(4, .int (nI (j + 1))), (3, .int (y + 1)), (0, .ref 18), (1, .int a), (2, .int b)]) C dX3_coded_73 rfl (nI_1 j) hnL (by decide) rfl ?_
        refine mm_goto (tgt := 39) C dX3_coded_76 (by decide) ?_
        exact ih (j + 1) _ (by omega) (by simp only [ej] at c63; rw [← hr, f_cd, if_pos c63]) ho
  show mm_M g ad 0 0 (ks_H U (ms_H u t ck cw F)) 0 [(0, .ref 18), (1, .int a), (2, .int b)] []
  refine mm_aload_n C dX3_coded_0 rfl 0 rfl ?_
  refine mm_iload_n C dX3_coded_1 rfl 1 rfl ?_
  refine mm_iconst (v := 0) C dX3_coded_2 (by decide) ?_
  refine mm_bipush (v := 99) C dX3_coded_3 (by decide) ?_
  refine mm_riS C ss_X3_X3_between_59 (kX3_between _ _ _ a 0 99 (b_btw a 0 99) rfl) ⟨rfl, rfl⟩ ⟨mm_nl rfl, mm_nl rfl⟩ rfl rfl (mm_nl rfl) ⟨mm_nl rfl, mm_nl rfl⟩ dX3_coded_5 ?_
  refine mm_ifb_eq (tgt := 18) C dX3_coded_8 (by decide) (fun c8 => ?_) (fun c8 => ?_)
  · skip
    refine mm_iconst (v := 1) C dX3_coded_18 (by decide) ?_
    refine mm_goto (tgt := 23) C dX3_coded_19 (by decide) ?_
    refine mm_iconst (v := 0) C dX3_coded_23 (by decide) ?_
    refine mm_iconst (v := 0) C dX3_coded_24 (by decide) ?_
    refine mm_iconst (v := 0) C dX3_coded_25 (by decide) ?_
    refine mm_riV C 18 sv_X3_X3_throwing_70 rfl rfl (kX3_throwing _ _ U u _ ck cw F true false false false) ⟨rfl, rfl⟩ ⟨mm_nl rfl, mm_nl rfl⟩ rfl rfl (mm_nl rfl) ⟨mm_nl rfl, mm_nl rfl⟩ dX3_coded_26 ?_
    refine mm_if_eq (tgt := 34) C dX3_coded_29 (by decide) (fun z => absurd z (by decide)) (fun _ => ?_)
    refine mm_iconst (v := 0) C dX3_coded_32 (by decide) ?_
    exact mm_iret C K rfl dX3_coded_33 (by
                have ho : o_coded u c i a b = .inl x_io := by simp [o_coded, ite_btw, c8]
                exact ⟨by rw [ho]; rfl, by rw [ho, cd_coded_1]; rfl⟩) rfl (mm_nl rfl) (mm_nl rfl)
  · skip
    refine mm_iload_n C dX3_coded_11 rfl 2 rfl ?_
    refine mm_riS C ss_X3_X3_isDay_81 (kX3_isDay _ _ _ b) ⟨rfl, rfl⟩ ⟨mm_nl rfl, mm_nl rfl⟩ rfl rfl (mm_nl rfl) ⟨mm_nl rfl, mm_nl rfl⟩ dX3_coded_12 ?_
    refine mm_ifb_ne (tgt := 22) C dX3_coded_15 (by decide) (fun c15 => ?_) (fun c15 => ?_)
    · skip
      refine mm_iconst (v := 0) C dX3_coded_22 (by decide) ?_
      refine mm_iconst (v := 0) C dX3_coded_23 (by decide) ?_
      refine mm_iconst (v := 0) C dX3_coded_24 (by decide) ?_
      refine mm_iconst (v := 0) C dX3_coded_25 (by decide) ?_
      refine mm_riV C 18 sv_X3_X3_throwing_70 rfl rfl (kX3_throwing _ _ U u _ ck cw F false false false false) ⟨rfl, rfl⟩ ⟨mm_nl rfl, mm_nl rfl⟩ rfl rfl (mm_nl rfl) ⟨mm_nl rfl, mm_nl rfl⟩ dX3_coded_26 ?_
      refine mm_if_eq (tgt := 34) C dX3_coded_29 (by decide) (fun _ => ?_) (fun z => absurd z (by decide))
      refine mm_iconst (v := 0) C dX3_coded_34 (by decide) ?_
      refine mm_istore_n (lv' := [(3, .int 0), (0, .ref 18), (1, .int a), (2, .int b)]) C dX3_coded_35 rfl hnL (by decide) rfl ?_
      refine mm_iconst (v := 0) C dX3_coded_36 (by decide) ?_
      refine mm_istore (lv' := [(4, .int 0), (3, .int 0), (0, .ref 18), (1, .int a), (2, .int b)]) C dX3_coded_37 hnL (by decide) rfl ?_
      exact loop i 0 0 (by omega) rfl (by simp [o_coded, ite_btw, c8, c15])
    · skip
      refine mm_iconst (v := 1) C dX3_coded_18 (by decide) ?_
      refine mm_goto (tgt := 23) C dX3_coded_19 (by decide) ?_
      refine mm_iconst (v := 0) C dX3_coded_23 (by decide) ?_
      refine mm_iconst (v := 0) C dX3_coded_24 (by decide) ?_
      refine mm_iconst (v := 0) C dX3_coded_25 (by decide) ?_
      refine mm_riV C 18 sv_X3_X3_throwing_70 rfl rfl (kX3_throwing _ _ U u _ ck cw F true false false false) ⟨rfl, rfl⟩ ⟨mm_nl rfl, mm_nl rfl⟩ rfl rfl (mm_nl rfl) ⟨mm_nl rfl, mm_nl rfl⟩ dX3_coded_26 ?_
      refine mm_if_eq (tgt := 34) C dX3_coded_29 (by decide) (fun z => absurd z (by decide)) (fun _ => ?_)
      refine mm_iconst (v := 0) C dX3_coded_32 (by decide) ?_
      exact mm_iret C K rfl dX3_coded_33 (by
                have ho : o_coded u c i a b = .inl x_io := by simp [o_coded, ite_btw, c8, c15]
                exact ⟨by rw [ho]; rfl, by rw [ho, cd_coded_1]; rfl⟩) rfl (mm_nl rfl) (mm_nl rfl)
