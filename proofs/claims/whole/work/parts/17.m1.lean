theorem ss_X3_X3_between_59 : mm_SS RX3 59 yX3_between cX3_between 3 (some .boolean) 3 := ⟨tw534, tw535, tw5, tw536, ⟨by decide +kernel, by decide +kernel, by decide +kernel⟩⟩
theorem sv_X3_X3_counting_92 : mm_SV RX3 92 RX3 yX3_counting cX3_counting 7 (some .int) 3 := ⟨tw579, tw581, (mm_wp 25 rfl rfl), tw5, tw582, rfl, ⟨by decide +kernel, by decide +kernel, by decide +kernel⟩⟩
set_option maxHeartbeats 4000000 in
set_option maxRecDepth 100000 in
theorem kX3_thrown (l : Launch) (D : va_G) (U u : ks_S) (t : Int32) (ck cw : Nat → Int32) (F : List mm_c)   : mm_Wr l D yX3_thrown (mm_cw yX3_thrown cX3_thrown 1 (some .int)) (mm_rm 0) [.ref 18] (ks_H U (ms_H u t ck cw F)) (some (.int t)) (ks_H U (ms_H u t ck cw F)) := by
  refine mm_start (own := RX3) (by decide) rfl rfl (mm_nl rfl) (fun _ => rfl) (fun _ => rfl) (fun g ad hl hD hnL C K => ?_)
  subst hl
  subst hD
  show mm_M g ad 0 0 (ks_H U (ms_H u t ck cw F)) 0 [(0, .ref 18)] []
  refine mm_aload_n C dX3_thrown_0 rfl 0 rfl ?_
  refine mm_get C 18 0 (fun w h => mm_wc (inX3 w h)) rfl rfl (by decide) (mm_wc tw467) rfl rfl dX3_thrown_1 ?_
  exact mm_iret C K rfl dX3_thrown_4 ⟨rfl, rfl⟩ rfl (mm_nl rfl) (mm_nl rfl)
set_option maxHeartbeats 4000000 in
set_option maxRecDepth 100000 in
theorem kX3_throwing (l : Launch) (D : va_G) (U u : ks_S) (t : Int32) (ck cw : Nat → Int32) (F : List mm_c) (b1 b2 b3 b4 : Bool)  : mm_Wr l D yX3_throwing (mm_cw yX3_throwing cX3_throwing 5 (some .boolean)) (mm_rm 0) [.ref 18, .int (i_b b1), .int (i_b b2), .int (i_b b3), .int (i_b b4)] (ks_H U (ms_H u t ck cw F)) (some (.int (i_b (b1 || b2 || b3 || b4)))) (ks_H U (ms_H u (f_th b1 b2 b3 b4) ck cw F)) := by
  refine mm_start (own := RX3) (by decide) rfl rfl (mm_nl rfl) (fun _ => rfl) (fun _ => rfl) (fun g ad hl hD hnL C K => ?_)
  subst hl
  subst hD
  show mm_M g ad 0 0 (ks_H U (ms_H u t ck cw F)) 0 [(0, .ref 18), (1, .int (i_b b1)), (2, .int (i_b b2)), (3, .int (i_b b3)), (4, .int (i_b b4))] []
  refine mm_aload_n C dX3_throwing_0 rfl 0 rfl ?_
  refine mm_iload_n C dX3_throwing_1 rfl 1 rfl ?_
  refine mm_ifb_eq (tgt := 9) C dX3_throwing_2 (by decide) (fun c2 => ?_) (fun c2 => ?_)
  · skip
    refine mm_iload_n C dX3_throwing_9 rfl 2 rfl ?_
    refine mm_ifb_eq (tgt := 17) C dX3_throwing_10 (by decide) (fun c10 => ?_) (fun c10 => ?_)
    · skip
      refine mm_iload_n C dX3_throwing_17 rfl 3 rfl ?_
      refine mm_ifb_eq (tgt := 25) C dX3_throwing_18 (by decide) (fun c18 => ?_) (fun c18 => ?_)
      · skip
        refine mm_iload C dX3_throwing_25 4 rfl ?_
        refine mm_ifb_eq (tgt := 34) C dX3_throwing_27 (by decide) (fun c27 => ?_) (fun c27 => ?_)
        · skip
          refine mm_iconst (v := 0) C dX3_throwing_34 (by decide) ?_
          refine mm_put C 18 0 (fun w h => mm_wc (inX3 w h)) rfl rfl (by decide) tyX3 tyX3_ok nmX3 (mm_wc tw467) rfl rfl (tyX3_ok 0 (by decide)) (fun _ => rfl) (fun _ => rfl) (mm_nl rfl) dX3_throwing_35 ?_
          refine mm_aload_n C dX3_throwing_38 rfl 0 rfl ?_
          refine mm_get C 18 0 (fun w h => mm_wc (inX3 w h)) rfl rfl (by decide) (mm_wc tw467) rfl rfl dX3_throwing_39 ?_
          refine mm_if_le (tgt := 49) C dX3_throwing_42 (by decide) (fun _ => ?_) (fun z => absurd z (by decide))
          refine mm_iconst (v := 0) C dX3_throwing_49 (by decide) ?_
          exact mm_iret C K (by decide) dX3_throwing_50 ⟨by simp [i_b, c2, c10, c18, c27], by simp only [f_th, c2, c10, c18, c27]; rfl⟩ rfl (mm_nl rfl) (mm_nl rfl)
        · skip
          refine mm_iconst (v := 4) C dX3_throwing_30 (by decide) ?_
          refine mm_goto (tgt := 35) C dX3_throwing_31 (by decide) ?_
          refine mm_put C 18 0 (fun w h => mm_wc (inX3 w h)) rfl rfl (by decide) tyX3 tyX3_ok nmX3 (mm_wc tw467) rfl rfl (tyX3_ok 0 (by decide)) (fun _ => rfl) (fun _ => rfl) (mm_nl rfl) dX3_throwing_35 ?_
          refine mm_aload_n C dX3_throwing_38 rfl 0 rfl ?_
          refine mm_get C 18 0 (fun w h => mm_wc (inX3 w h)) rfl rfl (by decide) (mm_wc tw467) rfl rfl dX3_throwing_39 ?_
          refine mm_if_le (tgt := 49) C dX3_throwing_42 (by decide) (fun z => absurd z (by decide)) (fun _ => ?_)
          refine mm_iconst (v := 1) C dX3_throwing_45 (by decide) ?_
          refine mm_goto (tgt := 50) C dX3_throwing_46 (by decide) ?_
          exact mm_iret C K (by decide) dX3_throwing_50 ⟨by simp [i_b, c2, c10, c18, c27], by simp only [f_th, c2, c10, c18, c27]; rfl⟩ rfl (mm_nl rfl) (mm_nl rfl)
      · skip
        refine mm_iconst (v := 3) C dX3_throwing_21 (by decide) ?_
        refine mm_goto (tgt := 35) C dX3_throwing_22 (by decide) ?_
        refine mm_put C 18 0 (fun w h => mm_wc (inX3 w h)) rfl rfl (by decide) tyX3 tyX3_ok nmX3 (mm_wc tw467) rfl rfl (tyX3_ok 0 (by decide)) (fun _ => rfl) (fun _ => rfl) (mm_nl rfl) dX3_throwing_35 ?_
        refine mm_aload_n C dX3_throwing_38 rfl 0 rfl ?_
        refine mm_get C 18 0 (fun w h => mm_wc (inX3 w h)) rfl rfl (by decide) (mm_wc tw467) rfl rfl dX3_throwing_39 ?_
        refine mm_if_le (tgt := 49) C dX3_throwing_42 (by decide) (fun z => absurd z (by decide)) (fun _ => ?_)
        refine mm_iconst (v := 1) C dX3_throwing_45 (by decide) ?_
        refine mm_goto (tgt := 50) C dX3_throwing_46 (by decide) ?_
        exact mm_iret C K (by decide) dX3_throwing_50 ⟨by simp [i_b, c2, c10, c18], by simp only [f_th, c2, c10, c18]; rfl⟩ rfl (mm_nl rfl) (mm_nl rfl)
    · skip
      refine mm_iconst (v := 2) C dX3_throwing_13 (by decide) ?_
      refine mm_goto (tgt := 35) C dX3_throwing_14 (by decide) ?_
      refine mm_put C 18 0 (fun w h => mm_wc (inX3 w h)) rfl rfl (by decide) tyX3 tyX3_ok nmX3 (mm_wc tw467) rfl rfl (tyX3_ok 0 (by decide)) (fun _ => rfl) (fun _ => rfl) (mm_nl rfl) dX3_throwing_35 ?_
      refine mm_aload_n C dX3_throwing_38 rfl 0 rfl ?_
      refine mm_get C 18 0 (fun w h => mm_wc (inX3 w h)) rfl rfl (by decide) (mm_wc tw467) rfl rfl dX3_throwing_39 ?_
      refine mm_if_le (tgt := 49) C dX3_throwing_42 (by decide) (fun z => absurd z (by decide)) (fun _ => ?_)
      refine mm_iconst (v := 1) C dX3_throwing_45 (by decide) ?_
      refine mm_goto (tgt := 50) C dX3_throwing_46 (by decide) ?_
      exact mm_iret C K (by decide) dX3_throwing_50 ⟨by simp [i_b, c2, c10], by simp only [f_th, c2, c10]; rfl⟩ rfl (mm_nl rfl) (mm_nl rfl)
  · skip
    refine mm_iconst (v := 1) C dX3_throwing_5 (by decide) ?_
    refine mm_goto (tgt := 35) C dX3_throwing_6 (by decide) ?_
    refine mm_put C 18 0 (fun w h => mm_wc (inX3 w h)) rfl rfl (by decide) tyX3 tyX3_ok nmX3 (mm_wc tw467) rfl rfl (tyX3_ok 0 (by decide)) (fun _ => rfl) (fun _ => rfl) (mm_nl rfl) dX3_throwing_35 ?_
    refine mm_aload_n C dX3_throwing_38 rfl 0 rfl ?_
    refine mm_get C 18 0 (fun w h => mm_wc (inX3 w h)) rfl rfl (by decide) (mm_wc tw467) rfl rfl dX3_throwing_39 ?_
    refine mm_if_le (tgt := 49) C dX3_throwing_42 (by decide) (fun z => absurd z (by decide)) (fun _ => ?_)
    refine mm_iconst (v := 1) C dX3_throwing_45 (by decide) ?_
    refine mm_goto (tgt := 50) C dX3_throwing_46 (by decide) ?_
    exact mm_iret C K (by decide) dX3_throwing_50 ⟨by simp [i_b, c2], by simp only [f_th, c2]; rfl⟩ rfl (mm_nl rfl) (mm_nl rfl)
set_option maxHeartbeats 4000000 in
set_option maxRecDepth 100000 in
theorem kX3_between (l : Launch) (D : va_G) (hp : List mm_c) (a b e : Int32) (B : Bool) (hB : b_btw a b e = B) : mm_Wr l D yX3_between (mm_cw yX3_between cX3_between 3 (some .boolean)) (mm_rm 0) [.int a, .int b, .int e] hp (some (.int (i_b B))) hp := by
  refine mm_start (own := RX3) (by decide) rfl rfl (mm_nl rfl) (fun _ => rfl) (fun _ => rfl) (fun g ad hl hD hnL C K => ?_)
  subst hl
  subst hD
  show mm_M g ad 0 0 hp 0 [(0, .int a), (1, .int b), (2, .int e)] []
  refine mm_iload_n C dX3_between_0 rfl 0 rfl ?_
  refine mm_iload_n C dX3_between_1 rfl 1 rfl ?_
  refine mm_icmp_lt (tgt := 14) C dX3_between_2 (by decide) (fun c2 => ?_) (fun c2 => ?_)
  · skip
    refine mm_iconst (v := 0) C dX3_between_14 (by decide) ?_
    exact mm_iret C K (by decide) dX3_between_15 ⟨by rw [← hB]; simp [b_btw, i_b, c2], rfl⟩ rfl (mm_nl rfl) (mm_nl rfl)
  · skip
    refine mm_iload_n C dX3_between_5 rfl 0 rfl ?_
    refine mm_iload_n C dX3_between_6 rfl 2 rfl ?_
    refine mm_icmp_gt (tgt := 14) C dX3_between_7 (by decide) (fun c7 => ?_) (fun c7 => ?_)
    · skip
      refine mm_iconst (v := 0) C dX3_between_14 (by decide) ?_
      exact mm_iret C K (by decide) dX3_between_15 ⟨by rw [← hB]; simp [b_btw, i_b, c2, c7], rfl⟩ rfl (mm_nl rfl) (mm_nl rfl)
    · skip
      refine mm_iconst (v := 1) C dX3_between_10 (by decide) ?_
      refine mm_goto (tgt := 15) C dX3_between_11 (by decide) ?_
      exact mm_iret C K (by decide) dX3_between_15 ⟨by rw [← hB]; simp [b_btw, i_b, c2, c7], rfl⟩ rfl (mm_nl rfl) (mm_nl rfl)
set_option maxHeartbeats 4000000 in
set_option maxRecDepth 100000 in
theorem kX3_isDay (l : Launch) (D : va_G) (hp : List mm_c) (a : Int32)  : mm_Wr l D yX3_isDay (mm_cw yX3_isDay cX3_isDay 1 (some .boolean)) (mm_rm 1) [.int a] hp (some (.int (i_b (b_day a)))) hp := by
  refine mm_start (own := RX3) (by decide) rfl rfl (mm_nl rfl) (fun _ => rfl) (fun _ => rfl) (fun g ad hl hD hnL C K => ?_)
  subst hl
  subst hD
  show mm_M g ad 0 0 hp 0 [(0, .int a)] []
  refine mm_iload_n C dX3_isDay_0 rfl 0 rfl ?_
  refine mm_iconst (v := 0) C dX3_isDay_1 (by decide) ?_
  refine mm_sipush (v := 9999) C dX3_isDay_2 (by decide) ?_
  refine mm_riS C ss_X3_X3_between_59 (kX3_between _ _ _ a 0 9999 (b_day a) rfl) ⟨rfl, rfl⟩ ⟨mm_nl rfl, mm_nl rfl⟩ rfl rfl (mm_nl rfl) ⟨mm_nl rfl, mm_nl rfl⟩ dX3_isDay_5 ?_
  exact mm_iret C K (nar_b _) dX3_isDay_8 ⟨rfl, rfl⟩ rfl (mm_nl rfl) (mm_nl rfl)
set_option maxHeartbeats 4000000 in
set_option maxRecDepth 100000 in
theorem kX3_isArea (l : Launch) (D : va_G) (hp : List mm_c) (a : Int32)  : mm_Wr l D yX3_isArea (mm_cw yX3_isArea cX3_isArea 1 (some .boolean)) (mm_rm 1) [.int a] hp (some (.int (i_b (b_below a 10)))) hp := by
  refine mm_start (own := RX3) (by decide) rfl rfl (mm_nl rfl) (fun _ => rfl) (fun _ => rfl) (fun g ad hl hD hnL C K => ?_)
  subst hl
  subst hD
  show mm_M g ad 0 0 hp 0 [(0, .int a)] []
  refine mm_iload_n C dX3_isArea_0 rfl 0 rfl ?_
  refine mm_iconst (v := 0) C dX3_isArea_1 (by decide) ?_
  refine mm_bipush (v := 9) C dX3_isArea_2 (by decide) ?_
  refine mm_riS C ss_X3_X3_between_59 (kX3_between _ _ _ a 0 9 (b_below a 10) (bw_below (by decide))) ⟨rfl, rfl⟩ ⟨mm_nl rfl, mm_nl rfl⟩ rfl rfl (mm_nl rfl) ⟨mm_nl rfl, mm_nl rfl⟩ dX3_isArea_4 ?_
  exact mm_iret C K (nar_b _) dX3_isArea_7 ⟨rfl, rfl⟩ rfl (mm_nl rfl) (mm_nl rfl)
set_option maxHeartbeats 4000000 in
set_option maxRecDepth 100000 in
theorem kX3_isKind (l : Launch) (D : va_G) (U u : ks_S) (t : Int32) (ck cw : Nat → Int32) (F : List mm_c) (a : Int32) (k c i : Nat) (hI : ks_I u k c i) : mm_Wr l D yX3_isKind (mm_cw yX3_isKind cX3_isKind 2 (some .boolean)) (mm_rm 1) [.ref 18, .int a] (ks_H U (ms_H u t ck cw F)) (some (.int (i_b (b_below a (k_kn u))))) (ks_H U (ms_H u t ck cw F)) := by
  refine mm_start (own := RX3) (by decide) rfl rfl (mm_nl rfl) (fun _ => rfl) (fun _ => rfl) (fun g ad hl hD hnL C K => ?_)
  subst hl
  subst hD
  show mm_M g ad 0 0 (ks_H U (ms_H u t ck cw F)) 0 [(0, .ref 18), (1, .int a)] []
  refine mm_iload_n C dX3_isKind_0 rfl 1 rfl ?_
  refine mm_iconst (v := 0) C dX3_isKind_1 (by decide) ?_
  refine mm_aload_n C dX3_isKind_2 rfl 0 rfl ?_
  refine mm_get C 18 1 (fun w h => mm_wc (inX3 w h)) rfl rfl (by decide) (mm_wc tw468) rfl rfl dX3_isKind_3 ?_
  refine mm_iconst (v := 1) C dX3_isKind_6 (by decide) ?_
  refine mm_isub C dX3_isKind_7 ?_
  refine mm_riS C ss_X3_X3_between_59 (kX3_between _ _ _ a 0 ((k_kn u) - 1) (b_below a (k_kn u)) (bw_below (k_pred hI))) ⟨rfl, rfl⟩ ⟨mm_nl rfl, mm_nl rfl⟩ rfl rfl (mm_nl rfl) ⟨mm_nl rfl, mm_nl rfl⟩ dX3_isKind_8 ?_
  exact mm_iret C K (nar_b _) dX3_isKind_11 ⟨rfl, rfl⟩ rfl (mm_nl rfl) (mm_nl rfl)
set_option maxHeartbeats 4000000 in
set_option maxRecDepth 100000 in
theorem kX3_isIncident (l : Launch) (D : va_G) (U u : ks_S) (t : Int32) (ck cw : Nat → Int32) (F : List mm_c) (a : Int32) (k c i : Nat) (hI : ks_I u k c i) : mm_Wr l D yX3_isIncident (mm_cw yX3_isIncident cX3_isIncident 2 (some .boolean)) (mm_rm 1) [.ref 18, .int a] (ks_H U (ms_H u t ck cw F)) (some (.int (i_b (b_below a (k_inn u))))) (ks_H U (ms_H u t ck cw F)) := by
  refine mm_start (own := RX3) (by decide) rfl rfl (mm_nl rfl) (fun _ => rfl) (fun _ => rfl) (fun g ad hl hD hnL C K => ?_)
  subst hl
  subst hD
  show mm_M g ad 0 0 (ks_H U (ms_H u t ck cw F)) 0 [(0, .ref 18), (1, .int a)] []
  refine mm_iload_n C dX3_isIncident_0 rfl 1 rfl ?_
  refine mm_iconst (v := 0) C dX3_isIncident_1 (by decide) ?_
  refine mm_aload_n C dX3_isIncident_2 rfl 0 rfl ?_
  refine mm_get C 18 12 (fun w h => mm_wc (inX3 w h)) rfl rfl (by decide) (mm_wc tw479) rfl rfl dX3_isIncident_3 ?_
  refine mm_iconst (v := 1) C dX3_isIncident_6 (by decide) ?_
  refine mm_isub C dX3_isIncident_7 ?_
  refine mm_riS C ss_X3_X3_between_59 (kX3_between _ _ _ a 0 ((k_inn u) - 1) (b_below a (k_inn u)) (bw_below (i_pred hI))) ⟨rfl, rfl⟩ ⟨mm_nl rfl, mm_nl rfl⟩ rfl rfl (mm_nl rfl) ⟨mm_nl rfl, mm_nl rfl⟩ dX3_isIncident_8 ?_
  exact mm_iret C K (nar_b _) dX3_isIncident_11 ⟨rfl, rfl⟩ rfl (mm_nl rfl) (mm_nl rfl)
set_option maxHeartbeats 4000000 in
set_option maxRecDepth 100000 in
theorem kX3_most (l : Launch) (D : va_G) (hp : List mm_c) (a : Int32) (ha : b_below a 4 = true) : mm_Wr l D yX3_most (mm_cw yX3_most cX3_most 1 (some .int)) (mm_rm 0) [.int a] hp (some (.int (f_gw a))) hp := by
  refine mm_start (own := RX3) (by decide) rfl rfl (mm_nl rfl) (fun _ => rfl) (fun _ => rfl) (fun g ad hl hD hnL C K => ?_)
  subst hl
  subst hD
  show mm_M g ad 0 0 hp 0 [(0, .int a)] []
  refine mm_iload_n C dX3_most_0 rfl 0 rfl ?_
  refine mm_if_ne (tgt := 9) C dX3_most_1 (by decide) (fun c1 => ?_) (fun c1 => ?_)
  · skip
    refine mm_iload_n C dX3_most_9 rfl 0 rfl ?_
    refine mm_iconst (v := 2) C dX3_most_10 (by decide) ?_
    refine mm_icmp_ne (tgt := 18) C dX3_most_11 (by decide) (fun c11 => ?_) (fun c11 => ?_)
    · skip
      refine mm_bipush (v := 99) C dX3_most_18 (by decide) ?_
      exact mm_iret C K rfl dX3_most_20 ⟨by rw [gw_mo a ha]; simp [c1, c11], rfl⟩ rfl (mm_nl rfl) (mm_nl rfl)
    · skip
      refine mm_iconst (v := 4) C dX3_most_14 (by decide) ?_
      refine mm_goto (tgt := 20) C dX3_most_15 (by decide) ?_
      exact mm_iret C K rfl dX3_most_20 ⟨by rw [gw_mo a ha]; simp [c1, eq_true c11], rfl⟩ rfl (mm_nl rfl) (mm_nl rfl)
  · skip
    refine mm_bipush (v := 9) C dX3_most_4 (by decide) ?_
    refine mm_goto (tgt := 20) C dX3_most_6 (by decide) ?_
    exact mm_iret C K rfl dX3_most_20 ⟨by rw [gw_mo a ha]; simp [eq_true c1], rfl⟩ rfl (mm_nl rfl) (mm_nl rfl)
set_option maxHeartbeats 4000000 in
set_option maxRecDepth 100000 in
theorem kX3_change (l : Launch) (D : va_G) (U u : ks_S) (t : Int32) (ck cw : Nat → Int32) (F : List mm_c) (a w e x h th : Int32) (k c i : Nat) (hI : ks_I u k c i) (hc : c < 200) : mm_Wr l D yX3_change (mm_cw yX3_change cX3_change 6 none) (mm_rm 0) [.ref 18, .int a, .int w, .int e, .int x, .int h] (ks_H U (ms_H u t ck cw F)) none (ks_H U (ms_H (ks_tell u a th e h x) t (upd ck (k_cs u).toNatClampNeg a) (upd cw (k_cs u).toNatClampNeg w) F)) := by
  refine mm_start (own := RX3) (by decide) rfl rfl (mm_nl rfl) (fun _ => rfl) (fun _ => rfl) (fun g ad hl hD hnL C K => ?_)
  subst hl
  subst hD
  show mm_M g ad 0 0 (ks_H U (ms_H u t ck cw F)) 0 [(0, .ref 18), (1, .int a), (2, .int w), (3, .int e), (4, .int x), (5, .int h)] []
  refine mm_aload_n C dX3_change_0 rfl 0 rfl ?_
  refine mm_get C 18 5 (fun w h => mm_wc (inX3 w h)) rfl rfl (by decide) (mm_wc tw472) rfl rfl dX3_change_1 ?_
  refine mm_aload_n C dX3_change_4 rfl 0 rfl ?_
  refine mm_get C 18 4 (fun w h => mm_wc (inX3 w h)) rfl rfl (by decide) (mm_wc tw471) rfl rfl dX3_change_5 ?_
  refine mm_iload_n C dX3_change_8 rfl 1 rfl ?_
  refine mm_iast C 21 rfl (by rw [hI.2.2.1]; exact vp_in_nI hc (by decide)) dX3_change_9 ?_
  refine mm_aload_n C dX3_change_10 rfl 0 rfl ?_
  refine mm_get C 18 6 (fun w h => mm_wc (inX3 w h)) rfl rfl (by decide) (mm_wc tw473) rfl rfl dX3_change_11 ?_
  refine mm_aload_n C dX3_change_14 rfl 0 rfl ?_
  refine mm_get C 18 4 (fun w h => mm_wc (inX3 w h)) rfl rfl (by decide) (mm_wc tw471) rfl rfl dX3_change_15 ?_
  refine mm_iload_n C dX3_change_18 rfl 2 rfl ?_
  refine mm_iast C 22 rfl (by rw [hI.2.2.1]; exact vp_in_nI hc (by decide)) dX3_change_19 ?_
  refine mm_aload_n C dX3_change_20 rfl 0 rfl ?_
  refine mm_get C 18 7 (fun w h => mm_wc (inX3 w h)) rfl rfl (by decide) (mm_wc tw474) rfl rfl dX3_change_21 ?_
  refine mm_aload_n C dX3_change_24 rfl 0 rfl ?_
  refine mm_get C 18 4 (fun w h => mm_wc (inX3 w h)) rfl rfl (by decide) (mm_wc tw471) rfl rfl dX3_change_25 ?_
  refine mm_iload_n C dX3_change_28 rfl 3 rfl ?_
  refine mm_iast C 23 rfl (by rw [hI.2.2.1]; exact vp_in_nI hc (by decide)) dX3_change_29 ?_
  refine mm_aload_n C dX3_change_30 rfl 0 rfl ?_
  refine mm_get C 18 8 (fun w h => mm_wc (inX3 w h)) rfl rfl (by decide) (mm_wc tw475) rfl rfl dX3_change_31 ?_
  refine mm_aload_n C dX3_change_34 rfl 0 rfl ?_
  refine mm_get C 18 4 (fun w h => mm_wc (inX3 w h)) rfl rfl (by decide) (mm_wc tw471) rfl rfl dX3_change_35 ?_
  refine mm_iload C dX3_change_38 4 rfl ?_
  refine mm_iast C 24 rfl (by rw [hI.2.2.1]; exact vp_in_nI hc (by decide)) dX3_change_40 ?_
  refine mm_aload_n C dX3_change_41 rfl 0 rfl ?_
  refine mm_get C 18 9 (fun w h => mm_wc (inX3 w h)) rfl rfl (by decide) (mm_wc tw476) rfl rfl dX3_change_42 ?_
  refine mm_aload_n C dX3_change_45 rfl 0 rfl ?_
  refine mm_get C 18 4 (fun w h => mm_wc (inX3 w h)) rfl rfl (by decide) (mm_wc tw471) rfl rfl dX3_change_46 ?_
  refine mm_iload C dX3_change_49 5 rfl ?_
  refine mm_iast C 25 rfl (by rw [hI.2.2.1]; exact vp_in_nI hc (by decide)) dX3_change_51 ?_
  refine mm_aload_n C dX3_change_52 rfl 0 rfl ?_
  refine mm_dup C dX3_change_53 rfl ?_
  refine mm_get C 18 4 (fun w h => mm_wc (inX3 w h)) rfl rfl (by decide) (mm_wc tw471) rfl rfl dX3_change_54 ?_
  refine mm_iconst (v := 1) C dX3_change_57 (by decide) ?_
  refine mm_iadd C dX3_change_58 ?_
  refine mm_put C 18 4 (fun w h => mm_wc (inX3 w h)) rfl rfl (by decide) tyX3 tyX3_ok nmX3 (mm_wc tw471) rfl rfl (tyX3_ok 4 (by decide)) (fun _ => rfl) (fun _ => rfl) (mm_nl rfl) dX3_change_59 ?_
  exact mm_vret C K dX3_change_62 ⟨rfl, rfl⟩ rfl (mm_nl rfl) (mm_nl rfl)
set_option maxHeartbeats 4000000 in
set_option maxRecDepth 100000 in
theorem kX3_isAbove (l : Launch) (D : va_G) (U u : ks_S) (t : Int32) (ck cw : Nat → Int32) (F : List mm_c) (a b : Int32) (k c i : Nat) (J : ms_I u ck cw k c i) (ha : b_below a (k_kn u) = true) (hb : b_below b (k_kn u) = true) : mm_Wr l D yX3_isAbove (mm_cw yX3_isAbove cX3_isAbove 4 (some .boolean)) (mm_rm 0) [.ref 18, .int a, .int b] (ks_H U (ms_H u t ck cw F)) (some (.int (i_b (f_sa (k_kn u) (k_pa u) a 40 b)))) (ks_H U (ms_H u t ck cw F)) := by
  refine mm_start (own := RX3) (by decide) rfl rfl (mm_nl rfl) (fun _ => rfl) (fun _ => rfl) (fun g ad hl hD hnL C K => ?_)
  subst hl
  subst hD
  have J0 := J
  obtain ⟨hI, wP, wA, wA0, hta, htu, hct, hko, hcl, hhv, hw4, htb, hn1, hn2⟩ := J
  obtain ⟨nb, hwb⟩ := wP b hb
  obtain ⟨d, hd9⟩ := w_40 hI hwb
  have loop : ∀ (n : Nat) (x : Int32), w_st (k_kn u) (nxP u) n x → f_sa (k_kn u) (k_pa u) a (n + d) x = f_sa (k_kn u) (k_pa u) a 40 b → mm_M g ad 0 0 (ks_H U (ms_H u t ck cw F)) 2 [(3, .int x), (0, .ref 18), (1, .int a), (2, .int b)] [] := by
    intro n
    induction n with
    | zero =>
      intro x hw hr
      refine mm_iload_n C dX3_isAbove_2 rfl 0 rfl ?_
      refine mm_if_lt (tgt := 21) C dX3_isAbove_3 (by decide) (fun c3 => ?_) (fun z => False.elim ((fun z => z (lt0_of hw)) z))
      refine mm_iload_n C dX3_isAbove_21 rfl 0 rfl ?_
      refine mm_iload_n C dX3_isAbove_22 rfl 2 rfl ?_
      refine mm_icmp_ne (tgt := 30) C dX3_isAbove_23 (by decide) (fun c23 => ?_) (fun z => False.elim ((fun z => b_nm1 ha (by rw [← z]; exact hw)) z))
      refine mm_iconst (v := 0) C dX3_isAbove_30 (by decide) ?_
      exact mm_iret C K (by decide) dX3_isAbove_31 ⟨by rw [← hr, show x = -1 from hw, sa_m1]; rfl, rfl⟩ rfl (mm_nl rfl) (mm_nl rfl)
    | succ n ih =>
      intro x hw hr
      rw [show n + 1 + d = (n + d) + 1 from by omega] at hr
      refine mm_iload_n C dX3_isAbove_2 rfl 0 rfl ?_
      refine mm_if_lt (tgt := 21) C dX3_isAbove_3 (by decide) (fun z => False.elim ((b_nlt hw.1) z)) (fun c3 => ?_)
      refine mm_iload_n C dX3_isAbove_6 rfl 0 rfl ?_
      refine mm_iload_n C dX3_isAbove_7 rfl 2 rfl ?_
      refine mm_icmp_eq (tgt := 21) C dX3_isAbove_8 (by decide) (fun c8 => ?_) (fun c8 => ?_)
      · skip
        refine mm_iload_n C dX3_isAbove_21 rfl 0 rfl ?_
        refine mm_iload_n C dX3_isAbove_22 rfl 2 rfl ?_
        refine mm_icmp_ne (tgt := 30) C dX3_isAbove_23 (by decide) (fun z => False.elim ((fun z => z c8) z)) (fun c23 => ?_)
        refine mm_iconst (v := 1) C dX3_isAbove_26 (by decide) ?_
        refine mm_goto (tgt := 31) C dX3_isAbove_27 (by decide) ?_
        exact mm_iret C K (by decide) dX3_isAbove_31 ⟨by rw [← hr, f_sa, if_pos hw.1, if_pos c8]; rfl, rfl⟩ rfl (mm_nl rfl) (mm_nl rfl)
      · skip
        refine mm_aload_n C dX3_isAbove_11 rfl 1 rfl ?_
        refine mm_get C 18 2 (fun w h => mm_wc (inX3 w h)) rfl rfl (by decide) (mm_wc tw469) rfl rfl dX3_isAbove_12 ?_
        refine mm_iload_n C dX3_isAbove_15 rfl 0 rfl ?_
        refine mm_iald C 19 rfl (ix_b hI.k40 hw.1) dX3_isAbove_16 ?_
        refine mm_istore_n (lv' := [(3, .int ((k_pa u) x.toNatClampNeg)), (0, .ref 18), (1, .int a), (2, .int b)]) C dX3_isAbove_17 rfl hnL (by decide) rfl ?_
        refine mm_goto (tgt := 2) C dX3_isAbove_18 (by decide) ?_
        exact ih _ hw.2 (by rw [← hr]; simp [f_sa, hw.1, c8, nxP])
  show mm_M g ad 0 0 (ks_H U (ms_H u t ck cw F)) 0 [(0, .ref 18), (1, .int a), (2, .int b)] []
  refine mm_iload_n C dX3_isAbove_0 rfl 2 rfl ?_
  refine mm_istore_n (lv' := [(3, .int b), (0, .ref 18), (1, .int a), (2, .int b)]) C dX3_isAbove_1 rfl hnL (by decide) rfl ?_
  exact loop nb b hwb (by rw [← hd9])
set_option maxHeartbeats 4000000 in
set_option maxRecDepth 100000 in
theorem kX3_depth (l : Launch) (D : va_G) (U u : ks_S) (t : Int32) (ck cw : Nat → Int32) (F : List mm_c) (a : Int32) (k c i : Nat) (J : ms_I u ck cw k c i) (ha : b_below a (k_kn u) = true) : mm_Wr l D yX3_depth (mm_cw yX3_depth cX3_depth 4 (some .int)) (mm_rm 0) [.ref 18, .int a] (ks_H U (ms_H u t ck cw F)) (some (.int (f_dp (k_kn u) (k_pa u) 40 (k_pa u a.toNatClampNeg) 0))) (ks_H U (ms_H u t ck cw F)) := by
  refine mm_start (own := RX3) (by decide) rfl rfl (mm_nl rfl) (fun _ => rfl) (fun _ => rfl) (fun g ad hl hD hnL C K => ?_)
  subst hl
  subst hD
  have J0 := J
  obtain ⟨hI, wP, wA, wA0, hta, htu, hct, hko, hcl, hhv, hw4, htb, hn1, hn2⟩ := J
  obtain ⟨na, hwa⟩ := wP a ha
  obtain ⟨nb, hna, hwb⟩ := w_nx hwa ha
  obtain ⟨d, hd9⟩ := w_40 hI hwb
  have loop : ∀ (n : Nat) (x y : Int32), w_st (k_kn u) (nxP u) n x → f_dp (k_kn u) (k_pa u) (n + d) x y = f_dp (k_kn u) (k_pa u) 40 (k_pa u a.toNatClampNeg) 0 → mm_M g ad 0 0 (ks_H U (ms_H u t ck cw F)) 9 [(3, .int x), (2, .int y), (0, .ref 18), (1, .int a)] [] := by
    intro n
    induction n with
    | zero =>
      intro x y hw hr
      refine mm_iload_n C dX3_depth_9 rfl 0 rfl ?_
      refine mm_if_lt (tgt := 26) C dX3_depth_10 (by decide) (fun c10 => ?_) (fun z => False.elim ((fun z => z (lt0_of hw)) z))
      refine mm_iload_n C dX3_depth_26 rfl 1 rfl ?_
      exact mm_iret C K rfl dX3_depth_27 ⟨by rw [← hr, show x = -1 from hw, dp_m1], rfl⟩ rfl (mm_nl rfl) (mm_nl rfl)
    | succ n ih =>
      intro x y hw hr
      rw [show n + 1 + d = (n + d) + 1 from by omega] at hr
      refine mm_iload_n C dX3_depth_9 rfl 0 rfl ?_
      refine mm_if_lt (tgt := 26) C dX3_depth_10 (by decide) (fun z => False.elim ((b_nlt hw.1) z)) (fun c10 => ?_)
      refine mm_iinc (q := 1) (v := y + 1) (lv' := [(2, .int (y + 1)), (3, .int x), (0, .ref 18), (1, .int a)]) C dX3_depth_13 rfl rfl hnL (by decide) rfl ?_
      refine mm_aload_n C dX3_depth_16 rfl 2 rfl ?_
      refine mm_get C 18 2 (fun w h => mm_wc (inX3 w h)) rfl rfl (by decide) (mm_wc tw469) rfl rfl dX3_depth_17 ?_
      refine mm_iload_n C dX3_depth_20 rfl 1 rfl ?_
      refine mm_iald C 19 rfl (ix_b hI.k40 hw.1) dX3_depth_21 ?_
      refine mm_istore_n (lv' := [(3, .int ((k_pa u) x.toNatClampNeg)), (2, .int (y + 1)), (0, .ref 18), (1, .int a)]) C dX3_depth_22 rfl hnL (by decide) rfl ?_
      refine mm_goto (tgt := 9) C dX3_depth_23 (by decide) ?_
      exact ih _ _ hw.2 (by rw [← hr]; simp [f_dp, hw.1, nxP])
  show mm_M g ad 0 0 (ks_H U (ms_H u t ck cw F)) 0 [(0, .ref 18), (1, .int a)] []
  refine mm_iconst (v := 0) C dX3_depth_0 (by decide) ?_
  refine mm_istore_n (lv' := [(2, .int 0), (0, .ref 18), (1, .int a)]) C dX3_depth_1 rfl hnL (by decide) rfl ?_
  refine mm_aload_n C dX3_depth_2 rfl 1 rfl ?_
  refine mm_get C 18 2 (fun w h => mm_wc (inX3 w h)) rfl rfl (by decide) (mm_wc tw469) rfl rfl dX3_depth_3 ?_
  refine mm_iload_n C dX3_depth_6 rfl 2 rfl ?_
  refine mm_iald C 19 rfl (ix_b hI.k40 ha) dX3_depth_7 ?_
  refine mm_istore_n (lv' := [(3, .int ((k_pa u) a.toNatClampNeg)), (2, .int 0), (0, .ref 18), (1, .int a)]) C dX3_depth_8 rfl hnL (by decide) rfl ?_
  exact loop nb _ 0 hwb (by rw [← hd9])
set_option maxHeartbeats 4000000 in
set_option maxRecDepth 100000 in
theorem kX3_isClosed (l : Launch) (D : va_G) (U u : ks_S) (t : Int32) (ck cw : Nat → Int32) (F : List mm_c) (a b : Int32) (k c i : Nat) (J : ms_I u ck cw k c i) (ha : b_below a (k_kn u) = true) : mm_Wr l D yX3_isClosed (mm_cw yX3_isClosed cX3_isClosed 5 (some .boolean)) (mm_rm 0) [.ref 18, .int a, .int b] (ks_H U (ms_H u t ck cw F)) (some (.int (i_b (f_cl (k_kn u) (k_pa u) (k_cl u) b 40 a)))) (ks_H U (ms_H u t ck cw F)) := by
  refine mm_start (own := RX3) (by decide) rfl rfl (mm_nl rfl) (fun _ => rfl) (fun _ => rfl) (fun g ad hl hD hnL C K => ?_)
  subst hl
  subst hD
  have J0 := J
  obtain ⟨hI, wP, wA, wA0, hta, htu, hct, hko, hcl, hhv, hw4, htb, hn1, hn2⟩ := J
  obtain ⟨nb, hwb⟩ := wP a ha
  obtain ⟨d, hd9⟩ := w_40 hI hwb
  have loop : ∀ (n : Nat) (x : Int32) (z : Bool), w_st (k_kn u) (nxP u) n x → (z || f_cl (k_kn u) (k_pa u) (k_cl u) b (n + d) x) = f_cl (k_kn u) (k_pa u) (k_cl u) b 40 a → mm_M g ad 0 0 (ks_H U (ms_H u t ck cw F)) 5 [(4, .int x), (3, .int (i_b z)), (0, .ref 18), (1, .int a), (2, .int b)] [] := by
    intro n
    induction n with
    | zero =>
      intro x z hw hr
      refine mm_iload C dX3_isClosed_5 0 rfl ?_
      refine mm_if_lt (tgt := 53) C dX3_isClosed_7 (by decide) (fun c7 => ?_) (fun z => False.elim ((fun z => z (lt0_of hw)) z))
      refine mm_iload_n C dX3_isClosed_53 rfl 1 rfl ?_
      exact mm_iret C K (nar_b _) dX3_isClosed_54 ⟨by rw [← hr, show x = -1 from hw, cl_m1, Bool.or_false], rfl⟩ rfl (mm_nl rfl) (mm_nl rfl)
    | succ n ih =>
      intro x z hw hr
      rw [show n + 1 + d = (n + d) + 1 from by omega] at hr
      have hcx := cl_x hI hcl hw.1
      refine mm_iload C dX3_isClosed_5 0 rfl ?_
      refine mm_if_lt (tgt := 53) C dX3_isClosed_7 (by decide) (fun z => False.elim ((b_nlt hw.1) z)) (fun c7 => ?_)
      refine mm_iload_n C dX3_isClosed_10 rfl 1 rfl ?_
      refine mm_ifb_ne (tgt := 35) C dX3_isClosed_11 (by decide) (fun c11 => ?_) (fun c11 => ?_)
      · skip
        refine mm_iconst (v := 1) C dX3_isClosed_35 (by decide) ?_
        refine mm_goto (tgt := 40) C dX3_isClosed_36 (by decide) ?_
        refine mm_istore_n (lv' := [(3, .int 1), (4, .int x), (0, .ref 18), (1, .int a), (2, .int b)]) C dX3_isClosed_40 rfl hnL (by decide) rfl ?_
        refine mm_aload_n C dX3_isClosed_41 rfl 2 rfl ?_
        refine mm_get C 18 2 (fun w h => mm_wc (inX3 w h)) rfl rfl (by decide) (mm_wc tw469) rfl rfl dX3_isClosed_42 ?_
        refine mm_iload C dX3_isClosed_45 1 rfl ?_
        refine mm_iald C 19 rfl (ix_b hI.k40 hw.1) dX3_isClosed_47 ?_
        refine mm_istore (lv' := [(4, .int ((k_pa u) x.toNatClampNeg)), (3, .int 1), (0, .ref 18), (1, .int a), (2, .int b)]) C dX3_isClosed_48 hnL (by decide) rfl ?_
        refine mm_goto (tgt := 5) C dX3_isClosed_50 (by decide) ?_
        exact ih _ true hw.2 (by rw [← hr]; simp [c11])
      · skip
        refine mm_aload_n C dX3_isClosed_14 rfl 2 rfl ?_
        refine mm_get C 18 3 (fun w h => mm_wc (inX3 w h)) rfl rfl (by decide) (mm_wc tw470) rfl rfl dX3_isClosed_15 ?_
        refine mm_iload C dX3_isClosed_18 0 rfl ?_
        refine mm_iald C 20 rfl (ix_b hI.k40 hw.1) dX3_isClosed_20 ?_
        refine mm_if_lt (tgt := 39) C dX3_isClosed_21 (by decide) (fun c21 => ?_) (fun c21 => ?_)
        · skip
          refine mm_iconst (v := 0) C dX3_isClosed_39 (by decide) ?_
          refine mm_istore_n (lv' := [(3, .int 0), (4, .int x), (0, .ref 18), (1, .int a), (2, .int b)]) C dX3_isClosed_40 rfl hnL (by decide) rfl ?_
          refine mm_aload_n C dX3_isClosed_41 rfl 2 rfl ?_
          refine mm_get C 18 2 (fun w h => mm_wc (inX3 w h)) rfl rfl (by decide) (mm_wc tw469) rfl rfl dX3_isClosed_42 ?_
          refine mm_iload C dX3_isClosed_45 1 rfl ?_
          refine mm_iald C 19 rfl (ix_b hI.k40 hw.1) dX3_isClosed_47 ?_
          refine mm_istore (lv' := [(4, .int ((k_pa u) x.toNatClampNeg)), (3, .int 0), (0, .ref 18), (1, .int a), (2, .int b)]) C dX3_isClosed_48 hnL (by decide) rfl ?_
          refine mm_goto (tgt := 5) C dX3_isClosed_50 (by decide) ?_
          exact ih _ false hw.2 (by rw [← hr, cl_2 hw.1 hcx (Or.inl c21), c11])
        · skip
          refine mm_aload_n C dX3_isClosed_24 rfl 2 rfl ?_
          refine mm_get C 18 3 (fun w h => mm_wc (inX3 w h)) rfl rfl (by decide) (mm_wc tw470) rfl rfl dX3_isClosed_25 ?_
          refine mm_iload C dX3_isClosed_28 0 rfl ?_
          refine mm_iald C 20 rfl (ix_b hI.k40 hw.1) dX3_isClosed_30 ?_
          refine mm_iload_n C dX3_isClosed_31 rfl 4 rfl ?_
          refine mm_icmp_gt (tgt := 39) C dX3_isClosed_32 (by decide) (fun c32 => ?_) (fun c32 => ?_)
          · skip
            refine mm_iconst (v := 0) C dX3_isClosed_39 (by decide) ?_
            refine mm_istore_n (lv' := [(3, .int 0), (4, .int x), (0, .ref 18), (1, .int a), (2, .int b)]) C dX3_isClosed_40 rfl hnL (by decide) rfl ?_
            refine mm_aload_n C dX3_isClosed_41 rfl 2 rfl ?_
            refine mm_get C 18 2 (fun w h => mm_wc (inX3 w h)) rfl rfl (by decide) (mm_wc tw469) rfl rfl dX3_isClosed_42 ?_
            refine mm_iload C dX3_isClosed_45 1 rfl ?_
            refine mm_iald C 19 rfl (ix_b hI.k40 hw.1) dX3_isClosed_47 ?_
            refine mm_istore (lv' := [(4, .int ((k_pa u) x.toNatClampNeg)), (3, .int 0), (0, .ref 18), (1, .int a), (2, .int b)]) C dX3_isClosed_48 hnL (by decide) rfl ?_
            refine mm_goto (tgt := 5) C dX3_isClosed_50 (by decide) ?_
            exact ih _ false hw.2 (by rw [← hr, cl_2 hw.1 hcx (Or.inr c32), c11])
          · skip
            refine mm_iconst (v := 1) C dX3_isClosed_35 (by decide) ?_
            refine mm_goto (tgt := 40) C dX3_isClosed_36 (by decide) ?_
            refine mm_istore_n (lv' := [(3, .int 1), (4, .int x), (0, .ref 18), (1, .int a), (2, .int b)]) C dX3_isClosed_40 rfl hnL (by decide) rfl ?_
            refine mm_aload_n C dX3_isClosed_41 rfl 2 rfl ?_
            refine mm_get C 18 2 (fun w h => mm_wc (inX3 w h)) rfl rfl (by decide) (mm_wc tw469) rfl rfl dX3_isClosed_42 ?_
            refine mm_iload C dX3_isClosed_45 1 rfl ?_
            refine mm_iald C 19 rfl (ix_b hI.k40 hw.1) dX3_isClosed_47 ?_
            refine mm_istore (lv' := [(4, .int ((k_pa u) x.toNatClampNeg)), (3, .int 1), (0, .ref 18), (1, .int a), (2, .int b)]) C dX3_isClosed_48 hnL (by decide) rfl ?_
            refine mm_goto (tgt := 5) C dX3_isClosed_50 (by decide) ?_
            exact ih _ true hw.2 (by rw [← hr, cl_1 hw.1 c21 c32]; simp)
  show mm_M g ad 0 0 (ks_H U (ms_H u t ck cw F)) 0 [(0, .ref 18), (1, .int a), (2, .int b)] []
  refine mm_iconst (v := 0) C dX3_isClosed_0 (by decide) ?_
  refine mm_istore_n (lv' := [(3, .int 0), (0, .ref 18), (1, .int a), (2, .int b)]) C dX3_isClosed_1 rfl hnL (by decide) rfl ?_
  refine mm_iload_n C dX3_isClosed_2 rfl 2 rfl ?_
  refine mm_istore (lv' := [(4, .int a), (3, .int 0), (0, .ref 18), (1, .int a), (2, .int b)]) C dX3_isClosed_3 hnL (by decide) rfl ?_
  exact loop nb a false hwb (by rw [← hd9]; rfl)
set_option maxHeartbeats 4000000 in
set_option maxRecDepth 100000 in
theorem kX3_counting (l : Launch) (D : va_G) (U u : ks_S) (t : Int32) (ck cw : Nat → Int32) (F : List mm_c) (a w e th : Int32) (k c i : Nat) (J : ms_I u ck cw k c i) (hn : k_nw u (a * 20 + th).toNatClampNeg = f_lm (c_mt ck cw a w) c) : mm_Wr l D yX3_counting (mm_cw yX3_counting cX3_counting 7 (some .int)) (mm_rm 0) [.ref 18, .int a, .int w, .int e] (ks_H U (ms_H u t ck cw F)) (some (.int (f_la u c a th e))) (ks_H U (ms_H u t ck cw F)) := by
  refine mm_start (own := RX3) (by decide) rfl rfl (mm_nl rfl) (fun _ => rfl) (fun _ => rfl) (fun g ad hl hD hnL C K => ?_)
  subst hl
  subst hD
  have J0 := J
  obtain ⟨hI, wP, wA, wA0, hta, htu, hct, hko, hcl, hhv, hw4, htb, hn1, hn2⟩ := J
  have hc2 := hI.2.2.2.1
  have hc9 : c < 1000000 := by omega
  have loop : ∀ (n : Nat) (j : Nat) (y : Int32), j + n = c → y = f_ct (c_mt ck cw a w) (k_dy u) e j → mm_M g ad 0 0 (ks_H U (ms_H u t ck cw F)) 6 [(5, .int (nI j)), (4, .int y), (0, .ref 18), (1, .int a), (2, .int w), (3, .int e)] [] := by
    intro n
    induction n with
    | zero =>
      intro j y hj hy
      refine mm_iload C dX3_counting_6 0 rfl ?_
      refine mm_aload_n C dX3_counting_8 rfl 2 rfl ?_
      refine mm_get C 18 4 (fun w h => mm_wc (inX3 w h)) rfl rfl (by decide) (mm_wc tw471) rfl rfl dX3_counting_9 ?_
      refine mm_icmp_ge (tgt := 92) C dX3_counting_12 (by decide) (fun c12 => ?_) (fun z => False.elim ((fun z => cn_t hj (by rw [← hI.2.2.1]; exact z)) z))
      refine mm_iload C dX3_counting_92 1 rfl ?_
      exact mm_iret C K rfl dX3_counting_94 ⟨by rw [hy, show j = c from by omega, f_la_ct hc2 htb hn], rfl⟩ rfl (mm_nl rfl) (mm_nl rfl)
    | succ n ih =>
      intro j y hj hy
      have ej : (nI j).toNatClampNeg = j := nI_clamp (by omega)
      have hyo : f_ok c y := by
        rw [hy]; exact (f_ct_ok (c_mt ck cw a w) (k_dy u) e j).imp id (fun ⟨m, h1, h2, _⟩ => ⟨m, by omega, h2⟩)
      refine mm_iload C dX3_counting_6 0 rfl ?_
      refine mm_aload_n C dX3_counting_8 rfl 2 rfl ?_
      refine mm_get C 18 4 (fun w h => mm_wc (inX3 w h)) rfl rfl (by decide) (mm_wc tw471) rfl rfl dX3_counting_9 ?_
      refine mm_icmp_ge (tgt := 92) C dX3_counting_12 (by decide) (fun z => False.elim ((fun z => cn_f hj hc9 (by rw [← hI.2.2.1]; exact z)) z)) (fun c12 => ?_)
      refine mm_aload_n C dX3_counting_15 rfl 2 rfl ?_
      refine mm_get C 18 5 (fun w h => mm_wc (inX3 w h)) rfl rfl (by decide) (mm_wc tw472) rfl rfl dX3_counting_16 ?_
      refine mm_iload C dX3_counting_19 0 rfl ?_
      refine mm_iald C 21 rfl (vp_in_nI (by omega) (by decide)) dX3_counting_21 ?_
      refine mm_iload_n C dX3_counting_22 rfl 3 rfl ?_
      refine mm_icmp_ne (tgt := 52) C dX3_counting_23 (by decide) (fun c23 => ?_) (fun c23 => ?_)
      · skip
        refine mm_iconst (v := 0) C dX3_counting_52 (by decide) ?_
        refine mm_istore (lv' := [(6, .int 0), (5, .int (nI j)), (4, .int y), (0, .ref 18), (1, .int a), (2, .int w), (3, .int e)]) C dX3_counting_53 hnL (by decide) rfl ?_
        refine mm_iload C dX3_counting_55 0 rfl ?_
        refine mm_if_eq (tgt := 86) C dX3_counting_57 (by decide) (fun _ => ?_) (fun z => absurd z (by decide))
        refine mm_iinc (q := 1) (v := (nI (j + 1))) (lv' := [(5, .int (nI (j + 1))), (6, .int 0), (4, .int y), (0, .ref 18), (1, .int a), (2, .int w), (3, .int e)]) C dX3_counting_86 rfl (nI_1 j) hnL (by decide) rfl ?_
        refine mm_goto (tgt := 6) C dX3_counting_89 (by decide) ?_
        refine mm_lvs (lv' := [(5, .int (nI (j + 1))), (4, .int y), (0, .ref 18), (1, .int a), (2, .int w), (3, .int e)]) [0, 2, 3, 4, 5, 6] rfl ?_
        exact ih (j + 1) _ (by omega) (by simp only [ej] at c23; rw [f_ct, ← hy]; simp [c_mt, c23])
      · skip
        refine mm_aload_n C dX3_counting_26 rfl 2 rfl ?_
        refine mm_get C 18 6 (fun w h => mm_wc (inX3 w h)) rfl rfl (by decide) (mm_wc tw473) rfl rfl dX3_counting_27 ?_
        refine mm_iload C dX3_counting_30 0 rfl ?_
        refine mm_iald C 22 rfl (vp_in_nI (by omega) (by decide)) dX3_counting_32 ?_
        refine mm_iload_n C dX3_counting_33 rfl 4 rfl ?_
        refine mm_icmp_ne (tgt := 52) C dX3_counting_34 (by decide) (fun c34 => ?_) (fun c34 => ?_)
        · skip
          refine mm_iconst (v := 0) C dX3_counting_52 (by decide) ?_
          refine mm_istore (lv' := [(6, .int 0), (5, .int (nI j)), (4, .int y), (0, .ref 18), (1, .int a), (2, .int w), (3, .int e)]) C dX3_counting_53 hnL (by decide) rfl ?_
          refine mm_iload C dX3_counting_55 0 rfl ?_
          refine mm_if_eq (tgt := 86) C dX3_counting_57 (by decide) (fun _ => ?_) (fun z => absurd z (by decide))
          refine mm_iinc (q := 1) (v := (nI (j + 1))) (lv' := [(5, .int (nI (j + 1))), (6, .int 0), (4, .int y), (0, .ref 18), (1, .int a), (2, .int w), (3, .int e)]) C dX3_counting_86 rfl (nI_1 j) hnL (by decide) rfl ?_
          refine mm_goto (tgt := 6) C dX3_counting_89 (by decide) ?_
          refine mm_lvs (lv' := [(5, .int (nI (j + 1))), (4, .int y), (0, .ref 18), (1, .int a), (2, .int w), (3, .int e)]) [0, 2, 3, 4, 5, 6] rfl ?_
          exact ih (j + 1) _ (by omega) (by simp only [ej] at c23 c34; rw [f_ct, ← hy]; simp [c_mt, eq_true c23, c34])
        · skip
          refine mm_aload_n C dX3_counting_37 rfl 2 rfl ?_
          refine mm_get C 18 7 (fun w h => mm_wc (inX3 w h)) rfl rfl (by decide) (mm_wc tw474) rfl rfl dX3_counting_38 ?_
          refine mm_iload C dX3_counting_41 0 rfl ?_
          refine mm_iald C 23 rfl (vp_in_nI (by omega) (by decide)) dX3_counting_43 ?_
          refine mm_iload_n C dX3_counting_44 rfl 5 rfl ?_
          refine mm_icmp_gt (tgt := 52) C dX3_counting_45 (by decide) (fun c45 => ?_) (fun c45 => ?_)
          · skip
            refine mm_iconst (v := 0) C dX3_counting_52 (by decide) ?_
            refine mm_istore (lv' := [(6, .int 0), (5, .int (nI j)), (4, .int y), (0, .ref 18), (1, .int a), (2, .int w), (3, .int e)]) C dX3_counting_53 hnL (by decide) rfl ?_
            refine mm_iload C dX3_counting_55 0 rfl ?_
            refine mm_if_eq (tgt := 86) C dX3_counting_57 (by decide) (fun _ => ?_) (fun z => absurd z (by decide))
            refine mm_iinc (q := 1) (v := (nI (j + 1))) (lv' := [(5, .int (nI (j + 1))), (6, .int 0), (4, .int y), (0, .ref 18), (1, .int a), (2, .int w), (3, .int e)]) C dX3_counting_86 rfl (nI_1 j) hnL (by decide) rfl ?_
            refine mm_goto (tgt := 6) C dX3_counting_89 (by decide) ?_
            refine mm_lvs (lv' := [(5, .int (nI (j + 1))), (4, .int y), (0, .ref 18), (1, .int a), (2, .int w), (3, .int e)]) [0, 2, 3, 4, 5, 6] rfl ?_
            exact ih (j + 1) _ (by omega) (by simp only [ej] at c23 c34 c45; rw [f_ct, ← hy]; simp [c_mt, eq_true c23, eq_true c34, c45])
          · skip
            refine mm_iconst (v := 1) C dX3_counting_48 (by decide) ?_
            refine mm_goto (tgt := 53) C dX3_counting_49 (by decide) ?_
            refine mm_istore (lv' := [(6, .int 1), (5, .int (nI j)), (4, .int y), (0, .ref 18), (1, .int a), (2, .int w), (3, .int e)]) C dX3_counting_53 hnL (by decide) rfl ?_
            refine mm_iload C dX3_counting_55 0 rfl ?_
            refine mm_if_eq (tgt := 86) C dX3_counting_57 (by decide) (fun z => absurd z (by decide)) (fun _ => ?_)
            refine mm_iload C dX3_counting_60 2 rfl ?_
            refine mm_if_lt (tgt := 82) C dX3_counting_62 (by decide) (fun c62 => ?_) (fun c62 => ?_)
            · skip
              refine mm_iload C dX3_counting_82 1 rfl ?_
              refine mm_istore (lv' := [(4, .int (nI j)), (6, .int 1), (5, .int (nI j)), (0, .ref 18), (1, .int a), (2, .int w), (3, .int e)]) C dX3_counting_84 hnL (by decide) rfl ?_
              refine mm_iinc (q := 2) (v := (nI (j + 1))) (lv' := [(5, .int (nI (j + 1))), (4, .int (nI j)), (6, .int 1), (0, .ref 18), (1, .int a), (2, .int w), (3, .int e)]) C dX3_counting_86 rfl (nI_1 j) hnL (by decide) rfl ?_
              refine mm_goto (tgt := 6) C dX3_counting_89 (by decide) ?_
              refine mm_lvs (lv' := [(5, .int (nI (j + 1))), (4, .int (nI j)), (0, .ref 18), (1, .int a), (2, .int w), (3, .int e)]) [0, 1, 3, 4, 5, 6] rfl ?_
              exact ih (j + 1) _ (by omega) (by simp only [ej] at c23 c34 c45; rw [f_ct, ← hy]; simp [c_mt, eq_true c23, eq_true c34, c45, c62])
            · skip
              refine mm_aload_n C dX3_counting_65 rfl 3 rfl ?_
              refine mm_get C 18 7 (fun w h => mm_wc (inX3 w h)) rfl rfl (by decide) (mm_wc tw474) rfl rfl dX3_counting_66 ?_
              refine mm_iload C dX3_counting_69 1 rfl ?_
              refine mm_iald C 23 rfl (vp_in_nI (by omega) (by decide)) dX3_counting_71 ?_
              refine mm_aload_n C dX3_counting_72 rfl 3 rfl ?_
              refine mm_get C 18 7 (fun w h => mm_wc (inX3 w h)) rfl rfl (by decide) (mm_wc tw474) rfl rfl dX3_counting_73 ?_
              refine mm_iload C dX3_counting_76 2 rfl ?_
              refine mm_iald C 23 rfl (f_ok_in hyo (fun z => c62 (lt0_of z)) hc2 (by decide)) dX3_counting_78 ?_
              refine mm_icmp_lt (tgt := 86) C dX3_counting_79 (by decide) (fun c79 => ?_) (fun c79 => ?_)
              · skip
                refine mm_iinc (q := 1) (v := (nI (j + 1))) (lv' := [(5, .int (nI (j + 1))), (6, .int 1), (4, .int y), (0, .ref 18), (1, .int a), (2, .int w), (3, .int e)]) C dX3_counting_86 rfl (nI_1 j) hnL (by decide) rfl ?_
                refine mm_goto (tgt := 6) C dX3_counting_89 (by decide) ?_
                refine mm_lvs (lv' := [(5, .int (nI (j + 1))), (4, .int y), (0, .ref 18), (1, .int a), (2, .int w), (3, .int e)]) [0, 2, 3, 4, 5, 6] rfl ?_
                exact ih (j + 1) _ (by omega) (by simp only [ej] at c23 c34 c45 c79; rw [f_ct, ← hy]; simp [c_mt, eq_true c23, eq_true c34, c45, c62, c79])
              · skip
                refine mm_iload C dX3_counting_82 1 rfl ?_
                refine mm_istore (lv' := [(4, .int (nI j)), (6, .int 1), (5, .int (nI j)), (0, .ref 18), (1, .int a), (2, .int w), (3, .int e)]) C dX3_counting_84 hnL (by decide) rfl ?_
                refine mm_iinc (q := 2) (v := (nI (j + 1))) (lv' := [(5, .int (nI (j + 1))), (4, .int (nI j)), (6, .int 1), (0, .ref 18), (1, .int a), (2, .int w), (3, .int e)]) C dX3_counting_86 rfl (nI_1 j) hnL (by decide) rfl ?_
                refine mm_goto (tgt := 6) C dX3_counting_89 (by decide) ?_
                refine mm_lvs (lv' := [(5, .int (nI (j + 1))), (4, .int (nI j)), (0, .ref 18), (1, .int a), (2, .int w), (3, .int e)]) [0, 1, 3, 4, 5, 6] rfl ?_
                exact ih (j + 1) _ (by omega) (by simp only [ej] at c23 c34 c45 c79; rw [f_ct, ← hy]; simp [c_mt, eq_true c23, eq_true c34, c45, c62, c79])
  show mm_M g ad 0 0 (ks_H U (ms_H u t ck cw F)) 0 [(0, .ref 18), (1, .int a), (2, .int w), (3, .int e)] []
  refine mm_iconst (v := (-1)) C dX3_counting_0 (by decide) ?_
  refine mm_istore (lv' := [(4, .int (-1)), (0, .ref 18), (1, .int a), (2, .int w), (3, .int e)]) C dX3_counting_1 hnL (by decide) rfl ?_
  refine mm_iconst (v := 0) C dX3_counting_3 (by decide) ?_
  refine mm_istore (lv' := [(5, .int 0), (4, .int (-1)), (0, .ref 18), (1, .int a), (2, .int w), (3, .int e)]) C dX3_counting_4 hnL (by decide) rfl ?_
  exact loop c 0 (-1) (by omega) rfl
set_option maxHeartbeats 4000000 in
set_option maxRecDepth 100000 in
theorem kX3_told (l : Launch) (D : va_G) (U u : ks_S) (t : Int32) (ck cw : Nat → Int32) (F : List mm_c) (a b e : Int32) (k c i : Nat) (J : ms_I u ck cw k c i) (ha : b_below a (k_kn u) = true) (hb : b_below b 4 = true) : mm_Wr l D yX3_told (mm_cw yX3_told cX3_told 6 (some .int)) (mm_rm 1) [.ref 18, .int a, .int b, .int e] (ks_H U (ms_H u t ck cw F)) (some (.int (f_wo u c a b e))) (ks_H U (ms_H u t ck cw F)) := by
  refine mm_start (own := RX3) (by decide) rfl rfl (mm_nl rfl) (fun _ => rfl) (fun _ => rfl) (fun g ad hl hD hnL C K => ?_)
  subst hl
  subst hD
  have J0 := J
  obtain ⟨hI, wP, wA, wA0, hta, htu, hct, hko, hcl, hhv, hw4, htb, hn1, hn2⟩ := J
  obtain ⟨nb, hwb⟩ := wP a ha
  obtain ⟨d, hd9⟩ := w_40 hI hwb
  have hc2 := hI.2.2.2.1
  have loop : ∀ (n : Nat) (x : Int32), w_st (k_kn u) (nxP u) n x → f_in u c b e (f_df b) (n + d) x 0 = f_wo u c a b e → mm_M g ad 0 0 (ks_H U (ms_H u t ck cw F)) 3 [(4, .int x), (0, .ref 18), (1, .int a), (2, .int b), (3, .int e)] [] := by
    intro n
    induction n with
    | zero =>
      intro x hw hr
      refine mm_iload C dX3_told_3 0 rfl ?_
      refine mm_if_lt (tgt := 53) C dX3_told_5 (by decide) (fun c5 => ?_) (fun z => False.elim ((fun z => z (lt0_of hw)) z))
      refine mm_iload_n C dX3_told_53 rfl 3 rfl ?_
      refine mm_if_ne (tgt := 62) C dX3_told_54 (by decide) (fun c54 => ?_) (fun c54 => ?_)
      · skip
        refine mm_iconst (v := 0) C dX3_told_62 (by decide) ?_
        exact mm_iret C K rfl dX3_told_63 ⟨by rw [← hr, show x = -1 from hw, in_m1, mx_0 (df_nn b hb), df_ge b hb]; simp [c54], rfl⟩ rfl (mm_nl rfl) (mm_nl rfl)
      · skip
        refine mm_bipush (v := 9) C dX3_told_57 (by decide) ?_
        refine mm_goto (tgt := 63) C dX3_told_59 (by decide) ?_
        exact mm_iret C K rfl dX3_told_63 ⟨by rw [← hr, show x = -1 from hw, in_m1, mx_0 (df_nn b hb), df_ge b hb]; simp [eq_true c54], rfl⟩ rfl (mm_nl rfl) (mm_nl rfl)
    | succ n ih =>
      intro x hw hr
      rw [show n + 1 + d = (n + d) + 1 from by omega] at hr
      have hn := hn1 x b (b_40 hI hw.1) hb
      have hla := la_x (e := e) J0 hn
      have hq0 : ¬ (f_la u c x b e) < 0 → k_hw u (f_la u c x b e).toNatClampNeg ≤ 0 → k_hw u (f_la u c x b e).toNatClampNeg = 0 := fun z1 z2 => by
        rcases hla with h | ⟨m, h1, h2, h3, h4, h5⟩
        · exact absurd (lt0_of h) z1
        · rw [h2] at z2 ⊢
          rcases h5 with h5 | ⟨h5 | h5, _⟩
          · exact h5
          · rw [h5] at z2; exact absurd z2 (by decide)
          · rw [h5] at z2; exact absurd z2 (by decide)
      have hq1 : ¬ (f_la u c x b e) < 0 → ¬ k_hw u (f_la u c x b e).toNatClampNeg ≤ 0 → k_hw u (f_la u c x b e).toNatClampNeg = 1 ∧ 0 ≤ k_vl u (f_la u c x b e).toNatClampNeg := fun z1 z2 => by
        rcases hla with h | ⟨m, h1, h2, h3, h4, h5⟩
        · exact absurd (lt0_of h) z1
        · rw [h2] at z2 ⊢
          rcases h5 with h5 | ⟨h5 | h5, h6⟩
          · rw [h5] at z2; exact absurd (by decide) z2
          · exact ⟨h5, h6⟩
          · exact absurd h5 (hw4 m h1 (by rw [h4]; exact hb))
      refine mm_iload C dX3_told_3 0 rfl ?_
      refine mm_if_lt (tgt := 53) C dX3_told_5 (by decide) (fun z => False.elim ((b_nlt hw.1) z)) (fun c5 => ?_)
      refine mm_aload_n C dX3_told_8 rfl 1 rfl ?_
      refine mm_iload C dX3_told_9 0 rfl ?_
      refine mm_iload_n C dX3_told_11 rfl 3 rfl ?_
      refine mm_iload_n C dX3_told_12 rfl 4 rfl ?_
      refine mm_riV C 18 sv_X3_X3_counting_92 rfl rfl (kX3_counting _ _ U u _ ck cw F x b e b k c i J0 hn) ⟨rfl, rfl⟩ ⟨mm_nl rfl, mm_nl rfl⟩ rfl rfl (mm_nl rfl) ⟨mm_nl rfl, mm_nl rfl⟩ dX3_told_13 ?_
      refine mm_istore (lv' := [(5, .int (f_la u c x b e)), (4, .int x), (0, .ref 18), (1, .int a), (2, .int b), (3, .int e)]) C dX3_told_16 hnL (by decide) rfl ?_
      refine mm_iload C dX3_told_18 0 rfl ?_
      refine mm_if_lt (tgt := 41) C dX3_told_20 (by decide) (fun c20 => ?_) (fun c20 => ?_)
      · skip
        refine mm_aload_n C dX3_told_41 rfl 2 rfl ?_
        refine mm_get C 18 2 (fun w h => mm_wc (inX3 w h)) rfl rfl (by decide) (mm_wc tw469) rfl rfl dX3_told_42 ?_
        refine mm_iload C dX3_told_45 1 rfl ?_
        refine mm_iald C 19 rfl (ix_b hI.k40 hw.1) dX3_told_47 ?_
        refine mm_istore (lv' := [(4, .int ((k_pa u) x.toNatClampNeg)), (5, .int (f_la u c x b e)), (0, .ref 18), (1, .int a), (2, .int b), (3, .int e)]) C dX3_told_48 hnL (by decide) rfl ?_
        refine mm_goto (tgt := 3) C dX3_told_50 (by decide) ?_
        refine mm_lvs (lv' := [(4, .int ((k_pa u) x.toNatClampNeg)), (0, .ref 18), (1, .int a), (2, .int b), (3, .int e)]) [0, 2, 3, 4, 5] rfl ?_
        exact ih _ hw.2 (by rw [← hr]; exact (in_sk hw.1 (Or.inl (ok_lt (f_la_ok hI _ _ _) (by omega) c20))).symm)
      · skip
        refine mm_aload_n C dX3_told_23 rfl 2 rfl ?_
        refine mm_get C 18 9 (fun w h => mm_wc (inX3 w h)) rfl rfl (by decide) (mm_wc tw476) rfl rfl dX3_told_24 ?_
        refine mm_iload C dX3_told_27 0 rfl ?_
        refine mm_iald C 25 rfl (f_ok_in (f_la_ok hI _ _ _) (fun z => c20 (lt0_of z)) hc2 (by decide)) dX3_told_29 ?_
        refine mm_if_le (tgt := 41) C dX3_told_30 (by decide) (fun c30 => ?_) (fun c30 => ?_)
        · skip
          refine mm_aload_n C dX3_told_41 rfl 2 rfl ?_
          refine mm_get C 18 2 (fun w h => mm_wc (inX3 w h)) rfl rfl (by decide) (mm_wc tw469) rfl rfl dX3_told_42 ?_
          refine mm_iload C dX3_told_45 1 rfl ?_
          refine mm_iald C 19 rfl (ix_b hI.k40 hw.1) dX3_told_47 ?_
          refine mm_istore (lv' := [(4, .int ((k_pa u) x.toNatClampNeg)), (5, .int (f_la u c x b e)), (0, .ref 18), (1, .int a), (2, .int b), (3, .int e)]) C dX3_told_48 hnL (by decide) rfl ?_
          refine mm_goto (tgt := 3) C dX3_told_50 (by decide) ?_
          refine mm_lvs (lv' := [(4, .int ((k_pa u) x.toNatClampNeg)), (0, .ref 18), (1, .int a), (2, .int b), (3, .int e)]) [0, 2, 3, 4, 5] rfl ?_
          exact ih _ hw.2 (by rw [← hr]; exact (in_sk hw.1 (Or.inr ⟨fun z => c20 (lt0_of z), hq0 c20 c30⟩)).symm)
        · skip
          refine mm_aload_n C dX3_told_33 rfl 2 rfl ?_
          refine mm_get C 18 8 (fun w h => mm_wc (inX3 w h)) rfl rfl (by decide) (mm_wc tw475) rfl rfl dX3_told_34 ?_
          refine mm_iload C dX3_told_37 0 rfl ?_
          refine mm_iald C 24 rfl (f_ok_in (f_la_ok hI _ _ _) (fun z => c20 (lt0_of z)) hc2 (by decide)) dX3_told_39 ?_
          exact mm_iret C K rfl dX3_told_40 ⟨by rw [← hr, in_1 hw.1 (fun z => c20 (lt0_of z)) (hq1 c20 c30).1, mx_0 (hq1 c20 c30).2], rfl⟩ rfl (mm_nl rfl) (mm_nl rfl)
  show mm_M g ad 0 0 (ks_H U (ms_H u t ck cw F)) 0 [(0, .ref 18), (1, .int a), (2, .int b), (3, .int e)] []
  refine mm_iload_n C dX3_told_0 rfl 1 rfl ?_
  refine mm_istore (lv' := [(4, .int a), (0, .ref 18), (1, .int a), (2, .int b), (3, .int e)]) C dX3_told_1 hnL (by decide) rfl ?_
  exact loop nb a hwb (by rw [← hd9]; rfl)
theorem hw_0 {x : Int32} (h : x = 0 ∨ x = 1 ∨ x = 2) (h1 : x ≤ 0) : x = 0 := by
  rcases h with h | h | h
  · exact h
  · rw [h] at h1; exact absurd h1 (by decide)
  · rw [h] at h1; exact absurd h1 (by decide)
theorem hw_2 {x : Int32} (h : x = 0 ∨ x = 1 ∨ x = 2) (h1 : ¬ x ≤ 0) (h2 : ¬ x = 1) : x = 2 := by
  rcases h with h | h | h
  · rw [h] at h1; exact absurd (by decide) h1
  · exact absurd h h2
  · exact h
theorem mx_gt {x y : Int32} (h : ¬ x ≤ y) : f_mx x y = x := by
  unfold f_mx; rw [if_neg (fun z => h (Int32.le_of_lt z))]
theorem mx_le {x y : Int32} (h : x ≤ y) : f_mx x y = y := by
  unfold f_mx
  split
  · rfl
  · next h1 => exact Int32.le_antisymm h (Int32.not_lt.mp h1)
set_option maxHeartbeats 4000000 in
set_option maxRecDepth 100000 in
theorem kX3_needs (l : Launch) (D : va_G) (U u : ks_S) (t : Int32) (ck cw : Nat → Int32) (F : List mm_c) (a b e : Int32) (k c i : Nat) (J : ms_I u ck cw k c i) (ha : b_below a (k_kn u) = true) (hb : b_below b 16 = true) : mm_Wr l D yX3_needs (mm_cw yX3_needs cX3_needs 8 (some .int)) (mm_rm 1) [.ref 18, .int a, .int b, .int e] (ks_H U (ms_H u t ck cw F)) (some (.int (f_nd u c a b e))) (ks_H U (ms_H u t ck cw F)) := by
  refine mm_start (own := RX3) (by decide) rfl rfl (mm_nl rfl) (fun _ => rfl) (fun _ => rfl) (fun g ad hl hD hnL C K => ?_)
  subst hl
  subst hD
  have J0 := J
  obtain ⟨hI, wP, wA, wA0, hta, htu, hct, hko, hcl, hhv, hw4, htb, hn1, hn2⟩ := J
  obtain ⟨nb, hwb⟩ := wP a ha
  obtain ⟨d, hd9⟩ := w_40 hI hwb
  have hc2 := hI.2.2.2.1
  have loop : ∀ (n : Nat) (x y : Int32), w_st (k_kn u) (nxP u) n x → 0 ≤ y → f_in u c (4 + b) e 0 (n + d) x y = f_nd u c a b e → mm_M g ad 0 0 (ks_H U (ms_H u t ck cw F)) 6 [(5, .int x), (4, .int y), (0, .ref 18), (1, .int a), (2, .int b), (3, .int e)] [] := by
    intro n
    induction n with
    | zero =>
      intro x y hw hy hr
      refine mm_iload C dX3_needs_6 0 rfl ?_
      refine mm_if_lt (tgt := 94) C dX3_needs_8 (by decide) (fun c8 => ?_) (fun z => False.elim ((fun z => z (lt0_of hw)) z))
      refine mm_iload C dX3_needs_94 1 rfl ?_
      exact mm_iret C K rfl dX3_needs_96 ⟨by rw [← hr, show x = -1 from hw, in_m1, mx_x0 hy], rfl⟩ rfl (mm_nl rfl) (mm_nl rfl)
    | succ n ih =>
      intro x y hw hy hr
      rw [show n + 1 + d = (n + d) + 1 from by omega] at hr
      have hn := hn2 x b (b_40 hI hw.1) hb
      have hla := la_x (e := e) J0 hn
      have hq : ¬ (f_la u c x (4 + b) e) < 0 → (k_hw u (f_la u c x (4 + b) e).toNatClampNeg = 0 ∨ k_hw u (f_la u c x (4 + b) e).toNatClampNeg = 1 ∨ k_hw u (f_la u c x (4 + b) e).toNatClampNeg = 2) := fun z1 => by
        rcases hla with h | ⟨m, h1, h2, h3, h4, h5⟩
        · exact absurd (lt0_of h) z1
        · rw [h2]
          rcases h5 with h5 | ⟨h5 | h5, _⟩
          · exact Or.inl h5
          · exact Or.inr (Or.inl h5)
          · exact Or.inr (Or.inr h5)
      refine mm_iload C dX3_needs_6 0 rfl ?_
      refine mm_if_lt (tgt := 94) C dX3_needs_8 (by decide) (fun z => False.elim ((b_nlt hw.1) z)) (fun c8 => ?_)
      refine mm_aload_n C dX3_needs_11 rfl 2 rfl ?_
      refine mm_iload C dX3_needs_12 0 rfl ?_
      refine mm_bipush (v := 10) C dX3_needs_14 (by decide) ?_
      refine mm_iload_n C dX3_needs_16 rfl 4 rfl ?_
      refine mm_iadd C dX3_needs_17 ?_
      refine mm_iload_n C dX3_needs_18 rfl 5 rfl ?_
      refine mm_riV C 18 sv_X3_X3_counting_92 rfl rfl (kX3_counting _ _ U u _ ck cw F x (10 + b) e (4 + b) k c i J0 hn) ⟨rfl, rfl⟩ ⟨mm_nl rfl, mm_nl rfl⟩ rfl rfl (mm_nl rfl) ⟨mm_nl rfl, mm_nl rfl⟩ dX3_needs_19 ?_
      refine mm_istore (lv' := [(6, .int (f_la u c x (4 + b) e)), (5, .int x), (4, .int y), (0, .ref 18), (1, .int a), (2, .int b), (3, .int e)]) C dX3_needs_22 hnL (by decide) rfl ?_
      refine mm_iload C dX3_needs_24 0 rfl ?_
      refine mm_if_ge (tgt := 33) C dX3_needs_26 (by decide) (fun c26 => ?_) (fun c26 => ?_)
      · skip
        refine mm_aload_n C dX3_needs_33 rfl 3 rfl ?_
        refine mm_get C 18 9 (fun w h => mm_wc (inX3 w h)) rfl rfl (by decide) (mm_wc tw476) rfl rfl dX3_needs_34 ?_
        refine mm_iload C dX3_needs_37 0 rfl ?_
        refine mm_iald C 25 rfl (f_ok_in (f_la_ok hI _ _ _) (fun z => absurd c26 (Int32.not_le.mpr (lt0_of z))) hc2 (by decide)) dX3_needs_39 ?_
        refine mm_istore (lv' := [(7, .int ((k_hw u) (f_la u c x (4 + b) e).toNatClampNeg)), (6, .int (f_la u c x (4 + b) e)), (5, .int x), (4, .int y), (0, .ref 18), (1, .int a), (2, .int b), (3, .int e)]) C dX3_needs_40 hnL (by decide) rfl ?_
        refine mm_iload C dX3_needs_42 0 rfl ?_
        refine mm_if_le (tgt := 73) C dX3_needs_44 (by decide) (fun c44 => ?_) (fun c44 => ?_)
        · skip
          refine mm_iload C dX3_needs_73 0 rfl ?_
          refine mm_iconst (v := 1) C dX3_needs_75 (by decide) ?_
          refine mm_icmp_ne (tgt := 82) C dX3_needs_76 (by decide) (fun c76 => ?_) (fun z => False.elim ((fun z => absurd (z ▸ c44) (by decide)) z))
          refine mm_aload_n C dX3_needs_82 rfl 4 rfl ?_
          refine mm_get C 18 2 (fun w h => mm_wc (inX3 w h)) rfl rfl (by decide) (mm_wc tw469) rfl rfl dX3_needs_83 ?_
          refine mm_iload C dX3_needs_86 2 rfl ?_
          refine mm_iald C 19 rfl (ix_b hI.k40 hw.1) dX3_needs_88 ?_
          refine mm_istore (lv' := [(5, .int ((k_pa u) x.toNatClampNeg)), (7, .int ((k_hw u) (f_la u c x (4 + b) e).toNatClampNeg)), (6, .int (f_la u c x (4 + b) e)), (4, .int y), (0, .ref 18), (1, .int a), (2, .int b), (3, .int e)]) C dX3_needs_89 hnL (by decide) rfl ?_
          refine mm_goto (tgt := 6) C dX3_needs_91 (by decide) ?_
          refine mm_lvs (lv' := [(5, .int ((k_pa u) x.toNatClampNeg)), (4, .int y), (0, .ref 18), (1, .int a), (2, .int b), (3, .int e)]) [0, 3, 4, 5, 6, 7] rfl ?_
          exact ih _ _ hw.2 hy (by rw [← hr]; exact (in_sk hw.1 (Or.inr ⟨fun z => absurd c26 (Int32.not_le.mpr (lt0_of z)), hw_0 (hq (Int32.not_lt.mpr c26)) c44⟩)).symm)
        · skip
          refine mm_iload C dX3_needs_47 3 rfl ?_
          refine mm_aload_n C dX3_needs_49 rfl 4 rfl ?_
          refine mm_get C 18 8 (fun w h => mm_wc (inX3 w h)) rfl rfl (by decide) (mm_wc tw475) rfl rfl dX3_needs_50 ?_
          refine mm_iload C dX3_needs_53 1 rfl ?_
          refine mm_iald C 24 rfl (f_ok_in (f_la_ok hI _ _ _) (fun z => absurd c26 (Int32.not_le.mpr (lt0_of z))) hc2 (by decide)) dX3_needs_55 ?_
          refine mm_icmp_le (tgt := 64) C dX3_needs_56 (by decide) (fun c56 => ?_) (fun c56 => ?_)
          · skip
            refine mm_aload_n C dX3_needs_64 rfl 4 rfl ?_
            refine mm_get C 18 8 (fun w h => mm_wc (inX3 w h)) rfl rfl (by decide) (mm_wc tw475) rfl rfl dX3_needs_65 ?_
            refine mm_iload C dX3_needs_68 1 rfl ?_
            refine mm_iald C 24 rfl (f_ok_in (f_la_ok hI _ _ _) (fun z => absurd c26 (Int32.not_le.mpr (lt0_of z))) hc2 (by decide)) dX3_needs_70 ?_
            refine mm_istore (lv' := [(4, .int ((k_vl u) (f_la u c x (4 + b) e).toNatClampNeg)), (7, .int ((k_hw u) (f_la u c x (4 + b) e).toNatClampNeg)), (6, .int (f_la u c x (4 + b) e)), (5, .int x), (0, .ref 18), (1, .int a), (2, .int b), (3, .int e)]) C dX3_needs_71 hnL (by decide) rfl ?_
            refine mm_iload C dX3_needs_73 1 rfl ?_
            refine mm_iconst (v := 1) C dX3_needs_75 (by decide) ?_
            refine mm_icmp_ne (tgt := 82) C dX3_needs_76 (by decide) (fun c76 => ?_) (fun c76 => ?_)
            · skip
              refine mm_aload_n C dX3_needs_82 rfl 4 rfl ?_
              refine mm_get C 18 2 (fun w h => mm_wc (inX3 w h)) rfl rfl (by decide) (mm_wc tw469) rfl rfl dX3_needs_83 ?_
              refine mm_iload C dX3_needs_86 3 rfl ?_
              refine mm_iald C 19 rfl (ix_b hI.k40 hw.1) dX3_needs_88 ?_
              refine mm_istore (lv' := [(5, .int ((k_pa u) x.toNatClampNeg)), (4, .int ((k_vl u) (f_la u c x (4 + b) e).toNatClampNeg)), (7, .int ((k_hw u) (f_la u c x (4 + b) e).toNatClampNeg)), (6, .int (f_la u c x (4 + b) e)), (0, .ref 18), (1, .int a), (2, .int b), (3, .int e)]) C dX3_needs_89 hnL (by decide) rfl ?_
              refine mm_goto (tgt := 6) C dX3_needs_91 (by decide) ?_
              refine mm_lvs (lv' := [(5, .int ((k_pa u) x.toNatClampNeg)), (4, .int ((k_vl u) (f_la u c x (4 + b) e).toNatClampNeg)), (0, .ref 18), (1, .int a), (2, .int b), (3, .int e)]) [0, 1, 4, 5, 6, 7] rfl ?_
              exact ih _ _ hw.2 (mx_le c56 ▸ mx_ge hy) (by rw [← hr, in_2 hw.1 (fun z => absurd c26 (Int32.not_le.mpr (lt0_of z))) (hw_2 (hq (Int32.not_lt.mpr c26)) c44 c76), mx_le c56])
            · skip
              refine mm_iload C dX3_needs_79 0 rfl ?_
              exact mm_iret C K rfl dX3_needs_81 ⟨by rw [← hr, in_1 hw.1 (fun z => absurd c26 (Int32.not_le.mpr (lt0_of z))) c76, mx_le c56], rfl⟩ rfl (mm_nl rfl) (mm_nl rfl)
          · skip
            refine mm_iload C dX3_needs_59 3 rfl ?_
            refine mm_goto (tgt := 71) C dX3_needs_61 (by decide) ?_
            refine mm_istore (lv' := [(4, .int y), (7, .int ((k_hw u) (f_la u c x (4 + b) e).toNatClampNeg)), (6, .int (f_la u c x (4 + b) e)), (5, .int x), (0, .ref 18), (1, .int a), (2, .int b), (3, .int e)]) C dX3_needs_71 hnL (by decide) rfl ?_
            refine mm_iload C dX3_needs_73 1 rfl ?_
            refine mm_iconst (v := 1) C dX3_needs_75 (by decide) ?_
            refine mm_icmp_ne (tgt := 82) C dX3_needs_76 (by decide) (fun c76 => ?_) (fun c76 => ?_)
            · skip
              refine mm_aload_n C dX3_needs_82 rfl 4 rfl ?_
              refine mm_get C 18 2 (fun w h => mm_wc (inX3 w h)) rfl rfl (by decide) (mm_wc tw469) rfl rfl dX3_needs_83 ?_
              refine mm_iload C dX3_needs_86 3 rfl ?_
              refine mm_iald C 19 rfl (ix_b hI.k40 hw.1) dX3_needs_88 ?_
              refine mm_istore (lv' := [(5, .int ((k_pa u) x.toNatClampNeg)), (4, .int y), (7, .int ((k_hw u) (f_la u c x (4 + b) e).toNatClampNeg)), (6, .int (f_la u c x (4 + b) e)), (0, .ref 18), (1, .int a), (2, .int b), (3, .int e)]) C dX3_needs_89 hnL (by decide) rfl ?_
              refine mm_goto (tgt := 6) C dX3_needs_91 (by decide) ?_
              refine mm_lvs (lv' := [(5, .int ((k_pa u) x.toNatClampNeg)), (4, .int y), (0, .ref 18), (1, .int a), (2, .int b), (3, .int e)]) [0, 1, 4, 5, 6, 7] rfl ?_
              exact ih _ _ hw.2 (mx_gt c56 ▸ mx_ge hy) (by rw [← hr, in_2 hw.1 (fun z => absurd c26 (Int32.not_le.mpr (lt0_of z))) (hw_2 (hq (Int32.not_lt.mpr c26)) c44 c76), mx_gt c56])
            · skip
              refine mm_iload C dX3_needs_79 0 rfl ?_
              exact mm_iret C K rfl dX3_needs_81 ⟨by rw [← hr, in_1 hw.1 (fun z => absurd c26 (Int32.not_le.mpr (lt0_of z))) c76, mx_gt c56], rfl⟩ rfl (mm_nl rfl) (mm_nl rfl)
      · skip
        refine mm_iconst (v := 0) C dX3_needs_29 (by decide) ?_
        refine mm_goto (tgt := 40) C dX3_needs_30 (by decide) ?_
        refine mm_istore (lv' := [(7, .int 0), (6, .int (f_la u c x (4 + b) e)), (5, .int x), (4, .int y), (0, .ref 18), (1, .int a), (2, .int b), (3, .int e)]) C dX3_needs_40 hnL (by decide) rfl ?_
        refine mm_iload C dX3_needs_42 0 rfl ?_
        refine mm_if_le (tgt := 73) C dX3_needs_44 (by decide) (fun _ => ?_) (fun z => absurd z (by decide))
        refine mm_iload C dX3_needs_73 0 rfl ?_
        refine mm_iconst (v := 1) C dX3_needs_75 (by decide) ?_
        refine mm_icmp_ne (tgt := 82) C dX3_needs_76 (by decide) (fun _ => ?_) (fun z => absurd z (by decide))
        refine mm_aload_n C dX3_needs_82 rfl 4 rfl ?_
        refine mm_get C 18 2 (fun w h => mm_wc (inX3 w h)) rfl rfl (by decide) (mm_wc tw469) rfl rfl dX3_needs_83 ?_
        refine mm_iload C dX3_needs_86 2 rfl ?_
        refine mm_iald C 19 rfl (ix_b hI.k40 hw.1) dX3_needs_88 ?_
        refine mm_istore (lv' := [(5, .int ((k_pa u) x.toNatClampNeg)), (7, .int 0), (6, .int (f_la u c x (4 + b) e)), (4, .int y), (0, .ref 18), (1, .int a), (2, .int b), (3, .int e)]) C dX3_needs_89 hnL (by decide) rfl ?_
        refine mm_goto (tgt := 6) C dX3_needs_91 (by decide) ?_
        refine mm_lvs (lv' := [(5, .int ((k_pa u) x.toNatClampNeg)), (4, .int y), (0, .ref 18), (1, .int a), (2, .int b), (3, .int e)]) [0, 3, 4, 5, 6, 7] rfl ?_
        exact ih _ _ hw.2 hy (by rw [← hr]; exact (in_sk hw.1 (Or.inl (ok_lt (f_la_ok hI _ _ _) (by omega) (Int32.not_le.mp c26)))).symm)
  show mm_M g ad 0 0 (ks_H U (ms_H u t ck cw F)) 0 [(0, .ref 18), (1, .int a), (2, .int b), (3, .int e)] []
  refine mm_iconst (v := 0) C dX3_needs_0 (by decide) ?_
  refine mm_istore (lv' := [(4, .int 0), (0, .ref 18), (1, .int a), (2, .int b), (3, .int e)]) C dX3_needs_1 hnL (by decide) rfl ?_
  refine mm_iload_n C dX3_needs_3 rfl 2 rfl ?_
  refine mm_istore (lv' := [(5, .int a), (4, .int 0), (0, .ref 18), (1, .int a), (2, .int b), (3, .int e)]) C dX3_needs_4 hnL (by decide) rfl ?_
  exact loop nb a 0 hwb (by decide) (by rw [← hd9]; rfl)
set_option maxHeartbeats 4000000 in
set_option maxRecDepth 100000 in
theorem kX3_follow (l : Launch) (D : va_G) (U u : ks_S) (t : Int32) (ck cw : Nat → Int32) (F : List mm_c) (a b : Int32) (k c i : Nat) (J : ms_I u ck cw k c i) (ha : b_below a (k_kn u) = true) (hb : b_below b 10 = true) : mm_Wr l D yX3_follow (mm_cw yX3_follow cX3_follow 4 (some .int)) (mm_rm 0) [.ref 18, .int a, .int b] (ks_H U (ms_H u t ck cw F)) (some (.int (f_ka (k_kn u) (k_ta u) b 40 a))) (ks_H U (ms_H u t ck cw F)) := by
  refine mm_start (own := RX3) (by decide) rfl rfl (mm_nl rfl) (fun _ => rfl) (fun _ => rfl) (fun g ad hl hD hnL C K => ?_)
  subst hl
  subst hD
  have J0 := J
  obtain ⟨hI, wP, wA, wA0, hta, htu, hct, hko, hcl, hhv, hw4, htb, hn1, hn2⟩ := J
  obtain ⟨nb, hwb⟩ := wA b a hb ha
  obtain ⟨d0, hd0⟩ := w_40 hI hwb
  obtain ⟨m, rfl, -⟩ := w_nx hwb ha
  obtain ⟨d, hd9⟩ : ∃ d, 40 = m + d := ⟨d0 + 1, by omega⟩
  have loop : ∀ (n : Nat) (x : Int32), w_st (k_kn u) (nxA u b) (n + 1) x → f_ka (k_kn u) (k_ta u) b (n + d) x = f_ka (k_kn u) (k_ta u) b 40 a → mm_M g ad 0 0 (ks_H U (ms_H u t ck cw F)) 2 [(3, .int x), (0, .ref 18), (1, .int a), (2, .int b)] [] := by
    intro n
    induction n with
    | zero =>
      intro x hw hr
      refine mm_aload_n C dX3_follow_2 rfl 1 rfl ?_
      refine mm_get C 18 10 (fun w h => mm_wc (inX3 w h)) rfl rfl (by decide) (mm_wc tw477) rfl rfl dX3_follow_3 ?_
      refine mm_bipush (v := 10) C dX3_follow_6 (by decide) ?_
      refine mm_iload_n C dX3_follow_8 rfl 0 rfl ?_
      refine mm_imulc C dX3_follow_9 ?_
      refine mm_iload_n C dX3_follow_10 rfl 3 rfl ?_
      refine mm_iadd C dX3_follow_11 ?_
      refine mm_iald C 26 rfl (ix_m (c := 10) hI.k40 hw.1 (bt hb rfl) (by decide) (by decide) (by decide)) dX3_follow_12 ?_
      refine mm_if_lt (tgt := 31) C dX3_follow_13 (by decide) (fun c13 => ?_) (fun z => False.elim ((fun z => z (lt0_of hw.2)) z))
      refine mm_iload_n C dX3_follow_31 rfl 0 rfl ?_
      exact mm_iret C K rfl dX3_follow_32 ⟨by rw [← hr, ka_en (show k_ta u (x * 10 + b).toNatClampNeg = -1 from hw.2)], rfl⟩ rfl (mm_nl rfl) (mm_nl rfl)
    | succ n ih =>
      intro x hw hr
      rw [show n + 1 + d = (n + d) + 1 from by omega] at hr
      refine mm_aload_n C dX3_follow_2 rfl 1 rfl ?_
      refine mm_get C 18 10 (fun w h => mm_wc (inX3 w h)) rfl rfl (by decide) (mm_wc tw477) rfl rfl dX3_follow_3 ?_
      refine mm_bipush (v := 10) C dX3_follow_6 (by decide) ?_
      refine mm_iload_n C dX3_follow_8 rfl 0 rfl ?_
      refine mm_imulc C dX3_follow_9 ?_
      refine mm_iload_n C dX3_follow_10 rfl 3 rfl ?_
      refine mm_iadd C dX3_follow_11 ?_
      refine mm_iald C 26 rfl (ix_m (c := 10) hI.k40 hw.1 (bt hb rfl) (by decide) (by decide) (by decide)) dX3_follow_12 ?_
      refine mm_if_lt (tgt := 31) C dX3_follow_13 (by decide) (fun z => False.elim ((b_nlt hw.2.1) z)) (fun c13 => ?_)
      refine mm_aload_n C dX3_follow_16 rfl 1 rfl ?_
      refine mm_get C 18 10 (fun w h => mm_wc (inX3 w h)) rfl rfl (by decide) (mm_wc tw477) rfl rfl dX3_follow_17 ?_
      refine mm_bipush (v := 10) C dX3_follow_20 (by decide) ?_
      refine mm_iload_n C dX3_follow_22 rfl 0 rfl ?_
      refine mm_imulc C dX3_follow_23 ?_
      refine mm_iload_n C dX3_follow_24 rfl 3 rfl ?_
      refine mm_iadd C dX3_follow_25 ?_
      refine mm_iald C 26 rfl (ix_m (c := 10) hI.k40 hw.1 (bt hb rfl) (by decide) (by decide) (by decide)) dX3_follow_26 ?_
      refine mm_istore_n (lv' := [(3, .int ((k_ta u) ((x * 10) + b).toNatClampNeg)), (0, .ref 18), (1, .int a), (2, .int b)]) C dX3_follow_27 rfl hnL (by decide) rfl ?_
      refine mm_goto (tgt := 2) C dX3_follow_28 (by decide) ?_
      exact ih _ hw.2 (by rw [← hr]; exact (ka_st hw.2.1).symm)
  show mm_M g ad 0 0 (ks_H U (ms_H u t ck cw F)) 0 [(0, .ref 18), (1, .int a), (2, .int b)] []
  refine mm_iload_n C dX3_follow_0 rfl 1 rfl ?_
  refine mm_istore_n (lv' := [(3, .int a), (0, .ref 18), (1, .int a), (2, .int b)]) C dX3_follow_1 rfl hnL (by decide) rfl ?_
  exact loop m a hwb (by rw [← hd9])
