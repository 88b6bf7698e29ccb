theorem mm_not : ∀ w ∈ mm_nw, w.onTables = true := by decide +kernel
theorem ss_X2_X2_isBelow_75 : mm_SS RX2 75 yX2_isBelow cX2_isBelow 2 (some .boolean) 2 := ⟨tw126, tw127, tw1, tw128, ⟨by decide +kernel, by decide +kernel, by decide +kernel⟩⟩
theorem sv_X2_X2_isKind_65 : mm_SV RX2 65 RX2 yX2_isKind cX2_isKind 2 (some .boolean) 1 := ⟨tw122, tw124, (mm_wp 1 rfl rfl), tw1, tw125, rfl, ⟨by decide +kernel, by decide +kernel, by decide +kernel⟩⟩
set_option maxHeartbeats 4000000 in
set_option maxRecDepth 100000 in
theorem kX2_isBelow (l : Launch) (D : va_G) (hp : List mm_c) (a b : Int32)  : mm_Wr l D yX2_isBelow (mm_cw yX2_isBelow cX2_isBelow 2 (some .boolean)) (mm_rm 0) [.int a, .int b] hp (some (.int (i_b (b_below a b)))) hp := by
  refine mm_start (own := RX2) (by decide) rfl rfl (mm_nl rfl) (fun _ => rfl) (fun _ => rfl) (fun g ad hl hD hnL C K => ?_)
  subst hl
  subst hD
  show mm_M g ad 0 0 hp 0 [(0, .int a), (1, .int b)] []
  refine mm_iload_n C dX2_isBelow_0 rfl 0 rfl ?_
  refine mm_if_lt (tgt := 13) C dX2_isBelow_1 (by decide) (fun c1 => ?_) (fun c1 => ?_)
  · skip
    refine mm_iconst (v := 0) C dX2_isBelow_13 (by decide) ?_
    exact mm_iret C K (by decide) dX2_isBelow_14 ⟨by simp [b_below, i_b, c1], rfl⟩ rfl (mm_nl rfl) (mm_nl rfl)
  · skip
    refine mm_iload_n C dX2_isBelow_4 rfl 0 rfl ?_
    refine mm_iload_n C dX2_isBelow_5 rfl 1 rfl ?_
    refine mm_icmp_ge (tgt := 13) C dX2_isBelow_6 (by decide) (fun c6 => ?_) (fun c6 => ?_)
    · skip
      refine mm_iconst (v := 0) C dX2_isBelow_13 (by decide) ?_
      exact mm_iret C K (by decide) dX2_isBelow_14 ⟨by simp [b_below, i_b, c1, c6], rfl⟩ rfl (mm_nl rfl) (mm_nl rfl)
    · skip
      refine mm_iconst (v := 1) C dX2_isBelow_9 (by decide) ?_
      refine mm_goto (tgt := 14) C dX2_isBelow_10 (by decide) ?_
      exact mm_iret C K (by decide) dX2_isBelow_14 ⟨by simp [b_below, i_b, c1, c6], rfl⟩ rfl (mm_nl rfl) (mm_nl rfl)
set_option maxHeartbeats 4000000 in
set_option maxRecDepth 100000 in
theorem kX2_isDay (l : Launch) (D : va_G) (hp : List mm_c) (a : Int32)  : mm_Wr l D yX2_isDay (mm_cw yX2_isDay cX2_isDay 1 (some .boolean)) (mm_rm 0) [.int a] hp (some (.int (i_b (b_day a)))) hp := by
  refine mm_start (own := RX2) (by decide) rfl rfl (mm_nl rfl) (fun _ => rfl) (fun _ => rfl) (fun g ad hl hD hnL C K => ?_)
  subst hl
  subst hD
  show mm_M g ad 0 0 hp 0 [(0, .int a)] []
  refine mm_iload_n C dX2_isDay_0 rfl 0 rfl ?_
  refine mm_if_lt (tgt := 15) C dX2_isDay_1 (by decide) (fun c1 => ?_) (fun c1 => ?_)
  · skip
    refine mm_iconst (v := 0) C dX2_isDay_15 (by decide) ?_
    exact mm_iret C K (by decide) dX2_isDay_16 ⟨by simp [b_day, i_b, c1], rfl⟩ rfl (mm_nl rfl) (mm_nl rfl)
  · skip
    refine mm_iload_n C dX2_isDay_4 rfl 0 rfl ?_
    refine mm_sipush (v := 9999) C dX2_isDay_5 (by decide) ?_
    refine mm_icmp_gt (tgt := 15) C dX2_isDay_8 (by decide) (fun c8 => ?_) (fun c8 => ?_)
    · skip
      refine mm_iconst (v := 0) C dX2_isDay_15 (by decide) ?_
      exact mm_iret C K (by decide) dX2_isDay_16 ⟨by simp [b_day, i_b, c1, c8], rfl⟩ rfl (mm_nl rfl) (mm_nl rfl)
    · skip
      refine mm_iconst (v := 1) C dX2_isDay_11 (by decide) ?_
      refine mm_goto (tgt := 16) C dX2_isDay_12 (by decide) ?_
      exact mm_iret C K (by decide) dX2_isDay_16 ⟨by simp [b_day, i_b, c1, c8], rfl⟩ rfl (mm_nl rfl) (mm_nl rfl)
set_option maxHeartbeats 4000000 in
set_option maxRecDepth 100000 in
theorem kX2_isNeed (l : Launch) (D : va_G) (hp : List mm_c) (a : Int32)  : mm_Wr l D yX2_isNeed (mm_cw yX2_isNeed cX2_isNeed 1 (some .boolean)) (mm_rm 0) [.int a] hp (some (.int (i_b (b_need a)))) hp := by
  refine mm_start (own := RX2) (by decide) rfl rfl (mm_nl rfl) (fun _ => rfl) (fun _ => rfl) (fun g ad hl hD hnL C K => ?_)
  subst hl
  subst hD
  show mm_M g ad 0 0 hp 0 [(0, .int a)] []
  refine mm_iload_n C dX2_isNeed_0 rfl 0 rfl ?_
  refine mm_bipush (v := 10) C dX2_isNeed_1 (by decide) ?_
  refine mm_icmp_lt (tgt := 16) C dX2_isNeed_3 (by decide) (fun c3 => ?_) (fun c3 => ?_)
  · skip
    refine mm_iconst (v := 0) C dX2_isNeed_16 (by decide) ?_
    exact mm_iret C K (by decide) dX2_isNeed_17 ⟨by simp [b_need, i_b, c3], rfl⟩ rfl (mm_nl rfl) (mm_nl rfl)
  · skip
    refine mm_iload_n C dX2_isNeed_6 rfl 0 rfl ?_
    refine mm_bipush (v := 26) C dX2_isNeed_7 (by decide) ?_
    refine mm_icmp_ge (tgt := 16) C dX2_isNeed_9 (by decide) (fun c9 => ?_) (fun c9 => ?_)
    · skip
      refine mm_iconst (v := 0) C dX2_isNeed_16 (by decide) ?_
      exact mm_iret C K (by decide) dX2_isNeed_17 ⟨by simp [b_need, i_b, c3, c9], rfl⟩ rfl (mm_nl rfl) (mm_nl rfl)
    · skip
      refine mm_iconst (v := 1) C dX2_isNeed_12 (by decide) ?_
      refine mm_goto (tgt := 17) C dX2_isNeed_13 (by decide) ?_
      exact mm_iret C K (by decide) dX2_isNeed_17 ⟨by simp [b_need, i_b, c3, c9], rfl⟩ rfl (mm_nl rfl) (mm_nl rfl)
set_option maxHeartbeats 4000000 in
set_option maxRecDepth 100000 in
theorem kX2_isKind (l : Launch) (D : va_G) (u : ks_S) (F : List mm_c) (a : Int32)  : mm_Wr l D yX2_isKind (mm_cw yX2_isKind cX2_isKind 2 (some .boolean)) (mm_rm 1) [.ref 0, .int a] (ks_H u F) (some (.int (i_b (b_below a (k_kn u))))) (ks_H u F) := by
  refine mm_start (own := RX2) (by decide) rfl rfl (mm_nl rfl) (fun _ => rfl) (fun _ => rfl) (fun g ad hl hD hnL C K => ?_)
  subst hl
  subst hD
  show mm_M g ad 0 0 (ks_H u F) 0 [(0, .ref 0), (1, .int a)] []
  refine mm_iload_n C dX2_isKind_0 rfl 1 rfl ?_
  refine mm_aload_n C dX2_isKind_1 rfl 0 rfl ?_
  refine mm_get C 0 0 (fun w h => mm_wc (inX2 w h)) rfl rfl (by decide) (mm_wc tw72) rfl rfl dX2_isKind_2 ?_
  refine mm_riS C ss_X2_X2_isBelow_75 (kX2_isBelow _ _ _ a (k_kn u)) ⟨rfl, rfl⟩ ⟨mm_nl rfl, mm_nl rfl⟩ rfl rfl (mm_nl rfl) ⟨mm_nl rfl, mm_nl rfl⟩ dX2_isKind_5 ?_
  exact mm_iret C K (nar_b _) dX2_isKind_8 ⟨rfl, rfl⟩ rfl (mm_nl rfl) (mm_nl rfl)
set_option maxHeartbeats 4000000 in
set_option maxRecDepth 100000 in
theorem kX2_isIncident (l : Launch) (D : va_G) (u : ks_S) (F : List mm_c) (a : Int32)  : mm_Wr l D yX2_isIncident (mm_cw yX2_isIncident cX2_isIncident 2 (some .boolean)) (mm_rm 1) [.ref 0, .int a] (ks_H u F) (some (.int (i_b (b_below a (k_inn u))))) (ks_H u F) := by
  refine mm_start (own := RX2) (by decide) rfl rfl (mm_nl rfl) (fun _ => rfl) (fun _ => rfl) (fun g ad hl hD hnL C K => ?_)
  subst hl
  subst hD
  show mm_M g ad 0 0 (ks_H u F) 0 [(0, .ref 0), (1, .int a)] []
  refine mm_iload_n C dX2_isIncident_0 rfl 1 rfl ?_
  refine mm_aload_n C dX2_isIncident_1 rfl 0 rfl ?_
  refine mm_get C 0 6 (fun w h => mm_wc (inX2 w h)) rfl rfl (by decide) (mm_wc tw78) rfl rfl dX2_isIncident_2 ?_
  refine mm_riS C ss_X2_X2_isBelow_75 (kX2_isBelow _ _ _ a (k_inn u)) ⟨rfl, rfl⟩ ⟨mm_nl rfl, mm_nl rfl⟩ rfl rfl (mm_nl rfl) ⟨mm_nl rfl, mm_nl rfl⟩ dX2_isIncident_5 ?_
  exact mm_iret C K (nar_b _) dX2_isIncident_8 ⟨rfl, rfl⟩ rfl (mm_nl rfl) (mm_nl rfl)
set_option maxHeartbeats 4000000 in
set_option maxRecDepth 100000 in
theorem kX2_isKindOrNone (l : Launch) (D : va_G) (u : ks_S) (F : List mm_c) (a : Int32)  : mm_Wr l D yX2_isKindOrNone (mm_cw yX2_isKindOrNone cX2_isKindOrNone 2 (some .boolean)) (mm_rm 2) [.ref 0, .int a] (ks_H u F) (some (.int (i_b (b_kindN (k_kn u) a)))) (ks_H u F) := by
  refine mm_start (own := RX2) (by decide) rfl rfl (mm_nl rfl) (fun _ => rfl) (fun _ => rfl) (fun g ad hl hD hnL C K => ?_)
  subst hl
  subst hD
  show mm_M g ad 0 0 (ks_H u F) 0 [(0, .ref 0), (1, .int a)] []
  refine mm_iload_n C dX2_isKindOrNone_0 rfl 1 rfl ?_
  refine mm_iconst (v := (-1)) C dX2_isKindOrNone_1 (by decide) ?_
  refine mm_icmp_eq (tgt := 13) C dX2_isKindOrNone_2 (by decide) (fun c2 => ?_) (fun c2 => ?_)
  · skip
    refine mm_iconst (v := 1) C dX2_isKindOrNone_13 (by decide) ?_
    refine mm_goto (tgt := 18) C dX2_isKindOrNone_14 (by decide) ?_
    exact mm_iret C K (by decide) dX2_isKindOrNone_18 ⟨by simp [b_kindN, i_b, c2], rfl⟩ rfl (mm_nl rfl) (mm_nl rfl)
  · skip
    refine mm_aload_n C dX2_isKindOrNone_5 rfl 0 rfl ?_
    refine mm_iload_n C dX2_isKindOrNone_6 rfl 1 rfl ?_
    refine mm_riV C 0 sv_X2_X2_isKind_65 rfl rfl (kX2_isKind _ _ u F a) ⟨rfl, rfl⟩ ⟨mm_nl rfl, mm_nl rfl⟩ rfl rfl (mm_nl rfl) ⟨mm_nl rfl, mm_nl rfl⟩ dX2_isKindOrNone_7 ?_
    refine mm_ifb_eq (tgt := 17) C dX2_isKindOrNone_10 (by decide) (fun c10 => ?_) (fun c10 => ?_)
    · skip
      refine mm_iconst (v := 0) C dX2_isKindOrNone_17 (by decide) ?_
      exact mm_iret C K (by decide) dX2_isKindOrNone_18 ⟨by simp [b_kindN, i_b, c2, c10], rfl⟩ rfl (mm_nl rfl) (mm_nl rfl)
    · skip
      refine mm_iconst (v := 1) C dX2_isKindOrNone_13 (by decide) ?_
      refine mm_goto (tgt := 18) C dX2_isKindOrNone_14 (by decide) ?_
      exact mm_iret C K (by decide) dX2_isKindOrNone_18 ⟨by simp [b_kindN, i_b, c2, c10], rfl⟩ rfl (mm_nl rfl) (mm_nl rfl)
theorem at_checkKnown : ∀ w ∈ vx_atS RX2 157 "java/lang/IllegalArgumentException" ["java/lang/RuntimeException", "java/lang/Exception"], w ∈ mm_all ∨ w ∈ mm_nw := by
  have h : ∀ w ∈ vx_atS RX2 157 "java/lang/IllegalArgumentException" ["java/lang/RuntimeException", "java/lang/Exception"], (w ∈ tables_1 ∧ goodWord w = true) ∨ w ∈ mm_nw := by decide +kernel
  exact fun w hw => (h w hw).imp (fun h9 => List.mem_filter.mpr ⟨List.mem_append_right _ h9.1, h9.2⟩) id
set_option maxHeartbeats 4000000 in
set_option maxRecDepth 100000 in
theorem kX2_checkKnown (l : Launch) (D : va_G) (hp : List mm_c) (B : Bool) : mm_Ck l D yX2_checkKnown (mm_cw yX2_checkKnown cX2_checkKnown 1 none) mm_rt B hp "java/lang/IllegalArgumentException" := by
  refine mm_start (own := RX2) (by decide) rfl rfl (mm_nl rfl) (fun _ => rfl) (fun _ => rfl) (fun g ad hl hD hnL C K => ?_)
  subst hl
  subst hD
  show mm_M g ad 0 0 hp 0 [(0, .int (i_b B))] []
  refine mm_iload_n C dX2_checkKnown_0 rfl 0 rfl ?_
  refine mm_ifb_ne (tgt := 14) C dX2_checkKnown_1 (by decide) (fun c1 => ?_) (fun c1 => ?_)
  · exact mm_vret C K dX2_checkKnown_14 ⟨c1, rfl, rfl⟩ rfl (mm_nl rfl) (mm_nl rfl)
  · exact mm_throw C K (cls := "java/lang/IllegalArgumentException") (text := "an unknown number") (names := ["java/lang/RuntimeException", "java/lang/Exception"]) (by decide +kernel) (by decide +kernel) tw132 tw9 (List.mem_of_getElem? (i := 0) rfl) at_checkKnown mm_not dX2_checkKnown_4 dX2_checkKnown_7 dX2_checkKnown_8 dX2_checkKnown_10 dX2_checkKnown_13 (mm_nl rfl) (mm_nl rfl) (mm_nl rfl) (mm_nl rfl) ⟨c1, rfl⟩ (mm_nl rfl) (mm_nl rfl)
theorem at_checkRange : ∀ w ∈ vx_atS RX2 164 "java/lang/IndexOutOfBoundsException" ["java/lang/RuntimeException", "java/lang/Exception"], w ∈ mm_all ∨ w ∈ mm_nw := by
  have h : ∀ w ∈ vx_atS RX2 164 "java/lang/IndexOutOfBoundsException" ["java/lang/RuntimeException", "java/lang/Exception"], (w ∈ tables_1 ∧ goodWord w = true) ∨ w ∈ mm_nw := by decide +kernel
  exact fun w hw => (h w hw).imp (fun h9 => List.mem_filter.mpr ⟨List.mem_append_right _ h9.1, h9.2⟩) id
set_option maxHeartbeats 4000000 in
set_option maxRecDepth 100000 in
theorem kX2_checkRange (l : Launch) (D : va_G) (hp : List mm_c) (B : Bool) : mm_Ck l D yX2_checkRange (mm_cw yX2_checkRange cX2_checkRange 1 none) mm_rt B hp "java/lang/IndexOutOfBoundsException" := by
  refine mm_start (own := RX2) (by decide) rfl rfl (mm_nl rfl) (fun _ => rfl) (fun _ => rfl) (fun g ad hl hD hnL C K => ?_)
  subst hl
  subst hD
  show mm_M g ad 0 0 hp 0 [(0, .int (i_b B))] []
  refine mm_iload_n C dX2_checkRange_0 rfl 0 rfl ?_
  refine mm_ifb_ne (tgt := 14) C dX2_checkRange_1 (by decide) (fun c1 => ?_) (fun c1 => ?_)
  · exact mm_vret C K dX2_checkRange_14 ⟨c1, rfl, rfl⟩ rfl (mm_nl rfl) (mm_nl rfl)
  · exact mm_throw C K (cls := "java/lang/IndexOutOfBoundsException") (text := "a number outside its range") (names := ["java/lang/RuntimeException", "java/lang/Exception"]) (by decide +kernel) (by decide +kernel) tw267 tw12 (List.mem_of_getElem? (i := 1) rfl) at_checkRange mm_not dX2_checkRange_4 dX2_checkRange_7 dX2_checkRange_8 dX2_checkRange_10 dX2_checkRange_13 (mm_nl rfl) (mm_nl rfl) (mm_nl rfl) (mm_nl rfl) ⟨c1, rfl⟩ (mm_nl rfl) (mm_nl rfl)
theorem at_checkState : ∀ w ∈ vx_atS RX2 169 "java/lang/IllegalStateException" ["java/lang/RuntimeException", "java/lang/Exception"], w ∈ mm_all ∨ w ∈ mm_nw := by
  have h : ∀ w ∈ vx_atS RX2 169 "java/lang/IllegalStateException" ["java/lang/RuntimeException", "java/lang/Exception"], (w ∈ tables_1 ∧ goodWord w = true) ∨ w ∈ mm_nw := by decide +kernel
  exact fun w hw => (h w hw).imp (fun h9 => List.mem_filter.mpr ⟨List.mem_append_right _ h9.1, h9.2⟩) id
set_option maxHeartbeats 4000000 in
set_option maxRecDepth 100000 in
theorem kX2_checkState (l : Launch) (D : va_G) (hp : List mm_c) (B : Bool) : mm_Ck l D yX2_checkState (mm_cw yX2_checkState cX2_checkState 1 none) mm_rt B hp "java/lang/IllegalStateException" := by
  refine mm_start (own := RX2) (by decide) rfl rfl (mm_nl rfl) (fun _ => rfl) (fun _ => rfl) (fun g ad hl hD hnL C K => ?_)
  subst hl
  subst hD
  show mm_M g ad 0 0 hp 0 [(0, .int (i_b B))] []
  refine mm_iload_n C dX2_checkState_0 rfl 0 rfl ?_
  refine mm_ifb_ne (tgt := 14) C dX2_checkState_1 (by decide) (fun c1 => ?_) (fun c1 => ?_)
  · exact mm_vret C K dX2_checkState_14 ⟨c1, rfl, rfl⟩ rfl (mm_nl rfl) (mm_nl rfl)
  · exact mm_throw C K (cls := "java/lang/IllegalStateException") (text := "not in this state") (names := ["java/lang/RuntimeException", "java/lang/Exception"]) (by decide +kernel) (by decide +kernel) tw235 tw11 (List.mem_of_getElem? (i := 2) rfl) at_checkState mm_not dX2_checkState_4 dX2_checkState_7 dX2_checkState_8 dX2_checkState_10 dX2_checkState_13 (mm_nl rfl) (mm_nl rfl) (mm_nl rfl) (mm_nl rfl) ⟨c1, rfl⟩ (mm_nl rfl) (mm_nl rfl)
theorem at_checkRoom : ∀ w ∈ vx_atS RX2 174 "java/lang/UnsupportedOperationException" ["java/lang/RuntimeException", "java/lang/Exception"], w ∈ mm_all ∨ w ∈ mm_nw := by
  have h : ∀ w ∈ vx_atS RX2 174 "java/lang/UnsupportedOperationException" ["java/lang/RuntimeException", "java/lang/Exception"], (w ∈ tables_1 ∧ goodWord w = true) ∨ w ∈ mm_nw := by decide +kernel
  exact fun w hw => (h w hw).imp (fun h9 => List.mem_filter.mpr ⟨List.mem_append_right _ h9.1, h9.2⟩) id
set_option maxHeartbeats 4000000 in
set_option maxRecDepth 100000 in
theorem kX2_checkRoom (l : Launch) (D : va_G) (hp : List mm_c) (B : Bool) : mm_Ck l D yX2_checkRoom (mm_cw yX2_checkRoom cX2_checkRoom 1 none) mm_rt B hp "java/lang/UnsupportedOperationException" := by
  refine mm_start (own := RX2) (by decide) rfl rfl (mm_nl rfl) (fun _ => rfl) (fun _ => rfl) (fun g ad hl hD hnL C K => ?_)
  subst hl
  subst hD
  show mm_M g ad 0 0 hp 0 [(0, .int (i_b B))] []
  refine mm_iload_n C dX2_checkRoom_0 rfl 0 rfl ?_
  refine mm_ifb_ne (tgt := 14) C dX2_checkRoom_1 (by decide) (fun c1 => ?_) (fun c1 => ?_)
  · exact mm_vret C K dX2_checkRoom_14 ⟨c1, rfl, rfl⟩ rfl (mm_nl rfl) (mm_nl rfl)
  · exact mm_throw C K (cls := "java/lang/UnsupportedOperationException") (text := "no room") (names := ["java/lang/RuntimeException", "java/lang/Exception"]) (by decide +kernel) (by decide +kernel) tw204 tw10 (List.mem_of_getElem? (i := 3) rfl) at_checkRoom mm_not dX2_checkRoom_4 dX2_checkRoom_7 dX2_checkRoom_8 dX2_checkRoom_10 dX2_checkRoom_13 (mm_nl rfl) (mm_nl rfl) (mm_nl rfl) (mm_nl rfl) ⟨c1, rfl⟩ (mm_nl rfl) (mm_nl rfl)
