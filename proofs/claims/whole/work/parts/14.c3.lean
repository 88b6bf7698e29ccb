theorem sn_X2_X0_hasRoom_87 : mm_SN RX2 87 RX0 yX0_hasRoom cX0_hasRoom 1 (some .boolean) 0 := ⟨(List.mem_of_getElem? (i := 16) rfl), tw285, (mm_wp 4 rfl rfl), tw2, tw286, ⟨by decide +kernel, by decide +kernel, by decide +kernel⟩⟩
theorem sn_X2_X0_tell_91 : mm_SN RX2 91 RX0 yX0_tell cX0_tell 7 none 5 := ⟨(List.mem_of_getElem? (i := 17) rfl), tw289, (mm_wp 5 rfl rfl), tw2, tw290, ⟨by decide +kernel, by decide +kernel, by decide +kernel⟩⟩
theorem sn_X2_X1_put_99 : mm_SN RX2 99 RX1 yX1_put cX1_put 5 none 3 := ⟨(List.mem_of_getElem? (i := 19) rfl), tw322, (mm_wp 8 rfl rfl), tw4, tw323, ⟨by decide +kernel, by decide +kernel, by decide +kernel⟩⟩
theorem ss_X2_X2_checkKnown_54 : mm_SS RX2 54 yX2_checkKnown cX2_checkKnown 1 none 1 := ⟨tw129, tw130, tw1, tw131, ⟨by decide +kernel, by decide +kernel, by decide +kernel⟩⟩
theorem ss_X2_X2_checkRange_84 : mm_SS RX2 84 yX2_checkRange cX2_checkRange 1 none 1 := ⟨tw264, tw265, tw1, tw266, ⟨by decide +kernel, by decide +kernel, by decide +kernel⟩⟩
theorem ss_X2_X2_checkRoom_62 : mm_SS RX2 62 yX2_checkRoom cX2_checkRoom 1 none 1 := ⟨tw201, tw202, tw1, tw203, ⟨by decide +kernel, by decide +kernel, by decide +kernel⟩⟩
theorem ss_X2_X2_checkState_72 : mm_SS RX2 72 yX2_checkState cX2_checkState 1 none 1 := ⟨tw232, tw233, tw1, tw234, ⟨by decide +kernel, by decide +kernel, by decide +kernel⟩⟩
theorem ss_X2_X2_isDay_78 : mm_SS RX2 78 yX2_isDay cX2_isDay 1 (some .boolean) 1 := ⟨tw259, tw260, tw1, tw261, ⟨by decide +kernel, by decide +kernel, by decide +kernel⟩⟩
theorem ss_X2_X2_isNeed_110 : mm_SS RX2 110 yX2_isNeed cX2_isNeed 1 (some .boolean) 1 := ⟨tw338, tw339, tw1, tw340, ⟨by decide +kernel, by decide +kernel, by decide +kernel⟩⟩
theorem sv_X2_X2_depth_116 : mm_SV RX2 116 RX2 yX2_depth cX2_depth 5 (some .int) 1 := ⟨tw345, tw347, (mm_wp 10 rfl rfl), tw1, tw348, rfl, ⟨by decide +kernel, by decide +kernel, by decide +kernel⟩⟩
theorem sv_X2_X2_inherited_178 : mm_SV RX2 178 RX2 yX2_inherited cX2_inherited 9 (some .int) 4 := ⟨tw355, tw357, (mm_wp 12 rfl rfl), tw1, tw358, rfl, ⟨by decide +kernel, by decide +kernel, by decide +kernel⟩⟩
theorem sv_X2_X2_isClosed_113 : mm_SV RX2 113 RX2 yX2_isClosed cX2_isClosed 5 (some .boolean) 2 := ⟨tw341, tw343, (mm_wp 9 rfl rfl), tw1, tw344, rfl, ⟨by decide +kernel, by decide +kernel, by decide +kernel⟩⟩
theorem sv_X2_X2_isIncident_133 : mm_SV RX2 133 RX2 yX2_isIncident cX2_isIncident 2 (some .boolean) 1 := ⟨tw395, tw397, (mm_wp 16 rfl rfl), tw1, tw398, rfl, ⟨by decide +kernel, by decide +kernel, by decide +kernel⟩⟩
theorem sv_X2_X2_isKindOrNone_50 : mm_SV RX2 50 RX2 yX2_isKindOrNone cX2_isKindOrNone 2 (some .boolean) 1 := ⟨tw118, tw120, (mm_wp 0 rfl rfl), tw1, tw121, rfl, ⟨by decide +kernel, by decide +kernel, by decide +kernel⟩⟩
theorem sv_X2_X2_isSameOrAbove_68 : mm_SV RX2 68 RX2 yX2_isSameOrAbove cX2_isSameOrAbove 5 (some .boolean) 2 := ⟨tw228, tw230, (mm_wp 3 rfl rfl), tw1, tw231, rfl, ⟨by decide +kernel, by decide +kernel, by decide +kernel⟩⟩
theorem sv_X2_X2_kindInArea_127 : mm_SV RX2 127 RX2 yX2_kindInArea cX2_kindInArea 6 (some .int) 2 := ⟨tw377, tw379, (mm_wp 15 rfl rfl), tw1, tw380, rfl, ⟨by decide +kernel, by decide +kernel, by decide +kernel⟩⟩
theorem sv_X2_X2_leadsTo_95 : mm_SV RX2 95 RX2 yX2_leadsTo cX2_leadsTo 6 (some .boolean) 3 := ⟨tw312, tw314, (mm_wp 6 rfl rfl), tw1, tw315, rfl, ⟨by decide +kernel, by decide +kernel, by decide +kernel⟩⟩
theorem sv_X2_X2_needOf_124 : mm_SV RX2 124 RX2 yX2_needOf cX2_needOf 4 (some .int) 3 := ⟨tw366, tw368, (mm_wp 14 rfl rfl), tw1, tw369, rfl, ⟨by decide +kernel, by decide +kernel, by decide +kernel⟩⟩
theorem sv_X2_X2_needsOneOf_149 : mm_SV RX2 149 RX2 yX2_needsOneOf cX2_needsOneOf 5 (some .boolean) 3 := ⟨tw443, tw445, (mm_wp 19 rfl rfl), tw1, tw446, rfl, ⟨by decide +kernel, by decide +kernel, by decide +kernel⟩⟩
theorem sv_X2_X2_skillsOfAllUnits_145 : mm_SV RX2 145 RX2 yX2_skillsOfAllUnits cX2_skillsOfAllUnits 3 (some .int) 0 := ⟨tw439, tw441, (mm_wp 18 rfl rfl), tw1, tw442, rfl, ⟨by decide +kernel, by decide +kernel, by decide +kernel⟩⟩
theorem sv_X2_X2_upgradeOf_136 : mm_SV RX2 136 RX2 yX2_upgradeOf cX2_upgradeOf 6 (some .int) 2 := ⟨tw399, tw401, (mm_wp 17 rfl rfl), tw1, tw402, rfl, ⟨by decide +kernel, by decide +kernel, by decide +kernel⟩⟩
theorem sv_X2_X2_wordOf_120 : mm_SV RX2 120 RX2 yX2_wordOf cX2_wordOf 4 (some .int) 3 := ⟨tw349, tw351, (mm_wp 11 rfl rfl), tw1, tw352, rfl, ⟨by decide +kernel, by decide +kernel, by decide +kernel⟩⟩
theorem kn_in {u : ks_S} {k c i : Nat} (hI : ks_I u k c i) (h : ¬ (40 : Int32) ≤ k_kn u) : vp_in (k_kn u) 40 := by
  rw [hI.1] at h ⊢
  refine vp_in_nI ?_ (by decide)
  have hk := hI.2.1
  rcases Nat.lt_or_ge k 40 with h1 | h1
  · exact h1
  · exact absurd (nI_le (a := 40) h1 (by omega)) h
theorem inn_in {u : ks_S} {k c i : Nat} (hI : ks_I u k c i) (h : ¬ (60 : Int32) ≤ k_inn u) : vp_in (k_inn u) 60 := by
  rw [hI.2.2.2.2.1] at h ⊢
  refine vp_in_nI ?_ (by decide)
  have hk := hI.2.2.2.2.2.1
  rcases Nat.lt_or_ge i 60 with h1 | h1
  · exact h1
  · exact absurd (nI_le (a := 60) h1 (by omega)) h
theorem cs_lt {u : ks_S} {k c i : Nat} (hI : ks_I u k c i) (h : b_room (k_cs u) = true) : c < 200 := by
  rw [hI.2.2.1] at h
  have hk := hI.2.2.2.1
  rcases Nat.lt_or_ge c 200 with h1 | h1
  · exact h1
  · have : (200 : Int32) ≤ nI c := nI_le (a := 200) h1 (by omega)
    simp [b_room, this] at h
theorem bneed {b : Int32} (h : b_need b = true) : 10 ≤ b.toInt ∧ b.toInt < 26 := by
  simp only [b_need, Bool.and_eq_true, Bool.not_eq_true', decide_eq_false_iff_not, Int32.lt_iff_toInt_lt, Int32.le_iff_toInt_le] at h
  have h1 : (10 : Int32).toInt = 10 := by decide
  have h2 : (26 : Int32).toInt = 26 := by decide
  omega
def hz_P (b : Int32) : Prop := (0 ≤ b.toInt ∧ b.toInt < ((6 : Nat) : Int)) ∨ (10 ≤ b.toInt ∧ b.toInt < 26)
theorem hz_w {b : Int32} (h : hz_P b) (h4 : ¬ (4 : Int32) ≤ b) : 0 ≤ b.toInt ∧ b.toInt < ((4 : Nat) : Int) := by
  rw [Int32.le_iff_toInt_le] at h4
  have h1 : (4 : Int32).toInt = 4 := by decide
  rcases h with h | h <;> omega
theorem hz_n {b : Int32} (h : hz_P b) (h4 : (4 : Int32) ≤ b) (n4 : ¬ b = 4) (n5 : ¬ b = 5) : 0 ≤ (b - 10).toInt ∧ (b - 10).toInt < ((16 : Nat) : Int) := by
  rw [Int32.le_iff_toInt_le] at h4
  have h1 : (4 : Int32).toInt = 4 := by decide
  have q4 := lv_neT n4 (a := 4) (by decide)
  have q5 := lv_neT n5 (a := 5) (by decide)
  have hb : 10 ≤ b.toInt ∧ b.toInt < 26 := by rcases h with h | h <;> omega
  obtain ⟨n, hn⟩ : ∃ n : Nat, b.toInt = (n : Int) := ⟨b.toInt.toNat, by omega⟩
  have e : b = nI n := Int32.toInt_inj.mp (by rw [hn, nI_toInt (by omega)])
  have e4 : (10 : Int32) = nI 10 := rfl
  rw [e, e4, pk_sub (by omega), nI_toInt (by omega)]
  omega
theorem ks_I.i60 {u : ks_S} {k c i : Nat} (h : ks_I u k c i) : (k_inn u).toInt ≤ ((60 : Nat) : Int) := by
  rw [h.2.2.2.2.1, nI_toInt (by have := h.2.2.2.2.2.1; omega)]; have := h.2.2.2.2.2.1; omega
set_option maxHeartbeats 4000000 in
set_option maxRecDepth 100000 in
theorem kX2_wordOf (l : Launch) (D : va_G) (u : ks_S) (F : List mm_c) (a b e : Int32) (k c i : Nat) (hI : ks_I u k c i) (hb : 0 ≤ b.toInt ∧ b.toInt < ((4 : Nat) : Int)) : mm_Wr l D yX2_wordOf (mm_cw yX2_wordOf cX2_wordOf 4 (some .int)) (mm_rm 4) [.ref 0, .int a, .int b, .int e] (ks_H u F) (some (.int (f_wo u c a b e))) (ks_H u F) := by
  refine mm_start (own := RX2) (by decide) rfl rfl (mm_nl rfl) (fun _ => rfl) (fun _ => rfl) (fun g ad hl hD hnL C K => ?_)
  subst hl
  subst hD
  show mm_M g ad 0 0 (ks_H u F) 0 [(0, .ref 0), (1, .int a), (2, .int b), (3, .int e)] []
  refine mm_aload_n C dX2_wordOf_0 rfl 0 rfl ?_
  refine mm_iload_n C dX2_wordOf_1 rfl 1 rfl ?_
  refine mm_iload_n C dX2_wordOf_2 rfl 2 rfl ?_
  refine mm_iload_n C dX2_wordOf_3 rfl 3 rfl ?_
  refine mm_gets C 1 rfl (mm_wc tw353) dX2_wordOf_4 ?_
  refine mm_iload_n C dX2_wordOf_7 rfl 2 rfl ?_
  refine mm_tald (v := (f_df b)) C 1 rfl rfl (bt_in hb) rfl dX2_wordOf_8 ?_
  refine mm_riV C 0 sv_X2_X2_inherited_178 rfl rfl (kX2_inherited _ _ u F a b e (f_df b) k c i hI ⟨hb.1, by have := hb.2; omega⟩) ⟨rfl, rfl⟩ ⟨mm_nl rfl, mm_nl rfl⟩ rfl rfl (mm_nl rfl) ⟨mm_nl rfl, mm_nl rfl⟩ dX2_wordOf_9 ?_
  exact mm_iret C K rfl dX2_wordOf_12 ⟨rfl, rfl⟩ rfl (mm_nl rfl) (mm_nl rfl)
set_option maxHeartbeats 4000000 in
set_option maxRecDepth 100000 in
theorem kX2_needOf (l : Launch) (D : va_G) (u : ks_S) (F : List mm_c) (a b e : Int32) (k c i : Nat) (hI : ks_I u k c i) (hb : 0 ≤ b.toInt ∧ b.toInt < ((16 : Nat) : Int)) : mm_Wr l D yX2_needOf (mm_cw yX2_needOf cX2_needOf 4 (some .int)) (mm_rm 4) [.ref 0, .int a, .int b, .int e] (ks_H u F) (some (.int (f_nd u c a b e))) (ks_H u F) := by
  refine mm_start (own := RX2) (by decide) rfl rfl (mm_nl rfl) (fun _ => rfl) (fun _ => rfl) (fun g ad hl hD hnL C K => ?_)
  subst hl
  subst hD
  show mm_M g ad 0 0 (ks_H u F) 0 [(0, .ref 0), (1, .int a), (2, .int b), (3, .int e)] []
  refine mm_aload_n C dX2_needOf_0 rfl 0 rfl ?_
  refine mm_iload_n C dX2_needOf_1 rfl 1 rfl ?_
  refine mm_iconst (v := 4) C dX2_needOf_2 (by decide) ?_
  refine mm_iload_n C dX2_needOf_3 rfl 2 rfl ?_
  refine mm_iadd C dX2_needOf_4 ?_
  refine mm_iload_n C dX2_needOf_5 rfl 3 rfl ?_
  refine mm_iconst (v := 0) C dX2_needOf_6 (by decide) ?_
  refine mm_riV C 0 sv_X2_X2_inherited_178 rfl rfl (kX2_inherited _ _ u F a (4 + b) e 0 k c i hI (th4 hb)) ⟨rfl, rfl⟩ ⟨mm_nl rfl, mm_nl rfl⟩ rfl rfl (mm_nl rfl) ⟨mm_nl rfl, mm_nl rfl⟩ dX2_needOf_7 ?_
  exact mm_iret C K rfl dX2_needOf_10 ⟨rfl, rfl⟩ rfl (mm_nl rfl) (mm_nl rfl)
set_option maxHeartbeats 4000000 in
set_option maxRecDepth 100000 in
theorem kX2_needsOneOf (l : Launch) (D : va_G) (u : ks_S) (F : List mm_c) (a b e : Int32) (k c i : Nat) (hI : ks_I u k c i) : mm_Wr l D yX2_needsOneOf (mm_cw yX2_needsOneOf cX2_needsOneOf 5 (some .boolean)) (mm_rm 5) [.ref 0, .int a, .int b, .int e] (ks_H u F) (some (.int (i_b (f_no b (fun j => f_nd u c a (nI j) e) 16 0)))) (ks_H u F) := by
  refine mm_start (own := RX2) (by decide) rfl rfl (mm_nl rfl) (fun _ => rfl) (fun _ => rfl) (fun g ad hl hD hnL C K => ?_)
  subst hl
  subst hD
  have loop : ∀ (n : Nat) (j : Nat), j + n = 16 → f_no b (fun j => f_nd u c a (nI j) e) n j = f_no b (fun j => f_nd u c a (nI j) e) 16 0 → mm_M g ad 0 0 (ks_H u F) 3 [(4, .int (nI j)), (0, .ref 0), (1, .int a), (2, .int b), (3, .int e)] [] := by
    intro n
    induction n with
    | zero =>
      intro j hj hr
      refine mm_iload C dX2_needsOneOf_3 0 rfl ?_
      refine mm_bipush (v := 16) C dX2_needsOneOf_5 (by decide) ?_
      refine mm_icmp_ge (tgt := 39) C dX2_needsOneOf_7 (by decide) (fun c7 => ?_) (fun z => False.elim ((cn_t hj) z))
      refine mm_iconst (v := 0) C dX2_needsOneOf_39 (by decide) ?_
      exact mm_iret C K (by decide) dX2_needsOneOf_40 ⟨by rw [← hr]; simp [f_no, i_b], rfl⟩ rfl (mm_nl rfl) (mm_nl rfl)
    | succ n ih =>
      intro j hj hr
      refine mm_iload C dX2_needsOneOf_3 0 rfl ?_
      refine mm_bipush (v := 16) C dX2_needsOneOf_5 (by decide) ?_
      refine mm_icmp_ge (tgt := 39) C dX2_needsOneOf_7 (by decide) (fun z => False.elim ((cn_f hj) z)) (fun c7 => ?_)
      refine mm_iload_n C dX2_needsOneOf_10 rfl 3 rfl ?_
      refine mm_iload C dX2_needsOneOf_11 0 rfl ?_
      refine mm_ishr C dX2_needsOneOf_13 ?_
      refine mm_iconst (v := 1) C dX2_needsOneOf_14 (by decide) ?_
      refine mm_iand C dX2_needsOneOf_15 ?_
      refine mm_iconst (v := 1) C dX2_needsOneOf_16 (by decide) ?_
      refine mm_icmp_ne (tgt := 33) C dX2_needsOneOf_17 (by decide) (fun c17 => ?_) (fun c17 => ?_)
      · skip
        refine mm_iinc (q := 0) (v := (nI (j + 1))) (lv' := [(4, .int (nI (j + 1))), (0, .ref 0), (1, .int a), (2, .int b), (3, .int e)]) C dX2_needsOneOf_33 rfl (nI_1 j) hnL (by decide) rfl ?_
        refine mm_goto (tgt := 3) C dX2_needsOneOf_36 (by decide) ?_
        exact ih (j + 1) (by omega) (by rw [← hr]; simp [f_no, c17])
      · skip
        refine mm_aload_n C dX2_needsOneOf_20 rfl 1 rfl ?_
        refine mm_iload_n C dX2_needsOneOf_21 rfl 2 rfl ?_
        refine mm_iload C dX2_needsOneOf_22 0 rfl ?_
        refine mm_iload_n C dX2_needsOneOf_24 rfl 4 rfl ?_
        refine mm_riV C 0 sv_X2_X2_needOf_124 rfl rfl (kX2_needOf _ _ u F a (nI j) e k c i hI ⟨by rw [nI_toInt (by omega)]; omega, by rw [nI_toInt (by omega)]; omega⟩) ⟨rfl, rfl⟩ ⟨mm_nl rfl, mm_nl rfl⟩ rfl rfl (mm_nl rfl) ⟨mm_nl rfl, mm_nl rfl⟩ dX2_needsOneOf_25 ?_
        refine mm_if_le (tgt := 33) C dX2_needsOneOf_28 (by decide) (fun c28 => ?_) (fun c28 => ?_)
        · skip
          refine mm_iinc (q := 0) (v := (nI (j + 1))) (lv' := [(4, .int (nI (j + 1))), (0, .ref 0), (1, .int a), (2, .int b), (3, .int e)]) C dX2_needsOneOf_33 rfl (nI_1 j) hnL (by decide) rfl ?_
          refine mm_goto (tgt := 3) C dX2_needsOneOf_36 (by decide) ?_
          exact ih (j + 1) (by omega) (by rw [← hr]; simp [f_no, if_pos c17, c28])
        · skip
          refine mm_iconst (v := 1) C dX2_needsOneOf_31 (by decide) ?_
          exact mm_iret C K (by decide) dX2_needsOneOf_32 ⟨by rw [← hr]; simp [f_no, i_b, if_pos c17, c28], rfl⟩ rfl (mm_nl rfl) (mm_nl rfl)
  show mm_M g ad 0 0 (ks_H u F) 0 [(0, .ref 0), (1, .int a), (2, .int b), (3, .int e)] []
  refine mm_iconst (v := 0) C dX2_needsOneOf_0 (by decide) ?_
  refine mm_istore (lv' := [(4, .int 0), (0, .ref 0), (1, .int a), (2, .int b), (3, .int e)]) C dX2_needsOneOf_1 hnL (by decide) rfl ?_
  exact loop 16 0 rfl rfl
set_option maxHeartbeats 4000000 in
set_option maxRecDepth 100000 in
theorem kX0_hasRoom (l : Launch) (D : va_G) (u : ks_S) (F : List mm_c)  : mm_Wr l D yX0_hasRoom (mm_cw yX0_hasRoom cX0_hasRoom 1 (some .boolean)) (mm_rm 0) [.ref 3] (ks_H u F) (some (.int (i_b (b_room (k_cs u))))) (ks_H u F) := by
  refine mm_start (own := RX0) (by decide) rfl rfl (mm_nl rfl) (fun _ => rfl) (fun _ => rfl) (fun g ad hl hD hnL C K => ?_)
  subst hl
  subst hD
  show mm_M g ad 0 0 (ks_H u F) 0 [(0, .ref 3)] []
  refine mm_aload_n C dX0_hasRoom_0 rfl 0 rfl ?_
  refine mm_get C 3 5 (fun w h => mm_wc (inX0 w h)) rfl rfl (by decide) (mm_wc tw38) rfl rfl dX0_hasRoom_1 ?_
  refine mm_sipush (v := 200) C dX0_hasRoom_4 (by decide) ?_
  refine mm_icmp_ge (tgt := 14) C dX0_hasRoom_7 (by decide) (fun c7 => ?_) (fun c7 => ?_)
  · skip
    refine mm_iconst (v := 0) C dX0_hasRoom_14 (by decide) ?_
    exact mm_iret C K (by decide) dX0_hasRoom_15 ⟨by simp [b_room, i_b, c7], rfl⟩ rfl (mm_nl rfl) (mm_nl rfl)
  · skip
    refine mm_iconst (v := 1) C dX0_hasRoom_10 (by decide) ?_
    refine mm_goto (tgt := 15) C dX0_hasRoom_11 (by decide) ?_
    exact mm_iret C K (by decide) dX0_hasRoom_15 ⟨by simp [b_room, i_b, c7], rfl⟩ rfl (mm_nl rfl) (mm_nl rfl)
set_option maxHeartbeats 4000000 in
set_option maxRecDepth 100000 in
theorem kX0_tell (l : Launch) (D : va_G) (u : ks_S) (F : List mm_c) (a b e h v : Int32) (k c i : Nat) (hI : ks_I u k c i) (hc : c < 200) (ha : vp_in (a * 20 + b) 800) : mm_Wr l D yX0_tell (mm_cw yX0_tell cX0_tell 7 none) (mm_rm 0) [.ref 3, .int a, .int b, .int e, .int h, .int v] (ks_H u F) none (ks_H (ks_tell u a b e h v) F) := by
  refine mm_start (own := RX0) (by decide) rfl rfl (mm_nl rfl) (fun _ => rfl) (fun _ => rfl) (fun g ad hl hD hnL C K => ?_)
  subst hl
  subst hD
  show mm_M g ad 0 0 (ks_H u F) 0 [(0, .ref 3), (1, .int a), (2, .int b), (3, .int e), (4, .int h), (5, .int v)] []
  refine mm_iload_n C dX0_tell_0 rfl 1 rfl ?_
  refine mm_bipush (v := 20) C dX0_tell_1 (by decide) ?_
  refine mm_imul C dX0_tell_3 ?_
  refine mm_iload_n C dX0_tell_4 rfl 2 rfl ?_
  refine mm_iadd C dX0_tell_5 ?_
  refine mm_istore (lv' := [(6, .int ((a * 20) + b)), (0, .ref 3), (1, .int a), (2, .int b), (3, .int e), (4, .int h), (5, .int v)]) C dX0_tell_6 hnL (by decide) rfl ?_
  refine mm_aload_n C dX0_tell_8 rfl 1 rfl ?_
  refine mm_get C 3 2 (fun w h => mm_wc (inX0 w h)) rfl rfl (by decide) (mm_wc tw33) rfl rfl dX0_tell_9 ?_
  refine mm_aload_n C dX0_tell_12 rfl 1 rfl ?_
  refine mm_get C 3 5 (fun w h => mm_wc (inX0 w h)) rfl rfl (by decide) (mm_wc tw38) rfl rfl dX0_tell_13 ?_
  refine mm_iload_n C dX0_tell_16 rfl 4 rfl ?_
  refine mm_iast C 6 rfl (by rw [hI.2.2.1]; exact vp_in_nI hc (by decide)) dX0_tell_17 ?_
  refine mm_aload_n C dX0_tell_18 rfl 1 rfl ?_
  refine mm_get C 3 3 (fun w h => mm_wc (inX0 w h)) rfl rfl (by decide) (mm_wc tw34) rfl rfl dX0_tell_19 ?_
  refine mm_aload_n C dX0_tell_22 rfl 1 rfl ?_
  refine mm_get C 3 5 (fun w h => mm_wc (inX0 w h)) rfl rfl (by decide) (mm_wc tw38) rfl rfl dX0_tell_23 ?_
  refine mm_iload C dX0_tell_26 5 rfl ?_
  refine mm_iast C 7 rfl (by rw [hI.2.2.1]; exact vp_in_nI hc (by decide)) dX0_tell_28 ?_
  refine mm_aload_n C dX0_tell_29 rfl 1 rfl ?_
  refine mm_get C 3 4 (fun w h => mm_wc (inX0 w h)) rfl rfl (by decide) (mm_wc tw36) rfl rfl dX0_tell_30 ?_
  refine mm_aload_n C dX0_tell_33 rfl 1 rfl ?_
  refine mm_get C 3 5 (fun w h => mm_wc (inX0 w h)) rfl rfl (by decide) (mm_wc tw38) rfl rfl dX0_tell_34 ?_
  refine mm_iload C dX0_tell_37 6 rfl ?_
  refine mm_iast C 8 rfl (by rw [hI.2.2.1]; exact vp_in_nI hc (by decide)) dX0_tell_39 ?_
  refine mm_aload_n C dX0_tell_40 rfl 1 rfl ?_
  refine mm_get C 3 1 (fun w h => mm_wc (inX0 w h)) rfl rfl (by decide) (mm_wc tw32) rfl rfl dX0_tell_41 ?_
  refine mm_aload_n C dX0_tell_44 rfl 1 rfl ?_
  refine mm_get C 3 5 (fun w h => mm_wc (inX0 w h)) rfl rfl (by decide) (mm_wc tw38) rfl rfl dX0_tell_45 ?_
  refine mm_aload_n C dX0_tell_48 rfl 1 rfl ?_
  refine mm_get C 3 0 (fun w h => mm_wc (inX0 w h)) rfl rfl (by decide) (mm_wc tw31) rfl rfl dX0_tell_49 ?_
  refine mm_iload C dX0_tell_52 0 rfl ?_
  refine mm_iald C 4 rfl ha dX0_tell_54 ?_
  refine mm_iast C 5 rfl (by rw [hI.2.2.1]; exact vp_in_nI hc (by decide)) dX0_tell_55 ?_
  refine mm_aload_n C dX0_tell_56 rfl 1 rfl ?_
  refine mm_get C 3 0 (fun w h => mm_wc (inX0 w h)) rfl rfl (by decide) (mm_wc tw31) rfl rfl dX0_tell_57 ?_
  refine mm_iload C dX0_tell_60 0 rfl ?_
  refine mm_aload_n C dX0_tell_62 rfl 1 rfl ?_
  refine mm_get C 3 5 (fun w h => mm_wc (inX0 w h)) rfl rfl (by decide) (mm_wc tw38) rfl rfl dX0_tell_63 ?_
  refine mm_iast C 4 rfl ha dX0_tell_66 ?_
  refine mm_aload_n C dX0_tell_67 rfl 1 rfl ?_
  refine mm_dup C dX0_tell_68 rfl ?_
  refine mm_get C 3 5 (fun w h => mm_wc (inX0 w h)) rfl rfl (by decide) (mm_wc tw38) rfl rfl dX0_tell_69 ?_
  refine mm_iconst (v := 1) C dX0_tell_72 (by decide) ?_
  refine mm_iadd C dX0_tell_73 ?_
  refine mm_put C 3 5 (fun w h => mm_wc (inX0 w h)) rfl rfl (by decide) tyX0 tyX0_ok nmX0 (mm_wc tw38) rfl rfl (tyX0_ok 5 (by decide)) (fun _ => rfl) (fun _ => rfl) (mm_nl rfl) dX0_tell_74 ?_
  exact mm_vret C K dX0_tell_77 ⟨rfl, rfl⟩ rfl (mm_nl rfl) (mm_nl rfl)
set_option maxHeartbeats 4000000 in
set_option maxRecDepth 100000 in
theorem kX1_putA (l : Launch) (D : va_G) (u : ks_S) (F : List mm_c) (a b e : Int32) (ha : vp_in (a * 10 + b) 400) : mm_Wr l D yX1_put (mm_cw yX1_put cX1_put 5 none) (mm_rm 0) [.ref 9, .int a, .int b, .int e] (ks_H u F) none (ks_H (ks_putA u a b e) F) := by
  refine mm_start (own := RX1) (by decide) rfl rfl (mm_nl rfl) (fun _ => rfl) (fun _ => rfl) (fun g ad hl hD hnL C K => ?_)
  subst hl
  subst hD
  show mm_M g ad 0 0 (ks_H u F) 0 [(0, .ref 9), (1, .int a), (2, .int b), (3, .int e)] []
  refine mm_iload_n C dX1_put_0 rfl 1 rfl ?_
  refine mm_aload_n C dX1_put_1 rfl 0 rfl ?_
  refine mm_get C 9 0 (fun w h => mm_wc (inX1 w h)) rfl rfl (by decide) (mm_wc tw61) rfl rfl dX1_put_2 ?_
  refine mm_imul C dX1_put_5 ?_
  refine mm_iload_n C dX1_put_6 rfl 2 rfl ?_
  refine mm_iadd C dX1_put_7 ?_
  refine mm_istore (lv' := [(4, .int ((a * 10) + b)), (0, .ref 9), (1, .int a), (2, .int b), (3, .int e)]) C dX1_put_8 hnL (by decide) rfl ?_
  refine mm_aload_n C dX1_put_10 rfl 1 rfl ?_
  refine mm_get C 9 1 (fun w h => mm_wc (inX1 w h)) rfl rfl (by decide) (mm_wc tw62) rfl rfl dX1_put_11 ?_
  refine mm_iload C dX1_put_14 0 rfl ?_
  refine mm_iald C 10 rfl ha dX1_put_16 ?_
  refine mm_iconst (v := (-1)) C dX1_put_17 (by decide) ?_
  refine mm_icmp_eq (tgt := 31) C dX1_put_18 (by decide) (fun c18 => ?_) (fun c18 => ?_)
  · skip
    refine mm_iload_n C dX1_put_31 rfl 4 rfl ?_
    refine mm_iconst (v := (-1)) C dX1_put_32 (by decide) ?_
    refine mm_icmp_eq (tgt := 46) C dX1_put_33 (by decide) (fun c33 => ?_) (fun c33 => ?_)
    · skip
      refine mm_aload_n C dX1_put_46 rfl 1 rfl ?_
      refine mm_get C 9 1 (fun w h => mm_wc (inX1 w h)) rfl rfl (by decide) (mm_wc tw62) rfl rfl dX1_put_47 ?_
      refine mm_iload C dX1_put_50 0 rfl ?_
      refine mm_iload_n C dX1_put_52 rfl 4 rfl ?_
      refine mm_iast C 10 rfl ha dX1_put_53 ?_
      exact mm_vret C K dX1_put_54 ⟨rfl, by unfold ks_putA f_sz; rw [if_pos c33, if_pos c18]; rfl⟩ rfl (mm_nl rfl) (mm_nl rfl)
    · skip
      refine mm_aload_n C dX1_put_36 rfl 1 rfl ?_
      refine mm_dup C dX1_put_37 rfl ?_
      refine mm_get C 9 2 (fun w h => mm_wc (inX1 w h)) rfl rfl (by decide) (mm_wc tw63) rfl rfl dX1_put_38 ?_
      refine mm_iconst (v := 1) C dX1_put_41 (by decide) ?_
      refine mm_iadd C dX1_put_42 ?_
      refine mm_put C 9 2 (fun w h => mm_wc (inX1 w h)) rfl rfl (by decide) tyX1 tyX1_ok nmX1 (mm_wc tw63) rfl rfl (tyX1_ok 2 (by decide)) (fun _ => rfl) (fun _ => rfl) (mm_nl rfl) dX1_put_43 ?_
      refine mm_aload_n C dX1_put_46 rfl 1 rfl ?_
      refine mm_get C 9 1 (fun w h => mm_wc (inX1 w h)) rfl rfl (by decide) (mm_wc tw62) rfl rfl dX1_put_47 ?_
      refine mm_iload C dX1_put_50 0 rfl ?_
      refine mm_iload_n C dX1_put_52 rfl 4 rfl ?_
      refine mm_iast C 10 rfl ha dX1_put_53 ?_
      exact mm_vret C K dX1_put_54 ⟨rfl, by unfold ks_putA f_sz; rw [if_neg c33, if_pos c18]; rfl⟩ rfl (mm_nl rfl) (mm_nl rfl)
  · skip
    refine mm_aload_n C dX1_put_21 rfl 1 rfl ?_
    refine mm_dup C dX1_put_22 rfl ?_
    refine mm_get C 9 2 (fun w h => mm_wc (inX1 w h)) rfl rfl (by decide) (mm_wc tw63) rfl rfl dX1_put_23 ?_
    refine mm_iconst (v := 1) C dX1_put_26 (by decide) ?_
    refine mm_isub C dX1_put_27 ?_
    refine mm_put C 9 2 (fun w h => mm_wc (inX1 w h)) rfl rfl (by decide) tyX1 tyX1_ok nmX1 (mm_wc tw63) rfl rfl (tyX1_ok 2 (by decide)) (fun _ => rfl) (fun _ => rfl) (mm_nl rfl) dX1_put_28 ?_
    refine mm_iload_n C dX1_put_31 rfl 4 rfl ?_
    refine mm_iconst (v := (-1)) C dX1_put_32 (by decide) ?_
    refine mm_icmp_eq (tgt := 46) C dX1_put_33 (by decide) (fun c33 => ?_) (fun c33 => ?_)
    · skip
      refine mm_aload_n C dX1_put_46 rfl 1 rfl ?_
      refine mm_get C 9 1 (fun w h => mm_wc (inX1 w h)) rfl rfl (by decide) (mm_wc tw62) rfl rfl dX1_put_47 ?_
      refine mm_iload C dX1_put_50 0 rfl ?_
      refine mm_iload_n C dX1_put_52 rfl 4 rfl ?_
      refine mm_iast C 10 rfl ha dX1_put_53 ?_
      exact mm_vret C K dX1_put_54 ⟨rfl, by unfold ks_putA f_sz; rw [if_pos c33, if_neg c18]; rfl⟩ rfl (mm_nl rfl) (mm_nl rfl)
    · skip
      refine mm_aload_n C dX1_put_36 rfl 1 rfl ?_
      refine mm_dup C dX1_put_37 rfl ?_
      refine mm_get C 9 2 (fun w h => mm_wc (inX1 w h)) rfl rfl (by decide) (mm_wc tw63) rfl rfl dX1_put_38 ?_
      refine mm_iconst (v := 1) C dX1_put_41 (by decide) ?_
      refine mm_iadd C dX1_put_42 ?_
      refine mm_put C 9 2 (fun w h => mm_wc (inX1 w h)) rfl rfl (by decide) tyX1 tyX1_ok nmX1 (mm_wc tw63) rfl rfl (tyX1_ok 2 (by decide)) (fun _ => rfl) (fun _ => rfl) (mm_nl rfl) dX1_put_43 ?_
      refine mm_aload_n C dX1_put_46 rfl 1 rfl ?_
      refine mm_get C 9 1 (fun w h => mm_wc (inX1 w h)) rfl rfl (by decide) (mm_wc tw62) rfl rfl dX1_put_47 ?_
      refine mm_iload C dX1_put_50 0 rfl ?_
      refine mm_iload_n C dX1_put_52 rfl 4 rfl ?_
      refine mm_iast C 10 rfl ha dX1_put_53 ?_
      exact mm_vret C K dX1_put_54 ⟨rfl, by unfold ks_putA f_sz; rw [if_neg c33, if_neg c18]; rfl⟩ rfl (mm_nl rfl) (mm_nl rfl)
set_option maxHeartbeats 4000000 in
set_option maxRecDepth 100000 in
theorem kX1_putU (l : Launch) (D : va_G) (u : ks_S) (F : List mm_c) (a b e : Int32) (ha : vp_in (a * 32 + b) 1280) : mm_Wr l D yX1_put (mm_cw yX1_put cX1_put 5 none) (mm_rm 0) [.ref 11, .int a, .int b, .int e] (ks_H u F) none (ks_H (ks_putU u a b e) F) := by
  refine mm_start (own := RX1) (by decide) rfl rfl (mm_nl rfl) (fun _ => rfl) (fun _ => rfl) (fun g ad hl hD hnL C K => ?_)
  subst hl
  subst hD
  show mm_M g ad 0 0 (ks_H u F) 0 [(0, .ref 11), (1, .int a), (2, .int b), (3, .int e)] []
  refine mm_iload_n C dX1_put_0 rfl 1 rfl ?_
  refine mm_aload_n C dX1_put_1 rfl 0 rfl ?_
  refine mm_get C 11 0 (fun w h => mm_wc (inX1 w h)) rfl rfl (by decide) (mm_wc tw61) rfl rfl dX1_put_2 ?_
  refine mm_imul C dX1_put_5 ?_
  refine mm_iload_n C dX1_put_6 rfl 2 rfl ?_
  refine mm_iadd C dX1_put_7 ?_
  refine mm_istore (lv' := [(4, .int ((a * 32) + b)), (0, .ref 11), (1, .int a), (2, .int b), (3, .int e)]) C dX1_put_8 hnL (by decide) rfl ?_
  refine mm_aload_n C dX1_put_10 rfl 1 rfl ?_
  refine mm_get C 11 1 (fun w h => mm_wc (inX1 w h)) rfl rfl (by decide) (mm_wc tw62) rfl rfl dX1_put_11 ?_
  refine mm_iload C dX1_put_14 0 rfl ?_
  refine mm_iald C 12 rfl ha dX1_put_16 ?_
  refine mm_iconst (v := (-1)) C dX1_put_17 (by decide) ?_
  refine mm_icmp_eq (tgt := 31) C dX1_put_18 (by decide) (fun c18 => ?_) (fun c18 => ?_)
  · skip
    refine mm_iload_n C dX1_put_31 rfl 4 rfl ?_
    refine mm_iconst (v := (-1)) C dX1_put_32 (by decide) ?_
    refine mm_icmp_eq (tgt := 46) C dX1_put_33 (by decide) (fun c33 => ?_) (fun c33 => ?_)
    · skip
      refine mm_aload_n C dX1_put_46 rfl 1 rfl ?_
      refine mm_get C 11 1 (fun w h => mm_wc (inX1 w h)) rfl rfl (by decide) (mm_wc tw62) rfl rfl dX1_put_47 ?_
      refine mm_iload C dX1_put_50 0 rfl ?_
      refine mm_iload_n C dX1_put_52 rfl 4 rfl ?_
      refine mm_iast C 12 rfl ha dX1_put_53 ?_
      exact mm_vret C K dX1_put_54 ⟨rfl, by unfold ks_putU f_sz; rw [if_pos c33, if_pos c18]; rfl⟩ rfl (mm_nl rfl) (mm_nl rfl)
    · skip
      refine mm_aload_n C dX1_put_36 rfl 1 rfl ?_
      refine mm_dup C dX1_put_37 rfl ?_
      refine mm_get C 11 2 (fun w h => mm_wc (inX1 w h)) rfl rfl (by decide) (mm_wc tw63) rfl rfl dX1_put_38 ?_
      refine mm_iconst (v := 1) C dX1_put_41 (by decide) ?_
      refine mm_iadd C dX1_put_42 ?_
      refine mm_put C 11 2 (fun w h => mm_wc (inX1 w h)) rfl rfl (by decide) tyX1 tyX1_ok nmX1 (mm_wc tw63) rfl rfl (tyX1_ok 2 (by decide)) (fun _ => rfl) (fun _ => rfl) (mm_nl rfl) dX1_put_43 ?_
      refine mm_aload_n C dX1_put_46 rfl 1 rfl ?_
      refine mm_get C 11 1 (fun w h => mm_wc (inX1 w h)) rfl rfl (by decide) (mm_wc tw62) rfl rfl dX1_put_47 ?_
      refine mm_iload C dX1_put_50 0 rfl ?_
      refine mm_iload_n C dX1_put_52 rfl 4 rfl ?_
      refine mm_iast C 12 rfl ha dX1_put_53 ?_
      exact mm_vret C K dX1_put_54 ⟨rfl, by unfold ks_putU f_sz; rw [if_neg c33, if_pos c18]; rfl⟩ rfl (mm_nl rfl) (mm_nl rfl)
  · skip
    refine mm_aload_n C dX1_put_21 rfl 1 rfl ?_
    refine mm_dup C dX1_put_22 rfl ?_
    refine mm_get C 11 2 (fun w h => mm_wc (inX1 w h)) rfl rfl (by decide) (mm_wc tw63) rfl rfl dX1_put_23 ?_
    refine mm_iconst (v := 1) C dX1_put_26 (by decide) ?_
    refine mm_isub C dX1_put_27 ?_
    refine mm_put C 11 2 (fun w h => mm_wc (inX1 w h)) rfl rfl (by decide) tyX1 tyX1_ok nmX1 (mm_wc tw63) rfl rfl (tyX1_ok 2 (by decide)) (fun _ => rfl) (fun _ => rfl) (mm_nl rfl) dX1_put_28 ?_
    refine mm_iload_n C dX1_put_31 rfl 4 rfl ?_
    refine mm_iconst (v := (-1)) C dX1_put_32 (by decide) ?_
    refine mm_icmp_eq (tgt := 46) C dX1_put_33 (by decide) (fun c33 => ?_) (fun c33 => ?_)
    · skip
      refine mm_aload_n C dX1_put_46 rfl 1 rfl ?_
      refine mm_get C 11 1 (fun w h => mm_wc (inX1 w h)) rfl rfl (by decide) (mm_wc tw62) rfl rfl dX1_put_47 ?_
      refine mm_iload C dX1_put_50 0 rfl ?_
      refine mm_iload_n C dX1_put_52 rfl 4 rfl ?_
      refine mm_iast C 12 rfl ha dX1_put_53 ?_
      exact mm_vret C K dX1_put_54 ⟨rfl, by unfold ks_putU f_sz; rw [if_pos c33, if_neg c18]; rfl⟩ rfl (mm_nl rfl) (mm_nl rfl)
    · skip
      refine mm_aload_n C dX1_put_36 rfl 1 rfl ?_
      refine mm_dup C dX1_put_37 rfl ?_
      refine mm_get C 11 2 (fun w h => mm_wc (inX1 w h)) rfl rfl (by decide) (mm_wc tw63) rfl rfl dX1_put_38 ?_
      refine mm_iconst (v := 1) C dX1_put_41 (by decide) ?_
      refine mm_iadd C dX1_put_42 ?_
      refine mm_put C 11 2 (fun w h => mm_wc (inX1 w h)) rfl rfl (by decide) tyX1 tyX1_ok nmX1 (mm_wc tw63) rfl rfl (tyX1_ok 2 (by decide)) (fun _ => rfl) (fun _ => rfl) (mm_nl rfl) dX1_put_43 ?_
      refine mm_aload_n C dX1_put_46 rfl 1 rfl ?_
      refine mm_get C 11 1 (fun w h => mm_wc (inX1 w h)) rfl rfl (by decide) (mm_wc tw62) rfl rfl dX1_put_47 ?_
      refine mm_iload C dX1_put_50 0 rfl ?_
      refine mm_iload_n C dX1_put_52 rfl 4 rfl ?_
      refine mm_iast C 12 rfl ha dX1_put_53 ?_
      exact mm_vret C K dX1_put_54 ⟨rfl, by unfold ks_putU f_sz; rw [if_neg c33, if_neg c18]; rfl⟩ rfl (mm_nl rfl) (mm_nl rfl)
set_option maxHeartbeats 4000000 in
set_option maxRecDepth 100000 in
theorem kX2_kind (l : Launch) (D : va_G) (u : ks_S) (F : List mm_c) (a : Int32) (k c i : Nat) (hI : ks_I u k c i)  : mm_Po l D yX2_kind (mm_cw yX2_kind cX2_kind 3 (some .int)) mm_rp [.ref 0, .int a] (ks_H u F) (ks_o F (o_kind u a)) := by
  refine mm_start (own := RX2) (by decide) rfl rfl (mm_nl rfl) (fun _ => rfl) (fun _ => rfl) (fun g ad hl hD hnL C K => ?_)
  subst hl
  subst hD
  show mm_M g ad 0 0 (ks_H u F) 0 [(0, .ref 0), (1, .int a)] []
  refine mm_aload_n C dX2_kind_0 rfl 0 rfl ?_
  refine mm_iload_n C dX2_kind_1 rfl 1 rfl ?_
  refine mm_riV C 0 sv_X2_X2_isKindOrNone_50 rfl rfl (kX2_isKindOrNone _ _ u F a) ⟨rfl, rfl⟩ ⟨mm_nl rfl, mm_nl rfl⟩ rfl rfl (mm_nl rfl) ⟨mm_nl rfl, mm_nl rfl⟩ dX2_kind_2 ?_
  refine mm_ck C ss_X2_X2_checkKnown_54 (kX2_checkKnown _ _ _ (b_kindN (k_kn u) a)) ⟨rfl, rfl⟩ ⟨mm_nl rfl, mm_nl rfl⟩ rfl rfl (mm_nl rfl) ⟨mm_nl rfl, mm_nl rfl⟩ dX2_kind_5 (fun c5 => ?_) (fun c5 => ?_)
  · skip
    exact mm_out C K (show ks_o F (o_kind u a) = .inl x_ia from by simp [ks_o, o_kind, c5]) (mm_nl rfl) (mm_nl rfl)
  · skip
    refine mm_aload_n C dX2_kind_8 rfl 0 rfl ?_
    refine mm_get C 0 0 (fun w h => mm_wc (inX2 w h)) rfl rfl (by decide) (mm_wc tw72) rfl rfl dX2_kind_9 ?_
    refine mm_bipush (v := 40) C dX2_kind_12 (by decide) ?_
    refine mm_icmp_ge (tgt := 21) C dX2_kind_14 (by decide) (fun c14 => ?_) (fun c14 => ?_)
    · skip
      refine mm_iconst (v := 0) C dX2_kind_21 (by decide) ?_
      refine mm_ck C ss_X2_X2_checkRoom_62 (kX2_checkRoom _ _ _ false) ⟨rfl, rfl⟩ ⟨mm_nl rfl, mm_nl rfl⟩ rfl rfl (mm_nl rfl) ⟨mm_nl rfl, mm_nl rfl⟩ dX2_kind_22 (fun c22 => ?_) (fun c22 => ?_)
      · skip
        exact mm_out C K (show ks_o F (o_kind u a) = .inl x_uo from by simp [ks_o, o_kind, c5, c14, c22]) (mm_nl rfl) (mm_nl rfl)
      · skip
        cases c22
    · skip
      refine mm_iconst (v := 1) C dX2_kind_17 (by decide) ?_
      refine mm_goto (tgt := 22) C dX2_kind_18 (by decide) ?_
      refine mm_ck C ss_X2_X2_checkRoom_62 (kX2_checkRoom _ _ _ true) ⟨rfl, rfl⟩ ⟨mm_nl rfl, mm_nl rfl⟩ rfl rfl (mm_nl rfl) ⟨mm_nl rfl, mm_nl rfl⟩ dX2_kind_22 (fun c22 => ?_) (fun c22 => ?_)
      · skip
        cases c22
      · skip
        refine mm_aload_n C dX2_kind_25 rfl 0 rfl ?_
        refine mm_get C 0 0 (fun w h => mm_wc (inX2 w h)) rfl rfl (by decide) (mm_wc tw72) rfl rfl dX2_kind_26 ?_
        refine mm_istore_n (lv' := [(2, .int (k_kn u)), (0, .ref 0), (1, .int a)]) C dX2_kind_29 rfl hnL (by decide) rfl ?_
        refine mm_aload_n C dX2_kind_30 rfl 1 rfl ?_
        refine mm_get C 0 1 (fun w h => mm_wc (inX2 w h)) rfl rfl (by decide) (mm_wc tw73) rfl rfl dX2_kind_31 ?_
        refine mm_iload_n C dX2_kind_34 rfl 0 rfl ?_
        refine mm_iload_n C dX2_kind_35 rfl 2 rfl ?_
        refine mm_iast C 1 rfl (kn_in hI c14) dX2_kind_36 ?_
        refine mm_aload_n C dX2_kind_37 rfl 1 rfl ?_
        refine mm_get C 0 2 (fun w h => mm_wc (inX2 w h)) rfl rfl (by decide) (mm_wc tw74) rfl rfl dX2_kind_38 ?_
        refine mm_iload_n C dX2_kind_41 rfl 0 rfl ?_
        refine mm_iconst (v := (-1)) C dX2_kind_42 (by decide) ?_
        refine mm_iast C 2 rfl (kn_in hI c14) dX2_kind_43 ?_
        refine mm_aload_n C dX2_kind_44 rfl 1 rfl ?_
        refine mm_dup C dX2_kind_45 rfl ?_
        refine mm_get C 0 0 (fun w h => mm_wc (inX2 w h)) rfl rfl (by decide) (mm_wc tw72) rfl rfl dX2_kind_46 ?_
        refine mm_iconst (v := 1) C dX2_kind_49 (by decide) ?_
        refine mm_iadd C dX2_kind_50 ?_
        refine mm_put C 0 0 (fun w h => mm_wc (inX2 w h)) rfl rfl (by decide) tyX2 tyX2_ok nmX2 (mm_wc tw72) rfl rfl (tyX2_ok 0 (by decide)) (fun _ => rfl) (fun _ => rfl) (mm_nl rfl) dX2_kind_51 ?_
        refine mm_iload_n C dX2_kind_54 rfl 0 rfl ?_
        exact mm_iret C K rfl dX2_kind_55 (by rw [show o_kind u a = .inr (some (k_kn u), (k_kn u + 1, upd (k_pa u) (k_kn u).toNatClampNeg a, upd (k_cl u) (k_kn u).toNatClampNeg (-1), k_nw u, k_tb u, k_dy u, k_hw u, k_vl u, k_cs u, k_ta u, k_ts u, k_tu u, k_us u, k_inn u, k_ko u, k_ao u, k_be u, k_se u, k_sk u)) from by simp [o_kind, c5, c14, c22]]; rfl) rfl (mm_nl rfl) (mm_nl rfl)
set_option maxHeartbeats 4000000 in
set_option maxRecDepth 100000 in
theorem kX2_parent (l : Launch) (D : va_G) (u : ks_S) (F : List mm_c) (a b : Int32) (k c i : Nat) (hI : ks_I u k c i)  : mm_Po l D yX2_parent (mm_cw yX2_parent cX2_parent 3 none) mm_rp [.ref 0, .int a, .int b] (ks_H u F) (ks_o F (o_parent u a b)) := by
  refine mm_start (own := RX2) (by decide) rfl rfl (mm_nl rfl) (fun _ => rfl) (fun _ => rfl) (fun g ad hl hD hnL C K => ?_)
  subst hl
  subst hD
  show mm_M g ad 0 0 (ks_H u F) 0 [(0, .ref 0), (1, .int a), (2, .int b)] []
  refine mm_aload_n C dX2_parent_0 rfl 0 rfl ?_
  refine mm_iload_n C dX2_parent_1 rfl 1 rfl ?_
  refine mm_riV C 0 sv_X2_X2_isKind_65 rfl rfl (kX2_isKind _ _ u F a) ⟨rfl, rfl⟩ ⟨mm_nl rfl, mm_nl rfl⟩ rfl rfl (mm_nl rfl) ⟨mm_nl rfl, mm_nl rfl⟩ dX2_parent_2 ?_
  refine mm_ifb_eq (tgt := 20) C dX2_parent_5 (by decide) (fun c5 => ?_) (fun c5 => ?_)
  · skip
    refine mm_iconst (v := 0) C dX2_parent_20 (by decide) ?_
    refine mm_ck C ss_X2_X2_checkKnown_54 (kX2_checkKnown _ _ _ false) ⟨rfl, rfl⟩ ⟨mm_nl rfl, mm_nl rfl⟩ rfl rfl (mm_nl rfl) ⟨mm_nl rfl, mm_nl rfl⟩ dX2_parent_21 (fun c21 => ?_) (fun c21 => ?_)
    · skip
      exact mm_out C K (show ks_o F (o_parent u a b) = .inl x_ia from by simp [ks_o, o_parent, c5, c21]) (mm_nl rfl) (mm_nl rfl)
    · skip
      cases c21
  · skip
    refine mm_aload_n C dX2_parent_8 rfl 0 rfl ?_
    refine mm_iload_n C dX2_parent_9 rfl 2 rfl ?_
    refine mm_riV C 0 sv_X2_X2_isKindOrNone_50 rfl rfl (kX2_isKindOrNone _ _ u F b) ⟨rfl, rfl⟩ ⟨mm_nl rfl, mm_nl rfl⟩ rfl rfl (mm_nl rfl) ⟨mm_nl rfl, mm_nl rfl⟩ dX2_parent_10 ?_
    refine mm_ifb_eq (tgt := 20) C dX2_parent_13 (by decide) (fun c13 => ?_) (fun c13 => ?_)
    · skip
      refine mm_iconst (v := 0) C dX2_parent_20 (by decide) ?_
      refine mm_ck C ss_X2_X2_checkKnown_54 (kX2_checkKnown _ _ _ false) ⟨rfl, rfl⟩ ⟨mm_nl rfl, mm_nl rfl⟩ rfl rfl (mm_nl rfl) ⟨mm_nl rfl, mm_nl rfl⟩ dX2_parent_21 (fun c21 => ?_) (fun c21 => ?_)
      · skip
        exact mm_out C K (show ks_o F (o_parent u a b) = .inl x_ia from by simp [ks_o, o_parent, c5, c13, c21]) (mm_nl rfl) (mm_nl rfl)
      · skip
        cases c21
    · skip
      refine mm_iconst (v := 1) C dX2_parent_16 (by decide) ?_
      refine mm_goto (tgt := 21) C dX2_parent_17 (by decide) ?_
      refine mm_ck C ss_X2_X2_checkKnown_54 (kX2_checkKnown _ _ _ true) ⟨rfl, rfl⟩ ⟨mm_nl rfl, mm_nl rfl⟩ rfl rfl (mm_nl rfl) ⟨mm_nl rfl, mm_nl rfl⟩ dX2_parent_21 (fun c21 => ?_) (fun c21 => ?_)
      · skip
        cases c21
      · skip
        refine mm_aload_n C dX2_parent_24 rfl 0 rfl ?_
        refine mm_get C 0 1 (fun w h => mm_wc (inX2 w h)) rfl rfl (by decide) (mm_wc tw73) rfl rfl dX2_parent_25 ?_
        refine mm_iload_n C dX2_parent_28 rfl 1 rfl ?_
        refine mm_iald C 1 rfl (ix_b hI.k40 c5) dX2_parent_29 ?_
        refine mm_iload_n C dX2_parent_30 rfl 2 rfl ?_
        refine mm_icmp_eq (tgt := 47) C dX2_parent_31 (by decide) (fun c31 => ?_) (fun c31 => ?_)
        · skip
          refine mm_iconst (v := 0) C dX2_parent_47 (by decide) ?_
          refine mm_ck C ss_X2_X2_checkState_72 (kX2_checkState _ _ _ false) ⟨rfl, rfl⟩ ⟨mm_nl rfl, mm_nl rfl⟩ rfl rfl (mm_nl rfl) ⟨mm_nl rfl, mm_nl rfl⟩ dX2_parent_48 (fun c48 => ?_) (fun c48 => ?_)
          · skip
            exact mm_out C K (show ks_o F (o_parent u a b) = .inl x_is from by simp [ks_o, o_parent, c5, c13, c21, if_pos c31, c48]) (mm_nl rfl) (mm_nl rfl)
          · skip
            cases c48
        · skip
          refine mm_aload_n C dX2_parent_34 rfl 0 rfl ?_
          refine mm_iload_n C dX2_parent_35 rfl 1 rfl ?_
          refine mm_iload_n C dX2_parent_36 rfl 2 rfl ?_
          refine mm_riV C 0 sv_X2_X2_isSameOrAbove_68 rfl rfl (kX2_isSameOrAbove _ _ u F a b hI.k40) ⟨rfl, rfl⟩ ⟨mm_nl rfl, mm_nl rfl⟩ rfl rfl (mm_nl rfl) ⟨mm_nl rfl, mm_nl rfl⟩ dX2_parent_37 ?_
          refine mm_ifb_ne (tgt := 47) C dX2_parent_40 (by decide) (fun c40 => ?_) (fun c40 => ?_)
          · skip
            refine mm_iconst (v := 0) C dX2_parent_47 (by decide) ?_
            refine mm_ck C ss_X2_X2_checkState_72 (kX2_checkState _ _ _ false) ⟨rfl, rfl⟩ ⟨mm_nl rfl, mm_nl rfl⟩ rfl rfl (mm_nl rfl) ⟨mm_nl rfl, mm_nl rfl⟩ dX2_parent_48 (fun c48 => ?_) (fun c48 => ?_)
            · skip
              exact mm_out C K (show ks_o F (o_parent u a b) = .inl x_is from by simp [ks_o, o_parent, c5, c13, c21, c31, c40, c48]) (mm_nl rfl) (mm_nl rfl)
            · skip
              cases c48
          · skip
            refine mm_iconst (v := 1) C dX2_parent_43 (by decide) ?_
            refine mm_goto (tgt := 48) C dX2_parent_44 (by decide) ?_
            refine mm_ck C ss_X2_X2_checkState_72 (kX2_checkState _ _ _ true) ⟨rfl, rfl⟩ ⟨mm_nl rfl, mm_nl rfl⟩ rfl rfl (mm_nl rfl) ⟨mm_nl rfl, mm_nl rfl⟩ dX2_parent_48 (fun c48 => ?_) (fun c48 => ?_)
            · skip
              cases c48
            · skip
              refine mm_aload_n C dX2_parent_51 rfl 0 rfl ?_
              refine mm_get C 0 1 (fun w h => mm_wc (inX2 w h)) rfl rfl (by decide) (mm_wc tw73) rfl rfl dX2_parent_52 ?_
              refine mm_iload_n C dX2_parent_55 rfl 1 rfl ?_
              refine mm_iload_n C dX2_parent_56 rfl 2 rfl ?_
              refine mm_iast C 1 rfl (ix_b hI.k40 c5) dX2_parent_57 ?_
              exact mm_vret C K dX2_parent_58 (by rw [show o_parent u a b = .inr (none, (k_kn u, upd (k_pa u) a.toNatClampNeg b, k_cl u, k_nw u, k_tb u, k_dy u, k_hw u, k_vl u, k_cs u, k_ta u, k_ts u, k_tu u, k_us u, k_inn u, k_ko u, k_ao u, k_be u, k_se u, k_sk u)) from by simp [o_parent, c5, c13, c21, c31, c40, c48]]; rfl) rfl (mm_nl rfl) (mm_nl rfl)
set_option maxHeartbeats 4000000 in
set_option maxRecDepth 100000 in
theorem kX2_says (l : Launch) (D : va_G) (u : ks_S) (F : List mm_c) (a b e v : Int32) (k c i : Nat) (hI : ks_I u k c i)  : mm_Po l D yX2_says (mm_cw yX2_says cX2_says 5 none) mm_rp [.ref 0, .int a, .int b, .int e, .int v] (ks_H u F) (ks_o F (o_says u a b e v)) := by
  refine mm_start (own := RX2) (by decide) rfl rfl (mm_nl rfl) (fun _ => rfl) (fun _ => rfl) (fun g ad hl hD hnL C K => ?_)
  subst hl
  subst hD
  show mm_M g ad 0 0 (ks_H u F) 0 [(0, .ref 0), (1, .int a), (2, .int b), (3, .int e), (4, .int v)] []
  refine mm_aload_n C dX2_says_0 rfl 0 rfl ?_
  refine mm_iload_n C dX2_says_1 rfl 1 rfl ?_
  refine mm_riV C 0 sv_X2_X2_isKind_65 rfl rfl (kX2_isKind _ _ u F a) ⟨rfl, rfl⟩ ⟨mm_nl rfl, mm_nl rfl⟩ rfl rfl (mm_nl rfl) ⟨mm_nl rfl, mm_nl rfl⟩ dX2_says_2 ?_
  refine mm_ifb_eq (tgt := 20) C dX2_says_5 (by decide) (fun c5 => ?_) (fun c5 => ?_)
  · skip
    refine mm_iconst (v := 0) C dX2_says_20 (by decide) ?_
    refine mm_ck C ss_X2_X2_checkKnown_54 (kX2_checkKnown _ _ _ false) ⟨rfl, rfl⟩ ⟨mm_nl rfl, mm_nl rfl⟩ rfl rfl (mm_nl rfl) ⟨mm_nl rfl, mm_nl rfl⟩ dX2_says_21 (fun c21 => ?_) (fun c21 => ?_)
    · skip
      exact mm_out C K (show ks_o F (o_says u a b e v) = .inl x_ia from by simp [ks_o, o_says, c5, c21]) (mm_nl rfl) (mm_nl rfl)
    · skip
      cases c21
  · skip
    refine mm_iload_n C dX2_says_8 rfl 2 rfl ?_
    refine mm_iconst (v := 4) C dX2_says_9 (by decide) ?_
    refine mm_riS C ss_X2_X2_isBelow_75 (kX2_isBelow _ _ _ b 4) ⟨rfl, rfl⟩ ⟨mm_nl rfl, mm_nl rfl⟩ rfl rfl (mm_nl rfl) ⟨mm_nl rfl, mm_nl rfl⟩ dX2_says_10 ?_
    refine mm_ifb_eq (tgt := 20) C dX2_says_13 (by decide) (fun c13 => ?_) (fun c13 => ?_)
    · skip
      refine mm_iconst (v := 0) C dX2_says_20 (by decide) ?_
      refine mm_ck C ss_X2_X2_checkKnown_54 (kX2_checkKnown _ _ _ false) ⟨rfl, rfl⟩ ⟨mm_nl rfl, mm_nl rfl⟩ rfl rfl (mm_nl rfl) ⟨mm_nl rfl, mm_nl rfl⟩ dX2_says_21 (fun c21 => ?_) (fun c21 => ?_)
      · skip
        exact mm_out C K (show ks_o F (o_says u a b e v) = .inl x_ia from by simp [ks_o, o_says, c5, c13, c21]) (mm_nl rfl) (mm_nl rfl)
      · skip
        cases c21
    · skip
      refine mm_iconst (v := 1) C dX2_says_16 (by decide) ?_
      refine mm_goto (tgt := 21) C dX2_says_17 (by decide) ?_
      refine mm_ck C ss_X2_X2_checkKnown_54 (kX2_checkKnown _ _ _ true) ⟨rfl, rfl⟩ ⟨mm_nl rfl, mm_nl rfl⟩ rfl rfl (mm_nl rfl) ⟨mm_nl rfl, mm_nl rfl⟩ dX2_says_21 (fun c21 => ?_) (fun c21 => ?_)
      · skip
        cases c21
      · skip
        refine mm_iload_n C dX2_says_24 rfl 3 rfl ?_
        refine mm_riS C ss_X2_X2_isDay_78 (kX2_isDay _ _ _ e) ⟨rfl, rfl⟩ ⟨mm_nl rfl, mm_nl rfl⟩ rfl rfl (mm_nl rfl) ⟨mm_nl rfl, mm_nl rfl⟩ dX2_says_25 ?_
        refine mm_ifb_eq (tgt := 51) C dX2_says_28 (by decide) (fun c28 => ?_) (fun c28 => ?_)
        · skip
          refine mm_iconst (v := 0) C dX2_says_51 (by decide) ?_
          refine mm_ck C ss_X2_X2_checkRange_84 (kX2_checkRange _ _ _ false) ⟨rfl, rfl⟩ ⟨mm_nl rfl, mm_nl rfl⟩ rfl rfl (mm_nl rfl) ⟨mm_nl rfl, mm_nl rfl⟩ dX2_says_52 (fun c52 => ?_) (fun c52 => ?_)
          · skip
            exact mm_out C K (show ks_o F (o_says u a b e v) = .inl x_io from by simp [ks_o, o_says, c5, c13, c21, c28, c52]) (mm_nl rfl) (mm_nl rfl)
          · skip
            cases c52
        · skip
          refine mm_iload C dX2_says_31 4 rfl ?_
          refine mm_iconst (v := (-1)) C dX2_says_33 (by decide) ?_
          refine mm_icmp_lt (tgt := 51) C dX2_says_34 (by decide) (fun c34 => ?_) (fun c34 => ?_)
          · skip
            refine mm_iconst (v := 0) C dX2_says_51 (by decide) ?_
            refine mm_ck C ss_X2_X2_checkRange_84 (kX2_checkRange _ _ _ false) ⟨rfl, rfl⟩ ⟨mm_nl rfl, mm_nl rfl⟩ rfl rfl (mm_nl rfl) ⟨mm_nl rfl, mm_nl rfl⟩ dX2_says_52 (fun c52 => ?_) (fun c52 => ?_)
            · skip
              exact mm_out C K (show ks_o F (o_says u a b e v) = .inl x_io from by simp [ks_o, o_says, c5, c13, c21, c28, c34, c52]) (mm_nl rfl) (mm_nl rfl)
            · skip
              cases c52
          · skip
            refine mm_iload C dX2_says_37 4 rfl ?_
            refine mm_gets C 0 rfl (mm_wc tw262) dX2_says_39 ?_
            refine mm_iload_n C dX2_says_42 rfl 2 rfl ?_
            refine mm_tald (v := (f_gw b)) C 0 rfl rfl (bt_in (bt c13 rfl)) rfl dX2_says_43 ?_
            refine mm_icmp_gt (tgt := 51) C dX2_says_44 (by decide) (fun c44 => ?_) (fun c44 => ?_)
            · skip
              refine mm_iconst (v := 0) C dX2_says_51 (by decide) ?_
              refine mm_ck C ss_X2_X2_checkRange_84 (kX2_checkRange _ _ _ false) ⟨rfl, rfl⟩ ⟨mm_nl rfl, mm_nl rfl⟩ rfl rfl (mm_nl rfl) ⟨mm_nl rfl, mm_nl rfl⟩ dX2_says_52 (fun c52 => ?_) (fun c52 => ?_)
              · skip
                exact mm_out C K (show ks_o F (o_says u a b e v) = .inl x_io from by simp [ks_o, o_says, c5, c13, c21, c28, c34, c44, c52]) (mm_nl rfl) (mm_nl rfl)
              · skip
                cases c52
            · skip
              refine mm_iconst (v := 1) C dX2_says_47 (by decide) ?_
              refine mm_goto (tgt := 52) C dX2_says_48 (by decide) ?_
              refine mm_ck C ss_X2_X2_checkRange_84 (kX2_checkRange _ _ _ true) ⟨rfl, rfl⟩ ⟨mm_nl rfl, mm_nl rfl⟩ rfl rfl (mm_nl rfl) ⟨mm_nl rfl, mm_nl rfl⟩ dX2_says_52 (fun c52 => ?_) (fun c52 => ?_)
              · skip
                cases c52
              · skip
                refine mm_aload_n C dX2_says_55 rfl 0 rfl ?_
                refine mm_get C 0 3 (fun w h => mm_wc (inX2 w h)) rfl rfl (by decide) (mm_wc tw75) rfl rfl dX2_says_56 ?_
                refine mm_riN C 3 sn_X2_X0_hasRoom_87 rfl rfl (kX0_hasRoom _ _ u F) ⟨rfl, rfl⟩ ⟨mm_nl rfl, mm_nl rfl⟩ rfl rfl (mm_nl rfl) ⟨mm_nl rfl, mm_nl rfl⟩ dX2_says_59 ?_
                refine mm_ck C ss_X2_X2_checkRoom_62 (kX2_checkRoom _ _ _ (b_room (k_cs u))) ⟨rfl, rfl⟩ ⟨mm_nl rfl, mm_nl rfl⟩ rfl rfl (mm_nl rfl) ⟨mm_nl rfl, mm_nl rfl⟩ dX2_says_62 (fun c62 => ?_) (fun c62 => ?_)
                · skip
                  exact mm_out C K (show ks_o F (o_says u a b e v) = .inl x_uo from by simp [ks_o, o_says, c5, c13, c21, c28, c34, c44, c52, c62]) (mm_nl rfl) (mm_nl rfl)
                · skip
                  refine mm_aload_n C dX2_says_65 rfl 0 rfl ?_
                  refine mm_get C 0 3 (fun w h => mm_wc (inX2 w h)) rfl rfl (by decide) (mm_wc tw75) rfl rfl dX2_says_66 ?_
                  refine mm_iload_n C dX2_says_69 rfl 1 rfl ?_
                  refine mm_iload_n C dX2_says_70 rfl 2 rfl ?_
                  refine mm_iload_n C dX2_says_71 rfl 3 rfl ?_
                  refine mm_iload C dX2_says_72 4 rfl ?_
                  refine mm_iconst (v := (-1)) C dX2_says_74 (by decide) ?_
                  refine mm_icmp_ne (tgt := 82) C dX2_says_75 (by decide) (fun c75 => ?_) (fun c75 => ?_)
                  · skip
                    refine mm_iconst (v := 1) C dX2_says_82 (by decide) ?_
                    refine mm_iload C dX2_says_83 4 rfl ?_
                    refine mm_rvN C 3 sn_X2_X0_tell_91 rfl rfl (kX0_tell _ _ u F a b e 1 v k c i hI (cs_lt hI c62) (ix_m (c := 20) hI.k40 c5 ⟨(bt c13 rfl).1, by have := (bt (N := 4) c13 rfl).2; omega⟩ (by decide) (by decide) (by decide))) ⟨rfl, rfl⟩ ⟨mm_nl rfl, mm_nl rfl⟩ rfl rfl (mm_nl rfl) ⟨mm_nl rfl, mm_nl rfl⟩ dX2_says_85 ?_
                    exact mm_vret C K dX2_says_88 (by rw [show o_says u a b e v = .inr (none, ks_tell u a b e 1 v) from by simp [o_says, c5, c13, c21, c28, c34, c44, c52, c62, c75]]; rfl) rfl (mm_nl rfl) (mm_nl rfl)
                  · skip
                    refine mm_iconst (v := 0) C dX2_says_78 (by decide) ?_
                    refine mm_goto (tgt := 83) C dX2_says_79 (by decide) ?_
                    refine mm_iload C dX2_says_83 4 rfl ?_
                    refine mm_rvN C 3 sn_X2_X0_tell_91 rfl rfl (kX0_tell _ _ u F a b e 0 v k c i hI (cs_lt hI c62) (ix_m (c := 20) hI.k40 c5 ⟨(bt c13 rfl).1, by have := (bt (N := 4) c13 rfl).2; omega⟩ (by decide) (by decide) (by decide))) ⟨rfl, rfl⟩ ⟨mm_nl rfl, mm_nl rfl⟩ rfl rfl (mm_nl rfl) ⟨mm_nl rfl, mm_nl rfl⟩ dX2_says_85 ?_
                    exact mm_vret C K dX2_says_88 (by rw [show o_says u a b e v = .inr (none, ks_tell u a b e 0 v) from by simp [o_says, c5, c13, c21, c28, c34, c44, c52, c62, if_pos c75]]; rfl) rfl (mm_nl rfl) (mm_nl rfl)
set_option maxHeartbeats 4000000 in
set_option maxRecDepth 100000 in
theorem kX2_need (l : Launch) (D : va_G) (u : ks_S) (F : List mm_c) (a b e h v : Int32) (k c i : Nat) (hI : ks_I u k c i)  : mm_Po l D yX2_need (mm_cw yX2_need cX2_need 6 none) mm_rp [.ref 0, .int a, .int b, .int e, .int h, .int v] (ks_H u F) (ks_o F (o_need u a b e h v)) := by
  refine mm_start (own := RX2) (by decide) rfl rfl (mm_nl rfl) (fun _ => rfl) (fun _ => rfl) (fun g ad hl hD hnL C K => ?_)
  subst hl
  subst hD
  show mm_M g ad 0 0 (ks_H u F) 0 [(0, .ref 0), (1, .int a), (2, .int b), (3, .int e), (4, .int h), (5, .int v)] []
  refine mm_aload_n C dX2_need_0 rfl 0 rfl ?_
  refine mm_iload_n C dX2_need_1 rfl 1 rfl ?_
  refine mm_riV C 0 sv_X2_X2_isKind_65 rfl rfl (kX2_isKind _ _ u F a) ⟨rfl, rfl⟩ ⟨mm_nl rfl, mm_nl rfl⟩ rfl rfl (mm_nl rfl) ⟨mm_nl rfl, mm_nl rfl⟩ dX2_need_2 ?_
  refine mm_ifb_eq (tgt := 21) C dX2_need_5 (by decide) (fun c5 => ?_) (fun c5 => ?_)
  · skip
    refine mm_iconst (v := 0) C dX2_need_21 (by decide) ?_
    refine mm_ck C ss_X2_X2_checkKnown_54 (kX2_checkKnown _ _ _ false) ⟨rfl, rfl⟩ ⟨mm_nl rfl, mm_nl rfl⟩ rfl rfl (mm_nl rfl) ⟨mm_nl rfl, mm_nl rfl⟩ dX2_need_22 (fun c22 => ?_) (fun c22 => ?_)
    · skip
      exact mm_out C K (show ks_o F (o_need u a b e h v) = .inl x_ia from by simp [ks_o, o_need, c5, c22]) (mm_nl rfl) (mm_nl rfl)
    · skip
      cases c22
  · skip
    refine mm_iload_n C dX2_need_8 rfl 2 rfl ?_
    refine mm_bipush (v := 16) C dX2_need_9 (by decide) ?_
    refine mm_riS C ss_X2_X2_isBelow_75 (kX2_isBelow _ _ _ b 16) ⟨rfl, rfl⟩ ⟨mm_nl rfl, mm_nl rfl⟩ rfl rfl (mm_nl rfl) ⟨mm_nl rfl, mm_nl rfl⟩ dX2_need_11 ?_
    refine mm_ifb_eq (tgt := 21) C dX2_need_14 (by decide) (fun c14 => ?_) (fun c14 => ?_)
    · skip
      refine mm_iconst (v := 0) C dX2_need_21 (by decide) ?_
      refine mm_ck C ss_X2_X2_checkKnown_54 (kX2_checkKnown _ _ _ false) ⟨rfl, rfl⟩ ⟨mm_nl rfl, mm_nl rfl⟩ rfl rfl (mm_nl rfl) ⟨mm_nl rfl, mm_nl rfl⟩ dX2_need_22 (fun c22 => ?_) (fun c22 => ?_)
      · skip
        exact mm_out C K (show ks_o F (o_need u a b e h v) = .inl x_ia from by simp [ks_o, o_need, c5, c14, c22]) (mm_nl rfl) (mm_nl rfl)
      · skip
        cases c22
    · skip
      refine mm_iconst (v := 1) C dX2_need_17 (by decide) ?_
      refine mm_goto (tgt := 22) C dX2_need_18 (by decide) ?_
      refine mm_ck C ss_X2_X2_checkKnown_54 (kX2_checkKnown _ _ _ true) ⟨rfl, rfl⟩ ⟨mm_nl rfl, mm_nl rfl⟩ rfl rfl (mm_nl rfl) ⟨mm_nl rfl, mm_nl rfl⟩ dX2_need_22 (fun c22 => ?_) (fun c22 => ?_)
      · skip
        cases c22
      · skip
        refine mm_iload_n C dX2_need_25 rfl 3 rfl ?_
        refine mm_riS C ss_X2_X2_isDay_78 (kX2_isDay _ _ _ e) ⟨rfl, rfl⟩ ⟨mm_nl rfl, mm_nl rfl⟩ rfl rfl (mm_nl rfl) ⟨mm_nl rfl, mm_nl rfl⟩ dX2_need_26 ?_
        refine mm_ifb_eq (tgt := 59) C dX2_need_29 (by decide) (fun c29 => ?_) (fun c29 => ?_)
        · skip
          refine mm_iconst (v := 0) C dX2_need_59 (by decide) ?_
          refine mm_ck C ss_X2_X2_checkRange_84 (kX2_checkRange _ _ _ false) ⟨rfl, rfl⟩ ⟨mm_nl rfl, mm_nl rfl⟩ rfl rfl (mm_nl rfl) ⟨mm_nl rfl, mm_nl rfl⟩ dX2_need_60 (fun c60 => ?_) (fun c60 => ?_)
          · skip
            exact mm_out C K (show ks_o F (o_need u a b e h v) = .inl x_io from by simp [ks_o, o_need, c5, c14, c22, c29, c60]) (mm_nl rfl) (mm_nl rfl)
          · skip
            cases c60
        · skip
          refine mm_iload C dX2_need_32 4 rfl ?_
          refine mm_if_lt (tgt := 59) C dX2_need_34 (by decide) (fun c34 => ?_) (fun c34 => ?_)
          · skip
            refine mm_iconst (v := 0) C dX2_need_59 (by decide) ?_
            refine mm_ck C ss_X2_X2_checkRange_84 (kX2_checkRange _ _ _ false) ⟨rfl, rfl⟩ ⟨mm_nl rfl, mm_nl rfl⟩ rfl rfl (mm_nl rfl) ⟨mm_nl rfl, mm_nl rfl⟩ dX2_need_60 (fun c60 => ?_) (fun c60 => ?_)
            · skip
              exact mm_out C K (show ks_o F (o_need u a b e h v) = .inl x_io from by simp [ks_o, o_need, c5, c14, c22, c29, c34, c60]) (mm_nl rfl) (mm_nl rfl)
            · skip
              cases c60
          · skip
            refine mm_iload C dX2_need_37 4 rfl ?_
            refine mm_iconst (v := 2) C dX2_need_39 (by decide) ?_
            refine mm_icmp_gt (tgt := 59) C dX2_need_40 (by decide) (fun c40 => ?_) (fun c40 => ?_)
            · skip
              refine mm_iconst (v := 0) C dX2_need_59 (by decide) ?_
              refine mm_ck C ss_X2_X2_checkRange_84 (kX2_checkRange _ _ _ false) ⟨rfl, rfl⟩ ⟨mm_nl rfl, mm_nl rfl⟩ rfl rfl (mm_nl rfl) ⟨mm_nl rfl, mm_nl rfl⟩ dX2_need_60 (fun c60 => ?_) (fun c60 => ?_)
              · skip
                exact mm_out C K (show ks_o F (o_need u a b e h v) = .inl x_io from by simp [ks_o, o_need, c5, c14, c22, c29, c34, c40, c60]) (mm_nl rfl) (mm_nl rfl)
              · skip
                cases c60
            · skip
              refine mm_iload C dX2_need_43 5 rfl ?_
              refine mm_if_lt (tgt := 59) C dX2_need_45 (by decide) (fun c45 => ?_) (fun c45 => ?_)
              · skip
                refine mm_iconst (v := 0) C dX2_need_59 (by decide) ?_
                refine mm_ck C ss_X2_X2_checkRange_84 (kX2_checkRange _ _ _ false) ⟨rfl, rfl⟩ ⟨mm_nl rfl, mm_nl rfl⟩ rfl rfl (mm_nl rfl) ⟨mm_nl rfl, mm_nl rfl⟩ dX2_need_60 (fun c60 => ?_) (fun c60 => ?_)
                · skip
                  exact mm_out C K (show ks_o F (o_need u a b e h v) = .inl x_io from by simp [ks_o, o_need, c5, c14, c22, c29, c34, c40, c45, c60]) (mm_nl rfl) (mm_nl rfl)
                · skip
                  cases c60
              · skip
                refine mm_iload C dX2_need_48 5 rfl ?_
                refine mm_bipush (v := 20) C dX2_need_50 (by decide) ?_
                refine mm_icmp_gt (tgt := 59) C dX2_need_52 (by decide) (fun c52 => ?_) (fun c52 => ?_)
                · skip
                  refine mm_iconst (v := 0) C dX2_need_59 (by decide) ?_
                  refine mm_ck C ss_X2_X2_checkRange_84 (kX2_checkRange _ _ _ false) ⟨rfl, rfl⟩ ⟨mm_nl rfl, mm_nl rfl⟩ rfl rfl (mm_nl rfl) ⟨mm_nl rfl, mm_nl rfl⟩ dX2_need_60 (fun c60 => ?_) (fun c60 => ?_)
                  · skip
                    exact mm_out C K (show ks_o F (o_need u a b e h v) = .inl x_io from by simp [ks_o, o_need, c5, c14, c22, c29, c34, c40, c45, c52, c60]) (mm_nl rfl) (mm_nl rfl)
                  · skip
                    cases c60
                · skip
                  refine mm_iconst (v := 1) C dX2_need_55 (by decide) ?_
                  refine mm_goto (tgt := 60) C dX2_need_56 (by decide) ?_
                  refine mm_ck C ss_X2_X2_checkRange_84 (kX2_checkRange _ _ _ true) ⟨rfl, rfl⟩ ⟨mm_nl rfl, mm_nl rfl⟩ rfl rfl (mm_nl rfl) ⟨mm_nl rfl, mm_nl rfl⟩ dX2_need_60 (fun c60 => ?_) (fun c60 => ?_)
                  · skip
                    cases c60
                  · skip
                    refine mm_aload_n C dX2_need_63 rfl 0 rfl ?_
                    refine mm_get C 0 3 (fun w h => mm_wc (inX2 w h)) rfl rfl (by decide) (mm_wc tw75) rfl rfl dX2_need_64 ?_
                    refine mm_riN C 3 sn_X2_X0_hasRoom_87 rfl rfl (kX0_hasRoom _ _ u F) ⟨rfl, rfl⟩ ⟨mm_nl rfl, mm_nl rfl⟩ rfl rfl (mm_nl rfl) ⟨mm_nl rfl, mm_nl rfl⟩ dX2_need_67 ?_
                    refine mm_ck C ss_X2_X2_checkRoom_62 (kX2_checkRoom _ _ _ (b_room (k_cs u))) ⟨rfl, rfl⟩ ⟨mm_nl rfl, mm_nl rfl⟩ rfl rfl (mm_nl rfl) ⟨mm_nl rfl, mm_nl rfl⟩ dX2_need_70 (fun c70 => ?_) (fun c70 => ?_)
                    · skip
                      exact mm_out C K (show ks_o F (o_need u a b e h v) = .inl x_uo from by simp [ks_o, o_need, c5, c14, c22, c29, c34, c40, c45, c52, c60, c70]) (mm_nl rfl) (mm_nl rfl)
                    · skip
                      refine mm_aload_n C dX2_need_73 rfl 0 rfl ?_
                      refine mm_get C 0 3 (fun w h => mm_wc (inX2 w h)) rfl rfl (by decide) (mm_wc tw75) rfl rfl dX2_need_74 ?_
                      refine mm_iload_n C dX2_need_77 rfl 1 rfl ?_
                      refine mm_iconst (v := 4) C dX2_need_78 (by decide) ?_
                      refine mm_iload_n C dX2_need_79 rfl 2 rfl ?_
                      refine mm_iadd C dX2_need_80 ?_
                      refine mm_iload_n C dX2_need_81 rfl 3 rfl ?_
                      refine mm_iload C dX2_need_82 4 rfl ?_
                      refine mm_iload C dX2_need_84 5 rfl ?_
                      refine mm_rvN C 3 sn_X2_X0_tell_91 rfl rfl (kX0_tell _ _ u F a (4 + b) e h v k c i hI (cs_lt hI c70) (ix_m (c := 20) hI.k40 c5 (th4 (bt c14 rfl)) (by decide) (by decide) (by decide))) ⟨rfl, rfl⟩ ⟨mm_nl rfl, mm_nl rfl⟩ rfl rfl (mm_nl rfl) ⟨mm_nl rfl, mm_nl rfl⟩ dX2_need_86 ?_
                      exact mm_vret C K dX2_need_89 (by rw [show o_need u a b e h v = .inr (none, ks_tell u a (4 + b) e h v) from by simp [o_need, c5, c14, c22, c29, c34, c40, c45, c52, c60, c70]]; rfl) rfl (mm_nl rfl) (mm_nl rfl)
set_option maxHeartbeats 4000000 in
set_option maxRecDepth 100000 in
theorem kX2_close (l : Launch) (D : va_G) (u : ks_S) (F : List mm_c) (a b : Int32) (k c i : Nat) (hI : ks_I u k c i)  : mm_Po l D yX2_close (mm_cw yX2_close cX2_close 3 none) mm_rp [.ref 0, .int a, .int b] (ks_H u F) (ks_o F (o_close u a b)) := by
  refine mm_start (own := RX2) (by decide) rfl rfl (mm_nl rfl) (fun _ => rfl) (fun _ => rfl) (fun g ad hl hD hnL C K => ?_)
  subst hl
  subst hD
  show mm_M g ad 0 0 (ks_H u F) 0 [(0, .ref 0), (1, .int a), (2, .int b)] []
  refine mm_aload_n C dX2_close_0 rfl 0 rfl ?_
  refine mm_iload_n C dX2_close_1 rfl 1 rfl ?_
  refine mm_riV C 0 sv_X2_X2_isKind_65 rfl rfl (kX2_isKind _ _ u F a) ⟨rfl, rfl⟩ ⟨mm_nl rfl, mm_nl rfl⟩ rfl rfl (mm_nl rfl) ⟨mm_nl rfl, mm_nl rfl⟩ dX2_close_2 ?_
  refine mm_ck C ss_X2_X2_checkKnown_54 (kX2_checkKnown _ _ _ (b_below a (k_kn u))) ⟨rfl, rfl⟩ ⟨mm_nl rfl, mm_nl rfl⟩ rfl rfl (mm_nl rfl) ⟨mm_nl rfl, mm_nl rfl⟩ dX2_close_5 (fun c5 => ?_) (fun c5 => ?_)
  · skip
    exact mm_out C K (show ks_o F (o_close u a b) = .inl x_ia from by simp [ks_o, o_close, c5]) (mm_nl rfl) (mm_nl rfl)
  · skip
    refine mm_iload_n C dX2_close_8 rfl 2 rfl ?_
    refine mm_iconst (v := (-1)) C dX2_close_9 (by decide) ?_
    refine mm_icmp_eq (tgt := 20) C dX2_close_10 (by decide) (fun c10 => ?_) (fun c10 => ?_)
    · skip
      refine mm_iconst (v := 1) C dX2_close_20 (by decide) ?_
      refine mm_goto (tgt := 25) C dX2_close_21 (by decide) ?_
      refine mm_ck C ss_X2_X2_checkRange_84 (kX2_checkRange _ _ _ true) ⟨rfl, rfl⟩ ⟨mm_nl rfl, mm_nl rfl⟩ rfl rfl (mm_nl rfl) ⟨mm_nl rfl, mm_nl rfl⟩ dX2_close_25 (fun c25 => ?_) (fun c25 => ?_)
      · skip
        cases c25
      · skip
        refine mm_aload_n C dX2_close_28 rfl 0 rfl ?_
        refine mm_get C 0 2 (fun w h => mm_wc (inX2 w h)) rfl rfl (by decide) (mm_wc tw74) rfl rfl dX2_close_29 ?_
        refine mm_iload_n C dX2_close_32 rfl 1 rfl ?_
        refine mm_iload_n C dX2_close_33 rfl 2 rfl ?_
        refine mm_iast C 2 rfl (ix_b hI.k40 c5) dX2_close_34 ?_
        exact mm_vret C K dX2_close_35 (by rw [show o_close u a b = .inr (none, (k_kn u, k_pa u, upd (k_cl u) a.toNatClampNeg b, k_nw u, k_tb u, k_dy u, k_hw u, k_vl u, k_cs u, k_ta u, k_ts u, k_tu u, k_us u, k_inn u, k_ko u, k_ao u, k_be u, k_se u, k_sk u)) from by simp [o_close, c5, if_pos c10, c25]]; rfl) rfl (mm_nl rfl) (mm_nl rfl)
    · skip
      refine mm_iload_n C dX2_close_13 rfl 2 rfl ?_
      refine mm_riS C ss_X2_X2_isDay_78 (kX2_isDay _ _ _ b) ⟨rfl, rfl⟩ ⟨mm_nl rfl, mm_nl rfl⟩ rfl rfl (mm_nl rfl) ⟨mm_nl rfl, mm_nl rfl⟩ dX2_close_14 ?_
      refine mm_ifb_eq (tgt := 24) C dX2_close_17 (by decide) (fun c17 => ?_) (fun c17 => ?_)
      · skip
        refine mm_iconst (v := 0) C dX2_close_24 (by decide) ?_
        refine mm_ck C ss_X2_X2_checkRange_84 (kX2_checkRange _ _ _ false) ⟨rfl, rfl⟩ ⟨mm_nl rfl, mm_nl rfl⟩ rfl rfl (mm_nl rfl) ⟨mm_nl rfl, mm_nl rfl⟩ dX2_close_25 (fun c25 => ?_) (fun c25 => ?_)
        · skip
          exact mm_out C K (show ks_o F (o_close u a b) = .inl x_io from by simp [ks_o, o_close, c5, if_pos c10, c10, c17, c25]) (mm_nl rfl) (mm_nl rfl)
        · skip
          cases c25
      · skip
        refine mm_iconst (v := 1) C dX2_close_20 (by decide) ?_
        refine mm_goto (tgt := 25) C dX2_close_21 (by decide) ?_
        refine mm_ck C ss_X2_X2_checkRange_84 (kX2_checkRange _ _ _ true) ⟨rfl, rfl⟩ ⟨mm_nl rfl, mm_nl rfl⟩ rfl rfl (mm_nl rfl) ⟨mm_nl rfl, mm_nl rfl⟩ dX2_close_25 (fun c25 => ?_) (fun c25 => ?_)
        · skip
          cases c25
        · skip
          refine mm_aload_n C dX2_close_28 rfl 0 rfl ?_
          refine mm_get C 0 2 (fun w h => mm_wc (inX2 w h)) rfl rfl (by decide) (mm_wc tw74) rfl rfl dX2_close_29 ?_
          refine mm_iload_n C dX2_close_32 rfl 1 rfl ?_
          refine mm_iload_n C dX2_close_33 rfl 2 rfl ?_
          refine mm_iast C 2 rfl (ix_b hI.k40 c5) dX2_close_34 ?_
          exact mm_vret C K dX2_close_35 (by rw [show o_close u a b = .inr (none, (k_kn u, k_pa u, upd (k_cl u) a.toNatClampNeg b, k_nw u, k_tb u, k_dy u, k_hw u, k_vl u, k_cs u, k_ta u, k_ts u, k_tu u, k_us u, k_inn u, k_ko u, k_ao u, k_be u, k_se u, k_sk u)) from by simp [o_close, c5, if_pos c10, c10, c17, c25]]; rfl) rfl (mm_nl rfl) (mm_nl rfl)
set_option maxHeartbeats 4000000 in
set_option maxRecDepth 100000 in
theorem kX2_area (l : Launch) (D : va_G) (u : ks_S) (F : List mm_c) (a b e : Int32) (k c i : Nat) (hI : ks_I u k c i)  : mm_Po l D yX2_area (mm_cw yX2_area cX2_area 4 none) mm_rp [.ref 0, .int a, .int b, .int e] (ks_H u F) (ks_o F (o_area u a b e)) := by
  refine mm_start (own := RX2) (by decide) rfl rfl (mm_nl rfl) (fun _ => rfl) (fun _ => rfl) (fun g ad hl hD hnL C K => ?_)
  subst hl
  subst hD
  show mm_M g ad 0 0 (ks_H u F) 0 [(0, .ref 0), (1, .int a), (2, .int b), (3, .int e)] []
  refine mm_aload_n C dX2_area_0 rfl 0 rfl ?_
  refine mm_iload_n C dX2_area_1 rfl 1 rfl ?_
  refine mm_riV C 0 sv_X2_X2_isKind_65 rfl rfl (kX2_isKind _ _ u F a) ⟨rfl, rfl⟩ ⟨mm_nl rfl, mm_nl rfl⟩ rfl rfl (mm_nl rfl) ⟨mm_nl rfl, mm_nl rfl⟩ dX2_area_2 ?_
  refine mm_ifb_eq (tgt := 20) C dX2_area_5 (by decide) (fun c5 => ?_) (fun c5 => ?_)
  · skip
    refine mm_iconst (v := 0) C dX2_area_20 (by decide) ?_
    refine mm_ck C ss_X2_X2_checkKnown_54 (kX2_checkKnown _ _ _ false) ⟨rfl, rfl⟩ ⟨mm_nl rfl, mm_nl rfl⟩ rfl rfl (mm_nl rfl) ⟨mm_nl rfl, mm_nl rfl⟩ dX2_area_21 (fun c21 => ?_) (fun c21 => ?_)
    · skip
      exact mm_out C K (show ks_o F (o_area u a b e) = .inl x_ia from by simp [ks_o, o_area, c5, c21]) (mm_nl rfl) (mm_nl rfl)
    · skip
      cases c21
  · skip
    refine mm_aload_n C dX2_area_8 rfl 0 rfl ?_
    refine mm_iload_n C dX2_area_9 rfl 3 rfl ?_
    refine mm_riV C 0 sv_X2_X2_isKindOrNone_50 rfl rfl (kX2_isKindOrNone _ _ u F e) ⟨rfl, rfl⟩ ⟨mm_nl rfl, mm_nl rfl⟩ rfl rfl (mm_nl rfl) ⟨mm_nl rfl, mm_nl rfl⟩ dX2_area_10 ?_
    refine mm_ifb_eq (tgt := 20) C dX2_area_13 (by decide) (fun c13 => ?_) (fun c13 => ?_)
    · skip
      refine mm_iconst (v := 0) C dX2_area_20 (by decide) ?_
      refine mm_ck C ss_X2_X2_checkKnown_54 (kX2_checkKnown _ _ _ false) ⟨rfl, rfl⟩ ⟨mm_nl rfl, mm_nl rfl⟩ rfl rfl (mm_nl rfl) ⟨mm_nl rfl, mm_nl rfl⟩ dX2_area_21 (fun c21 => ?_) (fun c21 => ?_)
      · skip
        exact mm_out C K (show ks_o F (o_area u a b e) = .inl x_ia from by simp [ks_o, o_area, c5, c13, c21]) (mm_nl rfl) (mm_nl rfl)
      · skip
        cases c21
    · skip
      refine mm_iconst (v := 1) C dX2_area_16 (by decide) ?_
      refine mm_goto (tgt := 21) C dX2_area_17 (by decide) ?_
      refine mm_ck C ss_X2_X2_checkKnown_54 (kX2_checkKnown _ _ _ true) ⟨rfl, rfl⟩ ⟨mm_nl rfl, mm_nl rfl⟩ rfl rfl (mm_nl rfl) ⟨mm_nl rfl, mm_nl rfl⟩ dX2_area_21 (fun c21 => ?_) (fun c21 => ?_)
      · skip
        cases c21
      · skip
        refine mm_iload_n C dX2_area_24 rfl 2 rfl ?_
        refine mm_bipush (v := 10) C dX2_area_25 (by decide) ?_
        refine mm_riS C ss_X2_X2_isBelow_75 (kX2_isBelow _ _ _ b 10) ⟨rfl, rfl⟩ ⟨mm_nl rfl, mm_nl rfl⟩ rfl rfl (mm_nl rfl) ⟨mm_nl rfl, mm_nl rfl⟩ dX2_area_27 ?_
        refine mm_ck C ss_X2_X2_checkRange_84 (kX2_checkRange _ _ _ (b_below b 10)) ⟨rfl, rfl⟩ ⟨mm_nl rfl, mm_nl rfl⟩ rfl rfl (mm_nl rfl) ⟨mm_nl rfl, mm_nl rfl⟩ dX2_area_30 (fun c30 => ?_) (fun c30 => ?_)
        · skip
          exact mm_out C K (show ks_o F (o_area u a b e) = .inl x_io from by simp [ks_o, o_area, c5, c13, c21, c30]) (mm_nl rfl) (mm_nl rfl)
        · skip
          refine mm_aload_n C dX2_area_33 rfl 0 rfl ?_
          refine mm_iload_n C dX2_area_34 rfl 3 rfl ?_
          refine mm_iload_n C dX2_area_35 rfl 2 rfl ?_
          refine mm_iload_n C dX2_area_36 rfl 1 rfl ?_
          refine mm_riV C 0 sv_X2_X2_leadsTo_95 rfl rfl (kX2_leadsTo _ _ u F e b a hI.k40 (bt c30 rfl)) ⟨rfl, rfl⟩ ⟨mm_nl rfl, mm_nl rfl⟩ rfl rfl (mm_nl rfl) ⟨mm_nl rfl, mm_nl rfl⟩ dX2_area_37 ?_
          refine mm_ifb_ne (tgt := 47) C dX2_area_40 (by decide) (fun c40 => ?_) (fun c40 => ?_)
          · skip
            refine mm_iconst (v := 0) C dX2_area_47 (by decide) ?_
            refine mm_ck C ss_X2_X2_checkState_72 (kX2_checkState _ _ _ false) ⟨rfl, rfl⟩ ⟨mm_nl rfl, mm_nl rfl⟩ rfl rfl (mm_nl rfl) ⟨mm_nl rfl, mm_nl rfl⟩ dX2_area_48 (fun c48 => ?_) (fun c48 => ?_)
            · skip
              exact mm_out C K (show ks_o F (o_area u a b e) = .inl x_is from by simp [ks_o, o_area, c5, c13, c21, c30, c40, c48]) (mm_nl rfl) (mm_nl rfl)
            · skip
              cases c48
          · skip
            refine mm_iconst (v := 1) C dX2_area_43 (by decide) ?_
            refine mm_goto (tgt := 48) C dX2_area_44 (by decide) ?_
            refine mm_ck C ss_X2_X2_checkState_72 (kX2_checkState _ _ _ true) ⟨rfl, rfl⟩ ⟨mm_nl rfl, mm_nl rfl⟩ rfl rfl (mm_nl rfl) ⟨mm_nl rfl, mm_nl rfl⟩ dX2_area_48 (fun c48 => ?_) (fun c48 => ?_)
            · skip
              cases c48
            · skip
              refine mm_aload_n C dX2_area_51 rfl 0 rfl ?_
              refine mm_get C 0 4 (fun w h => mm_wc (inX2 w h)) rfl rfl (by decide) (mm_wc tw76) rfl rfl dX2_area_52 ?_
              refine mm_iload_n C dX2_area_55 rfl 1 rfl ?_
              refine mm_iload_n C dX2_area_56 rfl 2 rfl ?_
              refine mm_iload_n C dX2_area_57 rfl 3 rfl ?_
              refine mm_rvN C 9 sn_X2_X1_put_99 rfl rfl (kX1_putA _ _ u F a b e (ix_m (c := 10) hI.k40 c5 (bt c30 rfl) (by decide) (by decide) (by decide))) ⟨rfl, rfl⟩ ⟨mm_nl rfl, mm_nl rfl⟩ rfl rfl (mm_nl rfl) ⟨mm_nl rfl, mm_nl rfl⟩ dX2_area_58 ?_
              exact mm_vret C K dX2_area_61 (by rw [show o_area u a b e = .inr (none, ks_putA u a b e) from by simp [o_area, c5, c13, c21, c30, c40, c48]]; rfl) rfl (mm_nl rfl) (mm_nl rfl)
set_option maxHeartbeats 4000000 in
set_option maxRecDepth 100000 in
theorem kX2_upgrade (l : Launch) (D : va_G) (u : ks_S) (F : List mm_c) (a b e : Int32) (k c i : Nat) (hI : ks_I u k c i)  : mm_Po l D yX2_upgrade (mm_cw yX2_upgrade cX2_upgrade 4 none) mm_rp [.ref 0, .int a, .int b, .int e] (ks_H u F) (ks_o F (o_upgrade u a b e)) := by
  refine mm_start (own := RX2) (by decide) rfl rfl (mm_nl rfl) (fun _ => rfl) (fun _ => rfl) (fun g ad hl hD hnL C K => ?_)
  subst hl
  subst hD
  show mm_M g ad 0 0 (ks_H u F) 0 [(0, .ref 0), (1, .int a), (2, .int b), (3, .int e)] []
  refine mm_aload_n C dX2_upgrade_0 rfl 0 rfl ?_
  refine mm_iload_n C dX2_upgrade_1 rfl 1 rfl ?_
  refine mm_riV C 0 sv_X2_X2_isKind_65 rfl rfl (kX2_isKind _ _ u F a) ⟨rfl, rfl⟩ ⟨mm_nl rfl, mm_nl rfl⟩ rfl rfl (mm_nl rfl) ⟨mm_nl rfl, mm_nl rfl⟩ dX2_upgrade_2 ?_
  refine mm_ifb_eq (tgt := 20) C dX2_upgrade_5 (by decide) (fun c5 => ?_) (fun c5 => ?_)
  · skip
    refine mm_iconst (v := 0) C dX2_upgrade_20 (by decide) ?_
    refine mm_ck C ss_X2_X2_checkKnown_54 (kX2_checkKnown _ _ _ false) ⟨rfl, rfl⟩ ⟨mm_nl rfl, mm_nl rfl⟩ rfl rfl (mm_nl rfl) ⟨mm_nl rfl, mm_nl rfl⟩ dX2_upgrade_21 (fun c21 => ?_) (fun c21 => ?_)
    · skip
      exact mm_out C K (show ks_o F (o_upgrade u a b e) = .inl x_ia from by simp [ks_o, o_upgrade, c5, c21]) (mm_nl rfl) (mm_nl rfl)
    · skip
      cases c21
  · skip
    refine mm_aload_n C dX2_upgrade_8 rfl 0 rfl ?_
    refine mm_iload_n C dX2_upgrade_9 rfl 3 rfl ?_
    refine mm_riV C 0 sv_X2_X2_isKindOrNone_50 rfl rfl (kX2_isKindOrNone _ _ u F e) ⟨rfl, rfl⟩ ⟨mm_nl rfl, mm_nl rfl⟩ rfl rfl (mm_nl rfl) ⟨mm_nl rfl, mm_nl rfl⟩ dX2_upgrade_10 ?_
    refine mm_ifb_eq (tgt := 20) C dX2_upgrade_13 (by decide) (fun c13 => ?_) (fun c13 => ?_)
    · skip
      refine mm_iconst (v := 0) C dX2_upgrade_20 (by decide) ?_
      refine mm_ck C ss_X2_X2_checkKnown_54 (kX2_checkKnown _ _ _ false) ⟨rfl, rfl⟩ ⟨mm_nl rfl, mm_nl rfl⟩ rfl rfl (mm_nl rfl) ⟨mm_nl rfl, mm_nl rfl⟩ dX2_upgrade_21 (fun c21 => ?_) (fun c21 => ?_)
      · skip
        exact mm_out C K (show ks_o F (o_upgrade u a b e) = .inl x_ia from by simp [ks_o, o_upgrade, c5, c13, c21]) (mm_nl rfl) (mm_nl rfl)
      · skip
        cases c21
    · skip
      refine mm_iconst (v := 1) C dX2_upgrade_16 (by decide) ?_
      refine mm_goto (tgt := 21) C dX2_upgrade_17 (by decide) ?_
      refine mm_ck C ss_X2_X2_checkKnown_54 (kX2_checkKnown _ _ _ true) ⟨rfl, rfl⟩ ⟨mm_nl rfl, mm_nl rfl⟩ rfl rfl (mm_nl rfl) ⟨mm_nl rfl, mm_nl rfl⟩ dX2_upgrade_21 (fun c21 => ?_) (fun c21 => ?_)
      · skip
        cases c21
      · skip
        refine mm_iload_n C dX2_upgrade_24 rfl 2 rfl ?_
        refine mm_bipush (v := 32) C dX2_upgrade_25 (by decide) ?_
        refine mm_riS C ss_X2_X2_isBelow_75 (kX2_isBelow _ _ _ b 32) ⟨rfl, rfl⟩ ⟨mm_nl rfl, mm_nl rfl⟩ rfl rfl (mm_nl rfl) ⟨mm_nl rfl, mm_nl rfl⟩ dX2_upgrade_27 ?_
        refine mm_ck C ss_X2_X2_checkRange_84 (kX2_checkRange _ _ _ (b_below b 32)) ⟨rfl, rfl⟩ ⟨mm_nl rfl, mm_nl rfl⟩ rfl rfl (mm_nl rfl) ⟨mm_nl rfl, mm_nl rfl⟩ dX2_upgrade_30 (fun c30 => ?_) (fun c30 => ?_)
        · skip
          exact mm_out C K (show ks_o F (o_upgrade u a b e) = .inl x_io from by simp [ks_o, o_upgrade, c5, c13, c21, c30]) (mm_nl rfl) (mm_nl rfl)
        · skip
          refine mm_iload_n C dX2_upgrade_33 rfl 3 rfl ?_
          refine mm_iload_n C dX2_upgrade_34 rfl 1 rfl ?_
          refine mm_icmp_eq (tgt := 42) C dX2_upgrade_35 (by decide) (fun c35 => ?_) (fun c35 => ?_)
          · skip
            refine mm_iconst (v := 0) C dX2_upgrade_42 (by decide) ?_
            refine mm_ck C ss_X2_X2_checkState_72 (kX2_checkState _ _ _ false) ⟨rfl, rfl⟩ ⟨mm_nl rfl, mm_nl rfl⟩ rfl rfl (mm_nl rfl) ⟨mm_nl rfl, mm_nl rfl⟩ dX2_upgrade_43 (fun c43 => ?_) (fun c43 => ?_)
            · skip
              exact mm_out C K (show ks_o F (o_upgrade u a b e) = .inl x_is from by simp [ks_o, o_upgrade, c5, c13, c21, c30, if_pos c35, c43]) (mm_nl rfl) (mm_nl rfl)
            · skip
              cases c43
          · skip
            refine mm_iconst (v := 1) C dX2_upgrade_38 (by decide) ?_
            refine mm_goto (tgt := 43) C dX2_upgrade_39 (by decide) ?_
            refine mm_ck C ss_X2_X2_checkState_72 (kX2_checkState _ _ _ true) ⟨rfl, rfl⟩ ⟨mm_nl rfl, mm_nl rfl⟩ rfl rfl (mm_nl rfl) ⟨mm_nl rfl, mm_nl rfl⟩ dX2_upgrade_43 (fun c43 => ?_) (fun c43 => ?_)
            · skip
              cases c43
            · skip
              refine mm_iload_n C dX2_upgrade_46 rfl 3 rfl ?_
              refine mm_iconst (v := (-1)) C dX2_upgrade_47 (by decide) ?_
              refine mm_icmp_eq (tgt := 76) C dX2_upgrade_48 (by decide) (fun c48 => ?_) (fun c48 => ?_)
              · skip
                refine mm_iconst (v := 1) C dX2_upgrade_76 (by decide) ?_
                refine mm_goto (tgt := 81) C dX2_upgrade_77 (by decide) ?_
                refine mm_ck C ss_X2_X2_checkRoom_62 (kX2_checkRoom _ _ _ true) ⟨rfl, rfl⟩ ⟨mm_nl rfl, mm_nl rfl⟩ rfl rfl (mm_nl rfl) ⟨mm_nl rfl, mm_nl rfl⟩ dX2_upgrade_81 (fun c81 => ?_) (fun c81 => ?_)
                · skip
                  cases c81
                · skip
                  refine mm_aload_n C dX2_upgrade_84 rfl 0 rfl ?_
                  refine mm_get C 0 5 (fun w h => mm_wc (inX2 w h)) rfl rfl (by decide) (mm_wc tw77) rfl rfl dX2_upgrade_85 ?_
                  refine mm_iload_n C dX2_upgrade_88 rfl 1 rfl ?_
                  refine mm_iload_n C dX2_upgrade_89 rfl 2 rfl ?_
                  refine mm_iload_n C dX2_upgrade_90 rfl 3 rfl ?_
                  refine mm_rvN C 11 sn_X2_X1_put_99 rfl rfl (kX1_putU _ _ u F a b e (ix_m (c := 32) hI.k40 c5 (bt c30 rfl) (by decide) (by decide) (by decide))) ⟨rfl, rfl⟩ ⟨mm_nl rfl, mm_nl rfl⟩ rfl rfl (mm_nl rfl) ⟨mm_nl rfl, mm_nl rfl⟩ dX2_upgrade_91 ?_
                  exact mm_vret C K dX2_upgrade_94 (by rw [show o_upgrade u a b e = .inr (none, ks_putU u a b e) from by simp [o_upgrade, c5, c13, c21, c30, c35, c43, if_pos c48, c81]]; rfl) rfl (mm_nl rfl) (mm_nl rfl)
              · skip
                refine mm_aload_n C dX2_upgrade_51 rfl 0 rfl ?_
                refine mm_get C 0 5 (fun w h => mm_wc (inX2 w h)) rfl rfl (by decide) (mm_wc tw77) rfl rfl dX2_upgrade_52 ?_
                refine mm_iload_n C dX2_upgrade_55 rfl 1 rfl ?_
                refine mm_iload_n C dX2_upgrade_56 rfl 2 rfl ?_
                refine mm_riN C 11 sn_X2_X1_target_103 rfl rfl (kX1_targetU _ _ u F a b (ix_m (c := 32) hI.k40 c5 (bt c30 rfl) (by decide) (by decide) (by decide))) ⟨rfl, rfl⟩ ⟨mm_nl rfl, mm_nl rfl⟩ rfl rfl (mm_nl rfl) ⟨mm_nl rfl, mm_nl rfl⟩ dX2_upgrade_57 ?_
                refine mm_iconst (v := (-1)) C dX2_upgrade_60 (by decide) ?_
                refine mm_icmp_ne (tgt := 76) C dX2_upgrade_61 (by decide) (fun c61 => ?_) (fun c61 => ?_)
                · skip
                  refine mm_iconst (v := 1) C dX2_upgrade_76 (by decide) ?_
                  refine mm_goto (tgt := 81) C dX2_upgrade_77 (by decide) ?_
                  refine mm_ck C ss_X2_X2_checkRoom_62 (kX2_checkRoom _ _ _ true) ⟨rfl, rfl⟩ ⟨mm_nl rfl, mm_nl rfl⟩ rfl rfl (mm_nl rfl) ⟨mm_nl rfl, mm_nl rfl⟩ dX2_upgrade_81 (fun c81 => ?_) (fun c81 => ?_)
                  · skip
                    cases c81
                  · skip
                    refine mm_aload_n C dX2_upgrade_84 rfl 0 rfl ?_
                    refine mm_get C 0 5 (fun w h => mm_wc (inX2 w h)) rfl rfl (by decide) (mm_wc tw77) rfl rfl dX2_upgrade_85 ?_
                    refine mm_iload_n C dX2_upgrade_88 rfl 1 rfl ?_
                    refine mm_iload_n C dX2_upgrade_89 rfl 2 rfl ?_
                    refine mm_iload_n C dX2_upgrade_90 rfl 3 rfl ?_
                    refine mm_rvN C 11 sn_X2_X1_put_99 rfl rfl (kX1_putU _ _ u F a b e (ix_m (c := 32) hI.k40 c5 (bt c30 rfl) (by decide) (by decide) (by decide))) ⟨rfl, rfl⟩ ⟨mm_nl rfl, mm_nl rfl⟩ rfl rfl (mm_nl rfl) ⟨mm_nl rfl, mm_nl rfl⟩ dX2_upgrade_91 ?_
                    exact mm_vret C K dX2_upgrade_94 (by rw [show o_upgrade u a b e = .inr (none, ks_putU u a b e) from by simp [o_upgrade, c5, c13, c21, c30, c35, c43, if_pos c48, c48, c61, c81]]; rfl) rfl (mm_nl rfl) (mm_nl rfl)
                · skip
                  refine mm_aload_n C dX2_upgrade_64 rfl 0 rfl ?_
                  refine mm_get C 0 5 (fun w h => mm_wc (inX2 w h)) rfl rfl (by decide) (mm_wc tw77) rfl rfl dX2_upgrade_65 ?_
                  refine mm_getN C 11 2 (fun w h => mm_wc (inX1 w h)) rfl rfl (by decide) (List.mem_of_getElem? (i := 5) rfl) rfl rfl dX2_upgrade_68 ?_
                  refine mm_bipush (v := 100) C dX2_upgrade_71 (by decide) ?_
                  refine mm_icmp_ge (tgt := 80) C dX2_upgrade_73 (by decide) (fun c73 => ?_) (fun c73 => ?_)
                  · skip
                    refine mm_iconst (v := 0) C dX2_upgrade_80 (by decide) ?_
                    refine mm_ck C ss_X2_X2_checkRoom_62 (kX2_checkRoom _ _ _ false) ⟨rfl, rfl⟩ ⟨mm_nl rfl, mm_nl rfl⟩ rfl rfl (mm_nl rfl) ⟨mm_nl rfl, mm_nl rfl⟩ dX2_upgrade_81 (fun c81 => ?_) (fun c81 => ?_)
                    · skip
                      exact mm_out C K (show ks_o F (o_upgrade u a b e) = .inl x_uo from by simp [ks_o, o_upgrade, c5, c13, c21, c30, c35, c43, if_pos c48, c48, c61, if_pos c61, c73, c81]) (mm_nl rfl) (mm_nl rfl)
                    · skip
                      cases c81
                  · skip
                    refine mm_iconst (v := 1) C dX2_upgrade_76 (by decide) ?_
                    refine mm_goto (tgt := 81) C dX2_upgrade_77 (by decide) ?_
                    refine mm_ck C ss_X2_X2_checkRoom_62 (kX2_checkRoom _ _ _ true) ⟨rfl, rfl⟩ ⟨mm_nl rfl, mm_nl rfl⟩ rfl rfl (mm_nl rfl) ⟨mm_nl rfl, mm_nl rfl⟩ dX2_upgrade_81 (fun c81 => ?_) (fun c81 => ?_)
                    · skip
                      cases c81
                    · skip
                      refine mm_aload_n C dX2_upgrade_84 rfl 0 rfl ?_
                      refine mm_get C 0 5 (fun w h => mm_wc (inX2 w h)) rfl rfl (by decide) (mm_wc tw77) rfl rfl dX2_upgrade_85 ?_
                      refine mm_iload_n C dX2_upgrade_88 rfl 1 rfl ?_
                      refine mm_iload_n C dX2_upgrade_89 rfl 2 rfl ?_
                      refine mm_iload_n C dX2_upgrade_90 rfl 3 rfl ?_
                      refine mm_rvN C 11 sn_X2_X1_put_99 rfl rfl (kX1_putU _ _ u F a b e (ix_m (c := 32) hI.k40 c5 (bt c30 rfl) (by decide) (by decide) (by decide))) ⟨rfl, rfl⟩ ⟨mm_nl rfl, mm_nl rfl⟩ rfl rfl (mm_nl rfl) ⟨mm_nl rfl, mm_nl rfl⟩ dX2_upgrade_91 ?_
                      exact mm_vret C K dX2_upgrade_94 (by rw [show o_upgrade u a b e = .inr (none, ks_putU u a b e) from by simp [o_upgrade, c5, c13, c21, c30, c35, c43, if_pos c48, c48, c61, if_pos c61, c73, c81]]; rfl) rfl (mm_nl rfl) (mm_nl rfl)
set_option maxHeartbeats 4000000 in
set_option maxRecDepth 100000 in
theorem kX2_in (l : Launch) (D : va_G) (u : ks_S) (F : List mm_c) (a b : Int32) (k c i : Nat) (hI : ks_I u k c i)  : mm_Po l D yX2_in (mm_cw yX2_in cX2_in 3 (some .int)) mm_rp [.ref 0, .int a, .int b] (ks_H u F) (ks_o F (o_in u a b)) := by
  refine mm_start (own := RX2) (by decide) rfl rfl (mm_nl rfl) (fun _ => rfl) (fun _ => rfl) (fun g ad hl hD hnL C K => ?_)
  subst hl
  subst hD
  show mm_M g ad 0 0 (ks_H u F) 0 [(0, .ref 0), (1, .int a), (2, .int b)] []
  refine mm_aload_n C dX2_in_0 rfl 0 rfl ?_
  refine mm_iload_n C dX2_in_1 rfl 1 rfl ?_
  refine mm_riV C 0 sv_X2_X2_isKind_65 rfl rfl (kX2_isKind _ _ u F a) ⟨rfl, rfl⟩ ⟨mm_nl rfl, mm_nl rfl⟩ rfl rfl (mm_nl rfl) ⟨mm_nl rfl, mm_nl rfl⟩ dX2_in_2 ?_
  refine mm_ck C ss_X2_X2_checkKnown_54 (kX2_checkKnown _ _ _ (b_below a (k_kn u))) ⟨rfl, rfl⟩ ⟨mm_nl rfl, mm_nl rfl⟩ rfl rfl (mm_nl rfl) ⟨mm_nl rfl, mm_nl rfl⟩ dX2_in_5 (fun c5 => ?_) (fun c5 => ?_)
  · skip
    exact mm_out C K (show ks_o F (o_in u a b) = .inl x_ia from by simp [ks_o, o_in, c5]) (mm_nl rfl) (mm_nl rfl)
  · skip
    refine mm_iload_n C dX2_in_8 rfl 2 rfl ?_
    refine mm_bipush (v := 10) C dX2_in_9 (by decide) ?_
    refine mm_riS C ss_X2_X2_isBelow_75 (kX2_isBelow _ _ _ b 10) ⟨rfl, rfl⟩ ⟨mm_nl rfl, mm_nl rfl⟩ rfl rfl (mm_nl rfl) ⟨mm_nl rfl, mm_nl rfl⟩ dX2_in_11 ?_
    refine mm_ck C ss_X2_X2_checkRange_84 (kX2_checkRange _ _ _ (b_below b 10)) ⟨rfl, rfl⟩ ⟨mm_nl rfl, mm_nl rfl⟩ rfl rfl (mm_nl rfl) ⟨mm_nl rfl, mm_nl rfl⟩ dX2_in_14 (fun c14 => ?_) (fun c14 => ?_)
    · skip
      exact mm_out C K (show ks_o F (o_in u a b) = .inl x_io from by simp [ks_o, o_in, c5, c14]) (mm_nl rfl) (mm_nl rfl)
    · skip
      refine mm_aload_n C dX2_in_17 rfl 0 rfl ?_
      refine mm_iload_n C dX2_in_18 rfl 1 rfl ?_
      refine mm_iload_n C dX2_in_19 rfl 2 rfl ?_
      refine mm_riV C 0 sv_X2_X2_kindInArea_127 rfl rfl (kX2_kindInArea _ _ u F a b hI.k40 (bt c14 rfl) c5) ⟨rfl, rfl⟩ ⟨mm_nl rfl, mm_nl rfl⟩ rfl rfl (mm_nl rfl) ⟨mm_nl rfl, mm_nl rfl⟩ dX2_in_20 ?_
      exact mm_iret C K rfl dX2_in_23 (by rw [show o_in u a b = .inr (some (f_ka (k_kn u) (k_ta u) b 40 a), u) from by simp [o_in, c5, c14]]; rfl) rfl (mm_nl rfl) (mm_nl rfl)
set_option maxHeartbeats 4000000 in
set_option maxRecDepth 100000 in
theorem kX2_has (l : Launch) (D : va_G) (u : ks_S) (F : List mm_c) (a b e : Int32) (k c i : Nat) (hI : ks_I u k c i)  : mm_Po l D yX2_has (mm_cw yX2_has cX2_has 4 (some .int)) mm_rp [.ref 0, .int a, .int b, .int e] (ks_H u F) (ks_o F (o_has u c a b e)) := by
  refine mm_start (own := RX2) (by decide) rfl rfl (mm_nl rfl) (fun _ => rfl) (fun _ => rfl) (fun g ad hl hD hnL C K => ?_)
  subst hl
  subst hD
  show mm_M g ad 0 0 (ks_H u F) 0 [(0, .ref 0), (1, .int a), (2, .int b), (3, .int e)] []
  refine mm_aload_n C dX2_has_0 rfl 0 rfl ?_
  refine mm_iload_n C dX2_has_1 rfl 1 rfl ?_
  refine mm_riV C 0 sv_X2_X2_isKind_65 rfl rfl (kX2_isKind _ _ u F a) ⟨rfl, rfl⟩ ⟨mm_nl rfl, mm_nl rfl⟩ rfl rfl (mm_nl rfl) ⟨mm_nl rfl, mm_nl rfl⟩ dX2_has_2 ?_
  refine mm_ifb_eq (tgt := 28) C dX2_has_5 (by decide) (fun c5 => ?_) (fun c5 => ?_)
  · skip
    refine mm_iconst (v := 0) C dX2_has_28 (by decide) ?_
    refine mm_ck C ss_X2_X2_checkKnown_54 (kX2_checkKnown _ _ _ false) ⟨rfl, rfl⟩ ⟨mm_nl rfl, mm_nl rfl⟩ rfl rfl (mm_nl rfl) ⟨mm_nl rfl, mm_nl rfl⟩ dX2_has_29 (fun c29 => ?_) (fun c29 => ?_)
    · skip
      exact mm_out C K (show ks_o F (o_has u c a b e) = .inl x_ia from by simp [ks_o, o_has, c5, c29]) (mm_nl rfl) (mm_nl rfl)
    · skip
      cases c29
  · skip
    refine mm_iload_n C dX2_has_8 rfl 2 rfl ?_
    refine mm_bipush (v := 6) C dX2_has_9 (by decide) ?_
    refine mm_riS C ss_X2_X2_isBelow_75 (kX2_isBelow _ _ _ b 6) ⟨rfl, rfl⟩ ⟨mm_nl rfl, mm_nl rfl⟩ rfl rfl (mm_nl rfl) ⟨mm_nl rfl, mm_nl rfl⟩ dX2_has_11 ?_
    refine mm_ifb_ne (tgt := 24) C dX2_has_14 (by decide) (fun c14 => ?_) (fun c14 => ?_)
    · skip
      refine mm_iconst (v := 1) C dX2_has_24 (by decide) ?_
      refine mm_goto (tgt := 29) C dX2_has_25 (by decide) ?_
      refine mm_ck C ss_X2_X2_checkKnown_54 (kX2_checkKnown _ _ _ true) ⟨rfl, rfl⟩ ⟨mm_nl rfl, mm_nl rfl⟩ rfl rfl (mm_nl rfl) ⟨mm_nl rfl, mm_nl rfl⟩ dX2_has_29 (fun c29 => ?_) (fun c29 => ?_)
      · skip
        cases c29
      · skip
        refine mm_iload_n C dX2_has_32 rfl 3 rfl ?_
        refine mm_riS C ss_X2_X2_isDay_78 (kX2_isDay _ _ _ e) ⟨rfl, rfl⟩ ⟨mm_nl rfl, mm_nl rfl⟩ rfl rfl (mm_nl rfl) ⟨mm_nl rfl, mm_nl rfl⟩ dX2_has_33 ?_
        refine mm_ck C ss_X2_X2_checkRange_84 (kX2_checkRange _ _ _ (b_day e)) ⟨rfl, rfl⟩ ⟨mm_nl rfl, mm_nl rfl⟩ rfl rfl (mm_nl rfl) ⟨mm_nl rfl, mm_nl rfl⟩ dX2_has_36 (fun c36 => ?_) (fun c36 => ?_)
        · skip
          exact mm_out C K (show ks_o F (o_has u c a b e) = .inl x_io from by simp [ks_o, o_has, c5, c14, c29, c36]) (mm_nl rfl) (mm_nl rfl)
        · skip
          have hz : hz_P b := Or.inl (bt (N := 6) c14 rfl)
          refine mm_iload_n C dX2_has_39 rfl 2 rfl ?_
          refine mm_iconst (v := 4) C dX2_has_40 (by decide) ?_
          refine mm_icmp_ne (tgt := 59) C dX2_has_41 (by decide) (fun c41 => ?_) (fun c41 => ?_)
          · skip
            refine mm_iload_n C dX2_has_59 rfl 2 rfl ?_
            refine mm_iconst (v := 5) C dX2_has_60 (by decide) ?_
            refine mm_icmp_ne (tgt := 70) C dX2_has_61 (by decide) (fun c61 => ?_) (fun c61 => ?_)
            · skip
              refine mm_iload_n C dX2_has_70 rfl 2 rfl ?_
              refine mm_iconst (v := 4) C dX2_has_71 (by decide) ?_
              refine mm_icmp_ge (tgt := 85) C dX2_has_72 (by decide) (fun c72 => ?_) (fun c72 => ?_)
              · skip
                refine mm_aload_n C dX2_has_85 rfl 0 rfl ?_
                refine mm_iload_n C dX2_has_86 rfl 1 rfl ?_
                refine mm_iload_n C dX2_has_87 rfl 2 rfl ?_
                refine mm_bipush (v := 10) C dX2_has_88 (by decide) ?_
                refine mm_isub C dX2_has_90 ?_
                refine mm_iload_n C dX2_has_91 rfl 3 rfl ?_
                refine mm_riV C 0 sv_X2_X2_needOf_124 rfl rfl (kX2_needOf _ _ u F a (b - 10) e k c i hI (hz_n hz c72 c41 c61)) ⟨rfl, rfl⟩ ⟨mm_nl rfl, mm_nl rfl⟩ rfl rfl (mm_nl rfl) ⟨mm_nl rfl, mm_nl rfl⟩ dX2_has_92 ?_
                exact mm_iret C K rfl dX2_has_95 (by rw [show o_has u c a b e = .inr (some (f_nd u c a (b - 10) e), u) from by simp [o_has, c5, c14, c29, c36, c41, c61, c72]]; rfl) rfl (mm_nl rfl) (mm_nl rfl)
              · skip
                refine mm_aload_n C dX2_has_75 rfl 0 rfl ?_
                refine mm_iload_n C dX2_has_76 rfl 1 rfl ?_
                refine mm_iload_n C dX2_has_77 rfl 2 rfl ?_
                refine mm_iload_n C dX2_has_78 rfl 3 rfl ?_
                refine mm_riV C 0 sv_X2_X2_wordOf_120 rfl rfl (kX2_wordOf _ _ u F a b e k c i hI (hz_w hz c72)) ⟨rfl, rfl⟩ ⟨mm_nl rfl, mm_nl rfl⟩ rfl rfl (mm_nl rfl) ⟨mm_nl rfl, mm_nl rfl⟩ dX2_has_79 ?_
                refine mm_goto (tgt := 95) C dX2_has_82 (by decide) ?_
                exact mm_iret C K rfl dX2_has_95 (by rw [show o_has u c a b e = .inr (some (f_wo u c a b e), u) from by simp [o_has, c5, c14, c29, c36, c41, c61, c72]]; rfl) rfl (mm_nl rfl) (mm_nl rfl)
            · skip
              refine mm_aload_n C dX2_has_64 rfl 0 rfl ?_
              refine mm_iload_n C dX2_has_65 rfl 1 rfl ?_
              refine mm_riV C 0 sv_X2_X2_depth_116 rfl rfl (kX2_depth _ _ u F a hI.k40 c5) ⟨rfl, rfl⟩ ⟨mm_nl rfl, mm_nl rfl⟩ rfl rfl (mm_nl rfl) ⟨mm_nl rfl, mm_nl rfl⟩ dX2_has_66 ?_
              exact mm_iret C K rfl dX2_has_69 (by rw [show o_has u c a b e = .inr (some (f_dp (k_kn u) (k_pa u) 40 (k_pa u a.toNatClampNeg) 0), u) from by simp [o_has, c5, c14, c29, c36, c41, if_pos c61]]; rfl) rfl (mm_nl rfl) (mm_nl rfl)
          · skip
            refine mm_aload_n C dX2_has_44 rfl 0 rfl ?_
            refine mm_iload_n C dX2_has_45 rfl 1 rfl ?_
            refine mm_iload_n C dX2_has_46 rfl 3 rfl ?_
            refine mm_riV C 0 sv_X2_X2_isClosed_113 rfl rfl (kX2_isClosed _ _ u F a e hI.k40) ⟨rfl, rfl⟩ ⟨mm_nl rfl, mm_nl rfl⟩ rfl rfl (mm_nl rfl) ⟨mm_nl rfl, mm_nl rfl⟩ dX2_has_47 ?_
            refine mm_ifb_eq (tgt := 57) C dX2_has_50 (by decide) (fun c50 => ?_) (fun c50 => ?_)
            · skip
              refine mm_iconst (v := 0) C dX2_has_57 (by decide) ?_
              exact mm_iret C K rfl dX2_has_58 (by rw [show o_has u c a b e = .inr (some (i_b (f_cl (k_kn u) (k_pa u) (k_cl u) e 40 a)), u) from by simp [o_has, c5, c14, c29, c36, if_pos c41, c50]]; rw [c50]; rfl) rfl (mm_nl rfl) (mm_nl rfl)
            · skip
              refine mm_iconst (v := 1) C dX2_has_53 (by decide) ?_
              refine mm_goto (tgt := 58) C dX2_has_54 (by decide) ?_
              exact mm_iret C K rfl dX2_has_58 (by rw [show o_has u c a b e = .inr (some (i_b (f_cl (k_kn u) (k_pa u) (k_cl u) e 40 a)), u) from by simp [o_has, c5, c14, c29, c36, if_pos c41, c50]]; rw [c50]; rfl) rfl (mm_nl rfl) (mm_nl rfl)
    · skip
      refine mm_iload_n C dX2_has_17 rfl 2 rfl ?_
      refine mm_riS C ss_X2_X2_isNeed_110 (kX2_isNeed _ _ _ b) ⟨rfl, rfl⟩ ⟨mm_nl rfl, mm_nl rfl⟩ rfl rfl (mm_nl rfl) ⟨mm_nl rfl, mm_nl rfl⟩ dX2_has_18 ?_
      refine mm_ifb_eq (tgt := 28) C dX2_has_21 (by decide) (fun c21 => ?_) (fun c21 => ?_)
      · skip
        refine mm_iconst (v := 0) C dX2_has_28 (by decide) ?_
        refine mm_ck C ss_X2_X2_checkKnown_54 (kX2_checkKnown _ _ _ false) ⟨rfl, rfl⟩ ⟨mm_nl rfl, mm_nl rfl⟩ rfl rfl (mm_nl rfl) ⟨mm_nl rfl, mm_nl rfl⟩ dX2_has_29 (fun c29 => ?_) (fun c29 => ?_)
        · skip
          exact mm_out C K (show ks_o F (o_has u c a b e) = .inl x_ia from by simp [ks_o, o_has, c5, c14, c29, c14, c21, c29]) (mm_nl rfl) (mm_nl rfl)
        · skip
          cases c29
      · skip
        refine mm_iconst (v := 1) C dX2_has_24 (by decide) ?_
        refine mm_goto (tgt := 29) C dX2_has_25 (by decide) ?_
        refine mm_ck C ss_X2_X2_checkKnown_54 (kX2_checkKnown _ _ _ true) ⟨rfl, rfl⟩ ⟨mm_nl rfl, mm_nl rfl⟩ rfl rfl (mm_nl rfl) ⟨mm_nl rfl, mm_nl rfl⟩ dX2_has_29 (fun c29 => ?_) (fun c29 => ?_)
        · skip
          cases c29
        · skip
          refine mm_iload_n C dX2_has_32 rfl 3 rfl ?_
          refine mm_riS C ss_X2_X2_isDay_78 (kX2_isDay _ _ _ e) ⟨rfl, rfl⟩ ⟨mm_nl rfl, mm_nl rfl⟩ rfl rfl (mm_nl rfl) ⟨mm_nl rfl, mm_nl rfl⟩ dX2_has_33 ?_
          refine mm_ck C ss_X2_X2_checkRange_84 (kX2_checkRange _ _ _ (b_day e)) ⟨rfl, rfl⟩ ⟨mm_nl rfl, mm_nl rfl⟩ rfl rfl (mm_nl rfl) ⟨mm_nl rfl, mm_nl rfl⟩ dX2_has_36 (fun c36 => ?_) (fun c36 => ?_)
          · skip
            exact mm_out C K (show ks_o F (o_has u c a b e) = .inl x_io from by simp [ks_o, o_has, c5, c14, c29, c14, c21, c29, c36]) (mm_nl rfl) (mm_nl rfl)
          · skip
            have hz : hz_P b := Or.inr (bneed c21)
            refine mm_iload_n C dX2_has_39 rfl 2 rfl ?_
            refine mm_iconst (v := 4) C dX2_has_40 (by decide) ?_
            refine mm_icmp_ne (tgt := 59) C dX2_has_41 (by decide) (fun c41 => ?_) (fun c41 => ?_)
            · skip
              refine mm_iload_n C dX2_has_59 rfl 2 rfl ?_
              refine mm_iconst (v := 5) C dX2_has_60 (by decide) ?_
              refine mm_icmp_ne (tgt := 70) C dX2_has_61 (by decide) (fun c61 => ?_) (fun c61 => ?_)
              · skip
                refine mm_iload_n C dX2_has_70 rfl 2 rfl ?_
                refine mm_iconst (v := 4) C dX2_has_71 (by decide) ?_
                refine mm_icmp_ge (tgt := 85) C dX2_has_72 (by decide) (fun c72 => ?_) (fun c72 => ?_)
                · skip
                  refine mm_aload_n C dX2_has_85 rfl 0 rfl ?_
                  refine mm_iload_n C dX2_has_86 rfl 1 rfl ?_
                  refine mm_iload_n C dX2_has_87 rfl 2 rfl ?_
                  refine mm_bipush (v := 10) C dX2_has_88 (by decide) ?_
                  refine mm_isub C dX2_has_90 ?_
                  refine mm_iload_n C dX2_has_91 rfl 3 rfl ?_
                  refine mm_riV C 0 sv_X2_X2_needOf_124 rfl rfl (kX2_needOf _ _ u F a (b - 10) e k c i hI (hz_n hz c72 c41 c61)) ⟨rfl, rfl⟩ ⟨mm_nl rfl, mm_nl rfl⟩ rfl rfl (mm_nl rfl) ⟨mm_nl rfl, mm_nl rfl⟩ dX2_has_92 ?_
                  exact mm_iret C K rfl dX2_has_95 (by rw [show o_has u c a b e = .inr (some (f_nd u c a (b - 10) e), u) from by simp [o_has, c5, c14, c29, c14, c21, c29, c36, c41, c61, c72]]; rfl) rfl (mm_nl rfl) (mm_nl rfl)
                · skip
                  refine mm_aload_n C dX2_has_75 rfl 0 rfl ?_
                  refine mm_iload_n C dX2_has_76 rfl 1 rfl ?_
                  refine mm_iload_n C dX2_has_77 rfl 2 rfl ?_
                  refine mm_iload_n C dX2_has_78 rfl 3 rfl ?_
                  refine mm_riV C 0 sv_X2_X2_wordOf_120 rfl rfl (kX2_wordOf _ _ u F a b e k c i hI (hz_w hz c72)) ⟨rfl, rfl⟩ ⟨mm_nl rfl, mm_nl rfl⟩ rfl rfl (mm_nl rfl) ⟨mm_nl rfl, mm_nl rfl⟩ dX2_has_79 ?_
                  refine mm_goto (tgt := 95) C dX2_has_82 (by decide) ?_
                  exact mm_iret C K rfl dX2_has_95 (by rw [show o_has u c a b e = .inr (some (f_wo u c a b e), u) from by simp [o_has, c5, c14, c29, c14, c21, c29, c36, c41, c61, c72]]; rfl) rfl (mm_nl rfl) (mm_nl rfl)
              · skip
                refine mm_aload_n C dX2_has_64 rfl 0 rfl ?_
                refine mm_iload_n C dX2_has_65 rfl 1 rfl ?_
                refine mm_riV C 0 sv_X2_X2_depth_116 rfl rfl (kX2_depth _ _ u F a hI.k40 c5) ⟨rfl, rfl⟩ ⟨mm_nl rfl, mm_nl rfl⟩ rfl rfl (mm_nl rfl) ⟨mm_nl rfl, mm_nl rfl⟩ dX2_has_66 ?_
                exact mm_iret C K rfl dX2_has_69 (by rw [show o_has u c a b e = .inr (some (f_dp (k_kn u) (k_pa u) 40 (k_pa u a.toNatClampNeg) 0), u) from by simp [o_has, c5, c14, c29, c14, c21, c29, c36, c41, if_pos c61]]; rfl) rfl (mm_nl rfl) (mm_nl rfl)
            · skip
              refine mm_aload_n C dX2_has_44 rfl 0 rfl ?_
              refine mm_iload_n C dX2_has_45 rfl 1 rfl ?_
              refine mm_iload_n C dX2_has_46 rfl 3 rfl ?_
              refine mm_riV C 0 sv_X2_X2_isClosed_113 rfl rfl (kX2_isClosed _ _ u F a e hI.k40) ⟨rfl, rfl⟩ ⟨mm_nl rfl, mm_nl rfl⟩ rfl rfl (mm_nl rfl) ⟨mm_nl rfl, mm_nl rfl⟩ dX2_has_47 ?_
              refine mm_ifb_eq (tgt := 57) C dX2_has_50 (by decide) (fun c50 => ?_) (fun c50 => ?_)
              · skip
                refine mm_iconst (v := 0) C dX2_has_57 (by decide) ?_
                exact mm_iret C K rfl dX2_has_58 (by rw [show o_has u c a b e = .inr (some (i_b (f_cl (k_kn u) (k_pa u) (k_cl u) e 40 a)), u) from by simp [o_has, c5, c14, c29, c14, c21, c29, c36, if_pos c41, c50]]; rw [c50]; rfl) rfl (mm_nl rfl) (mm_nl rfl)
              · skip
                refine mm_iconst (v := 1) C dX2_has_53 (by decide) ?_
                refine mm_goto (tgt := 58) C dX2_has_54 (by decide) ?_
                exact mm_iret C K rfl dX2_has_58 (by rw [show o_has u c a b e = .inr (some (i_b (f_cl (k_kn u) (k_pa u) (k_cl u) e 40 a)), u) from by simp [o_has, c5, c14, c29, c14, c21, c29, c36, if_pos c41, c50]]; rw [c50]; rfl) rfl (mm_nl rfl) (mm_nl rfl)
set_option maxHeartbeats 4000000 in
set_option maxRecDepth 100000 in
theorem kX2_uncovered (l : Launch) (D : va_G) (u : ks_S) (F : List mm_c) (a b : Int32) (k c i : Nat) (hI : ks_I u k c i) : mm_Po l D yX2_uncovered (mm_cw yX2_uncovered cX2_uncovered 6 (some .int)) mm_rp [.ref 0, .int a, .int b] (ks_H u F) (ks_o F (o_uncovered u k c a b)) := by
  refine mm_start (own := RX2) (by decide) rfl rfl (mm_nl rfl) (fun _ => rfl) (fun _ => rfl) (fun g ad hl hD hnL C K => ?_)
  subst hl
  subst hD
  have hk9 : k < 1000000 := by have := hI.2.1; omega
  have loop : ∀ (n : Nat) (j : Nat) (s y : Int32), j + n = k → f_uc u c s a n j y = f_uc u c (65535 &&& (f_sk (k_sk u) 20 ^^^ (-1))) a k 0 b → o_uncovered u k c a b = .inr (some (f_uc u c (65535 &&& (f_sk (k_sk u) 20 ^^^ (-1))) a k 0 b), u) → mm_M g ad 1 6 (ks_H u F) 35 [(5, .int (nI j)), (4, .int y), (3, .int s), (0, .ref 0), (1, .int a), (2, .int b)] [] := by
    intro n
    induction n with
    | zero =>
      intro j s y hj hr ho
      refine mm_iload C dX2_uncovered_35 0 rfl ?_
      refine mm_aload_n C dX2_uncovered_37 rfl 3 rfl ?_
      refine mm_get C 0 0 (fun w h => mm_wc (inX2 w h)) rfl rfl (by decide) (mm_wc tw72) rfl rfl dX2_uncovered_38 ?_
      refine mm_icmp_ge (tgt := 82) C dX2_uncovered_41 (by decide) (fun c41 => ?_) (fun z => False.elim ((fun z => cn_t hj (by rw [← hI.1]; exact z)) z))
      refine mm_iconst (v := (-1)) C dX2_uncovered_82 (by decide) ?_
      exact mm_iret C K rfl dX2_uncovered_83 (by rw [ho, ← hr]; simp [ks_o, f_uc]) rfl (mm_nl rfl) (mm_nl rfl)
    | succ n ih =>
      intro j s y hj hr ho
      refine mm_iload C dX2_uncovered_35 0 rfl ?_
      refine mm_aload_n C dX2_uncovered_37 rfl 3 rfl ?_
      refine mm_get C 0 0 (fun w h => mm_wc (inX2 w h)) rfl rfl (by decide) (mm_wc tw72) rfl rfl dX2_uncovered_38 ?_
      refine mm_icmp_ge (tgt := 82) C dX2_uncovered_41 (by decide) (fun z => False.elim ((fun z => cn_f hj hk9 (by rw [← hI.1]; exact z)) z)) (fun c41 => ?_)
      refine mm_aload_n C dX2_uncovered_44 rfl 3 rfl ?_
      refine mm_iload C dX2_uncovered_45 0 rfl ?_
      refine mm_iload_n C dX2_uncovered_47 rfl 4 rfl ?_
      refine mm_riV C 0 sv_X2_X2_isClosed_113 rfl rfl (kX2_isClosed _ _ u F (nI j) a hI.k40) ⟨rfl, rfl⟩ ⟨mm_nl rfl, mm_nl rfl⟩ rfl rfl (mm_nl rfl) ⟨mm_nl rfl, mm_nl rfl⟩ dX2_uncovered_48 ?_
      refine mm_ifb_ne (tgt := 76) C dX2_uncovered_51 (by decide) (fun c51 => ?_) (fun c51 => ?_)
      · skip
        refine mm_iinc (q := 0) (v := (nI (j + 1))) (lv' := [(5, .int (nI (j + 1))), (4, .int y), (3, .int s), (0, .ref 0), (1, .int a), (2, .int b)]) C dX2_uncovered_76 rfl (nI_1 j) hnL (by decide) rfl ?_
        refine mm_goto (tgt := 35) C dX2_uncovered_79 (by decide) ?_
        exact ih (j + 1) s _ (by omega) (by rw [← hr]; simp [f_uc, c51]) ho
      · skip
        refine mm_aload_n C dX2_uncovered_54 rfl 3 rfl ?_
        refine mm_iload C dX2_uncovered_55 0 rfl ?_
        refine mm_iload_n C dX2_uncovered_57 rfl 2 rfl ?_
        refine mm_iload_n C dX2_uncovered_58 rfl 4 rfl ?_
        refine mm_riV C 0 sv_X2_X2_needsOneOf_149 rfl rfl (kX2_needsOneOf _ _ u F (nI j) s a k c i hI) ⟨rfl, rfl⟩ ⟨mm_nl rfl, mm_nl rfl⟩ rfl rfl (mm_nl rfl) ⟨mm_nl rfl, mm_nl rfl⟩ dX2_uncovered_59 ?_
        refine mm_ifb_eq (tgt := 76) C dX2_uncovered_62 (by decide) (fun c62 => ?_) (fun c62 => ?_)
        · skip
          refine mm_iinc (q := 0) (v := (nI (j + 1))) (lv' := [(5, .int (nI (j + 1))), (4, .int y), (3, .int s), (0, .ref 0), (1, .int a), (2, .int b)]) C dX2_uncovered_76 rfl (nI_1 j) hnL (by decide) rfl ?_
          refine mm_goto (tgt := 35) C dX2_uncovered_79 (by decide) ?_
          exact ih (j + 1) s _ (by omega) (by rw [← hr]; simp [f_uc, c51, c62]) ho
        · skip
          refine mm_iload C dX2_uncovered_65 1 rfl ?_
          refine mm_if_ne (tgt := 73) C dX2_uncovered_67 (by decide) (fun c67 => ?_) (fun c67 => ?_)
          · skip
            refine mm_iinc (q := 1) (v := y + (-1)) (lv' := [(4, .int (y + (-1))), (5, .int (nI j)), (3, .int s), (0, .ref 0), (1, .int a), (2, .int b)]) C dX2_uncovered_73 rfl rfl hnL (by decide) rfl ?_
            refine mm_iinc (q := 1) (v := (nI (j + 1))) (lv' := [(5, .int (nI (j + 1))), (4, .int (y + (-1))), (3, .int s), (0, .ref 0), (1, .int a), (2, .int b)]) C dX2_uncovered_76 rfl (nI_1 j) hnL (by decide) rfl ?_
            refine mm_goto (tgt := 35) C dX2_uncovered_79 (by decide) ?_
            exact ih (j + 1) s _ (by omega) (by rw [← hr]; simp [f_uc, c51, c62, c67]) ho
          · skip
            refine mm_iload C dX2_uncovered_70 0 rfl ?_
            exact mm_iret C K rfl dX2_uncovered_72 (by rw [ho, ← hr]; simp [ks_o, f_uc, c51, c62, c67]) rfl (mm_nl rfl) (mm_nl rfl)
  show mm_M g ad 0 0 (ks_H u F) 0 [(0, .ref 0), (1, .int a), (2, .int b)] []
  refine mm_iload_n C dX2_uncovered_0 rfl 1 rfl ?_
  refine mm_riS C ss_X2_X2_isDay_78 (kX2_isDay _ _ _ a) ⟨rfl, rfl⟩ ⟨mm_nl rfl, mm_nl rfl⟩ rfl rfl (mm_nl rfl) ⟨mm_nl rfl, mm_nl rfl⟩ dX2_uncovered_1 ?_
  refine mm_ifb_eq (tgt := 15) C dX2_uncovered_4 (by decide) (fun c4 => ?_) (fun c4 => ?_)
  · skip
    refine mm_iconst (v := 0) C dX2_uncovered_15 (by decide) ?_
    refine mm_ck C ss_X2_X2_checkRange_84 (kX2_checkRange _ _ _ false) ⟨rfl, rfl⟩ ⟨mm_nl rfl, mm_nl rfl⟩ rfl rfl (mm_nl rfl) ⟨mm_nl rfl, mm_nl rfl⟩ dX2_uncovered_16 (fun c16 => ?_) (fun c16 => ?_)
    · skip
      exact mm_out C K (show ks_o F (o_uncovered u k c a b) = .inl x_io from by simp [ks_o, o_uncovered, c4, c16]) (mm_nl rfl) (mm_nl rfl)
    · skip
      cases c16
  · skip
    refine mm_iload_n C dX2_uncovered_7 rfl 2 rfl ?_
    refine mm_if_lt (tgt := 15) C dX2_uncovered_8 (by decide) (fun c8 => ?_) (fun c8 => ?_)
    · skip
      refine mm_iconst (v := 0) C dX2_uncovered_15 (by decide) ?_
      refine mm_ck C ss_X2_X2_checkRange_84 (kX2_checkRange _ _ _ false) ⟨rfl, rfl⟩ ⟨mm_nl rfl, mm_nl rfl⟩ rfl rfl (mm_nl rfl) ⟨mm_nl rfl, mm_nl rfl⟩ dX2_uncovered_16 (fun c16 => ?_) (fun c16 => ?_)
      · skip
        exact mm_out C K (show ks_o F (o_uncovered u k c a b) = .inl x_io from by simp [ks_o, o_uncovered, c4, c8, c16]) (mm_nl rfl) (mm_nl rfl)
      · skip
        cases c16
    · skip
      refine mm_iconst (v := 1) C dX2_uncovered_11 (by decide) ?_
      refine mm_goto (tgt := 16) C dX2_uncovered_12 (by decide) ?_
      refine mm_ck C ss_X2_X2_checkRange_84 (kX2_checkRange _ _ _ true) ⟨rfl, rfl⟩ ⟨mm_nl rfl, mm_nl rfl⟩ rfl rfl (mm_nl rfl) ⟨mm_nl rfl, mm_nl rfl⟩ dX2_uncovered_16 (fun c16 => ?_) (fun c16 => ?_)
      · skip
        cases c16
      · skip
        refine mm_ldc (v := 65535) C dX2_uncovered_19 (mm_wc tw431) ?_
        refine mm_aload_n C dX2_uncovered_21 rfl 0 rfl ?_
        refine mm_riV C 0 sv_X2_X2_skillsOfAllUnits_145 rfl rfl (kX2_skillsOfAllUnits _ _ u F) ⟨rfl, rfl⟩ ⟨mm_nl rfl, mm_nl rfl⟩ rfl rfl (mm_nl rfl) ⟨mm_nl rfl, mm_nl rfl⟩ dX2_uncovered_22 ?_
        refine mm_iconst (v := (-1)) C dX2_uncovered_25 (by decide) ?_
        refine mm_ixor C dX2_uncovered_26 ?_
        refine mm_iand C dX2_uncovered_27 ?_
        refine mm_istore_n (lv' := [(3, .int (65535 &&& ((f_sk (k_sk u) 20) ^^^ (-1)))), (0, .ref 0), (1, .int a), (2, .int b)]) C dX2_uncovered_28 rfl hnL (by decide) rfl ?_
        refine mm_iload_n C dX2_uncovered_29 rfl 3 rfl ?_
        refine mm_istore (lv' := [(4, .int b), (3, .int (65535 &&& ((f_sk (k_sk u) 20) ^^^ (-1)))), (0, .ref 0), (1, .int a), (2, .int b)]) C dX2_uncovered_30 hnL (by decide) rfl ?_
        refine mm_iconst (v := 0) C dX2_uncovered_32 (by decide) ?_
        refine mm_istore (lv' := [(5, .int 0), (4, .int b), (3, .int (65535 &&& ((f_sk (k_sk u) 20) ^^^ (-1)))), (0, .ref 0), (1, .int a), (2, .int b)]) C dX2_uncovered_33 hnL (by decide) rfl ?_
        exact loop k 0 _ b (by omega) rfl (by simp [o_uncovered, c4, c8, c16])
set_option maxHeartbeats 4000000 in
set_option maxRecDepth 100000 in
theorem kX2_coded (l : Launch) (D : va_G) (u : ks_S) (F : List mm_c) (a b : Int32) (k c i : Nat) (hI : ks_I u k c i) : mm_Po l D yX2_coded (mm_cw yX2_coded cX2_coded 5 (some .int)) mm_rp [.ref 0, .int a, .int b] (ks_H u F) (ks_o F (o_coded u c i a b)) := by
  refine mm_start (own := RX2) (by decide) rfl rfl (mm_nl rfl) (fun _ => rfl) (fun _ => rfl) (fun g ad hl hD hnL C K => ?_)
  subst hl
  subst hD
  have hi := hI.2.2.2.2.2.1
  have hi9 : i < 1000000 := by omega
  have loop : ∀ (n : Nat) (j : Nat) (y : Int32), j + n = i → f_cd u c a b n j y = f_cd u c a b i 0 0 → o_coded u c i a b = .inr (some (f_cd u c a b i 0 0), u) → mm_M g ad 1 6 (ks_H u F) 30 [(4, .int (nI j)), (3, .int y), (0, .ref 0), (1, .int a), (2, .int b)] [] := by
    intro n
    induction n with
    | zero =>
      intro j y hj hr ho
      refine mm_iload C dX2_coded_30 0 rfl ?_
      refine mm_aload_n C dX2_coded_32 rfl 2 rfl ?_
      refine mm_get C 0 6 (fun w h => mm_wc (inX2 w h)) rfl rfl (by decide) (mm_wc tw78) rfl rfl dX2_coded_33 ?_
      refine mm_icmp_ge (tgt := 65) C dX2_coded_36 (by decide) (fun c36 => ?_) (fun z => False.elim ((fun z => cn_t hj (by rw [← hI.2.2.2.2.1]; exact z)) z))
      refine mm_iload_n C dX2_coded_65 rfl 1 rfl ?_
      exact mm_iret C K rfl dX2_coded_66 (by rw [ho, ← hr]; simp [ks_o, f_cd]) rfl (mm_nl rfl) (mm_nl rfl)
    | succ n ih =>
      intro j y hj hr ho
      refine mm_iload C dX2_coded_30 0 rfl ?_
      refine mm_aload_n C dX2_coded_32 rfl 2 rfl ?_
      refine mm_get C 0 6 (fun w h => mm_wc (inX2 w h)) rfl rfl (by decide) (mm_wc tw78) rfl rfl dX2_coded_33 ?_
      refine mm_icmp_ge (tgt := 65) C dX2_coded_36 (by decide) (fun z => False.elim ((fun z => cn_f hj hi9 (by rw [← hI.2.2.2.2.1]; exact z)) z)) (fun c36 => ?_)
      refine mm_aload_n C dX2_coded_39 rfl 2 rfl ?_
      refine mm_aload_n C dX2_coded_40 rfl 2 rfl ?_
      refine mm_get C 0 7 (fun w h => mm_wc (inX2 w h)) rfl rfl (by decide) (mm_wc tw79) rfl rfl dX2_coded_41 ?_
      refine mm_iload C dX2_coded_44 0 rfl ?_
      refine mm_iald C 13 rfl (vp_in_nI (by omega) (by decide)) dX2_coded_46 ?_
      refine mm_iconst (v := 3) C dX2_coded_47 (by decide) ?_
      refine mm_iload_n C dX2_coded_48 rfl 4 rfl ?_
      refine mm_riV C 0 sv_X2_X2_wordOf_120 rfl rfl (kX2_wordOf _ _ u F ((k_ko u) (nI j).toNatClampNeg) 3 b k c i hI ⟨by decide, by decide⟩) ⟨rfl, rfl⟩ ⟨mm_nl rfl, mm_nl rfl⟩ rfl rfl (mm_nl rfl) ⟨mm_nl rfl, mm_nl rfl⟩ dX2_coded_49 ?_
      refine mm_iload_n C dX2_coded_52 rfl 3 rfl ?_
      refine mm_icmp_ne (tgt := 59) C dX2_coded_53 (by decide) (fun c53 => ?_) (fun c53 => ?_)
      · skip
        refine mm_iinc (q := 0) (v := (nI (j + 1))) (lv' := [(4, .int (nI (j + 1))), (3, .int y), (0, .ref 0), (1, .int a), (2, .int b)]) C dX2_coded_59 rfl (nI_1 j) hnL (by decide) rfl ?_
        refine mm_goto (tgt := 30) C dX2_coded_62 (by decide) ?_
        exact ih (j + 1) _ (by omega) (by rw [nI_clamp (by omega)] at c53; rw [← hr]; simp [f_cd, c53]) ho
      · skip
        refine mm_iinc (q := 1) (v := y + 1) (lv' := [(3, .int (y + 1)), (4, .int (nI j)), (0, .ref 0), (1, .int a), (2, .int b)]) C dX2_coded_56 rfl rfl hnL (by decide) rfl ?_
        refine mm_iinc (q := 1) (v := (nI (j + 1))) (lv' := [(4, .int (nI (j + 1))), (3, .int (y + 1)), (0, .ref 0), (1, .int a), (2, .int b)]) C dX2_coded_59 rfl (nI_1 j) hnL (by decide) rfl ?_
        refine mm_goto (tgt := 30) C dX2_coded_62 (by decide) ?_
        exact ih (j + 1) _ (by omega) (by rw [nI_clamp (by omega)] at c53; rw [← hr]; simp [f_cd, c53]) ho
  show mm_M g ad 0 0 (ks_H u F) 0 [(0, .ref 0), (1, .int a), (2, .int b)] []
  refine mm_iload_n C dX2_coded_0 rfl 1 rfl ?_
  refine mm_if_lt (tgt := 21) C dX2_coded_1 (by decide) (fun c1 => ?_) (fun c1 => ?_)
  · skip
    refine mm_iconst (v := 0) C dX2_coded_21 (by decide) ?_
    refine mm_ck C ss_X2_X2_checkRange_84 (kX2_checkRange _ _ _ false) ⟨rfl, rfl⟩ ⟨mm_nl rfl, mm_nl rfl⟩ rfl rfl (mm_nl rfl) ⟨mm_nl rfl, mm_nl rfl⟩ dX2_coded_22 (fun c22 => ?_) (fun c22 => ?_)
    · skip
      exact mm_out C K (show ks_o F (o_coded u c i a b) = .inl x_io from by simp [ks_o, o_coded, c1, c22]) (mm_nl rfl) (mm_nl rfl)
    · skip
      cases c22
  · skip
    refine mm_iload_n C dX2_coded_4 rfl 1 rfl ?_
    refine mm_bipush (v := 99) C dX2_coded_5 (by decide) ?_
    refine mm_icmp_gt (tgt := 21) C dX2_coded_7 (by decide) (fun c7 => ?_) (fun c7 => ?_)
    · skip
      refine mm_iconst (v := 0) C dX2_coded_21 (by decide) ?_
      refine mm_ck C ss_X2_X2_checkRange_84 (kX2_checkRange _ _ _ false) ⟨rfl, rfl⟩ ⟨mm_nl rfl, mm_nl rfl⟩ rfl rfl (mm_nl rfl) ⟨mm_nl rfl, mm_nl rfl⟩ dX2_coded_22 (fun c22 => ?_) (fun c22 => ?_)
      · skip
        exact mm_out C K (show ks_o F (o_coded u c i a b) = .inl x_io from by simp [ks_o, o_coded, c1, c7, c22]) (mm_nl rfl) (mm_nl rfl)
      · skip
        cases c22
    · skip
      refine mm_iload_n C dX2_coded_10 rfl 2 rfl ?_
      refine mm_riS C ss_X2_X2_isDay_78 (kX2_isDay _ _ _ b) ⟨rfl, rfl⟩ ⟨mm_nl rfl, mm_nl rfl⟩ rfl rfl (mm_nl rfl) ⟨mm_nl rfl, mm_nl rfl⟩ dX2_coded_11 ?_
      refine mm_ifb_eq (tgt := 21) C dX2_coded_14 (by decide) (fun c14 => ?_) (fun c14 => ?_)
      · skip
        refine mm_iconst (v := 0) C dX2_coded_21 (by decide) ?_
        refine mm_ck C ss_X2_X2_checkRange_84 (kX2_checkRange _ _ _ false) ⟨rfl, rfl⟩ ⟨mm_nl rfl, mm_nl rfl⟩ rfl rfl (mm_nl rfl) ⟨mm_nl rfl, mm_nl rfl⟩ dX2_coded_22 (fun c22 => ?_) (fun c22 => ?_)
        · skip
          exact mm_out C K (show ks_o F (o_coded u c i a b) = .inl x_io from by simp [ks_o, o_coded, c1, c7, c14, c22]) (mm_nl rfl) (mm_nl rfl)
        · skip
          cases c22
      · skip
        refine mm_iconst (v := 1) C dX2_coded_17 (by decide) ?_
        refine mm_goto (tgt := 22) C dX2_coded_18 (by decide) ?_
        refine mm_ck C ss_X2_X2_checkRange_84 (kX2_checkRange _ _ _ true) ⟨rfl, rfl⟩ ⟨mm_nl rfl, mm_nl rfl⟩ rfl rfl (mm_nl rfl) ⟨mm_nl rfl, mm_nl rfl⟩ dX2_coded_22 (fun c22 => ?_) (fun c22 => ?_)
        · skip
          cases c22
        · skip
          refine mm_iconst (v := 0) C dX2_coded_25 (by decide) ?_
          refine mm_istore_n (lv' := [(3, .int 0), (0, .ref 0), (1, .int a), (2, .int b)]) C dX2_coded_26 rfl hnL (by decide) rfl ?_
          refine mm_iconst (v := 0) C dX2_coded_27 (by decide) ?_
          refine mm_istore (lv' := [(4, .int 0), (3, .int 0), (0, .ref 0), (1, .int a), (2, .int b)]) C dX2_coded_28 hnL (by decide) rfl ?_
          exact loop i 0 0 (by omega) rfl (by simp [o_coded, c1, c7, c14, c22])
set_option maxHeartbeats 4000000 in
set_option maxRecDepth 100000 in
theorem kX2_open (l : Launch) (D : va_G) (u : ks_S) (F : List mm_c) (a b e : Int32) (k c i : Nat) (hI : ks_I u k c i)  : mm_Po l D yX2_open (mm_cw yX2_open cX2_open 6 (some .int)) mm_rp [.ref 0, .int a, .int b, .int e] (ks_H u F) (ks_o F (o_open u a b e)) := by
  refine mm_start (own := RX2) (by decide) rfl rfl (mm_nl rfl) (fun _ => rfl) (fun _ => rfl) (fun g ad hl hD hnL C K => ?_)
  subst hl
  subst hD
  show mm_M g ad 0 0 (ks_H u F) 0 [(0, .ref 0), (1, .int a), (2, .int b), (3, .int e)] []
  refine mm_aload_n C dX2_open_0 rfl 0 rfl ?_
  refine mm_iload_n C dX2_open_1 rfl 1 rfl ?_
  refine mm_riV C 0 sv_X2_X2_isKind_65 rfl rfl (kX2_isKind _ _ u F a) ⟨rfl, rfl⟩ ⟨mm_nl rfl, mm_nl rfl⟩ rfl rfl (mm_nl rfl) ⟨mm_nl rfl, mm_nl rfl⟩ dX2_open_2 ?_
  refine mm_ck C ss_X2_X2_checkKnown_54 (kX2_checkKnown _ _ _ (b_below a (k_kn u))) ⟨rfl, rfl⟩ ⟨mm_nl rfl, mm_nl rfl⟩ rfl rfl (mm_nl rfl) ⟨mm_nl rfl, mm_nl rfl⟩ dX2_open_5 (fun c5 => ?_) (fun c5 => ?_)
  · skip
    exact mm_out C K (show ks_o F (o_open u a b e) = .inl x_ia from by simp [ks_o, o_open, c5]) (mm_nl rfl) (mm_nl rfl)
  · skip
    refine mm_iload_n C dX2_open_8 rfl 2 rfl ?_
    refine mm_bipush (v := 10) C dX2_open_9 (by decide) ?_
    refine mm_riS C ss_X2_X2_isBelow_75 (kX2_isBelow _ _ _ b 10) ⟨rfl, rfl⟩ ⟨mm_nl rfl, mm_nl rfl⟩ rfl rfl (mm_nl rfl) ⟨mm_nl rfl, mm_nl rfl⟩ dX2_open_11 ?_
    refine mm_ifb_eq (tgt := 28) C dX2_open_14 (by decide) (fun c14 => ?_) (fun c14 => ?_)
    · skip
      refine mm_iconst (v := 0) C dX2_open_28 (by decide) ?_
      refine mm_ck C ss_X2_X2_checkRange_84 (kX2_checkRange _ _ _ false) ⟨rfl, rfl⟩ ⟨mm_nl rfl, mm_nl rfl⟩ rfl rfl (mm_nl rfl) ⟨mm_nl rfl, mm_nl rfl⟩ dX2_open_29 (fun c29 => ?_) (fun c29 => ?_)
      · skip
        exact mm_out C K (show ks_o F (o_open u a b e) = .inl x_io from by simp [ks_o, o_open, c5, c14, c29]) (mm_nl rfl) (mm_nl rfl)
      · skip
        cases c29
    · skip
      refine mm_iload_n C dX2_open_17 rfl 3 rfl ?_
      refine mm_riS C ss_X2_X2_isDay_78 (kX2_isDay _ _ _ e) ⟨rfl, rfl⟩ ⟨mm_nl rfl, mm_nl rfl⟩ rfl rfl (mm_nl rfl) ⟨mm_nl rfl, mm_nl rfl⟩ dX2_open_18 ?_
      refine mm_ifb_eq (tgt := 28) C dX2_open_21 (by decide) (fun c21 => ?_) (fun c21 => ?_)
      · skip
        refine mm_iconst (v := 0) C dX2_open_28 (by decide) ?_
        refine mm_ck C ss_X2_X2_checkRange_84 (kX2_checkRange _ _ _ false) ⟨rfl, rfl⟩ ⟨mm_nl rfl, mm_nl rfl⟩ rfl rfl (mm_nl rfl) ⟨mm_nl rfl, mm_nl rfl⟩ dX2_open_29 (fun c29 => ?_) (fun c29 => ?_)
        · skip
          exact mm_out C K (show ks_o F (o_open u a b e) = .inl x_io from by simp [ks_o, o_open, c5, c14, c21, c29]) (mm_nl rfl) (mm_nl rfl)
        · skip
          cases c29
      · skip
        refine mm_iconst (v := 1) C dX2_open_24 (by decide) ?_
        refine mm_goto (tgt := 29) C dX2_open_25 (by decide) ?_
        refine mm_ck C ss_X2_X2_checkRange_84 (kX2_checkRange _ _ _ true) ⟨rfl, rfl⟩ ⟨mm_nl rfl, mm_nl rfl⟩ rfl rfl (mm_nl rfl) ⟨mm_nl rfl, mm_nl rfl⟩ dX2_open_29 (fun c29 => ?_) (fun c29 => ?_)
        · skip
          cases c29
        · skip
          refine mm_aload_n C dX2_open_32 rfl 0 rfl ?_
          refine mm_iload_n C dX2_open_33 rfl 1 rfl ?_
          refine mm_iload_n C dX2_open_34 rfl 2 rfl ?_
          refine mm_riV C 0 sv_X2_X2_kindInArea_127 rfl rfl (kX2_kindInArea _ _ u F a b hI.k40 (bt c14 rfl) c5) ⟨rfl, rfl⟩ ⟨mm_nl rfl, mm_nl rfl⟩ rfl rfl (mm_nl rfl) ⟨mm_nl rfl, mm_nl rfl⟩ dX2_open_35 ?_
          refine mm_istore (lv' := [(4, .int (f_ka (k_kn u) (k_ta u) b 40 a)), (0, .ref 0), (1, .int a), (2, .int b), (3, .int e)]) C dX2_open_38 hnL (by decide) rfl ?_
          refine mm_aload_n C dX2_open_40 rfl 1 rfl ?_
          refine mm_iload C dX2_open_41 0 rfl ?_
          refine mm_iload_n C dX2_open_43 rfl 4 rfl ?_
          refine mm_riV C 0 sv_X2_X2_isClosed_113 rfl rfl (kX2_isClosed _ _ u F (f_ka (k_kn u) (k_ta u) b 40 a) e hI.k40) ⟨rfl, rfl⟩ ⟨mm_nl rfl, mm_nl rfl⟩ rfl rfl (mm_nl rfl) ⟨mm_nl rfl, mm_nl rfl⟩ dX2_open_44 ?_
          refine mm_ifb_ne (tgt := 54) C dX2_open_47 (by decide) (fun c47 => ?_) (fun c47 => ?_)
          · skip
            refine mm_iconst (v := 0) C dX2_open_54 (by decide) ?_
            refine mm_ck C ss_X2_X2_checkState_72 (kX2_checkState _ _ _ false) ⟨rfl, rfl⟩ ⟨mm_nl rfl, mm_nl rfl⟩ rfl rfl (mm_nl rfl) ⟨mm_nl rfl, mm_nl rfl⟩ dX2_open_55 (fun c55 => ?_) (fun c55 => ?_)
            · skip
              exact mm_out C K (show ks_o F (o_open u a b e) = .inl x_is from by simp [ks_o, o_open, c5, c14, c21, c29, c47, c55]) (mm_nl rfl) (mm_nl rfl)
            · skip
              cases c55
          · skip
            refine mm_iconst (v := 1) C dX2_open_50 (by decide) ?_
            refine mm_goto (tgt := 55) C dX2_open_51 (by decide) ?_
            refine mm_ck C ss_X2_X2_checkState_72 (kX2_checkState _ _ _ true) ⟨rfl, rfl⟩ ⟨mm_nl rfl, mm_nl rfl⟩ rfl rfl (mm_nl rfl) ⟨mm_nl rfl, mm_nl rfl⟩ dX2_open_55 (fun c55 => ?_) (fun c55 => ?_)
            · skip
              cases c55
            · skip
              refine mm_aload_n C dX2_open_58 rfl 1 rfl ?_
              refine mm_get C 0 6 (fun w h => mm_wc (inX2 w h)) rfl rfl (by decide) (mm_wc tw78) rfl rfl dX2_open_59 ?_
              refine mm_bipush (v := 60) C dX2_open_62 (by decide) ?_
              refine mm_icmp_ge (tgt := 71) C dX2_open_64 (by decide) (fun c64 => ?_) (fun c64 => ?_)
              · skip
                refine mm_iconst (v := 0) C dX2_open_71 (by decide) ?_
                refine mm_ck C ss_X2_X2_checkRoom_62 (kX2_checkRoom _ _ _ false) ⟨rfl, rfl⟩ ⟨mm_nl rfl, mm_nl rfl⟩ rfl rfl (mm_nl rfl) ⟨mm_nl rfl, mm_nl rfl⟩ dX2_open_72 (fun c72 => ?_) (fun c72 => ?_)
                · skip
                  exact mm_out C K (show ks_o F (o_open u a b e) = .inl x_uo from by simp [ks_o, o_open, c5, c14, c21, c29, c47, c55, c64, c72]) (mm_nl rfl) (mm_nl rfl)
                · skip
                  cases c72
              · skip
                refine mm_iconst (v := 1) C dX2_open_67 (by decide) ?_
                refine mm_goto (tgt := 72) C dX2_open_68 (by decide) ?_
                refine mm_ck C ss_X2_X2_checkRoom_62 (kX2_checkRoom _ _ _ true) ⟨rfl, rfl⟩ ⟨mm_nl rfl, mm_nl rfl⟩ rfl rfl (mm_nl rfl) ⟨mm_nl rfl, mm_nl rfl⟩ dX2_open_72 (fun c72 => ?_) (fun c72 => ?_)
                · skip
                  cases c72
                · skip
                  refine mm_aload_n C dX2_open_75 rfl 1 rfl ?_
                  refine mm_get C 0 6 (fun w h => mm_wc (inX2 w h)) rfl rfl (by decide) (mm_wc tw78) rfl rfl dX2_open_76 ?_
                  refine mm_istore (lv' := [(5, .int (k_inn u)), (4, .int (f_ka (k_kn u) (k_ta u) b 40 a)), (0, .ref 0), (1, .int a), (2, .int b), (3, .int e)]) C dX2_open_79 hnL (by decide) rfl ?_
                  refine mm_aload_n C dX2_open_81 rfl 2 rfl ?_
                  refine mm_get C 0 7 (fun w h => mm_wc (inX2 w h)) rfl rfl (by decide) (mm_wc tw79) rfl rfl dX2_open_82 ?_
                  refine mm_iload C dX2_open_85 0 rfl ?_
                  refine mm_iload C dX2_open_87 1 rfl ?_
                  refine mm_iast C 13 rfl (inn_in hI c64) dX2_open_89 ?_
                  refine mm_aload_n C dX2_open_90 rfl 2 rfl ?_
                  refine mm_get C 0 8 (fun w h => mm_wc (inX2 w h)) rfl rfl (by decide) (mm_wc tw80) rfl rfl dX2_open_91 ?_
                  refine mm_iload C dX2_open_94 0 rfl ?_
                  refine mm_iload_n C dX2_open_96 rfl 4 rfl ?_
                  refine mm_iast C 14 rfl (inn_in hI c64) dX2_open_97 ?_
                  refine mm_aload_n C dX2_open_98 rfl 2 rfl ?_
                  refine mm_dup C dX2_open_99 rfl ?_
                  refine mm_get C 0 6 (fun w h => mm_wc (inX2 w h)) rfl rfl (by decide) (mm_wc tw78) rfl rfl dX2_open_100 ?_
                  refine mm_iconst (v := 1) C dX2_open_103 (by decide) ?_
                  refine mm_iadd C dX2_open_104 ?_
                  refine mm_put C 0 6 (fun w h => mm_wc (inX2 w h)) rfl rfl (by decide) tyX2 tyX2_ok nmX2 (mm_wc tw78) rfl rfl (tyX2_ok 6 (by decide)) (fun _ => rfl) (fun _ => rfl) (mm_nl rfl) dX2_open_105 ?_
                  refine mm_iload C dX2_open_108 0 rfl ?_
                  exact mm_iret C K rfl dX2_open_110 (by rw [show o_open u a b e = .inr (some (k_inn u), (k_kn u, k_pa u, k_cl u, k_nw u, k_tb u, k_dy u, k_hw u, k_vl u, k_cs u, k_ta u, k_ts u, k_tu u, k_us u, k_inn u + 1, upd (k_ko u) (k_inn u).toNatClampNeg (f_ka (k_kn u) (k_ta u) b 40 a), upd (k_ao u) (k_inn u).toNatClampNeg b, k_be u, k_se u, k_sk u)) from by simp [o_open, c5, c14, c21, c29, c47, c55, c64, c72]]; rfl) rfl (mm_nl rfl) (mm_nl rfl)
set_option maxHeartbeats 4000000 in
set_option maxRecDepth 100000 in
theorem kX2_found (l : Launch) (D : va_G) (u : ks_S) (F : List mm_c) (a b e : Int32) (k c i : Nat) (hI : ks_I u k c i)  : mm_Po l D yX2_found (mm_cw yX2_found cX2_found 5 (some .int)) mm_rp [.ref 0, .int a, .int b, .int e] (ks_H u F) (ks_o F (o_found u a b e)) := by
  refine mm_start (own := RX2) (by decide) rfl rfl (mm_nl rfl) (fun _ => rfl) (fun _ => rfl) (fun g ad hl hD hnL C K => ?_)
  subst hl
  subst hD
  show mm_M g ad 0 0 (ks_H u F) 0 [(0, .ref 0), (1, .int a), (2, .int b), (3, .int e)] []
  refine mm_aload_n C dX2_found_0 rfl 0 rfl ?_
  refine mm_iload_n C dX2_found_1 rfl 1 rfl ?_
  refine mm_riV C 0 sv_X2_X2_isIncident_133 rfl rfl (kX2_isIncident _ _ u F a) ⟨rfl, rfl⟩ ⟨mm_nl rfl, mm_nl rfl⟩ rfl rfl (mm_nl rfl) ⟨mm_nl rfl, mm_nl rfl⟩ dX2_found_2 ?_
  refine mm_ck C ss_X2_X2_checkKnown_54 (kX2_checkKnown _ _ _ (b_below a (k_inn u))) ⟨rfl, rfl⟩ ⟨mm_nl rfl, mm_nl rfl⟩ rfl rfl (mm_nl rfl) ⟨mm_nl rfl, mm_nl rfl⟩ dX2_found_5 (fun c5 => ?_) (fun c5 => ?_)
  · skip
    exact mm_out C K (show ks_o F (o_found u a b e) = .inl x_ia from by simp [ks_o, o_found, c5]) (mm_nl rfl) (mm_nl rfl)
  · skip
    refine mm_iload_n C dX2_found_8 rfl 2 rfl ?_
    refine mm_bipush (v := 32) C dX2_found_9 (by decide) ?_
    refine mm_riS C ss_X2_X2_isBelow_75 (kX2_isBelow _ _ _ b 32) ⟨rfl, rfl⟩ ⟨mm_nl rfl, mm_nl rfl⟩ rfl rfl (mm_nl rfl) ⟨mm_nl rfl, mm_nl rfl⟩ dX2_found_11 ?_
    refine mm_ifb_eq (tgt := 28) C dX2_found_14 (by decide) (fun c14 => ?_) (fun c14 => ?_)
    · skip
      refine mm_iconst (v := 0) C dX2_found_28 (by decide) ?_
      refine mm_ck C ss_X2_X2_checkRange_84 (kX2_checkRange _ _ _ false) ⟨rfl, rfl⟩ ⟨mm_nl rfl, mm_nl rfl⟩ rfl rfl (mm_nl rfl) ⟨mm_nl rfl, mm_nl rfl⟩ dX2_found_29 (fun c29 => ?_) (fun c29 => ?_)
      · skip
        exact mm_out C K (show ks_o F (o_found u a b e) = .inl x_io from by simp [ks_o, o_found, c5, c14, c29]) (mm_nl rfl) (mm_nl rfl)
      · skip
        cases c29
    · skip
      refine mm_iload_n C dX2_found_17 rfl 3 rfl ?_
      refine mm_riS C ss_X2_X2_isDay_78 (kX2_isDay _ _ _ e) ⟨rfl, rfl⟩ ⟨mm_nl rfl, mm_nl rfl⟩ rfl rfl (mm_nl rfl) ⟨mm_nl rfl, mm_nl rfl⟩ dX2_found_18 ?_
      refine mm_ifb_eq (tgt := 28) C dX2_found_21 (by decide) (fun c21 => ?_) (fun c21 => ?_)
      · skip
        refine mm_iconst (v := 0) C dX2_found_28 (by decide) ?_
        refine mm_ck C ss_X2_X2_checkRange_84 (kX2_checkRange _ _ _ false) ⟨rfl, rfl⟩ ⟨mm_nl rfl, mm_nl rfl⟩ rfl rfl (mm_nl rfl) ⟨mm_nl rfl, mm_nl rfl⟩ dX2_found_29 (fun c29 => ?_) (fun c29 => ?_)
        · skip
          exact mm_out C K (show ks_o F (o_found u a b e) = .inl x_io from by simp [ks_o, o_found, c5, c14, c21, c29]) (mm_nl rfl) (mm_nl rfl)
        · skip
          cases c29
      · skip
        refine mm_iconst (v := 1) C dX2_found_24 (by decide) ?_
        refine mm_goto (tgt := 29) C dX2_found_25 (by decide) ?_
        refine mm_ck C ss_X2_X2_checkRange_84 (kX2_checkRange _ _ _ true) ⟨rfl, rfl⟩ ⟨mm_nl rfl, mm_nl rfl⟩ rfl rfl (mm_nl rfl) ⟨mm_nl rfl, mm_nl rfl⟩ dX2_found_29 (fun c29 => ?_) (fun c29 => ?_)
        · skip
          cases c29
        · skip
          refine mm_aload_n C dX2_found_32 rfl 0 rfl ?_
          refine mm_aload_n C dX2_found_33 rfl 0 rfl ?_
          refine mm_get C 0 7 (fun w h => mm_wc (inX2 w h)) rfl rfl (by decide) (mm_wc tw79) rfl rfl dX2_found_34 ?_
          refine mm_iload_n C dX2_found_37 rfl 1 rfl ?_
          refine mm_iald C 13 rfl (ix_b hI.i60 c5) dX2_found_38 ?_
          refine mm_iload_n C dX2_found_39 rfl 2 rfl ?_
          refine mm_riV C 0 sv_X2_X2_upgradeOf_136 rfl rfl (kX2_upgradeOf _ _ u F ((k_ko u) a.toNatClampNeg) b hI.k40 (bt c14 rfl)) ⟨rfl, rfl⟩ ⟨mm_nl rfl, mm_nl rfl⟩ rfl rfl (mm_nl rfl) ⟨mm_nl rfl, mm_nl rfl⟩ dX2_found_40 ?_
          refine mm_istore (lv' := [(4, .int (f_up (k_kn u) (k_pa u) (k_tu u) b 40 ((k_ko u) a.toNatClampNeg))), (0, .ref 0), (1, .int a), (2, .int b), (3, .int e)]) C dX2_found_43 hnL (by decide) rfl ?_
          refine mm_iload C dX2_found_45 0 rfl ?_
          refine mm_iconst (v := (-1)) C dX2_found_47 (by decide) ?_
          refine mm_icmp_eq (tgt := 65) C dX2_found_48 (by decide) (fun c48 => ?_) (fun c48 => ?_)
          · skip
            refine mm_iconst (v := 0) C dX2_found_65 (by decide) ?_
            refine mm_ck C ss_X2_X2_checkState_72 (kX2_checkState _ _ _ false) ⟨rfl, rfl⟩ ⟨mm_nl rfl, mm_nl rfl⟩ rfl rfl (mm_nl rfl) ⟨mm_nl rfl, mm_nl rfl⟩ dX2_found_66 (fun c66 => ?_) (fun c66 => ?_)
            · skip
              exact mm_out C K (show ks_o F (o_found u a b e) = .inl x_is from by simp [ks_o, o_found, c5, c14, c21, c29, if_pos c48, c66]) (mm_nl rfl) (mm_nl rfl)
            · skip
              cases c66
          · skip
            refine mm_aload_n C dX2_found_51 rfl 1 rfl ?_
            refine mm_iload C dX2_found_52 0 rfl ?_
            refine mm_iload_n C dX2_found_54 rfl 4 rfl ?_
            refine mm_riV C 0 sv_X2_X2_isClosed_113 rfl rfl (kX2_isClosed _ _ u F (f_up (k_kn u) (k_pa u) (k_tu u) b 40 ((k_ko u) a.toNatClampNeg)) e hI.k40) ⟨rfl, rfl⟩ ⟨mm_nl rfl, mm_nl rfl⟩ rfl rfl (mm_nl rfl) ⟨mm_nl rfl, mm_nl rfl⟩ dX2_found_55 ?_
            refine mm_ifb_ne (tgt := 65) C dX2_found_58 (by decide) (fun c58 => ?_) (fun c58 => ?_)
            · skip
              refine mm_iconst (v := 0) C dX2_found_65 (by decide) ?_
              refine mm_ck C ss_X2_X2_checkState_72 (kX2_checkState _ _ _ false) ⟨rfl, rfl⟩ ⟨mm_nl rfl, mm_nl rfl⟩ rfl rfl (mm_nl rfl) ⟨mm_nl rfl, mm_nl rfl⟩ dX2_found_66 (fun c66 => ?_) (fun c66 => ?_)
              · skip
                exact mm_out C K (show ks_o F (o_found u a b e) = .inl x_is from by simp [ks_o, o_found, c5, c14, c21, c29, c48, c58, c66]) (mm_nl rfl) (mm_nl rfl)
              · skip
                cases c66
            · skip
              refine mm_iconst (v := 1) C dX2_found_61 (by decide) ?_
              refine mm_goto (tgt := 66) C dX2_found_62 (by decide) ?_
              refine mm_ck C ss_X2_X2_checkState_72 (kX2_checkState _ _ _ true) ⟨rfl, rfl⟩ ⟨mm_nl rfl, mm_nl rfl⟩ rfl rfl (mm_nl rfl) ⟨mm_nl rfl, mm_nl rfl⟩ dX2_found_66 (fun c66 => ?_) (fun c66 => ?_)
              · skip
                cases c66
              · skip
                refine mm_iload C dX2_found_69 0 rfl ?_
                refine mm_aload_n C dX2_found_71 rfl 1 rfl ?_
                refine mm_get C 0 7 (fun w h => mm_wc (inX2 w h)) rfl rfl (by decide) (mm_wc tw79) rfl rfl dX2_found_72 ?_
                refine mm_iload_n C dX2_found_75 rfl 2 rfl ?_
                refine mm_iald C 13 rfl (ix_b hI.i60 c5) dX2_found_76 ?_
                refine mm_icmp_eq (tgt := 98) C dX2_found_77 (by decide) (fun c77 => ?_) (fun c77 => ?_)
                · skip
                  refine mm_iload C dX2_found_98 0 rfl ?_
                  exact mm_iret C K rfl dX2_found_100 (by rw [show o_found u a b e = .inr (some (f_up (k_kn u) (k_pa u) (k_tu u) b 40 (k_ko u a.toNatClampNeg)), u) from by simp [o_found, c5, c14, c21, c29, c48, c58, c66, if_pos c77]]; rfl) rfl (mm_nl rfl) (mm_nl rfl)
                · skip
                  refine mm_aload_n C dX2_found_80 rfl 1 rfl ?_
                  refine mm_get C 0 7 (fun w h => mm_wc (inX2 w h)) rfl rfl (by decide) (mm_wc tw79) rfl rfl dX2_found_81 ?_
                  refine mm_iload_n C dX2_found_84 rfl 2 rfl ?_
                  refine mm_iload C dX2_found_85 0 rfl ?_
                  refine mm_iast C 13 rfl (ix_b hI.i60 c5) dX2_found_87 ?_
                  refine mm_aload_n C dX2_found_88 rfl 1 rfl ?_
                  refine mm_get C 0 9 (fun w h => mm_wc (inX2 w h)) rfl rfl (by decide) (mm_wc tw81) rfl rfl dX2_found_89 ?_
                  refine mm_iload_n C dX2_found_92 rfl 2 rfl ?_
                  refine mm_dup2 C dX2_found_93 rfl rfl ?_
                  refine mm_iald C 15 rfl (ix_b hI.i60 c5) dX2_found_94 ?_
                  refine mm_iconst (v := 1) C dX2_found_95 (by decide) ?_
                  refine mm_iadd C dX2_found_96 ?_
                  refine mm_iast C 15 rfl (ix_b hI.i60 c5) dX2_found_97 ?_
                  refine mm_iload C dX2_found_98 0 rfl ?_
                  exact mm_iret C K rfl dX2_found_100 (by rw [show o_found u a b e = .inr (some (f_up (k_kn u) (k_pa u) (k_tu u) b 40 (k_ko u a.toNatClampNeg)), (k_kn u, k_pa u, k_cl u, k_nw u, k_tb u, k_dy u, k_hw u, k_vl u, k_cs u, k_ta u, k_ts u, k_tu u, k_us u, k_inn u, upd (k_ko u) a.toNatClampNeg (f_up (k_kn u) (k_pa u) (k_tu u) b 40 (k_ko u a.toNatClampNeg)), k_ao u, upd (k_be u) a.toNatClampNeg (k_be u a.toNatClampNeg + 1), k_se u, k_sk u)) from by simp [o_found, c5, c14, c21, c29, c48, c58, c66, c77]]; rfl) rfl (mm_nl rfl) (mm_nl rfl)
set_option maxHeartbeats 4000000 in
set_option maxRecDepth 100000 in
theorem kX2_send (l : Launch) (D : va_G) (u : ks_S) (F : List mm_c) (a b e : Int32) (k c i : Nat) (hI : ks_I u k c i)  : mm_Po l D yX2_send (mm_cw yX2_send cX2_send 5 (some .int)) mm_rp [.ref 0, .int a, .int b, .int e] (ks_H u F) (ks_o F (o_send u a b e)) := by
  refine mm_start (own := RX2) (by decide) rfl rfl (mm_nl rfl) (fun _ => rfl) (fun _ => rfl) (fun g ad hl hD hnL C K => ?_)
  subst hl
  subst hD
  show mm_M g ad 0 0 (ks_H u F) 0 [(0, .ref 0), (1, .int a), (2, .int b), (3, .int e)] []
  refine mm_aload_n C dX2_send_0 rfl 0 rfl ?_
  refine mm_iload_n C dX2_send_1 rfl 1 rfl ?_
  refine mm_riV C 0 sv_X2_X2_isIncident_133 rfl rfl (kX2_isIncident _ _ u F a) ⟨rfl, rfl⟩ ⟨mm_nl rfl, mm_nl rfl⟩ rfl rfl (mm_nl rfl) ⟨mm_nl rfl, mm_nl rfl⟩ dX2_send_2 ?_
  refine mm_ifb_eq (tgt := 21) C dX2_send_5 (by decide) (fun c5 => ?_) (fun c5 => ?_)
  · skip
    refine mm_iconst (v := 0) C dX2_send_21 (by decide) ?_
    refine mm_ck C ss_X2_X2_checkKnown_54 (kX2_checkKnown _ _ _ false) ⟨rfl, rfl⟩ ⟨mm_nl rfl, mm_nl rfl⟩ rfl rfl (mm_nl rfl) ⟨mm_nl rfl, mm_nl rfl⟩ dX2_send_22 (fun c22 => ?_) (fun c22 => ?_)
    · skip
      exact mm_out C K (show ks_o F (o_send u a b e) = .inl x_ia from by simp [ks_o, o_send, c5, c22]) (mm_nl rfl) (mm_nl rfl)
    · skip
      cases c22
  · skip
    refine mm_iload_n C dX2_send_8 rfl 2 rfl ?_
    refine mm_bipush (v := 16) C dX2_send_9 (by decide) ?_
    refine mm_riS C ss_X2_X2_isBelow_75 (kX2_isBelow _ _ _ b 16) ⟨rfl, rfl⟩ ⟨mm_nl rfl, mm_nl rfl⟩ rfl rfl (mm_nl rfl) ⟨mm_nl rfl, mm_nl rfl⟩ dX2_send_11 ?_
    refine mm_ifb_eq (tgt := 21) C dX2_send_14 (by decide) (fun c14 => ?_) (fun c14 => ?_)
    · skip
      refine mm_iconst (v := 0) C dX2_send_21 (by decide) ?_
      refine mm_ck C ss_X2_X2_checkKnown_54 (kX2_checkKnown _ _ _ false) ⟨rfl, rfl⟩ ⟨mm_nl rfl, mm_nl rfl⟩ rfl rfl (mm_nl rfl) ⟨mm_nl rfl, mm_nl rfl⟩ dX2_send_22 (fun c22 => ?_) (fun c22 => ?_)
      · skip
        exact mm_out C K (show ks_o F (o_send u a b e) = .inl x_ia from by simp [ks_o, o_send, c5, c14, c22]) (mm_nl rfl) (mm_nl rfl)
      · skip
        cases c22
    · skip
      refine mm_iconst (v := 1) C dX2_send_17 (by decide) ?_
      refine mm_goto (tgt := 22) C dX2_send_18 (by decide) ?_
      refine mm_ck C ss_X2_X2_checkKnown_54 (kX2_checkKnown _ _ _ true) ⟨rfl, rfl⟩ ⟨mm_nl rfl, mm_nl rfl⟩ rfl rfl (mm_nl rfl) ⟨mm_nl rfl, mm_nl rfl⟩ dX2_send_22 (fun c22 => ?_) (fun c22 => ?_)
      · skip
        cases c22
      · skip
        refine mm_iload_n C dX2_send_25 rfl 3 rfl ?_
        refine mm_iconst (v := 1) C dX2_send_26 (by decide) ?_
        refine mm_icmp_lt (tgt := 40) C dX2_send_27 (by decide) (fun c27 => ?_) (fun c27 => ?_)
        · skip
          refine mm_iconst (v := 0) C dX2_send_40 (by decide) ?_
          refine mm_ck C ss_X2_X2_checkRange_84 (kX2_checkRange _ _ _ false) ⟨rfl, rfl⟩ ⟨mm_nl rfl, mm_nl rfl⟩ rfl rfl (mm_nl rfl) ⟨mm_nl rfl, mm_nl rfl⟩ dX2_send_41 (fun c41 => ?_) (fun c41 => ?_)
          · skip
            exact mm_out C K (show ks_o F (o_send u a b e) = .inl x_io from by simp [ks_o, o_send, c5, c14, c22, c27, c41]) (mm_nl rfl) (mm_nl rfl)
          · skip
            cases c41
        · skip
          refine mm_iload_n C dX2_send_30 rfl 3 rfl ?_
          refine mm_bipush (v := 100) C dX2_send_31 (by decide) ?_
          refine mm_icmp_gt (tgt := 40) C dX2_send_33 (by decide) (fun c33 => ?_) (fun c33 => ?_)
          · skip
            refine mm_iconst (v := 0) C dX2_send_40 (by decide) ?_
            refine mm_ck C ss_X2_X2_checkRange_84 (kX2_checkRange _ _ _ false) ⟨rfl, rfl⟩ ⟨mm_nl rfl, mm_nl rfl⟩ rfl rfl (mm_nl rfl) ⟨mm_nl rfl, mm_nl rfl⟩ dX2_send_41 (fun c41 => ?_) (fun c41 => ?_)
            · skip
              exact mm_out C K (show ks_o F (o_send u a b e) = .inl x_io from by simp [ks_o, o_send, c5, c14, c22, c27, c33, c41]) (mm_nl rfl) (mm_nl rfl)
            · skip
              cases c41
          · skip
            refine mm_iconst (v := 1) C dX2_send_36 (by decide) ?_
            refine mm_goto (tgt := 41) C dX2_send_37 (by decide) ?_
            refine mm_ck C ss_X2_X2_checkRange_84 (kX2_checkRange _ _ _ true) ⟨rfl, rfl⟩ ⟨mm_nl rfl, mm_nl rfl⟩ rfl rfl (mm_nl rfl) ⟨mm_nl rfl, mm_nl rfl⟩ dX2_send_41 (fun c41 => ?_) (fun c41 => ?_)
            · skip
              cases c41
            · skip
              refine mm_iload_n C dX2_send_44 rfl 1 rfl ?_
              refine mm_bipush (v := 16) C dX2_send_45 (by decide) ?_
              refine mm_imul C dX2_send_47 ?_
              refine mm_iload_n C dX2_send_48 rfl 2 rfl ?_
              refine mm_iadd C dX2_send_49 ?_
              refine mm_istore (lv' := [(4, .int ((a * 16) + b)), (0, .ref 0), (1, .int a), (2, .int b), (3, .int e)]) C dX2_send_50 hnL (by decide) rfl ?_
              refine mm_aload_n C dX2_send_52 rfl 1 rfl ?_
              refine mm_get C 0 10 (fun w h => mm_wc (inX2 w h)) rfl rfl (by decide) (mm_wc tw82) rfl rfl dX2_send_53 ?_
              refine mm_iload C dX2_send_56 0 rfl ?_
              refine mm_iald C 16 rfl (ix_m (c := 16) hI.i60 c5 (bt c14 rfl) (by decide) (by decide) (by decide)) dX2_send_58 ?_
              refine mm_iload_n C dX2_send_59 rfl 4 rfl ?_
              refine mm_iadd C dX2_send_60 ?_
              refine mm_sipush (v := 1000) C dX2_send_61 (by decide) ?_
              refine mm_icmp_gt (tgt := 71) C dX2_send_64 (by decide) (fun c64 => ?_) (fun c64 => ?_)
              · skip
                refine mm_iconst (v := 0) C dX2_send_71 (by decide) ?_
                refine mm_ck C ss_X2_X2_checkRoom_62 (kX2_checkRoom _ _ _ false) ⟨rfl, rfl⟩ ⟨mm_nl rfl, mm_nl rfl⟩ rfl rfl (mm_nl rfl) ⟨mm_nl rfl, mm_nl rfl⟩ dX2_send_72 (fun c72 => ?_) (fun c72 => ?_)
                · skip
                  exact mm_out C K (show ks_o F (o_send u a b e) = .inl x_uo from by simp [ks_o, o_send, c5, c14, c22, c27, c33, c41, c64, c72]) (mm_nl rfl) (mm_nl rfl)
                · skip
                  cases c72
              · skip
                refine mm_iconst (v := 1) C dX2_send_67 (by decide) ?_
                refine mm_goto (tgt := 72) C dX2_send_68 (by decide) ?_
                refine mm_ck C ss_X2_X2_checkRoom_62 (kX2_checkRoom _ _ _ true) ⟨rfl, rfl⟩ ⟨mm_nl rfl, mm_nl rfl⟩ rfl rfl (mm_nl rfl) ⟨mm_nl rfl, mm_nl rfl⟩ dX2_send_72 (fun c72 => ?_) (fun c72 => ?_)
                · skip
                  cases c72
                · skip
                  refine mm_aload_n C dX2_send_75 rfl 1 rfl ?_
                  refine mm_get C 0 10 (fun w h => mm_wc (inX2 w h)) rfl rfl (by decide) (mm_wc tw82) rfl rfl dX2_send_76 ?_
                  refine mm_iload C dX2_send_79 0 rfl ?_
                  refine mm_dup2 C dX2_send_81 rfl rfl ?_
                  refine mm_iald C 16 rfl (ix_m (c := 16) hI.i60 c5 (bt c14 rfl) (by decide) (by decide) (by decide)) dX2_send_82 ?_
                  refine mm_iload_n C dX2_send_83 rfl 4 rfl ?_
                  refine mm_iadd C dX2_send_84 ?_
                  refine mm_iast C 16 rfl (ix_m (c := 16) hI.i60 c5 (bt c14 rfl) (by decide) (by decide) (by decide)) dX2_send_85 ?_
                  refine mm_aload_n C dX2_send_86 rfl 1 rfl ?_
                  refine mm_get C 0 10 (fun w h => mm_wc (inX2 w h)) rfl rfl (by decide) (mm_wc tw82) rfl rfl dX2_send_87 ?_
                  refine mm_iload C dX2_send_90 0 rfl ?_
                  refine mm_iald C 16 rfl (ix_m (c := 16) hI.i60 c5 (bt c14 rfl) (by decide) (by decide) (by decide)) dX2_send_92 ?_
                  exact mm_iret C K rfl dX2_send_93 (by rw [show o_send u a b e = .inr (some (k_se u (a * 16 + b).toNatClampNeg + e), (k_kn u, k_pa u, k_cl u, k_nw u, k_tb u, k_dy u, k_hw u, k_vl u, k_cs u, k_ta u, k_ts u, k_tu u, k_us u, k_inn u, k_ko u, k_ao u, k_be u, upd (k_se u) (a * 16 + b).toNatClampNeg (k_se u (a * 16 + b).toNatClampNeg + e), k_sk u)) from by simp [o_send, c5, c14, c22, c27, c33, c41, c64, c72]]; rw [pk_us]; rfl) rfl (mm_nl rfl) (mm_nl rfl)
set_option maxHeartbeats 4000000 in
set_option maxRecDepth 100000 in
theorem kX2_missing (l : Launch) (D : va_G) (u : ks_S) (F : List mm_c) (a b e : Int32) (k c i : Nat) (hI : ks_I u k c i)  : mm_Po l D yX2_missing (mm_cw yX2_missing cX2_missing 4 (some .int)) mm_rp [.ref 0, .int a, .int b, .int e] (ks_H u F) (ks_o F (o_missing u c a b e)) := by
  refine mm_start (own := RX2) (by decide) rfl rfl (mm_nl rfl) (fun _ => rfl) (fun _ => rfl) (fun g ad hl hD hnL C K => ?_)
  subst hl
  subst hD
  show mm_M g ad 0 0 (ks_H u F) 0 [(0, .ref 0), (1, .int a), (2, .int b), (3, .int e)] []
  refine mm_aload_n C dX2_missing_0 rfl 0 rfl ?_
  refine mm_iload_n C dX2_missing_1 rfl 1 rfl ?_
  refine mm_riV C 0 sv_X2_X2_isIncident_133 rfl rfl (kX2_isIncident _ _ u F a) ⟨rfl, rfl⟩ ⟨mm_nl rfl, mm_nl rfl⟩ rfl rfl (mm_nl rfl) ⟨mm_nl rfl, mm_nl rfl⟩ dX2_missing_2 ?_
  refine mm_ifb_eq (tgt := 21) C dX2_missing_5 (by decide) (fun c5 => ?_) (fun c5 => ?_)
  · skip
    refine mm_iconst (v := 0) C dX2_missing_21 (by decide) ?_
    refine mm_ck C ss_X2_X2_checkKnown_54 (kX2_checkKnown _ _ _ false) ⟨rfl, rfl⟩ ⟨mm_nl rfl, mm_nl rfl⟩ rfl rfl (mm_nl rfl) ⟨mm_nl rfl, mm_nl rfl⟩ dX2_missing_22 (fun c22 => ?_) (fun c22 => ?_)
    · skip
      exact mm_out C K (show ks_o F (o_missing u c a b e) = .inl x_ia from by simp [ks_o, o_missing, c5, c22]) (mm_nl rfl) (mm_nl rfl)
    · skip
      cases c22
  · skip
    refine mm_iload_n C dX2_missing_8 rfl 2 rfl ?_
    refine mm_bipush (v := 16) C dX2_missing_9 (by decide) ?_
    refine mm_riS C ss_X2_X2_isBelow_75 (kX2_isBelow _ _ _ b 16) ⟨rfl, rfl⟩ ⟨mm_nl rfl, mm_nl rfl⟩ rfl rfl (mm_nl rfl) ⟨mm_nl rfl, mm_nl rfl⟩ dX2_missing_11 ?_
    refine mm_ifb_eq (tgt := 21) C dX2_missing_14 (by decide) (fun c14 => ?_) (fun c14 => ?_)
    · skip
      refine mm_iconst (v := 0) C dX2_missing_21 (by decide) ?_
      refine mm_ck C ss_X2_X2_checkKnown_54 (kX2_checkKnown _ _ _ false) ⟨rfl, rfl⟩ ⟨mm_nl rfl, mm_nl rfl⟩ rfl rfl (mm_nl rfl) ⟨mm_nl rfl, mm_nl rfl⟩ dX2_missing_22 (fun c22 => ?_) (fun c22 => ?_)
      · skip
        exact mm_out C K (show ks_o F (o_missing u c a b e) = .inl x_ia from by simp [ks_o, o_missing, c5, c14, c22]) (mm_nl rfl) (mm_nl rfl)
      · skip
        cases c22
    · skip
      refine mm_iconst (v := 1) C dX2_missing_17 (by decide) ?_
      refine mm_goto (tgt := 22) C dX2_missing_18 (by decide) ?_
      refine mm_ck C ss_X2_X2_checkKnown_54 (kX2_checkKnown _ _ _ true) ⟨rfl, rfl⟩ ⟨mm_nl rfl, mm_nl rfl⟩ rfl rfl (mm_nl rfl) ⟨mm_nl rfl, mm_nl rfl⟩ dX2_missing_22 (fun c22 => ?_) (fun c22 => ?_)
      · skip
        cases c22
      · skip
        refine mm_iload_n C dX2_missing_25 rfl 3 rfl ?_
        refine mm_riS C ss_X2_X2_isDay_78 (kX2_isDay _ _ _ e) ⟨rfl, rfl⟩ ⟨mm_nl rfl, mm_nl rfl⟩ rfl rfl (mm_nl rfl) ⟨mm_nl rfl, mm_nl rfl⟩ dX2_missing_26 ?_
        refine mm_ck C ss_X2_X2_checkRange_84 (kX2_checkRange _ _ _ (b_day e)) ⟨rfl, rfl⟩ ⟨mm_nl rfl, mm_nl rfl⟩ rfl rfl (mm_nl rfl) ⟨mm_nl rfl, mm_nl rfl⟩ dX2_missing_29 (fun c29 => ?_) (fun c29 => ?_)
        · skip
          exact mm_out C K (show ks_o F (o_missing u c a b e) = .inl x_io from by simp [ks_o, o_missing, c5, c14, c22, c29]) (mm_nl rfl) (mm_nl rfl)
        · skip
          refine mm_iconst (v := 0) C dX2_missing_32 (by decide) ?_
          refine mm_aload_n C dX2_missing_33 rfl 0 rfl ?_
          refine mm_aload_n C dX2_missing_34 rfl 0 rfl ?_
          refine mm_get C 0 7 (fun w h => mm_wc (inX2 w h)) rfl rfl (by decide) (mm_wc tw79) rfl rfl dX2_missing_35 ?_
          refine mm_iload_n C dX2_missing_38 rfl 1 rfl ?_
          refine mm_iald C 13 rfl (ix_b hI.i60 c5) dX2_missing_39 ?_
          refine mm_iload_n C dX2_missing_40 rfl 2 rfl ?_
          refine mm_iload_n C dX2_missing_41 rfl 3 rfl ?_
          refine mm_riV C 0 sv_X2_X2_needOf_124 rfl rfl (kX2_needOf _ _ u F ((k_ko u) a.toNatClampNeg) b e k c i hI (bt c14 rfl)) ⟨rfl, rfl⟩ ⟨mm_nl rfl, mm_nl rfl⟩ rfl rfl (mm_nl rfl) ⟨mm_nl rfl, mm_nl rfl⟩ dX2_missing_42 ?_
          refine mm_aload_n C dX2_missing_45 rfl 0 rfl ?_
          refine mm_get C 0 10 (fun w h => mm_wc (inX2 w h)) rfl rfl (by decide) (mm_wc tw82) rfl rfl dX2_missing_46 ?_
          refine mm_iload_n C dX2_missing_49 rfl 1 rfl ?_
          refine mm_bipush (v := 16) C dX2_missing_50 (by decide) ?_
          refine mm_imul C dX2_missing_52 ?_
          refine mm_iload_n C dX2_missing_53 rfl 2 rfl ?_
          refine mm_iadd C dX2_missing_54 ?_
          refine mm_iald C 16 rfl (ix_m (c := 16) hI.i60 c5 (bt c14 rfl) (by decide) (by decide) (by decide)) dX2_missing_55 ?_
          refine mm_isub C dX2_missing_56 ?_
          refine mm_mmax C (mm_wc tw363) (mm_wc tw364) (mm_wc tw13) (mm_wc tw365) (mm_nl rfl) (mm_nl rfl) ⟨mm_nl rfl, mm_nl rfl⟩ dX2_missing_57 ?_
          exact mm_iret C K rfl dX2_missing_60 (by rw [show o_missing u c a b e = .inr (some (f_mx 0 (f_nd u c (k_ko u a.toNatClampNeg) b e - k_se u (a * 16 + b).toNatClampNeg)), u) from by simp [o_missing, c5, c14, c22, c29]]; rfl) rfl (mm_nl rfl) (mm_nl rfl)
set_option maxHeartbeats 4000000 in
set_option maxRecDepth 100000 in
theorem kX2_incident (l : Launch) (D : va_G) (u : ks_S) (F : List mm_c) (a b : Int32) (k c i : Nat) (hI : ks_I u k c i)  : mm_Po l D yX2_incident (mm_cw yX2_incident cX2_incident 3 (some .int)) mm_rp [.ref 0, .int a, .int b] (ks_H u F) (ks_o F (o_incident u a b)) := by
  refine mm_start (own := RX2) (by decide) rfl rfl (mm_nl rfl) (fun _ => rfl) (fun _ => rfl) (fun g ad hl hD hnL C K => ?_)
  subst hl
  subst hD
  show mm_M g ad 0 0 (ks_H u F) 0 [(0, .ref 0), (1, .int a), (2, .int b)] []
  refine mm_aload_n C dX2_incident_0 rfl 0 rfl ?_
  refine mm_iload_n C dX2_incident_1 rfl 1 rfl ?_
  refine mm_riV C 0 sv_X2_X2_isIncident_133 rfl rfl (kX2_isIncident _ _ u F a) ⟨rfl, rfl⟩ ⟨mm_nl rfl, mm_nl rfl⟩ rfl rfl (mm_nl rfl) ⟨mm_nl rfl, mm_nl rfl⟩ dX2_incident_2 ?_
  refine mm_ifb_eq (tgt := 20) C dX2_incident_5 (by decide) (fun c5 => ?_) (fun c5 => ?_)
  · skip
    refine mm_iconst (v := 0) C dX2_incident_20 (by decide) ?_
    refine mm_ck C ss_X2_X2_checkKnown_54 (kX2_checkKnown _ _ _ false) ⟨rfl, rfl⟩ ⟨mm_nl rfl, mm_nl rfl⟩ rfl rfl (mm_nl rfl) ⟨mm_nl rfl, mm_nl rfl⟩ dX2_incident_21 (fun c21 => ?_) (fun c21 => ?_)
    · skip
      exact mm_out C K (show ks_o F (o_incident u a b) = .inl x_ia from by simp [ks_o, o_incident, c5, c21]) (mm_nl rfl) (mm_nl rfl)
    · skip
      cases c21
  · skip
    refine mm_iload_n C dX2_incident_8 rfl 2 rfl ?_
    refine mm_iconst (v := 3) C dX2_incident_9 (by decide) ?_
    refine mm_riS C ss_X2_X2_isBelow_75 (kX2_isBelow _ _ _ b 3) ⟨rfl, rfl⟩ ⟨mm_nl rfl, mm_nl rfl⟩ rfl rfl (mm_nl rfl) ⟨mm_nl rfl, mm_nl rfl⟩ dX2_incident_10 ?_
    refine mm_ifb_eq (tgt := 20) C dX2_incident_13 (by decide) (fun c13 => ?_) (fun c13 => ?_)
    · skip
      refine mm_iconst (v := 0) C dX2_incident_20 (by decide) ?_
      refine mm_ck C ss_X2_X2_checkKnown_54 (kX2_checkKnown _ _ _ false) ⟨rfl, rfl⟩ ⟨mm_nl rfl, mm_nl rfl⟩ rfl rfl (mm_nl rfl) ⟨mm_nl rfl, mm_nl rfl⟩ dX2_incident_21 (fun c21 => ?_) (fun c21 => ?_)
      · skip
        exact mm_out C K (show ks_o F (o_incident u a b) = .inl x_ia from by simp [ks_o, o_incident, c5, c13, c21]) (mm_nl rfl) (mm_nl rfl)
      · skip
        cases c21
    · skip
      refine mm_iconst (v := 1) C dX2_incident_16 (by decide) ?_
      refine mm_goto (tgt := 21) C dX2_incident_17 (by decide) ?_
      refine mm_ck C ss_X2_X2_checkKnown_54 (kX2_checkKnown _ _ _ true) ⟨rfl, rfl⟩ ⟨mm_nl rfl, mm_nl rfl⟩ rfl rfl (mm_nl rfl) ⟨mm_nl rfl, mm_nl rfl⟩ dX2_incident_21 (fun c21 => ?_) (fun c21 => ?_)
      · skip
        cases c21
      · skip
        refine mm_iload_n C dX2_incident_24 rfl 2 rfl ?_
        by_cases s25_0 : b = 0
        · skip
          refine mm_lookup (off := 27) (tgt := 52) C dX2_incident_25 (by decide) (by rw [s25_0]; first | done | rfl) (by decide) ?_
          refine mm_aload_n C dX2_incident_52 rfl 0 rfl ?_
          refine mm_get C 0 7 (fun w h => mm_wc (inX2 w h)) rfl rfl (by decide) (mm_wc tw79) rfl rfl dX2_incident_53 ?_
          refine mm_iload_n C dX2_incident_56 rfl 1 rfl ?_
          refine mm_iald C 13 rfl (ix_b hI.i60 c5) dX2_incident_57 ?_
          exact mm_iret C K rfl dX2_incident_58 (by rw [show o_incident u a b = .inr (some ((k_ko u) a.toNatClampNeg), u) from by simp [o_incident, c5, c13, c21, if_pos s25_0]]; rfl) rfl (mm_nl rfl) (mm_nl rfl)
        · skip
          by_cases s25_1 : b = 1
          · skip
            refine mm_lookup (off := 34) (tgt := 59) C dX2_incident_25 (by decide) (by rw [s25_1]; first | done | rfl) (by decide) ?_
            refine mm_aload_n C dX2_incident_59 rfl 0 rfl ?_
            refine mm_get C 0 8 (fun w h => mm_wc (inX2 w h)) rfl rfl (by decide) (mm_wc tw80) rfl rfl dX2_incident_60 ?_
            refine mm_iload_n C dX2_incident_63 rfl 1 rfl ?_
            refine mm_iald C 14 rfl (ix_b hI.i60 c5) dX2_incident_64 ?_
            exact mm_iret C K rfl dX2_incident_65 (by rw [show o_incident u a b = .inr (some ((k_ao u) a.toNatClampNeg), u) from by simp [o_incident, c5, c13, c21, s25_0, if_pos s25_1]]; rfl) rfl (mm_nl rfl) (mm_nl rfl)
          · skip
            refine mm_lookup (off := 41) (tgt := 66) C dX2_incident_25 (by decide) (by rw [lv_osw s25_0 (by decide), lv_osw s25_1 (by decide)]; first | done | rfl) (by decide) ?_
            refine mm_aload_n C dX2_incident_66 rfl 0 rfl ?_
            refine mm_get C 0 9 (fun w h => mm_wc (inX2 w h)) rfl rfl (by decide) (mm_wc tw81) rfl rfl dX2_incident_67 ?_
            refine mm_iload_n C dX2_incident_70 rfl 1 rfl ?_
            refine mm_iald C 15 rfl (ix_b hI.i60 c5) dX2_incident_71 ?_
            exact mm_iret C K rfl dX2_incident_72 (by rw [show o_incident u a b = .inr (some ((k_be u) a.toNatClampNeg), u) from by simp [o_incident, c5, c13, c21, s25_0, s25_1]]; rfl) rfl (mm_nl rfl) (mm_nl rfl)
set_option maxHeartbeats 4000000 in
set_option maxRecDepth 100000 in
theorem kX2_unit (l : Launch) (D : va_G) (u : ks_S) (F : List mm_c) (a b : Int32) (k c i : Nat) (hI : ks_I u k c i)  : mm_Po l D yX2_unit (mm_cw yX2_unit cX2_unit 3 none) mm_rp [.ref 0, .int a, .int b] (ks_H u F) (ks_o F (o_unit u a b)) := by
  refine mm_start (own := RX2) (by decide) rfl rfl (mm_nl rfl) (fun _ => rfl) (fun _ => rfl) (fun g ad hl hD hnL C K => ?_)
  subst hl
  subst hD
  show mm_M g ad 0 0 (ks_H u F) 0 [(0, .ref 0), (1, .int a), (2, .int b)] []
  refine mm_iload_n C dX2_unit_0 rfl 1 rfl ?_
  refine mm_bipush (v := 20) C dX2_unit_1 (by decide) ?_
  refine mm_riS C ss_X2_X2_isBelow_75 (kX2_isBelow _ _ _ a 20) ⟨rfl, rfl⟩ ⟨mm_nl rfl, mm_nl rfl⟩ rfl rfl (mm_nl rfl) ⟨mm_nl rfl, mm_nl rfl⟩ dX2_unit_3 ?_
  refine mm_ck C ss_X2_X2_checkKnown_54 (kX2_checkKnown _ _ _ (b_below a 20)) ⟨rfl, rfl⟩ ⟨mm_nl rfl, mm_nl rfl⟩ rfl rfl (mm_nl rfl) ⟨mm_nl rfl, mm_nl rfl⟩ dX2_unit_6 (fun c6 => ?_) (fun c6 => ?_)
  · skip
    exact mm_out C K (show ks_o F (o_unit u a b) = .inl x_ia from by simp [ks_o, o_unit, c6]) (mm_nl rfl) (mm_nl rfl)
  · skip
    refine mm_iload_n C dX2_unit_9 rfl 2 rfl ?_
    refine mm_if_lt (tgt := 23) C dX2_unit_10 (by decide) (fun c10 => ?_) (fun c10 => ?_)
    · skip
      refine mm_iconst (v := 0) C dX2_unit_23 (by decide) ?_
      refine mm_ck C ss_X2_X2_checkRange_84 (kX2_checkRange _ _ _ false) ⟨rfl, rfl⟩ ⟨mm_nl rfl, mm_nl rfl⟩ rfl rfl (mm_nl rfl) ⟨mm_nl rfl, mm_nl rfl⟩ dX2_unit_24 (fun c24 => ?_) (fun c24 => ?_)
      · skip
        exact mm_out C K (show ks_o F (o_unit u a b) = .inl x_io from by simp [ks_o, o_unit, c6, c10, c24]) (mm_nl rfl) (mm_nl rfl)
      · skip
        cases c24
    · skip
      refine mm_iload_n C dX2_unit_13 rfl 2 rfl ?_
      refine mm_ldc (v := 65535) C dX2_unit_14 (mm_wc tw431) ?_
      refine mm_icmp_gt (tgt := 23) C dX2_unit_16 (by decide) (fun c16 => ?_) (fun c16 => ?_)
      · skip
        refine mm_iconst (v := 0) C dX2_unit_23 (by decide) ?_
        refine mm_ck C ss_X2_X2_checkRange_84 (kX2_checkRange _ _ _ false) ⟨rfl, rfl⟩ ⟨mm_nl rfl, mm_nl rfl⟩ rfl rfl (mm_nl rfl) ⟨mm_nl rfl, mm_nl rfl⟩ dX2_unit_24 (fun c24 => ?_) (fun c24 => ?_)
        · skip
          exact mm_out C K (show ks_o F (o_unit u a b) = .inl x_io from by simp [ks_o, o_unit, c6, c10, c16, c24]) (mm_nl rfl) (mm_nl rfl)
        · skip
          cases c24
      · skip
        refine mm_iconst (v := 1) C dX2_unit_19 (by decide) ?_
        refine mm_goto (tgt := 24) C dX2_unit_20 (by decide) ?_
        refine mm_ck C ss_X2_X2_checkRange_84 (kX2_checkRange _ _ _ true) ⟨rfl, rfl⟩ ⟨mm_nl rfl, mm_nl rfl⟩ rfl rfl (mm_nl rfl) ⟨mm_nl rfl, mm_nl rfl⟩ dX2_unit_24 (fun c24 => ?_) (fun c24 => ?_)
        · skip
          cases c24
        · skip
          refine mm_aload_n C dX2_unit_27 rfl 0 rfl ?_
          refine mm_get C 0 11 (fun w h => mm_wc (inX2 w h)) rfl rfl (by decide) (mm_wc tw83) rfl rfl dX2_unit_28 ?_
          refine mm_iload_n C dX2_unit_31 rfl 1 rfl ?_
          refine mm_iload_n C dX2_unit_32 rfl 2 rfl ?_
          refine mm_iast C 17 rfl (bt_in (bt c6 rfl)) dX2_unit_33 ?_
          exact mm_vret C K dX2_unit_34 (by rw [show o_unit u a b = .inr (none, (k_kn u, k_pa u, k_cl u, k_nw u, k_tb u, k_dy u, k_hw u, k_vl u, k_cs u, k_ta u, k_ts u, k_tu u, k_us u, k_inn u, k_ko u, k_ao u, k_be u, k_se u, upd (k_sk u) a.toNatClampNeg b)) from by simp [o_unit, c6, c10, c16, c24]]; rfl) rfl (mm_nl rfl) (mm_nl rfl)
set_option maxHeartbeats 4000000 in
set_option maxRecDepth 100000 in
theorem kX2_count (l : Launch) (D : va_G) (u : ks_S) (F : List mm_c) (a : Int32) (k c i : Nat) (hI : ks_I u k c i)  : mm_Po l D yX2_count (mm_cw yX2_count cX2_count 2 (some .int)) mm_rp [.ref 0, .int a] (ks_H u F) (ks_o F (o_count u a)) := by
  refine mm_start (own := RX2) (by decide) rfl rfl (mm_nl rfl) (fun _ => rfl) (fun _ => rfl) (fun g ad hl hD hnL C K => ?_)
  subst hl
  subst hD
  show mm_M g ad 0 0 (ks_H u F) 0 [(0, .ref 0), (1, .int a)] []
  refine mm_iload_n C dX2_count_0 rfl 1 rfl ?_
  refine mm_iconst (v := 5) C dX2_count_1 (by decide) ?_
  refine mm_riS C ss_X2_X2_isBelow_75 (kX2_isBelow _ _ _ a 5) ⟨rfl, rfl⟩ ⟨mm_nl rfl, mm_nl rfl⟩ rfl rfl (mm_nl rfl) ⟨mm_nl rfl, mm_nl rfl⟩ dX2_count_2 ?_
  refine mm_ck C ss_X2_X2_checkKnown_54 (kX2_checkKnown _ _ _ (b_below a 5)) ⟨rfl, rfl⟩ ⟨mm_nl rfl, mm_nl rfl⟩ rfl rfl (mm_nl rfl) ⟨mm_nl rfl, mm_nl rfl⟩ dX2_count_5 (fun c5 => ?_) (fun c5 => ?_)
  · skip
    exact mm_out C K (show ks_o F (o_count u a) = .inl x_ia from by simp [ks_o, o_count, c5]) (mm_nl rfl) (mm_nl rfl)
  · skip
    refine mm_iload_n C dX2_count_8 rfl 1 rfl ?_
    by_cases s9_0 : a = 0
    · skip
      refine mm_tableIn (tgt := 40) C dX2_count_9 (by rw [s9_0]; decide) (by rw [s9_0]; decide) (by rw [s9_0]; rfl) (by decide) ?_
      refine mm_aload_n C dX2_count_40 rfl 0 rfl ?_
      refine mm_get C 0 0 (fun w h => mm_wc (inX2 w h)) rfl rfl (by decide) (mm_wc tw72) rfl rfl dX2_count_41 ?_
      exact mm_iret C K rfl dX2_count_44 (by rw [show o_count u a = .inr (some (k_kn u), u) from by simp [o_count, c5, if_pos s9_0]]; rfl) rfl (mm_nl rfl) (mm_nl rfl)
    · skip
      by_cases s9_1 : a = 1
      · skip
        refine mm_tableIn (tgt := 45) C dX2_count_9 (by rw [s9_1]; decide) (by rw [s9_1]; decide) (by rw [s9_1]; rfl) (by decide) ?_
        refine mm_aload_n C dX2_count_45 rfl 0 rfl ?_
        refine mm_get C 0 3 (fun w h => mm_wc (inX2 w h)) rfl rfl (by decide) (mm_wc tw75) rfl rfl dX2_count_46 ?_
        refine mm_getN C 3 5 (fun w h => mm_wc (inX0 w h)) rfl rfl (by decide) (List.mem_of_getElem? (i := 3) rfl) rfl rfl dX2_count_49 ?_
        exact mm_iret C K rfl dX2_count_52 (by rw [show o_count u a = .inr (some (k_cs u), u) from by simp [o_count, c5, s9_0, if_pos s9_1]]; rfl) rfl (mm_nl rfl) (mm_nl rfl)
      · skip
        by_cases s9_2 : a = 2
        · skip
          refine mm_tableIn (tgt := 53) C dX2_count_9 (by rw [s9_2]; decide) (by rw [s9_2]; decide) (by rw [s9_2]; rfl) (by decide) ?_
          refine mm_aload_n C dX2_count_53 rfl 0 rfl ?_
          refine mm_get C 0 4 (fun w h => mm_wc (inX2 w h)) rfl rfl (by decide) (mm_wc tw76) rfl rfl dX2_count_54 ?_
          refine mm_getN C 9 2 (fun w h => mm_wc (inX1 w h)) rfl rfl (by decide) (List.mem_of_getElem? (i := 5) rfl) rfl rfl dX2_count_57 ?_
          exact mm_iret C K rfl dX2_count_60 (by rw [show o_count u a = .inr (some (k_ts u), u) from by simp [o_count, c5, s9_0, s9_1, if_pos s9_2]]; rfl) rfl (mm_nl rfl) (mm_nl rfl)
        · skip
          by_cases s9_3 : a = 3
          · skip
            refine mm_tableIn (tgt := 61) C dX2_count_9 (by rw [s9_3]; decide) (by rw [s9_3]; decide) (by rw [s9_3]; rfl) (by decide) ?_
            refine mm_aload_n C dX2_count_61 rfl 0 rfl ?_
            refine mm_get C 0 5 (fun w h => mm_wc (inX2 w h)) rfl rfl (by decide) (mm_wc tw77) rfl rfl dX2_count_62 ?_
            refine mm_getN C 11 2 (fun w h => mm_wc (inX1 w h)) rfl rfl (by decide) (List.mem_of_getElem? (i := 5) rfl) rfl rfl dX2_count_65 ?_
            exact mm_iret C K rfl dX2_count_68 (by rw [show o_count u a = .inr (some (k_us u), u) from by simp [o_count, c5, s9_0, s9_1, s9_2, if_pos s9_3]]; rfl) rfl (mm_nl rfl) (mm_nl rfl)
          · skip
            refine mm_tableOut (tgt := 69) C dX2_count_9 (by have q0 := lv_neT s9_0 (a := 0) (by decide); have q1 := lv_neT s9_1 (a := 1) (by decide); have q2 := lv_neT s9_2 (a := 2) (by decide); have q3 := lv_neT s9_3 (a := 3) (by decide); have q9 := bt (N := 5) c5 rfl; omega) (by decide) ?_
            refine mm_aload_n C dX2_count_69 rfl 0 rfl ?_
            refine mm_get C 0 6 (fun w h => mm_wc (inX2 w h)) rfl rfl (by decide) (mm_wc tw78) rfl rfl dX2_count_70 ?_
            exact mm_iret C K rfl dX2_count_73 (by rw [show o_count u a = .inr (some (k_inn u), u) from by simp [o_count, c5, s9_0, s9_1, s9_2, s9_3]]; rfl) rfl (mm_nl rfl) (mm_nl rfl)
