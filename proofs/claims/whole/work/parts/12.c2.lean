theorem sn_X2_X0_latest_182 : mm_SN RX2 182 RX0 yX0_latest cX0_latest 7 (some .int) 3 := ⟨(List.mem_of_getElem? (i := 20) rfl), tw361, (mm_wp 13 rfl rfl), tw2, tw362, ⟨by decide +kernel, by decide +kernel, by decide +kernel⟩⟩
theorem sn_X2_X1_target_103 : mm_SN RX2 103 RX1 yX1_target cX1_target 3 (some .int) 2 := ⟨(List.mem_of_getElem? (i := 18) rfl), tw318, (mm_wp 7 rfl rfl), tw4, tw319, ⟨by decide +kernel, by decide +kernel, by decide +kernel⟩⟩
set_option maxHeartbeats 4000000 in
set_option maxRecDepth 100000 in
theorem kX2_isSameOrAbove (l : Launch) (D : va_G) (u : ks_S) (F : List mm_c) (a b : Int32) (hk : (k_kn u).toInt ≤ ((40 : Nat) : Int)) : mm_Wr l D yX2_isSameOrAbove (mm_cw yX2_isSameOrAbove cX2_isSameOrAbove 5 (some .boolean)) (mm_rm 2) [.ref 0, .int a, .int b] (ks_H u F) (some (.int (i_b (f_sa (k_kn u) (k_pa u) a 40 b)))) (ks_H u F) := by
  refine mm_start (own := RX2) (by decide) rfl rfl (mm_nl rfl) (fun _ => rfl) (fun _ => rfl) (fun g ad hl hD hnL C K => ?_)
  subst hl
  subst hD
  have loop : ∀ (n : Nat) (j : Nat) (x : Int32), j + n = 40 → f_sa (k_kn u) (k_pa u) a n x = f_sa (k_kn u) (k_pa u) a 40 b → mm_M g ad 0 0 (ks_H u F) 5 [(4, .int (nI j)), (3, .int x), (0, .ref 0), (1, .int a), (2, .int b)] [] := by
    intro n
    induction n with
    | zero =>
      intro j x hj hr
      refine mm_iload C dX2_isSameOrAbove_5 0 rfl ?_
      refine mm_bipush (v := 40) C dX2_isSameOrAbove_7 (by decide) ?_
      refine mm_icmp_ge (tgt := 40) C dX2_isSameOrAbove_9 (by decide) (fun c9 => ?_) (fun z => False.elim ((cn_t hj) z))
      refine mm_iconst (v := 0) C dX2_isSameOrAbove_40 (by decide) ?_
      exact mm_iret C K (by decide) dX2_isSameOrAbove_41 ⟨by rw [← hr]; simp [f_sa, i_b], rfl⟩ rfl (mm_nl rfl) (mm_nl rfl)
    | succ n ih =>
      intro j x hj hr
      refine mm_iload C dX2_isSameOrAbove_5 0 rfl ?_
      refine mm_bipush (v := 40) C dX2_isSameOrAbove_7 (by decide) ?_
      refine mm_icmp_ge (tgt := 40) C dX2_isSameOrAbove_9 (by decide) (fun z => False.elim ((cn_f hj) z)) (fun c9 => ?_)
      refine mm_aload_n C dX2_isSameOrAbove_12 rfl 2 rfl ?_
      refine mm_iload_n C dX2_isSameOrAbove_13 rfl 1 rfl ?_
      refine mm_riV C 0 sv_X2_X2_isKind_65 rfl rfl (kX2_isKind _ _ u F x) ⟨rfl, rfl⟩ ⟨mm_nl rfl, mm_nl rfl⟩ rfl rfl (mm_nl rfl) ⟨mm_nl rfl, mm_nl rfl⟩ dX2_isSameOrAbove_14 ?_
      refine mm_ifb_eq (tgt := 40) C dX2_isSameOrAbove_17 (by decide) (fun c17 => ?_) (fun c17 => ?_)
      · skip
        refine mm_iconst (v := 0) C dX2_isSameOrAbove_40 (by decide) ?_
        exact mm_iret C K (by decide) dX2_isSameOrAbove_41 ⟨by rw [← hr]; simp [f_sa, i_b, c17], rfl⟩ rfl (mm_nl rfl) (mm_nl rfl)
      · skip
        refine mm_iload_n C dX2_isSameOrAbove_20 rfl 1 rfl ?_
        refine mm_iload_n C dX2_isSameOrAbove_21 rfl 3 rfl ?_
        refine mm_icmp_ne (tgt := 27) C dX2_isSameOrAbove_22 (by decide) (fun c22 => ?_) (fun c22 => ?_)
        · skip
          refine mm_aload_n C dX2_isSameOrAbove_27 rfl 2 rfl ?_
          refine mm_get C 0 1 (fun w h => mm_wc (inX2 w h)) rfl rfl (by decide) (mm_wc tw73) rfl rfl dX2_isSameOrAbove_28 ?_
          refine mm_iload_n C dX2_isSameOrAbove_31 rfl 1 rfl ?_
          refine mm_iald C 1 rfl (ix_b hk c17) dX2_isSameOrAbove_32 ?_
          refine mm_istore_n (lv' := [(3, .int ((k_pa u) x.toNatClampNeg)), (4, .int (nI j)), (0, .ref 0), (1, .int a), (2, .int b)]) C dX2_isSameOrAbove_33 rfl hnL (by decide) rfl ?_
          refine mm_iinc (q := 1) (v := (nI (j + 1))) (lv' := [(4, .int (nI (j + 1))), (3, .int ((k_pa u) x.toNatClampNeg)), (0, .ref 0), (1, .int a), (2, .int b)]) C dX2_isSameOrAbove_34 rfl (nI_1 j) hnL (by decide) rfl ?_
          refine mm_goto (tgt := 5) C dX2_isSameOrAbove_37 (by decide) ?_
          exact ih (j + 1) _ (by omega) (by rw [← hr]; simp [f_sa, c17, c22])
        · skip
          refine mm_iconst (v := 1) C dX2_isSameOrAbove_25 (by decide) ?_
          exact mm_iret C K (by decide) dX2_isSameOrAbove_26 ⟨by subst c22; rw [← hr]; simp [f_sa, i_b, c17], rfl⟩ rfl (mm_nl rfl) (mm_nl rfl)
  show mm_M g ad 0 0 (ks_H u F) 0 [(0, .ref 0), (1, .int a), (2, .int b)] []
  refine mm_iload_n C dX2_isSameOrAbove_0 rfl 2 rfl ?_
  refine mm_istore_n (lv' := [(3, .int b), (0, .ref 0), (1, .int a), (2, .int b)]) C dX2_isSameOrAbove_1 rfl hnL (by decide) rfl ?_
  refine mm_iconst (v := 0) C dX2_isSameOrAbove_2 (by decide) ?_
  refine mm_istore (lv' := [(4, .int 0), (3, .int b), (0, .ref 0), (1, .int a), (2, .int b)]) C dX2_isSameOrAbove_3 hnL (by decide) rfl ?_
  exact loop 40 0 b rfl rfl
set_option maxHeartbeats 4000000 in
set_option maxRecDepth 100000 in
theorem kX2_depth (l : Launch) (D : va_G) (u : ks_S) (F : List mm_c) (a : Int32) (hk : (k_kn u).toInt ≤ ((40 : Nat) : Int)) (ha : b_below a (k_kn u) = true) : mm_Wr l D yX2_depth (mm_cw yX2_depth cX2_depth 5 (some .int)) (mm_rm 2) [.ref 0, .int a] (ks_H u F) (some (.int (f_dp (k_kn u) (k_pa u) 40 (k_pa u a.toNatClampNeg) 0))) (ks_H u F) := by
  refine mm_start (own := RX2) (by decide) rfl rfl (mm_nl rfl) (fun _ => rfl) (fun _ => rfl) (fun g ad hl hD hnL C K => ?_)
  subst hl
  subst hD
  have loop : ∀ (n : Nat) (j : Nat) (x y : Int32), j + n = 40 → f_dp (k_kn u) (k_pa u) n x y = f_dp (k_kn u) (k_pa u) 40 (k_pa u a.toNatClampNeg) 0 → mm_M g ad 0 0 (ks_H u F) 12 [(4, .int (nI j)), (3, .int x), (2, .int y), (0, .ref 0), (1, .int a)] [] := by
    intro n
    induction n with
    | zero =>
      intro j x y hj hr
      refine mm_iload C dX2_depth_12 0 rfl ?_
      refine mm_bipush (v := 40) C dX2_depth_14 (by decide) ?_
      refine mm_icmp_ge (tgt := 43) C dX2_depth_16 (by decide) (fun c16 => ?_) (fun z => False.elim ((cn_t hj) z))
      refine mm_iload_n C dX2_depth_43 rfl 2 rfl ?_
      exact mm_iret C K rfl dX2_depth_44 ⟨by rw [← hr]; simp [f_dp], rfl⟩ rfl (mm_nl rfl) (mm_nl rfl)
    | succ n ih =>
      intro j x y hj hr
      refine mm_iload C dX2_depth_12 0 rfl ?_
      refine mm_bipush (v := 40) C dX2_depth_14 (by decide) ?_
      refine mm_icmp_ge (tgt := 43) C dX2_depth_16 (by decide) (fun z => False.elim ((cn_f hj) z)) (fun c16 => ?_)
      refine mm_aload_n C dX2_depth_19 rfl 3 rfl ?_
      refine mm_iload_n C dX2_depth_20 rfl 1 rfl ?_
      refine mm_riV C 0 sv_X2_X2_isKind_65 rfl rfl (kX2_isKind _ _ u F x) ⟨rfl, rfl⟩ ⟨mm_nl rfl, mm_nl rfl⟩ rfl rfl (mm_nl rfl) ⟨mm_nl rfl, mm_nl rfl⟩ dX2_depth_21 ?_
      refine mm_ifb_eq (tgt := 43) C dX2_depth_24 (by decide) (fun c24 => ?_) (fun c24 => ?_)
      · skip
        refine mm_iload_n C dX2_depth_43 rfl 2 rfl ?_
        exact mm_iret C K rfl dX2_depth_44 ⟨by rw [← hr]; simp [f_dp, c24], rfl⟩ rfl (mm_nl rfl) (mm_nl rfl)
      · skip
        refine mm_iinc (q := 2) (v := y + 1) (lv' := [(2, .int (y + 1)), (4, .int (nI j)), (3, .int x), (0, .ref 0), (1, .int a)]) C dX2_depth_27 rfl rfl hnL (by decide) rfl ?_
        refine mm_aload_n C dX2_depth_30 rfl 3 rfl ?_
        refine mm_get C 0 1 (fun w h => mm_wc (inX2 w h)) rfl rfl (by decide) (mm_wc tw73) rfl rfl dX2_depth_31 ?_
        refine mm_iload_n C dX2_depth_34 rfl 2 rfl ?_
        refine mm_iald C 1 rfl (ix_b hk c24) dX2_depth_35 ?_
        refine mm_istore_n (lv' := [(3, .int ((k_pa u) x.toNatClampNeg)), (2, .int (y + 1)), (4, .int (nI j)), (0, .ref 0), (1, .int a)]) C dX2_depth_36 rfl hnL (by decide) rfl ?_
        refine mm_iinc (q := 2) (v := (nI (j + 1))) (lv' := [(4, .int (nI (j + 1))), (3, .int ((k_pa u) x.toNatClampNeg)), (2, .int (y + 1)), (0, .ref 0), (1, .int a)]) C dX2_depth_37 rfl (nI_1 j) hnL (by decide) rfl ?_
        refine mm_goto (tgt := 12) C dX2_depth_40 (by decide) ?_
        exact ih (j + 1) _ _ (by omega) (by rw [← hr]; simp [f_dp, c24])
  show mm_M g ad 0 0 (ks_H u F) 0 [(0, .ref 0), (1, .int a)] []
  refine mm_iconst (v := 0) C dX2_depth_0 (by decide) ?_
  refine mm_istore_n (lv' := [(2, .int 0), (0, .ref 0), (1, .int a)]) C dX2_depth_1 rfl hnL (by decide) rfl ?_
  refine mm_aload_n C dX2_depth_2 rfl 1 rfl ?_
  refine mm_get C 0 1 (fun w h => mm_wc (inX2 w h)) rfl rfl (by decide) (mm_wc tw73) rfl rfl dX2_depth_3 ?_
  refine mm_iload_n C dX2_depth_6 rfl 2 rfl ?_
  refine mm_iald C 1 rfl (ix_b hk ha) dX2_depth_7 ?_
  refine mm_istore_n (lv' := [(3, .int ((k_pa u) a.toNatClampNeg)), (2, .int 0), (0, .ref 0), (1, .int a)]) C dX2_depth_8 rfl hnL (by decide) rfl ?_
  refine mm_iconst (v := 0) C dX2_depth_9 (by decide) ?_
  refine mm_istore (lv' := [(4, .int 0), (3, .int ((k_pa u) a.toNatClampNeg)), (2, .int 0), (0, .ref 0), (1, .int a)]) C dX2_depth_10 hnL (by decide) rfl ?_
  exact loop 40 0 _ 0 rfl rfl
set_option maxHeartbeats 4000000 in
set_option maxRecDepth 100000 in
theorem kX2_isClosed (l : Launch) (D : va_G) (u : ks_S) (F : List mm_c) (a b : Int32) (hk : (k_kn u).toInt ≤ ((40 : Nat) : Int)) : mm_Wr l D yX2_isClosed (mm_cw yX2_isClosed cX2_isClosed 5 (some .boolean)) (mm_rm 2) [.ref 0, .int a, .int b] (ks_H u F) (some (.int (i_b (f_cl (k_kn u) (k_pa u) (k_cl u) b 40 a)))) (ks_H u F) := by
  refine mm_start (own := RX2) (by decide) rfl rfl (mm_nl rfl) (fun _ => rfl) (fun _ => rfl) (fun g ad hl hD hnL C K => ?_)
  subst hl
  subst hD
  have loop : ∀ (n : Nat) (j : Nat) (x : Int32), j + n = 40 → f_cl (k_kn u) (k_pa u) (k_cl u) b n x = f_cl (k_kn u) (k_pa u) (k_cl u) b 40 a → mm_M g ad 0 0 (ks_H u F) 5 [(4, .int (nI j)), (3, .int x), (0, .ref 0), (1, .int a), (2, .int b)] [] := by
    intro n
    induction n with
    | zero =>
      intro j x hj hr
      refine mm_iload C dX2_isClosed_5 0 rfl ?_
      refine mm_bipush (v := 40) C dX2_isClosed_7 (by decide) ?_
      refine mm_icmp_ge (tgt := 55) C dX2_isClosed_9 (by decide) (fun c9 => ?_) (fun z => False.elim ((cn_t hj) z))
      refine mm_iconst (v := 0) C dX2_isClosed_55 (by decide) ?_
      exact mm_iret C K (by decide) dX2_isClosed_56 ⟨by rw [← hr]; simp [f_cl, i_b], rfl⟩ rfl (mm_nl rfl) (mm_nl rfl)
    | succ n ih =>
      intro j x hj hr
      refine mm_iload C dX2_isClosed_5 0 rfl ?_
      refine mm_bipush (v := 40) C dX2_isClosed_7 (by decide) ?_
      refine mm_icmp_ge (tgt := 55) C dX2_isClosed_9 (by decide) (fun z => False.elim ((cn_f hj) z)) (fun c9 => ?_)
      refine mm_aload_n C dX2_isClosed_12 rfl 2 rfl ?_
      refine mm_iload_n C dX2_isClosed_13 rfl 1 rfl ?_
      refine mm_riV C 0 sv_X2_X2_isKind_65 rfl rfl (kX2_isKind _ _ u F x) ⟨rfl, rfl⟩ ⟨mm_nl rfl, mm_nl rfl⟩ rfl rfl (mm_nl rfl) ⟨mm_nl rfl, mm_nl rfl⟩ dX2_isClosed_14 ?_
      refine mm_ifb_eq (tgt := 55) C dX2_isClosed_17 (by decide) (fun c17 => ?_) (fun c17 => ?_)
      · skip
        refine mm_iconst (v := 0) C dX2_isClosed_55 (by decide) ?_
        exact mm_iret C K (by decide) dX2_isClosed_56 ⟨by rw [← hr]; simp [f_cl, i_b, c17], rfl⟩ rfl (mm_nl rfl) (mm_nl rfl)
      · skip
        refine mm_aload_n C dX2_isClosed_20 rfl 2 rfl ?_
        refine mm_get C 0 2 (fun w h => mm_wc (inX2 w h)) rfl rfl (by decide) (mm_wc tw74) rfl rfl dX2_isClosed_21 ?_
        refine mm_iload_n C dX2_isClosed_24 rfl 1 rfl ?_
        refine mm_iald C 2 rfl (ix_b hk c17) dX2_isClosed_25 ?_
        refine mm_iconst (v := (-1)) C dX2_isClosed_26 (by decide) ?_
        refine mm_icmp_eq (tgt := 42) C dX2_isClosed_27 (by decide) (fun c27 => ?_) (fun c27 => ?_)
        · skip
          refine mm_aload_n C dX2_isClosed_42 rfl 2 rfl ?_
          refine mm_get C 0 1 (fun w h => mm_wc (inX2 w h)) rfl rfl (by decide) (mm_wc tw73) rfl rfl dX2_isClosed_43 ?_
          refine mm_iload_n C dX2_isClosed_46 rfl 1 rfl ?_
          refine mm_iald C 1 rfl (ix_b hk c17) dX2_isClosed_47 ?_
          refine mm_istore_n (lv' := [(3, .int ((k_pa u) x.toNatClampNeg)), (4, .int (nI j)), (0, .ref 0), (1, .int a), (2, .int b)]) C dX2_isClosed_48 rfl hnL (by decide) rfl ?_
          refine mm_iinc (q := 1) (v := (nI (j + 1))) (lv' := [(4, .int (nI (j + 1))), (3, .int ((k_pa u) x.toNatClampNeg)), (0, .ref 0), (1, .int a), (2, .int b)]) C dX2_isClosed_49 rfl (nI_1 j) hnL (by decide) rfl ?_
          refine mm_goto (tgt := 5) C dX2_isClosed_52 (by decide) ?_
          exact ih (j + 1) _ (by omega) (by rw [← hr]; simp [f_cl, c17, c27])
        · skip
          refine mm_aload_n C dX2_isClosed_30 rfl 2 rfl ?_
          refine mm_get C 0 2 (fun w h => mm_wc (inX2 w h)) rfl rfl (by decide) (mm_wc tw74) rfl rfl dX2_isClosed_31 ?_
          refine mm_iload_n C dX2_isClosed_34 rfl 1 rfl ?_
          refine mm_iald C 2 rfl (ix_b hk c17) dX2_isClosed_35 ?_
          refine mm_iload_n C dX2_isClosed_36 rfl 4 rfl ?_
          refine mm_icmp_gt (tgt := 42) C dX2_isClosed_37 (by decide) (fun c37 => ?_) (fun c37 => ?_)
          · skip
            refine mm_aload_n C dX2_isClosed_42 rfl 2 rfl ?_
            refine mm_get C 0 1 (fun w h => mm_wc (inX2 w h)) rfl rfl (by decide) (mm_wc tw73) rfl rfl dX2_isClosed_43 ?_
            refine mm_iload_n C dX2_isClosed_46 rfl 1 rfl ?_
            refine mm_iald C 1 rfl (ix_b hk c17) dX2_isClosed_47 ?_
            refine mm_istore_n (lv' := [(3, .int ((k_pa u) x.toNatClampNeg)), (4, .int (nI j)), (0, .ref 0), (1, .int a), (2, .int b)]) C dX2_isClosed_48 rfl hnL (by decide) rfl ?_
            refine mm_iinc (q := 1) (v := (nI (j + 1))) (lv' := [(4, .int (nI (j + 1))), (3, .int ((k_pa u) x.toNatClampNeg)), (0, .ref 0), (1, .int a), (2, .int b)]) C dX2_isClosed_49 rfl (nI_1 j) hnL (by decide) rfl ?_
            refine mm_goto (tgt := 5) C dX2_isClosed_52 (by decide) ?_
            exact ih (j + 1) _ (by omega) (by rw [← hr]; simp [f_cl, c17, c27, c37])
          · skip
            refine mm_iconst (v := 1) C dX2_isClosed_40 (by decide) ?_
            exact mm_iret C K (by decide) dX2_isClosed_41 ⟨by rw [← hr]; simp [f_cl, i_b, c17, c27, c37], rfl⟩ rfl (mm_nl rfl) (mm_nl rfl)
  show mm_M g ad 0 0 (ks_H u F) 0 [(0, .ref 0), (1, .int a), (2, .int b)] []
  refine mm_iload_n C dX2_isClosed_0 rfl 1 rfl ?_
  refine mm_istore_n (lv' := [(3, .int a), (0, .ref 0), (1, .int a), (2, .int b)]) C dX2_isClosed_1 rfl hnL (by decide) rfl ?_
  refine mm_iconst (v := 0) C dX2_isClosed_2 (by decide) ?_
  refine mm_istore (lv' := [(4, .int 0), (3, .int a), (0, .ref 0), (1, .int a), (2, .int b)]) C dX2_isClosed_3 hnL (by decide) rfl ?_
  exact loop 40 0 a rfl rfl
set_option maxHeartbeats 4000000 in
set_option maxRecDepth 100000 in
theorem nI_m1 (m : Nat) (h : m < 1000000) : ¬ nI m = -1 := fun q => by
  have h1 := congrArg Int32.toInt q
  rw [nI_toInt (by omega)] at h1
  have h2 : (-1 : Int32).toInt = -1 := by decide
  omega
set_option maxHeartbeats 4000000 in
set_option maxRecDepth 100000 in
theorem kX0_latest (l : Launch) (D : va_G) (u : ks_S) (F : List mm_c) (a b e : Int32) (k c i : Nat) (hI : ks_I u k c i) (ha : vp_in (a * 20 + b) 800) : mm_Wr l D yX0_latest (mm_cw yX0_latest cX0_latest 7 (some .int)) (mm_rm 0) [.ref 3, .int a, .int b, .int e] (ks_H u F) (some (.int (f_la u c a b e))) (ks_H u F) := by
  refine mm_start (own := RX0) (by decide) rfl rfl (mm_nl rfl) (fun _ => rfl) (fun _ => rfl) (fun g ad hl hD hnL C K => ?_)
  subst hl
  subst hD
  have hc9 : c < 1000000 := by have := hI.2.2.2.1; omega
  have loop : ∀ (n : Nat) (j : Nat) (x y : Int32), j + n = c → f_ok c x → f_ok c y → f_lt (k_dy u) (k_tb u) e n x y = f_la u c a b e → mm_M g ad 0 0 (ks_H u F) 19 [(6, .int (nI j)), (5, .int x), (4, .int y), (0, .ref 3), (1, .int a), (2, .int b), (3, .int e)] [] := by
    intro n
    induction n with
    | zero =>
      intro j x y hj hx hy hr
      refine mm_iload C dX0_latest_19 0 rfl ?_
      refine mm_aload_n C dX0_latest_21 rfl 3 rfl ?_
      refine mm_get C 3 5 (fun w h => mm_wc (inX0 w h)) rfl rfl (by decide) (mm_wc tw38) rfl rfl dX0_latest_22 ?_
      refine mm_icmp_ge (tgt := 87) C dX0_latest_25 (by decide) (fun c25 => ?_) (fun z => False.elim ((fun z => cn_t hj (by rw [← hI.2.2.1]; exact z)) z))
      refine mm_iload C dX0_latest_87 2 rfl ?_
      exact mm_iret C K rfl dX0_latest_89 ⟨by rw [← hr]; simp [f_lt], rfl⟩ rfl (mm_nl rfl) (mm_nl rfl)
    | succ n ih =>
      intro j x y hj hx hy hr
      refine mm_iload C dX0_latest_19 0 rfl ?_
      refine mm_aload_n C dX0_latest_21 rfl 3 rfl ?_
      refine mm_get C 3 5 (fun w h => mm_wc (inX0 w h)) rfl rfl (by decide) (mm_wc tw38) rfl rfl dX0_latest_22 ?_
      refine mm_icmp_ge (tgt := 87) C dX0_latest_25 (by decide) (fun z => False.elim ((fun z => cn_f hj hc9 (by rw [← hI.2.2.1]; exact z)) z)) (fun c25 => ?_)
      refine mm_iload C dX0_latest_28 1 rfl ?_
      refine mm_iconst (v := (-1)) C dX0_latest_30 (by decide) ?_
      refine mm_icmp_eq (tgt := 87) C dX0_latest_31 (by decide) (fun c31 => ?_) (fun c31 => ?_)
      · skip
        refine mm_iload C dX0_latest_87 2 rfl ?_
        exact mm_iret C K rfl dX0_latest_89 ⟨by rw [← hr]; simp [f_lt, c31], rfl⟩ rfl (mm_nl rfl) (mm_nl rfl)
      · skip
        refine mm_aload_n C dX0_latest_34 rfl 3 rfl ?_
        refine mm_get C 3 2 (fun w h => mm_wc (inX0 w h)) rfl rfl (by decide) (mm_wc tw33) rfl rfl dX0_latest_35 ?_
        refine mm_iload C dX0_latest_38 1 rfl ?_
        refine mm_iald C 6 rfl (f_ok_in hx c31 hI.2.2.2.1 (by decide)) dX0_latest_40 ?_
        refine mm_iload_n C dX0_latest_41 rfl 6 rfl ?_
        refine mm_icmp_gt (tgt := 72) C dX0_latest_42 (by decide) (fun c42 => ?_) (fun c42 => ?_)
        · skip
          refine mm_aload_n C dX0_latest_72 rfl 3 rfl ?_
          refine mm_get C 3 1 (fun w h => mm_wc (inX0 w h)) rfl rfl (by decide) (mm_wc tw32) rfl rfl dX0_latest_73 ?_
          refine mm_iload C dX0_latest_76 1 rfl ?_
          refine mm_iald C 5 rfl (f_ok_in hx c31 hI.2.2.2.1 (by decide)) dX0_latest_78 ?_
          refine mm_istore (lv' := [(5, .int ((k_tb u) x.toNatClampNeg)), (6, .int (nI j)), (4, .int y), (0, .ref 3), (1, .int a), (2, .int b), (3, .int e)]) C dX0_latest_79 hnL (by decide) rfl ?_
          refine mm_iinc (q := 1) (v := (nI (j + 1))) (lv' := [(6, .int (nI (j + 1))), (5, .int ((k_tb u) x.toNatClampNeg)), (4, .int y), (0, .ref 3), (1, .int a), (2, .int b), (3, .int e)]) C dX0_latest_81 rfl (nI_1 j) hnL (by decide) rfl ?_
          refine mm_goto (tgt := 19) C dX0_latest_84 (by decide) ?_
          exact ih (j + 1) _ _ (by omega) (f_ok_tb hI hx c31) hy (by rw [← hr]; simp [f_lt, f_bs, c31, c42])
        · skip
          refine mm_iload C dX0_latest_45 2 rfl ?_
          refine mm_iconst (v := (-1)) C dX0_latest_47 (by decide) ?_
          refine mm_icmp_eq (tgt := 68) C dX0_latest_48 (by decide) (fun c48 => ?_) (fun c48 => ?_)
          · skip
            refine mm_iload C dX0_latest_68 1 rfl ?_
            refine mm_istore (lv' := [(4, .int x), (6, .int (nI j)), (5, .int x), (0, .ref 3), (1, .int a), (2, .int b), (3, .int e)]) C dX0_latest_70 hnL (by decide) rfl ?_
            refine mm_aload_n C dX0_latest_72 rfl 3 rfl ?_
            refine mm_get C 3 1 (fun w h => mm_wc (inX0 w h)) rfl rfl (by decide) (mm_wc tw32) rfl rfl dX0_latest_73 ?_
            refine mm_iload C dX0_latest_76 2 rfl ?_
            refine mm_iald C 5 rfl (f_ok_in hx c31 hI.2.2.2.1 (by decide)) dX0_latest_78 ?_
            refine mm_istore (lv' := [(5, .int ((k_tb u) x.toNatClampNeg)), (4, .int x), (6, .int (nI j)), (0, .ref 3), (1, .int a), (2, .int b), (3, .int e)]) C dX0_latest_79 hnL (by decide) rfl ?_
            refine mm_iinc (q := 2) (v := (nI (j + 1))) (lv' := [(6, .int (nI (j + 1))), (5, .int ((k_tb u) x.toNatClampNeg)), (4, .int x), (0, .ref 3), (1, .int a), (2, .int b), (3, .int e)]) C dX0_latest_81 rfl (nI_1 j) hnL (by decide) rfl ?_
            refine mm_goto (tgt := 19) C dX0_latest_84 (by decide) ?_
            exact ih (j + 1) _ _ (by omega) (f_ok_tb hI hx c31) hx (by rw [← hr]; simp [f_lt, f_bs, c31, c42, c48])
          · skip
            refine mm_aload_n C dX0_latest_51 rfl 3 rfl ?_
            refine mm_get C 3 2 (fun w h => mm_wc (inX0 w h)) rfl rfl (by decide) (mm_wc tw33) rfl rfl dX0_latest_52 ?_
            refine mm_iload C dX0_latest_55 1 rfl ?_
            refine mm_iald C 6 rfl (f_ok_in hx c31 hI.2.2.2.1 (by decide)) dX0_latest_57 ?_
            refine mm_aload_n C dX0_latest_58 rfl 3 rfl ?_
            refine mm_get C 3 2 (fun w h => mm_wc (inX0 w h)) rfl rfl (by decide) (mm_wc tw33) rfl rfl dX0_latest_59 ?_
            refine mm_iload C dX0_latest_62 2 rfl ?_
            refine mm_iald C 6 rfl (f_ok_in hy c48 hI.2.2.2.1 (by decide)) dX0_latest_64 ?_
            refine mm_icmp_le (tgt := 72) C dX0_latest_65 (by decide) (fun c65 => ?_) (fun c65 => ?_)
            · skip
              refine mm_aload_n C dX0_latest_72 rfl 3 rfl ?_
              refine mm_get C 3 1 (fun w h => mm_wc (inX0 w h)) rfl rfl (by decide) (mm_wc tw32) rfl rfl dX0_latest_73 ?_
              refine mm_iload C dX0_latest_76 1 rfl ?_
              refine mm_iald C 5 rfl (f_ok_in hx c31 hI.2.2.2.1 (by decide)) dX0_latest_78 ?_
              refine mm_istore (lv' := [(5, .int ((k_tb u) x.toNatClampNeg)), (6, .int (nI j)), (4, .int y), (0, .ref 3), (1, .int a), (2, .int b), (3, .int e)]) C dX0_latest_79 hnL (by decide) rfl ?_
              refine mm_iinc (q := 1) (v := (nI (j + 1))) (lv' := [(6, .int (nI (j + 1))), (5, .int ((k_tb u) x.toNatClampNeg)), (4, .int y), (0, .ref 3), (1, .int a), (2, .int b), (3, .int e)]) C dX0_latest_81 rfl (nI_1 j) hnL (by decide) rfl ?_
              refine mm_goto (tgt := 19) C dX0_latest_84 (by decide) ?_
              exact ih (j + 1) _ _ (by omega) (f_ok_tb hI hx c31) hy (by rw [← hr]; simp [f_lt, f_bs, c31, c42, c48, c65])
            · skip
              refine mm_iload C dX0_latest_68 1 rfl ?_
              refine mm_istore (lv' := [(4, .int x), (6, .int (nI j)), (5, .int x), (0, .ref 3), (1, .int a), (2, .int b), (3, .int e)]) C dX0_latest_70 hnL (by decide) rfl ?_
              refine mm_aload_n C dX0_latest_72 rfl 3 rfl ?_
              refine mm_get C 3 1 (fun w h => mm_wc (inX0 w h)) rfl rfl (by decide) (mm_wc tw32) rfl rfl dX0_latest_73 ?_
              refine mm_iload C dX0_latest_76 2 rfl ?_
              refine mm_iald C 5 rfl (f_ok_in hx c31 hI.2.2.2.1 (by decide)) dX0_latest_78 ?_
              refine mm_istore (lv' := [(5, .int ((k_tb u) x.toNatClampNeg)), (4, .int x), (6, .int (nI j)), (0, .ref 3), (1, .int a), (2, .int b), (3, .int e)]) C dX0_latest_79 hnL (by decide) rfl ?_
              refine mm_iinc (q := 2) (v := (nI (j + 1))) (lv' := [(6, .int (nI (j + 1))), (5, .int ((k_tb u) x.toNatClampNeg)), (4, .int x), (0, .ref 3), (1, .int a), (2, .int b), (3, .int e)]) C dX0_latest_81 rfl (nI_1 j) hnL (by decide) rfl ?_
              refine mm_goto (tgt := 19) C dX0_latest_84 (by decide) ?_
              exact ih (j + 1) _ _ (by omega) (f_ok_tb hI hx c31) hx (by rw [← hr]; simp [f_lt, f_bs, c31, c42, c48, c65])
  show mm_M g ad 0 0 (ks_H u F) 0 [(0, .ref 3), (1, .int a), (2, .int b), (3, .int e)] []
  refine mm_iconst (v := (-1)) C dX0_latest_0 (by decide) ?_
  refine mm_istore (lv' := [(4, .int (-1)), (0, .ref 3), (1, .int a), (2, .int b), (3, .int e)]) C dX0_latest_1 hnL (by decide) rfl ?_
  refine mm_aload_n C dX0_latest_3 rfl 1 rfl ?_
  refine mm_get C 3 0 (fun w h => mm_wc (inX0 w h)) rfl rfl (by decide) (mm_wc tw31) rfl rfl dX0_latest_4 ?_
  refine mm_iload_n C dX0_latest_7 rfl 2 rfl ?_
  refine mm_bipush (v := 20) C dX0_latest_8 (by decide) ?_
  refine mm_imul C dX0_latest_10 ?_
  refine mm_iload_n C dX0_latest_11 rfl 3 rfl ?_
  refine mm_iadd C dX0_latest_12 ?_
  refine mm_iald C 4 rfl ha dX0_latest_13 ?_
  refine mm_istore (lv' := [(5, .int ((k_nw u) ((a * 20) + b).toNatClampNeg)), (4, .int (-1)), (0, .ref 3), (1, .int a), (2, .int b), (3, .int e)]) C dX0_latest_14 hnL (by decide) rfl ?_
  refine mm_iconst (v := 0) C dX0_latest_16 (by decide) ?_
  refine mm_istore (lv' := [(6, .int 0), (5, .int ((k_nw u) ((a * 20) + b).toNatClampNeg)), (4, .int (-1)), (0, .ref 3), (1, .int a), (2, .int b), (3, .int e)]) C dX0_latest_17 hnL (by decide) rfl ?_
  exact loop c 0 _ (-1) (by omega) (hI.2.2.2.2.2.2.1 _) (Or.inl rfl) rfl
set_option maxHeartbeats 4000000 in
set_option maxRecDepth 100000 in
theorem kX1_targetA (l : Launch) (D : va_G) (u : ks_S) (F : List mm_c) (a b : Int32) (h : vp_in (a * 10 + b) 400) : mm_Wr l D yX1_target (mm_cw yX1_target cX1_target 3 (some .int)) (mm_rm 0) [.ref 9, .int a, .int b] (ks_H u F) (some (.int (k_ta u (a * 10 + b).toNatClampNeg))) (ks_H u F) := by
  refine mm_start (own := RX1) (by decide) rfl rfl (mm_nl rfl) (fun _ => rfl) (fun _ => rfl) (fun g ad hl hD hnL C K => ?_)
  subst hl
  subst hD
  show mm_M g ad 0 0 (ks_H u F) 0 [(0, .ref 9), (1, .int a), (2, .int b)] []
  refine mm_aload_n C dX1_target_0 rfl 0 rfl ?_
  refine mm_get C 9 1 (fun w h => mm_wc (inX1 w h)) rfl rfl (by decide) (mm_wc tw62) rfl rfl dX1_target_1 ?_
  refine mm_iload_n C dX1_target_4 rfl 1 rfl ?_
  refine mm_aload_n C dX1_target_5 rfl 0 rfl ?_
  refine mm_get C 9 0 (fun w h => mm_wc (inX1 w h)) rfl rfl (by decide) (mm_wc tw61) rfl rfl dX1_target_6 ?_
  refine mm_imul C dX1_target_9 ?_
  refine mm_iload_n C dX1_target_10 rfl 2 rfl ?_
  refine mm_iadd C dX1_target_11 ?_
  refine mm_iald C 10 rfl h dX1_target_12 ?_
  exact mm_iret C K rfl dX1_target_13 ⟨rfl, rfl⟩ rfl (mm_nl rfl) (mm_nl rfl)
set_option maxHeartbeats 4000000 in
set_option maxRecDepth 100000 in
theorem kX1_targetU (l : Launch) (D : va_G) (u : ks_S) (F : List mm_c) (a b : Int32) (h : vp_in (a * 32 + b) 1280) : mm_Wr l D yX1_target (mm_cw yX1_target cX1_target 3 (some .int)) (mm_rm 0) [.ref 11, .int a, .int b] (ks_H u F) (some (.int (k_tu u (a * 32 + b).toNatClampNeg))) (ks_H u F) := by
  refine mm_start (own := RX1) (by decide) rfl rfl (mm_nl rfl) (fun _ => rfl) (fun _ => rfl) (fun g ad hl hD hnL C K => ?_)
  subst hl
  subst hD
  show mm_M g ad 0 0 (ks_H u F) 0 [(0, .ref 11), (1, .int a), (2, .int b)] []
  refine mm_aload_n C dX1_target_0 rfl 0 rfl ?_
  refine mm_get C 11 1 (fun w h => mm_wc (inX1 w h)) rfl rfl (by decide) (mm_wc tw62) rfl rfl dX1_target_1 ?_
  refine mm_iload_n C dX1_target_4 rfl 1 rfl ?_
  refine mm_aload_n C dX1_target_5 rfl 0 rfl ?_
  refine mm_get C 11 0 (fun w h => mm_wc (inX1 w h)) rfl rfl (by decide) (mm_wc tw61) rfl rfl dX1_target_6 ?_
  refine mm_imul C dX1_target_9 ?_
  refine mm_iload_n C dX1_target_10 rfl 2 rfl ?_
  refine mm_iadd C dX1_target_11 ?_
  refine mm_iald C 12 rfl h dX1_target_12 ?_
  exact mm_iret C K rfl dX1_target_13 ⟨rfl, rfl⟩ rfl (mm_nl rfl) (mm_nl rfl)
set_option maxHeartbeats 4000000 in
set_option maxRecDepth 100000 in
theorem kX2_kindInArea (l : Launch) (D : va_G) (u : ks_S) (F : List mm_c) (a b : Int32) (hk : (k_kn u).toInt ≤ ((40 : Nat) : Int)) (hb : 0 ≤ b.toInt ∧ b.toInt < ((10 : Nat) : Int)) (ha : b_below a (k_kn u) = true) : mm_Wr l D yX2_kindInArea (mm_cw yX2_kindInArea cX2_kindInArea 6 (some .int)) (mm_rm 2) [.ref 0, .int a, .int b] (ks_H u F) (some (.int (f_ka (k_kn u) (k_ta u) b 40 a))) (ks_H u F) := by
  refine mm_start (own := RX2) (by decide) rfl rfl (mm_nl rfl) (fun _ => rfl) (fun _ => rfl) (fun g ad hl hD hnL C K => ?_)
  subst hl
  subst hD
  have loop : ∀ (n : Nat) (j : Nat) (x : Int32), j + n = 40 → b_below x (k_kn u) = true → f_ka (k_kn u) (k_ta u) b n x = f_ka (k_kn u) (k_ta u) b 40 a → mm_M g ad 0 0 (ks_H u F) 5 [(4, .int (nI j)), (3, .int x), (0, .ref 0), (1, .int a), (2, .int b)] [] := by
    intro n
    induction n with
    | zero =>
      intro j x hj hx hr
      refine mm_iload C dX2_kindInArea_5 0 rfl ?_
      refine mm_bipush (v := 40) C dX2_kindInArea_7 (by decide) ?_
      refine mm_icmp_ge (tgt := 43) C dX2_kindInArea_9 (by decide) (fun c9 => ?_) (fun z => False.elim ((cn_t hj) z))
      refine mm_iload_n C dX2_kindInArea_43 rfl 1 rfl ?_
      exact mm_iret C K rfl dX2_kindInArea_44 ⟨by rw [← hr]; simp [f_ka], rfl⟩ rfl (mm_nl rfl) (mm_nl rfl)
    | succ n ih =>
      intro j x hj hx hr
      refine mm_iload C dX2_kindInArea_5 0 rfl ?_
      refine mm_bipush (v := 40) C dX2_kindInArea_7 (by decide) ?_
      refine mm_icmp_ge (tgt := 43) C dX2_kindInArea_9 (by decide) (fun z => False.elim ((cn_f hj) z)) (fun c9 => ?_)
      refine mm_aload_n C dX2_kindInArea_12 rfl 2 rfl ?_
      refine mm_get C 0 4 (fun w h => mm_wc (inX2 w h)) rfl rfl (by decide) (mm_wc tw76) rfl rfl dX2_kindInArea_13 ?_
      refine mm_iload_n C dX2_kindInArea_16 rfl 1 rfl ?_
      refine mm_iload_n C dX2_kindInArea_17 rfl 4 rfl ?_
      refine mm_riN C 9 sn_X2_X1_target_103 rfl rfl (kX1_targetA _ _ u F x b (ix_m (c := 10) hk hx hb (by decide) (by decide) (by decide))) ⟨rfl, rfl⟩ ⟨mm_nl rfl, mm_nl rfl⟩ rfl rfl (mm_nl rfl) ⟨mm_nl rfl, mm_nl rfl⟩ dX2_kindInArea_18 ?_
      refine mm_istore (lv' := [(5, .int (k_ta u (x * 10 + b).toNatClampNeg)), (4, .int (nI j)), (3, .int x), (0, .ref 0), (1, .int a), (2, .int b)]) C dX2_kindInArea_21 hnL (by decide) rfl ?_
      refine mm_aload_n C dX2_kindInArea_23 rfl 3 rfl ?_
      refine mm_iload C dX2_kindInArea_24 0 rfl ?_
      refine mm_riV C 0 sv_X2_X2_isKind_65 rfl rfl (kX2_isKind _ _ u F (k_ta u (x * 10 + b).toNatClampNeg)) ⟨rfl, rfl⟩ ⟨mm_nl rfl, mm_nl rfl⟩ rfl rfl (mm_nl rfl) ⟨mm_nl rfl, mm_nl rfl⟩ dX2_kindInArea_26 ?_
      refine mm_ifb_ne (tgt := 34) C dX2_kindInArea_29 (by decide) (fun c29 => ?_) (fun c29 => ?_)
      · skip
        refine mm_iload C dX2_kindInArea_34 0 rfl ?_
        refine mm_istore_n (lv' := [(3, .int (k_ta u (x * 10 + b).toNatClampNeg)), (5, .int (k_ta u (x * 10 + b).toNatClampNeg)), (4, .int (nI j)), (0, .ref 0), (1, .int a), (2, .int b)]) C dX2_kindInArea_36 rfl hnL (by decide) rfl ?_
        refine mm_iinc (q := 2) (v := (nI (j + 1))) (lv' := [(4, .int (nI (j + 1))), (3, .int (k_ta u (x * 10 + b).toNatClampNeg)), (5, .int (k_ta u (x * 10 + b).toNatClampNeg)), (0, .ref 0), (1, .int a), (2, .int b)]) C dX2_kindInArea_37 rfl (nI_1 j) hnL (by decide) rfl ?_
        refine mm_goto (tgt := 5) C dX2_kindInArea_40 (by decide) ?_
        refine mm_lvs (lv' := [(4, .int (nI (j + 1))), (3, .int (k_ta u (x * 10 + b).toNatClampNeg)), (0, .ref 0), (1, .int a), (2, .int b)]) [0, 1, 3, 4, 5] rfl ?_
        exact ih (j + 1) _ (by omega) c29 (by rw [← hr]; simp [f_ka, c29])
      · skip
        refine mm_iload_n C dX2_kindInArea_32 rfl 2 rfl ?_
        exact mm_iret C K rfl dX2_kindInArea_33 ⟨by rw [← hr]; simp [f_ka, c29], rfl⟩ rfl (mm_nl rfl) (mm_nl rfl)
  show mm_M g ad 0 0 (ks_H u F) 0 [(0, .ref 0), (1, .int a), (2, .int b)] []
  refine mm_iload_n C dX2_kindInArea_0 rfl 1 rfl ?_
  refine mm_istore_n (lv' := [(3, .int a), (0, .ref 0), (1, .int a), (2, .int b)]) C dX2_kindInArea_1 rfl hnL (by decide) rfl ?_
  refine mm_iconst (v := 0) C dX2_kindInArea_2 (by decide) ?_
  refine mm_istore (lv' := [(4, .int 0), (3, .int a), (0, .ref 0), (1, .int a), (2, .int b)]) C dX2_kindInArea_3 hnL (by decide) rfl ?_
  exact loop 40 0 a rfl ha rfl
set_option maxHeartbeats 4000000 in
set_option maxRecDepth 100000 in
theorem kX2_leadsTo (l : Launch) (D : va_G) (u : ks_S) (F : List mm_c) (a b e : Int32) (hk : (k_kn u).toInt ≤ ((40 : Nat) : Int)) (hb : 0 ≤ b.toInt ∧ b.toInt < ((10 : Nat) : Int)) : mm_Wr l D yX2_leadsTo (mm_cw yX2_leadsTo cX2_leadsTo 6 (some .boolean)) (mm_rm 2) [.ref 0, .int a, .int b, .int e] (ks_H u F) (some (.int (i_b (f_ld (k_kn u) (k_ta u) b e 40 a)))) (ks_H u F) := by
  refine mm_start (own := RX2) (by decide) rfl rfl (mm_nl rfl) (fun _ => rfl) (fun _ => rfl) (fun g ad hl hD hnL C K => ?_)
  subst hl
  subst hD
  have loop : ∀ (n : Nat) (j : Nat) (x : Int32), j + n = 40 → f_ld (k_kn u) (k_ta u) b e n x = f_ld (k_kn u) (k_ta u) b e 40 a → mm_M g ad 0 0 (ks_H u F) 6 [(5, .int (nI j)), (4, .int x), (0, .ref 0), (1, .int a), (2, .int b), (3, .int e)] [] := by
    intro n
    induction n with
    | zero =>
      intro j x hj hr
      refine mm_iload C dX2_leadsTo_6 0 rfl ?_
      refine mm_bipush (v := 40) C dX2_leadsTo_8 (by decide) ?_
      refine mm_icmp_ge (tgt := 48) C dX2_leadsTo_10 (by decide) (fun c10 => ?_) (fun z => False.elim ((cn_t hj) z))
      refine mm_iconst (v := 0) C dX2_leadsTo_48 (by decide) ?_
      exact mm_iret C K (by decide) dX2_leadsTo_49 ⟨by rw [← hr]; simp [f_ld, i_b], rfl⟩ rfl (mm_nl rfl) (mm_nl rfl)
    | succ n ih =>
      intro j x hj hr
      refine mm_iload C dX2_leadsTo_6 0 rfl ?_
      refine mm_bipush (v := 40) C dX2_leadsTo_8 (by decide) ?_
      refine mm_icmp_ge (tgt := 48) C dX2_leadsTo_10 (by decide) (fun z => False.elim ((cn_f hj) z)) (fun c10 => ?_)
      refine mm_aload_n C dX2_leadsTo_13 rfl 2 rfl ?_
      refine mm_iload C dX2_leadsTo_14 1 rfl ?_
      refine mm_riV C 0 sv_X2_X2_isKind_65 rfl rfl (kX2_isKind _ _ u F x) ⟨rfl, rfl⟩ ⟨mm_nl rfl, mm_nl rfl⟩ rfl rfl (mm_nl rfl) ⟨mm_nl rfl, mm_nl rfl⟩ dX2_leadsTo_16 ?_
      refine mm_ifb_eq (tgt := 48) C dX2_leadsTo_19 (by decide) (fun c19 => ?_) (fun c19 => ?_)
      · skip
        refine mm_iconst (v := 0) C dX2_leadsTo_48 (by decide) ?_
        exact mm_iret C K (by decide) dX2_leadsTo_49 ⟨by rw [← hr]; simp [f_ld, i_b, c19], rfl⟩ rfl (mm_nl rfl) (mm_nl rfl)
      · skip
        refine mm_iload C dX2_leadsTo_22 1 rfl ?_
        refine mm_iload_n C dX2_leadsTo_24 rfl 5 rfl ?_
        refine mm_icmp_ne (tgt := 30) C dX2_leadsTo_25 (by decide) (fun c25 => ?_) (fun c25 => ?_)
        · skip
          refine mm_aload_n C dX2_leadsTo_30 rfl 2 rfl ?_
          refine mm_get C 0 4 (fun w h => mm_wc (inX2 w h)) rfl rfl (by decide) (mm_wc tw76) rfl rfl dX2_leadsTo_31 ?_
          refine mm_iload C dX2_leadsTo_34 1 rfl ?_
          refine mm_iload_n C dX2_leadsTo_36 rfl 4 rfl ?_
          refine mm_riN C 9 sn_X2_X1_target_103 rfl rfl (kX1_targetA _ _ u F x b (ix_m (c := 10) hk c19 hb (by decide) (by decide) (by decide))) ⟨rfl, rfl⟩ ⟨mm_nl rfl, mm_nl rfl⟩ rfl rfl (mm_nl rfl) ⟨mm_nl rfl, mm_nl rfl⟩ dX2_leadsTo_37 ?_
          refine mm_istore (lv' := [(4, .int (k_ta u (x * 10 + b).toNatClampNeg)), (5, .int (nI j)), (0, .ref 0), (1, .int a), (2, .int b), (3, .int e)]) C dX2_leadsTo_40 hnL (by decide) rfl ?_
          refine mm_iinc (q := 1) (v := (nI (j + 1))) (lv' := [(5, .int (nI (j + 1))), (4, .int (k_ta u (x * 10 + b).toNatClampNeg)), (0, .ref 0), (1, .int a), (2, .int b), (3, .int e)]) C dX2_leadsTo_42 rfl (nI_1 j) hnL (by decide) rfl ?_
          refine mm_goto (tgt := 6) C dX2_leadsTo_45 (by decide) ?_
          exact ih (j + 1) _ (by omega) (by rw [← hr]; simp [f_ld, c19, c25])
        · skip
          refine mm_iconst (v := 1) C dX2_leadsTo_28 (by decide) ?_
          exact mm_iret C K (by decide) dX2_leadsTo_29 ⟨by subst c25; rw [← hr]; simp [f_ld, i_b, c19], rfl⟩ rfl (mm_nl rfl) (mm_nl rfl)
  show mm_M g ad 0 0 (ks_H u F) 0 [(0, .ref 0), (1, .int a), (2, .int b), (3, .int e)] []
  refine mm_iload_n C dX2_leadsTo_0 rfl 1 rfl ?_
  refine mm_istore (lv' := [(4, .int a), (0, .ref 0), (1, .int a), (2, .int b), (3, .int e)]) C dX2_leadsTo_1 hnL (by decide) rfl ?_
  refine mm_iconst (v := 0) C dX2_leadsTo_3 (by decide) ?_
  refine mm_istore (lv' := [(5, .int 0), (4, .int a), (0, .ref 0), (1, .int a), (2, .int b), (3, .int e)]) C dX2_leadsTo_4 hnL (by decide) rfl ?_
  exact loop 40 0 a rfl rfl
set_option maxHeartbeats 4000000 in
set_option maxRecDepth 100000 in
theorem kX2_upgradeOf (l : Launch) (D : va_G) (u : ks_S) (F : List mm_c) (a b : Int32) (hk : (k_kn u).toInt ≤ ((40 : Nat) : Int)) (hb : 0 ≤ b.toInt ∧ b.toInt < ((32 : Nat) : Int)) : mm_Wr l D yX2_upgradeOf (mm_cw yX2_upgradeOf cX2_upgradeOf 6 (some .int)) (mm_rm 2) [.ref 0, .int a, .int b] (ks_H u F) (some (.int (f_up (k_kn u) (k_pa u) (k_tu u) b 40 a))) (ks_H u F) := by
  refine mm_start (own := RX2) (by decide) rfl rfl (mm_nl rfl) (fun _ => rfl) (fun _ => rfl) (fun g ad hl hD hnL C K => ?_)
  subst hl
  subst hD
  have loop : ∀ (n : Nat) (j : Nat) (x : Int32), j + n = 40 → f_up (k_kn u) (k_pa u) (k_tu u) b n x = f_up (k_kn u) (k_pa u) (k_tu u) b 40 a → mm_M g ad 0 0 (ks_H u F) 5 [(4, .int (nI j)), (3, .int x), (0, .ref 0), (1, .int a), (2, .int b)] [] := by
    intro n
    induction n with
    | zero =>
      intro j x hj hr
      refine mm_iload C dX2_upgradeOf_5 0 rfl ?_
      refine mm_bipush (v := 40) C dX2_upgradeOf_7 (by decide) ?_
      refine mm_icmp_ge (tgt := 53) C dX2_upgradeOf_9 (by decide) (fun c9 => ?_) (fun z => False.elim ((cn_t hj) z))
      refine mm_iconst (v := (-1)) C dX2_upgradeOf_53 (by decide) ?_
      exact mm_iret C K rfl dX2_upgradeOf_54 ⟨by rw [← hr]; simp [f_up], rfl⟩ rfl (mm_nl rfl) (mm_nl rfl)
    | succ n ih =>
      intro j x hj hr
      refine mm_iload C dX2_upgradeOf_5 0 rfl ?_
      refine mm_bipush (v := 40) C dX2_upgradeOf_7 (by decide) ?_
      refine mm_icmp_ge (tgt := 53) C dX2_upgradeOf_9 (by decide) (fun z => False.elim ((cn_f hj) z)) (fun c9 => ?_)
      refine mm_aload_n C dX2_upgradeOf_12 rfl 2 rfl ?_
      refine mm_iload_n C dX2_upgradeOf_13 rfl 1 rfl ?_
      refine mm_riV C 0 sv_X2_X2_isKind_65 rfl rfl (kX2_isKind _ _ u F x) ⟨rfl, rfl⟩ ⟨mm_nl rfl, mm_nl rfl⟩ rfl rfl (mm_nl rfl) ⟨mm_nl rfl, mm_nl rfl⟩ dX2_upgradeOf_14 ?_
      refine mm_ifb_eq (tgt := 53) C dX2_upgradeOf_17 (by decide) (fun c17 => ?_) (fun c17 => ?_)
      · skip
        refine mm_iconst (v := (-1)) C dX2_upgradeOf_53 (by decide) ?_
        exact mm_iret C K rfl dX2_upgradeOf_54 ⟨by rw [← hr]; simp [f_up, c17], rfl⟩ rfl (mm_nl rfl) (mm_nl rfl)
      · skip
        refine mm_aload_n C dX2_upgradeOf_20 rfl 2 rfl ?_
        refine mm_get C 0 5 (fun w h => mm_wc (inX2 w h)) rfl rfl (by decide) (mm_wc tw77) rfl rfl dX2_upgradeOf_21 ?_
        refine mm_iload_n C dX2_upgradeOf_24 rfl 1 rfl ?_
        refine mm_iload_n C dX2_upgradeOf_25 rfl 4 rfl ?_
        refine mm_riN C 11 sn_X2_X1_target_103 rfl rfl (kX1_targetU _ _ u F x b (ix_m (c := 32) hk c17 hb (by decide) (by decide) (by decide))) ⟨rfl, rfl⟩ ⟨mm_nl rfl, mm_nl rfl⟩ rfl rfl (mm_nl rfl) ⟨mm_nl rfl, mm_nl rfl⟩ dX2_upgradeOf_26 ?_
        refine mm_istore (lv' := [(5, .int (k_tu u (x * 32 + b).toNatClampNeg)), (4, .int (nI j)), (3, .int x), (0, .ref 0), (1, .int a), (2, .int b)]) C dX2_upgradeOf_29 hnL (by decide) rfl ?_
        refine mm_iload C dX2_upgradeOf_31 0 rfl ?_
        refine mm_iconst (v := (-1)) C dX2_upgradeOf_33 (by decide) ?_
        refine mm_icmp_eq (tgt := 40) C dX2_upgradeOf_34 (by decide) (fun c34 => ?_) (fun c34 => ?_)
        · skip
          refine mm_aload_n C dX2_upgradeOf_40 rfl 3 rfl ?_
          refine mm_get C 0 1 (fun w h => mm_wc (inX2 w h)) rfl rfl (by decide) (mm_wc tw73) rfl rfl dX2_upgradeOf_41 ?_
          refine mm_iload_n C dX2_upgradeOf_44 rfl 2 rfl ?_
          refine mm_iald C 1 rfl (ix_b hk c17) dX2_upgradeOf_45 ?_
          refine mm_istore_n (lv' := [(3, .int ((k_pa u) x.toNatClampNeg)), (5, .int (k_tu u (x * 32 + b).toNatClampNeg)), (4, .int (nI j)), (0, .ref 0), (1, .int a), (2, .int b)]) C dX2_upgradeOf_46 rfl hnL (by decide) rfl ?_
          refine mm_iinc (q := 2) (v := (nI (j + 1))) (lv' := [(4, .int (nI (j + 1))), (3, .int ((k_pa u) x.toNatClampNeg)), (5, .int (k_tu u (x * 32 + b).toNatClampNeg)), (0, .ref 0), (1, .int a), (2, .int b)]) C dX2_upgradeOf_47 rfl (nI_1 j) hnL (by decide) rfl ?_
          refine mm_goto (tgt := 5) C dX2_upgradeOf_50 (by decide) ?_
          refine mm_lvs (lv' := [(4, .int (nI (j + 1))), (3, .int ((k_pa u) x.toNatClampNeg)), (0, .ref 0), (1, .int a), (2, .int b)]) [0, 1, 3, 4, 5] rfl ?_
          exact ih (j + 1) _ (by omega) (by rw [← hr]; simp [f_up, c17, c34])
        · skip
          refine mm_iload C dX2_upgradeOf_37 0 rfl ?_
          exact mm_iret C K rfl dX2_upgradeOf_39 ⟨by rw [← hr]; simp [f_up, c17, c34], rfl⟩ rfl (mm_nl rfl) (mm_nl rfl)
  show mm_M g ad 0 0 (ks_H u F) 0 [(0, .ref 0), (1, .int a), (2, .int b)] []
  refine mm_iload_n C dX2_upgradeOf_0 rfl 1 rfl ?_
  refine mm_istore_n (lv' := [(3, .int a), (0, .ref 0), (1, .int a), (2, .int b)]) C dX2_upgradeOf_1 rfl hnL (by decide) rfl ?_
  refine mm_iconst (v := 0) C dX2_upgradeOf_2 (by decide) ?_
  refine mm_istore (lv' := [(4, .int 0), (3, .int a), (0, .ref 0), (1, .int a), (2, .int b)]) C dX2_upgradeOf_3 hnL (by decide) rfl ?_
  exact loop 40 0 a rfl rfl
set_option maxHeartbeats 4000000 in
set_option maxRecDepth 100000 in
theorem kX2_skillsOfAllUnits (l : Launch) (D : va_G) (u : ks_S) (F : List mm_c)   : mm_Wr l D yX2_skillsOfAllUnits (mm_cw yX2_skillsOfAllUnits cX2_skillsOfAllUnits 3 (some .int)) (mm_rm 0) [.ref 0] (ks_H u F) (some (.int (f_sk (k_sk u) 20))) (ks_H u F) := by
  refine mm_start (own := RX2) (by decide) rfl rfl (mm_nl rfl) (fun _ => rfl) (fun _ => rfl) (fun g ad hl hD hnL C K => ?_)
  subst hl
  subst hD
  have loop : ∀ (n : Nat) (j : Nat), j + n = 20 → mm_M g ad 0 0 (ks_H u F) 4 [(2, .int (nI j)), (1, .int (f_sk (k_sk u) j)), (0, .ref 0)] [] := by
    intro n
    induction n with
    | zero =>
      intro j hj
      refine mm_iload_n C dX2_skillsOfAllUnits_4 rfl 0 rfl ?_
      refine mm_bipush (v := 20) C dX2_skillsOfAllUnits_5 (by decide) ?_
      refine mm_icmp_ge (tgt := 25) C dX2_skillsOfAllUnits_7 (by decide) (fun c7 => ?_) (fun z => False.elim ((cn_t hj) z))
      refine mm_iload_n C dX2_skillsOfAllUnits_25 rfl 1 rfl ?_
      exact mm_iret C K rfl dX2_skillsOfAllUnits_26 ⟨by rw [show j = 20 from by omega], rfl⟩ rfl (mm_nl rfl) (mm_nl rfl)
    | succ n ih =>
      intro j hj
      refine mm_iload_n C dX2_skillsOfAllUnits_4 rfl 0 rfl ?_
      refine mm_bipush (v := 20) C dX2_skillsOfAllUnits_5 (by decide) ?_
      refine mm_icmp_ge (tgt := 25) C dX2_skillsOfAllUnits_7 (by decide) (fun z => False.elim ((cn_f hj) z)) (fun c7 => ?_)
      refine mm_iload_n C dX2_skillsOfAllUnits_10 rfl 1 rfl ?_
      refine mm_aload_n C dX2_skillsOfAllUnits_11 rfl 2 rfl ?_
      refine mm_get C 0 11 (fun w h => mm_wc (inX2 w h)) rfl rfl (by decide) (mm_wc tw83) rfl rfl dX2_skillsOfAllUnits_12 ?_
      refine mm_iload_n C dX2_skillsOfAllUnits_15 rfl 0 rfl ?_
      refine mm_iald C 17 rfl (vp_in_nI (by omega) (by decide)) dX2_skillsOfAllUnits_16 ?_
      refine mm_ior C dX2_skillsOfAllUnits_17 ?_
      refine mm_istore_n (lv' := [(1, .int ((f_sk (k_sk u) j) ||| ((k_sk u) (nI j).toNatClampNeg))), (2, .int (nI j)), (0, .ref 0)]) C dX2_skillsOfAllUnits_18 rfl hnL (by decide) rfl ?_
      refine mm_iinc (q := 1) (v := (nI (j + 1))) (lv' := [(2, .int (nI (j + 1))), (1, .int ((f_sk (k_sk u) j) ||| ((k_sk u) (nI j).toNatClampNeg))), (0, .ref 0)]) C dX2_skillsOfAllUnits_19 rfl (nI_1 j) hnL (by decide) rfl ?_
      refine mm_goto (tgt := 4) C dX2_skillsOfAllUnits_22 (by decide) ?_
      exact (by rw [nI_clamp (by omega)]; exact ih (j + 1) (by omega))
  show mm_M g ad 0 0 (ks_H u F) 0 [(0, .ref 0)] []
  refine mm_iconst (v := 0) C dX2_skillsOfAllUnits_0 (by decide) ?_
  refine mm_istore_n (lv' := [(1, .int 0), (0, .ref 0)]) C dX2_skillsOfAllUnits_1 rfl hnL (by decide) rfl ?_
  refine mm_iconst (v := 0) C dX2_skillsOfAllUnits_2 (by decide) ?_
  refine mm_istore_n (lv' := [(2, .int 0), (1, .int 0), (0, .ref 0)]) C dX2_skillsOfAllUnits_3 rfl hnL (by decide) rfl ?_
  exact loop 20 0 rfl
set_option maxHeartbeats 4000000 in
set_option maxRecDepth 100000 in
theorem kX2_inherited (l : Launch) (D : va_G) (u : ks_S) (F : List mm_c) (a b e d : Int32) (k c i : Nat) (hI : ks_I u k c i) (hb : 0 ≤ b.toInt ∧ b.toInt < ((20 : Nat) : Int)) : mm_Wr l D yX2_inherited (mm_cw yX2_inherited cX2_inherited 9 (some .int)) (mm_rm 3) [.ref 0, .int a, .int b, .int e, .int d] (ks_H u F) (some (.int (f_in u c b e d 40 a 0))) (ks_H u F) := by
  refine mm_start (own := RX2) (by decide) rfl rfl (mm_nl rfl) (fun _ => rfl) (fun _ => rfl) (fun g ad hl hD hnL C K => ?_)
  subst hl
  subst hD
  have loop : ∀ (n : Nat) (j : Nat) (x y : Int32), j + n = 40 → f_in u c b e d n x y = f_in u c b e d 40 a 0 → mm_M g ad 0 0 (ks_H u F) 9 [(7, .int (nI j)), (6, .int x), (5, .int y), (0, .ref 0), (1, .int a), (2, .int b), (3, .int e), (4, .int d)] [] := by
    intro n
    induction n with
    | zero =>
      intro j x y hj hr
      refine mm_iload C dX2_inherited_9 0 rfl ?_
      refine mm_bipush (v := 40) C dX2_inherited_11 (by decide) ?_
      refine mm_icmp_ge (tgt := 126) C dX2_inherited_13 (by decide) (fun c13 => ?_) (fun z => False.elim ((cn_t hj) z))
      refine mm_iload C dX2_inherited_126 2 rfl ?_
      refine mm_iload C dX2_inherited_128 7 rfl ?_
      refine mm_mmax C (mm_wc tw363) (mm_wc tw364) (mm_wc tw13) (mm_wc tw365) (mm_nl rfl) (mm_nl rfl) ⟨mm_nl rfl, mm_nl rfl⟩ dX2_inherited_130 ?_
      exact mm_iret C K rfl dX2_inherited_133 ⟨by rw [← hr]; simp [f_in, f_mx], rfl⟩ rfl (mm_nl rfl) (mm_nl rfl)
    | succ n ih =>
      intro j x y hj hr
      refine mm_iload C dX2_inherited_9 0 rfl ?_
      refine mm_bipush (v := 40) C dX2_inherited_11 (by decide) ?_
      refine mm_icmp_ge (tgt := 126) C dX2_inherited_13 (by decide) (fun z => False.elim ((cn_f hj) z)) (fun c13 => ?_)
      refine mm_aload_n C dX2_inherited_16 rfl 3 rfl ?_
      refine mm_iload C dX2_inherited_17 1 rfl ?_
      refine mm_riV C 0 sv_X2_X2_isKind_65 rfl rfl (kX2_isKind _ _ u F x) ⟨rfl, rfl⟩ ⟨mm_nl rfl, mm_nl rfl⟩ rfl rfl (mm_nl rfl) ⟨mm_nl rfl, mm_nl rfl⟩ dX2_inherited_19 ?_
      refine mm_ifb_eq (tgt := 126) C dX2_inherited_22 (by decide) (fun c22 => ?_) (fun c22 => ?_)
      · skip
        refine mm_iload C dX2_inherited_126 2 rfl ?_
        refine mm_iload C dX2_inherited_128 7 rfl ?_
        refine mm_mmax C (mm_wc tw363) (mm_wc tw364) (mm_wc tw13) (mm_wc tw365) (mm_nl rfl) (mm_nl rfl) ⟨mm_nl rfl, mm_nl rfl⟩ dX2_inherited_130 ?_
        exact mm_iret C K rfl dX2_inherited_133 ⟨by rw [← hr]; simp [f_in, f_mx, c22], rfl⟩ rfl (mm_nl rfl) (mm_nl rfl)
      · skip
        refine mm_aload_n C dX2_inherited_25 rfl 3 rfl ?_
        refine mm_get C 0 3 (fun w h => mm_wc (inX2 w h)) rfl rfl (by decide) (mm_wc tw75) rfl rfl dX2_inherited_26 ?_
        refine mm_iload C dX2_inherited_29 1 rfl ?_
        refine mm_iload_n C dX2_inherited_31 rfl 5 rfl ?_
        refine mm_iload_n C dX2_inherited_32 rfl 6 rfl ?_
        refine mm_riN C 3 sn_X2_X0_latest_182 rfl rfl (kX0_latest _ _ u F x b e k c i hI (ix_m (c := 20) hI.k40 c22 hb (by decide) (by decide) (by decide))) ⟨rfl, rfl⟩ ⟨mm_nl rfl, mm_nl rfl⟩ rfl rfl (mm_nl rfl) ⟨mm_nl rfl, mm_nl rfl⟩ dX2_inherited_33 ?_
        refine mm_istore (lv' := [(8, .int (f_la u c x b e)), (7, .int (nI j)), (6, .int x), (5, .int y), (0, .ref 0), (1, .int a), (2, .int b), (3, .int e), (4, .int d)]) C dX2_inherited_36 hnL (by decide) rfl ?_
        refine mm_iload C dX2_inherited_38 0 rfl ?_
        refine mm_iconst (v := (-1)) C dX2_inherited_40 (by decide) ?_
        refine mm_icmp_eq (tgt := 74) C dX2_inherited_41 (by decide) (fun c41 => ?_) (fun c41 => ?_)
        · skip
          refine mm_iload C dX2_inherited_74 0 rfl ?_
          refine mm_iconst (v := (-1)) C dX2_inherited_76 (by decide) ?_
          refine mm_icmp_eq (tgt := 111) C dX2_inherited_77 (by decide) (fun c77 => ?_) (fun z => False.elim ((fun z => z c41) z))
          refine mm_aload_n C dX2_inherited_111 rfl 4 rfl ?_
          refine mm_get C 0 1 (fun w h => mm_wc (inX2 w h)) rfl rfl (by decide) (mm_wc tw73) rfl rfl dX2_inherited_112 ?_
          refine mm_iload C dX2_inherited_115 2 rfl ?_
          refine mm_iald C 1 rfl (ix_b hI.k40 c22) dX2_inherited_117 ?_
          refine mm_istore (lv' := [(6, .int ((k_pa u) x.toNatClampNeg)), (8, .int (f_la u c x b e)), (7, .int (nI j)), (5, .int y), (0, .ref 0), (1, .int a), (2, .int b), (3, .int e), (4, .int d)]) C dX2_inherited_118 hnL (by decide) rfl ?_
          refine mm_iinc (q := 2) (v := (nI (j + 1))) (lv' := [(7, .int (nI (j + 1))), (6, .int ((k_pa u) x.toNatClampNeg)), (8, .int (f_la u c x b e)), (5, .int y), (0, .ref 0), (1, .int a), (2, .int b), (3, .int e), (4, .int d)]) C dX2_inherited_120 rfl (nI_1 j) hnL (by decide) rfl ?_
          refine mm_goto (tgt := 9) C dX2_inherited_123 (by decide) ?_
          refine mm_lvs (lv' := [(7, .int (nI (j + 1))), (6, .int ((k_pa u) x.toNatClampNeg)), (5, .int y), (0, .ref 0), (1, .int a), (2, .int b), (3, .int e), (4, .int d)]) [0, 1, 3, 4, 5, 6, 7, 8] rfl ?_
          exact ih (j + 1) _ _ (by omega) (by rw [← hr]; simp [f_in, f_mx, c22, c41])
        · skip
          refine mm_aload_n C dX2_inherited_44 rfl 4 rfl ?_
          refine mm_get C 0 3 (fun w h => mm_wc (inX2 w h)) rfl rfl (by decide) (mm_wc tw75) rfl rfl dX2_inherited_45 ?_
          refine mm_getN C 3 3 (fun w h => mm_wc (inX0 w h)) rfl rfl (by decide) (List.mem_of_getElem? (i := 1) rfl) rfl rfl dX2_inherited_48 ?_
          refine mm_iload C dX2_inherited_51 0 rfl ?_
          refine mm_iald C 7 rfl (f_ok_in (f_la_ok hI _ _ _) c41 hI.2.2.2.1 (by decide)) dX2_inherited_53 ?_
          refine mm_iconst (v := 1) C dX2_inherited_54 (by decide) ?_
          refine mm_icmp_ne (tgt := 74) C dX2_inherited_55 (by decide) (fun c55 => ?_) (fun c55 => ?_)
          · skip
            refine mm_iload C dX2_inherited_74 0 rfl ?_
            refine mm_iconst (v := (-1)) C dX2_inherited_76 (by decide) ?_
            refine mm_icmp_eq (tgt := 111) C dX2_inherited_77 (by decide) (fun z => False.elim ((fun z => c41 z) z)) (fun c77 => ?_)
            refine mm_aload_n C dX2_inherited_80 rfl 4 rfl ?_
            refine mm_get C 0 3 (fun w h => mm_wc (inX2 w h)) rfl rfl (by decide) (mm_wc tw75) rfl rfl dX2_inherited_81 ?_
            refine mm_getN C 3 3 (fun w h => mm_wc (inX0 w h)) rfl rfl (by decide) (List.mem_of_getElem? (i := 1) rfl) rfl rfl dX2_inherited_84 ?_
            refine mm_iload C dX2_inherited_87 0 rfl ?_
            refine mm_iald C 7 rfl (f_ok_in (f_la_ok hI _ _ _) c77 hI.2.2.2.1 (by decide)) dX2_inherited_89 ?_
            refine mm_iconst (v := 2) C dX2_inherited_90 (by decide) ?_
            refine mm_icmp_ne (tgt := 111) C dX2_inherited_91 (by decide) (fun c91 => ?_) (fun c91 => ?_)
            · skip
              refine mm_aload_n C dX2_inherited_111 rfl 4 rfl ?_
              refine mm_get C 0 1 (fun w h => mm_wc (inX2 w h)) rfl rfl (by decide) (mm_wc tw73) rfl rfl dX2_inherited_112 ?_
              refine mm_iload C dX2_inherited_115 2 rfl ?_
              refine mm_iald C 1 rfl (ix_b hI.k40 c22) dX2_inherited_117 ?_
              refine mm_istore (lv' := [(6, .int ((k_pa u) x.toNatClampNeg)), (8, .int (f_la u c x b e)), (7, .int (nI j)), (5, .int y), (0, .ref 0), (1, .int a), (2, .int b), (3, .int e), (4, .int d)]) C dX2_inherited_118 hnL (by decide) rfl ?_
              refine mm_iinc (q := 2) (v := (nI (j + 1))) (lv' := [(7, .int (nI (j + 1))), (6, .int ((k_pa u) x.toNatClampNeg)), (8, .int (f_la u c x b e)), (5, .int y), (0, .ref 0), (1, .int a), (2, .int b), (3, .int e), (4, .int d)]) C dX2_inherited_120 rfl (nI_1 j) hnL (by decide) rfl ?_
              refine mm_goto (tgt := 9) C dX2_inherited_123 (by decide) ?_
              refine mm_lvs (lv' := [(7, .int (nI (j + 1))), (6, .int ((k_pa u) x.toNatClampNeg)), (5, .int y), (0, .ref 0), (1, .int a), (2, .int b), (3, .int e), (4, .int d)]) [0, 1, 3, 4, 5, 6, 7, 8] rfl ?_
              exact ih (j + 1) _ _ (by omega) (by rw [← hr]; simp [f_in, f_mx, c22, c41, c55, c91])
            · skip
              refine mm_iload C dX2_inherited_94 3 rfl ?_
              refine mm_aload_n C dX2_inherited_96 rfl 4 rfl ?_
              refine mm_get C 0 3 (fun w h => mm_wc (inX2 w h)) rfl rfl (by decide) (mm_wc tw75) rfl rfl dX2_inherited_97 ?_
              refine mm_getN C 3 4 (fun w h => mm_wc (inX0 w h)) rfl rfl (by decide) (List.mem_of_getElem? (i := 2) rfl) rfl rfl dX2_inherited_100 ?_
              refine mm_iload C dX2_inherited_103 0 rfl ?_
              refine mm_iald C 8 rfl (f_ok_in (f_la_ok hI _ _ _) c77 hI.2.2.2.1 (by decide)) dX2_inherited_105 ?_
              refine mm_mmax C (mm_wc tw363) (mm_wc tw364) (mm_wc tw13) (mm_wc tw365) (mm_nl rfl) (mm_nl rfl) ⟨mm_nl rfl, mm_nl rfl⟩ dX2_inherited_106 ?_
              refine mm_istore (lv' := [(5, .int (if y < ((k_vl u) (f_la u c x b e).toNatClampNeg) then ((k_vl u) (f_la u c x b e).toNatClampNeg) else y)), (8, .int (f_la u c x b e)), (7, .int (nI j)), (6, .int x), (0, .ref 0), (1, .int a), (2, .int b), (3, .int e), (4, .int d)]) C dX2_inherited_109 hnL (by decide) rfl ?_
              refine mm_aload_n C dX2_inherited_111 rfl 4 rfl ?_
              refine mm_get C 0 1 (fun w h => mm_wc (inX2 w h)) rfl rfl (by decide) (mm_wc tw73) rfl rfl dX2_inherited_112 ?_
              refine mm_iload C dX2_inherited_115 3 rfl ?_
              refine mm_iald C 1 rfl (ix_b hI.k40 c22) dX2_inherited_117 ?_
              refine mm_istore (lv' := [(6, .int ((k_pa u) x.toNatClampNeg)), (5, .int (if y < ((k_vl u) (f_la u c x b e).toNatClampNeg) then ((k_vl u) (f_la u c x b e).toNatClampNeg) else y)), (8, .int (f_la u c x b e)), (7, .int (nI j)), (0, .ref 0), (1, .int a), (2, .int b), (3, .int e), (4, .int d)]) C dX2_inherited_118 hnL (by decide) rfl ?_
              refine mm_iinc (q := 3) (v := (nI (j + 1))) (lv' := [(7, .int (nI (j + 1))), (6, .int ((k_pa u) x.toNatClampNeg)), (5, .int (if y < ((k_vl u) (f_la u c x b e).toNatClampNeg) then ((k_vl u) (f_la u c x b e).toNatClampNeg) else y)), (8, .int (f_la u c x b e)), (0, .ref 0), (1, .int a), (2, .int b), (3, .int e), (4, .int d)]) C dX2_inherited_120 rfl (nI_1 j) hnL (by decide) rfl ?_
              refine mm_goto (tgt := 9) C dX2_inherited_123 (by decide) ?_
              refine mm_lvs (lv' := [(7, .int (nI (j + 1))), (6, .int ((k_pa u) x.toNatClampNeg)), (5, .int (if y < ((k_vl u) (f_la u c x b e).toNatClampNeg) then ((k_vl u) (f_la u c x b e).toNatClampNeg) else y)), (0, .ref 0), (1, .int a), (2, .int b), (3, .int e), (4, .int d)]) [0, 1, 2, 4, 5, 6, 7, 8] rfl ?_
              exact ih (j + 1) _ _ (by omega) (by rw [← hr]; simp [f_in, f_mx, c22, c41, c55, c91])
          · skip
            refine mm_iload C dX2_inherited_58 3 rfl ?_
            refine mm_aload_n C dX2_inherited_60 rfl 4 rfl ?_
            refine mm_get C 0 3 (fun w h => mm_wc (inX2 w h)) rfl rfl (by decide) (mm_wc tw75) rfl rfl dX2_inherited_61 ?_
            refine mm_getN C 3 4 (fun w h => mm_wc (inX0 w h)) rfl rfl (by decide) (List.mem_of_getElem? (i := 2) rfl) rfl rfl dX2_inherited_64 ?_
            refine mm_iload C dX2_inherited_67 0 rfl ?_
            refine mm_iald C 8 rfl (f_ok_in (f_la_ok hI _ _ _) c41 hI.2.2.2.1 (by decide)) dX2_inherited_69 ?_
            refine mm_mmax C (mm_wc tw363) (mm_wc tw364) (mm_wc tw13) (mm_wc tw365) (mm_nl rfl) (mm_nl rfl) ⟨mm_nl rfl, mm_nl rfl⟩ dX2_inherited_70 ?_
            exact mm_iret C K rfl dX2_inherited_73 ⟨by rw [← hr]; simp [f_in, f_mx, c22, c41, c55], rfl⟩ rfl (mm_nl rfl) (mm_nl rfl)
  show mm_M g ad 0 0 (ks_H u F) 0 [(0, .ref 0), (1, .int a), (2, .int b), (3, .int e), (4, .int d)] []
  refine mm_iconst (v := 0) C dX2_inherited_0 (by decide) ?_
  refine mm_istore (lv' := [(5, .int 0), (0, .ref 0), (1, .int a), (2, .int b), (3, .int e), (4, .int d)]) C dX2_inherited_1 hnL (by decide) rfl ?_
  refine mm_iload_n C dX2_inherited_3 rfl 2 rfl ?_
  refine mm_istore (lv' := [(6, .int a), (5, .int 0), (0, .ref 0), (1, .int a), (2, .int b), (3, .int e), (4, .int d)]) C dX2_inherited_4 hnL (by decide) rfl ?_
  refine mm_iconst (v := 0) C dX2_inherited_6 (by decide) ?_
  refine mm_istore (lv' := [(7, .int 0), (6, .int a), (5, .int 0), (0, .ref 0), (1, .int a), (2, .int b), (3, .int e), (4, .int d)]) C dX2_inherited_7 hnL (by decide) rfl ?_
  exact loop 40 0 a 0 rfl rfl
