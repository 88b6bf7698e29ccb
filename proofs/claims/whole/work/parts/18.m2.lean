theorem sv_X3_X3_isClosed_99 : mm_SV RX3 99 RX3 yX3_isClosed cX3_isClosed 5 (some .boolean) 2 := ⟨tw583, tw585, (mm_wp 26 rfl rfl), tw5, tw586, rfl, ⟨by decide +kernel, by decide +kernel, by decide +kernel⟩⟩
theorem sv_X3_X3_needs_105 : mm_SV RX3 105 RX3 yX3_needs cX3_needs 8 (some .int) 3 := ⟨tw591, tw593, (mm_wp 28 rfl rfl), tw5, tw594, rfl, ⟨by decide +kernel, by decide +kernel, by decide +kernel⟩⟩
theorem rowsOf_end {y x : Int32} {f : Nat → Int32} {j N : Nat} (hy : y = nI (n_cn f j)) (h : x = nI (n_cn f N)) (hj : j = N) : some (Value.int y) = some (Value.int x) := by
  subst hj; rw [hy, h]
set_option maxHeartbeats 4000000 in
set_option maxRecDepth 100000 in
theorem kX3_rowsOfA (l : Launch) (D : va_G) (U u : ks_S) (t : Int32) (ck cw : Nat → Int32) (F : List mm_c) (h : k_ts u = nI (n_cn (k_ta u) 400)) : mm_Wr l D yX3_rowsOf (mm_cw yX3_rowsOf cX3_rowsOf 4 (some .int)) (mm_rm 0) [.ref 18, .int 1] (ks_H U (ms_H u t ck cw F)) (some (.int (k_ts u))) (ks_H U (ms_H u t ck cw F)) := by
  refine mm_start (own := RX3) (by decide) rfl rfl (mm_nl rfl) (fun _ => rfl) (fun _ => rfl) (fun g ad hl hD hnL C K => ?_)
  subst hl
  subst hD
  have loop : ∀ (n : Nat) (j : Nat) (y : Int32), j + n = 400 → y = nI (n_cn (k_ta u) j) → mm_M g ad 0 0 (ks_H U (ms_H u t ck cw F)) 4 [(3, .int (nI j)), (2, .int y), (0, .ref 18), (1, .int 1)] [] := by
    intro n
    induction n with
    | zero =>
      intro j y hj hy
      refine mm_iload_n C dX3_rowsOf_4 rfl 0 rfl ?_
      refine mm_sipush (v := 400) C dX3_rowsOf_5 (by decide) ?_
      refine mm_icmp_ge (tgt := 38) C dX3_rowsOf_8 (by decide) (fun c8 => ?_) (fun z => False.elim ((cn_t hj) z))
      refine mm_iconst (v := 0) C dX3_rowsOf_38 (by decide) ?_
      refine mm_istore_n (lv' := [(3, .int 0), (2, .int y), (0, .ref 18), (1, .int 1)]) C dX3_rowsOf_39 rfl hnL (by decide) rfl ?_
      refine mm_iload_n C dX3_rowsOf_40 rfl 0 rfl ?_
      refine mm_sipush (v := 1280) C dX3_rowsOf_41 (by decide) ?_
      refine mm_icmp_ge (tgt := 74) C dX3_rowsOf_44 (by decide) (fun z => absurd z (by decide)) (fun _ => ?_)
      refine mm_iload_n C dX3_rowsOf_47 rfl 3 rfl ?_
      refine mm_if_ne (tgt := 74) C dX3_rowsOf_48 (by decide) (fun _ => ?_) (fun z => absurd z (by decide))
      refine mm_iload_n C dX3_rowsOf_74 rfl 1 rfl ?_
      exact mm_iret C K rfl dX3_rowsOf_75 ⟨(rowsOf_end hy h (by omega)), rfl⟩ rfl (mm_nl rfl) (mm_nl rfl)
    | succ n ih =>
      intro j y hj hy
      have ej : (nI j).toNatClampNeg = j := nI_clamp (by omega)
      refine mm_iload_n C dX3_rowsOf_4 rfl 0 rfl ?_
      refine mm_sipush (v := 400) C dX3_rowsOf_5 (by decide) ?_
      refine mm_icmp_ge (tgt := 38) C dX3_rowsOf_8 (by decide) (fun z => False.elim ((cn_f hj) z)) (fun c8 => ?_)
      refine mm_iload_n C dX3_rowsOf_11 rfl 3 rfl ?_
      refine mm_if_eq (tgt := 38) C dX3_rowsOf_12 (by decide) (fun z => absurd z (by decide)) (fun _ => ?_)
      refine mm_iload_n C dX3_rowsOf_15 rfl 1 rfl ?_
      refine mm_aload_n C dX3_rowsOf_16 rfl 2 rfl ?_
      refine mm_get C 18 10 (fun w h => mm_wc (inX3 w h)) rfl rfl (by decide) (mm_wc tw477) rfl rfl dX3_rowsOf_17 ?_
      refine mm_iload_n C dX3_rowsOf_20 rfl 0 rfl ?_
      refine mm_iald C 26 rfl (vp_in_nI (by omega) (by decide)) dX3_rowsOf_21 ?_
      refine mm_if_lt (tgt := 29) C dX3_rowsOf_22 (by decide) (fun c22 => ?_) (fun c22 => ?_)
      · skip
        refine mm_iconst (v := 0) C dX3_rowsOf_29 (by decide) ?_
        refine mm_iadd C dX3_rowsOf_30 ?_
        refine mm_istore_n (lv' := [(2, .int (y + 0)), (3, .int (nI j)), (0, .ref 18), (1, .int 1)]) C dX3_rowsOf_31 rfl hnL (by decide) rfl ?_
        refine mm_iinc (q := 1) (v := (nI (j + 1))) (lv' := [(3, .int (nI (j + 1))), (2, .int (y + 0)), (0, .ref 18), (1, .int 1)]) C dX3_rowsOf_32 rfl (nI_1 j) hnL (by decide) rfl ?_
        refine mm_goto (tgt := 4) C dX3_rowsOf_35 (by decide) ?_
        exact ih (j + 1) _ (by omega) (by simp only [ej] at c22; rw [hy, n_cn, if_pos c22]; exact Int32.add_zero _)
      · skip
        refine mm_iconst (v := 1) C dX3_rowsOf_25 (by decide) ?_
        refine mm_goto (tgt := 30) C dX3_rowsOf_26 (by decide) ?_
        refine mm_iadd C dX3_rowsOf_30 ?_
        refine mm_istore_n (lv' := [(2, .int (y + 1)), (3, .int (nI j)), (0, .ref 18), (1, .int 1)]) C dX3_rowsOf_31 rfl hnL (by decide) rfl ?_
        refine mm_iinc (q := 1) (v := (nI (j + 1))) (lv' := [(3, .int (nI (j + 1))), (2, .int (y + 1)), (0, .ref 18), (1, .int 1)]) C dX3_rowsOf_32 rfl (nI_1 j) hnL (by decide) rfl ?_
        refine mm_goto (tgt := 4) C dX3_rowsOf_35 (by decide) ?_
        exact ih (j + 1) _ (by omega) (by simp only [ej] at c22; rw [hy, n_cn, if_neg c22]; exact nI_1 _)
  show mm_M g ad 0 0 (ks_H U (ms_H u t ck cw F)) 0 [(0, .ref 18), (1, .int 1)] []
  refine mm_iconst (v := 0) C dX3_rowsOf_0 (by decide) ?_
  refine mm_istore_n (lv' := [(2, .int 0), (0, .ref 18), (1, .int 1)]) C dX3_rowsOf_1 rfl hnL (by decide) rfl ?_
  refine mm_iconst (v := 0) C dX3_rowsOf_2 (by decide) ?_
  refine mm_istore_n (lv' := [(3, .int 0), (2, .int 0), (0, .ref 18), (1, .int 1)]) C dX3_rowsOf_3 rfl hnL (by decide) rfl ?_
  exact loop 400 0 0 rfl rfl
set_option maxHeartbeats 4000000 in
set_option maxRecDepth 100000 in
theorem kX3_rowsOfU (l : Launch) (D : va_G) (U u : ks_S) (t : Int32) (ck cw : Nat → Int32) (F : List mm_c) (h : k_us u = nI (n_cn (k_tu u) 1280)) : mm_Wr l D yX3_rowsOf (mm_cw yX3_rowsOf cX3_rowsOf 4 (some .int)) (mm_rm 0) [.ref 18, .int 0] (ks_H U (ms_H u t ck cw F)) (some (.int (k_us u))) (ks_H U (ms_H u t ck cw F)) := by
  refine mm_start (own := RX3) (by decide) rfl rfl (mm_nl rfl) (fun _ => rfl) (fun _ => rfl) (fun g ad hl hD hnL C K => ?_)
  subst hl
  subst hD
  have loop : ∀ (n : Nat) (j : Nat) (y : Int32), j + n = 1280 → y = nI (n_cn (k_tu u) j) → mm_M g ad 0 0 (ks_H U (ms_H u t ck cw F)) 40 [(3, .int (nI j)), (2, .int y), (0, .ref 18), (1, .int 0)] [] := by
    intro n
    induction n with
    | zero =>
      intro j y hj hy
      refine mm_iload_n C dX3_rowsOf_40 rfl 0 rfl ?_
      refine mm_sipush (v := 1280) C dX3_rowsOf_41 (by decide) ?_
      refine mm_icmp_ge (tgt := 74) C dX3_rowsOf_44 (by decide) (fun c44 => ?_) (fun z => False.elim ((cn_t hj) z))
      refine mm_iload_n C dX3_rowsOf_74 rfl 1 rfl ?_
      exact mm_iret C K rfl dX3_rowsOf_75 ⟨(rowsOf_end hy h (by omega)), rfl⟩ rfl (mm_nl rfl) (mm_nl rfl)
    | succ n ih =>
      intro j y hj hy
      have ej : (nI j).toNatClampNeg = j := nI_clamp (by omega)
      refine mm_iload_n C dX3_rowsOf_40 rfl 0 rfl ?_
      refine mm_sipush (v := 1280) C dX3_rowsOf_41 (by decide) ?_
      refine mm_icmp_ge (tgt := 74) C dX3_rowsOf_44 (by decide) (fun z => False.elim ((cn_f hj) z)) (fun c44 => ?_)
      refine mm_iload_n C dX3_rowsOf_47 rfl 3 rfl ?_
      refine mm_if_ne (tgt := 74) C dX3_rowsOf_48 (by decide) (fun z => absurd z (by decide)) (fun _ => ?_)
      refine mm_iload_n C dX3_rowsOf_51 rfl 1 rfl ?_
      refine mm_aload_n C dX3_rowsOf_52 rfl 2 rfl ?_
      refine mm_get C 18 11 (fun w h => mm_wc (inX3 w h)) rfl rfl (by decide) (mm_wc tw478) rfl rfl dX3_rowsOf_53 ?_
      refine mm_iload_n C dX3_rowsOf_56 rfl 0 rfl ?_
      refine mm_iald C 27 rfl (vp_in_nI (by omega) (by decide)) dX3_rowsOf_57 ?_
      refine mm_if_lt (tgt := 65) C dX3_rowsOf_58 (by decide) (fun c58 => ?_) (fun c58 => ?_)
      · skip
        refine mm_iconst (v := 0) C dX3_rowsOf_65 (by decide) ?_
        refine mm_iadd C dX3_rowsOf_66 ?_
        refine mm_istore_n (lv' := [(2, .int (y + 0)), (3, .int (nI j)), (0, .ref 18), (1, .int 0)]) C dX3_rowsOf_67 rfl hnL (by decide) rfl ?_
        refine mm_iinc (q := 1) (v := (nI (j + 1))) (lv' := [(3, .int (nI (j + 1))), (2, .int (y + 0)), (0, .ref 18), (1, .int 0)]) C dX3_rowsOf_68 rfl (nI_1 j) hnL (by decide) rfl ?_
        refine mm_goto (tgt := 40) C dX3_rowsOf_71 (by decide) ?_
        exact ih (j + 1) _ (by omega) (by simp only [ej] at c58; rw [hy, n_cn, if_pos c58]; exact Int32.add_zero _)
      · skip
        refine mm_iconst (v := 1) C dX3_rowsOf_61 (by decide) ?_
        refine mm_goto (tgt := 66) C dX3_rowsOf_62 (by decide) ?_
        refine mm_iadd C dX3_rowsOf_66 ?_
        refine mm_istore_n (lv' := [(2, .int (y + 1)), (3, .int (nI j)), (0, .ref 18), (1, .int 0)]) C dX3_rowsOf_67 rfl hnL (by decide) rfl ?_
        refine mm_iinc (q := 1) (v := (nI (j + 1))) (lv' := [(3, .int (nI (j + 1))), (2, .int (y + 1)), (0, .ref 18), (1, .int 0)]) C dX3_rowsOf_68 rfl (nI_1 j) hnL (by decide) rfl ?_
        refine mm_goto (tgt := 40) C dX3_rowsOf_71 (by decide) ?_
        exact ih (j + 1) _ (by omega) (by simp only [ej] at c58; rw [hy, n_cn, if_neg c58]; exact nI_1 _)
  show mm_M g ad 0 0 (ks_H U (ms_H u t ck cw F)) 0 [(0, .ref 18), (1, .int 0)] []
  refine mm_iconst (v := 0) C dX3_rowsOf_0 (by decide) ?_
  refine mm_istore_n (lv' := [(2, .int 0), (0, .ref 18), (1, .int 0)]) C dX3_rowsOf_1 rfl hnL (by decide) rfl ?_
  refine mm_iconst (v := 0) C dX3_rowsOf_2 (by decide) ?_
  refine mm_istore_n (lv' := [(3, .int 0), (2, .int 0), (0, .ref 18), (1, .int 0)]) C dX3_rowsOf_3 rfl hnL (by decide) rfl ?_
  refine mm_iload_n C dX3_rowsOf_4 rfl 0 rfl ?_
  refine mm_sipush (v := 400) C dX3_rowsOf_5 (by decide) ?_
  refine mm_icmp_ge (tgt := 38) C dX3_rowsOf_8 (by decide) (fun z => absurd z (by decide)) (fun _ => ?_)
  refine mm_iload_n C dX3_rowsOf_11 rfl 3 rfl ?_
  refine mm_if_eq (tgt := 38) C dX3_rowsOf_12 (by decide) (fun _ => ?_) (fun z => absurd z (by decide))
  refine mm_iconst (v := 0) C dX3_rowsOf_38 (by decide) ?_
  refine mm_istore_n (lv' := [(3, .int 0), (2, .int 0), (0, .ref 18), (1, .int 0)]) C dX3_rowsOf_39 rfl hnL (by decide) rfl ?_
  exact loop 1280 0 0 rfl rfl
theorem no_0 {s : Int32} {nd : Nat → Int32} {n j : Nat} (h : nd j = 0) : f_no s nd (n + 1) j = f_no s nd n (j + 1) := by
  have h1 : nd j ≤ 0 := by rw [h]; exact Int32.le_refl _
  simp [f_no, h1]
theorem no_1 {s : Int32} {nd : Nat → Int32} {n j : Nat} (h : ¬ (s >>> (nI j &&& 31) &&& 1 = 1)) : f_no s nd (n + 1) j = f_no s nd n (j + 1) := by simp [f_no, h]
theorem no_2 {s : Int32} {nd : Nat → Int32} {n j : Nat} (h : s >>> (nI j &&& 31) &&& 1 = 1) (h0 : 0 ≤ nd j) (h1 : ¬ nd j = 0) : f_no s nd (n + 1) j = true := by
  have h2 : ¬ nd j ≤ 0 := fun z => h1 (Int32.le_antisymm z h0)
  simp [f_no, h, h2]
theorem b16 {j : Nat} (h : j < 16) : b_below (nI j) 16 = true := b_nIm (k := 16) (by omega) h
theorem mx_n {x : Int32} (h : ¬ 0 ≤ x) : f_mx 0 x = 0 := by
  unfold f_mx; rw [if_neg (fun z => h (Int32.le_of_lt z))]
theorem bft {b : Bool} (h : b = true) : b = false → False := fun z => by rw [h] at z; cases z
theorem btf {b : Bool} (h : b = false) : b = true → False := fun z => by rw [h] at z; cases z
set_option maxHeartbeats 4000000 in
set_option maxRecDepth 100000 in
theorem kX3_isCovered (l : Launch) (D : va_G) (U u : ks_S) (t : Int32) (ck cw : Nat → Int32) (F : List mm_c) (a e : Int32) (k c i : Nat) (J : ms_I u ck cw k c i) (ha : b_below a (k_kn u) = true) (rn : Bool) (hrn : f_no (65535 &&& (f_sk (k_sk u) 20 ^^^ (-1))) (fun q => f_nd u c a (nI q) e) 16 0 = rn) : mm_Wr l D yX3_isCovered (mm_cw yX3_isCovered cX3_isCovered 6 (some .boolean)) (mm_rm 2) [.ref 18, .int a, .int e] (ks_H U (ms_H u t ck cw F)) (some (.int (i_b (f_cl (k_kn u) (k_pa u) (k_cl u) e 40 a || !rn)))) (ks_H U (ms_H u t ck cw F)) := by
  refine mm_start (own := RX3) (by decide) rfl rfl (mm_nl rfl) (fun _ => rfl) (fun _ => rfl) (fun g ad hl hD hnL C K => ?_)
  subst hl
  subst hD
  have J0 := J
  obtain ⟨hI, wP, wA, wA0, hta, htu, hct, hko, hcl, hhv, hw4, htb, hn1, hn2⟩ := J
  have loop2 : ∀ (n : Nat) (j : Nat) (z : Bool), j + n = 16 → (z && !f_no (65535 &&& (f_sk (k_sk u) 20 ^^^ (-1))) (fun q => f_nd u c a (nI q) e) n j) = !rn → mm_M g ad 0 0 (ks_H U (ms_H u t ck cw F)) 34 [(5, .int (nI j)), (4, .int (i_b z)), (3, .int (f_sk (k_sk u) 20)), (0, .ref 18), (1, .int a), (2, .int e)] [] := by
    intro n
    induction n with
    | zero =>
      intro j z hj hr
      refine mm_iload C dX3_isCovered_34 0 rfl ?_
      refine mm_bipush (v := 16) C dX3_isCovered_36 (by decide) ?_
      refine mm_icmp_ge (tgt := 80) C dX3_isCovered_38 (by decide) (fun c38 => ?_) (fun z => False.elim ((cn_t hj) z))
      refine mm_iload C dX3_isCovered_80 1 rfl ?_
      refine mm_ifb_ne (tgt := 94) C dX3_isCovered_82 (by decide) (fun c82 => ?_) (fun c82 => ?_)
      · skip
        refine mm_iconst (v := 1) C dX3_isCovered_94 (by decide) ?_
        refine mm_goto (tgt := 99) C dX3_isCovered_95 (by decide) ?_
        exact mm_iret C K (by decide) dX3_isCovered_99 ⟨by rw [← hr]; simp [f_no, i_b, c82], rfl⟩ rfl (mm_nl rfl) (mm_nl rfl)
      · skip
        refine mm_aload_n C dX3_isCovered_85 rfl 3 rfl ?_
        refine mm_iload_n C dX3_isCovered_86 rfl 4 rfl ?_
        refine mm_iload_n C dX3_isCovered_87 rfl 5 rfl ?_
        refine mm_riV C 18 sv_X3_X3_isClosed_99 rfl rfl (kX3_isClosed _ _ U u _ ck cw F a e k c i J0 ha) ⟨rfl, rfl⟩ ⟨mm_nl rfl, mm_nl rfl⟩ rfl rfl (mm_nl rfl) ⟨mm_nl rfl, mm_nl rfl⟩ dX3_isCovered_88 ?_
        refine mm_ifb_eq (tgt := 98) C dX3_isCovered_91 (by decide) (fun c91 => ?_) (fun c91 => ?_)
        · skip
          refine mm_iconst (v := 0) C dX3_isCovered_98 (by decide) ?_
          exact mm_iret C K (by decide) dX3_isCovered_99 ⟨by rw [← hr]; simp [f_no, i_b, c82, c91], rfl⟩ rfl (mm_nl rfl) (mm_nl rfl)
        · skip
          refine mm_iconst (v := 1) C dX3_isCovered_94 (by decide) ?_
          refine mm_goto (tgt := 99) C dX3_isCovered_95 (by decide) ?_
          exact mm_iret C K (by decide) dX3_isCovered_99 ⟨by rw [← hr]; simp [f_no, i_b, c82, c91], rfl⟩ rfl (mm_nl rfl) (mm_nl rfl)
    | succ n ih =>
      intro j z hj hr
      refine mm_iload C dX3_isCovered_34 0 rfl ?_
      refine mm_bipush (v := 16) C dX3_isCovered_36 (by decide) ?_
      refine mm_icmp_ge (tgt := 80) C dX3_isCovered_38 (by decide) (fun z => False.elim ((cn_f hj) z)) (fun c38 => ?_)
      refine mm_iload C dX3_isCovered_41 1 rfl ?_
      refine mm_ifb_eq (tgt := 71) C dX3_isCovered_43 (by decide) (fun c43 => ?_) (fun c43 => ?_)
      · skip
        refine mm_iconst (v := 0) C dX3_isCovered_71 (by decide) ?_
        refine mm_istore (lv' := [(4, .int 0), (5, .int (nI j)), (3, .int (f_sk (k_sk u) 20)), (0, .ref 18), (1, .int a), (2, .int e)]) C dX3_isCovered_72 hnL (by decide) rfl ?_
        refine mm_iinc (q := 1) (v := (nI (j + 1))) (lv' := [(5, .int (nI (j + 1))), (4, .int 0), (3, .int (f_sk (k_sk u) 20)), (0, .ref 18), (1, .int a), (2, .int e)]) C dX3_isCovered_74 rfl (nI_1 j) hnL (by decide) rfl ?_
        refine mm_goto (tgt := 34) C dX3_isCovered_77 (by decide) ?_
        exact ih (j + 1) false (by omega) (by rw [← hr]; simp [c43])
      · skip
        refine mm_aload_n C dX3_isCovered_46 rfl 3 rfl ?_
        refine mm_iload_n C dX3_isCovered_47 rfl 4 rfl ?_
        refine mm_iload C dX3_isCovered_48 0 rfl ?_
        refine mm_iload_n C dX3_isCovered_50 rfl 5 rfl ?_
        refine mm_riV C 18 sv_X3_X3_needs_105 rfl rfl (kX3_needs _ _ U u _ ck cw F a (nI j) e k c i J0 ha (b16 (by omega))) ⟨rfl, rfl⟩ ⟨mm_nl rfl, mm_nl rfl⟩ rfl rfl (mm_nl rfl) ⟨mm_nl rfl, mm_nl rfl⟩ dX3_isCovered_51 ?_
        refine mm_if_eq (tgt := 67) C dX3_isCovered_54 (by decide) (fun c54 => ?_) (fun c54 => ?_)
        · skip
          refine mm_iconst (v := 1) C dX3_isCovered_67 (by decide) ?_
          refine mm_goto (tgt := 72) C dX3_isCovered_68 (by decide) ?_
          refine mm_istore (lv' := [(4, .int 1), (5, .int (nI j)), (3, .int (f_sk (k_sk u) 20)), (0, .ref 18), (1, .int a), (2, .int e)]) C dX3_isCovered_72 hnL (by decide) rfl ?_
          refine mm_iinc (q := 1) (v := (nI (j + 1))) (lv' := [(5, .int (nI (j + 1))), (4, .int 1), (3, .int (f_sk (k_sk u) 20)), (0, .ref 18), (1, .int a), (2, .int e)]) C dX3_isCovered_74 rfl (nI_1 j) hnL (by decide) rfl ?_
          refine mm_goto (tgt := 34) C dX3_isCovered_77 (by decide) ?_
          exact ih (j + 1) true (by omega) (by rw [← hr, no_0 (s := (65535 &&& (f_sk (k_sk u) 20 ^^^ (-1)))) (nd := (fun q => f_nd u c a (nI q) e)) (n := n) (j := j) c54, c43])
        · skip
          refine mm_iload_n C dX3_isCovered_57 rfl 2 rfl ?_
          refine mm_iload C dX3_isCovered_58 0 rfl ?_
          refine mm_ishr C dX3_isCovered_60 ?_
          refine mm_iconst (v := 1) C dX3_isCovered_61 (by decide) ?_
          refine mm_iand C dX3_isCovered_62 ?_
          refine mm_iconst (v := 1) C dX3_isCovered_63 (by decide) ?_
          refine mm_icmp_ne (tgt := 71) C dX3_isCovered_64 (by decide) (fun c64 => ?_) (fun c64 => ?_)
          · skip
            refine mm_iconst (v := 0) C dX3_isCovered_71 (by decide) ?_
            refine mm_istore (lv' := [(4, .int 0), (5, .int (nI j)), (3, .int (f_sk (k_sk u) 20)), (0, .ref 18), (1, .int a), (2, .int e)]) C dX3_isCovered_72 hnL (by decide) rfl ?_
            refine mm_iinc (q := 1) (v := (nI (j + 1))) (lv' := [(5, .int (nI (j + 1))), (4, .int 0), (3, .int (f_sk (k_sk u) 20)), (0, .ref 18), (1, .int a), (2, .int e)]) C dX3_isCovered_74 rfl (nI_1 j) hnL (by decide) rfl ?_
            refine mm_goto (tgt := 34) C dX3_isCovered_77 (by decide) ?_
            exact ih (j + 1) false (by omega) (by rw [← hr, no_2 (s := (65535 &&& (f_sk (k_sk u) 20 ^^^ (-1)))) (nd := (fun q => f_nd u c a (nI q) e)) (n := n) (j := j) ((bit_no _ j (by omega)).mpr c64) (nd_ge _ _ _ _ _) c54]; simp)
          · skip
            refine mm_iconst (v := 1) C dX3_isCovered_67 (by decide) ?_
            refine mm_goto (tgt := 72) C dX3_isCovered_68 (by decide) ?_
            refine mm_istore (lv' := [(4, .int 1), (5, .int (nI j)), (3, .int (f_sk (k_sk u) 20)), (0, .ref 18), (1, .int a), (2, .int e)]) C dX3_isCovered_72 hnL (by decide) rfl ?_
            refine mm_iinc (q := 1) (v := (nI (j + 1))) (lv' := [(5, .int (nI (j + 1))), (4, .int 1), (3, .int (f_sk (k_sk u) 20)), (0, .ref 18), (1, .int a), (2, .int e)]) C dX3_isCovered_74 rfl (nI_1 j) hnL (by decide) rfl ?_
            refine mm_goto (tgt := 34) C dX3_isCovered_77 (by decide) ?_
            exact ih (j + 1) true (by omega) (by rw [← hr, no_1 (s := (65535 &&& (f_sk (k_sk u) 20 ^^^ (-1)))) (nd := (fun q => f_nd u c a (nI q) e)) (n := n) (j := j) (fun z => (bit_no _ j (by omega)).mp z c64), c43])
  have loop1 : ∀ (n : Nat) (j : Nat), j + n = 20 → mm_M g ad 0 0 (ks_H U (ms_H u t ck cw F)) 5 [(4, .int (nI j)), (3, .int (f_sk (k_sk u) j)), (0, .ref 18), (1, .int a), (2, .int e)] [] := by
    intro n
    induction n with
    | zero =>
      intro j hj
      have e20 : j = 20 := by omega
      refine mm_iload C dX3_isCovered_5 0 rfl ?_
      refine mm_bipush (v := 20) C dX3_isCovered_7 (by decide) ?_
      refine mm_icmp_ge (tgt := 28) C dX3_isCovered_9 (by decide) (fun c9 => ?_) (fun z => False.elim ((cn_t hj) z))
      refine mm_iconst (v := 1) C dX3_isCovered_28 (by decide) ?_
      refine mm_istore (lv' := [(4, .int 1), (3, .int (f_sk (k_sk u) j)), (0, .ref 18), (1, .int a), (2, .int e)]) C dX3_isCovered_29 hnL (by decide) rfl ?_
      refine mm_iconst (v := 0) C dX3_isCovered_31 (by decide) ?_
      refine mm_istore (lv' := [(5, .int 0), (4, .int 1), (3, .int (f_sk (k_sk u) j)), (0, .ref 18), (1, .int a), (2, .int e)]) C dX3_isCovered_32 hnL (by decide) rfl ?_
      rw [e20]; exact loop2 16 0 true rfl (by rw [hrn]; rfl)
    | succ n ih =>
      intro j hj
      refine mm_iload C dX3_isCovered_5 0 rfl ?_
      refine mm_bipush (v := 20) C dX3_isCovered_7 (by decide) ?_
      refine mm_icmp_ge (tgt := 28) C dX3_isCovered_9 (by decide) (fun z => False.elim ((cn_f hj) z)) (fun c9 => ?_)
      refine mm_iload_n C dX3_isCovered_12 rfl 1 rfl ?_
      refine mm_aload_n C dX3_isCovered_13 rfl 2 rfl ?_
      refine mm_get C 18 17 (fun w h => mm_wc (inX3 w h)) rfl rfl (by decide) (mm_wc tw484) rfl rfl dX3_isCovered_14 ?_
      refine mm_iload C dX3_isCovered_17 0 rfl ?_
      refine mm_iald C 32 rfl (vp_in_nI (by omega) (by decide)) dX3_isCovered_19 ?_
      refine mm_ior C dX3_isCovered_20 ?_
      refine mm_istore_n (lv' := [(3, .int ((f_sk (k_sk u) j) ||| ((k_sk u) (nI j).toNatClampNeg))), (4, .int (nI j)), (0, .ref 18), (1, .int a), (2, .int e)]) C dX3_isCovered_21 rfl hnL (by decide) rfl ?_
      refine mm_iinc (q := 1) (v := (nI (j + 1))) (lv' := [(4, .int (nI (j + 1))), (3, .int ((f_sk (k_sk u) j) ||| ((k_sk u) (nI j).toNatClampNeg))), (0, .ref 18), (1, .int a), (2, .int e)]) C dX3_isCovered_22 rfl (nI_1 j) hnL (by decide) rfl ?_
      refine mm_goto (tgt := 5) C dX3_isCovered_25 (by decide) ?_
      exact (by rw [nI_clamp (by omega)]; exact ih (j + 1) (by omega))
  show mm_M g ad 0 0 (ks_H U (ms_H u t ck cw F)) 0 [(0, .ref 18), (1, .int a), (2, .int e)] []
  refine mm_iconst (v := 0) C dX3_isCovered_0 (by decide) ?_
  refine mm_istore_n (lv' := [(3, .int 0), (0, .ref 18), (1, .int a), (2, .int e)]) C dX3_isCovered_1 rfl hnL (by decide) rfl ?_
  refine mm_iconst (v := 0) C dX3_isCovered_2 (by decide) ?_
  refine mm_istore (lv' := [(4, .int 0), (3, .int 0), (0, .ref 18), (1, .int a), (2, .int e)]) C dX3_isCovered_3 hnL (by decide) rfl ?_
  exact loop1 20 0 rfl
theorem xe_ia_io : (x_ia == x_io) = false := by decide
theorem xe_ia_is : (x_ia == x_is) = false := by decide
theorem xe_ia_uo : (x_ia == x_uo) = false := by decide
theorem xe_io_ia : (x_io == x_ia) = false := by decide
theorem xe_io_is : (x_io == x_is) = false := by decide
theorem xe_io_uo : (x_io == x_uo) = false := by decide
theorem xe_is_ia : (x_is == x_ia) = false := by decide
theorem xe_is_io : (x_is == x_io) = false := by decide
theorem xe_is_uo : (x_is == x_uo) = false := by decide
theorem xe_uo_ia : (x_uo == x_ia) = false := by decide
theorem xe_uo_io : (x_uo == x_io) = false := by decide
theorem xe_uo_is : (x_uo == x_is) = false := by decide
def l_kind : List String := [x_ia, x_uo]
theorem cd_kind_1 : m_cd l_kind (.inl x_ia) = 1 := by simp [m_cd, l_kind, List.findIdx_cons, nI]
theorem cd_kind_2 : m_cd l_kind (.inl x_uo) = 2 := by simp [m_cd, l_kind, List.findIdx_cons, xe_ia_uo, nI]
def l_parent : List String := [x_ia, x_is]
theorem cd_parent_1 : m_cd l_parent (.inl x_ia) = 1 := by simp [m_cd, l_parent, List.findIdx_cons, nI]
theorem cd_parent_2 : m_cd l_parent (.inl x_is) = 2 := by simp [m_cd, l_parent, List.findIdx_cons, xe_ia_is, nI]
def l_says : List String := [x_ia, x_io, x_uo]
theorem cd_says_1 : m_cd l_says (.inl x_ia) = 1 := by simp [m_cd, l_says, List.findIdx_cons, nI]
theorem cd_says_2 : m_cd l_says (.inl x_io) = 2 := by simp [m_cd, l_says, List.findIdx_cons, xe_ia_io, nI]
theorem cd_says_3 : m_cd l_says (.inl x_uo) = 3 := by simp [m_cd, l_says, List.findIdx_cons, xe_ia_uo, xe_io_uo, nI]
def l_need : List String := [x_ia, x_io, x_uo]
theorem cd_need_1 : m_cd l_need (.inl x_ia) = 1 := by simp [m_cd, l_need, List.findIdx_cons, nI]
theorem cd_need_2 : m_cd l_need (.inl x_io) = 2 := by simp [m_cd, l_need, List.findIdx_cons, xe_ia_io, nI]
theorem cd_need_3 : m_cd l_need (.inl x_uo) = 3 := by simp [m_cd, l_need, List.findIdx_cons, xe_ia_uo, xe_io_uo, nI]
def l_close : List String := [x_ia, x_io]
theorem cd_close_1 : m_cd l_close (.inl x_ia) = 1 := by simp [m_cd, l_close, List.findIdx_cons, nI]
theorem cd_close_2 : m_cd l_close (.inl x_io) = 2 := by simp [m_cd, l_close, List.findIdx_cons, xe_ia_io, nI]
def l_area : List String := [x_ia, x_io, x_is]
theorem cd_area_1 : m_cd l_area (.inl x_ia) = 1 := by simp [m_cd, l_area, List.findIdx_cons, nI]
theorem cd_area_2 : m_cd l_area (.inl x_io) = 2 := by simp [m_cd, l_area, List.findIdx_cons, xe_ia_io, nI]
theorem cd_area_3 : m_cd l_area (.inl x_is) = 3 := by simp [m_cd, l_area, List.findIdx_cons, xe_ia_is, xe_io_is, nI]
def l_upgrade : List String := [x_ia, x_io, x_is, x_uo]
theorem cd_upgrade_1 : m_cd l_upgrade (.inl x_ia) = 1 := by simp [m_cd, l_upgrade, List.findIdx_cons, nI]
theorem cd_upgrade_2 : m_cd l_upgrade (.inl x_io) = 2 := by simp [m_cd, l_upgrade, List.findIdx_cons, xe_ia_io, nI]
theorem cd_upgrade_3 : m_cd l_upgrade (.inl x_is) = 3 := by simp [m_cd, l_upgrade, List.findIdx_cons, xe_ia_is, xe_io_is, nI]
theorem cd_upgrade_4 : m_cd l_upgrade (.inl x_uo) = 4 := by simp [m_cd, l_upgrade, List.findIdx_cons, xe_ia_uo, xe_io_uo, xe_is_uo, nI]
def l_has : List String := [x_ia, x_io]
theorem cd_has_1 : m_cd l_has (.inl x_ia) = 1 := by simp [m_cd, l_has, List.findIdx_cons, nI]
theorem cd_has_2 : m_cd l_has (.inl x_io) = 2 := by simp [m_cd, l_has, List.findIdx_cons, xe_ia_io, nI]
def l_in : List String := [x_ia, x_io]
theorem cd_in_1 : m_cd l_in (.inl x_ia) = 1 := by simp [m_cd, l_in, List.findIdx_cons, nI]
theorem cd_in_2 : m_cd l_in (.inl x_io) = 2 := by simp [m_cd, l_in, List.findIdx_cons, xe_ia_io, nI]
def l_open : List String := [x_ia, x_io, x_is, x_uo]
theorem cd_open_1 : m_cd l_open (.inl x_ia) = 1 := by simp [m_cd, l_open, List.findIdx_cons, nI]
theorem cd_open_2 : m_cd l_open (.inl x_io) = 2 := by simp [m_cd, l_open, List.findIdx_cons, xe_ia_io, nI]
theorem cd_open_3 : m_cd l_open (.inl x_is) = 3 := by simp [m_cd, l_open, List.findIdx_cons, xe_ia_is, xe_io_is, nI]
theorem cd_open_4 : m_cd l_open (.inl x_uo) = 4 := by simp [m_cd, l_open, List.findIdx_cons, xe_ia_uo, xe_io_uo, xe_is_uo, nI]
def l_found : List String := [x_ia, x_io, x_is]
theorem cd_found_1 : m_cd l_found (.inl x_ia) = 1 := by simp [m_cd, l_found, List.findIdx_cons, nI]
theorem cd_found_2 : m_cd l_found (.inl x_io) = 2 := by simp [m_cd, l_found, List.findIdx_cons, xe_ia_io, nI]
theorem cd_found_3 : m_cd l_found (.inl x_is) = 3 := by simp [m_cd, l_found, List.findIdx_cons, xe_ia_is, xe_io_is, nI]
def l_send : List String := [x_ia, x_io, x_uo]
theorem cd_send_1 : m_cd l_send (.inl x_ia) = 1 := by simp [m_cd, l_send, List.findIdx_cons, nI]
theorem cd_send_2 : m_cd l_send (.inl x_io) = 2 := by simp [m_cd, l_send, List.findIdx_cons, xe_ia_io, nI]
theorem cd_send_3 : m_cd l_send (.inl x_uo) = 3 := by simp [m_cd, l_send, List.findIdx_cons, xe_ia_uo, xe_io_uo, nI]
def l_missing : List String := [x_ia, x_io]
theorem cd_missing_1 : m_cd l_missing (.inl x_ia) = 1 := by simp [m_cd, l_missing, List.findIdx_cons, nI]
theorem cd_missing_2 : m_cd l_missing (.inl x_io) = 2 := by simp [m_cd, l_missing, List.findIdx_cons, xe_ia_io, nI]
def l_incident : List String := [x_ia]
theorem cd_incident_1 : m_cd l_incident (.inl x_ia) = 1 := by simp [m_cd, l_incident, List.findIdx_cons, nI]
def l_unit : List String := [x_ia, x_io]
theorem cd_unit_1 : m_cd l_unit (.inl x_ia) = 1 := by simp [m_cd, l_unit, List.findIdx_cons, nI]
theorem cd_unit_2 : m_cd l_unit (.inl x_io) = 2 := by simp [m_cd, l_unit, List.findIdx_cons, xe_ia_io, nI]
def l_uncovered : List String := [x_io]
theorem cd_uncovered_1 : m_cd l_uncovered (.inl x_io) = 1 := by simp [m_cd, l_uncovered, List.findIdx_cons, nI]
def l_coded : List String := [x_io]
theorem cd_coded_1 : m_cd l_coded (.inl x_io) = 1 := by simp [m_cd, l_coded, List.findIdx_cons, nI]
def l_count : List String := [x_ia]
theorem cd_count_1 : m_cd l_count (.inl x_ia) = 1 := by simp [m_cd, l_count, List.findIdx_cons, nI]
theorem ite_cl {α : Type} {b : Int32} {X Y : α} : (if b = -1 then X else if b_day b = true then X else Y) = if b_btw b (-1) 9999 = true then X else Y := by
  rw [cl_btw]
  by_cases h1 : b = -1
  · simp [h1]
  · cases h2 : b_day b <;> simp [h1]
theorem sx_1 {x m : Int32} (h : b_btw x (-1) m = true) (h0 : ¬ 0 ≤ x) : x = -1 := by
  simp only [b_btw, Bool.and_eq_true, Bool.not_eq_true', decide_eq_false_iff_not, Int32.lt_iff_toInt_lt] at h
  rw [Int32.le_iff_toInt_le, Int32.toInt_zero] at h0
  have h1 : (-1 : Int32).toInt = -1 := by decide
  exact Int32.toInt_inj.mp (by omega)
theorem sx_2 {x : Int32} (h0 : 0 ≤ x) : ¬ x = -1 := fun z => absurd h0 (Int32.not_le.mpr (lt0_of z))
theorem hz_3 {b : Int32} (h : hz_P b) (h4 : ¬ (4 : Int32) ≤ b) : b_below b 4 = true := by
  rw [b_below_iff]; exact hz_w h h4
theorem hz_16 {b : Int32} (h : hz_P b) (h4 : (4 : Int32) ≤ b) (n4 : ¬ b = 4) (n5 : ¬ b = 5) : b_below (b - 10) 16 = true := by
  rw [b_below_iff]; exact hz_n h h4 n4 n5
theorem n_45 {b x : Int32} (h4 : ¬ (4 : Int32) ≤ b) (h : (4 : Int32) ≤ x) : ¬ b = x := fun z => h4 (z ▸ h)
theorem ka_ok {u : ks_S} {ck cw : Nat → Int32} {k c i : Nat} (J : ms_I u ck cw k c i) {b : Int32} : ∀ (n : Nat) (x : Int32), b_below x (k_kn u) = true → b_below (f_ka (k_kn u) (k_ta u) b n x) (k_kn u) = true := by
  intro n
  induction n with
  | zero => intro x h; exact h
  | succ n ih =>
    intro x h
    unfold f_ka
    split
    · next h1 => exact ih _ h1
    · exact h
theorem vd_m {kn x : Int32} (h : x = -1 ∨ b_below x kn = true) (h0 : ¬ 0 ≤ x) : x = -1 := h.elim id (fun z => absurd (b_ge z) h0)
theorem vd_p {kn x : Int32} (h : x = -1 ∨ b_below x kn = true) (h0 : 0 ≤ x) : b_below x kn = true := h.elim (fun z => absurd h0 (Int32.not_le.mpr (lt0_of z))) id
theorem up_1 {kn : Int32} {pa tu : Nat → Int32} {f x : Int32} {m : Nat} (hx : b_below x kn = true) (h : tu (x * 32 + f).toNatClampNeg = -1) : f_up kn pa tu f (m + 1) x = f_up kn pa tu f m (pa x.toNatClampNeg) := by simp [f_up, hx, h]
theorem up_2 {kn : Int32} {pa tu : Nat → Int32} {f x : Int32} {m : Nat} (hx : b_below x kn = true) (h : ¬ tu (x * 32 + f).toNatClampNeg = -1) : f_up kn pa tu f (m + 1) x = tu (x * 32 + f).toNatClampNeg := by simp [f_up, hx, h]
theorem in_clamp {x : Int32} {n : Nat} (h : vp_in x n) : x.toNatClampNeg < n := by
  unfold vp_in at h
  exact Nat.lt_of_not_le (fun z => h (Or.inr z))
