theorem mm_widen {g : mm_g} {ad : mm_A} {cells slots cells' slots' : Nat} {hp : List mm_c} {pc : Nat} {lv : List (Nat × Value)} {st : List Value} (hc : cells ≤ cells') (hs : slots ≤ slots') (k : mm_M g ad cells' slots' hp pc lv st) : mm_M g ad cells slots hp pc lv st := by
  obtain ⟨p, l, e, R, s, m, args, below, meth, c, nL, D, A, Q⟩ := g
  intro H locs ls hH h
  exact W.widen (k := cells') (n := slots') hc hs (k H locs ls hH h)
theorem l_6 {L : Nat} (hL : L ≤ 3072) : (nI L - 6).toInt = (L : Int) - 6 := by
  rcases Nat.lt_or_ge L 6 with h | h
  · match L, h with
    | 0, _ => decide
    | 1, _ => decide
    | 2, _ => decide
    | 3, _ => decide
    | 4, _ => decide
    | 5, _ => decide
  · rw [show (6 : Int32) = nI 6 from rfl, pk_sub h, nI_toInt (by omega)]; omega
theorem l_lt {L r : Nat} (hL : L ≤ 3072) (hr : r ≤ 1000) : (nI L - 6 < nI (6 * r)) ↔ L < 6 * r + 6 := by
  rw [Int32.lt_iff_toInt_lt, l_6 hL, nI_toInt (by omega)]; omega
theorem J_0 : ms_I ks_0 (fun _ => 0) (fun _ => 0) 0 0 0 := by
  have hb0 : ∀ x, b_below x (k_kn ks_0) = true → False := fun x hx => by
    have := b_below_iff.mp hx
    have h0 : (k_kn ks_0).toInt = 0 := by decide
    omega
  refine ⟨⟨rfl, by omega, rfl, by omega, rfl, by omega, fun j => ?_, fun j hj => absurd hj (Nat.not_lt_zero j)⟩, fun x hx => (hb0 x hx).elim, fun b x _ hx => (hb0 x hx).elim, fun j _ h => if_pos h, fun j h => Or.inl (if_pos h), fun j h => Or.inl (if_pos h), ⟨?_, ?_, ?_⟩, fun j hj => absurd hj (Nat.not_lt_zero j), fun j hj => absurd hj (Nat.not_lt_zero j), fun j hj => absurd hj (Nat.not_lt_zero j), fun j hj => absurd hj (Nat.not_lt_zero j), fun j hj => absurd hj (Nat.not_lt_zero j), fun a b ha hb => ?_, fun a b ha hb => ?_⟩
  · exact Or.inl rfl
  · show (0 : Int32) = nI (n_cn (f_fl 400) 400)
    rw [n_cn_m1 (f := f_fl 400) 400 (fun j hj => if_pos hj)]; rfl
  · show (0 : Int32) = nI (n_cn (f_fl 1280) 1280)
    rw [n_cn_m1 (f := f_fl 1280) 1280 (fun j hj => if_pos hj)]; rfl
  · show n_cn (f_fl 1280) 1280 ≤ 100
    rw [n_cn_m1 (f := f_fl 1280) 1280 (fun j hj => if_pos hj)]; omega
  · obtain ⟨A, hA, rfl⟩ := b_nat (N := 40) rfl (by omega) ha
    obtain ⟨B, hB, rfl⟩ := b_nat (N := 4) rfl (by omega) hb
    rfl
  · obtain ⟨A, hA, rfl⟩ := b_nat (N := 40) rfl (by omega) ha
    obtain ⟨B, hB, rfl⟩ := b_nat (N := 16) rfl (by omega) hb
    rfl
set_option maxHeartbeats 4000000 in
set_option maxRecDepth 100000 in
theorem lw_loop {g : mm_g} {ad : mm_A} {L : Nat} {xs : Nat → Int32} (C : lw_C g ad) (hnL : mm_nL g = 7) (hS : mm_Sx g ad L xs) (hL : L ≤ 3072) (hEnd : ∀ (cells slots : Nat) (hp : List mm_c) (lv : List (Nat × Value)), cells ≤ 601024 → slots ≤ 7293034 → mm_M g ad cells slots hp 1338 lv []) : ∀ (n r : Nat) (u : ks_S) (t : Int32) (ck cw : Nat → Int32) (f : Nat → Int64) (k c i : Nat), L < 6 * (r + n) → r ≤ 512 → ms_I u ck cw k c i → mm_M g ad (34 + 4 * r) (8483 + 24 * r) (lw_H u u t ck cw f) 23 [(4, .int (nI (6 * r))), (3, .ref 33), (2, .ref 18), (1, .ref 0), (0, .ref 1000002)] [] := by
  intro n
  induction n with
  | zero =>
    intro r u t ck cw f k c i h1 h2 J
    refine mm_iload C dL_law_23 0 rfl ?_
    refine mm_aload_n C dL_law_25 rfl 4 rfl ?_
    refine mm_slen C hS dL_law_26 ?_
    refine mm_bipush (v := 6) C dL_law_27 (by decide) ?_
    refine mm_isub C dL_law_29 ?_
    refine mm_icmp_gt (tgt := 1338) C dL_law_30 (by decide) (fun _ => ?_) (fun z => absurd ((l_lt hL (by omega)).mpr (by omega)) z)
    exact hEnd _ _ _ _ (by omega) (by omega)
  | succ n ih =>
    intro r u t ck cw f k c i h1 h2 J
    refine mm_iload C dL_law_23 0 rfl ?_
    refine mm_aload_n C dL_law_25 rfl 4 rfl ?_
    refine mm_slen C hS dL_law_26 ?_
    refine mm_bipush (v := 6) C dL_law_27 (by decide) ?_
    refine mm_isub C dL_law_29 ?_
    refine mm_icmp_gt (tgt := 1338) C dL_law_30 (by decide) (fun _ => ?_) (fun z => ?_)
    · exact hEnd _ _ _ _ (by omega) (by omega)
    · have hr : 6 * r + 6 ≤ L := by
        rw [l_lt hL (by omega)] at z; omega
      have next : ∀ (u' : ks_S) (t' : Int32) (ck' cw' : Nat → Int32) (f' : Nat → Int64) (k' c' i' : Nat), ms_I u' ck' cw' k' c' i' → mm_M g ad (34 + 4 * r + 4) (8483 + 24 * r + 24) (lw_H u' u' t' ck' cw' f') 1332 [(4, .int (nI (6 * r))), (3, .ref 33), (2, .ref 18), (1, .ref 0), (0, .ref 1000002)] [] := by
        intro u' t' ck' cw' f' k' c' i' J'
        refine mm_iinc (q := 0) (v := nI (6 * (r + 1))) (lv' := [(4, .int (nI (6 * (r + 1)))), (3, .ref 33), (2, .ref 18), (1, .ref 0), (0, .ref 1000002)]) C dL_law_1332 rfl (by rw [show Int32.ofInt 6 = nI 6 from rfl, nI_add, show 6 * r + 6 = 6 * (r + 1) from by omega]) hnL (by decide) rfl ?_
        refine mm_goto (tgt := 23) C dL_law_1335 (by decide) ?_
        have h9 := ih (r + 1) u' t' ck' cw' f' k' c' i' (by omega) (by omega) J'
        rw [show 34 + 4 * (r + 1) = 34 + 4 * r + 4 from by omega, show 8483 + 24 * (r + 1) = 8483 + 24 * r + 24 from by omega] at h9
        exact h9
      refine mm_aload_n C dL_law_33 rfl 4 rfl ?_
      refine mm_iload C dL_law_34 0 rfl ?_
      refine mm_sald C hS (ix_s0 (by omega) hL) dL_law_36 ?_
      refine mm_bipush (v := 31) C dL_law_37 (by decide) ?_
      refine mm_iand C dL_law_39 ?_
      refine mm_topi (fun y ey => ?_)
      by_cases s0 : y = 0
      · refine mm_tableIn (tgt := 128) C dL_law_40 (by rw [s0]; decide) (by rw [s0]; decide) (by rw [s0]; rfl) (by decide) ?_
        exact lw_kind C hnL hS hr hL (by omega) (by omega) J next
      by_cases s1 : y = 1
      · refine mm_tableIn (tgt := 184) C dL_law_40 (by rw [s1]; decide) (by rw [s1]; decide) (by rw [s1]; rfl) (by decide) ?_
        exact lw_parent C hnL hS hr hL (by omega) (by omega) J next
      by_cases s2 : y = 2
      · refine mm_tableIn (tgt := 232) C dL_law_40 (by rw [s2]; decide) (by rw [s2]; decide) (by rw [s2]; rfl) (by decide) ?_
        exact lw_says C hnL hS hr hL (by omega) (by omega) J next
      by_cases s3 : y = 3
      · refine mm_tableIn (tgt := 304) C dL_law_40 (by rw [s3]; decide) (by rw [s3]; decide) (by rw [s3]; rfl) (by decide) ?_
        exact lw_need C hnL hS hr hL (by omega) (by omega) J next
      by_cases s4 : y = 4
      · refine mm_tableIn (tgt := 388) C dL_law_40 (by rw [s4]; decide) (by rw [s4]; decide) (by rw [s4]; rfl) (by decide) ?_
        exact lw_close C hnL hS hr hL (by omega) (by omega) J next
      by_cases s5 : y = 5
      · refine mm_tableIn (tgt := 436) C dL_law_40 (by rw [s5]; decide) (by rw [s5]; decide) (by rw [s5]; rfl) (by decide) ?_
        exact lw_area C hnL hS hr hL (by omega) (by omega) J next
      by_cases s6 : y = 6
      · refine mm_tableIn (tgt := 496) C dL_law_40 (by rw [s6]; decide) (by rw [s6]; decide) (by rw [s6]; rfl) (by decide) ?_
        exact lw_upgrade C hnL hS hr hL (by omega) (by omega) J next
      by_cases s7 : y = 7
      · refine mm_tableIn (tgt := 556) C dL_law_40 (by rw [s7]; decide) (by rw [s7]; decide) (by rw [s7]; rfl) (by decide) ?_
        exact lw_has C hnL hS hr hL (by omega) (by omega) J next
      by_cases s8 : y = 8
      · refine mm_tableIn (tgt := 636) C dL_law_40 (by rw [s8]; decide) (by rw [s8]; decide) (by rw [s8]; rfl) (by decide) ?_
        exact lw_in C hnL hS hr hL (by omega) (by omega) J next
      by_cases s9 : y = 9
      · refine mm_tableIn (tgt := 704) C dL_law_40 (by rw [s9]; decide) (by rw [s9]; decide) (by rw [s9]; rfl) (by decide) ?_
        exact lw_open C hnL hS hr hL (by omega) (by omega) J next
      by_cases s10 : y = 10
      · refine mm_tableIn (tgt := 784) C dL_law_40 (by rw [s10]; decide) (by rw [s10]; decide) (by rw [s10]; rfl) (by decide) ?_
        exact lw_found C hnL hS hr hL (by omega) (by omega) J next
      by_cases s11 : y = 11
      · refine mm_tableIn (tgt := 864) C dL_law_40 (by rw [s11]; decide) (by rw [s11]; decide) (by rw [s11]; rfl) (by decide) ?_
        exact lw_send C hnL hS hr hL (by omega) (by omega) J next
      by_cases s12 : y = 12
      · refine mm_tableIn (tgt := 944) C dL_law_40 (by rw [s12]; decide) (by rw [s12]; decide) (by rw [s12]; rfl) (by decide) ?_
        exact lw_missing C hnL hS hr hL (by omega) (by omega) J next
      by_cases s13 : y = 13
      · refine mm_tableIn (tgt := 1024) C dL_law_40 (by rw [s13]; decide) (by rw [s13]; decide) (by rw [s13]; rfl) (by decide) ?_
        exact lw_incident C hnL hS hr hL (by omega) (by omega) J next
      by_cases s14 : y = 14
      · refine mm_tableIn (tgt := 1092) C dL_law_40 (by rw [s14]; decide) (by rw [s14]; decide) (by rw [s14]; rfl) (by decide) ?_
        exact lw_unit C hnL hS hr hL (by omega) (by omega) J next
      by_cases s15 : y = 15
      · refine mm_tableIn (tgt := 1140) C dL_law_40 (by rw [s15]; decide) (by rw [s15]; decide) (by rw [s15]; rfl) (by decide) ?_
        exact lw_uncovered C hnL hS hr hL (by omega) (by omega) J next
      by_cases s16 : y = 16
      · refine mm_tableIn (tgt := 1208) C dL_law_40 (by rw [s16]; decide) (by rw [s16]; decide) (by rw [s16]; rfl) (by decide) ?_
        exact lw_coded C hnL hS hr hL (by omega) (by omega) J next
      by_cases s17 : y = 17
      · refine mm_tableIn (tgt := 1276) C dL_law_40 (by rw [s17]; decide) (by rw [s17]; decide) (by rw [s17]; rfl) (by decide) ?_
        exact lw_count C hnL hS hr hL (by omega) (by omega) J next
      refine mm_tableOut (tgt := 1332) C dL_law_40 (by have q0 := lv_neT s0 (a := 0) (by decide); have q1 := lv_neT s1 (a := 1) (by decide); have q2 := lv_neT s2 (a := 2) (by decide); have q3 := lv_neT s3 (a := 3) (by decide); have q4 := lv_neT s4 (a := 4) (by decide); have q5 := lv_neT s5 (a := 5) (by decide); have q6 := lv_neT s6 (a := 6) (by decide); have q7 := lv_neT s7 (a := 7) (by decide); have q8 := lv_neT s8 (a := 8) (by decide); have q9 := lv_neT s9 (a := 9) (by decide); have q10 := lv_neT s10 (a := 10) (by decide); have q11 := lv_neT s11 (a := 11) (by decide); have q12 := lv_neT s12 (a := 12) (by decide); have q13 := lv_neT s13 (a := 13) (by decide); have q14 := lv_neT s14 (a := 14) (by decide); have q15 := lv_neT s15 (a := 15) (by decide); have q16 := lv_neT s16 (a := 16) (by decide); have q17 := lv_neT s17 (a := 17) (by decide); omega) (by decide) ?_
      exact mm_widen (by omega) (by omega) (next u t ck cw f k c i J)
set_option maxHeartbeats 4000000 in
set_option maxRecDepth 100000 in
theorem lw_body {g : mm_g} {ad : mm_A} {L : Nat} {xs : Nat → Int32} (C : lw_C g ad) (hnL : mm_nL g = 7) (hS : mm_Sx g ad L xs) (hL : L ≤ 3072) (hEnd : ∀ (ad' : mm_A) (cells slots : Nat) (hp : List mm_c) (lv : List (Nat × Value)), lw_C g ad' → cells ≤ 601024 → slots ≤ 7293034 → mm_M g ad' cells slots hp 1338 lv []) : mm_M g ad 0 0 [] 0 [(0, .ref 1000002)] [] := by
  refine mm_new (ci := 2) (fs := [.int 0, .null, .null, .null, .null, .null, .int 0, .null, .null, .null, .null, .null]) C (fun w h => mm_wc (inX2 w h)) tyX2 tyX2_ok (mm_wc tw14) (mm_wc tw15) (mm_wc tw1) rfl dfX2 rfl (mm_nl rfl) (mm_nl rfl) dL_law_0 rfl rfl rfl (mm_nl rfl) (fun ad1 x1 C => ?_)
  refine mm_dup C dL_law_3 rfl ?_
  refine mm_callI (av := []) C 0 18 (mm_gs tw18) (mm_wc tw16) (mm_wc tw1) ⟨by decide +kernel, by decide +kernel, by decide +kernel⟩ (kX2_init _ _) 0 rfl rfl rfl ⟨mm_nl rfl, mm_nl rfl⟩ rfl rfl (mm_nl rfl) dL_law_4 ⟨mm_nl rfl, mm_nl rfl⟩ rfl (mm_wc tw17) (fun v hp' h => ⟨h.1, by rw [h.2]; rfl⟩) (mm_nl rfl) rfl rfl (fun hp' ad2 h2 x2 C => ?_)
  obtain rfl := h2.2
  refine mm_astore_n (lv' := [(1, .ref 0), (0, .ref 1000002)]) C dL_law_7 rfl hnL (by decide) rfl ?_
  refine mm_new (ci := 3) (fs := [.int 0, .int 0, .null, .null, .int 0, .null, .null, .null, .null, .null, .null, .null, .int 0, .null, .null, .null, .null, .null]) C (fun w h => mm_wc (inX3 w h)) tyX3 tyX3_ok (mm_wc tw461) (mm_wc tw462) (mm_wc tw5) rfl dfX3 rfl (mm_nl rfl) (mm_nl rfl) dL_law_8 rfl rfl rfl (mm_nl rfl) (fun ad3 x3 C => ?_)
  refine mm_dup C dL_law_11 rfl ?_
  refine mm_callI (av := []) C 18 33 (mm_gs tw465) (mm_wc tw463) (mm_wc tw5) ⟨by decide +kernel, by decide +kernel, by decide +kernel⟩ (kX3_init _ _) 0 rfl rfl rfl ⟨mm_nl rfl, mm_nl rfl⟩ rfl rfl (mm_nl rfl) dL_law_12 ⟨mm_nl rfl, mm_nl rfl⟩ rfl (mm_wc tw464) (fun v hp' h => ⟨h.1, by rw [h.2]; rfl⟩) (mm_nl rfl) rfl rfl (fun hp' ad4 h4 x4 C => ?_)
  obtain rfl := h4.2
  refine mm_astore_n (lv' := [(2, .ref 18), (1, .ref 0), (0, .ref 1000002)]) C dL_law_15 rfl hnL (by decide) rfl ?_
  refine mm_iconst (v := 1) C dL_law_16 (by decide) ?_
  refine mm_newl (N := 1) C (mm_wc tw663) (by decide) (by decide) (by decide) (mm_nl rfl) (mm_nl rfl) dL_law_17 rfl rfl rfl (mm_nl rfl) (fun ad5 x5 C => ?_)
  refine mm_astore_n (lv' := [(3, .ref 33), (2, .ref 18), (1, .ref 0), (0, .ref 1000002)]) C dL_law_19 rfl hnL (by decide) rfl ?_
  refine mm_iconst (v := 0) C dL_law_20 (by decide) ?_
  refine mm_istore (lv' := [(4, .int 0), (3, .ref 33), (2, .ref 18), (1, .ref 0), (0, .ref 1000002)]) C dL_law_21 hnL (by decide) rfl ?_
  have hS5 := ((((hS.ext x1 (mm_nl rfl)).ext x2 (mm_nl rfl)).ext x3 (mm_nl rfl)).ext x4 (mm_nl rfl)).ext x5 (mm_nl rfl)
  exact lw_loop C hnL hS5 hL (fun cells slots hp lv h1 h2 => hEnd ad5 cells slots hp lv C h1 h2) 513 0 ks_0 0 (fun _ => 0) (fun _ => 0) (fun _ => 0) 0 0 0 (by omega) (by omega) J_0
