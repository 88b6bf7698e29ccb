theorem ss_X0_A_fill_27 : mm_SS RX0 27 yA_fill cA_fill 4 none 2 := ⟨tw28, tw29, tw3, tw30, ⟨by decide +kernel, by decide +kernel, by decide +kernel⟩⟩
theorem ss_X1_A_fill_19 : mm_SS RX1 19 yA_fill cA_fill 4 none 2 := ⟨tw60, tw29, tw3, tw30, ⟨by decide +kernel, by decide +kernel, by decide +kernel⟩⟩
theorem dA_fill_0 : decode cA_fill 0 = .ok (.iconst 0, 1) := by decide +kernel
theorem dA_fill_1 : decode cA_fill 1 = .ok (.istore_n 2, 1) := by decide +kernel
theorem dA_fill_2 : decode cA_fill 2 = .ok (.aload_n 0, 1) := by decide +kernel
theorem dA_fill_3 : decode cA_fill 3 = .ok (.arraylength, 1) := by decide +kernel
theorem dA_fill_4 : decode cA_fill 4 = .ok (.istore_n 3, 1) := by decide +kernel
theorem dA_fill_5 : decode cA_fill 5 = .ok (.iload_n 2, 1) := by decide +kernel
theorem dA_fill_6 : decode cA_fill 6 = .ok (.iload_n 3, 1) := by decide +kernel
theorem dA_fill_7 : decode cA_fill 7 = .ok (.if_icmp .ge 13, 3) := by decide +kernel
theorem dA_fill_10 : decode cA_fill 10 = .ok (.aload_n 0, 1) := by decide +kernel
theorem dA_fill_11 : decode cA_fill 11 = .ok (.iload_n 2, 1) := by decide +kernel
theorem dA_fill_12 : decode cA_fill 12 = .ok (.iload_n 1, 1) := by decide +kernel
theorem dA_fill_13 : decode cA_fill 13 = .ok (.iastore, 1) := by decide +kernel
theorem dA_fill_14 : decode cA_fill 14 = .ok (.iinc 2 1, 3) := by decide +kernel
theorem dA_fill_17 : decode cA_fill 17 = .ok (.goto (-12), 3) := by decide +kernel
theorem dA_fill_20 : decode cA_fill 20 = .ok (.return_, 1) := by decide +kernel
def f_fl (n : Nat) : Nat → Int32 := fun q => if q < n then -1 else 0
def ks_0 : ks_S := (0, fun _ => 0, fun _ => 0, fun _ => -1, fun _ => 0, fun _ => 0, fun _ => 0, fun _ => 0, 0, f_fl 400, 0, f_fl 1280, 0, 0, fun _ => 0, fun _ => 0, fun _ => 0, fun _ => 0, fun _ => 0)
theorem fl_0 (v : Int32) (f : Nat → Int32) : (fun q => if q < 0 then v else f q) = f := by funext q; rw [if_neg (Nat.not_lt_zero q)]
theorem fl_s (v : Int32) (f : Nat → Int32) (j : Nat) : upd (fun q => if q < j then v else f q) j v = fun q => if q < j + 1 then v else f q := by
  funext q
  unfold upd
  by_cases h : q = j
  · rw [if_pos h, if_pos (by omega)]
  · rw [if_neg h]
    show (if q < j then v else f q) = _
    by_cases h2 : q < j
    · rw [if_pos h2, if_pos (by omega)]
    · rw [if_neg h2, if_neg (by omega)]
theorem set_id {hp : List mm_c} {pl : Nat} {c : mm_c} (h : hp[pl]? = some c) : hp.set pl c = hp := by
  apply List.ext_getElem?
  intro q
  rw [List.getElem?_set]
  by_cases hq : pl = q
  · subst hq
    have hlt : pl < hp.length := (List.getElem?_eq_some_iff.mp h).1
    rw [List.getElem?_eq_getElem hlt] at h
    simp [hlt]; exact (Option.some.inj h).symm
  · simp [hq]
theorem set_at {hp : List mm_c} {pl : Nat} {c c' : mm_c} (h : hp[pl]? = some c) : (hp.set pl c')[pl]? = some c' := by
  have hlt : pl < hp.length := (List.getElem?_eq_some_iff.mp h).1
  simp [hlt]
set_option maxHeartbeats 4000000 in
set_option maxRecDepth 100000 in
theorem kA_fill (l : Launch) (D : va_G) (hp : List mm_c) (pl n : Nat) (f : Nat → Int32) (v : Int32) (he : hp[pl]? = some (.inl (n, f))) (hn9 : n < 1000000) : mm_Wr l D yA_fill (mm_cw yA_fill cA_fill 4 none) (mm_rm 0) [.ref pl, .int v] hp none (hp.set pl (.inl (n, fun q => if q < n then v else f q))) := by
  refine mm_start (own := RA) (by decide) rfl rfl (mm_nl rfl) (fun _ => rfl) (fun _ => rfl) (fun g ad hl hD hnL C K => ?_)
  subst hl
  subst hD
  have loop : ∀ (k j : Nat), j + k = n → mm_M g ad 0 0 (hp.set pl (.inl (n, fun q => if q < j then v else f q))) 5 [(3, .int (nI n)), (2, .int (nI j)), (0, .ref pl), (1, .int v)] [] := by
    intro k
    induction k with
    | zero =>
      intro j hj
      refine mm_iload_n C dA_fill_5 rfl 1 rfl ?_
      refine mm_iload_n C dA_fill_6 rfl 0 rfl ?_
      refine mm_icmp_ge (tgt := 20) C dA_fill_7 (by decide) (fun _ => ?_) (fun z => False.elim (cn_t hj z))
      exact mm_vret C K dA_fill_20 ⟨rfl, by rw [show j = n from by omega]⟩ (mm_sh_set he rfl) (mm_nl rfl) (mm_nl rfl)
    | succ k ih =>
      intro j hj
      refine mm_iload_n C dA_fill_5 rfl 1 rfl ?_
      refine mm_iload_n C dA_fill_6 rfl 0 rfl ?_
      refine mm_icmp_ge (tgt := 20) C dA_fill_7 (by decide) (fun z => False.elim (cn_f hj hn9 z)) (fun _ => ?_)
      refine mm_aload_n C dA_fill_10 rfl 2 rfl ?_
      refine mm_iload_n C dA_fill_11 rfl 1 rfl ?_
      refine mm_iload_n C dA_fill_12 rfl 3 rfl ?_
      refine mm_iast C pl (set_at he) (vp_in_nI (by omega) (by omega)) dA_fill_13 ?_
      rw [List.set_set, nI_clamp (by omega), fl_s]
      refine mm_iinc (q := 1) (v := nI (j + 1)) (lv' := [(2, .int (nI (j + 1))), (3, .int (nI n)), (0, .ref pl), (1, .int v)]) C dA_fill_14 rfl (nI_1 j) hnL (by decide) rfl ?_
      refine mm_goto (tgt := 5) C dA_fill_17 (by decide) ?_
      refine mm_lvs (lv' := [(3, .int (nI n)), (2, .int (nI (j + 1))), (0, .ref pl), (1, .int v)]) [1, 0, 2, 3] rfl ?_
      exact ih (j + 1) (by omega)
  show mm_M g ad 0 0 hp 0 [(0, .ref pl), (1, .int v)] []
  refine mm_iconst (v := 0) C dA_fill_0 (by decide) ?_
  refine mm_istore_n (lv' := [(2, .int 0), (0, .ref pl), (1, .int v)]) C dA_fill_1 rfl hnL (by decide) rfl ?_
  refine mm_aload_n C dA_fill_2 rfl 1 rfl ?_
  refine mm_alen (v := nI n) C pl he rfl dA_fill_3 ?_
  refine mm_istore_n (lv' := [(3, .int (nI n)), (2, .int 0), (0, .ref pl), (1, .int v)]) C dA_fill_4 rfl hnL (by decide) rfl ?_
  have h0 := loop n 0 (by omega)
  rw [fl_0, set_id he] at h0
  exact h0
theorem arr_eq (cA : ClassId) (n : Nat) {f f' : Nat → Int32} (hf : ∀ j, j < n → f j = f' j) : vp_cell cA (n, .inl f) = vp_cell cA (n, .inl f') := by
  rw [vp_cell_i, vp_cell_i]
  unfold arrV
  congr 1
  congr 1
  funext j
  exact congrArg Value.int (hf j.val j.isLt)
theorem mm_extc {g : mm_g} {ad : mm_A} {cells slots : Nat} {hp : List mm_c} {pc : Nat} {lv : List (Nat × Value)} {st : List Value} (pl : Nat) {n : Nat} {f : Nat → Int32} (f' : Nat → Int32) (he : hp[pl]? = some (.inl (n, f))) (hf : ∀ j, j < n → f j = f' j) (k : mm_M g ad cells slots (hp.set pl (.inl (n, f'))) pc lv st) : mm_M g ad cells slots hp pc lv st := by
  obtain ⟨p, l, e, R, s, m, args, below, meth, c, nL, D, A, Q⟩ := g
  intro H locs ls hH h
  have hsh : mm_sh (hp.set pl (.inl (n, f'))) = mm_sh hp := mm_sh_set he rfl
  refine k H locs ls ⟨?_, mm_D.sh hH.2.1 hsh, hH.2.2.1.sh hsh, hH.2.2.2⟩ h
  intro q w hq
  rw [mm_ws_set, List.getElem?_set] at hq
  by_cases hqp : pl = q
  · rw [if_pos hqp] at hq
    split at hq
    · cases hq
      have h1 := hH.1 pl _ (mm_ws_at he)
      show va_at D vwCl ((ad pl).1, .inl ((ad pl).2, n, .inl f')) H
      have h2 : va_at D vwCl ((ad pl).1, .inl ((ad pl).2, n, .inl f)) H := h1
      unfold va_at at h2 ⊢
      first
        | (rw [← arr_eq (ad pl).2 n hf]; exact h2)
        | (simp only [← arr_eq (ad pl).2 n hf]; exact h2)
        | (dsimp only at h2 ⊢; rw [← arr_eq (ad pl).2 n hf]; exact h2)
    · cases hq
  · rw [if_neg hqp] at hq
    exact hH.1 q w hq
def mm_rX0 : Room := { frames := 3, cells := 5, slots := 1600, locals := 96 }
def mm_rX1A : Room := { frames := 3, cells := 1, slots := 400, locals := 96 }
def mm_rX1U : Room := { frames := 3, cells := 1, slots := 1280, locals := 96 }
def mm_rX2 : Room := { frames := 6, cells := 17, slots := 4532, locals := 192 }
def mm_rX3 : Room := { frames := 6, cells := 14, slots := 3920, locals := 192 }
theorem dfX0 : ∀ j, j < 6 → defaultValue (tyX0 j) = vp_V [.null, .null, .null, .null, .null, .int 0] j := fun j hj => match j, hj with
  | 0, _ => rfl
  | 1, _ => rfl
  | 2, _ => rfl
  | 3, _ => rfl
  | 4, _ => rfl
  | 5, _ => rfl
  | j + 6, h => absurd h (by omega)
theorem dfX1 : ∀ j, j < 3 → defaultValue (tyX1 j) = vp_V [.int 0, .null, .int 0] j := fun j hj => match j, hj with
  | 0, _ => rfl
  | 1, _ => rfl
  | 2, _ => rfl
  | j + 3, h => absurd h (by omega)
theorem dfX2 : ∀ j, j < 12 → defaultValue (tyX2 j) = vp_V [.int 0, .null, .null, .null, .null, .null, .int 0, .null, .null, .null, .null, .null] j := fun j hj => match j, hj with
  | 0, _ => rfl
  | 1, _ => rfl
  | 2, _ => rfl
  | 3, _ => rfl
  | 4, _ => rfl
  | 5, _ => rfl
  | 6, _ => rfl
  | 7, _ => rfl
  | 8, _ => rfl
  | 9, _ => rfl
  | 10, _ => rfl
  | 11, _ => rfl
  | j + 12, h => absurd h (by omega)
theorem dfX3 : ∀ j, j < 18 → defaultValue (tyX3 j) = vp_V [.int 0, .int 0, .null, .null, .int 0, .null, .null, .null, .null, .null, .null, .null, .int 0, .null, .null, .null, .null, .null] j := fun j hj => match j, hj with
  | 0, _ => rfl
  | 1, _ => rfl
  | 2, _ => rfl
  | 3, _ => rfl
  | 4, _ => rfl
  | 5, _ => rfl
  | 6, _ => rfl
  | 7, _ => rfl
  | 8, _ => rfl
  | 9, _ => rfl
  | 10, _ => rfl
  | 11, _ => rfl
  | 12, _ => rfl
  | 13, _ => rfl
  | 14, _ => rfl
  | 15, _ => rfl
  | 16, _ => rfl
  | 17, _ => rfl
  | j + 18, h => absurd h (by omega)
set_option maxHeartbeats 4000000 in
set_option maxRecDepth 100000 in
theorem kX0_init (l : Launch) (D : va_G) : mm_MetA l D yX0_init (mm_cw yX0_init cX0_init 1 none) mm_rX0 [.ref 3] [.inr (.inl (2, [.int 0, .ref 1, .ref 2, .null, .null, .null, .int 0, .null, .null, .null, .null, .null])), .inl (40, (fun _ => 0)), .inl (40, (fun _ => 0)), .inr (.inl (0, [.null, .null, .null, .null, .null, .int 0]))] (fun v hp' => v = none ∧ hp' = [.inr (.inl (2, [.int 0, .ref 1, .ref 2, .null, .null, .null, .int 0, .null, .null, .null, .null, .null])), .inl (40, (fun _ => 0)), .inl (40, (fun _ => 0)), .inr (.inl (0, [.ref 4, .ref 5, .ref 6, .ref 7, .ref 8, .int 0])), .inl (800, (fun _ => -1)), .inl (200, (fun _ => 0)), .inl (200, (fun _ => 0)), .inl (200, (fun _ => 0)), .inl (200, (fun _ => 0))]) 5 1600 := by
  refine mm_startA (own := RX0) (by decide) rfl rfl rfl (mm_nl rfl) (fun _ => rfl) (fun _ => rfl) (fun g ad hl hD hnL C K => ?_)
  subst hl
  subst hD
  show mm_M g ad 0 0 [.inr (.inl (2, [.int 0, .ref 1, .ref 2, .null, .null, .null, .int 0, .null, .null, .null, .null, .null])), .inl (40, (fun _ => 0)), .inl (40, (fun _ => 0)), .inr (.inl (0, [.null, .null, .null, .null, .null, .int 0]))] 0 [(0, .ref 3)] []
  refine mm_aload_n C dX0_init_0 rfl 0 rfl ?_
  refine mm_objInit C (mm_wc tw27) (mm_wc tw20) (mm_wc tw21) dX0_init_1 (mm_nl rfl) (mm_nl rfl) ?_
  refine mm_aload_n C dX0_init_4 rfl 0 rfl ?_
  refine mm_sipush (v := 800) C dX0_init_5 (by decide) ?_
  refine mm_newa (N := 800) C (mm_wc tw53) (by decide) (by decide) (by decide) (mm_nl rfl) (mm_nl rfl) dX0_init_8 rfl rfl rfl (mm_nl rfl) (fun ad1 x1 C => ?_)
  refine mm_putF C K 3 0 (fun w h => mm_wc (inX0 w h)) rfl rfl (by decide) tyX0 tyX0_ok nmX0 (mm_wc tw31) rfl rfl rfl (tyX0_ok 0 (by decide)) (fun _ => rfl) (fun _ => rfl) (mm_nl rfl) dX0_init_10 ?_
  refine mm_aload_n C dX0_init_13 rfl 0 rfl ?_
  refine mm_sipush (v := 200) C dX0_init_14 (by decide) ?_
  refine mm_newa (N := 200) C (mm_wc tw53) (by decide) (by decide) (by decide) (mm_nl rfl) (mm_nl rfl) dX0_init_17 rfl rfl rfl (mm_nl rfl) (fun ad2 x2 C => ?_)
  have X2 := mm_ext.tr x1 x2 (mm_nl rfl) (mm_nl rfl)
  refine mm_putF C K 3 1 (fun w h => mm_wc (inX0 w h)) rfl rfl (by decide) tyX0 tyX0_ok nmX0 (mm_wc tw32) rfl rfl rfl (tyX0_ok 1 (by decide)) (fun _ => rfl) (fun _ => rfl) (mm_nl rfl) dX0_init_19 ?_
  refine mm_aload_n C dX0_init_22 rfl 0 rfl ?_
  refine mm_sipush (v := 200) C dX0_init_23 (by decide) ?_
  refine mm_newa (N := 200) C (mm_wc tw53) (by decide) (by decide) (by decide) (mm_nl rfl) (mm_nl rfl) dX0_init_26 rfl rfl rfl (mm_nl rfl) (fun ad3 x3 C => ?_)
  have X3 := mm_ext.tr X2 x3 (mm_nl rfl) (mm_nl rfl)
  refine mm_putF C K 3 2 (fun w h => mm_wc (inX0 w h)) rfl rfl (by decide) tyX0 tyX0_ok nmX0 (mm_wc tw33) rfl rfl rfl (tyX0_ok 2 (by decide)) (fun _ => rfl) (fun _ => rfl) (mm_nl rfl) dX0_init_28 ?_
  refine mm_aload_n C dX0_init_31 rfl 0 rfl ?_
  refine mm_sipush (v := 200) C dX0_init_32 (by decide) ?_
  refine mm_newa (N := 200) C (mm_wc tw53) (by decide) (by decide) (by decide) (mm_nl rfl) (mm_nl rfl) dX0_init_35 rfl rfl rfl (mm_nl rfl) (fun ad4 x4 C => ?_)
  have X4 := mm_ext.tr X3 x4 (mm_nl rfl) (mm_nl rfl)
  refine mm_putF C K 3 3 (fun w h => mm_wc (inX0 w h)) rfl rfl (by decide) tyX0 tyX0_ok nmX0 (mm_wc tw34) rfl rfl rfl (tyX0_ok 3 (by decide)) (fun _ => rfl) (fun _ => rfl) (mm_nl rfl) dX0_init_37 ?_
  refine mm_aload_n C dX0_init_40 rfl 0 rfl ?_
  refine mm_sipush (v := 200) C dX0_init_41 (by decide) ?_
  refine mm_newa (N := 200) C (mm_wc tw53) (by decide) (by decide) (by decide) (mm_nl rfl) (mm_nl rfl) dX0_init_44 rfl rfl rfl (mm_nl rfl) (fun ad5 x5 C => ?_)
  have X5 := mm_ext.tr X4 x5 (mm_nl rfl) (mm_nl rfl)
  refine mm_putF C K 3 4 (fun w h => mm_wc (inX0 w h)) rfl rfl (by decide) tyX0 tyX0_ok nmX0 (mm_wc tw36) rfl rfl rfl (tyX0_ok 4 (by decide)) (fun _ => rfl) (fun _ => rfl) (mm_nl rfl) dX0_init_46 ?_
  refine mm_aload_n C dX0_init_49 rfl 0 rfl ?_
  refine mm_get C 3 0 (fun w h => mm_wc (inX0 w h)) rfl rfl (by decide) (mm_wc tw31) rfl rfl dX0_init_50 ?_
  refine mm_iconst (v := (-1)) C dX0_init_53 (by decide) ?_
  refine mm_rvS C ss_X0_A_fill_27 (kA_fill _ _ _ 4 800 _ (-1) rfl (by decide)) ⟨rfl, rfl⟩ ⟨mm_nl rfl, mm_nl rfl⟩ rfl rfl (mm_nl rfl) ⟨mm_nl rfl, mm_nl rfl⟩ dX0_init_54 ?_
  refine mm_extc 4 (fun _ => -1) rfl (fun j hj => if_pos hj) ?_
  exact mm_vretA C K dX0_init_57 ⟨rfl, rfl⟩ (mm_nl rfl) X5 (mm_nl rfl) (mm_nl rfl)
set_option maxHeartbeats 4000000 in
set_option maxRecDepth 100000 in
theorem kX1_initA (l : Launch) (D : va_G) : mm_MetA l D yX1_init (mm_cw yX1_init cX1_init 2 none) mm_rX1A [.ref 9, .int 10] [.inr (.inl (2, [.int 0, .ref 1, .ref 2, .ref 3, .null, .null, .int 0, .null, .null, .null, .null, .null])), .inl (40, (fun _ => 0)), .inl (40, (fun _ => 0)), .inr (.inl (0, [.ref 4, .ref 5, .ref 6, .ref 7, .ref 8, .int 0])), .inl (800, (fun _ => -1)), .inl (200, (fun _ => 0)), .inl (200, (fun _ => 0)), .inl (200, (fun _ => 0)), .inl (200, (fun _ => 0)), .inr (.inl (1, [.int 0, .null, .int 0]))] (fun v hp' => v = none ∧ hp' = [.inr (.inl (2, [.int 0, .ref 1, .ref 2, .ref 3, .null, .null, .int 0, .null, .null, .null, .null, .null])), .inl (40, (fun _ => 0)), .inl (40, (fun _ => 0)), .inr (.inl (0, [.ref 4, .ref 5, .ref 6, .ref 7, .ref 8, .int 0])), .inl (800, (fun _ => -1)), .inl (200, (fun _ => 0)), .inl (200, (fun _ => 0)), .inl (200, (fun _ => 0)), .inl (200, (fun _ => 0)), .inr (.inl (1, [.int 10, .ref 10, .int 0])), .inl (400, (f_fl 400))]) 1 400 := by
  refine mm_startA (own := RX1) (by decide) rfl rfl rfl (mm_nl rfl) (fun _ => rfl) (fun _ => rfl) (fun g ad hl hD hnL C K => ?_)
  subst hl
  subst hD
  show mm_M g ad 0 0 [.inr (.inl (2, [.int 0, .ref 1, .ref 2, .ref 3, .null, .null, .int 0, .null, .null, .null, .null, .null])), .inl (40, (fun _ => 0)), .inl (40, (fun _ => 0)), .inr (.inl (0, [.ref 4, .ref 5, .ref 6, .ref 7, .ref 8, .int 0])), .inl (800, (fun _ => -1)), .inl (200, (fun _ => 0)), .inl (200, (fun _ => 0)), .inl (200, (fun _ => 0)), .inl (200, (fun _ => 0)), .inr (.inl (1, [.int 0, .null, .int 0]))] 0 [(0, .ref 9), (1, .int 10)] []
  refine mm_aload_n C dX1_init_0 rfl 0 rfl ?_
  refine mm_objInit C (mm_wc tw59) (mm_wc tw20) (mm_wc tw21) dX1_init_1 (mm_nl rfl) (mm_nl rfl) ?_
  refine mm_aload_n C dX1_init_4 rfl 0 rfl ?_
  refine mm_iload_n C dX1_init_5 rfl 1 rfl ?_
  refine mm_putF C K 9 0 (fun w h => mm_wc (inX1 w h)) rfl rfl (by decide) tyX1 tyX1_ok nmX1 (mm_wc tw61) rfl rfl rfl (tyX1_ok 0 (by decide)) (fun _ => rfl) (fun _ => rfl) (mm_nl rfl) dX1_init_6 ?_
  refine mm_aload_n C dX1_init_9 rfl 0 rfl ?_
  refine mm_bipush (v := 40) C dX1_init_10 (by decide) ?_
  refine mm_iload_n C dX1_init_12 rfl 1 rfl ?_
  refine mm_imul C dX1_init_13 ?_
  refine mm_newa (N := 400) C (mm_wc tw53) (by decide) (by decide) (by decide) (mm_nl rfl) (mm_nl rfl) dX1_init_14 rfl rfl rfl (mm_nl rfl) (fun ad1 x1 C => ?_)
  refine mm_putF C K 9 1 (fun w h => mm_wc (inX1 w h)) rfl rfl (by decide) tyX1 tyX1_ok nmX1 (mm_wc tw62) rfl rfl rfl (tyX1_ok 1 (by decide)) (fun _ => rfl) (fun _ => rfl) (mm_nl rfl) dX1_init_16 ?_
  refine mm_aload_n C dX1_init_19 rfl 0 rfl ?_
  refine mm_get C 9 1 (fun w h => mm_wc (inX1 w h)) rfl rfl (by decide) (mm_wc tw62) rfl rfl dX1_init_20 ?_
  refine mm_iconst (v := (-1)) C dX1_init_23 (by decide) ?_
  refine mm_rvS C ss_X1_A_fill_19 (kA_fill _ _ _ 10 400 _ (-1) rfl (by decide)) ⟨rfl, rfl⟩ ⟨mm_nl rfl, mm_nl rfl⟩ rfl rfl (mm_nl rfl) ⟨mm_nl rfl, mm_nl rfl⟩ dX1_init_24 ?_
  exact mm_vretA C K dX1_init_27 ⟨rfl, rfl⟩ (mm_nl rfl) x1 (mm_nl rfl) (mm_nl rfl)
set_option maxHeartbeats 4000000 in
set_option maxRecDepth 100000 in
theorem kX1_initU (l : Launch) (D : va_G) : mm_MetA l D yX1_init (mm_cw yX1_init cX1_init 2 none) mm_rX1U [.ref 11, .int 32] [.inr (.inl (2, [.int 0, .ref 1, .ref 2, .ref 3, .ref 9, .null, .int 0, .null, .null, .null, .null, .null])), .inl (40, (fun _ => 0)), .inl (40, (fun _ => 0)), .inr (.inl (0, [.ref 4, .ref 5, .ref 6, .ref 7, .ref 8, .int 0])), .inl (800, (fun _ => -1)), .inl (200, (fun _ => 0)), .inl (200, (fun _ => 0)), .inl (200, (fun _ => 0)), .inl (200, (fun _ => 0)), .inr (.inl (1, [.int 10, .ref 10, .int 0])), .inl (400, (f_fl 400)), .inr (.inl (1, [.int 0, .null, .int 0]))] (fun v hp' => v = none ∧ hp' = [.inr (.inl (2, [.int 0, .ref 1, .ref 2, .ref 3, .ref 9, .null, .int 0, .null, .null, .null, .null, .null])), .inl (40, (fun _ => 0)), .inl (40, (fun _ => 0)), .inr (.inl (0, [.ref 4, .ref 5, .ref 6, .ref 7, .ref 8, .int 0])), .inl (800, (fun _ => -1)), .inl (200, (fun _ => 0)), .inl (200, (fun _ => 0)), .inl (200, (fun _ => 0)), .inl (200, (fun _ => 0)), .inr (.inl (1, [.int 10, .ref 10, .int 0])), .inl (400, (f_fl 400)), .inr (.inl (1, [.int 32, .ref 12, .int 0])), .inl (1280, (f_fl 1280))]) 1 1280 := by
  refine mm_startA (own := RX1) (by decide) rfl rfl rfl (mm_nl rfl) (fun _ => rfl) (fun _ => rfl) (fun g ad hl hD hnL C K => ?_)
  subst hl
  subst hD
  show mm_M g ad 0 0 [.inr (.inl (2, [.int 0, .ref 1, .ref 2, .ref 3, .ref 9, .null, .int 0, .null, .null, .null, .null, .null])), .inl (40, (fun _ => 0)), .inl (40, (fun _ => 0)), .inr (.inl (0, [.ref 4, .ref 5, .ref 6, .ref 7, .ref 8, .int 0])), .inl (800, (fun _ => -1)), .inl (200, (fun _ => 0)), .inl (200, (fun _ => 0)), .inl (200, (fun _ => 0)), .inl (200, (fun _ => 0)), .inr (.inl (1, [.int 10, .ref 10, .int 0])), .inl (400, (f_fl 400)), .inr (.inl (1, [.int 0, .null, .int 0]))] 0 [(0, .ref 11), (1, .int 32)] []
  refine mm_aload_n C dX1_init_0 rfl 0 rfl ?_
  refine mm_objInit C (mm_wc tw59) (mm_wc tw20) (mm_wc tw21) dX1_init_1 (mm_nl rfl) (mm_nl rfl) ?_
  refine mm_aload_n C dX1_init_4 rfl 0 rfl ?_
  refine mm_iload_n C dX1_init_5 rfl 1 rfl ?_
  refine mm_putF C K 11 0 (fun w h => mm_wc (inX1 w h)) rfl rfl (by decide) tyX1 tyX1_ok nmX1 (mm_wc tw61) rfl rfl rfl (tyX1_ok 0 (by decide)) (fun _ => rfl) (fun _ => rfl) (mm_nl rfl) dX1_init_6 ?_
  refine mm_aload_n C dX1_init_9 rfl 0 rfl ?_
  refine mm_bipush (v := 40) C dX1_init_10 (by decide) ?_
  refine mm_iload_n C dX1_init_12 rfl 1 rfl ?_
  refine mm_imul C dX1_init_13 ?_
  refine mm_newa (N := 1280) C (mm_wc tw53) (by decide) (by decide) (by decide) (mm_nl rfl) (mm_nl rfl) dX1_init_14 rfl rfl rfl (mm_nl rfl) (fun ad1 x1 C => ?_)
  refine mm_putF C K 11 1 (fun w h => mm_wc (inX1 w h)) rfl rfl (by decide) tyX1 tyX1_ok nmX1 (mm_wc tw62) rfl rfl rfl (tyX1_ok 1 (by decide)) (fun _ => rfl) (fun _ => rfl) (mm_nl rfl) dX1_init_16 ?_
  refine mm_aload_n C dX1_init_19 rfl 0 rfl ?_
  refine mm_get C 11 1 (fun w h => mm_wc (inX1 w h)) rfl rfl (by decide) (mm_wc tw62) rfl rfl dX1_init_20 ?_
  refine mm_iconst (v := (-1)) C dX1_init_23 (by decide) ?_
  refine mm_rvS C ss_X1_A_fill_19 (kA_fill _ _ _ 12 1280 _ (-1) rfl (by decide)) ⟨rfl, rfl⟩ ⟨mm_nl rfl, mm_nl rfl⟩ rfl rfl (mm_nl rfl) ⟨mm_nl rfl, mm_nl rfl⟩ dX1_init_24 ?_
  exact mm_vretA C K dX1_init_27 ⟨rfl, rfl⟩ (mm_nl rfl) x1 (mm_nl rfl) (mm_nl rfl)
set_option maxHeartbeats 4000000 in
set_option maxRecDepth 100000 in
theorem kX2_init (l : Launch) (D : va_G) : mm_MetA l D yX2_init (mm_cw yX2_init cX2_init 1 none) mm_rX2 [.ref 0] [.inr (.inl (2, [.int 0, .null, .null, .null, .null, .null, .int 0, .null, .null, .null, .null, .null]))] (fun v hp' => v = none ∧ hp' = (ks_H ks_0 [])) 17 4532 := by
  refine mm_startA (own := RX2) (by decide) rfl rfl rfl (mm_nl rfl) (fun _ => rfl) (fun _ => rfl) (fun g ad hl hD hnL C K => ?_)
  subst hl
  subst hD
  show mm_M g ad 0 0 [.inr (.inl (2, [.int 0, .null, .null, .null, .null, .null, .int 0, .null, .null, .null, .null, .null]))] 0 [(0, .ref 0)] []
  refine mm_aload_n C dX2_init_0 rfl 0 rfl ?_
  refine mm_objInit C (mm_wc tw19) (mm_wc tw20) (mm_wc tw21) dX2_init_1 (mm_nl rfl) (mm_nl rfl) ?_
  refine mm_aload_n C dX2_init_4 rfl 0 rfl ?_
  refine mm_bipush (v := 40) C dX2_init_5 (by decide) ?_
  refine mm_newa (N := 40) C (mm_wc tw53) (by decide) (by decide) (by decide) (mm_nl rfl) (mm_nl rfl) dX2_init_7 rfl rfl rfl (mm_nl rfl) (fun ad1 x1 C => ?_)
  refine mm_putF C K 0 1 (fun w h => mm_wc (inX2 w h)) rfl rfl (by decide) tyX2 tyX2_ok nmX2 (mm_wc tw73) rfl rfl rfl (tyX2_ok 1 (by decide)) (fun _ => rfl) (fun _ => rfl) (mm_nl rfl) dX2_init_9 ?_
  refine mm_aload_n C dX2_init_12 rfl 0 rfl ?_
  refine mm_bipush (v := 40) C dX2_init_13 (by decide) ?_
  refine mm_newa (N := 40) C (mm_wc tw53) (by decide) (by decide) (by decide) (mm_nl rfl) (mm_nl rfl) dX2_init_15 rfl rfl rfl (mm_nl rfl) (fun ad2 x2 C => ?_)
  have X2 := mm_ext.tr x1 x2 (mm_nl rfl) (mm_nl rfl)
  refine mm_putF C K 0 2 (fun w h => mm_wc (inX2 w h)) rfl rfl (by decide) tyX2 tyX2_ok nmX2 (mm_wc tw74) rfl rfl rfl (tyX2_ok 2 (by decide)) (fun _ => rfl) (fun _ => rfl) (mm_nl rfl) dX2_init_17 ?_
  refine mm_aload_n C dX2_init_20 rfl 0 rfl ?_
  refine mm_new (ci := 0) (fs := [.null, .null, .null, .null, .null, .int 0]) C (fun w h => mm_wc (inX0 w h)) tyX0 tyX0_ok (mm_wc tw22) (mm_wc tw23) (mm_wc tw2) rfl dfX0 rfl (mm_nl rfl) (mm_nl rfl) dX2_init_21 rfl rfl rfl (mm_nl rfl) (fun ad3 x3 C => ?_)
  have X3 := mm_ext.tr X2 x3 (mm_nl rfl) (mm_nl rfl)
  refine mm_dup C dX2_init_24 rfl ?_
  refine mm_callIN C 3 9 (mm_gs tw26) (List.mem_of_getElem? (i := 0) rfl) (mm_wc tw2) ⟨by decide +kernel, by decide +kernel, by decide +kernel⟩ (kX0_init _ _) 0 rfl rfl rfl ⟨mm_nl rfl, mm_nl rfl⟩ rfl rfl (mm_nl rfl) dX2_init_25 ⟨mm_nl rfl, mm_nl rfl⟩ rfl (mm_wc tw25) (fun v hp' h => ⟨h.1, by rw [h.2]; rfl⟩) (mm_nl rfl) rfl rfl (fun hp' ad4 h4 x4 C => ?_)
  obtain rfl := h4.2
  have X4 := mm_ext.tr X3 x4 (mm_nl rfl) (mm_nl rfl)
  refine mm_putF C K 0 3 (fun w h => mm_wc (inX2 w h)) rfl rfl (by decide) tyX2 tyX2_ok nmX2 (mm_wc tw75) rfl rfl rfl (tyX2_ok 3 (by decide)) (fun _ => rfl) (fun _ => rfl) (mm_nl rfl) dX2_init_28 ?_
  refine mm_aload_n C dX2_init_31 rfl 0 rfl ?_
  refine mm_new (ci := 1) (fs := [.int 0, .null, .int 0]) C (fun w h => mm_wc (inX1 w h)) tyX1 tyX1_ok (mm_wc tw54) (mm_wc tw55) (mm_wc tw4) rfl dfX1 rfl (mm_nl rfl) (mm_nl rfl) dX2_init_32 rfl rfl rfl (mm_nl rfl) (fun ad5 x5 C => ?_)
  have X5 := mm_ext.tr X4 x5 (mm_nl rfl) (mm_nl rfl)
  refine mm_dup C dX2_init_35 rfl ?_
  refine mm_bipush (v := 10) C dX2_init_36 (by decide) ?_
  refine mm_callIN C 9 11 (mm_gs tw58) (List.mem_of_getElem? (i := 4) rfl) (mm_wc tw4) ⟨by decide +kernel, by decide +kernel, by decide +kernel⟩ (kX1_initA _ _) 1 rfl rfl rfl ⟨mm_nl rfl, mm_nl rfl⟩ rfl rfl (mm_nl rfl) dX2_init_38 ⟨mm_nl rfl, mm_nl rfl⟩ rfl (mm_wc tw57) (fun v hp' h => ⟨h.1, by rw [h.2]; rfl⟩) (mm_nl rfl) rfl rfl (fun hp' ad6 h6 x6 C => ?_)
  obtain rfl := h6.2
  have X6 := mm_ext.tr X5 x6 (mm_nl rfl) (mm_nl rfl)
  refine mm_putF C K 0 4 (fun w h => mm_wc (inX2 w h)) rfl rfl (by decide) tyX2 tyX2_ok nmX2 (mm_wc tw76) rfl rfl rfl (tyX2_ok 4 (by decide)) (fun _ => rfl) (fun _ => rfl) (mm_nl rfl) dX2_init_41 ?_
  refine mm_aload_n C dX2_init_44 rfl 0 rfl ?_
  refine mm_new (ci := 1) (fs := [.int 0, .null, .int 0]) C (fun w h => mm_wc (inX1 w h)) tyX1 tyX1_ok (mm_wc tw54) (mm_wc tw55) (mm_wc tw4) rfl dfX1 rfl (mm_nl rfl) (mm_nl rfl) dX2_init_45 rfl rfl rfl (mm_nl rfl) (fun ad7 x7 C => ?_)
  have X7 := mm_ext.tr X6 x7 (mm_nl rfl) (mm_nl rfl)
  refine mm_dup C dX2_init_48 rfl ?_
  refine mm_bipush (v := 32) C dX2_init_49 (by decide) ?_
  refine mm_callIN C 11 13 (mm_gs tw58) (List.mem_of_getElem? (i := 4) rfl) (mm_wc tw4) ⟨by decide +kernel, by decide +kernel, by decide +kernel⟩ (kX1_initU _ _) 1 rfl rfl rfl ⟨mm_nl rfl, mm_nl rfl⟩ rfl rfl (mm_nl rfl) dX2_init_51 ⟨mm_nl rfl, mm_nl rfl⟩ rfl (mm_wc tw57) (fun v hp' h => ⟨h.1, by rw [h.2]; rfl⟩) (mm_nl rfl) rfl rfl (fun hp' ad8 h8 x8 C => ?_)
  obtain rfl := h8.2
  have X8 := mm_ext.tr X7 x8 (mm_nl rfl) (mm_nl rfl)
  refine mm_putF C K 0 5 (fun w h => mm_wc (inX2 w h)) rfl rfl (by decide) tyX2 tyX2_ok nmX2 (mm_wc tw77) rfl rfl rfl (tyX2_ok 5 (by decide)) (fun _ => rfl) (fun _ => rfl) (mm_nl rfl) dX2_init_54 ?_
  refine mm_aload_n C dX2_init_57 rfl 0 rfl ?_
  refine mm_bipush (v := 60) C dX2_init_58 (by decide) ?_
  refine mm_newa (N := 60) C (mm_wc tw53) (by decide) (by decide) (by decide) (mm_nl rfl) (mm_nl rfl) dX2_init_60 rfl rfl rfl (mm_nl rfl) (fun ad9 x9 C => ?_)
  have X9 := mm_ext.tr X8 x9 (mm_nl rfl) (mm_nl rfl)
  refine mm_putF C K 0 7 (fun w h => mm_wc (inX2 w h)) rfl rfl (by decide) tyX2 tyX2_ok nmX2 (mm_wc tw79) rfl rfl rfl (tyX2_ok 7 (by decide)) (fun _ => rfl) (fun _ => rfl) (mm_nl rfl) dX2_init_62 ?_
  refine mm_aload_n C dX2_init_65 rfl 0 rfl ?_
  refine mm_bipush (v := 60) C dX2_init_66 (by decide) ?_
  refine mm_newa (N := 60) C (mm_wc tw53) (by decide) (by decide) (by decide) (mm_nl rfl) (mm_nl rfl) dX2_init_68 rfl rfl rfl (mm_nl rfl) (fun ad10 x10 C => ?_)
  have X10 := mm_ext.tr X9 x10 (mm_nl rfl) (mm_nl rfl)
  refine mm_putF C K 0 8 (fun w h => mm_wc (inX2 w h)) rfl rfl (by decide) tyX2 tyX2_ok nmX2 (mm_wc tw80) rfl rfl rfl (tyX2_ok 8 (by decide)) (fun _ => rfl) (fun _ => rfl) (mm_nl rfl) dX2_init_70 ?_
  refine mm_aload_n C dX2_init_73 rfl 0 rfl ?_
  refine mm_bipush (v := 60) C dX2_init_74 (by decide) ?_
  refine mm_newa (N := 60) C (mm_wc tw53) (by decide) (by decide) (by decide) (mm_nl rfl) (mm_nl rfl) dX2_init_76 rfl rfl rfl (mm_nl rfl) (fun ad11 x11 C => ?_)
  have X11 := mm_ext.tr X10 x11 (mm_nl rfl) (mm_nl rfl)
  refine mm_putF C K 0 9 (fun w h => mm_wc (inX2 w h)) rfl rfl (by decide) tyX2 tyX2_ok nmX2 (mm_wc tw81) rfl rfl rfl (tyX2_ok 9 (by decide)) (fun _ => rfl) (fun _ => rfl) (mm_nl rfl) dX2_init_78 ?_
  refine mm_aload_n C dX2_init_81 rfl 0 rfl ?_
  refine mm_sipush (v := 960) C dX2_init_82 (by decide) ?_
  refine mm_newa (N := 960) C (mm_wc tw53) (by decide) (by decide) (by decide) (mm_nl rfl) (mm_nl rfl) dX2_init_85 rfl rfl rfl (mm_nl rfl) (fun ad12 x12 C => ?_)
  have X12 := mm_ext.tr X11 x12 (mm_nl rfl) (mm_nl rfl)
  refine mm_putF C K 0 10 (fun w h => mm_wc (inX2 w h)) rfl rfl (by decide) tyX2 tyX2_ok nmX2 (mm_wc tw82) rfl rfl rfl (tyX2_ok 10 (by decide)) (fun _ => rfl) (fun _ => rfl) (mm_nl rfl) dX2_init_87 ?_
  refine mm_aload_n C dX2_init_90 rfl 0 rfl ?_
  refine mm_bipush (v := 20) C dX2_init_91 (by decide) ?_
  refine mm_newa (N := 20) C (mm_wc tw53) (by decide) (by decide) (by decide) (mm_nl rfl) (mm_nl rfl) dX2_init_93 rfl rfl rfl (mm_nl rfl) (fun ad13 x13 C => ?_)
  have X13 := mm_ext.tr X12 x13 (mm_nl rfl) (mm_nl rfl)
  refine mm_putF C K 0 11 (fun w h => mm_wc (inX2 w h)) rfl rfl (by decide) tyX2 tyX2_ok nmX2 (mm_wc tw83) rfl rfl rfl (tyX2_ok 11 (by decide)) (fun _ => rfl) (fun _ => rfl) (mm_nl rfl) dX2_init_95 ?_
  exact mm_vretA C K dX2_init_98 ⟨rfl, rfl⟩ (mm_nl rfl) X13 (mm_nl rfl) (mm_nl rfl)
def mi_H (r p : Nat → Int32) : List mm_c := ks_H ks_0 (ms_H (0, fun _ => 0, fun _ => 0, fun _ => -1, fun _ => 0, fun _ => 0, fun _ => 0, fun _ => 0, 0, r, 0, p, 0, 0, fun _ => 0, fun _ => 0, fun _ => 0, fun _ => 0, fun _ => 0) 0 (fun _ => 0) (fun _ => 0) [])
set_option maxHeartbeats 4000000 in
set_option maxRecDepth 100000 in
theorem kX3_init (l : Launch) (D : va_G) : mm_MetA l D yX3_init (mm_cw yX3_init cX3_init 2 none) mm_rX3 [.ref 18] (ks_H ks_0 [.inr (.inl (3, [.int 0, .int 0, .null, .null, .int 0, .null, .null, .null, .null, .null, .null, .null, .int 0, .null, .null, .null, .null, .null]))]) (fun v hp' => v = none ∧ hp' = (ks_H ks_0 (ms_H ks_0 0 (fun _ => 0) (fun _ => 0) []))) 14 3920 := by
  refine mm_startA (own := RX3) (by decide) rfl rfl rfl (mm_nl rfl) (fun _ => rfl) (fun _ => rfl) (fun g ad hl hD hnL C K => ?_)
  subst hl
  subst hD
  show mm_M g ad 0 0 (ks_H ks_0 [.inr (.inl (3, [.int 0, .int 0, .null, .null, .int 0, .null, .null, .null, .null, .null, .null, .null, .int 0, .null, .null, .null, .null, .null]))]) 0 [(0, .ref 18)] []
  refine mm_aload_n C dX3_init_0 rfl 0 rfl ?_
  refine mm_objInit C (mm_wc tw466) (mm_wc tw20) (mm_wc tw21) dX3_init_1 (mm_nl rfl) (mm_nl rfl) ?_
  refine mm_aload_n C dX3_init_4 rfl 0 rfl ?_
  refine mm_bipush (v := 40) C dX3_init_5 (by decide) ?_
  refine mm_newa (N := 40) C (mm_wc tw53) (by decide) (by decide) (by decide) (mm_nl rfl) (mm_nl rfl) dX3_init_7 rfl rfl rfl (mm_nl rfl) (fun ad1 x1 C => ?_)
  refine mm_putF C K 18 2 (fun w h => mm_wc (inX3 w h)) rfl rfl (by decide) tyX3 tyX3_ok nmX3 (mm_wc tw469) rfl rfl rfl (tyX3_ok 2 (by decide)) (fun _ => rfl) (fun _ => rfl) (mm_nl rfl) dX3_init_9 ?_
  refine mm_aload_n C dX3_init_12 rfl 0 rfl ?_
  refine mm_bipush (v := 40) C dX3_init_13 (by decide) ?_
  refine mm_newa (N := 40) C (mm_wc tw53) (by decide) (by decide) (by decide) (mm_nl rfl) (mm_nl rfl) dX3_init_15 rfl rfl rfl (mm_nl rfl) (fun ad2 x2 C => ?_)
  have X2 := mm_ext.tr x1 x2 (mm_nl rfl) (mm_nl rfl)
  refine mm_putF C K 18 3 (fun w h => mm_wc (inX3 w h)) rfl rfl (by decide) tyX3 tyX3_ok nmX3 (mm_wc tw470) rfl rfl rfl (tyX3_ok 3 (by decide)) (fun _ => rfl) (fun _ => rfl) (mm_nl rfl) dX3_init_17 ?_
  refine mm_aload_n C dX3_init_20 rfl 0 rfl ?_
  refine mm_sipush (v := 200) C dX3_init_21 (by decide) ?_
  refine mm_newa (N := 200) C (mm_wc tw53) (by decide) (by decide) (by decide) (mm_nl rfl) (mm_nl rfl) dX3_init_24 rfl rfl rfl (mm_nl rfl) (fun ad3 x3 C => ?_)
  have X3 := mm_ext.tr X2 x3 (mm_nl rfl) (mm_nl rfl)
  refine mm_putF C K 18 5 (fun w h => mm_wc (inX3 w h)) rfl rfl (by decide) tyX3 tyX3_ok nmX3 (mm_wc tw472) rfl rfl rfl (tyX3_ok 5 (by decide)) (fun _ => rfl) (fun _ => rfl) (mm_nl rfl) dX3_init_26 ?_
  refine mm_aload_n C dX3_init_29 rfl 0 rfl ?_
  refine mm_sipush (v := 200) C dX3_init_30 (by decide) ?_
  refine mm_newa (N := 200) C (mm_wc tw53) (by decide) (by decide) (by decide) (mm_nl rfl) (mm_nl rfl) dX3_init_33 rfl rfl rfl (mm_nl rfl) (fun ad4 x4 C => ?_)
  have X4 := mm_ext.tr X3 x4 (mm_nl rfl) (mm_nl rfl)
  refine mm_putF C K 18 6 (fun w h => mm_wc (inX3 w h)) rfl rfl (by decide) tyX3 tyX3_ok nmX3 (mm_wc tw473) rfl rfl rfl (tyX3_ok 6 (by decide)) (fun _ => rfl) (fun _ => rfl) (mm_nl rfl) dX3_init_35 ?_
  refine mm_aload_n C dX3_init_38 rfl 0 rfl ?_
  refine mm_sipush (v := 200) C dX3_init_39 (by decide) ?_
  refine mm_newa (N := 200) C (mm_wc tw53) (by decide) (by decide) (by decide) (mm_nl rfl) (mm_nl rfl) dX3_init_42 rfl rfl rfl (mm_nl rfl) (fun ad5 x5 C => ?_)
  have X5 := mm_ext.tr X4 x5 (mm_nl rfl) (mm_nl rfl)
  refine mm_putF C K 18 7 (fun w h => mm_wc (inX3 w h)) rfl rfl (by decide) tyX3 tyX3_ok nmX3 (mm_wc tw474) rfl rfl rfl (tyX3_ok 7 (by decide)) (fun _ => rfl) (fun _ => rfl) (mm_nl rfl) dX3_init_44 ?_
  refine mm_aload_n C dX3_init_47 rfl 0 rfl ?_
  refine mm_sipush (v := 200) C dX3_init_48 (by decide) ?_
  refine mm_newa (N := 200) C (mm_wc tw53) (by decide) (by decide) (by decide) (mm_nl rfl) (mm_nl rfl) dX3_init_51 rfl rfl rfl (mm_nl rfl) (fun ad6 x6 C => ?_)
  have X6 := mm_ext.tr X5 x6 (mm_nl rfl) (mm_nl rfl)
  refine mm_putF C K 18 8 (fun w h => mm_wc (inX3 w h)) rfl rfl (by decide) tyX3 tyX3_ok nmX3 (mm_wc tw475) rfl rfl rfl (tyX3_ok 8 (by decide)) (fun _ => rfl) (fun _ => rfl) (mm_nl rfl) dX3_init_53 ?_
  refine mm_aload_n C dX3_init_56 rfl 0 rfl ?_
  refine mm_sipush (v := 200) C dX3_init_57 (by decide) ?_
  refine mm_newa (N := 200) C (mm_wc tw53) (by decide) (by decide) (by decide) (mm_nl rfl) (mm_nl rfl) dX3_init_60 rfl rfl rfl (mm_nl rfl) (fun ad7 x7 C => ?_)
  have X7 := mm_ext.tr X6 x7 (mm_nl rfl) (mm_nl rfl)
  refine mm_putF C K 18 9 (fun w h => mm_wc (inX3 w h)) rfl rfl (by decide) tyX3 tyX3_ok nmX3 (mm_wc tw476) rfl rfl rfl (tyX3_ok 9 (by decide)) (fun _ => rfl) (fun _ => rfl) (mm_nl rfl) dX3_init_62 ?_
  refine mm_aload_n C dX3_init_65 rfl 0 rfl ?_
  refine mm_sipush (v := 400) C dX3_init_66 (by decide) ?_
  refine mm_newa (N := 400) C (mm_wc tw53) (by decide) (by decide) (by decide) (mm_nl rfl) (mm_nl rfl) dX3_init_69 rfl rfl rfl (mm_nl rfl) (fun ad8 x8 C => ?_)
  have X8 := mm_ext.tr X7 x8 (mm_nl rfl) (mm_nl rfl)
  refine mm_putF C K 18 10 (fun w h => mm_wc (inX3 w h)) rfl rfl (by decide) tyX3 tyX3_ok nmX3 (mm_wc tw477) rfl rfl rfl (tyX3_ok 10 (by decide)) (fun _ => rfl) (fun _ => rfl) (mm_nl rfl) dX3_init_71 ?_
  refine mm_aload_n C dX3_init_74 rfl 0 rfl ?_
  refine mm_sipush (v := 1280) C dX3_init_75 (by decide) ?_
  refine mm_newa (N := 1280) C (mm_wc tw53) (by decide) (by decide) (by decide) (mm_nl rfl) (mm_nl rfl) dX3_init_78 rfl rfl rfl (mm_nl rfl) (fun ad9 x9 C => ?_)
  have X9 := mm_ext.tr X8 x9 (mm_nl rfl) (mm_nl rfl)
  refine mm_putF C K 18 11 (fun w h => mm_wc (inX3 w h)) rfl rfl (by decide) tyX3 tyX3_ok nmX3 (mm_wc tw478) rfl rfl rfl (tyX3_ok 11 (by decide)) (fun _ => rfl) (fun _ => rfl) (mm_nl rfl) dX3_init_80 ?_
  refine mm_aload_n C dX3_init_83 rfl 0 rfl ?_
  refine mm_bipush (v := 60) C dX3_init_84 (by decide) ?_
  refine mm_newa (N := 60) C (mm_wc tw53) (by decide) (by decide) (by decide) (mm_nl rfl) (mm_nl rfl) dX3_init_86 rfl rfl rfl (mm_nl rfl) (fun ad10 x10 C => ?_)
  have X10 := mm_ext.tr X9 x10 (mm_nl rfl) (mm_nl rfl)
  refine mm_putF C K 18 13 (fun w h => mm_wc (inX3 w h)) rfl rfl (by decide) tyX3 tyX3_ok nmX3 (mm_wc tw480) rfl rfl rfl (tyX3_ok 13 (by decide)) (fun _ => rfl) (fun _ => rfl) (mm_nl rfl) dX3_init_88 ?_
  refine mm_aload_n C dX3_init_91 rfl 0 rfl ?_
  refine mm_bipush (v := 60) C dX3_init_92 (by decide) ?_
  refine mm_newa (N := 60) C (mm_wc tw53) (by decide) (by decide) (by decide) (mm_nl rfl) (mm_nl rfl) dX3_init_94 rfl rfl rfl (mm_nl rfl) (fun ad11 x11 C => ?_)
  have X11 := mm_ext.tr X10 x11 (mm_nl rfl) (mm_nl rfl)
  refine mm_putF C K 18 14 (fun w h => mm_wc (inX3 w h)) rfl rfl (by decide) tyX3 tyX3_ok nmX3 (mm_wc tw481) rfl rfl rfl (tyX3_ok 14 (by decide)) (fun _ => rfl) (fun _ => rfl) (mm_nl rfl) dX3_init_96 ?_
  refine mm_aload_n C dX3_init_99 rfl 0 rfl ?_
  refine mm_bipush (v := 60) C dX3_init_100 (by decide) ?_
  refine mm_newa (N := 60) C (mm_wc tw53) (by decide) (by decide) (by decide) (mm_nl rfl) (mm_nl rfl) dX3_init_102 rfl rfl rfl (mm_nl rfl) (fun ad12 x12 C => ?_)
  have X12 := mm_ext.tr X11 x12 (mm_nl rfl) (mm_nl rfl)
  refine mm_putF C K 18 15 (fun w h => mm_wc (inX3 w h)) rfl rfl (by decide) tyX3 tyX3_ok nmX3 (mm_wc tw482) rfl rfl rfl (tyX3_ok 15 (by decide)) (fun _ => rfl) (fun _ => rfl) (mm_nl rfl) dX3_init_104 ?_
  refine mm_aload_n C dX3_init_107 rfl 0 rfl ?_
  refine mm_sipush (v := 960) C dX3_init_108 (by decide) ?_
  refine mm_newa (N := 960) C (mm_wc tw53) (by decide) (by decide) (by decide) (mm_nl rfl) (mm_nl rfl) dX3_init_111 rfl rfl rfl (mm_nl rfl) (fun ad13 x13 C => ?_)
  have X13 := mm_ext.tr X12 x13 (mm_nl rfl) (mm_nl rfl)
  refine mm_putF C K 18 16 (fun w h => mm_wc (inX3 w h)) rfl rfl (by decide) tyX3 tyX3_ok nmX3 (mm_wc tw483) rfl rfl rfl (tyX3_ok 16 (by decide)) (fun _ => rfl) (fun _ => rfl) (mm_nl rfl) dX3_init_113 ?_
  refine mm_aload_n C dX3_init_116 rfl 0 rfl ?_
  refine mm_bipush (v := 20) C dX3_init_117 (by decide) ?_
  refine mm_newa (N := 20) C (mm_wc tw53) (by decide) (by decide) (by decide) (mm_nl rfl) (mm_nl rfl) dX3_init_119 rfl rfl rfl (mm_nl rfl) (fun ad14 x14 C => ?_)
  have X14 := mm_ext.tr X13 x14 (mm_nl rfl) (mm_nl rfl)
  refine mm_putF C K 18 17 (fun w h => mm_wc (inX3 w h)) rfl rfl (by decide) tyX3 tyX3_ok nmX3 (mm_wc tw484) rfl rfl rfl (tyX3_ok 17 (by decide)) (fun _ => rfl) (fun _ => rfl) (mm_nl rfl) dX3_init_121 ?_
  show mm_M g ad14 14 3920 (mi_H (fun _ => 0) (fun _ => 0)) 124 [(0, .ref 18)] []
  have loopU : ∀ (k j : Nat), j + k = 1280 → mm_M g ad14 14 3920 (mi_H (f_fl 400) (fun q => if q < j then -1 else 0)) 148 [(1, .int (nI j)), (0, .ref 18)] [] := by
    intro k
    induction k with
    | zero =>
      intro j hj
      have ej : j = 1280 := by omega
      subst ej
      refine mm_iload_n C dX3_init_148 rfl 0 rfl ?_
      refine mm_sipush (v := 1280) C dX3_init_149 (by decide) ?_
      refine mm_icmp_ge (tgt := 168) C dX3_init_152 (by decide) (fun _ => ?_) (fun z => False.elim (cn_t hj z))
      exact mm_vretA C K dX3_init_168 ⟨rfl, rfl⟩ (mm_nl rfl) X14 (mm_nl rfl) (mm_nl rfl)
    | succ k ih =>
      intro j hj
      refine mm_iload_n C dX3_init_148 rfl 0 rfl ?_
      refine mm_sipush (v := 1280) C dX3_init_149 (by decide) ?_
      refine mm_icmp_ge (tgt := 168) C dX3_init_152 (by decide) (fun z => False.elim (cn_f hj (by decide) z)) (fun _ => ?_)
      refine mm_aload_n C dX3_init_155 rfl 1 rfl ?_
      refine mm_get C 18 11 (fun w h => mm_wc (inX3 w h)) rfl rfl (by decide) (mm_wc tw478) rfl rfl dX3_init_156 ?_
      refine mm_iload_n C dX3_init_159 rfl 0 rfl ?_
      refine mm_iconst (v := (-1)) C dX3_init_160 (by decide) ?_
      refine mm_iast C 27 rfl (vp_in_nI (by omega) (by decide)) dX3_init_161 ?_
      rw [nI_clamp (by omega), fl_s]
      refine mm_iinc (q := 0) (v := nI (j + 1)) (lv' := [(1, .int (nI (j + 1))), (0, .ref 18)]) C dX3_init_162 rfl (nI_1 j) hnL (by decide) rfl ?_
      refine mm_goto (tgt := 148) C dX3_init_165 (by decide) ?_
      exact ih (j + 1) (by omega)
  have loopR : ∀ (k j : Nat), j + k = 400 → mm_M g ad14 14 3920 (mi_H (fun q => if q < j then -1 else 0) (fun _ => 0)) 126 [(1, .int (nI j)), (0, .ref 18)] [] := by
    intro k
    induction k with
    | zero =>
      intro j hj
      have ej : j = 400 := by omega
      subst ej
      refine mm_iload_n C dX3_init_126 rfl 0 rfl ?_
      refine mm_sipush (v := 400) C dX3_init_127 (by decide) ?_
      refine mm_icmp_ge (tgt := 146) C dX3_init_130 (by decide) (fun _ => ?_) (fun z => False.elim (cn_t hj z))
      refine mm_iconst (v := 0) C dX3_init_146 (by decide) ?_
      refine mm_istore_n (lv' := [(1, .int 0), (0, .ref 18)]) C dX3_init_147 rfl hnL (by decide) rfl ?_
      have h0 := loopU 1280 0 rfl
      rw [fl_0] at h0
      exact h0
    | succ k ih =>
      intro j hj
      refine mm_iload_n C dX3_init_126 rfl 0 rfl ?_
      refine mm_sipush (v := 400) C dX3_init_127 (by decide) ?_
      refine mm_icmp_ge (tgt := 146) C dX3_init_130 (by decide) (fun z => False.elim (cn_f hj (by decide) z)) (fun _ => ?_)
      refine mm_aload_n C dX3_init_133 rfl 1 rfl ?_
      refine mm_get C 18 10 (fun w h => mm_wc (inX3 w h)) rfl rfl (by decide) (mm_wc tw477) rfl rfl dX3_init_134 ?_
      refine mm_iload_n C dX3_init_137 rfl 0 rfl ?_
      refine mm_iconst (v := (-1)) C dX3_init_138 (by decide) ?_
      refine mm_iast C 26 rfl (vp_in_nI (by omega) (by decide)) dX3_init_139 ?_
      rw [nI_clamp (by omega), fl_s]
      refine mm_iinc (q := 0) (v := nI (j + 1)) (lv' := [(1, .int (nI (j + 1))), (0, .ref 18)]) C dX3_init_140 rfl (nI_1 j) hnL (by decide) rfl ?_
      refine mm_goto (tgt := 126) C dX3_init_143 (by decide) ?_
      exact ih (j + 1) (by omega)
  refine mm_iconst (v := 0) C dX3_init_124 (by decide) ?_
  refine mm_istore_n (lv' := [(1, .int 0), (0, .ref 18)]) C dX3_init_125 rfl hnL (by decide) rfl ?_
  have h0 := loopR 400 0 rfl
  rw [fl_0] at h0
  exact h0
