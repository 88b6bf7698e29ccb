theorem sa_m1 (kn : Int32) (pa : Nat → Int32) (a : Int32) (n : Nat) : f_sa kn pa a n (-1) = false := by cases n <;> simp [f_sa, b_m1]
theorem ld_m1 (kn : Int32) (ta : Nat → Int32) (b a : Int32) (n : Nat) : f_ld kn ta b a n (-1) = false := by cases n <;> simp [f_ld, b_m1]
theorem dp_m1 (kn : Int32) (pa : Nat → Int32) (n : Nat) (y : Int32) : f_dp kn pa n (-1) y = y := by cases n <;> simp [f_dp, b_m1]
theorem cl_m1 (kn : Int32) (pa cl : Nat → Int32) (d : Int32) (n : Nat) : f_cl kn pa cl d n (-1) = false := by cases n <;> simp [f_cl, b_m1]
theorem up_m1 (kn : Int32) (pa tu : Nat → Int32) (f : Int32) (n : Nat) : f_up kn pa tu f n (-1) = -1 := by cases n <;> simp [f_up, b_m1]
theorem in_m1 (u : ks_S) (c : Nat) (b e d : Int32) (n : Nat) (y : Int32) : f_in u c b e d n (-1) y = f_mx y d := by cases n <;> simp [f_in, b_m1]
theorem w_nx {kn : Int32} {nx : Int32 → Int32} {n : Nat} {x : Int32} (h : w_st kn nx n x) (hx : b_below x kn = true) : ∃ m, n = m + 1 ∧ w_st kn nx m (nx x) := by
  cases n with
  | zero => exact absurd h (b_nm1 hx)
  | succ m => exact ⟨m, rfl, h.2⟩
theorem w_40 {u : ks_S} {k c i : Nat} (hI : ks_I u k c i) {nx : Int32 → Int32} {n : Nat} {x : Int32} (h : w_st (k_kn u) nx n x) : ∃ d, 40 = n + d := by
  rw [hI.1] at h
  have h1 := w_le (by have := hI.2.1; omega) h
  exact ⟨40 - n, by have := hI.2.1; omega⟩
theorem k_x {u : ks_S} {k c i : Nat} (hI : ks_I u k c i) {x : Int32} (h : b_below x (k_kn u) = true) : ∃ m, m < k ∧ x = nI m ∧ x.toNatClampNeg = m := by
  rw [hI.1] at h
  obtain ⟨m, h1, h2⟩ := b_nI (by have := hI.2.1; omega) h
  exact ⟨m, h1, h2, by rw [h2, nI_clamp (by have := hI.2.1; omega)]⟩
theorem i_x {u : ks_S} {k c i : Nat} (hI : ks_I u k c i) {x : Int32} (h : b_below x (k_inn u) = true) : ∃ m, m < i ∧ x = nI m ∧ x.toNatClampNeg = m := by
  rw [hI.2.2.2.2.1] at h
  obtain ⟨m, h1, h2⟩ := b_nI (by have := hI.2.2.2.2.2.1; omega) h
  exact ⟨m, h1, h2, by rw [h2, nI_clamp (by have := hI.2.2.2.2.2.1; omega)]⟩
theorem b_40 {u : ks_S} {k c i : Nat} (hI : ks_I u k c i) {x : Int32} (h : b_below x (k_kn u) = true) : b_below x 40 = true := by
  obtain ⟨m, h1, h2, _⟩ := k_x hI h
  rw [h2]
  exact b_nIm (k := 40) (by omega) (by have := hI.2.1; omega)
theorem m1_lt : (-1 : Int32) < 0 := by decide
theorem lt0_of {x : Int32} (h : x = -1) : x < 0 := by rw [h]; exact m1_lt
theorem ok_lt {c : Nat} {x : Int32} (h : f_ok c x) (hc : c ≤ 1000) (h0 : x < 0) : x = -1 := by
  rcases h with h | ⟨m, hm, rfl⟩
  · exact h
  · exact absurd h0 (nI_n0 m (by omega))
theorem vd_lt {kn x : Int32} (h : x = -1 ∨ b_below x kn = true) (h0 : x < 0) : x = -1 := h.elim id (fun z => absurd h0 (b_nlt z))
theorem vd_ge {kn x : Int32} (h : x = -1 ∨ b_below x kn = true) (h0 : ¬ x < 0) : b_below x kn = true := h.elim (fun z => absurd (lt0_of z) h0) id
theorem cl_1 {kn : Int32} {pa cl : Nat → Int32} {d x : Int32} {m : Nat} (hx : b_below x kn = true) (h1 : ¬ cl x.toNatClampNeg < 0) (h2 : ¬ d < cl x.toNatClampNeg) : f_cl kn pa cl d (m + 1) x = true := by
  have h3 : ¬ cl x.toNatClampNeg = -1 := fun z => h1 (lt0_of z)
  simp [f_cl, hx, h2, h3]
theorem cl_2 {kn : Int32} {pa cl : Nat → Int32} {d x : Int32} {m : Nat} (hx : b_below x kn = true) (hc : cl x.toNatClampNeg = -1 ∨ 0 ≤ cl x.toNatClampNeg) (h : cl x.toNatClampNeg < 0 ∨ d < cl x.toNatClampNeg) : f_cl kn pa cl d (m + 1) x = f_cl kn pa cl d m (pa x.toNatClampNeg) := by
  by_cases h3 : cl x.toNatClampNeg = -1
  · simp [f_cl, hx, h3]
  · have h1 : ¬ cl x.toNatClampNeg < 0 := Int32.not_lt.mpr (hc.resolve_left h3)
    simp [f_cl, hx, h3, h.resolve_left h1]
theorem cl_x {u : ks_S} {k c i : Nat} (hI : ks_I u k c i) (hcl : ∀ j, j < k → k_cl u j = -1 ∨ 0 ≤ k_cl u j) {x : Int32} (h : b_below x (k_kn u) = true) : k_cl u x.toNatClampNeg = -1 ∨ 0 ≤ k_cl u x.toNatClampNeg := by
  obtain ⟨m, h1, _, h3⟩ := k_x hI h
  rw [h3]; exact hcl m h1
/-- the change that counts, and what it says -/
theorem la_x {u : ks_S} {ck cw : Nat → Int32} {k c i : Nat} (J : ms_I u ck cw k c i) {x th w e : Int32} (hn : k_nw u (x * 20 + th).toNatClampNeg = f_lm (c_mt ck cw x w) c) : f_la u c x th e = -1 ∨ ∃ m, m < c ∧ (f_la u c x th e).toNatClampNeg = m ∧ ¬ f_la u c x th e = -1 ∧ cw m = w ∧ (k_hw u m = 0 ∨ ((k_hw u m = 1 ∨ k_hw u m = 2) ∧ 0 ≤ k_vl u m)) := by
  have hc := J.1.2.2.2.1
  rw [f_la_ct hc J.2.2.2.2.2.2.2.2.2.2.2.1 hn]
  rcases f_ct_ok (c_mt ck cw x w) (k_dy u) e c with h | ⟨m, h1, h2, h3⟩
  · exact Or.inl h
  · right
    simp only [c_mt, Bool.and_eq_true, decide_eq_true_eq] at h3
    refine ⟨m, h1, by rw [h2, nI_clamp (by omega)], by rw [h2]; exact nI_m1 m (by omega), h3.2, J.2.2.2.2.2.2.2.2.2.1 m h1⟩
theorem in_sk {u : ks_S} {c : Nat} {x b e d y : Int32} {m : Nat} (hx : b_below x (k_kn u) = true) (h : f_la u c x b e = -1 ∨ (¬ f_la u c x b e = -1 ∧ k_hw u (f_la u c x b e).toNatClampNeg = 0)) : f_in u c b e d (m + 1) x y = f_in u c b e d m (k_pa u x.toNatClampNeg) y := by
  rcases h with h | ⟨h1, h2⟩
  · simp [f_in, hx, h]
  · simp [f_in, hx, h1, h2]
theorem in_1 {u : ks_S} {c : Nat} {x b e d y : Int32} {m : Nat} (hx : b_below x (k_kn u) = true) (h1 : ¬ f_la u c x b e = -1) (h2 : k_hw u (f_la u c x b e).toNatClampNeg = 1) : f_in u c b e d (m + 1) x y = f_mx y (k_vl u (f_la u c x b e).toNatClampNeg) := by
  simp [f_in, hx, h1, h2]
theorem in_2 {u : ks_S} {c : Nat} {x b e d y : Int32} {m : Nat} (hx : b_below x (k_kn u) = true) (h1 : ¬ f_la u c x b e = -1) (h2 : k_hw u (f_la u c x b e).toNatClampNeg = 2) : f_in u c b e d (m + 1) x y = f_in u c b e d m (k_pa u x.toNatClampNeg) (f_mx y (k_vl u (f_la u c x b e).toNatClampNeg)) := by
  simp [f_in, hx, h1, h2]
theorem mx_0 {x : Int32} (h : 0 ≤ x) : f_mx 0 x = x := by
  unfold f_mx
  split
  · rfl
  · next h1 => exact Int32.le_antisymm h (Int32.not_lt.mp h1)
theorem mx_ge {x y : Int32} (h : 0 ≤ x) : 0 ≤ f_mx x y := by
  unfold f_mx
  split
  · next h1 => exact Int32.le_trans h (Int32.le_of_lt h1)
  · exact h
theorem mx_x0 {x : Int32} (h : 0 ≤ x) : f_mx x 0 = x := by
  unfold f_mx
  rw [if_neg (Int32.not_lt.mpr h)]
theorem in_ge {u : ks_S} {c : Nat} {b e d : Int32} : ∀ (n : Nat) (x y : Int32), 0 ≤ y → 0 ≤ f_in u c b e d n x y := by
  intro n
  induction n with
  | zero => intro x y h; exact mx_ge h
  | succ n ih =>
    intro x y h
    unfold f_in
    split
    · split
      · exact ih _ _ h
      · split
        · exact mx_ge h
        · split
          · exact ih _ _ (mx_ge h)
          · exact ih _ _ h
    · exact mx_ge h
theorem nd_ge (u : ks_S) (c : Nat) (a b e : Int32) : 0 ≤ f_nd u c a b e := in_ge _ _ _ (by decide)
theorem df_ge (b : Int32) (hb : b_below b 4 = true) : f_df b = (if b = 0 then 9 else 0) := by
  obtain ⟨m, hm, rfl⟩ := b_nI (k := 4) (by omega) hb
  match m, hm with
  | 0, _ => decide
  | 1, _ => decide
  | 2, _ => decide
  | 3, _ => decide
theorem df_nn (b : Int32) (hb : b_below b 4 = true) : 0 ≤ f_df b := by
  rw [df_ge b hb]; split <;> decide
theorem gw_mo (b : Int32) (hb : b_below b 4 = true) : f_gw b = (if b = 0 then 9 else if b = 2 then 4 else 99) := by
  obtain ⟨m, hm, rfl⟩ := b_nI (k := 4) (by omega) hb
  match m, hm with
  | 0, _ => decide
  | 1, _ => decide
  | 2, _ => decide
  | 3, _ => decide
theorem ka_st {kn : Int32} {ta : Nat → Int32} {b x : Int32} {m : Nat} (h : b_below (ta (x * 10 + b).toNatClampNeg) kn = true) : f_ka kn ta b (m + 1) x = f_ka kn ta b m (ta (x * 10 + b).toNatClampNeg) := by simp [f_ka, h]
theorem ka_en {kn : Int32} {ta : Nat → Int32} {b x : Int32} {m : Nat} (h : ta (x * 10 + b).toNatClampNeg = -1) : f_ka kn ta b m x = x := by
  cases m with
  | zero => rfl
  | succ m => simp [f_ka, h, b_m1]
theorem upd_id (f : Nat → Int32) (s : Nat) {x : Int32} (h : f s = x) : upd f s x = f := by
  funext j
  unfold upd
  split
  · next e => rw [e, h]
  · rfl
theorem add_z (x : Int32) : x + 0 = x := Int32.add_zero x
/-! the model's words -/
def b_btw (a b e : Int32) : Bool := !decide (a < b) && !decide (e < a)
theorem bw_of {x n m lo : Int32} (h : m.toInt + 1 = n.toInt) : b_btw x lo m = (!decide (x < lo) && !decide (n ≤ x)) := by
  unfold b_btw
  congr 2
  rw [decide_eq_decide, Int32.lt_iff_toInt_lt, Int32.le_iff_toInt_le]
  omega
theorem bw_below {x n m : Int32} (h : m.toInt + 1 = n.toInt) : b_btw x 0 m = b_below x n := bw_of h
theorem bw_need {x : Int32} : b_btw x 10 25 = b_need x := bw_of (by decide)
theorem k_pred {u : ks_S} {k c i : Nat} (hI : ks_I u k c i) : (k_kn u - 1).toInt + 1 = (k_kn u).toInt := by
  rw [hI.1]
  have hk := hI.2.1
  cases k with
  | zero => decide
  | succ k => rw [show (1 : Int32) = nI 1 from rfl, pk_sub (by omega), nI_toInt (by omega), nI_toInt (by omega)]; omega
theorem i_pred {u : ks_S} {k c i : Nat} (hI : ks_I u k c i) : (k_inn u - 1).toInt + 1 = (k_inn u).toInt := by
  rw [hI.2.2.2.2.1]
  have hk := hI.2.2.2.2.2.1
  cases i with
  | zero => decide
  | succ k => rw [show (1 : Int32) = nI 1 from rfl, pk_sub (by omega), nI_toInt (by omega), nI_toInt (by omega)]; omega
theorem ite_btw {α : Type} {x lo hi : Int32} {X Y : α} : (if x < lo then X else if hi < x then X else Y) = if b_btw x lo hi = true then Y else X := by
  unfold b_btw
  by_cases h1 : x < lo <;> by_cases h2 : hi < x <;> simp [h1, h2]
theorem cl_btw {b : Int32} : b_btw b (-1) 9999 = (decide (b = -1) || b_day b) := by
  unfold b_btw b_day
  by_cases h : b = -1
  · subst h; decide
  · have h1 : (b < -1) ↔ (b < 0) := by
      have h3 := lv_neT h (a := -1) (by decide)
      rw [Int32.lt_iff_toInt_lt, Int32.lt_iff_toInt_lt, show (-1 : Int32).toInt = -1 from by decide, Int32.toInt_zero]
      omega
    simp [h, h1]
theorem e_40 {u : ks_S} {k c i : Nat} (hI : ks_I u k c i) : ((40 : Int32) ≤ k_kn u) ↔ k_kn u = 40 := by
  rw [hI.1]
  have hk := hI.2.1
  refine ⟨fun h => ?_, fun h => by rw [h]; exact Int32.le_refl _⟩
  rcases Nat.lt_or_ge k 40 with h1 | h1
  · exact absurd h (nI_ge (b := 40) h1 (by omega))
  · rw [show k = 40 from by omega]; rfl
theorem e_60 {u : ks_S} {k c i : Nat} (hI : ks_I u k c i) : ((60 : Int32) ≤ k_inn u) ↔ k_inn u = 60 := by
  rw [hI.2.2.2.2.1]
  have hk := hI.2.2.2.2.2.1
  refine ⟨fun h => ?_, fun h => by rw [h]; exact Int32.le_refl _⟩
  rcases Nat.lt_or_ge i 60 with h1 | h1
  · exact absurd h (nI_ge (b := 60) h1 (by omega))
  · rw [show i = 60 from by omega]; rfl
theorem e_200 {u : ks_S} {k c i : Nat} (hI : ks_I u k c i) : b_room (k_cs u) = !decide (k_cs u = 200) := by
  unfold b_room
  congr 1
  rw [decide_eq_decide, hI.2.2.1]
  have hk := hI.2.2.2.1
  refine ⟨fun h => ?_, fun h => by rw [h]; exact Int32.le_refl _⟩
  rcases Nat.lt_or_ge c 200 with h1 | h1
  · exact absurd h (nI_ge (b := 200) h1 (by omega))
  · rw [show c = 200 from by omega]; rfl
theorem e_100 {u : ks_S} (h1 : k_us u = nI (n_cn (k_tu u) 1280)) (h2 : n_cn (k_tu u) 1280 ≤ 100) : ((100 : Int32) ≤ k_us u) ↔ k_us u = 100 := by
  rw [h1]
  refine ⟨fun h => ?_, fun h => by rw [h]; exact Int32.le_refl _⟩
  rcases Nat.lt_or_ge (n_cn (k_tu u) 1280) 100 with h3 | h3
  · exact absurd h (nI_ge (b := 100) h3 (by omega))
  · rw [show n_cn (k_tu u) 1280 = 100 from by omega]; rfl
/-- the model's cells behind the class's -/
def ms_H (u : ks_S) (t : Int32) (ck cw : Nat → Int32) (F : List mm_c) : List mm_c := .inr (.inl (3, [.int t, .int (k_kn u), .ref 19, .ref 20, .int (k_cs u), .ref 21, .ref 22, .ref 23, .ref 24, .ref 25, .ref 26, .ref 27, .int (k_inn u), .ref 28, .ref 29, .ref 30, .ref 31, .ref 32])) :: .inl (40, k_pa u) :: .inl (40, k_cl u) :: .inl (200, ck) :: .inl (200, cw) :: .inl (200, k_dy u) :: .inl (200, k_vl u) :: .inl (200, k_hw u) :: .inl (400, k_ta u) :: .inl (1280, k_tu u) :: .inl (60, k_ko u) :: .inl (60, k_ao u) :: .inl (60, k_be u) :: .inl (960, k_se u) :: .inl (20, k_sk u) :: F
def f_th (b1 b2 b3 b4 : Bool) : Int32 := if b1 = true then 1 else if b2 = true then 2 else if b3 = true then 3 else if b4 = true then 4 else 0
def m_an : ks_O → Int32
  | .inl _ => 0
  | .inr q => q.1.getD 0
def m_us (u : ks_S) : ks_O → ks_S
  | .inl _ => u
  | .inr q => q.2
def m_ar (f : Nat → Int32) (n : Nat) (x : Int32) : ks_O → Nat → Int32
  | .inl _ => f
  | .inr _ => upd f n x
def m_cd (l : List String) : ks_O → Int32
  | .inl E => nI (l.findIdx (fun q => q == E) + 1)
  | .inr _ => 0
theorem mm_imulc {g : mm_g} {cc : ByteArray} {own : String} {Ts : List Cond} {rm : Room} {ad : mm_A} {cells slots : Nat} {hp : List mm_c} {pc : Nat} {lv : List (Nat × Value)} {st : List Value} (C : mm_C g cc own Ts rm ad) {x y : Int32} (hd : decode cc pc = .ok (.imul, 1)) (k : mm_M g ad cells slots hp (pc + 1) lv (.int (y * x) :: st)) : mm_M g ad cells slots hp pc lv (.int y :: .int x :: st) := mm_imul C hd (by rw [Int32.mul_comm]; exact k)
theorem bit_1 (z : BitVec 32) (j : Nat) (hj : j < 16) : (z.sshiftRight j &&& 1#32 = 1#32) ↔ z.getLsbD j = true := by
  rw [BitVec.and_one_eq_setWidth_ofBool_getLsbD, BitVec.getLsbD_sshiftRight]
  have h1 : j + 0 < 32 := by omega
  rw [if_pos h1]
  simp only [Nat.add_zero]
  cases z.getLsbD j <;> decide
theorem bit_j (z : Int32) (j : Nat) (hj : j < 16) : (z >>> (nI j &&& 31) &&& 1 = 1) ↔ z.toBitVec.getLsbD j = true := by
  rw [← Int32.toBitVec_inj, Int32.toBitVec_and, Int32.toBitVec_shiftRight]
  have h : ((nI j &&& 31).toBitVec.smod 32).toNat = j := by
    have : ∀ q : Fin 16, ((nI q.val &&& 31).toBitVec.smod 32).toNat = q.val := by decide
    exact this ⟨j, hj⟩
  show (z.toBitVec.sshiftRight ((nI j &&& 31).toBitVec.smod 32).toNat &&& 1#32 = 1#32) ↔ _
  rw [h]
  exact bit_1 _ j hj
theorem bit_no (al : Int32) (j : Nat) (hj : j < 16) : ((65535 &&& (al ^^^ (-1))) >>> (nI j &&& 31) &&& 1 = 1) ↔ ¬ (al >>> (nI j &&& 31) &&& 1 = 1) := by
  rw [bit_j _ j hj, bit_j _ j hj, Int32.toBitVec_and, Int32.toBitVec_xor, BitVec.getLsbD_and, BitVec.getLsbD_xor]
  have h1 : (65535 : Int32).toBitVec.getLsbD j = true := by
    have : ∀ q : Fin 16, (65535 : Int32).toBitVec.getLsbD q.val = true := by decide
    exact this ⟨j, hj⟩
  have h2 : (-1 : Int32).toBitVec.getLsbD j = true := by
    have : ∀ q : Fin 16, (-1 : Int32).toBitVec.getLsbD q.val = true := by decide
    exact this ⟨j, hj⟩
  rw [h1, h2]
  cases al.toBitVec.getLsbD j <;> decide
