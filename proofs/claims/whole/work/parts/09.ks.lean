theorem mm_nl {a b : Nat} (h : Nat.ble a b = true) : a ≤ b := Nat.le_of_ble_eq_true h
/-- a truth as an int -/
def i_b (b : Bool) : Int32 := match b with
  | true => 1
  | false => 0
theorem i_b0 {b : Bool} : i_b b = 0 ↔ b = false := by cases b <;> decide
theorem i_b1 {b : Bool} : i_b b = 1 ↔ b = true := by cases b <;> decide
theorem nar_b (b : Bool) : narrow .boolean (.int (i_b b)) = .int (i_b b) := by cases b <;> decide
theorem mm_ifb_eq {g : mm_g} {cc : ByteArray} {own : String} {Ts : List Cond} {rm : Room} {ad : mm_A} {cells slots : Nat} {hp : List mm_c} {pc : Nat} {lv : List (Nat × Value)} {st : List Value} (C : mm_C g cc own Ts rm ad) {b : Bool} {off : Int} {tgt : Nat} (hd : decode cc pc = .ok (.ifCond .eq off, 3)) (ht : (pc : Int) + off = (tgt : Int)) (kt : b = false → mm_M g ad cells slots hp tgt lv st) (kf : b = true → mm_M g ad cells slots hp (pc + 3) lv st) : mm_M g ad cells slots hp pc lv (.int (i_b b) :: st) :=
  mm_if_eq C hd ht (fun h => kt (i_b0.mp h)) (fun h => kf (by cases b with | true => rfl | false => exact absurd rfl h))
theorem mm_ifb_ne {g : mm_g} {cc : ByteArray} {own : String} {Ts : List Cond} {rm : Room} {ad : mm_A} {cells slots : Nat} {hp : List mm_c} {pc : Nat} {lv : List (Nat × Value)} {st : List Value} (C : mm_C g cc own Ts rm ad) {b : Bool} {off : Int} {tgt : Nat} (hd : decode cc pc = .ok (.ifCond .ne off, 3)) (ht : (pc : Int) + off = (tgt : Int)) (kt : b = true → mm_M g ad cells slots hp tgt lv st) (kf : b = false → mm_M g ad cells slots hp (pc + 3) lv st) : mm_M g ad cells slots hp pc lv (.int (i_b b) :: st) :=
  mm_if_ne C hd ht (fun h => kt (by cases b with | true => rfl | false => exact absurd rfl h)) (fun h => kf (i_b0.mp h))
theorem mm_lvp (ad : mm_A) (lv : List (Nat × Value)) (ks : List Nat) : lv_pick (mm_lv ad lv) ks = mm_lv ad (lv_pick lv ks) := by
  simp only [lv_pick, mm_lv, List.map_filterMap, List.getElem?_map]
theorem mm_lvs {g : mm_g} {ad : mm_A} {cells slots : Nat} {hp : List mm_c} {pc : Nat} {lv lv' : List (Nat × Value)} {st : List Value} (ks : List Nat) (hl : lv_pick lv ks = lv') (k : mm_M g ad cells slots hp pc lv' st) : mm_M g ad cells slots hp pc lv st := by
  obtain ⟨p, l, e, R, s, m, args, below, meth, c, nL, D, A, Q⟩ := g
  intro H locs ls hH h
  exact k H locs ls hH (lv_sub h ks (by rw [mm_lvp, hl]))
def mm_Ck (l : Launch) (D : va_G) (y : MethodName) (ws : List Cond) (rm : Room) (B : Bool) (hp : List mm_c) (E : String) : Prop := mm_Met l D y ws rm [.int (i_b B)] hp (fun v hp' => B = true ∧ v = none ∧ hp' = hp) (fun E' => B = false ∧ E' = E) 1 6
theorem mm_ck {g : mm_g} {cc : ByteArray} {own : String} {x : Cond} {rm : Room} {ad : mm_A} {cells slots : Nat} {hp : List mm_c} {pc : Nat} {lv : List (Nat × Value)} {st stk : List Value} (C : mm_C g cc own (x :: mm_all) rm ad) {idx maxL n : Nat} {y : MethodName} {bytes : ByteArray} {ret : Option FieldType} {rmY : Room} (S : mm_SS own idx y bytes maxL ret n) {B : Bool} {E : String} (hM : mm_Ck (mm_l g) (mm_D0 g) y (mm_cw y bytes maxL ret) rmY B hp E) (h0 : rmY.cells = 1 ∧ rmY.slots = 6) (hR : rmY.frames + 1 ≤ rm.frames ∧ 8 + (maxL + 11) + rmY.locals ≤ rm.locals) (hn : 1 = n) (hstk : stk = .int (i_b B) :: st) (hsum : (st.map fun v => v.category).sum ≤ 8) (hf : cells + 1 ≤ rm.cells ∧ slots + 6 ≤ rm.slots) (hd : decode cc pc = .ok (.invokestatic idx, 3)) (kx : B = false → mm_X g ad (cells + 1) (slots + 6) hp pc lv st E) (kk : B = true → mm_M g ad (cells + 1) (slots + 6) hp (pc + 3) lv st) : mm_M g ad cells slots hp pc lv stk :=
  mm_callS C (mm_gS S.1 S.2.1 S.2.2.1 S.2.2.2.1) (by subst hn; exact S.2.2.2.2) hM n rfl h0.1 h0.2 hR hn hstk hsum hd hf (fun E' h9 => by rw [h9.2]; exact kx h9.1) (fun v hp' hΦ _ => by obtain ⟨h1, rfl, rfl⟩ := hΦ; exact kk h1)
def mm_rt : Room := { frames := 6, cells := 1, slots := 6, locals := 96 }
def mm_rp : Room := { frames := 8, cells := 4, slots := 24, locals := 200 }
/-- the class's state -/
abbrev ks_S : Type := Int32 × (Nat → Int32) × (Nat → Int32) × (Nat → Int32) × (Nat → Int32) × (Nat → Int32) × (Nat → Int32) × (Nat → Int32) × Int32 × (Nat → Int32) × Int32 × (Nat → Int32) × Int32 × Int32 × (Nat → Int32) × (Nat → Int32) × (Nat → Int32) × (Nat → Int32) × (Nat → Int32)
abbrev k_kn (u : ks_S) : Int32 := u.1
abbrev k_pa (u : ks_S) : Nat → Int32 := u.2.1
abbrev k_cl (u : ks_S) : Nat → Int32 := u.2.2.1
abbrev k_nw (u : ks_S) : Nat → Int32 := u.2.2.2.1
abbrev k_tb (u : ks_S) : Nat → Int32 := u.2.2.2.2.1
abbrev k_dy (u : ks_S) : Nat → Int32 := u.2.2.2.2.2.1
abbrev k_hw (u : ks_S) : Nat → Int32 := u.2.2.2.2.2.2.1
abbrev k_vl (u : ks_S) : Nat → Int32 := u.2.2.2.2.2.2.2.1
abbrev k_cs (u : ks_S) : Int32 := u.2.2.2.2.2.2.2.2.1
abbrev k_ta (u : ks_S) : Nat → Int32 := u.2.2.2.2.2.2.2.2.2.1
abbrev k_ts (u : ks_S) : Int32 := u.2.2.2.2.2.2.2.2.2.2.1
abbrev k_tu (u : ks_S) : Nat → Int32 := u.2.2.2.2.2.2.2.2.2.2.2.1
abbrev k_us (u : ks_S) : Int32 := u.2.2.2.2.2.2.2.2.2.2.2.2.1
abbrev k_inn (u : ks_S) : Int32 := u.2.2.2.2.2.2.2.2.2.2.2.2.2.1
abbrev k_ko (u : ks_S) : Nat → Int32 := u.2.2.2.2.2.2.2.2.2.2.2.2.2.2.1
abbrev k_ao (u : ks_S) : Nat → Int32 := u.2.2.2.2.2.2.2.2.2.2.2.2.2.2.2.1
abbrev k_be (u : ks_S) : Nat → Int32 := u.2.2.2.2.2.2.2.2.2.2.2.2.2.2.2.2.1
abbrev k_se (u : ks_S) : Nat → Int32 := u.2.2.2.2.2.2.2.2.2.2.2.2.2.2.2.2.2.1
abbrev k_sk (u : ks_S) : Nat → Int32 := u.2.2.2.2.2.2.2.2.2.2.2.2.2.2.2.2.2.2
def ks_H (u : ks_S) (F : List mm_c) : List mm_c := .inr (.inl (2, [.int (k_kn u), .ref 1, .ref 2, .ref 3, .ref 9, .ref 11, .int (k_inn u), .ref 13, .ref 14, .ref 15, .ref 16, .ref 17])) :: .inl (40, (k_pa u)) :: .inl (40, (k_cl u)) :: .inr (.inl (0, [.ref 4, .ref 5, .ref 6, .ref 7, .ref 8, .int (k_cs u)])) :: .inl (800, (k_nw u)) :: .inl (200, (k_tb u)) :: .inl (200, (k_dy u)) :: .inl (200, (k_hw u)) :: .inl (200, (k_vl u)) :: .inr (.inl (1, [.int 10, .ref 10, .int (k_ts u)])) :: .inl (400, (k_ta u)) :: .inr (.inl (1, [.int 32, .ref 12, .int (k_us u)])) :: .inl (1280, (k_tu u)) :: .inl (60, (k_ko u)) :: .inl (60, (k_ao u)) :: .inl (60, (k_be u)) :: .inl (960, (k_se u)) :: .inl (20, (k_sk u)) :: F
/-- the class's own words -/
def b_below (a b : Int32) : Bool := !decide (a < 0) && !decide (b ≤ a)
def b_day (x : Int32) : Bool := !decide (x < 0) && !decide (9999 < x)
def b_need (x : Int32) : Bool := !decide (x < 10) && !decide (26 ≤ x)
def b_kindN (kn x : Int32) : Bool := decide (x = -1) || b_below x kn
def b_room (cs : Int32) : Bool := !decide (200 ≤ cs)
