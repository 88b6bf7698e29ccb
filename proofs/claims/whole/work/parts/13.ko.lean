abbrev ks_O : Type := String ⊕ (Option Int32 × ks_S)
def ks_o (F : List mm_c) : ks_O → String ⊕ (Option Value × List mm_c)
  | .inl E => .inl E
  | .inr q => .inr (q.1.map Value.int, ks_H q.2 F)
def mm_Po (l : Launch) (D : va_G) (y : MethodName) (ws : List Cond) (rm : Room) (av : List Value) (hp : List mm_c) (o : String ⊕ (Option Value × List mm_c)) : Prop := mm_Met l D y ws rm av hp (fun v hp' => o = .inr (v, hp')) (fun E => o = .inl E) 4 24
def x_ia : String := "java/lang/IllegalArgumentException"
def x_io : String := "java/lang/IndexOutOfBoundsException"
def x_is : String := "java/lang/IllegalStateException"
def x_uo : String := "java/lang/UnsupportedOperationException"
def f_df (b : Int32) : Int32 := ([9, 0, 0, 0] : List Int32).getD b.toNatClampNeg 0
def f_gw (b : Int32) : Int32 := ([9, 99, 4, 99] : List Int32).getD b.toNatClampNeg 0
theorem th4 {b : Int32} (h : 0 ≤ b.toInt ∧ b.toInt < ((16 : Nat) : Int)) : 0 ≤ (4 + b).toInt ∧ (4 + b).toInt < ((20 : Nat) : Int) := by
  obtain ⟨n, hn⟩ : ∃ n : Nat, b.toInt = (n : Int) := ⟨b.toInt.toNat, by omega⟩
  have e : b = nI n := Int32.toInt_inj.mp (by rw [hn, nI_toInt (by omega)])
  have e4 : (4 : Int32) = nI 4 := rfl
  rw [e, e4, nI_add, nI_toInt (by omega)]
  omega
theorem bt {a b : Int32} {N : Nat} (h : b_below a b = true) (hb : b.toInt = (N : Int)) : 0 ≤ a.toInt ∧ a.toInt < (N : Int) := by
  have := b_below_iff.mp h
  omega
theorem bt_in {a : Int32} {N : Nat} (h : 0 ≤ a.toInt ∧ a.toInt < (N : Int)) : vp_in a N := by rw [vp_in_iff]; exact h
def f_wo (u : ks_S) (c : Nat) (a b e : Int32) : Int32 := f_in u c b e (f_df b) 40 a 0
def f_nd (u : ks_S) (c : Nat) (a b e : Int32) : Int32 := f_in u c (4 + b) e 0 40 a 0
def ks_tell (u : ks_S) (a b e h v : Int32) : ks_S := (k_kn u, k_pa u, k_cl u, upd (k_nw u) (a * 20 + b).toNatClampNeg (k_cs u), upd (k_tb u) (k_cs u).toNatClampNeg (k_nw u (a * 20 + b).toNatClampNeg), upd (k_dy u) (k_cs u).toNatClampNeg e, upd (k_hw u) (k_cs u).toNatClampNeg h, upd (k_vl u) (k_cs u).toNatClampNeg v, k_cs u + 1, k_ta u, k_ts u, k_tu u, k_us u, k_inn u, k_ko u, k_ao u, k_be u, k_se u, k_sk u)
def f_sz (o t s : Int32) : Int32 := if t = -1 then (if o = -1 then s else s - 1) else (if o = -1 then s else s - 1) + 1
def ks_setA (u : ks_S) (f : Nat → Int32) (s : Int32) : ks_S := (k_kn u, k_pa u, k_cl u, k_nw u, k_tb u, k_dy u, k_hw u, k_vl u, k_cs u, f, s, k_tu u, k_us u, k_inn u, k_ko u, k_ao u, k_be u, k_se u, k_sk u)
def ks_putA (u : ks_S) (a b e : Int32) : ks_S := ks_setA u (upd (k_ta u) (a * 10 + b).toNatClampNeg e) (f_sz (k_ta u (a * 10 + b).toNatClampNeg) e (k_ts u))
def ks_setU (u : ks_S) (f : Nat → Int32) (s : Int32) : ks_S := (k_kn u, k_pa u, k_cl u, k_nw u, k_tb u, k_dy u, k_hw u, k_vl u, k_cs u, k_ta u, k_ts u, f, s, k_inn u, k_ko u, k_ao u, k_be u, k_se u, k_sk u)
def ks_putU (u : ks_S) (a b e : Int32) : ks_S := ks_setU u (upd (k_tu u) (a * 32 + b).toNatClampNeg e) (f_sz (k_tu u (a * 32 + b).toNatClampNeg) e (k_us u))
def o_kind (u : ks_S) (a : Int32) : ks_O := if b_kindN (k_kn u) a = true then (if 40 ≤ k_kn u then .inl x_uo else .inr (some (k_kn u), (k_kn u + 1, upd (k_pa u) (k_kn u).toNatClampNeg a, upd (k_cl u) (k_kn u).toNatClampNeg (-1), k_nw u, k_tb u, k_dy u, k_hw u, k_vl u, k_cs u, k_ta u, k_ts u, k_tu u, k_us u, k_inn u, k_ko u, k_ao u, k_be u, k_se u, k_sk u))) else .inl x_ia
def o_parent (u : ks_S) (a b : Int32) : ks_O := if (b_below a (k_kn u) && b_kindN (k_kn u) b) = true then (if k_pa u a.toNatClampNeg = b then .inl x_is else if f_sa (k_kn u) (k_pa u) a 40 b = true then .inl x_is else .inr (none, (k_kn u, upd (k_pa u) a.toNatClampNeg b, k_cl u, k_nw u, k_tb u, k_dy u, k_hw u, k_vl u, k_cs u, k_ta u, k_ts u, k_tu u, k_us u, k_inn u, k_ko u, k_ao u, k_be u, k_se u, k_sk u))) else .inl x_ia
def o_says (u : ks_S) (a b e v : Int32) : ks_O := if (b_below a (k_kn u) && b_below b 4) = true then (if b_day e = true then (if v < -1 then .inl x_io else if f_gw b < v then .inl x_io else if b_room (k_cs u) = true then .inr (none, ks_tell u a b e (if v = -1 then 0 else 1) v) else .inl x_uo) else .inl x_io) else .inl x_ia
def o_need (u : ks_S) (a b e h v : Int32) : ks_O := if (b_below a (k_kn u) && b_below b 16) = true then (if b_day e = true then (if h < 0 then .inl x_io else if 2 < h then .inl x_io else if v < 0 then .inl x_io else if 20 < v then .inl x_io else if b_room (k_cs u) = true then .inr (none, ks_tell u a (4 + b) e h v) else .inl x_uo) else .inl x_io) else .inl x_ia
def o_close (u : ks_S) (a b : Int32) : ks_O := if b_below a (k_kn u) = true then (if b = -1 then .inr (none, (k_kn u, k_pa u, upd (k_cl u) a.toNatClampNeg b, k_nw u, k_tb u, k_dy u, k_hw u, k_vl u, k_cs u, k_ta u, k_ts u, k_tu u, k_us u, k_inn u, k_ko u, k_ao u, k_be u, k_se u, k_sk u)) else if b_day b = true then .inr (none, (k_kn u, k_pa u, upd (k_cl u) a.toNatClampNeg b, k_nw u, k_tb u, k_dy u, k_hw u, k_vl u, k_cs u, k_ta u, k_ts u, k_tu u, k_us u, k_inn u, k_ko u, k_ao u, k_be u, k_se u, k_sk u)) else .inl x_io) else .inl x_ia
def o_area (u : ks_S) (a b e : Int32) : ks_O := if (b_below a (k_kn u) && b_kindN (k_kn u) e) = true then (if b_below b 10 = true then (if f_ld (k_kn u) (k_ta u) b a 40 e = true then .inl x_is else .inr (none, ks_putA u a b e)) else .inl x_io) else .inl x_ia
def o_upgrade (u : ks_S) (a b e : Int32) : ks_O := if (b_below a (k_kn u) && b_kindN (k_kn u) e) = true then (if b_below b 32 = true then (if e = a then .inl x_is else if e = -1 then .inr (none, ks_putU u a b e) else if k_tu u (a * 32 + b).toNatClampNeg = -1 then (if 100 ≤ k_us u then .inl x_uo else .inr (none, ks_putU u a b e)) else .inr (none, ks_putU u a b e)) else .inl x_io) else .inl x_ia
def o_has (u : ks_S) (c : Nat) (a b e : Int32) : ks_O := if (b_below a (k_kn u) && (b_below b 6 || b_need b)) = true then (if b_day e = true then .inr (some (if b = 4 then i_b (f_cl (k_kn u) (k_pa u) (k_cl u) e 40 a) else if b = 5 then f_dp (k_kn u) (k_pa u) 40 (k_pa u a.toNatClampNeg) 0 else if 4 ≤ b then f_nd u c a (b - 10) e else f_wo u c a b e), u) else .inl x_io) else .inl x_ia
def o_in (u : ks_S) (a b : Int32) : ks_O := if b_below a (k_kn u) = true then (if b_below b 10 = true then .inr (some (f_ka (k_kn u) (k_ta u) b 40 a), u) else .inl x_io) else .inl x_ia
def o_open (u : ks_S) (a b e : Int32) : ks_O := if b_below a (k_kn u) = true then (if (b_below b 10 && b_day e) = true then (if f_cl (k_kn u) (k_pa u) (k_cl u) e 40 (f_ka (k_kn u) (k_ta u) b 40 a) = true then .inl x_is else if 60 ≤ k_inn u then .inl x_uo else .inr (some (k_inn u), (k_kn u, k_pa u, k_cl u, k_nw u, k_tb u, k_dy u, k_hw u, k_vl u, k_cs u, k_ta u, k_ts u, k_tu u, k_us u, k_inn u + 1, upd (k_ko u) (k_inn u).toNatClampNeg (f_ka (k_kn u) (k_ta u) b 40 a), upd (k_ao u) (k_inn u).toNatClampNeg b, k_be u, k_se u, k_sk u))) else .inl x_io) else .inl x_ia
def o_found (u : ks_S) (a b e : Int32) : ks_O := if b_below a (k_inn u) = true then (if (b_below b 32 && b_day e) = true then (if (f_up (k_kn u) (k_pa u) (k_tu u) b 40 (k_ko u a.toNatClampNeg)) = -1 then .inl x_is else if f_cl (k_kn u) (k_pa u) (k_cl u) e 40 (f_up (k_kn u) (k_pa u) (k_tu u) b 40 (k_ko u a.toNatClampNeg)) = true then .inl x_is else if (f_up (k_kn u) (k_pa u) (k_tu u) b 40 (k_ko u a.toNatClampNeg)) = k_ko u a.toNatClampNeg then .inr (some (f_up (k_kn u) (k_pa u) (k_tu u) b 40 (k_ko u a.toNatClampNeg)), u) else .inr (some (f_up (k_kn u) (k_pa u) (k_tu u) b 40 (k_ko u a.toNatClampNeg)), (k_kn u, k_pa u, k_cl u, k_nw u, k_tb u, k_dy u, k_hw u, k_vl u, k_cs u, k_ta u, k_ts u, k_tu u, k_us u, k_inn u, upd (k_ko u) a.toNatClampNeg (f_up (k_kn u) (k_pa u) (k_tu u) b 40 (k_ko u a.toNatClampNeg)), k_ao u, upd (k_be u) a.toNatClampNeg (k_be u a.toNatClampNeg + 1), k_se u, k_sk u))) else .inl x_io) else .inl x_ia
def o_send (u : ks_S) (a b e : Int32) : ks_O := if (b_below a (k_inn u) && b_below b 16) = true then (if e < 1 then .inl x_io else if 100 < e then .inl x_io else if 1000 < k_se u (a * 16 + b).toNatClampNeg + e then .inl x_uo else .inr (some (k_se u (a * 16 + b).toNatClampNeg + e), (k_kn u, k_pa u, k_cl u, k_nw u, k_tb u, k_dy u, k_hw u, k_vl u, k_cs u, k_ta u, k_ts u, k_tu u, k_us u, k_inn u, k_ko u, k_ao u, k_be u, upd (k_se u) (a * 16 + b).toNatClampNeg (k_se u (a * 16 + b).toNatClampNeg + e), k_sk u))) else .inl x_ia
def o_missing (u : ks_S) (c : Nat) (a b e : Int32) : ks_O := if (b_below a (k_inn u) && b_below b 16) = true then (if b_day e = true then .inr (some (f_mx 0 (f_nd u c (k_ko u a.toNatClampNeg) b e - k_se u (a * 16 + b).toNatClampNeg)), u) else .inl x_io) else .inl x_ia
def o_incident (u : ks_S) (a b : Int32) : ks_O := if (b_below a (k_inn u) && b_below b 3) = true then .inr (some (if b = 0 then k_ko u a.toNatClampNeg else if b = 1 then k_ao u a.toNatClampNeg else k_be u a.toNatClampNeg), u) else .inl x_ia
def o_unit (u : ks_S) (a b : Int32) : ks_O := if b_below a 20 = true then (if b < 0 then .inl x_io else if 65535 < b then .inl x_io else .inr (none, (k_kn u, k_pa u, k_cl u, k_nw u, k_tb u, k_dy u, k_hw u, k_vl u, k_cs u, k_ta u, k_ts u, k_tu u, k_us u, k_inn u, k_ko u, k_ao u, k_be u, k_se u, upd (k_sk u) a.toNatClampNeg b))) else .inl x_ia
def f_uc (u : ks_S) (c : Nat) (s day : Int32) : Nat → Nat → Int32 → Int32
  | 0, _, _ => -1
  | n + 1, j, left => if f_cl (k_kn u) (k_pa u) (k_cl u) day 40 (nI j) = true then f_uc u c s day n (j + 1) left else if f_no s (fun q => f_nd u c (nI j) (nI q) day) 16 0 = true then (if left = 0 then nI j else f_uc u c s day n (j + 1) (left + (-1))) else f_uc u c s day n (j + 1) left
def f_cd (u : ks_S) (c : Nat) (code day : Int32) : Nat → Nat → Int32 → Int32
  | 0, _, a => a
  | n + 1, j, a => f_cd u c code day n (j + 1) (if f_wo u c (k_ko u j) 3 day = code then a + 1 else a)
def o_uncovered (u : ks_S) (k c : Nat) (a b : Int32) : ks_O := if b_day a = true then (if b < 0 then .inl x_io else .inr (some (f_uc u c (65535 &&& (f_sk (k_sk u) 20 ^^^ (-1))) a k 0 b), u)) else .inl x_io
def o_coded (u : ks_S) (c i : Nat) (a b : Int32) : ks_O := if a < 0 then .inl x_io else if 99 < a then .inl x_io else if b_day b = true then .inr (some (f_cd u c a b i 0 0), u) else .inl x_io
def o_count (u : ks_S) (a : Int32) : ks_O := if b_below a 5 = true then .inr (some (if a = 0 then k_kn u else if a = 1 then k_cs u else if a = 2 then k_ts u else if a = 3 then k_us u else k_inn u), u) else .inl x_ia
