theorem b_below_iff {a b : Int32} : b_below a b = true ↔ 0 ≤ a.toInt ∧ a.toInt < b.toInt := by
  simp only [b_below, Bool.and_eq_true, Bool.not_eq_true', decide_eq_false_iff_not, Int32.lt_iff_toInt_lt, Int32.le_iff_toInt_le, Int32.toInt_zero]
  omega
theorem ix_b {x n : Int32} {N : Nat} (hn : n.toInt ≤ (N : Int)) (h : b_below x n = true) : vp_in x N := by
  rw [vp_in_iff]
  have h1 := b_below_iff.mp h
  omega
theorem cn_t {j N : Nat} (hj : j + 0 = N) : ¬ nI N ≤ nI j → False := fun h => h (by
  have e : j = N := by omega
  rw [e]; exact Int32.le_refl _)
theorem cn_f {j n N : Nat} (hj : j + (n + 1) = N) (hN : N < 1000000 := by decide) : nI N ≤ nI j → False := fun h => nI_ge (by omega) (by omega) h
def f_mx (x y : Int32) : Int32 := if x < y then y else x
def f_sa (kn : Int32) (pa : Nat → Int32) (kind : Int32) : Nat → Int32 → Bool
  | 0, _ => false
  | n + 1, x => if b_below x kn = true then (if x = kind then true else f_sa kn pa kind n (pa x.toNatClampNeg)) else false
def f_dp (kn : Int32) (pa : Nat → Int32) : Nat → Int32 → Int32 → Int32
  | 0, _, a => a
  | n + 1, x, a => if b_below x kn = true then f_dp kn pa n (pa x.toNatClampNeg) (a + 1) else a
def f_cl (kn : Int32) (pa cl : Nat → Int32) (day : Int32) : Nat → Int32 → Bool
  | 0, _ => false
  | n + 1, x => if b_below x kn = true then (if cl x.toNatClampNeg = -1 then f_cl kn pa cl day n (pa x.toNatClampNeg) else if day < cl x.toNatClampNeg then f_cl kn pa cl day n (pa x.toNatClampNeg) else true) else false
def f_bs (dy : Nat → Int32) (day x best : Int32) : Int32 := if day < dy x.toNatClampNeg then best else if best = -1 then x else if dy x.toNatClampNeg ≤ dy best.toNatClampNeg then best else x
def f_lt (dy tb : Nat → Int32) (day : Int32) : Nat → Int32 → Int32 → Int32
  | 0, _, best => best
  | n + 1, x, best => if x = -1 then best else f_lt dy tb day n (tb x.toNatClampNeg) (f_bs dy day x best)
/-- the change that counts: places of changes, or -1 -/
def f_la (u : ks_S) (c : Nat) (kind thing day : Int32) : Int32 := f_lt (k_dy u) (k_tb u) day c (k_nw u (kind * 20 + thing).toNatClampNeg) (-1)
def f_in (u : ks_S) (c : Nat) (thing day dflt : Int32) : Nat → Int32 → Int32 → Int32
  | 0, _, least => f_mx least dflt
  | n + 1, x, least => if b_below x (k_kn u) = true then (if f_la u c x thing day = -1 then f_in u c thing day dflt n (k_pa u x.toNatClampNeg) least else if k_hw u (f_la u c x thing day).toNatClampNeg = 1 then f_mx least (k_vl u (f_la u c x thing day).toNatClampNeg) else if k_hw u (f_la u c x thing day).toNatClampNeg = 2 then f_in u c thing day dflt n (k_pa u x.toNatClampNeg) (f_mx least (k_vl u (f_la u c x thing day).toNatClampNeg)) else f_in u c thing day dflt n (k_pa u x.toNatClampNeg) least) else f_mx least dflt
def f_ka (kn : Int32) (ta : Nat → Int32) (area : Int32) : Nat → Int32 → Int32
  | 0, x => x
  | n + 1, x => if b_below (ta (x * 10 + area).toNatClampNeg) kn = true then f_ka kn ta area n (ta (x * 10 + area).toNatClampNeg) else x
def f_ld (kn : Int32) (ta : Nat → Int32) (area kind : Int32) : Nat → Int32 → Bool
  | 0, _ => false
  | n + 1, x => if b_below x kn = true then (if x = kind then true else f_ld kn ta area kind n (ta (x * 10 + area).toNatClampNeg)) else false
def f_up (kn : Int32) (pa tu : Nat → Int32) (f : Int32) : Nat → Int32 → Int32
  | 0, _ => -1
  | n + 1, x => if b_below x kn = true then (if tu (x * 32 + f).toNatClampNeg = -1 then f_up kn pa tu f n (pa x.toNatClampNeg) else tu (x * 32 + f).toNatClampNeg) else -1
def f_sk (sk : Nat → Int32) : Nat → Int32
  | 0 => 0
  | n + 1 => f_sk sk n ||| sk n
def f_no (s : Int32) (nd : Nat → Int32) : Nat → Nat → Bool
  | 0, _ => false
  | n + 1, j => if s >>> (nI j &&& 31) &&& 1 = 1 then (if nd j ≤ 0 then f_no s nd n (j + 1) else true) else f_no s nd n (j + 1)
/-- places of changes: -1, or one that is told -/
def f_ok (c : Nat) (x : Int32) : Prop := x = -1 ∨ ∃ m : Nat, m < c ∧ x = nI m
/-- what the class keeps of its numbers -/
def ks_I (u : ks_S) (k c i : Nat) : Prop := k_kn u = nI k ∧ k ≤ 40 ∧ k_cs u = nI c ∧ c ≤ 200 ∧ k_inn u = nI i ∧ i ≤ 60 ∧ (∀ j, f_ok c (k_nw u j)) ∧ (∀ j, j < c → f_ok c (k_tb u j))
theorem ks_I.k40 {u : ks_S} {k c i : Nat} (h : ks_I u k c i) : (k_kn u).toInt ≤ ((40 : Nat) : Int) := by
  rw [h.1, nI_toInt (by have := h.2.1; omega)]; have := h.2.1; omega
theorem f_ok_in {c N : Nat} {x : Int32} (h : f_ok c x) (hx : ¬ x = -1) (hc : c ≤ N) (hN : N < 1000000) : vp_in x N := by
  rcases h with h | ⟨m, hm, rfl⟩
  · exact absurd h hx
  · exact vp_in_nI (by omega) (by omega)
theorem f_ok_tb {u : ks_S} {k c i : Nat} (h : ks_I u k c i) {x : Int32} (hx : f_ok c x) (hn : ¬ x = -1) : f_ok c (k_tb u x.toNatClampNeg) := by
  rcases hx with hx | ⟨m, hm, rfl⟩
  · exact absurd hx hn
  · rw [nI_clamp (by have := h.2.2.2.1; omega)]; exact h.2.2.2.2.2.2.2 m hm
theorem f_lt_ok {u : ks_S} {k c i : Nat} (h : ks_I u k c i) (day : Int32) : ∀ (n : Nat) (x best : Int32), f_ok c x → f_ok c best → f_ok c (f_lt (k_dy u) (k_tb u) day n x best) := by
  intro n
  induction n with
  | zero => intro x best _ hb; exact hb
  | succ n ih =>
    intro x best hx hb
    unfold f_lt
    split
    · exact hb
    · next hn =>
      refine ih _ _ (f_ok_tb h hx hn) ?_
      unfold f_bs
      split
      · exact hb
      · split
        · exact hx
        · split
          · exact hb
          · exact hx
theorem f_la_ok {u : ks_S} {k c i : Nat} (h : ks_I u k c i) (kind thing day : Int32) : f_ok c (f_la u c kind thing day) := f_lt_ok h day _ _ _ (h.2.2.2.2.2.2.1 _) (Or.inl rfl)
theorem ix_m {x y n : Int32} {N M c : Nat} (hn : n.toInt ≤ (N : Int)) (hx : b_below x n = true) (hy : 0 ≤ y.toInt ∧ y.toInt < (c : Int)) (hM : N * c ≤ M) (hc : c < 100) (hNb : N < 100) : vp_in (x * nI c + y) M := by
  have h1 := b_below_iff.mp hx
  obtain ⟨a, ha⟩ : ∃ a : Nat, x.toInt = (a : Int) := ⟨x.toInt.toNat, by omega⟩
  obtain ⟨b, hb⟩ : ∃ b : Nat, y.toInt = (b : Int) := ⟨y.toInt.toNat, by omega⟩
  have ex : x = nI a := Int32.toInt_inj.mp (by rw [ha, nI_toInt (by omega)])
  have ey : y = nI b := Int32.toInt_inj.mp (by rw [hb, nI_toInt (by omega)])
  have hlt : a * c + b < M := by
    have h2 : a < N := by omega
    have h3 : b < c := by omega
    have h4 : (a + 1) * c ≤ N * c := Nat.mul_le_mul_right c h2
    rw [Nat.add_mul, Nat.one_mul] at h4
    omega
  have hM2 : N * c ≤ 100 * 100 := Nat.mul_le_mul (by omega) (by omega)
  rw [ex, ey, pk_mul, nI_add]
  have hlt2 : a * c + b < N * c := by
    have h2 : a < N := by omega
    have h3 : b < c := by omega
    have h4 : (a + 1) * c ≤ N * c := Nat.mul_le_mul_right c h2
    rw [Nat.add_mul, Nat.one_mul] at h4
    omega
  rw [vp_in_iff, nI_toInt (by omega)]
  omega
