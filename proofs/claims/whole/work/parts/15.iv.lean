/-! walks that end: parents and rows by area never come around -/
theorem b_m1 (kn : Int32) : b_below (-1) kn = false := by
  unfold b_below
  rw [show decide ((-1 : Int32) < 0) = true from by decide]; rfl
theorem b_nlt {x kn : Int32} (h : b_below x kn = true) : ¬ x < 0 := fun z => by
  simp [b_below, z] at h
theorem b_ge {x kn : Int32} (h : b_below x kn = true) : 0 ≤ x := Int32.not_lt.mp (b_nlt h)
theorem b_nm1 {x kn : Int32} (h : b_below x kn = true) : ¬ x = -1 := fun z => by rw [z, b_m1] at h; cases h
theorem b_nI {x : Int32} {k : Nat} (hk : k ≤ 1000) (h : b_below x (nI k) = true) : ∃ m, m < k ∧ x = nI m := by
  have h1 := b_below_iff.mp h
  rw [nI_toInt (by omega)] at h1
  refine ⟨x.toInt.toNat, by omega, Int32.toInt_inj.mp ?_⟩
  rw [nI_toInt (by omega)]; omega
theorem b_nIm {m k : Nat} (hk : k ≤ 1000) (h : m < k) : b_below (nI m) (nI k) = true := by
  rw [b_below_iff, nI_toInt (by omega), nI_toInt (by omega)]; omega
theorem b_up {x : Int32} {k : Nat} (hk : k ≤ 999) (h : b_below x (nI k) = true) : b_below x (nI (k + 1)) = true := by
  obtain ⟨m, hm, rfl⟩ := b_nI (by omega) h
  exact b_nIm (by omega) (by omega)
def w_st (kn : Int32) (nx : Int32 → Int32) : Nat → Int32 → Prop
  | 0, x => x = -1
  | n + 1, x => b_below x kn = true ∧ w_st kn nx n (nx x)
theorem w_det {kn : Int32} {nx : Int32 → Int32} : ∀ (n m : Nat) (x : Int32), w_st kn nx n x → w_st kn nx m x → n = m := by
  intro n
  induction n with
  | zero =>
    intro m x h1 h2
    cases m with
    | zero => rfl
    | succ m => exact absurd h1 (b_nm1 h2.1)
  | succ n ih =>
    intro m x h1 h2
    cases m with
    | zero => exact absurd h2 (b_nm1 h1.1)
    | succ m => rw [ih m _ h1.2 h2.2]
def w_pa (nx : Int32 → Int32) : Nat → Int32 → List Nat
  | 0, _ => []
  | n + 1, x => x.toNatClampNeg :: w_pa nx n (nx x)
theorem w_len (nx : Int32 → Int32) : ∀ (n : Nat) (x : Int32), (w_pa nx n x).length = n := by
  intro n
  induction n with
  | zero => intro x; rfl
  | succ n ih => intro x; simp [w_pa, ih]
theorem w_mem {k : Nat} (hk : k ≤ 1000) {nx : Int32 → Int32} : ∀ (n : Nat) (x : Int32), w_st (nI k) nx n x → ∀ a ∈ w_pa nx n x, ∃ m, m ≤ n ∧ a < k ∧ w_st (nI k) nx m (nI a) := by
  intro n
  induction n with
  | zero => intro x _ a ha; cases ha
  | succ n ih =>
    intro x h a ha
    rcases List.mem_cons.mp ha with e | ha
    · obtain ⟨m, hm, rfl⟩ := b_nI hk h.1
      rw [nI_clamp (by omega)] at e
      subst e
      exact ⟨n + 1, Nat.le_refl _, hm, h⟩
    · obtain ⟨m, h1, h2, h3⟩ := ih _ h.2 a ha
      exact ⟨m, by omega, h2, h3⟩
theorem w_nd {k : Nat} (hk : k ≤ 1000) {nx : Int32 → Int32} : ∀ (n : Nat) (x : Int32), w_st (nI k) nx n x → (w_pa nx n x).Nodup := by
  intro n
  induction n with
  | zero => intro x _; exact List.nodup_nil
  | succ n ih =>
    intro x h
    refine List.nodup_cons.mpr ⟨fun hin => ?_, ih _ h.2⟩
    obtain ⟨m, h1, h2, h3⟩ := w_mem hk n _ h.2 _ hin
    obtain ⟨q, hq, rfl⟩ := b_nI hk h.1
    rw [nI_clamp (by omega)] at h3
    have := w_det _ _ _ h3 h
    omega
theorem php : ∀ (k : Nat) (l : List Nat), l.Nodup → (∀ x ∈ l, x < k) → l.length ≤ k := by
  intro k
  induction k with
  | zero =>
    intro l _ h
    cases l with
    | nil => exact Nat.le_refl _
    | cons a t => exact absurd (h a List.mem_cons_self) (Nat.not_lt_zero _)
  | succ k ih =>
    intro l hn h
    have h1 := ih (l.erase k) (hn.erase k) (fun x hx => by
      have h2 := (List.Nodup.mem_erase_iff hn).mp hx
      have := h x h2.2
      have := h2.1
      omega)
    have h2 : l.length ≤ (l.erase k).length + 1 := by
      rw [List.length_erase]
      split <;> omega
    omega
theorem w_le {k : Nat} (hk : k ≤ 1000) {nx : Int32 → Int32} {n : Nat} {x : Int32} (h : w_st (nI k) nx n x) : n ≤ k := by
  have := php k _ (w_nd hk n x h) (fun a ha => by obtain ⟨_, _, h2, _⟩ := w_mem hk n x h a ha; exact h2)
  rw [w_len] at this
  exact this
/-- a walk meets a -/
def w_av (kn : Int32) (nx : Int32 → Int32) (a : Int32) : Nat → Int32 → Bool
  | 0, _ => false
  | n + 1, x => if b_below x kn = true then (if x = a then true else w_av kn nx a n (nx x)) else false
theorem w_keep {kn : Int32} {nx nx' : Int32 → Int32} {a : Int32} (h : ∀ y, b_below y kn = true → ¬ y = a → nx' y = nx y) : ∀ (n d : Nat) (x : Int32), w_st kn nx n x → w_av kn nx a (n + d) x = false → w_st kn nx' n x := by
  intro n
  induction n with
  | zero => intro d x h1 _; exact h1
  | succ n ih =>
    intro d x h1 h2
    rw [show n + 1 + d = (n + d) + 1 from by omega] at h2
    simp only [w_av, h1.1, if_true] at h2
    by_cases hx : x = a
    · rw [if_pos hx] at h2; cases h2
    · rw [if_neg hx] at h2
      exact ⟨h1.1, by rw [h x h1.1 hx]; exact ih d _ h1.2 h2⟩
theorem w_re {kn : Int32} {nx nx' : Int32 → Int32} {a b : Int32} {nb : Nat} (h : ∀ y, b_below y kn = true → ¬ y = a → nx' y = nx y) (hb : nx' a = b) (hw : w_st kn nx' nb b) : ∀ (n : Nat) (x : Int32), w_st kn nx n x → ∃ m, w_st kn nx' m x := by
  intro n
  induction n with
  | zero => intro x h1; exact ⟨0, h1⟩
  | succ n ih =>
    intro x h1
    by_cases hx : x = a
    · subst hx; exact ⟨nb + 1, h1.1, by rw [hb]; exact hw⟩
    · obtain ⟨m, hm⟩ := ih _ h1.2
      exact ⟨m + 1, h1.1, by rw [h x h1.1 hx]; exact hm⟩
theorem w_grow {kn kn' : Int32} {nx nx' : Int32 → Int32} (h : ∀ y, b_below y kn = true → nx' y = nx y) (hk : ∀ y, b_below y kn = true → b_below y kn' = true) : ∀ (n : Nat) (x : Int32), w_st kn nx n x → w_st kn' nx' n x := by
  intro n
  induction n with
  | zero => intro x h1; exact h1
  | succ n ih => intro x h1; exact ⟨hk x h1.1, by rw [h x h1.1]; exact ih _ h1.2⟩
def nxP (u : ks_S) : Int32 → Int32 := fun x => k_pa u x.toNatClampNeg
def nxA (u : ks_S) (b : Int32) : Int32 → Int32 := fun x => k_ta u (x * 10 + b).toNatClampNeg
theorem f_sa_av (u : ks_S) (a : Int32) : ∀ (n : Nat) (x : Int32), f_sa (k_kn u) (k_pa u) a n x = w_av (k_kn u) (nxP u) a n x := by
  intro n
  induction n with
  | zero => intro x; rfl
  | succ n ih => intro x; simp only [f_sa, w_av, ih, nxP]
theorem f_ld_av (u : ks_S) (b a : Int32) : ∀ (n : Nat) (x : Int32), f_ld (k_kn u) (k_ta u) b a n x = w_av (k_kn u) (nxA u b) a n x := by
  intro n
  induction n with
  | zero => intro x; rfl
  | succ n ih => intro x; simp only [f_ld, w_av, ih, nxA]
/-! changes: a chain, and a scan -/
def c_mt (ck cw : Nat → Int32) (a w : Int32) : Nat → Bool := fun j => decide (ck j = a) && decide (cw j = w)
def f_lm (mt : Nat → Bool) : Nat → Int32
  | 0 => -1
  | j + 1 => if mt j = true then nI j else f_lm mt j
def f_ct (mt : Nat → Bool) (dy : Nat → Int32) (e : Int32) : Nat → Int32
  | 0 => -1
  | j + 1 => if mt j = true then (if e < dy j then f_ct mt dy e j else if f_ct mt dy e j < 0 then nI j else if dy j < dy (f_ct mt dy e j).toNatClampNeg then f_ct mt dy e j else nI j) else f_ct mt dy e j
theorem f_ct_ok (mt : Nat → Bool) (dy : Nat → Int32) (e : Int32) : ∀ (c : Nat), f_ct mt dy e c = -1 ∨ ∃ m, m < c ∧ f_ct mt dy e c = nI m ∧ mt m = true := by
  intro c
  induction c with
  | zero => exact Or.inl rfl
  | succ c ih =>
    have ih' : f_ct mt dy e c = -1 ∨ ∃ m, m < c + 1 ∧ f_ct mt dy e c = nI m ∧ mt m = true := ih.imp id (fun ⟨m, h1, h2⟩ => ⟨m, by omega, h2⟩)
    unfold f_ct
    split
    · next hm =>
      split
      · exact ih'
      · split
        · exact Or.inr ⟨c, by omega, rfl, hm⟩
        · split
          · exact ih'
          · exact Or.inr ⟨c, by omega, rfl, hm⟩
    · exact ih'
def f_cb (dy : Nat → Int32) (best f : Int32) : Int32 := if best = -1 then f else if f = -1 then best else if dy best.toNatClampNeg < dy f.toNatClampNeg then f else best
theorem nI_m1' (m : Nat) (h : m < 1000000) : ¬ nI m = -1 := nI_m1 m h
theorem nI_n0 (m : Nat) (h : m < 1000000) : ¬ nI m < 0 := by
  rw [Int32.lt_iff_toInt_lt, nI_toInt (by omega), Int32.toInt_zero]; omega
theorem f_lt_ct {dy tb : Nat → Int32} {e : Int32} {mt : Nat → Bool} (htb : ∀ j, j < 1000 → mt j = true → tb j = f_lm mt j) : ∀ (c n : Nat) (best : Int32), c < 1000 → c ≤ n → f_lt dy tb e n (f_lm mt c) best = f_cb dy best (f_ct mt dy e c) := by
  intro c
  induction c with
  | zero =>
    intro n best _ _
    have : f_lt dy tb e n (-1) best = best := by
      cases n with
      | zero => rfl
      | succ n => simp [f_lt]
    simp only [f_lm, f_ct, f_cb, this]
    split
    · next h => exact h
    · simp
  | succ c ih =>
    intro n best hc hn
    by_cases hm : mt c = true
    · obtain ⟨q, rfl⟩ : ∃ q, n = q + 1 := ⟨n - 1, by omega⟩
      have e1 : f_lm mt (c + 1) = nI c := by simp [f_lm, hm]
      have e2 : (nI c).toNatClampNeg = c := nI_clamp (by omega)
      rw [e1]
      unfold f_lt
      rw [if_neg (nI_m1 c (by omega)), e2, htb c (by omega) hm, ih q _ (by omega) (by omega)]
      have hf := f_ct_ok mt dy e c
      have e3 : f_ct mt dy e (c + 1) = if e < dy c then f_ct mt dy e c else if f_ct mt dy e c < 0 then nI c else if dy c < dy (f_ct mt dy e c).toNatClampNeg then f_ct mt dy e c else nI c := by
        conv => lhs; unfold f_ct
        rw [if_pos hm]
      rw [e3]
      unfold f_bs
      rw [e2]
      generalize hF : f_ct mt dy e c = f at hf ⊢
      have hneg : f < 0 ↔ f = -1 := by
        rcases hf with h | ⟨m, h1, h2, _⟩
        · rw [h]; decide
        · rw [h2]; exact ⟨fun z => absurd z (nI_n0 m (by omega)), fun z => absurd z (nI_m1 m (by omega))⟩
      have hcm := nI_m1 c (by omega)
      by_cases g1 : e < dy c
      · simp only [if_pos g1]
      · simp only [if_neg g1]
        by_cases g2 : f = -1
        · simp only [f_cb, if_pos g2, if_pos (hneg.mpr g2), e2]
          by_cases g3 : best = -1
          · simp [g3, hcm]
          · simp only [if_neg g3, if_neg hcm, g2, if_true]
            by_cases g4 : dy c ≤ dy best.toNatClampNeg
            · rw [if_pos g4, if_neg (Int32.not_lt.mpr g4), if_neg g3]
            · rw [if_neg g4, if_pos (Int32.not_le.mp g4), if_neg hcm]
        · have g2' : ¬ f < 0 := fun z => g2 (hneg.mp z)
          simp only [if_neg g2']
          by_cases g3 : best = -1
          · simp only [if_pos g3, f_cb, if_neg hcm, if_neg g2, e2]
          · simp only [if_neg g3]
            by_cases g4 : dy c ≤ dy best.toNatClampNeg
            · simp only [if_pos g4]
              by_cases g5 : dy c < dy f.toNatClampNeg
              · simp only [if_pos g5]
              · simp only [if_neg g5, f_cb, if_neg g3, if_neg hcm, if_neg g2, e2]
                rw [if_neg (Int32.not_lt.mpr (Int32.le_trans (Int32.not_lt.mp g5) g4)), if_neg (Int32.not_lt.mpr g4)]
            · simp only [if_neg g4]
              by_cases g5 : dy c < dy f.toNatClampNeg
              · simp only [if_pos g5, f_cb, if_neg g3, if_neg hcm, if_neg g2, e2]
                rw [if_pos (Int32.lt_trans (Int32.not_le.mp g4) g5)]
              · simp only [if_neg g5, f_cb, if_neg g3, if_neg hcm, if_neg g2, e2]
                rw [if_pos (Int32.not_le.mp g4)]
    · have e1 : f_lm mt (c + 1) = f_lm mt c := by simp [f_lm, hm]
      have e3 : f_ct mt dy e (c + 1) = f_ct mt dy e c := by
        conv => lhs; unfold f_ct
        rw [if_neg hm]
      rw [e1, e3]
      exact ih n best (by omega) (by omega)
theorem f_lm_ok (mt : Nat → Bool) : ∀ c, f_ok c (f_lm mt c) := by
  intro c
  induction c with
  | zero => exact Or.inl rfl
  | succ c ih =>
    unfold f_lm
    split
    · exact Or.inr ⟨c, by omega, rfl⟩
    · exact ih.imp id (fun ⟨m, h1, h2⟩ => ⟨m, by omega, h2⟩)
theorem f_lm_cong {mt mt' : Nat → Bool} : ∀ c, (∀ j, j < c → mt j = mt' j) → f_lm mt c = f_lm mt' c := by
  intro c
  induction c with
  | zero => intro _; rfl
  | succ c ih => intro h; unfold f_lm; rw [h c (by omega), ih (fun j hj => h j (by omega))]
/-! rows: how many -/
def n_cn (f : Nat → Int32) : Nat → Nat
  | 0 => 0
  | j + 1 => n_cn f j + (if f j < 0 then 0 else 1)
theorem n_cn_le (f : Nat → Int32) : ∀ n, n_cn f n ≤ n := by
  intro n
  induction n with
  | zero => exact Nat.le_refl _
  | succ n ih => unfold n_cn; split <;> omega
theorem n_cn_upd (f : Nat → Int32) (s : Nat) (e : Int32) : ∀ n, n_cn (upd f s e) n + (if s < n then (if f s < 0 then 0 else 1) else 0) = n_cn f n + (if s < n then (if e < 0 then 0 else 1) else 0) := by
  intro n
  induction n with
  | zero => simp [n_cn]
  | succ n ih =>
    show n_cn (upd f s e) n + (if upd f s e n < 0 then 0 else 1) + _ = n_cn f n + (if f n < 0 then 0 else 1) + _
    by_cases h : n = s
    · subst h
      have e1 : upd f n e n = e := pk_us
      rw [e1]
      simp only [Nat.lt_irrefl, if_false, Nat.lt_succ_self, if_true] at ih ⊢
      omega
    · have e1 : upd f s e n = f n := if_neg h
      rw [e1]
      by_cases h2 : s < n
      · simp only [if_pos h2, if_pos (show s < n + 1 from by omega)] at ih ⊢
        omega
      · simp only [if_neg h2, if_neg (show ¬ s < n + 1 from by omega)] at ih ⊢
        omega
theorem n_cn_m1 {f : Nat → Int32} : ∀ n, (∀ j, j < n → f j = -1) → n_cn f n = 0 := by
  intro n
  induction n with
  | zero => intro _; rfl
  | succ n ih => intro h; unfold n_cn; rw [ih (fun j hj => h j (by omega)), h n (by omega)]; decide
/-- all that holds of the class's state and of the two rows that the reference has beside it -/
def ms_I (u : ks_S) (ck cw : Nat → Int32) (k c i : Nat) : Prop :=
  ks_I u k c i
  ∧ (∀ x, b_below x (k_kn u) = true → ∃ n, w_st (k_kn u) (nxP u) n x)
  ∧ (∀ b x, b_below b 10 = true → b_below x (k_kn u) = true → ∃ n, w_st (k_kn u) (nxA u b) n x)
  ∧ (∀ j, k * 10 ≤ j → j < 400 → k_ta u j = -1)
  ∧ (∀ j, j < 400 → k_ta u j = -1 ∨ b_below (k_ta u j) (k_kn u) = true)
  ∧ (∀ j, j < 1280 → k_tu u j = -1 ∨ b_below (k_tu u j) (k_kn u) = true)
  ∧ (k_ts u = nI (n_cn (k_ta u) 400) ∧ k_us u = nI (n_cn (k_tu u) 1280) ∧ n_cn (k_tu u) 1280 ≤ 100)
  ∧ (∀ j, j < i → b_below (k_ko u j) (k_kn u) = true)
  ∧ (∀ j, j < k → k_cl u j = -1 ∨ 0 ≤ k_cl u j)
  ∧ (∀ j, j < c → k_hw u j = 0 ∨ ((k_hw u j = 1 ∨ k_hw u j = 2) ∧ 0 ≤ k_vl u j))
  ∧ (∀ j, j < c → b_below (cw j) 4 = true → ¬ k_hw u j = 2)
  ∧ (∀ j, j < c → k_tb u j = f_lm (c_mt ck cw (ck j) (cw j)) j)
  ∧ (∀ a b, b_below a 40 = true → b_below b 4 = true → k_nw u (a * 20 + b).toNatClampNeg = f_lm (c_mt ck cw a b) c)
  ∧ (∀ a b, b_below a 40 = true → b_below b 16 = true → k_nw u (a * 20 + (4 + b)).toNatClampNeg = f_lm (c_mt ck cw a (10 + b)) c)
theorem f_la_ct {u : ks_S} {ck cw : Nat → Int32} {c : Nat} (hc : c ≤ 200) (htb : ∀ j, j < c → k_tb u j = f_lm (c_mt ck cw (ck j) (cw j)) j) {a th w : Int32} (hn : k_nw u (a * 20 + th).toNatClampNeg = f_lm (c_mt ck cw a w) c) (e : Int32) : f_la u c a th e = f_ct (c_mt ck cw a w) (k_dy u) e c := by
  unfold f_la
  rw [hn]
  have key : ∀ (tb' : Nat → Int32), (∀ j, j < c → tb' j = k_tb u j) → ∀ (n : Nat) (m : Int32) (best : Int32), f_ok c m → f_lt (k_dy u) (k_tb u) e n m best = f_lt (k_dy u) tb' e n m best ∨ ∃ j, j < c ∧ ¬ f_ok c (k_tb u j) := by
    intro tb' h n
    induction n with
    | zero => intro m best _; exact Or.inl rfl
    | succ n ih =>
      intro m best hm
      rcases hm with rfl | ⟨q, hq, rfl⟩
      · exact Or.inl (by simp [f_lt])
      · unfold f_lt
        rw [if_neg (nI_m1 q (by omega)), if_neg (nI_m1 q (by omega)), nI_clamp (by omega), h q hq]
        by_cases hz : f_ok c (k_tb u q)
        · exact ih _ _ hz
        · exact Or.inr ⟨q, hq, hz⟩
  have hall : ∀ j, j < c → f_ok c (k_tb u j) := fun j hj => by
    rw [htb j hj]
    exact (f_lm_ok _ j).imp id (fun ⟨m, h1, h2⟩ => ⟨m, by omega, h2⟩)
  have key2 := key (fun j => if j < c then k_tb u j else f_lm (c_mt ck cw a w) j) (fun j hj => if_pos hj) c (f_lm (c_mt ck cw a w) c) (-1) (f_lm_ok _ c)
  rcases key2 with h | ⟨j, hj, hz⟩
  · rw [h, f_lt_ct (mt := c_mt ck cw a w) (fun j _ hm => by
      show (if j < c then k_tb u j else f_lm (c_mt ck cw a w) j) = _
      by_cases hj : j < c
      · rw [if_pos hj, htb j hj]
        simp only [c_mt, Bool.and_eq_true, decide_eq_true_eq] at hm
        rw [hm.1, hm.2]
      · rw [if_neg hj]) c c (-1) (by omega) (Nat.le_refl _)]
    simp [f_cb]
  · exact absurd (hall j hj) hz
