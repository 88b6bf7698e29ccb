/-! what every call keeps -/
theorem b_kN {kn x : Int32} (h : b_kindN kn x = true) : x = -1 ∨ b_below x kn = true := by
  simp only [b_kindN, Bool.or_eq_true, decide_eq_true_eq] at h; exact h
theorem b_nat {x : Int32} {n : Int32} {N : Nat} (hn : n = nI N) (hN : N ≤ 1000) (h : b_below x n = true) : ∃ m, m < N ∧ x = nI m := by
  rw [hn] at h; exact b_nI hN h
theorem ix_nat (A C B : Nat) (h : A * C + B < 2 ^ 31) : (nI A * nI C + nI B).toNatClampNeg = A * C + B := by
  rw [pk_mul, nI_add, nI_clamp h]
theorem upd_ne {f : Nat → Int32} {s j : Nat} {x : Int32} (h : ¬ j = s) : upd f s x j = f j := if_neg h
theorem cl_nat {m : Nat} (h : m < 1000000) : (nI m).toNatClampNeg = m := nI_clamp (by omega)
theorem pr_kind {u : ks_S} {ck cw : Nat → Int32} {k c i : Nat} (J : ms_I u ck cw k c i) (a : Int32) : ∃ k' c' i', ms_I (m_us u (o_kind u a)) ck cw k' c' i' := by
  unfold o_kind
  split
  · next ha =>
    split
    · exact ⟨k, c, i, J⟩
    · next h40 =>
      obtain ⟨hI, wP, wA, wA0, hta, htu, hct, hko, hcl, hhv, hw4, htb, hn1, hn2⟩ := J
      have hk : k < 40 := by
        rcases Nat.lt_or_ge k 40 with h | h
        · exact h
        · exact absurd (by rw [hI.1]; exact nI_le (a := 40) h (by have := hI.2.1; omega)) h40
      have ekn : (k_kn u).toNatClampNeg = k := by rw [hI.1]; exact cl_nat (by omega)
      have e1 : k_kn u + 1 = nI (k + 1) := by rw [hI.1, nI_1]
      have up : ∀ y, b_below y (k_kn u) = true → b_below y (k_kn u + 1) = true := fun y hy => by
        rw [e1]; rw [hI.1] at hy; exact b_up (by omega) hy
      refine ⟨k + 1, c, i, ⟨e1, by omega, hI.2.2⟩, fun x hx => ?_, fun b x hb hx => ?_, fun j h1 h2 => wA0 j (by omega) h2, fun j hj => (hta j hj).imp id (up _), fun j hj => (htu j hj).imp id (up _), hct, fun j hj => up _ (hko j hj), fun j hj => ?_, hhv, hw4, htb, hn1, hn2⟩
      · have gr : ∀ n y, w_st (k_kn u) (nxP u) n y → w_st (k_kn u + 1) (fun z => upd (k_pa u) (k_kn u).toNatClampNeg a z.toNatClampNeg) n y := w_grow (fun y hy => by
          obtain ⟨m, hm, rfl, hm2⟩ := k_x hI hy
          show upd _ _ _ _ = k_pa u _
          exact upd_ne (by rw [hm2, ekn]; omega)) up
        obtain ⟨m, hm, rfl⟩ := b_nat e1 (by omega) hx
        by_cases hmk : m < k
        · obtain ⟨n, hn⟩ := wP (nI m) (by rw [hI.1]; exact b_nIm (by omega) hmk)
          exact ⟨n, gr _ _ hn⟩
        · have : m = k := by omega
          subst this
          have hnx : (fun z : Int32 => upd (k_pa u) (k_kn u).toNatClampNeg a z.toNatClampNeg) (nI m) = a := by
            show upd _ _ _ _ = a
            rw [cl_nat (by omega), ekn]; exact pk_us
          rcases b_kN ha with h | h
          · exact ⟨1, by show b_below _ (k_kn u + 1) = true; rw [e1]; exact b_nIm (by omega) (by omega), hnx.trans h⟩
          · obtain ⟨n, hn⟩ := wP a h
            exact ⟨n + 1, by show b_below _ (k_kn u + 1) = true; rw [e1]; exact b_nIm (by omega) (by omega), Eq.mpr (congrArg (w_st (k_kn u + 1) (fun z : Int32 => upd (k_pa u) (k_kn u).toNatClampNeg a z.toNatClampNeg) n) hnx) (gr _ _ hn)⟩
      · have gr : ∀ n y, w_st (k_kn u) (nxA u b) n y → w_st (k_kn u + 1) (nxA u b) n y := w_grow (fun y hy => rfl) up
        obtain ⟨m, hm, rfl⟩ := b_nat e1 (by omega) hx
        by_cases hmk : m < k
        · obtain ⟨n, hn⟩ := wA b (nI m) hb (by rw [hI.1]; exact b_nIm (by omega) hmk)
          exact ⟨n, gr _ _ hn⟩
        · have : m = k := by omega
          subst this
          obtain ⟨B, hB, rfl⟩ := b_nat (N := 10) rfl (by omega) hb
          have hnx : nxA u (nI B) (nI m) = -1 := by
            show k_ta u (nI m * nI 10 + nI B).toNatClampNeg = -1
            rw [ix_nat _ _ _ (by omega)]
            exact wA0 _ (by omega) (by omega)
          exact ⟨1, by show b_below _ (k_kn u + 1) = true; rw [e1]; exact b_nIm (by omega) (by omega), hnx⟩
      · show upd _ _ _ j = -1 ∨ 0 ≤ upd _ _ _ j
        by_cases hjk : j = k
        · rw [hjk, ekn]; exact Or.inl pk_us
        · rw [upd_ne (by rw [ekn]; exact hjk)]; exact hcl j (by omega)
  · exact ⟨k, c, i, J⟩
theorem pr_parent {u : ks_S} {ck cw : Nat → Int32} {k c i : Nat} (J : ms_I u ck cw k c i) (a b : Int32) : ∃ k' c' i', ms_I (m_us u (o_parent u a b)) ck cw k' c' i' := by
  unfold o_parent
  split
  · next ha =>
    split
    · exact ⟨k, c, i, J⟩
    · split
      · exact ⟨k, c, i, J⟩
      · next _ hsa =>
        obtain ⟨hI, wP, rest⟩ := J
        rw [Bool.and_eq_true] at ha
        have hsa' : f_sa (k_kn u) (k_pa u) a 40 b = false := by simpa using hsa
        obtain ⟨A, hA, rfl, hA2⟩ := k_x hI ha.1
        have hag : ∀ y, b_below y (k_kn u) = true → ¬ y = nI A → (fun z : Int32 => upd (k_pa u) (nI A).toNatClampNeg b z.toNatClampNeg) y = nxP u y := fun y hy hne => by
          obtain ⟨m, hm, rfl, hm2⟩ := k_x hI hy
          show upd _ _ _ _ = k_pa u _
          exact upd_ne (by rw [hm2, hA2]; exact fun z => hne (by rw [z]))
        have hb : ∃ nb, w_st (k_kn u) (fun z : Int32 => upd (k_pa u) (nI A).toNatClampNeg b z.toNatClampNeg) nb b := by
          rcases b_kN ha.2 with h | h
          · exact ⟨0, h⟩
          · obtain ⟨n, hn⟩ := wP b h
            obtain ⟨d, hd⟩ := w_40 hI hn
            rw [f_sa_av, hd] at hsa'
            exact ⟨n, w_keep hag n d b hn hsa'⟩
        obtain ⟨nb, hnb⟩ := hb
        exact ⟨k, c, i, hI, fun x hx => by
          obtain ⟨n, hn⟩ := wP x hx
          exact w_re (a := nI A) hag (show upd _ _ _ _ = b from pk_us) hnb n x hn, rest⟩
  · exact ⟨k, c, i, J⟩
theorem pr_tell {u : ks_S} {ck cw : Nat → Int32} {k c i : Nat} (J : ms_I u ck cw k c i) {a th w e h v : Int32} (ha : b_below a (k_kn u) = true) (hth : (b_below th 4 = true ∧ w = th) ∨ ∃ s, b_below s 16 = true ∧ th = 4 + s ∧ w = 10 + s) (hh : h = 0 ∨ ((h = 1 ∨ h = 2) ∧ 0 ≤ v)) (hh4 : b_below w 4 = true → ¬ h = 2) (hc : c < 200) : ms_I (ks_tell u a th e h v) (upd ck (k_cs u).toNatClampNeg a) (upd cw (k_cs u).toNatClampNeg w) k (c + 1) i := by
  obtain ⟨hI, wP, wA, wA0, hta, htu, hct, hko, hcl, hhv, hw4, htb, hn1, hn2⟩ := J
  have ecs : (k_cs u).toNatClampNeg = c := by rw [hI.2.2.1]; exact cl_nat (by omega)
  have mono : ∀ x, f_ok c x → f_ok (c + 1) x := fun x hx => hx.imp id (fun ⟨m, h1, h2⟩ => ⟨m, by omega, h2⟩)
  have hnw : k_nw u (a * 20 + th).toNatClampNeg = f_lm (c_mt ck cw a w) c := by
    rcases hth with ⟨h1, h2⟩ | ⟨s, h1, h2, h3⟩
    · rw [h2]; exact hn1 a th (b_40 hI ha) h1
    · rw [h2, h3]; exact hn2 a s (b_40 hI ha) h1
  have hmt : ∀ x y q, ¬ q = c → c_mt (upd ck c a) (upd cw c w) x y q = c_mt ck cw x y q := fun x y q hq => by
    simp only [c_mt, upd_ne hq]
  obtain ⟨A, hA, rfl, hA2⟩ := k_x hI ha
  have hA40 : A < 40 := by have := hI.2.1; omega
  have hT : ∃ T, T < 20 ∧ th = nI T ∧ ((T < 4 ∧ w = nI T) ∨ (4 ≤ T ∧ w = nI (T + 6))) := by
    rcases hth with ⟨h1, h2⟩ | ⟨s, h1, h2, h3⟩
    · obtain ⟨T, hT, e⟩ := b_nat (N := 4) rfl (by omega) h1
      exact ⟨T, by omega, e, Or.inl ⟨hT, by rw [h2, e]⟩⟩
    · obtain ⟨S, hS, e⟩ := b_nat (N := 16) rfl (by omega) h1
      refine ⟨4 + S, by omega, by rw [h2, e]; exact nI_add 4 S, Or.inr ⟨by omega, ?_⟩⟩
      rw [h3, e, show 4 + S + 6 = 10 + S from by omega]; exact nI_add 10 S
  obtain ⟨T, hT20, rfl, hTw⟩ := hT
  have eix : (nI A * 20 + nI T).toNatClampNeg = A * 20 + T := ix_nat A 20 T (by omega)
  have inj : ∀ a b : Nat, a < 1000 → b < 1000 → nI a = nI b → a = b := fun a b h1 h2 e => by
    have := congrArg Int32.toNatClampNeg e
    rwa [cl_nat (by omega), cl_nat (by omega)] at this
  have hnew : ∀ (A' T' : Nat) (w' : Int32), A' < 40 → T' < 20 → ((T' < 4 ∧ w' = nI T') ∨ (4 ≤ T' ∧ w' = nI (T' + 6))) → k_nw u (A' * 20 + T') = f_lm (c_mt ck cw (nI A') w') c → upd (k_nw u) (A * 20 + T) (k_cs u) (A' * 20 + T') = f_lm (c_mt (upd ck c (nI A)) (upd cw c w) (nI A') w') (c + 1) := by
    intro A' T' w' hA' hT' hw' hold
    have e1 : f_lm (c_mt (upd ck c (nI A)) (upd cw c w) (nI A') w') c = f_lm (c_mt ck cw (nI A') w') c := f_lm_cong c (fun j hj => hmt _ _ j (by omega))
    have e2 : c_mt (upd ck c (nI A)) (upd cw c w) (nI A') w' c = (decide (nI A = nI A') && decide (w = w')) := by
      simp only [c_mt, pk_us]
    unfold f_lm
    rw [e1, e2]
    by_cases hq : A = A' ∧ T = T'
    · obtain ⟨rfl, rfl⟩ := hq
      have hww : w = w' := by
        rcases hTw with ⟨h1, h2⟩ | ⟨h1, h2⟩ <;> rcases hw' with ⟨h3, h4⟩ | ⟨h3, h4⟩
        · rw [h2, h4]
        · omega
        · omega
        · rw [h2, h4]
      rw [hww, pk_us, if_pos (by simp), hI.2.2.1]
    · rw [upd_ne (by omega), hold, if_neg]
      intro hz
      rw [Bool.and_eq_true, decide_eq_true_eq, decide_eq_true_eq] at hz
      have g1 := inj _ _ (by omega) (by omega) hz.1
      apply hq
      refine ⟨g1, ?_⟩
      have hz2 := hz.2
      rcases hTw with ⟨h1, h2⟩ | ⟨h1, h2⟩ <;> rcases hw' with ⟨h3, h4⟩ | ⟨h3, h4⟩ <;> rw [h2, h4] at hz2 <;> have g2 := inj _ _ (by omega) (by omega) hz2 <;> omega
  rw [ecs]
  refine ⟨⟨hI.1, hI.2.1, ?_, by omega, hI.2.2.2.2.1, hI.2.2.2.2.2.1, fun j => ?_, fun j hj => ?_⟩, wP, wA, wA0, hta, htu, hct, hko, hcl, fun j hj => ?_, fun j hj => ?_, fun j hj => ?_, fun a' b' ha' hb' => ?_, fun a' b' ha' hb' => ?_⟩
  · show k_cs u + 1 = nI (c + 1)
    rw [hI.2.2.1, nI_1]
  · show f_ok (c + 1) (upd (k_nw u) _ (k_cs u) j)
    unfold upd
    split
    · exact Or.inr ⟨c, by omega, hI.2.2.1⟩
    · exact mono _ (hI.2.2.2.2.2.2.1 j)
  · show f_ok (c + 1) (upd (k_tb u) _ _ j)
    unfold upd
    split
    · exact mono _ (hI.2.2.2.2.2.2.1 _)
    · next hne => exact mono _ (hI.2.2.2.2.2.2.2 j (by rw [ecs] at hne; omega))
  · show upd (k_hw u) _ h j = 0 ∨ ((upd (k_hw u) _ h j = 1 ∨ upd (k_hw u) _ h j = 2) ∧ 0 ≤ upd (k_vl u) _ v j)
    rw [ecs]
    by_cases hjc : j = c
    · rw [hjc, pk_us, pk_us]; exact hh
    · rw [upd_ne hjc, upd_ne hjc]; exact hhv j (by omega)
  · show b_below (upd cw c w j) 4 = true → ¬ upd (k_hw u) _ h j = 2
    rw [ecs]
    by_cases hjc : j = c
    · rw [hjc, pk_us, pk_us]; exact hh4
    · rw [upd_ne hjc, upd_ne hjc]; exact hw4 j (by omega)
  · show upd (k_tb u) _ _ j = f_lm (c_mt (upd ck c (nI A)) (upd cw c w) (upd ck c (nI A) j) (upd cw c w j)) j
    rw [ecs]
    by_cases hjc : j = c
    · rw [hjc, pk_us, pk_us, pk_us, hnw]
      exact (f_lm_cong c (fun q hq => hmt _ _ q (by omega))).symm
    · rw [upd_ne hjc, upd_ne hjc, upd_ne hjc, htb j (by omega)]
      exact (f_lm_cong j (fun q hq => hmt _ _ q (by omega))).symm
  · obtain ⟨A', hA', rfl⟩ := b_nat (N := 40) rfl (by omega) ha'
    obtain ⟨T', hT', rfl⟩ := b_nat (N := 4) rfl (by omega) hb'
    have hold := hn1 _ _ ha' hb'
    have e2 : (nI A' * 20 + nI T').toNatClampNeg = A' * 20 + T' := ix_nat A' 20 T' (by omega)
    rw [e2] at hold
    show upd (k_nw u) (nI A * 20 + nI T).toNatClampNeg (k_cs u) (nI A' * 20 + nI T').toNatClampNeg = _
    rw [e2, eix]
    exact hnew A' T' (nI T') hA' (by omega) (Or.inl ⟨hT', rfl⟩) hold
  · obtain ⟨A', hA', rfl⟩ := b_nat (N := 40) rfl (by omega) ha'
    obtain ⟨S, hS, rfl⟩ := b_nat (N := 16) rfl (by omega) hb'
    have hold := hn2 _ _ ha' hb'
    have e4 : (4 : Int32) + nI S = nI (4 + S) := nI_add 4 S
    have e10 : (10 : Int32) + nI S = nI (10 + S) := nI_add 10 S
    have e2 : (nI A' * 20 + nI (4 + S)).toNatClampNeg = A' * 20 + (4 + S) := ix_nat A' 20 (4 + S) (by omega)
    rw [e4, e10, e2] at hold
    show upd (k_nw u) (nI A * 20 + nI T).toNatClampNeg (k_cs u) (nI A' * 20 + (4 + nI S)).toNatClampNeg = _
    rw [e4, e10, e2, eix]
    exact hnew A' (4 + S) (nI (10 + S)) hA' (by omega) (Or.inr ⟨by omega, by rw [show 4 + S + 6 = 10 + S from by omega]⟩) hold
theorem pr_says {u : ks_S} {ck cw : Nat → Int32} {k c i : Nat} (J : ms_I u ck cw k c i) (a b e v : Int32) : ∃ k' c' i', ms_I (m_us u (o_says u a b e v)) (m_ar ck (k_cs u).toNatClampNeg a (o_says u a b e v)) (m_ar cw (k_cs u).toNatClampNeg b (o_says u a b e v)) k' c' i' := by
  unfold o_says
  split
  · next ha =>
    rw [Bool.and_eq_true] at ha
    split
    · split
      · exact ⟨k, c, i, J⟩
      · next hv =>
        split
        · exact ⟨k, c, i, J⟩
        · split
          · next hr =>
            refine ⟨k, c + 1, i, pr_tell J ha.1 (Or.inl ⟨ha.2, rfl⟩) ?_ ?_ (cs_lt J.1 hr)⟩
            · by_cases h1 : v = -1
              · exact Or.inl (if_pos h1)
              · right
                refine ⟨Or.inl (if_neg h1), ?_⟩
                rw [Int32.lt_iff_toInt_lt] at hv
                have q := lv_neT h1 (a := -1) (by decide)
                have q1 : (-1 : Int32).toInt = -1 := by decide
                rw [Int32.le_iff_toInt_le, Int32.toInt_zero]
                omega
            · intro _
              split <;> decide
          · exact ⟨k, c, i, J⟩
    · exact ⟨k, c, i, J⟩
  · exact ⟨k, c, i, J⟩
theorem h_012 {h : Int32} (h1 : ¬ h < 0) (h2 : ¬ 2 < h) : h = 0 ∨ h = 1 ∨ h = 2 := by
  rw [Int32.lt_iff_toInt_lt, Int32.toInt_zero] at h1
  rw [Int32.lt_iff_toInt_lt, show (2 : Int32).toInt = 2 from by decide] at h2
  have : h.toInt = 0 ∨ h.toInt = 1 ∨ h.toInt = 2 := by omega
  rcases this with q | q | q
  · exact Or.inl (Int32.toInt_inj.mp q)
  · exact Or.inr (Or.inl (Int32.toInt_inj.mp q))
  · exact Or.inr (Or.inr (Int32.toInt_inj.mp q))
theorem pr_need {u : ks_S} {ck cw : Nat → Int32} {k c i : Nat} (J : ms_I u ck cw k c i) (a b e h v : Int32) : ∃ k' c' i', ms_I (m_us u (o_need u a b e h v)) (m_ar ck (k_cs u).toNatClampNeg a (o_need u a b e h v)) (m_ar cw (k_cs u).toNatClampNeg (10 + b) (o_need u a b e h v)) k' c' i' := by
  unfold o_need
  split
  · next ha =>
    rw [Bool.and_eq_true] at ha
    split
    · split
      · exact ⟨k, c, i, J⟩
      · next h1 =>
        split
        · exact ⟨k, c, i, J⟩
        · next h2 =>
          split
          · exact ⟨k, c, i, J⟩
          · next h3 =>
            split
            · exact ⟨k, c, i, J⟩
            · split
              · next hr =>
                refine ⟨k, c + 1, i, pr_tell J ha.1 (Or.inr ⟨b, ha.2, rfl, rfl⟩) ?_ ?_ (cs_lt J.1 hr)⟩
                · exact (h_012 h1 h2).imp id (fun z => ⟨z, Int32.not_lt.mp h3⟩)
                · intro hz
                  obtain ⟨S, hS, rfl⟩ := b_nat (N := 16) rfl (by omega) ha.2
                  rw [show (10 : Int32) + nI S = nI (10 + S) from nI_add 10 S] at hz
                  have := b_below_iff.mp hz
                  rw [nI_toInt (by omega)] at this
                  have q : (4 : Int32).toInt = 4 := by decide
                  omega
              · exact ⟨k, c, i, J⟩
    · exact ⟨k, c, i, J⟩
  · exact ⟨k, c, i, J⟩
theorem day_ge {b : Int32} (h : b_day b = true) : 0 ≤ b := by
  simp only [b_day, Bool.and_eq_true, Bool.not_eq_true', decide_eq_false_iff_not] at h
  exact Int32.not_lt.mp h.1
theorem pr_cl {u : ks_S} {ck cw : Nat → Int32} {k c i : Nat} (J : ms_I u ck cw k c i) (a b : Int32) (hb : b = -1 ∨ 0 ≤ b) : ms_I (k_kn u, k_pa u, upd (k_cl u) a.toNatClampNeg b, k_nw u, k_tb u, k_dy u, k_hw u, k_vl u, k_cs u, k_ta u, k_ts u, k_tu u, k_us u, k_inn u, k_ko u, k_ao u, k_be u, k_se u, k_sk u) ck cw k c i := by
  obtain ⟨hI, wP, wA, wA0, hta, htu, hct, hko, hcl, rest⟩ := J
  refine ⟨hI, wP, wA, wA0, hta, htu, hct, hko, fun j hj => ?_, rest⟩
  show upd _ _ _ j = -1 ∨ 0 ≤ upd _ _ _ j
  unfold upd
  split
  · exact hb
  · exact hcl j hj
theorem pr_close {u : ks_S} {ck cw : Nat → Int32} {k c i : Nat} (J : ms_I u ck cw k c i) (a b : Int32) : ∃ k' c' i', ms_I (m_us u (o_close u a b)) ck cw k' c' i' := by
  unfold o_close
  split
  · split
    · next h => exact ⟨k, c, i, pr_cl J a b (Or.inl h)⟩
    · split
      · next h => exact ⟨k, c, i, pr_cl J a b (Or.inr (day_ge h))⟩
      · exact ⟨k, c, i, J⟩
  · exact ⟨k, c, i, J⟩
theorem sz_ok {f : Nat → Int32} {j N : Nat} {e s kn : Int32} (hs : s = nI (n_cn f N)) (hj : j < N) (ho : f j = -1 ∨ b_below (f j) kn = true) (he : e = -1 ∨ b_below e kn = true) : f_sz (f j) e s = nI (n_cn (upd f j e) N) := by
  have h := n_cn_upd f j e N
  rw [if_pos hj, if_pos hj] at h
  unfold f_sz
  rw [hs]
  rcases ho with ho | ho
  · rw [if_pos (lt0_of ho)] at h
    rcases he with he | he
    · rw [if_pos he, if_pos ho]; rw [if_pos (lt0_of he)] at h
      rw [show n_cn (upd f j e) N = n_cn f N from by omega]
    · rw [if_neg (b_nm1 he), if_pos ho]; rw [if_neg (b_nlt he)] at h
      rw [show n_cn (upd f j e) N = n_cn f N + 1 from by omega, nI_1]
  · rw [if_neg (b_nlt ho)] at h
    rcases he with he | he
    · rw [if_pos he, if_neg (b_nm1 ho)]; rw [if_pos (lt0_of he)] at h
      rw [show (1 : Int32) = nI 1 from rfl, pk_sub (by omega)]
      congr 1; omega
    · rw [if_neg (b_nm1 he), if_neg (b_nm1 ho)]; rw [if_neg (b_nlt he)] at h
      rw [show n_cn (upd f j e) N = n_cn f N from by omega, Int32.sub_add_cancel]
theorem pr_area {u : ks_S} {ck cw : Nat → Int32} {k c i : Nat} (J : ms_I u ck cw k c i) (a b e : Int32) : ∃ k' c' i', ms_I (m_us u (o_area u a b e)) ck cw k' c' i' := by
  unfold o_area
  split
  · next ha =>
    split
    · next hb =>
      split
      · exact ⟨k, c, i, J⟩
      · next hld =>
        rw [Bool.and_eq_true] at ha
        have hld' : f_ld (k_kn u) (k_ta u) b a 40 e = false := by simpa using hld
        obtain ⟨hI, wP, wA, wA0, hta, htu, hct, rest⟩ := J
        have hk := hI.2.1
        obtain ⟨A, hA, rfl, hA2⟩ := k_x hI ha.1
        obtain ⟨B, hB, rfl⟩ := b_nat (N := 10) rfl (by omega) hb
        have eix : (nI A * 10 + nI B).toNatClampNeg = A * 10 + B := ix_nat A 10 B (by omega)
        have hlt : A * 10 + B < 400 := by omega
        refine ⟨k, c, i, hI, wP, fun b' x hb' hx => ?_, fun j h1 h2 => ?_, fun j hj => ?_, htu, ⟨?_, hct.2⟩, rest⟩
        · obtain ⟨B', hB', rfl⟩ := b_nat (N := 10) rfl (by omega) hb'
          have val : ∀ m, m < k → (nI m * 10 + nI B').toNatClampNeg = m * 10 + B' := fun m hm => ix_nat m 10 B' (by omega)
          obtain ⟨n, hn⟩ := wA (nI B') x hb' hx
          by_cases hBB : B' = B
          · subst hBB
            have hag : ∀ y, b_below y (k_kn u) = true → ¬ y = nI A → (fun z : Int32 => upd (k_ta u) (nI A * 10 + nI B').toNatClampNeg e (z * 10 + nI B').toNatClampNeg) y = nxA u (nI B') y := fun y hy hne => by
              obtain ⟨m, hm, rfl, hm2⟩ := k_x hI hy
              show upd _ _ _ _ = k_ta u _
              exact upd_ne (by rw [val m hm, eix]; exact fun z => hne (by rw [show m = A from by omega]))
            have hb2 : ∃ nb, w_st (k_kn u) (fun z : Int32 => upd (k_ta u) (nI A * 10 + nI B').toNatClampNeg e (z * 10 + nI B').toNatClampNeg) nb e := by
              rcases b_kN ha.2 with h | h
              · exact ⟨0, h⟩
              · obtain ⟨n, hn⟩ := wA (nI B') e hb h
                obtain ⟨d, hd⟩ := w_40 hI hn
                rw [f_ld_av, hd] at hld'
                exact ⟨n, w_keep hag n d e hn hld'⟩
            obtain ⟨nb, hnb⟩ := hb2
            exact w_re (a := nI A) hag (show upd _ _ _ _ = e from pk_us) hnb n x hn
          · exact ⟨n, w_grow (nx' := fun z : Int32 => upd (k_ta u) (nI A * 10 + nI B).toNatClampNeg e (z * 10 + nI B').toNatClampNeg) (fun y hy => by
              obtain ⟨m, hm, rfl, hm2⟩ := k_x hI hy
              show upd _ _ _ _ = k_ta u _
              exact upd_ne (by rw [val m hm, eix]; omega)) (fun y hy => hy) n x hn⟩
        · show upd (k_ta u) _ e j = -1
          rw [eix, upd_ne (by omega)]; exact wA0 j h1 h2
        · show upd (k_ta u) _ e j = -1 ∨ b_below (upd (k_ta u) _ e j) (k_kn u) = true
          unfold upd
          split
          · exact b_kN ha.2
          · exact hta j hj
        · show f_sz (k_ta u (nI A * 10 + nI B).toNatClampNeg) e (k_ts u) = nI (n_cn (upd (k_ta u) (nI A * 10 + nI B).toNatClampNeg e) 400)
          rw [eix]
          exact sz_ok hct.1 hlt (hta _ hlt) (b_kN ha.2)
    · exact ⟨k, c, i, J⟩
  · exact ⟨k, c, i, J⟩
theorem pr_putU {u : ks_S} {ck cw : Nat → Int32} {k c i : Nat} (J : ms_I u ck cw k c i) {a b e : Int32} (ha : b_below a (k_kn u) = true) (hb : b_below b 32 = true) (he : e = -1 ∨ b_below e (k_kn u) = true) (hr : e = -1 ∨ ¬ k_tu u (a * 32 + b).toNatClampNeg = -1 ∨ ¬ 100 ≤ k_us u) : ms_I (ks_putU u a b e) ck cw k c i := by
  obtain ⟨hI, wP, wA, wA0, hta, htu, hct, rest⟩ := J
  have hk := hI.2.1
  obtain ⟨A, hA, rfl, hA2⟩ := k_x hI ha
  obtain ⟨B, hB, rfl⟩ := b_nat (N := 32) rfl (by omega) hb
  have eix : (nI A * 32 + nI B).toNatClampNeg = A * 32 + B := ix_nat A 32 B (by omega)
  have hlt : A * 32 + B < 1280 := by omega
  refine ⟨hI, wP, wA, wA0, hta, fun j hj => ?_, ⟨hct.1, ?_, ?_⟩, rest⟩
  · show upd (k_tu u) _ e j = -1 ∨ b_below (upd (k_tu u) _ e j) (k_kn u) = true
    unfold upd
    split
    · exact he
    · exact htu j hj
  · show f_sz (k_tu u (nI A * 32 + nI B).toNatClampNeg) e (k_us u) = nI (n_cn (upd (k_tu u) (nI A * 32 + nI B).toNatClampNeg e) 1280)
    rw [eix]
    exact sz_ok hct.2.1 hlt (htu _ hlt) he
  · show n_cn (upd (k_tu u) (nI A * 32 + nI B).toNatClampNeg e) 1280 ≤ 100
    rw [eix]
    have h := n_cn_upd (k_tu u) (A * 32 + B) e 1280
    rw [if_pos hlt, if_pos hlt] at h
    have hle := hct.2.2
    rw [eix] at hr
    rcases hr with hr | hr | hr
    · rw [if_pos (lt0_of hr)] at h
      split at h <;> omega
    · have : ¬ k_tu u (A * 32 + B) < 0 := fun z => hr (vd_lt (htu _ hlt) z)
      rw [if_neg this] at h
      split at h <;> omega
    · have : n_cn (k_tu u) 1280 < 100 := by
        rcases Nat.lt_or_ge (n_cn (k_tu u) 1280) 100 with h9 | h9
        · exact h9
        · exact absurd (by rw [hct.2.1]; exact nI_le (a := 100) h9 (by omega)) hr
      split at h <;> split at h <;> omega
theorem pr_upgrade {u : ks_S} {ck cw : Nat → Int32} {k c i : Nat} (J : ms_I u ck cw k c i) (a b e : Int32) : ∃ k' c' i', ms_I (m_us u (o_upgrade u a b e)) ck cw k' c' i' := by
  unfold o_upgrade
  split
  · next ha =>
    rw [Bool.and_eq_true] at ha
    split
    · next hb =>
      split
      · exact ⟨k, c, i, J⟩
      · split
        · next h => exact ⟨k, c, i, pr_putU J ha.1 hb (b_kN ha.2) (Or.inl h)⟩
        · split
          · split
            · exact ⟨k, c, i, J⟩
            · next h => exact ⟨k, c, i, pr_putU J ha.1 hb (b_kN ha.2) (Or.inr (Or.inr h))⟩
          · next h => exact ⟨k, c, i, pr_putU J ha.1 hb (b_kN ha.2) (Or.inr (Or.inl h))⟩
    · exact ⟨k, c, i, J⟩
  · exact ⟨k, c, i, J⟩
theorem pr_open {u : ks_S} {ck cw : Nat → Int32} {k c i : Nat} (J : ms_I u ck cw k c i) (a b e : Int32) : ∃ k' c' i', ms_I (m_us u (o_open u a b e)) ck cw k' c' i' := by
  unfold o_open
  split
  · next ha =>
    split
    · split
      · exact ⟨k, c, i, J⟩
      · split
        · exact ⟨k, c, i, J⟩
        · next h60 =>
          have hka := ka_ok J (b := b) 40 a ha
          obtain ⟨hI, wP, wA, wA0, hta, htu, hct, hko, rest⟩ := J
          have hi : i < 60 := by
            rcases Nat.lt_or_ge i 60 with h | h
            · exact h
            · exact absurd (by rw [hI.2.2.2.2.1]; exact nI_le (a := 60) h (by have := hI.2.2.2.2.2.1; omega)) h60
          have ei : (k_inn u).toNatClampNeg = i := by rw [hI.2.2.2.2.1]; exact cl_nat (by omega)
          refine ⟨k, c, i + 1, ⟨hI.1, hI.2.1, hI.2.2.1, hI.2.2.2.1, ?_, by omega, hI.2.2.2.2.2.2⟩, wP, wA, wA0, hta, htu, hct, fun j hj => ?_, rest⟩
          · show k_inn u + 1 = nI (i + 1)
            rw [hI.2.2.2.2.1, nI_1]
          · show b_below (upd (k_ko u) _ _ j) (k_kn u) = true
            rw [ei]
            by_cases hji : j = i
            · rw [hji, pk_us]; exact hka
            · rw [upd_ne hji]; exact hko j (by omega)
    · exact ⟨k, c, i, J⟩
  · exact ⟨k, c, i, J⟩
theorem up_ok {u : ks_S} {ck cw : Nat → Int32} {k c i : Nat} (J : ms_I u ck cw k c i) {b : Int32} (hb : b_below b 32 = true) : ∀ (n : Nat) (x : Int32), f_up (k_kn u) (k_pa u) (k_tu u) b n x = -1 ∨ b_below (f_up (k_kn u) (k_pa u) (k_tu u) b n x) (k_kn u) = true := by
  intro n
  induction n with
  | zero => intro x; exact Or.inl rfl
  | succ n ih =>
    intro x
    unfold f_up
    split
    · next hx =>
      split
      · exact ih _
      · exact J.2.2.2.2.2.1 _ (in_clamp (ix_m (c := 32) J.1.k40 hx (bt hb rfl) (by decide) (by decide) (by decide)))
    · exact Or.inl rfl
theorem pr_found {u : ks_S} {ck cw : Nat → Int32} {k c i : Nat} (J : ms_I u ck cw k c i) (a b e : Int32) : ∃ k' c' i', ms_I (m_us u (o_found u a b e)) ck cw k' c' i' := by
  unfold o_found
  split
  · next ha =>
    split
    · next hb =>
      rw [Bool.and_eq_true] at hb
      split
      · exact ⟨k, c, i, J⟩
      · next hm =>
        split
        · exact ⟨k, c, i, J⟩
        · split
          · exact ⟨k, c, i, J⟩
          · have hup := (up_ok J hb.1 40 (k_ko u a.toNatClampNeg)).resolve_left hm
            obtain ⟨hI, wP, wA, wA0, hta, htu, hct, hko, rest⟩ := J
            refine ⟨k, c, i, hI, wP, wA, wA0, hta, htu, hct, fun j hj => ?_, rest⟩
            show b_below (upd (k_ko u) _ _ j) (k_kn u) = true
            unfold upd
            split
            · exact hup
            · exact hko j hj
    · exact ⟨k, c, i, J⟩
  · exact ⟨k, c, i, J⟩
theorem pr_send {u : ks_S} {ck cw : Nat → Int32} {k c i : Nat} (J : ms_I u ck cw k c i) (a b e : Int32) : ∃ k' c' i', ms_I (m_us u (o_send u a b e)) ck cw k' c' i' := by
  unfold o_send
  split
  · split
    · exact ⟨k, c, i, J⟩
    · split
      · exact ⟨k, c, i, J⟩
      · split
        · exact ⟨k, c, i, J⟩
        · exact ⟨k, c, i, J⟩
  · exact ⟨k, c, i, J⟩
theorem pr_unit {u : ks_S} {ck cw : Nat → Int32} {k c i : Nat} (J : ms_I u ck cw k c i) (a b : Int32) : ∃ k' c' i', ms_I (m_us u (o_unit u a b)) ck cw k' c' i' := by
  unfold o_unit
  split
  · split
    · exact ⟨k, c, i, J⟩
    · split
      · exact ⟨k, c, i, J⟩
      · exact ⟨k, c, i, J⟩
  · exact ⟨k, c, i, J⟩
theorem pr_has {u : ks_S} {ck cw : Nat → Int32} {k c i : Nat} (J : ms_I u ck cw k c i) (a b e : Int32) : ∃ k' c' i', ms_I (m_us u (o_has u c a b e)) ck cw k' c' i' := by
  unfold o_has
  repeat' split
  all_goals exact ⟨k, c, i, J⟩
theorem pr_in {u : ks_S} {ck cw : Nat → Int32} {k c i : Nat} (J : ms_I u ck cw k c i) (a b : Int32) : ∃ k' c' i', ms_I (m_us u (o_in u a b)) ck cw k' c' i' := by
  unfold o_in
  repeat' split
  all_goals exact ⟨k, c, i, J⟩
theorem pr_missing {u : ks_S} {ck cw : Nat → Int32} {k c i : Nat} (J : ms_I u ck cw k c i) (a b e : Int32) : ∃ k' c' i', ms_I (m_us u (o_missing u c a b e)) ck cw k' c' i' := by
  unfold o_missing
  repeat' split
  all_goals exact ⟨k, c, i, J⟩
theorem pr_incident {u : ks_S} {ck cw : Nat → Int32} {k c i : Nat} (J : ms_I u ck cw k c i) (a b : Int32) : ∃ k' c' i', ms_I (m_us u (o_incident u a b)) ck cw k' c' i' := by
  unfold o_incident
  by_cases h : (b_below a (k_inn u) && b_below b 3) = true
  · rw [if_pos h]; exact ⟨k, c, i, J⟩
  · rw [if_neg h]; exact ⟨k, c, i, J⟩
theorem pr_uncovered {u : ks_S} {ck cw : Nat → Int32} {k c i : Nat} (J : ms_I u ck cw k c i) (a b : Int32) : ∃ k' c' i', ms_I (m_us u (o_uncovered u k c a b)) ck cw k' c' i' := by
  unfold o_uncovered
  by_cases h : b_day a = true
  · rw [if_pos h]
    by_cases h1 : b < 0
    · rw [if_pos h1]; exact ⟨k, c, i, J⟩
    · rw [if_neg h1]; exact ⟨k, c, i, J⟩
  · rw [if_neg h]; exact ⟨k, c, i, J⟩
theorem pr_coded {u : ks_S} {ck cw : Nat → Int32} {k c i : Nat} (J : ms_I u ck cw k c i) (a b : Int32) : ∃ k' c' i', ms_I (m_us u (o_coded u c i a b)) ck cw k' c' i' := by
  unfold o_coded
  repeat' split
  all_goals exact ⟨k, c, i, J⟩
theorem pr_count {u : ks_S} {ck cw : Nat → Int32} {k c i : Nat} (J : ms_I u ck cw k c i) (a : Int32) : ∃ k' c' i', ms_I (m_us u (o_count u a)) ck cw k' c' i' := by
  unfold o_count
  by_cases h : b_below a 5 = true
  · rw [if_pos h]; exact ⟨k, c, i, J⟩
  · rw [if_neg h]; exact ⟨k, c, i, J⟩
