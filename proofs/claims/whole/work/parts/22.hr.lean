def mm_KH : mm_g → Option FieldType → mm_A → List mm_c → (Option Value → List mm_c → Prop) → (String → Prop) → Nat → Nat → List (Nat × Nat × Nat × Nat) → Prop
  | (p, l, e, R, s, m, args, below, meth, c, nL, D, A, Q), ret, ad, hp0, Φ, Ξ, mc, ms, hh => meth.sig.returnType = ret ∧ meth.locks = false ∧ c.exceptionTable.toList = tableOf hh ∧ A = va_A (mm_ws ad hp0) s.heap.size ∧ Q = vx_MQ below (mm_Qc D ad s.heap.size hp0 Φ) (mm_XC D ad s.heap.size hp0 Ξ) args s mc ms A
theorem mm_startH {l : Launch} {D : va_G} {y : MethodName} {ws ws' : List Cond} {rm : Room} {av : List Value} {hp : List mm_c} {Φ : Option Value → List mm_c → Prop} {Ξ : String → Prop} {mc ms : Nat} {cc : ByteArray} {maxL : Nat} {ret : Option FieldType} {hh : List (Nat × Nat × Nat × Nat)} {own : String}
    (hy : plainName y.cls = true) (hw : ws = Cond.codeWith y cc maxL ret hh :: ws') (ho : y.cls = own) (hlen : (lg_sl av).length ≤ maxL) (hav : ∀ ad, (lg_sl (av.map (mm_v ad))).length = (lg_sl av).length)
    (hlv : ∀ ad, lv_args 0 (av.map (mm_v ad)) = mm_lv ad (lv_args 0 av))
    (body : ∀ (g : mm_g) (ad : mm_A), mm_l g = l → mm_D0 g = D → mm_nL g = maxL → mm_C g cc own ws rm ad → mm_KH g ret ad hp Φ Ξ mc ms hh → mm_M g ad 0 0 hp 0 (lv_args 0 av) []) : mm_Met l D y ws rm av hp Φ Ξ mc ms := by
  intro hlt ad sz
  refine vx_ofWH (cc := cc) (maxL := maxL) (ret := ret) (hh := hh) hy hw ?_
  intro p e s m args below meth c s₁ B hml hv
  have hts := atoms_spec (ws := ws) B.pre
  have hex := vx_table (x := y) B (hts (Cond.codeWith y cc maxL ret hh) (by rw [hw]; exact List.mem_cons_self))
  obtain ⟨rfl, hsz, hP, hK, hT, hD0, hG⟩ := hv
  subst hsz
  have hown : s.vm.findClass own = some m.cls := by rw [← ho]; exact findClass_of_methodNamed B.named
  have hl := lv_entry (av.map (mm_v ad)) (n := maxL) (by rw [hav]; exact hlen)
  rw [lg_entry_eq]
  generalize (lg_sl (av.map (mm_v ad)) ++ List.replicate (maxL - (lg_sl (av.map (mm_v ad))).length) Slot.unset).toArray = ls at hl ⊢
  rw [hlv] at hl
  have hD := hD0.self (sz := s.heap.size)
  exact body (p, l, e, rm, s, m, (av.map (mm_v ad)).toArray, below, meth, c, maxL, D, va_A (mm_ws ad hp) s.heap.size, vx_MQ below (mm_Qc D ad s.heap.size hp Φ) (mm_XC D ad s.heap.size hp Ξ) (av.map (mm_v ad)).toArray s mc ms (va_A (mm_ws ad hp) s.heap.size)) ad rfl rfl rfl
    ⟨B.exec, B.bytes, hml, hown, hts, hK, fun q h => Or.inr h, hG, hlt, rfl⟩ ⟨B.returns, B.notSynchronized, hex, rfl, rfl⟩ s.heap [] ls ⟨hP, hD, hT, va_S.rf⟩ hl

theorem mm_iretH {g : mm_g} {cc : ByteArray} {own : String} {Ts : List Cond} {rm : Room} {ad : mm_A} {cells slots : Nat} {hp : List mm_c} {pc : Nat} {lv : List (Nat × Value)} (C : mm_C g cc own Ts rm ad) {hp0 : List mm_c} {Φ : Option Value → List mm_c → Prop} {Ξ : String → Prop} {mc ms : Nat} {hh : List (Nat × Nat × Nat × Nat)} {ty : FieldType} (K : mm_KH g (some ty) ad hp0 Φ Ξ mc ms hh) {v : Int32} (hn : narrow ty (.int v) = .int v) (hd : decode cc pc = .ok (.ireturn, 1)) (hΦ : Φ (some (.int v)) hp) (hsh : mm_sh hp = mm_sh hp0) (hc : cells ≤ mc) (hs : slots ≤ ms) : mm_M g ad cells slots hp pc lv [.int v] := by
  obtain ⟨p, l, e, R, s, m, args, below, meth, c, nL, D, A, Q⟩ := g
  obtain ⟨hx, hb, hml, hown, hts, hK, hA, hG, hlt, hR⟩ := C
  obtain ⟨hr, hlk, hex, hAe, hQ⟩ := K
  subst hAe
  subst hQ
  intro H locs ls hH h
  refine W.widen (k := mc) (n := ms) hc hs (vx_ret ?_)
  exact W.zret hx hb hr hn (fun t ht hW => ⟨⟨some (.int v), hp, rfl, hΦ, hsh, by rw [ht]; exact hH.1⟩, hH.2.2.2.F ht⟩) hH.2.2.2.2.2 hd hlk
theorem mm_catchn {g : mm_g} {cc : ByteArray} {own : String} {Ts : List Cond} {rm : Room} {ad : mm_A} {cells slots : Nat} {hp : List mm_c} {pc : Nat} {lv : List (Nat × Value)} {st : List Value} (C : mm_C g cc own Ts rm ad) {hp0 : List mm_c} {Φ : Option Value → List mm_c → Prop} {Ξ : String → Prop} {mc ms : Nat} {hh : List (Nat × Nat × Nat × Nat)} (K : mm_KH g (some .int) ad hp0 Φ Ξ mc ms hh) {E : String} (pre : List (Nat × Nat × Nat × Nat)) (x : Nat × Nat × Nat × Nat) (suf : List (Nat × Nat × Nat × Nat)) (hsplit : hh = pre ++ x :: suf) (hE : E ∈ mm_ex) (hpass : ∀ z ∈ pre, z.2.2.2 ≠ 0 ∧ ∃ nm ∈ mm_ex, E ≠ nm ∧ Cond.classLink own z.2.2.2 nm ∈ Ts) (hx1 : x.1 ≤ pc) (hx2 : pc < x.2.1) (h0 : x.2.2.2 ≠ 0) (hl : Cond.classLink own x.2.2.2 E ∈ Ts) (hcast : Cond.castable E E ∈ mm_nw) {j : Fin 4} {nl : Nat} (hnl : mm_nL g = nl) (hn : (j : Nat) < nl) {n : Int} {v : Int32} (hda : decode cc x.2.2.1 = .ok (.astore_n j, 1)) (hdi : decode cc (x.2.2.1 + 1) = .ok (.iconst n, 1)) (hv : Int32.ofInt n = v) (hd : decode cc (x.2.2.1 + 1 + 1) = .ok (.ireturn, 1)) (hΦ : Φ (some (.int v)) hp) (hsh : mm_sh hp = mm_sh hp0) (hc : cells ≤ mc) (hs : slots ≤ ms) : mm_X g ad cells slots hp pc lv st E := by
  obtain ⟨p, l, e, R, s, m, args, below, meth, c, nL, D, A, Q⟩ := g
  obtain ⟨hx, hb, hml, hown, hts, hK, hA, hG, hlt, hR⟩ := C
  obtain ⟨hr, hlk, hex, hAe, hQ⟩ := K
  subst hAe
  subst hQ
  intro H locs ls q ce hH h hce hcv hcl
  have hn9 : (j : Nat) < nL := by have h9 := hn; rw [← hnl] at h9; exact h9
  refine vx_catch hown (tableOf pre) ⟨x.1, x.2.1, x.2.2.1, x.2.2.2⟩ (tableOf suf) (by rw [hex, hsplit]; simp [tableOf]) ?_ (by simp [covers, hx1, hx2]) h0 (hts _ hl) (va_Nw.use rfl (hG.1 _ hcast)) hce hcv hcl ?_
  · intro z hz
    obtain ⟨z0, hz0, rfl⟩ := List.mem_map.mp hz
    obtain ⟨h1, nm, h2, h3, h4⟩ := hpass z0 hz0
    exact Or.inr ⟨h1, nm, hts _ h4, hG.2.2.2.2.2 E hE nm h2 h3⟩
  · refine lv_astore_n hx hb hda rfl h hn9 rfl (fun ls' h' => ?_)
    refine lv_iconst hx hb hdi hv ?_
    refine W.widen (k := mc) (n := ms) hc hs (vx_ret ?_)
    have hn : narrow .int (.int v) = .int v := rfl
    exact W.zret hx hb hr hn (fun t ht hW => ⟨⟨some (.int v), hp, rfl, hΦ, hsh, by rw [ht]; exact hH.1⟩, hH.2.2.2.F ht⟩) hH.2.2.2.2.2 hd hlk
theorem mm_catchw {g : mm_g} {cc : ByteArray} {own : String} {Ts : List Cond} {rm : Room} {ad : mm_A} {cells slots : Nat} {hp : List mm_c} {pc : Nat} {lv : List (Nat × Value)} {st : List Value} (C : mm_C g cc own Ts rm ad) {hp0 : List mm_c} {Φ : Option Value → List mm_c → Prop} {Ξ : String → Prop} {mc ms : Nat} {hh : List (Nat × Nat × Nat × Nat)} (K : mm_KH g (some .int) ad hp0 Φ Ξ mc ms hh) {E : String} (pre : List (Nat × Nat × Nat × Nat)) (x : Nat × Nat × Nat × Nat) (suf : List (Nat × Nat × Nat × Nat)) (hsplit : hh = pre ++ x :: suf) (hE : E ∈ mm_ex) (hpass : ∀ z ∈ pre, z.2.2.2 ≠ 0 ∧ ∃ nm ∈ mm_ex, E ≠ nm ∧ Cond.classLink own z.2.2.2 nm ∈ Ts) (hx1 : x.1 ≤ pc) (hx2 : pc < x.2.1) (h0 : x.2.2.2 ≠ 0) (hl : Cond.classLink own x.2.2.2 E ∈ Ts) (hcast : Cond.castable E E ∈ mm_nw) {j : Nat} {nl : Nat} (hnl : mm_nL g = nl) (hn : (j : Nat) < nl) {n : Int} {v : Int32} (hda : decode cc x.2.2.1 = .ok (.astore j, 2)) (hdi : decode cc (x.2.2.1 + 2) = .ok (.iconst n, 1)) (hv : Int32.ofInt n = v) (hd : decode cc (x.2.2.1 + 2 + 1) = .ok (.ireturn, 1)) (hΦ : Φ (some (.int v)) hp) (hsh : mm_sh hp = mm_sh hp0) (hc : cells ≤ mc) (hs : slots ≤ ms) : mm_X g ad cells slots hp pc lv st E := by
  obtain ⟨p, l, e, R, s, m, args, below, meth, c, nL, D, A, Q⟩ := g
  obtain ⟨hx, hb, hml, hown, hts, hK, hA, hG, hlt, hR⟩ := C
  obtain ⟨hr, hlk, hex, hAe, hQ⟩ := K
  subst hAe
  subst hQ
  intro H locs ls q ce hH h hce hcv hcl
  have hn9 : (j : Nat) < nL := by have h9 := hn; rw [← hnl] at h9; exact h9
  refine vx_catch hown (tableOf pre) ⟨x.1, x.2.1, x.2.2.1, x.2.2.2⟩ (tableOf suf) (by rw [hex, hsplit]; simp [tableOf]) ?_ (by simp [covers, hx1, hx2]) h0 (hts _ hl) (va_Nw.use rfl (hG.1 _ hcast)) hce hcv hcl ?_
  · intro z hz
    obtain ⟨z0, hz0, rfl⟩ := List.mem_map.mp hz
    obtain ⟨h1, nm, h2, h3, h4⟩ := hpass z0 hz0
    exact Or.inr ⟨h1, nm, hts _ h4, hG.2.2.2.2.2 E hE nm h2 h3⟩
  · refine lv_astore hx hb hda h hn9 rfl (fun ls' h' => ?_)
    refine lv_iconst hx hb hdi hv ?_
    refine W.widen (k := mc) (n := ms) hc hs (vx_ret ?_)
    have hn : narrow .int (.int v) = .int v := rfl
    exact W.zret hx hb hr hn (fun t ht hW => ⟨⟨some (.int v), hp, rfl, hΦ, hsh, by rw [ht]; exact hH.1⟩, hH.2.2.2.F ht⟩) hH.2.2.2.2.2 hd hlk
theorem mm_lcmp {g : mm_g} {cc : ByteArray} {own : String} {Ts : List Cond} {rm : Room} {ad : mm_A} {cells slots : Nat} {hp : List mm_c} {pc : Nat} {lv : List (Nat × Value)} {st : List Value} (C : mm_C g cc own Ts rm ad) {x y : Int64} (hd : decode cc pc = .ok (.lcmp, 1)) (k : mm_M g ad cells slots hp (pc + 1) lv (.int (lg_cmp x y) :: st)) : mm_M g ad cells slots hp pc lv (.long y :: .long x :: st) := by
  obtain ⟨p, l, e, R, s, m, args, below, meth, c, nL, D, A, Q⟩ := g
  obtain ⟨hx, hb, hml, hown, hts, hK, hA, hG, hlt, hR⟩ := C
  intro H locs ls hH h
  exact W.lcmp hx hb hd (k H locs ls hH h)
theorem mm_newl {g : mm_g} {cc : ByteArray} {own : String} {Ts : List Cond} {rm : Room} {ad : mm_A} {cells slots : Nat} {hp : List mm_c} {pc : Nat} {lv : List (Nat × Value)} {st : List Value} (C : mm_C g cc own Ts rm ad) {n : Int32} {N : Nat} (harr : Cond.arrayClass .long ∈ Ts) (hn : ¬ n < 0) (hN : n.toNatClampNeg = N) (hby : N * 8 ≤ 536870912) (hcells : cells + 1 ≤ rm.cells) (hslots : slots + N ≤ rm.slots) (hd : decode cc pc = .ok (.newarray .long, 2)) (ok1 : hp.all (mm_okc hp.length (hp.length + 1)) = true) (ok2 : lv.all (fun q => mm_okv hp.length (hp.length + 1) q.2) = true) (ok3 : st.all (mm_okv hp.length (hp.length + 1)) = true) (ok4 : hp.length + 1 ≤ 1000000)
    (k : ∀ ad' : mm_A, mm_ext ad ad' hp.length (hp.length + 1) → mm_C g cc own Ts rm ad' → mm_M g ad' (cells + 1) (slots + N) (hp ++ [.inr (.inr (N, fun _ => 0))]) (pc + 2) lv (.ref hp.length :: st)) : mm_M g ad cells slots hp pc lv (.int n :: st) := by
  obtain ⟨p, l, e, R, s, m, args, below, meth, c, nL, D, A, Q⟩ := g
  have C0 := C
  obtain ⟨hx, hb, hml, hown, hts, hK, hA, hG, hlt, hR⟩ := C
  intro H locs ls hH h
  subst hR
  refine va_newa (D := D) (cl := vwCl) (atype := .long) (ty := .long) (a0 := (N, .inr (.inl (fun _ => 0)))) hx hb (hts _ harr) rfl hK hH.1 hH.2.1 hH.2.2.2 hA (fun _ => rfl) hn hN hby hcells hslots hd (fun q cA H1 hK1 hP1 hD1 hS1 => ?_)
  have he := mm_up_ext ad hp.length (q, cA)
  have hws := mm_okws he ok1
  have hws1 : mm_ws (mm_up ad hp.length (q, cA)) (hp ++ [.inr (.inr (N, fun _ => 0))]) = mm_ws ad hp ++ [(q, .inl (cA, N, .inr (.inl (fun _ => 0))))] := by
    rw [mm_ws_app, hws, mm_up_at]; simp [mm_e, mm_up_at]
  have hk := k (mm_up ad hp.length (q, cA)) he (mm_C.ext C0 he ok4) H1 locs ls ⟨by rw [hws1]; exact hP1, by rw [hws1]; exact hD1, ?_, hS1⟩ (by rw [mm_oklv he ok2]; exact h)
  · have e9 : List.map (mm_v (mm_up ad hp.length (q, cA))) (.ref hp.length :: st) = .ref q :: st.map (mm_v ad) := by
      rw [List.map_cons, mm_okl he ok3]; simp [mm_v, mm_up_at]
    rw [e9] at hk
    exact hk
  · intro p9 a9 ty9 h9 hty9
    by_cases hp9 : p9 < hp.length
    · rw [List.getElem?_append_left hp9] at h9
      rw [he p9 (Or.inl hp9)]
      exact hH.2.2.1 p9 a9 ty9 h9 hty9
    · have hlt9 := (List.getElem?_eq_some_iff.mp h9).1
      rw [List.length_append, List.length_singleton] at hlt9
      have e8 : p9 = hp.length := by omega
      subst e8
      rw [List.getElem?_append_right (Nat.le_refl _), Nat.sub_self] at h9
      cases h9
      cases hty9
      rw [mm_up_at]
      exact hK1.2 0 (cA, .long) rfl
theorem mm_callSW {g : mm_g} {cc : ByteArray} {own : String} {Ts : List Cond} {rm : Room} {ad : mm_A} {cells slots : Nat} {hp : List mm_c} {pc : Nat} {lv : List (Nat × Value)} {st stk : List Value} (C : mm_C g cc own Ts rm ad) {y : MethodName} {ws ws' : List Cond} {rmY : Room} {bytes : ByteArray} {maxL idx : Nat} {ret : Option FieldType} {hh : List (Nat × Nat × Nat × Nat)} {av : List Value} {Φ : Option Value → List mm_c → Prop} {mc ms : Nat} (hT : GoodIn Ts (va_wsS own idx y ws)) (hdd : y.cls ≠ "java/lang/invoke/MethodHandle" ∧ y.cls ≠ "java/lang/invoke/VarHandle" ∧ (parseMethodDescriptor y.desc).map (fun d => d.parameters.length) = some av.length) (hM : mm_Met (mm_l g) (mm_D0 g) y ws rmY (av) hp Φ (fun _ => False) mc ms) (n : Nat) (hw : ws = Cond.codeWith y bytes maxL ret hh :: ws') (hrc : rmY.cells = mc) (hrs : rmY.slots = ms) (hR9 : rmY.frames + 1 ≤ rm.frames ∧ 8 + (maxL + 11) + rmY.locals ≤ rm.locals) (hn : av.length = n) (hstk : stk = av.reverse ++ st) (hsum : (st.map fun v => v.category).sum ≤ 8) (hd : decode cc pc = .ok (.invokestatic idx, 3)) (hf : cells + mc ≤ rm.cells ∧ slots + ms ≤ rm.slots)
    (kk : ∀ (v : Option Value) (hp' : List mm_c), Φ v hp' → mm_sh hp' = mm_sh hp → mm_M g ad (cells + mc) (slots + ms) hp' (pc + 3) lv (v.toList ++ st)) : mm_M g ad cells slots hp pc lv stk := by
  subst hstk
  obtain ⟨p, l, e, R, s, m, args, below, meth, c, nL, D, A, Q⟩ := g
  obtain ⟨hx, hb, hml, hown, hts, hK, hA, hG, hlt, hR⟩ := C
  subst hR
  intro H locs ls hH h
  have hm := hM hlt ad H.size
  have hpre := mm_pre hK hA hG hH
  have hF : ∀ q, va_A (mm_ws ad hp) H.size q → A q := fun q hq => by
    rcases hq with ⟨k, e, hk⟩ | hq
    · exact hH.2.1.2 k _ hk
    · exact hA q (Nat.le_trans hH.2.2.2.1 hq)
  have hsum' : 2 * (F0 m pc ls (st.map (mm_v ad))).monitorRoom + ((st.map (mm_v ad)).map fun v => v.category).sum ≤ 8 := lv_room (by
    have : ((st.map (mm_v ad)).map fun v => v.category) = st.map fun v => v.category := by
      rw [List.map_map]; exact List.map_congr_left (fun v _ => mm_v_cat ad v)
    rw [this]; exact hsum)
  have hrun := vx_runSW (hh := hh) (e := e) (below := below) (meth := meth) (H := H) (locs := locs) (cells := cells) (slots := slots) (As := av.map (mm_v ad)) (rest := st.map (mm_v ad)) (g := F0 m pc ls ((av.reverse ++ st).map (mm_v ad))) ⟨hx, hb, hml, hown, hts⟩ (mm_toMet hm (fun E st t h9 => h9.1)) (vx_cwSW n hts hT hw hrc hrs (hn ▸ hdd) hR9) ⟨mm_blind D ad H.size hp _, fun U hU hW => ⟨rfl, hpre U hU hW⟩⟩ rfl (by rw [List.length_map]; exact hn) h.1 (by show List.map (mm_v ad) (av.reverse ++ st) = _; simp) hsum' hd hf
  intro T hT X
  obtain ⟨v, st₀, t, T', L, h0, X', hL, e1, e2, ⟨⟨v9, hp9, hv, hΦ, hsh, hP9⟩, hFr⟩, st9⟩ := hrun T hT X
  cases hv
  obtain ⟨k1, k2, k3⟩ := vx_keep h0 e1 hH.2.2.2 (fun q _ hq => hF q hq) hF hL hFr
  have hk := kk v9 hp9 hΦ hsh T'.heap (locs ++ L) ls ⟨by rw [e1]; exact hP9, mm_D.sh hH.2.1 hsh, hH.2.2.1.sh hsh, k3⟩ h
  obtain ⟨t2, a1, b1⟩ := hk T' rfl X'
  refine ⟨t2, st9 t2 ?_, b1⟩
  have e9 : (Option.map (mm_v ad) v9).toList ++ st.map (mm_v ad) = (v9.toList ++ st).map (mm_v ad) := by cases v9 <;> rfl
  rw [e9]; exact a1
def mm_Sx : mm_g → mm_A → Nat → (Nat → Int32) → Prop
  | (p, l, e, R, s, m, args, below, meth, c, nL, D, A, Q), ad, L, xs => va_X (ad 1000002).1 L xs s s.heap ∧ (ad 1000002).1 < s.heap.size ∧ ¬ A (ad 1000002).1
theorem mm_Sx.ext {g : mm_g} {ad ad' : mm_A} {L a b : Nat} {xs : Nat → Int32} (h : mm_Sx g ad L xs) (he : mm_ext ad ad' a b) (hb9 : b ≤ 1000000) : mm_Sx g ad' L xs := by
  obtain ⟨p, l, e, R, s, m, args, below, meth, c, nL, D, A, Q⟩ := g
  have h9 : ad' 1000002 = ad 1000002 := he _ (Or.inr (by omega))
  show va_X (ad' 1000002).1 L xs s s.heap ∧ (ad' 1000002).1 < s.heap.size ∧ ¬ A (ad' 1000002).1
  rw [h9]; exact h
theorem mm_sald {g : mm_g} {cc : ByteArray} {own : String} {Ts : List Cond} {rm : Room} {ad : mm_A} {cells slots : Nat} {hp : List mm_c} {pc : Nat} {lv : List (Nat × Value)} {st : List Value} (C : mm_C g cc own Ts rm ad) {L : Nat} {xs : Nat → Int32} (hS : mm_Sx g ad L xs) {i : Int32} (hi : vp_in i L) (hd : decode cc pc = .ok (.iaload, 1)) (k : mm_M g ad cells slots hp (pc + 1) lv (.int (xs i.toNatClampNeg) :: st)) : mm_M g ad cells slots hp pc lv (.int i :: .ref 1000002 :: st) := by
  obtain ⟨p, l, e, R, s, m, args, below, meth, c, nL, D, A, Q⟩ := g
  obtain ⟨hx, hb, hml, hown, hts, hK, hA, hG, hlt, hR⟩ := C
  intro H locs ls hH h
  exact va_sld hx hb hS.1 hS.2.1 hS.2.2 hH.2.2.2 hi hd (k H locs ls hH h)
theorem mm_slen {g : mm_g} {cc : ByteArray} {own : String} {Ts : List Cond} {rm : Room} {ad : mm_A} {cells slots : Nat} {hp : List mm_c} {pc : Nat} {lv : List (Nat × Value)} {st : List Value} (C : mm_C g cc own Ts rm ad) {L : Nat} {xs : Nat → Int32} (hS : mm_Sx g ad L xs) (hd : decode cc pc = .ok (.arraylength, 1)) (k : mm_M g ad cells slots hp (pc + 1) lv (.int (nI L) :: st)) : mm_M g ad cells slots hp pc lv (.ref 1000002 :: st) := by
  obtain ⟨p, l, e, R, s, m, args, below, meth, c, nL, D, A, Q⟩ := g
  obtain ⟨hx, hb, hml, hown, hts, hK, hA, hG, hlt, hR⟩ := C
  intro H locs ls hH h
  exact va_slen hx hb hS.1 hS.2.1 hS.2.2 hH.2.2.2 hd (k H locs ls hH h)
