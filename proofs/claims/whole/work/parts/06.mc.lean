/-- what a method is given: its world at the places of hp, and all that stands outside it -/
def mm_B (D : va_G) (ad : mm_A) (sz : Nat) (hp : List mm_c) (U : State) : Prop := U.heap.size = sz ∧ va_P D vwCl (mm_ws ad hp) U.heap ∧ va_K D vwCl [] U ∧ mm_T U ad hp ∧ va_D (fun _ => True) (mm_ws ad hp) ∧ mm_G ad (va_A (mm_ws ad hp) sz) U U.heap
def mm_Qc (D : va_G) (ad : mm_A) (sz : Nat) (hp : List mm_c) (Φ : Option Value → List mm_c → Prop) : Array Value → State → Outcome → State → Prop := fun _ st oc t => (∃ (v : Option Value) (hp' : List mm_c), oc = .returned (v.map (mm_v ad)) ∧ Φ v hp' ∧ mm_sh hp' = mm_sh hp ∧ va_P D vwCl (mm_ws ad hp') t.heap) ∧ va_F (va_A (mm_ws ad hp) sz) st t
def mm_XC (D : va_G) (ad : mm_A) (sz : Nat) (hp : List mm_c) (Ξ : String → Prop) : String → State → State → Prop := fun E st t => Ξ E ∧ va_P D vwCl (mm_ws ad hp) t.heap ∧ va_F (va_A (mm_ws ad hp) sz) st t
/-- THE CONTRACT of a method that makes no cell of the world: with the arguments av (references by places) in the world hp it returns v and leaves hp' with Φ v hp', or throws a class with Ξ and leaves hp -/
def mm_Met (l : Launch) (D : va_G) (y : MethodName) (ws : List Cond) (rm : Room) (av : List Value) (hp : List mm_c) (Φ : Option Value → List mm_c → Prop) (Ξ : String → Prop) (mc ms : Nat) : Prop :=
  l.stackTraces = false → ∀ (ad : mm_A) (sz : Nat), vx_Met l y ws rm (va_Pc (av.map (mm_v ad)) (mm_B D ad sz hp)) (mm_Qc D ad sz hp Φ) (mm_XC D ad sz hp Ξ) mc ms (va_A (mm_ws ad hp) sz)
theorem mm_blind (D : va_G) (ad : mm_A) (sz : Nat) (hp : List mm_c) (av : List Value) : FrameBlind (va_Pc av (mm_B D ad sz hp)) := by
  intro a U g mk h
  obtain ⟨h0, h1, h2, h3, h4, h5, h6⟩ := h
  exact ⟨h0, h1, h2, va_K.moved (u := U) (U := U.calling g mk a) (Vm.Alike.refl U.vm) h3, mm_T.moved (u := U) (U := U.calling g mk a) (Vm.Alike.refl U.vm) h4, h5, mm_G.warm (s := U) (U := U.calling g mk a) (State.WarmedH.refl U) h6⟩
theorem mm_pre {D : va_G} {A : Nat → Prop} {s : State} {ad : mm_A} {hp : List mm_c} {H : Heap} {locs : List Loc} (hK : va_K D vwCl [] s) (hA : ∀ q, s.heap.size ≤ q → A q) (hG : mm_G ad A s s.heap) (hH : mm_H D A s ad hp H locs) (U : State) (hU : U.heap = H) (hW : s.WarmedH U.vm) : mm_B D ad H.size hp U := by
  refine ⟨by rw [hU], by rw [hU]; exact hH.1, va_K.moved hW.alike hK, mm_T.moved hW.alike hH.2.2.1, hH.2.1.weaken (fun _ _ _ _ => trivial), ?_⟩
  rw [hU]
  have hF : ∀ q, va_A (mm_ws ad hp) H.size q → A q := fun q hq => by
    rcases hq with ⟨k, e, hk⟩ | hq
    · exact hH.2.1.2 k _ hk
    · exact hA q (Nat.le_trans hH.2.2.2.1 hq)
  exact mm_G.warm hW (mm_G.narrow (mm_G.kept hG hH.2.2.2.2.1) hF)
def mm_K : mm_g → Option FieldType → mm_A → List mm_c → (Option Value → List mm_c → Prop) → (String → Prop) → Nat → Nat → Prop
  | (p, l, e, R, s, m, args, below, meth, c, nL, D, A, Q), ret, ad, hp0, Φ, Ξ, mc, ms => meth.sig.returnType = ret ∧ meth.locks = false ∧ (∀ x ∈ c.exceptionTable.toList, False) ∧ A = va_A (mm_ws ad hp0) s.heap.size ∧ Q = vx_MQ below (mm_Qc D ad s.heap.size hp0 Φ) (mm_XC D ad s.heap.size hp0 Ξ) args s mc ms A

theorem mm_start {l : Launch} {D : va_G} {y : MethodName} {ws ws' : List Cond} {rm : Room} {av : List Value} {hp : List mm_c} {Φ : Option Value → List mm_c → Prop} {Ξ : String → Prop} {mc ms : Nat} {cc : ByteArray} {maxL : Nat} {ret : Option FieldType} {own : String}
    (hy : plainName y.cls = true) (hw : ws = Cond.code y cc maxL ret :: ws') (ho : y.cls = own) (hlen : (lg_sl av).length ≤ maxL) (hav : ∀ ad, (lg_sl (av.map (mm_v ad))).length = (lg_sl av).length)
    (hlv : ∀ ad, lv_args 0 (av.map (mm_v ad)) = mm_lv ad (lv_args 0 av))
    (body : ∀ (g : mm_g) (ad : mm_A), mm_l g = l → mm_D0 g = D → mm_nL g = maxL → mm_C g cc own ws rm ad → mm_K g ret ad hp Φ Ξ mc ms → mm_M g ad 0 0 hp 0 (lv_args 0 av) []) : mm_Met l D y ws rm av hp Φ Ξ mc ms := by
  intro hlt ad sz
  refine vx_ofW (cc := cc) (maxL := maxL) (ret := ret) hy hw ?_
  intro p e s m args below meth c s₁ B hml hex hv
  obtain ⟨rfl, hsz, hP, hK, hT, hD0, hG⟩ := hv
  subst hsz
  have hts := atoms_spec (ws := ws) B.pre
  have hown : s.vm.findClass own = some m.cls := by rw [← ho]; exact findClass_of_methodNamed B.named
  have hl := lv_entry (av.map (mm_v ad)) (n := maxL) (by rw [hav]; exact hlen)
  rw [lg_entry_eq]
  generalize (lg_sl (av.map (mm_v ad)) ++ List.replicate (maxL - (lg_sl (av.map (mm_v ad))).length) Slot.unset).toArray = ls at hl ⊢
  rw [hlv] at hl
  have hD := hD0.self (sz := s.heap.size)
  exact body (p, l, e, rm, s, m, (av.map (mm_v ad)).toArray, below, meth, c, maxL, D, va_A (mm_ws ad hp) s.heap.size, vx_MQ below (mm_Qc D ad s.heap.size hp Φ) (mm_XC D ad s.heap.size hp Ξ) (av.map (mm_v ad)).toArray s mc ms (va_A (mm_ws ad hp) s.heap.size)) ad rfl rfl rfl
    ⟨B.exec, B.bytes, hml, hown, hts, hK, fun q h => Or.inr h, hG, hlt, rfl⟩ ⟨B.returns, B.notSynchronized, hex, rfl, rfl⟩ s.heap [] ls ⟨hP, hD, hT, va_S.rf⟩ hl

theorem mm_iret {g : mm_g} {cc : ByteArray} {own : String} {Ts : List Cond} {rm : Room} {ad : mm_A} {cells slots : Nat} {hp : List mm_c} {pc : Nat} {lv : List (Nat × Value)} (C : mm_C g cc own Ts rm ad) {hp0 : List mm_c} {Φ : Option Value → List mm_c → Prop} {Ξ : String → Prop} {mc ms : Nat} {ty : FieldType} (K : mm_K g (some ty) ad hp0 Φ Ξ mc ms) {v : Int32} (hn : narrow ty (.int v) = .int v) (hd : decode cc pc = .ok (.ireturn, 1)) (hΦ : Φ (some (.int v)) hp) (hsh : mm_sh hp = mm_sh hp0) (hc : cells ≤ mc) (hs : slots ≤ ms) : mm_M g ad cells slots hp pc lv [.int v] := by
  obtain ⟨p, l, e, R, s, m, args, below, meth, c, nL, D, A, Q⟩ := g
  obtain ⟨hx, hb, hml, hown, hts, hK, hA, hG, hlt, hR⟩ := C
  obtain ⟨hr, hlk, hex, hAe, hQ⟩ := K
  subst hAe
  subst hQ
  intro H locs ls hH h
  refine W.widen (k := mc) (n := ms) hc hs (vx_ret ?_)
  exact W.zret hx hb hr hn (fun t ht hW => ⟨⟨some (.int v), hp, rfl, hΦ, hsh, by rw [ht]; exact hH.1⟩, hH.2.2.2.F ht⟩) hH.2.2.2.2.2 hd hlk
theorem mm_vret {g : mm_g} {cc : ByteArray} {own : String} {Ts : List Cond} {rm : Room} {ad : mm_A} {cells slots : Nat} {hp : List mm_c} {pc : Nat} {lv : List (Nat × Value)} (C : mm_C g cc own Ts rm ad) {hp0 : List mm_c} {Φ : Option Value → List mm_c → Prop} {Ξ : String → Prop} {mc ms : Nat} (K : mm_K g none ad hp0 Φ Ξ mc ms) (hd : decode cc pc = .ok (.return_, 1)) (hΦ : Φ none hp) (hsh : mm_sh hp = mm_sh hp0) (hc : cells ≤ mc) (hs : slots ≤ ms) : mm_M g ad cells slots hp pc lv [] := by
  obtain ⟨p, l, e, R, s, m, args, below, meth, c, nL, D, A, Q⟩ := g
  obtain ⟨hx, hb, hml, hown, hts, hK, hA, hG, hlt, hR⟩ := C
  obtain ⟨hr, hlk, hex, hAe, hQ⟩ := K
  subst hAe
  subst hQ
  intro H locs ls hH h
  refine W.widen (k := mc) (n := ms) hc hs (vx_ret ?_)
  exact W.vret hx hb hr (fun t ht hW => ⟨⟨none, hp, rfl, hΦ, hsh, by rw [ht]; exact hH.1⟩, hH.2.2.2.F ht⟩) hH.2.2.2.2.2 hd hlk
theorem mm_out {g : mm_g} {cc : ByteArray} {own : String} {Ts : List Cond} {rm : Room} {ad : mm_A} {cells slots : Nat} {hp : List mm_c} {pc : Nat} {lv : List (Nat × Value)} {st : List Value} (C : mm_C g cc own Ts rm ad) {Φ : Option Value → List mm_c → Prop} {Ξ : String → Prop} {mc ms : Nat} {ret : Option FieldType} (K : mm_K g ret ad hp Φ Ξ mc ms) {E : String} (hE : Ξ E) (hc : cells ≤ mc) (hs : slots ≤ ms) : mm_X g ad cells slots hp pc lv st E := by
  obtain ⟨p, l, e, R, s, m, args, below, meth, c, nL, D, A, Q⟩ := g
  obtain ⟨hx, hb, hml, hown, hts, hK, hA, hG, hlt, hR⟩ := C
  obtain ⟨hr, hlk, hex, hAe, hQ⟩ := K
  subst hAe
  subst hQ
  intro H locs ls q ce hH h hce hcv hcl
  exact vx_out (fun x hx9 => (hex x hx9).elim) hlk hce hcv hcl (fun t ht ha => ⟨hE, by rw [ht]; exact hH.1, hH.2.2.2.F ht⟩) hH.2.2.2.2.2 hc hs
theorem mm_callV {g : mm_g} {cc : ByteArray} {own : String} {Ts : List Cond} {rm : Room} {ad : mm_A} {cells slots : Nat} {hp : List mm_c} {pc : Nat} {lv : List (Nat × Value)} {st stk : List Value} (C : mm_C g cc own Ts rm ad) {y : MethodName} {ws ws' : List Cond} {rmY : Room} {bytes : ByteArray} {maxL idx : Nat} {ret : Option FieldType} {av : List Value} {Φ : Option Value → List mm_c → Prop} {Ξ : String → Prop} {mc ms : Nat} (pl : Nat) {ci N : Nat} {fs : List Value} {Cn : String} {F : u_T} (hT : GoodIn Ts (wsV own idx Cn y ws)) (hdd : y.cls = Cn ∧ y.cls ≠ "java/lang/invoke/MethodHandle" ∧ y.cls ≠ "java/lang/invoke/VarHandle" ∧ (parseMethodDescriptor y.desc).map (fun d => d.parameters.length) = some av.length) (hM : mm_Met (mm_l g) (mm_D0 g) y ws rmY (.ref pl :: av) hp Φ Ξ mc ms) (n : Nat) (he : hp[pl]? = some (.inr (.inl (ci, fs)))) (hcl9 : vwCl[ci]? = some (Cn, F, N)) (hw : ws = Cond.code y bytes maxL ret :: ws') (hrc : rmY.cells = mc) (hrs : rmY.slots = ms) (hR9 : rmY.frames + 1 ≤ rm.frames ∧ 8 + (maxL + 11) + rmY.locals ≤ rm.locals) (hn : av.length = n) (hstk : stk = av.reverse ++ .ref pl :: st) (hsum : (st.map fun v => v.category).sum ≤ 8) (hd : decode cc pc = .ok (.invokevirtual idx, 3)) (hf : cells + mc ≤ rm.cells ∧ slots + ms ≤ rm.slots)
    (kx : ∀ E, Ξ E → mm_X g ad (cells + mc) (slots + ms) hp pc lv st E)
    (kk : ∀ (v : Option Value) (hp' : List mm_c), Φ v hp' → mm_sh hp' = mm_sh hp → mm_M g ad (cells + mc) (slots + ms) hp' (pc + 3) lv (v.toList ++ st)) : mm_M g ad cells slots hp pc lv stk := by
  subst hstk
  obtain ⟨p, l, e, R, s, m, args, below, meth, c, nL, D, A, Q⟩ := g
  obtain ⟨hx, hb, hml, hown, hts, hK, hA, hG, hlt, hR⟩ := C
  subst hR
  intro H locs ls hH h
  have hm := hM hlt ad H.size
  have hpre := mm_pre hK hA hG hH
  have hF : ∀ q, va_A (mm_ws ad hp) H.size q → A q := fun q hq => by
    rcases hq with ⟨k, e, hk⟩ | hq
    · exact hH.2.1.2 k _ hk
    · exact hA q (Nat.le_trans hH.2.2.2.1 hq)
  have hsum' : 2 * (F0 m pc ls (st.map (mm_v ad))).monitorRoom + ((st.map (mm_v ad)).map fun v => v.category).sum ≤ 8 := lv_room (by
    have : ((st.map (mm_v ad)).map fun v => v.category) = st.map fun v => v.category := by
      rw [List.map_map]; exact List.map_congr_left (fun v _ => mm_v_cat ad v)
    rw [this]; exact hsum)
  have hrun := vx_runV (e := e) (below := below) (meth := meth) (C := Cn) (H := H) (locs := locs) (cells := cells) (slots := slots) (b := (ad pl).1) (As := av.map (mm_v ad)) (rest := st.map (mm_v ad)) (g := F0 m pc ls ((av.reverse ++ .ref pl :: st).map (mm_v ad))) ⟨hx, hb, hml, hown, hts⟩ hm (cwV n hts hT hw hrc hrs (hn ▸ hdd) hR9) ⟨mm_blind D ad H.size hp _, va_recv hK hH.1 hcl9 (mm_ws_at he), fun U hU hW => ⟨rfl, hpre U hU hW⟩⟩ rfl (by rw [List.length_map]; exact hn) h.1 (by show List.map (mm_v ad) (av.reverse ++ .ref pl :: st) = _; simp [mm_v]) hsum' hd hf
  intro T hT X
  rcases hrun T hT X with ⟨v, st₀, t, T', L, h0, X', hL, e1, e2, ⟨⟨v9, hp9, hv, hΦ, hsh, hP9⟩, hFr⟩, st9⟩ | ⟨q, st₀, t, T', L, E, ce, h0, X', hL, e1, e2, ⟨hE, hP9, hFr⟩, hce, hcv, hcl, st9⟩
  · cases hv
    obtain ⟨k1, k2, k3⟩ := vx_keep h0 e1 hH.2.2.2 (fun q _ hq => hF q hq) hF hL hFr
    have hk := kk v9 hp9 hΦ hsh T'.heap (locs ++ L) ls ⟨by rw [e1]; exact hP9, mm_D.sh hH.2.1 hsh, hH.2.2.1.sh hsh, k3⟩ h
    obtain ⟨t2, a1, b1⟩ := hk T' rfl X'
    refine ⟨t2, st9 t2 ?_, b1⟩
    have e9 : (Option.map (mm_v ad) v9).toList ++ st.map (mm_v ad) = (v9.toList ++ st).map (mm_v ad) := by cases v9 <;> rfl
    rw [e9]; exact a1
  · obtain ⟨k1, k2, k3⟩ := vx_keep h0 e1 hH.2.2.2 (fun q _ hq => hF q hq) hF hL hFr
    have hk := kx E hE T'.heap (locs ++ L) ls q ce ⟨by rw [e1]; exact hP9, hH.2.1, hH.2.2.1, k3⟩ h (by rw [e1]; exact hce) hcv hcl
    obtain ⟨t2, a1, b1⟩ := hk T' rfl X'
    exact ⟨t2, st9.trans a1, b1⟩
theorem mm_callS {g : mm_g} {cc : ByteArray} {own : String} {Ts : List Cond} {rm : Room} {ad : mm_A} {cells slots : Nat} {hp : List mm_c} {pc : Nat} {lv : List (Nat × Value)} {st stk : List Value} (C : mm_C g cc own Ts rm ad) {y : MethodName} {ws ws' : List Cond} {rmY : Room} {bytes : ByteArray} {maxL idx : Nat} {ret : Option FieldType} {av : List Value} {Φ : Option Value → List mm_c → Prop} {Ξ : String → Prop} {mc ms : Nat} (hT : GoodIn Ts (va_wsS own idx y ws)) (hdd : y.cls ≠ "java/lang/invoke/MethodHandle" ∧ y.cls ≠ "java/lang/invoke/VarHandle" ∧ (parseMethodDescriptor y.desc).map (fun d => d.parameters.length) = some av.length) (hM : mm_Met (mm_l g) (mm_D0 g) y ws rmY (av) hp Φ Ξ mc ms) (n : Nat) (hw : ws = Cond.code y bytes maxL ret :: ws') (hrc : rmY.cells = mc) (hrs : rmY.slots = ms) (hR9 : rmY.frames + 1 ≤ rm.frames ∧ 8 + (maxL + 11) + rmY.locals ≤ rm.locals) (hn : av.length = n) (hstk : stk = av.reverse ++ st) (hsum : (st.map fun v => v.category).sum ≤ 8) (hd : decode cc pc = .ok (.invokestatic idx, 3)) (hf : cells + mc ≤ rm.cells ∧ slots + ms ≤ rm.slots)
    (kx : ∀ E, Ξ E → mm_X g ad (cells + mc) (slots + ms) hp pc lv st E)
    (kk : ∀ (v : Option Value) (hp' : List mm_c), Φ v hp' → mm_sh hp' = mm_sh hp → mm_M g ad (cells + mc) (slots + ms) hp' (pc + 3) lv (v.toList ++ st)) : mm_M g ad cells slots hp pc lv stk := by
  subst hstk
  obtain ⟨p, l, e, R, s, m, args, below, meth, c, nL, D, A, Q⟩ := g
  obtain ⟨hx, hb, hml, hown, hts, hK, hA, hG, hlt, hR⟩ := C
  subst hR
  intro H locs ls hH h
  have hm := hM hlt ad H.size
  have hpre := mm_pre hK hA hG hH
  have hF : ∀ q, va_A (mm_ws ad hp) H.size q → A q := fun q hq => by
    rcases hq with ⟨k, e, hk⟩ | hq
    · exact hH.2.1.2 k _ hk
    · exact hA q (Nat.le_trans hH.2.2.2.1 hq)
  have hsum' : 2 * (F0 m pc ls (st.map (mm_v ad))).monitorRoom + ((st.map (mm_v ad)).map fun v => v.category).sum ≤ 8 := lv_room (by
    have : ((st.map (mm_v ad)).map fun v => v.category) = st.map fun v => v.category := by
      rw [List.map_map]; exact List.map_congr_left (fun v _ => mm_v_cat ad v)
    rw [this]; exact hsum)
  have hrun := vx_runS (e := e) (below := below) (meth := meth) (H := H) (locs := locs) (cells := cells) (slots := slots) (As := av.map (mm_v ad)) (rest := st.map (mm_v ad)) (g := F0 m pc ls ((av.reverse ++ st).map (mm_v ad))) ⟨hx, hb, hml, hown, hts⟩ hm (va_cwS n hts hT hw hrc hrs (hn ▸ hdd) hR9) ⟨mm_blind D ad H.size hp _, fun U hU hW => ⟨rfl, hpre U hU hW⟩⟩ rfl (by rw [List.length_map]; exact hn) h.1 (by show List.map (mm_v ad) (av.reverse ++ st) = _; simp) hsum' hd hf
  intro T hT X
  rcases hrun T hT X with ⟨v, st₀, t, T', L, h0, X', hL, e1, e2, ⟨⟨v9, hp9, hv, hΦ, hsh, hP9⟩, hFr⟩, st9⟩ | ⟨q, st₀, t, T', L, E, ce, h0, X', hL, e1, e2, ⟨hE, hP9, hFr⟩, hce, hcv, hcl, st9⟩
  · cases hv
    obtain ⟨k1, k2, k3⟩ := vx_keep h0 e1 hH.2.2.2 (fun q _ hq => hF q hq) hF hL hFr
    have hk := kk v9 hp9 hΦ hsh T'.heap (locs ++ L) ls ⟨by rw [e1]; exact hP9, mm_D.sh hH.2.1 hsh, hH.2.2.1.sh hsh, k3⟩ h
    obtain ⟨t2, a1, b1⟩ := hk T' rfl X'
    refine ⟨t2, st9 t2 ?_, b1⟩
    have e9 : (Option.map (mm_v ad) v9).toList ++ st.map (mm_v ad) = (v9.toList ++ st).map (mm_v ad) := by cases v9 <;> rfl
    rw [e9]; exact a1
  · obtain ⟨k1, k2, k3⟩ := vx_keep h0 e1 hH.2.2.2 (fun q _ hq => hF q hq) hF hL hFr
    have hk := kx E hE T'.heap (locs ++ L) ls q ce ⟨by rw [e1]; exact hP9, hH.2.1, hH.2.2.1, k3⟩ h (by rw [e1]; exact hce) hcv hcl
    obtain ⟨t2, a1, b1⟩ := hk T' rfl X'
    exact ⟨t2, st9.trans a1, b1⟩
theorem mm_toMet {l : Launch} {y : MethodName} {ws : List Cond} {rm : Room} {Pc : Array Value → State → Prop} {Qc : Array Value → State → Outcome → State → Prop} {XC : String → State → State → Prop} {mc ms : Nat} {free : Addr → Prop} (h : vx_Met l y ws rm Pc Qc XC mc ms free) (hX : ∀ E st t, XC E st t → False) : Met l y ws rm Pc Qc mc ms free :=
  MetFree.mono h (fun _ _ h => h) (fun _ _ _ _ _ _ => trivial) (fun a s o s' _ hq => hq.elim (fun z => z) (fun ⟨q, _, E, ce, L, hx, _⟩ => (hX E s s' hx).elim))
theorem mm_callVN {g : mm_g} {cc : ByteArray} {own : String} {Ts : List Cond} {rm : Room} {ad : mm_A} {cells slots : Nat} {hp : List mm_c} {pc : Nat} {lv : List (Nat × Value)} {st stk : List Value} (C : mm_C g cc own Ts rm ad) {y : MethodName} {ws ws' : List Cond} {rmY : Room} {bytes : ByteArray} {maxL idx : Nat} {ret : Option FieldType} {av : List Value} {Φ : Option Value → List mm_c → Prop} {mc ms : Nat} (pl : Nat) {ci N : Nat} {fs : List Value} {Cn : String} {F : u_T} {host : String} (hT : GoodIn Ts ws) (hl9 : Cond.methodLinkNest own idx y host ∈ mm_nw) (hi9 : Cond.initialized y.cls ∈ Ts) (hm9 : Cond.instanceMethod y ∈ Ts) (hs9 : Cond.selects Cn y y ∈ Ts) (hdd : y.cls ≠ "java/lang/invoke/MethodHandle" ∧ y.cls ≠ "java/lang/invoke/VarHandle" ∧ (parseMethodDescriptor y.desc).map (fun d => d.parameters.length) = some av.length) (hM : mm_Met (mm_l g) (mm_D0 g) y ws rmY (.ref pl :: av) hp Φ (fun _ => False) mc ms) (n : Nat) (he : hp[pl]? = some (.inr (.inl (ci, fs)))) (hcl9 : vwCl[ci]? = some (Cn, F, N)) (hw : ws = Cond.code y bytes maxL ret :: ws') (hrc : rmY.cells = mc) (hrs : rmY.slots = ms) (hR9 : rmY.frames + 1 ≤ rm.frames ∧ 8 + (maxL + 11) + rmY.locals ≤ rm.locals) (hn : av.length = n) (hstk : stk = av.reverse ++ .ref pl :: st) (hsum : (st.map fun v => v.category).sum ≤ 8) (hd : decode cc pc = .ok (.invokevirtual idx, 3)) (hf : cells + mc ≤ rm.cells ∧ slots + ms ≤ rm.slots)
    (kk : ∀ (v : Option Value) (hp' : List mm_c), Φ v hp' → mm_sh hp' = mm_sh hp → mm_M g ad (cells + mc) (slots + ms) hp' (pc + 3) lv (v.toList ++ st)) : mm_M g ad cells slots hp pc lv stk := by
  subst hstk
  obtain ⟨p, l, e, R, s, m, args, below, meth, c, nL, D, A, Q⟩ := g
  obtain ⟨hx, hb, hml, hown, hts, hK, hA, hG, hlt, hR⟩ := C
  subst hR
  intro H locs ls hH h
  have hm := hM hlt ad H.size
  have hpre := mm_pre hK hA hG hH
  have hF : ∀ q, va_A (mm_ws ad hp) H.size q → A q := fun q hq => by
    rcases hq with ⟨k, e, hk⟩ | hq
    · exact hH.2.1.2 k _ hk
    · exact hA q (Nat.le_trans hH.2.2.2.1 hq)
  have hsum' : 2 * (F0 m pc ls (st.map (mm_v ad))).monitorRoom + ((st.map (mm_v ad)).map fun v => v.category).sum ≤ 8 := lv_room (by
    have : ((st.map (mm_v ad)).map fun v => v.category) = st.map fun v => v.category := by
      rw [List.map_map]; exact List.map_congr_left (fun v _ => mm_v_cat ad v)
    rw [this]; exact hsum)
  have hrun := va_runVN (host := host) (e := e) (below := below) (meth := meth) (C := Cn) (H := H) (locs := locs) (cells := cells) (slots := slots) (b := (ad pl).1) (As := av.map (mm_v ad)) (rest := st.map (mm_v ad)) (g := F0 m pc ls ((av.reverse ++ .ref pl :: st).map (mm_v ad))) ⟨hx, hb, hml, hown, hts⟩ (mm_toMet hm (fun E st t h9 => h9.1)) ⟨va_cnB n hts hT hw hrc hrs (hG.1 _ hl9) (hts _ hi9) (hn ▸ hdd) hR9, hts _ hm9, hts _ hs9⟩ ⟨mm_blind D ad H.size hp _, va_recv hK hH.1 hcl9 (mm_ws_at he), fun U hU hW => ⟨rfl, hpre U hU hW⟩⟩ rfl (by rw [List.length_map]; exact hn) h.1 (by show List.map (mm_v ad) (av.reverse ++ .ref pl :: st) = _; simp [mm_v]) hsum' hd hf
  intro T hT X
  obtain ⟨v, st₀, t, T', L, h0, X', hL, e1, e2, ⟨⟨v9, hp9, hv, hΦ, hsh, hP9⟩, hFr⟩, st9⟩ := hrun T hT X
  cases hv
  obtain ⟨k1, k2, k3⟩ := vx_keep h0 e1 hH.2.2.2 (fun q _ hq => hF q hq) hF hL hFr
  have hk := kk v9 hp9 hΦ hsh T'.heap (locs ++ L) ls ⟨by rw [e1]; exact hP9, mm_D.sh hH.2.1 hsh, hH.2.2.1.sh hsh, k3⟩ h
  obtain ⟨t2, a1, b1⟩ := hk T' rfl X'
  refine ⟨t2, st9 t2 ?_, b1⟩
  have e9 : (Option.map (mm_v ad) v9).toList ++ st.map (mm_v ad) = (v9.toList ++ st).map (mm_v ad) := by cases v9 <;> rfl
  rw [e9]; exact a1
