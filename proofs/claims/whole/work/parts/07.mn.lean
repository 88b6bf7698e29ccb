/-- a value that doesn't name the places from a on to b -/
def mm_okv (a b : Nat) : Value → Bool
  | .ref p => decide (p < a) || decide (b ≤ p)
  | _ => true
def mm_okc (a b : Nat) : mm_c → Bool
  | .inr (.inl o) => o.2.all (mm_okv a b)
  | _ => true
def mm_ext (ad ad' : mm_A) (a b : Nat) : Prop := ∀ q, q < a ∨ b ≤ q → ad' q = ad q
theorem mm_okv_eq {ad ad' : mm_A} {a b : Nat} (he : mm_ext ad ad' a b) {v : Value} (h : mm_okv a b v = true) : mm_v ad' v = mm_v ad v := by
  cases v with
  | ref p =>
    simp only [mm_okv, Bool.or_eq_true, decide_eq_true_eq] at h
    show Value.ref (ad' p).1 = Value.ref (ad p).1
    rw [he p h]
  | _ => rfl
theorem mm_okl {ad ad' : mm_A} {a b : Nat} (he : mm_ext ad ad' a b) {l : List Value} (h : l.all (mm_okv a b) = true) : l.map (mm_v ad') = l.map (mm_v ad) :=
  List.map_congr_left (fun v hv => mm_okv_eq he (List.all_eq_true.mp h v hv))
theorem mm_oklv {ad ad' : mm_A} {a b : Nat} (he : mm_ext ad ad' a b) {lv : List (Nat × Value)} (h : lv.all (fun q => mm_okv a b q.2) = true) : mm_lv ad' lv = mm_lv ad lv :=
  List.map_congr_left (fun q hq => by rw [mm_okv_eq he (List.all_eq_true.mp h q hq)])
theorem mm_okws {ad ad' : mm_A} {b : Nat} {hp : List mm_c} (he : mm_ext ad ad' hp.length b) (h : hp.all (mm_okc hp.length b) = true) : mm_ws ad' hp = mm_ws ad hp := by
  apply List.ext_getElem?
  intro i
  rw [mm_ws_get, mm_ws_get]
  cases hi : hp[i]? with
  | none => rfl
  | some c =>
    have hlt : i < hp.length := (List.getElem?_eq_some_iff.mp hi).1
    have hc := List.all_eq_true.mp h c (List.mem_of_getElem? hi)
    have hai := he i (Or.inl hlt)
    cases c with
    | inl a => simp [mm_e, hai]
    | inr o =>
      cases o with
      | inl o =>
        have hm := mm_okl he (l := o.2) hc
        simp [mm_e, hai, hm]
      | inr a => simp [mm_e, hai]
theorem mm_ws_app (ad : mm_A) (hp : List mm_c) (c : mm_c) : mm_ws ad (hp ++ [c]) = mm_ws ad hp ++ [((ad hp.length).1, mm_e ad hp.length c)] := by
  apply List.ext_getElem?
  intro i
  rw [mm_ws_get]
  by_cases h : i < hp.length
  · rw [List.getElem?_append_left h, List.getElem?_append_left (by rw [mm_ws_len]; exact h), mm_ws_get]
  · rw [List.getElem?_append_right (Nat.le_of_not_lt h), List.getElem?_append_right (by rw [mm_ws_len]; exact Nat.le_of_not_lt h), mm_ws_len]
    by_cases h2 : i = hp.length
    · subst h2; simp
    · have h3 : i - hp.length ≠ 0 := by omega
      obtain ⟨k, hk⟩ := Nat.exists_eq_succ_of_ne_zero h3
      rw [hk]; simp
/-- the map with one place more -/
def mm_up (ad : mm_A) (n : Nat) (q : Nat × ClassId) : mm_A := fun k => if k = n then q else ad k
theorem mm_up_ext (ad : mm_A) (n : Nat) (q : Nat × ClassId) : mm_ext ad (mm_up ad n q) n (n + 1) := fun k hk => if_neg (by omega)
theorem mm_up_at (ad : mm_A) (n : Nat) (q : Nat × ClassId) : mm_up ad n q n = q := if_pos rfl
theorem mm_ext.tr {ad ad' ad'' : mm_A} {a b d : Nat} (h1 : mm_ext ad ad' a b) (h2 : mm_ext ad' ad'' b d) (hab : a ≤ b) (hbd : b ≤ d) : mm_ext ad ad'' a d := fun q hq => by
  rw [h2 q (by omega), h1 q (by omega)]
theorem mm_C.ext {g : mm_g} {cc : ByteArray} {own : String} {Ts : List Cond} {rm : Room} {ad ad' : mm_A} {a b : Nat} (C : mm_C g cc own Ts rm ad) (he : mm_ext ad ad' a b) (hb9 : b ≤ 1000000) : mm_C g cc own Ts rm ad' := by
  obtain ⟨p, l, e, R, s, m, args, below, meth, c, nL, D, A, Q⟩ := g
  obtain ⟨hx, hb, hml, hown, hts, hK, hA, hG, hlt, hR⟩ := C
  exact ⟨hx, hb, hml, hown, hts, hK, hA, mm_G.ext hG (fun q hq => he q (Or.inr (Nat.le_trans hb9 hq))), hlt, hR⟩
def mm_QcA (D : va_G) (ad : mm_A) (sz : Nat) (hp : List mm_c) (Φ : Option Value → List mm_c → Prop) : Array Value → State → Outcome → State → Prop := fun _ st oc t => (∃ (v : Option Value) (hp' : List mm_c) (ad' : mm_A), oc = .returned (v.map (mm_v ad')) ∧ Φ v hp' ∧ hp.length ≤ hp'.length ∧ mm_ext ad ad' hp.length hp'.length ∧ va_P D vwCl (mm_ws ad' hp') t.heap ∧ va_D (va_A (mm_ws ad hp) sz) (mm_ws ad' hp') ∧ mm_T t ad' hp') ∧ va_F (va_A (mm_ws ad hp) sz) st t
/-- THE CONTRACT of a method that makes cells of the world: the new places come behind the old ones -/
def mm_MetA (l : Launch) (D : va_G) (y : MethodName) (ws : List Cond) (rm : Room) (av : List Value) (hp : List mm_c) (Φ : Option Value → List mm_c → Prop) (mc ms : Nat) : Prop :=
  l.stackTraces = false → ∀ (ad : mm_A) (sz : Nat), Met l y ws rm (va_Pc (av.map (mm_v ad)) (mm_B D ad sz hp)) (mm_QcA D ad sz hp Φ) mc ms (va_A (mm_ws ad hp) sz)
def mm_KA : mm_g → Option FieldType → mm_A → List mm_c → (Option Value → List mm_c → Prop) → Nat → Nat → Prop
  | (p, l, e, R, s, m, args, below, meth, c, nL, D, A, Q), ret, ad, hp0, Φ, mc, ms => meth.sig.returnType = ret ∧ meth.locks = false ∧ meth.name = "<init>" ∧ A = va_A (mm_ws ad hp0) s.heap.size ∧ Q = MQ below (mm_QcA D ad s.heap.size hp0 Φ) args s mc ms A
theorem mm_startA {l : Launch} {D : va_G} {y : MethodName} {ws ws' : List Cond} {rm : Room} {av : List Value} {hp : List mm_c} {Φ : Option Value → List mm_c → Prop} {mc ms : Nat} {cc : ByteArray} {maxL : Nat} {ret : Option FieldType} {own : String}
    (hy : plainName y.cls = true) (hw : ws = Cond.code y cc maxL ret :: ws') (ho : y.cls = own) (hyi : y.name = "<init>") (hlen : (lg_sl av).length ≤ maxL) (hav : ∀ ad, (lg_sl (av.map (mm_v ad))).length = (lg_sl av).length)
    (hlv : ∀ ad, lv_args 0 (av.map (mm_v ad)) = mm_lv ad (lv_args 0 av))
    (body : ∀ (g : mm_g) (ad : mm_A), mm_l g = l → mm_D0 g = D → mm_nL g = maxL → mm_C g cc own ws rm ad → mm_KA g ret ad hp Φ mc ms → mm_M g ad 0 0 hp 0 (lv_args 0 av) []) : mm_MetA l D y ws rm av hp Φ mc ms := by
  intro hlt ad sz
  refine Met.ofW (cc := cc) (maxL := maxL) (ret := ret) hy hw ?_
  intro p e s m args below meth c s₁ B hml hv
  obtain ⟨rfl, hsz, hP, hK, hT, hD0, hG⟩ := hv
  subst hsz
  have hts := atoms_spec (ws := ws) B.pre
  have hown : s.vm.findClass own = some m.cls := by rw [← ho]; exact findClass_of_methodNamed B.named
  have hin : meth.name = "<init>" := by rw [← hyi]; exact (name_of_methodNamed B.named B.method).1
  have hl := lv_entry (av.map (mm_v ad)) (n := maxL) (by rw [hav]; exact hlen)
  rw [lg_entry_eq]
  generalize (lg_sl (av.map (mm_v ad)) ++ List.replicate (maxL - (lg_sl (av.map (mm_v ad))).length) Slot.unset).toArray = ls at hl ⊢
  rw [hlv] at hl
  have hD := hD0.self (sz := s.heap.size)
  exact body (p, l, e, rm, s, m, (av.map (mm_v ad)).toArray, below, meth, c, maxL, D, va_A (mm_ws ad hp) s.heap.size, MQ below (mm_QcA D ad s.heap.size hp Φ) (av.map (mm_v ad)).toArray s mc ms (va_A (mm_ws ad hp) s.heap.size)) ad rfl rfl rfl
    ⟨B.exec, B.bytes, hml, hown, hts, hK, fun q h => Or.inr h, hG, hlt, rfl⟩ ⟨B.returns, B.notSynchronized, hin, rfl, rfl⟩ s.heap [] ls ⟨hP, hD, hT, va_S.rf⟩ hl

theorem mm_newa {g : mm_g} {cc : ByteArray} {own : String} {Ts : List Cond} {rm : Room} {ad : mm_A} {cells slots : Nat} {hp : List mm_c} {pc : Nat} {lv : List (Nat × Value)} {st : List Value} (C : mm_C g cc own Ts rm ad) {n : Int32} {N : Nat} (harr : Cond.arrayClass .int ∈ Ts) (hn : ¬ n < 0) (hN : n.toNatClampNeg = N) (hby : N * 4 ≤ 536870912) (hcells : cells + 1 ≤ rm.cells) (hslots : slots + N ≤ rm.slots) (hd : decode cc pc = .ok (.newarray .int, 2)) (ok1 : hp.all (mm_okc hp.length (hp.length + 1)) = true) (ok2 : lv.all (fun q => mm_okv hp.length (hp.length + 1) q.2) = true) (ok3 : st.all (mm_okv hp.length (hp.length + 1)) = true) (ok4 : hp.length + 1 ≤ 1000000)
    (k : ∀ ad' : mm_A, mm_ext ad ad' hp.length (hp.length + 1) → mm_C g cc own Ts rm ad' → mm_M g ad' (cells + 1) (slots + N) (hp ++ [.inl (N, fun _ => 0)]) (pc + 2) lv (.ref hp.length :: st)) : mm_M g ad cells slots hp pc lv (.int n :: st) := by
  obtain ⟨p, l, e, R, s, m, args, below, meth, c, nL, D, A, Q⟩ := g
  have C0 := C
  obtain ⟨hx, hb, hml, hown, hts, hK, hA, hG, hlt, hR⟩ := C
  intro H locs ls hH h
  subst hR
  refine va_newa (D := D) (cl := vwCl) (atype := .int) (ty := .int) (a0 := (N, .inl (fun _ => 0))) hx hb (hts _ harr) rfl hK hH.1 hH.2.1 hH.2.2.2 hA (fun _ => rfl) hn hN hby hcells hslots hd (fun q cA H1 hK1 hP1 hD1 hS1 => ?_)
  have he := mm_up_ext ad hp.length (q, cA)
  have hws := mm_okws he ok1
  have hws1 : mm_ws (mm_up ad hp.length (q, cA)) (hp ++ [.inl (N, fun _ => 0)]) = mm_ws ad hp ++ [(q, .inl (cA, N, .inl (fun _ => 0)))] := by
    rw [mm_ws_app, hws, mm_up_at]; simp [mm_e, mm_up_at]
  have hk := k (mm_up ad hp.length (q, cA)) he (mm_C.ext C0 he ok4) H1 locs ls ⟨by rw [hws1]; exact hP1, by rw [hws1]; exact hD1, ?_, hS1⟩ (by rw [mm_oklv he ok2]; exact h)
  · have e9 : List.map (mm_v (mm_up ad hp.length (q, cA))) (.ref hp.length :: st) = .ref q :: st.map (mm_v ad) := by
      rw [List.map_cons, mm_okl he ok3]; simp [mm_v, mm_up_at]
    rw [e9] at hk
    exact hk
  · intro p9 a9 ty9 h9 hty9
    by_cases hp9 : p9 < hp.length
    · rw [List.getElem?_append_left hp9] at h9
      rw [he p9 (Or.inl hp9)]
      exact hH.2.2.1 p9 a9 ty9 h9 hty9
    · have hlt9 := (List.getElem?_eq_some_iff.mp h9).1
      rw [List.length_append, List.length_singleton] at hlt9
      have e8 : p9 = hp.length := by omega
      subst e8
      rw [List.getElem?_append_right (Nat.le_refl _), Nat.sub_self] at h9
      cases h9
      cases hty9
      rw [mm_up_at]
      exact hK1.2 0 (cA, .int) rfl
theorem mm_new {g : mm_g} {cc : ByteArray} {own : String} {Ts : List Cond} {rm : Room} {ad : mm_A} {cells slots : Nat} {hp : List mm_c} {pc : Nat} {lv : List (Nat × Value)} {st : List Value} (C : mm_C g cc own Ts rm ad) {ci N idx : Nat} {Cn : String} {F : u_T} {fs : List Value} (hin : ∀ w ∈ u_ws Cn F N, w ∈ Ts) (ty : Nat → FieldType) (hty : ∀ k, k < N → parseFieldDescriptor (F k).2.2.1 = some (ty k)) (hcl : Cond.classLink own idx Cn ∈ Ts) (hinst : Cond.instantiable Cn N ∈ Ts) (hini : Cond.initialized Cn ∈ Ts) (hc : vwCl[ci]? = some (Cn, F, N)) (hfs : ∀ j, j < N → defaultValue (ty j) = vp_V fs j) (hfr : fs.all (fun v => match v with | .ref _ => false | _ => true) = true) (hcells : cells + 1 ≤ rm.cells) (hslots : slots + N ≤ rm.slots) (hd : decode cc pc = .ok (.new idx, 3)) (ok1 : hp.all (mm_okc hp.length (hp.length + 1)) = true) (ok2 : lv.all (fun q => mm_okv hp.length (hp.length + 1) q.2) = true) (ok3 : st.all (mm_okv hp.length (hp.length + 1)) = true) (ok4 : hp.length + 1 ≤ 1000000)
    (k : ∀ ad' : mm_A, mm_ext ad ad' hp.length (hp.length + 1) → mm_C g cc own Ts rm ad' → mm_M g ad' (cells + 1) (slots + N) (hp ++ [.inr (.inl (ci, fs))]) (pc + 3) lv (.ref hp.length :: st)) : mm_M g ad cells slots hp pc lv st := by
  obtain ⟨p, l, e, R, s, m, args, below, meth, c, nL, D, A, Q⟩ := g
  have C0 := C
  obtain ⟨hx, hb, hml, hown, hts, hK, hA, hG, hlt, hR⟩ := C
  intro H locs ls hH h
  subst hR
  refine va_new (D := D) (cl := vwCl) (ci := ci) (fs := fs) hx hb hts hin ty hty hown (hts _ hcl) (hts _ hinst) (hts _ hini) hK hH.1 hH.2.1 hH.2.2.2 hA hc hfs hcells hslots hd (fun q H1 hP1 hD1 hS1 => ?_)
  have he := mm_up_ext ad hp.length (q, 0)
  have hws := mm_okws he ok1
  have hfm : fs.map (mm_v (mm_up ad hp.length (q, 0))) = fs := by
    have : ∀ v ∈ fs, mm_v (mm_up ad hp.length (q, 0)) v = id v := fun v hv => by
      have := List.all_eq_true.mp hfr v hv
      cases v <;> first | rfl | simp at this
    rw [List.map_congr_left this, List.map_id]
  have hws1 : mm_ws (mm_up ad hp.length (q, 0)) (hp ++ [.inr (.inl (ci, fs))]) = mm_ws ad hp ++ [(q, .inr (ci, fs))] := by
    rw [mm_ws_app, hws, mm_up_at]; simp [mm_e, hfm]
  have hk := k (mm_up ad hp.length (q, 0)) he (mm_C.ext C0 he ok4) H1 locs ls ⟨by rw [hws1]; exact hP1, by rw [hws1]; exact hD1, ?_, hS1⟩ (by rw [mm_oklv he ok2]; exact h)
  · have e9 : List.map (mm_v (mm_up ad hp.length (q, 0))) (.ref hp.length :: st) = .ref q :: st.map (mm_v ad) := by
      rw [List.map_cons, mm_okl he ok3]; simp [mm_v, mm_up_at]
    rw [e9] at hk
    exact hk
  · intro p9 a9 ty9 h9 hty9
    by_cases hp9 : p9 < hp.length
    · rw [List.getElem?_append_left hp9] at h9
      rw [he p9 (Or.inl hp9)]
      exact hH.2.2.1 p9 a9 ty9 h9 hty9
    · have hlt9 := (List.getElem?_eq_some_iff.mp h9).1
      rw [List.length_append, List.length_singleton] at hlt9
      have e8 : p9 = hp.length := by omega
      subst e8
      rw [List.getElem?_append_right (Nat.le_refl _), Nat.sub_self] at h9
      cases h9
      cases hty9
theorem mm_putF {g : mm_g} {cc : ByteArray} {own : String} {Ts : List Cond} {rm : Room} {ad : mm_A} {cells slots : Nat} {hp : List mm_c} {pc : Nat} {lv : List (Nat × Value)} {st : List Value} (C : mm_C g cc own Ts rm ad) {ad0 : mm_A} {hp0 : List mm_c} {ret : Option FieldType} {Φ : Option Value → List mm_c → Prop} {mc ms : Nat} (K : mm_KA g ret ad0 hp0 Φ mc ms) (pl k : Nat) {ci N idx : Nat} {fs : List Value} {v : Value} {Cn ref : String} {F : u_T} (hin : ∀ w ∈ u_ws Cn F N, w ∈ Ts) (he : hp[pl]? = some (.inr (.inl (ci, fs)))) (hc : vwCl[ci]? = some (Cn, F, N)) (hk : k < N) (ty0 : Nat → FieldType) (hty : ∀ k, k < N → parseFieldDescriptor (F k).2.2.1 = some (ty0 k)) (hnm : ∀ a, a < N → ∀ b, b < N → a ≠ b → (F a).2.1 ≠ (F b).2.1) (hl : Cond.fieldLink own idx ref (F k).2.1 (F k).2.2.1 ∈ Ts) (hre : ref = (F k).1) (hfin : (F k).2.2.2 = true) (hde : (F k).1 = own) {ty : FieldType} (hdsc : parseFieldDescriptor (F k).2.2.1 = some ty) (hn : ∀ ad, narrow ty (mm_v ad v) = mm_v ad v) (hft : ∀ ad, fits ty (mm_v ad v) = true) (hlen : k < fs.length) (hd : decode cc pc = .ok (.putfield idx, 3)) (k9 : mm_M g ad cells slots (hp.set pl (.inr (.inl (ci, fs.set k v)))) (pc + 3) lv st) : mm_M g ad cells slots hp pc lv (v :: .ref pl :: st) := by
  obtain ⟨p, l, e, R, s, m, args, below, meth, c, nL, D, A, Q⟩ := g
  obtain ⟨hx, hb, hml, hown, hts, hK, hA, hG, hlt, hR⟩ := C
  obtain ⟨hr, hlk, hnm9, hAe, hQ⟩ := K
  intro H locs ls hH h
  subst hre
  refine va_putF (D := D) (ci := ci) hx hb hts hin ty0 hty hnm hown hK hH.1 hH.2.1 hH.2.2.2 pl (mm_ws_at he) hc k hk (hts _ hl) (fun _ h9 => h9) hfin hnm9 hde hdsc (hn ad) (hft ad) (by simpa using hlen) hd (fun H1 locs1 hP1 hD1 hS1 => ?_)
  rw [← mm_fset, show (.inr (ci, (fs.set k v).map (mm_v ad)) : va_E) = mm_e ad pl (.inr (.inl (ci, fs.set k v))) from rfl, ← mm_ws_set] at hP1 hD1
  exact k9 H1 locs1 ls ⟨hP1, hD1, hH.2.2.1.sh (mm_sh_set he rfl), hS1⟩ h
theorem mm_vretA {g : mm_g} {cc : ByteArray} {own : String} {Ts : List Cond} {rm : Room} {ad : mm_A} {cells slots : Nat} {hp : List mm_c} {pc : Nat} {lv : List (Nat × Value)} (C : mm_C g cc own Ts rm ad) {ad0 : mm_A} {hp0 : List mm_c} {Φ : Option Value → List mm_c → Prop} {mc ms : Nat} (K : mm_KA g none ad0 hp0 Φ mc ms) (hd : decode cc pc = .ok (.return_, 1)) (hΦ : Φ none hp) (hle : hp0.length ≤ hp.length) (he : mm_ext ad0 ad hp0.length hp.length) (hc : cells ≤ mc) (hs : slots ≤ ms) : mm_M g ad cells slots hp pc lv [] := by
  obtain ⟨p, l, e, R, s, m, args, below, meth, c, nL, D, A, Q⟩ := g
  obtain ⟨hx, hb, hml, hown, hts, hK, hA, hG, hlt, hR⟩ := C
  obtain ⟨hr, hlk, hnm9, hAe, hQ⟩ := K
  subst hAe
  subst hQ
  intro H locs ls hH h
  refine W.widen (k := mc) (n := ms) hc hs ?_
  exact W.vret hx hb hr (fun t ht hW => ⟨⟨none, hp, ad, rfl, hΦ, hle, he, by rw [ht]; exact hH.1, hH.2.1, mm_T.moved hW.alike hH.2.2.1⟩, hH.2.2.2.F ht⟩) hH.2.2.2.2.2 hd hlk
theorem mm_objInit {g : mm_g} {cc : ByteArray} {own : String} {Ts : List Cond} {rm : Room} {ad : mm_A} {cells slots : Nat} {hp : List mm_c} {pc : Nat} {lv : List (Nat × Value)} {st : List Value} (C : mm_C g cc own Ts rm ad) {idx pl : Nat} (h1 : Cond.methodLink own idx Lib.objectInit ∈ Ts) (h2 : Cond.instanceMethod Lib.objectInit ∈ Ts) (h3 : Cond.code Lib.objectInit ⟨#[0xb1]⟩ 1 none ∈ Ts) (hd : decode cc pc = .ok (.invokespecial idx, 3)) (hfr : 1 ≤ rm.frames) (hlo : (st.map fun v => v.category).sum + 12 ≤ rm.locals) (k : mm_M g ad cells slots hp (pc + 3) lv st) : mm_M g ad cells slots hp pc lv (.ref pl :: st) := by
  obtain ⟨p, l, e, R, s, m, args, below, meth, c, nL, D, A, Q⟩ := g
  obtain ⟨hx, hb, hml, hown, hts, hK, hA, hG, hlt, hR⟩ := C
  subst hR
  intro H locs ls hH h
  refine W.objInit hx hb hown (hts _ h1) (hts _ h2) (hts _ h3) (g := F0 m pc ls ((.ref pl :: st).map (mm_v ad))) rfl (by rw [hml]; exact h.1) (a := (ad pl).1) (rest := st.map (mm_v ad)) rfl hd hfr ?_ (k H locs ls hH h)
  have : ((st.map (mm_v ad)).map fun v => v.category) = st.map fun v => v.category := by
    rw [List.map_map]; exact List.map_congr_left (fun v _ => mm_v_cat ad v)
  rw [this]
  have hz : (F0 m pc ls ((.ref pl :: st).map (mm_v ad))).monitorRoom = 0 := rfl
  rw [hz]; omega
theorem mm_callI {g : mm_g} {cc : ByteArray} {own : String} {Ts : List Cond} {rm : Room} {ad : mm_A} {cells slots : Nat} {hp : List mm_c} {pc : Nat} {lv : List (Nat × Value)} {st stk : List Value} (C : mm_C g cc own Ts rm ad) {y : MethodName} {ws ws' : List Cond} {rmY : Room} {bytes : ByteArray} {maxL idx : Nat} {av : List Value} {Φ : Option Value → List mm_c → Prop} {mc ms : Nat} (pl L9 : Nat) (hT : GoodIn Ts ws) (hl9 : Cond.methodLink own idx y ∈ Ts) (hi9 : Cond.initialized y.cls ∈ Ts) (hdd : y.cls ≠ "java/lang/invoke/MethodHandle" ∧ y.cls ≠ "java/lang/invoke/VarHandle" ∧ (parseMethodDescriptor y.desc).map (fun d => d.parameters.length) = some av.length) (hM : mm_MetA (mm_l g) (mm_D0 g) y ws rmY (.ref pl :: av) hp Φ mc ms) (n : Nat) (hw : ws = Cond.code y bytes maxL none :: ws') (hrc : rmY.cells = mc) (hrs : rmY.slots = ms) (hR9 : rmY.frames + 1 ≤ rm.frames ∧ 8 + (maxL + 11) + rmY.locals ≤ rm.locals) (hn : av.length = n) (hstk : stk = av.reverse ++ .ref pl :: st) (hsum : (st.map fun v => v.category).sum ≤ 8) (hd : decode cc pc = .ok (.invokespecial idx, 3)) (hf : cells + mc ≤ rm.cells ∧ slots + ms ≤ rm.slots) (hyi : y.name = "<init>") (hm9 : Cond.instanceMethod y ∈ Ts)
    (hΦ9 : ∀ v hp', Φ v hp' → v = none ∧ hp'.length = L9) (hL9 : L9 ≤ 1000000) (ok2 : lv.all (fun q => mm_okv hp.length L9 q.2) = true) (ok3 : st.all (mm_okv hp.length L9) = true)
    (kk : ∀ (hp' : List mm_c) (ad' : mm_A), Φ none hp' → mm_ext ad ad' hp.length hp'.length → mm_C g cc own Ts rm ad' → mm_M g ad' (cells + mc) (slots + ms) hp' (pc + 3) lv st) : mm_M g ad cells slots hp pc lv stk := by
  subst hstk
  obtain ⟨p, l, e, R, s, m, args, below, meth, c, nL, D, A, Q⟩ := g
  have C0 := C
  obtain ⟨hx, hb, hml, hown, hts, hK, hA, hG, hlt, hR⟩ := C
  subst hR
  intro H locs ls hH h
  have hm := hM hlt ad H.size
  have hpre := mm_pre hK hA hG hH
  have hF : ∀ q, va_A (mm_ws ad hp) H.size q → A q := fun q hq => by
    rcases hq with ⟨k, e, hk⟩ | hq
    · exact hH.2.1.2 k _ hk
    · exact hA q (Nat.le_trans hH.2.2.2.1 hq)
  have hsum' : 2 * (F0 m pc ls (st.map (mm_v ad))).monitorRoom + ((st.map (mm_v ad)).map fun v => v.category).sum ≤ 8 := lv_room (by
    have : ((st.map (mm_v ad)).map fun v => v.category) = st.map fun v => v.category := by
      rw [List.map_map]; exact List.map_congr_left (fun v _ => mm_v_cat ad v)
    rw [this]; exact hsum)
  have hrun := va_runI (e := e) (below := below) (meth := meth) (H := H) (locs := locs) (cells := cells) (slots := slots) (b := (ad pl).1) (As := av.map (mm_v ad)) (rest := st.map (mm_v ad)) (g := F0 m pc ls ((av.reverse ++ .ref pl :: st).map (mm_v ad))) ⟨hx, hb, hml, hown, hts⟩ hm ⟨callB_of n hts hT hw hrc hrs (hts _ hi9) (hts _ hl9) (hn ▸ hdd) hR9, hyi, hts _ hm9⟩ ⟨mm_blind D ad H.size hp _, fun U hU hW => ⟨rfl, hpre U hU hW⟩⟩ rfl (by rw [List.length_map]; exact hn) h.1 (by show List.map (mm_v ad) (av.reverse ++ .ref pl :: st) = _; simp [mm_v]) hsum' hd hf
  intro T hT X
  obtain ⟨v, st₀, t, T', L, h0, X', hL, e1, e2, ⟨⟨v9, hp9, ad9, hv, hΦ, hle, hext, hP9, hD9, hT9⟩, hFr⟩, st9⟩ := hrun T hT X
  obtain ⟨hvn, hln⟩ := hΦ9 v9 hp9 hΦ
  subst hvn
  cases hv
  obtain ⟨k1, k2, k3⟩ := vx_keep h0 e1 hH.2.2.2 (fun q _ hq => hF q hq) hF hL hFr
  have hvm : s.vm.Alike t.vm := by rw [← e2]; exact X'.warmed.alike
  rw [hln] at hext
  have hk := kk hp9 ad9 hΦ (by rw [hln]; exact hext) (mm_C.ext C0 hext hL9) T'.heap (locs ++ L) ls ⟨by rw [e1]; exact hP9, hD9.weaken (fun k q _ hq => hF q.1 hq), mm_T.moved hvm.symm hT9, k3⟩ (by rw [mm_oklv hext ok2]; exact h)
  rw [mm_okl hext ok3] at hk
  obtain ⟨t2, a1, b1⟩ := hk T' rfl X'
  exact ⟨t2, st9 t2 a1, b1⟩
theorem mm_callIN {g : mm_g} {cc : ByteArray} {own : String} {Ts : List Cond} {rm : Room} {ad : mm_A} {cells slots : Nat} {hp : List mm_c} {pc : Nat} {lv : List (Nat × Value)} {st stk : List Value} (C : mm_C g cc own Ts rm ad) {y : MethodName} {ws ws' : List Cond} {rmY : Room} {bytes : ByteArray} {maxL idx : Nat} {av : List Value} {Φ : Option Value → List mm_c → Prop} {mc ms : Nat} (pl L9 : Nat) {host : String} (hT : GoodIn Ts ws) (hl9 : Cond.methodLinkNest own idx y host ∈ mm_nw) (hi9 : Cond.initialized y.cls ∈ Ts) (hdd : y.cls ≠ "java/lang/invoke/MethodHandle" ∧ y.cls ≠ "java/lang/invoke/VarHandle" ∧ (parseMethodDescriptor y.desc).map (fun d => d.parameters.length) = some av.length) (hM : mm_MetA (mm_l g) (mm_D0 g) y ws rmY (.ref pl :: av) hp Φ mc ms) (n : Nat) (hw : ws = Cond.code y bytes maxL none :: ws') (hrc : rmY.cells = mc) (hrs : rmY.slots = ms) (hR9 : rmY.frames + 1 ≤ rm.frames ∧ 8 + (maxL + 11) + rmY.locals ≤ rm.locals) (hn : av.length = n) (hstk : stk = av.reverse ++ .ref pl :: st) (hsum : (st.map fun v => v.category).sum ≤ 8) (hd : decode cc pc = .ok (.invokespecial idx, 3)) (hf : cells + mc ≤ rm.cells ∧ slots + ms ≤ rm.slots) (hyi : y.name = "<init>") (hm9 : Cond.instanceMethod y ∈ Ts)
    (hΦ9 : ∀ v hp', Φ v hp' → v = none ∧ hp'.length = L9) (hL9 : L9 ≤ 1000000) (ok2 : lv.all (fun q => mm_okv hp.length L9 q.2) = true) (ok3 : st.all (mm_okv hp.length L9) = true)
    (kk : ∀ (hp' : List mm_c) (ad' : mm_A), Φ none hp' → mm_ext ad ad' hp.length hp'.length → mm_C g cc own Ts rm ad' → mm_M g ad' (cells + mc) (slots + ms) hp' (pc + 3) lv st) : mm_M g ad cells slots hp pc lv stk := by
  subst hstk
  obtain ⟨p, l, e, R, s, m, args, below, meth, c, nL, D, A, Q⟩ := g
  have C0 := C
  obtain ⟨hx, hb, hml, hown, hts, hK, hA, hG, hlt, hR⟩ := C
  subst hR
  intro H locs ls hH h
  have hm := hM hlt ad H.size
  have hpre := mm_pre hK hA hG hH
  have hF : ∀ q, va_A (mm_ws ad hp) H.size q → A q := fun q hq => by
    rcases hq with ⟨k, e, hk⟩ | hq
    · exact hH.2.1.2 k _ hk
    · exact hA q (Nat.le_trans hH.2.2.2.1 hq)
  have hsum' : 2 * (F0 m pc ls (st.map (mm_v ad))).monitorRoom + ((st.map (mm_v ad)).map fun v => v.category).sum ≤ 8 := lv_room (by
    have : ((st.map (mm_v ad)).map fun v => v.category) = st.map fun v => v.category := by
      rw [List.map_map]; exact List.map_congr_left (fun v _ => mm_v_cat ad v)
    rw [this]; exact hsum)
  have hrun := va_runIN (host := host) (e := e) (below := below) (meth := meth) (H := H) (locs := locs) (cells := cells) (slots := slots) (b := (ad pl).1) (As := av.map (mm_v ad)) (rest := st.map (mm_v ad)) (g := F0 m pc ls ((av.reverse ++ .ref pl :: st).map (mm_v ad))) ⟨hx, hb, hml, hown, hts⟩ hm ⟨va_cnB n hts hT hw hrc hrs (hG.1 _ hl9) (hts _ hi9) (hn ▸ hdd) hR9, hyi, hts _ hm9⟩ ⟨mm_blind D ad H.size hp _, fun U hU hW => ⟨rfl, hpre U hU hW⟩⟩ rfl (by rw [List.length_map]; exact hn) h.1 (by show List.map (mm_v ad) (av.reverse ++ .ref pl :: st) = _; simp [mm_v]) hsum' hd hf
  intro T hT X
  obtain ⟨v, st₀, t, T', L, h0, X', hL, e1, e2, ⟨⟨v9, hp9, ad9, hv, hΦ, hle, hext, hP9, hD9, hT9⟩, hFr⟩, st9⟩ := hrun T hT X
  obtain ⟨hvn, hln⟩ := hΦ9 v9 hp9 hΦ
  subst hvn
  cases hv
  obtain ⟨k1, k2, k3⟩ := vx_keep h0 e1 hH.2.2.2 (fun q _ hq => hF q hq) hF hL hFr
  have hvm : s.vm.Alike t.vm := by rw [← e2]; exact X'.warmed.alike
  rw [hln] at hext
  have hk := kk hp9 ad9 hΦ (by rw [hln]; exact hext) (mm_C.ext C0 hext hL9) T'.heap (locs ++ L) ls ⟨by rw [e1]; exact hP9, hD9.weaken (fun k q _ hq => hF q.1 hq), mm_T.moved hvm.symm hT9, k3⟩ (by rw [mm_oklv hext ok2]; exact h)
  rw [mm_okl hext ok3] at hk
  obtain ⟨t2, a1, b1⟩ := hk T' rfl X'
  exact ⟨t2, st9 t2 a1, b1⟩
