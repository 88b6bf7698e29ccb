/-! cells by places: a world is a list of cells, a reference is a place in it; the map ad says where a place lies -/
abbrev mm_c : Type := (Nat × (Nat → Int32)) ⊕ ((Nat × List Value) ⊕ (Nat × (Nat → Int64)))
abbrev mm_A : Type := Nat → Nat × ClassId
def mm_v (ad : mm_A) : Value → Value
  | .ref p => .ref (ad p).1
  | v => v
theorem mm_v_cat (ad : mm_A) (v : Value) : (mm_v ad v).category = v.category := by cases v <;> rfl
def mm_e (ad : mm_A) (p : Nat) : mm_c → va_E
  | .inl a => .inl ((ad p).2, a.1, .inl a.2)
  | .inr (.inl o) => .inr (o.1, o.2.map (mm_v ad))
  | .inr (.inr a) => .inl ((ad p).2, a.1, .inr (.inl a.2))
def mm_ws (ad : mm_A) (hp : List mm_c) : va_W := hp.mapIdx (fun p c => ((ad p).1, mm_e ad p c))
theorem mm_ws_get (ad : mm_A) (hp : List mm_c) (k : Nat) : (mm_ws ad hp)[k]? = (hp[k]?).map (fun c => ((ad k).1, mm_e ad k c)) := by
  simp [mm_ws]
theorem mm_ws_at {ad : mm_A} {hp : List mm_c} {k : Nat} {c : mm_c} (h : hp[k]? = some c) : (mm_ws ad hp)[k]? = some ((ad k).1, mm_e ad k c) := by
  rw [mm_ws_get, h]; rfl
theorem mm_ws_len (ad : mm_A) (hp : List mm_c) : (mm_ws ad hp).length = hp.length := by simp [mm_ws]
theorem mm_ws_set (ad : mm_A) (hp : List mm_c) (k : Nat) (c : mm_c) : mm_ws ad (hp.set k c) = (mm_ws ad hp).set k ((ad k).1, mm_e ad k c) := by
  apply List.ext_getElem?
  intro i
  rw [mm_ws_get, List.getElem?_set, List.getElem?_set, mm_ws_len]
  by_cases h : k = i
  · subst h
    by_cases hk : k < hp.length
    · simp [hk]
    · simp [hk]
  · simp [h, mm_ws_get]
def mm_ty : mm_c → Option FieldType
  | .inl _ => some .int
  | .inr (.inl _) => none
  | .inr (.inr _) => some .long
def mm_T (s : State) (ad : mm_A) (hp : List mm_c) : Prop := ∀ (p : Nat) (c : mm_c) (ty : FieldType), hp[p]? = some c → mm_ty c = some ty → ArrOfT s (ad p).2 ty ∧ va_RA s (ad p).2 ty
def mm_sh (hp : List mm_c) : List (Option FieldType) := hp.map mm_ty
theorem mm_sh_set {hp : List mm_c} {k : Nat} {c c' : mm_c} (h : hp[k]? = some c) (hc : mm_ty c' = mm_ty c) : mm_sh (hp.set k c') = mm_sh hp := by
  apply List.ext_getElem?
  intro i
  simp only [mm_sh, List.getElem?_map, List.getElem?_set]
  by_cases hi : k = i
  · subst hi
    have hk : k < hp.length := (List.getElem?_eq_some_iff.mp h).1
    have e9 : hp[k] = c := by
      rw [List.getElem?_eq_getElem hk] at h
      exact Option.some.inj h
    simp [hk, hc, e9]
  · simp [hi]
theorem mm_T.sh {s : State} {ad : mm_A} {hp hp' : List mm_c} (h : mm_T s ad hp) (hs : mm_sh hp' = mm_sh hp) : mm_T s ad hp' := by
  intro p c ty hp9 hty
  have h1 : (mm_sh hp')[p]? = some (some ty) := by simp [mm_sh, hp9, hty]
  rw [hs] at h1
  simp only [mm_sh, List.getElem?_map] at h1
  cases h2 : hp[p]? with
  | none => rw [h2] at h1; cases h1
  | some c9 =>
    rw [h2] at h1
    exact h p c9 ty h2 (Option.some.inj h1)
theorem mm_T.moved {u U : State} (hvm : u.vm.Alike U.vm) {ad : mm_A} {hp : List mm_c} (h : mm_T u ad hp) : mm_T U ad hp := fun p c ty hp9 h9 => ⟨arrOfT_moved hvm (h p c ty hp9 h9).1, (h p c ty hp9 h9).2.moved hvm⟩
theorem mm_len_sh {hp hp' : List mm_c} (hs : mm_sh hp' = mm_sh hp) : hp'.length = hp.length := by
  have h := congrArg List.length hs
  simpa [mm_sh] using h
theorem mm_D.sh {A : Nat → Prop} {ad : mm_A} {hp hp' : List mm_c} (h : va_D A (mm_ws ad hp)) (hs : mm_sh hp' = mm_sh hp) : va_D A (mm_ws ad hp') := by
  have hl := mm_len_sh hs
  have key : ∀ (k : Nat) (q : Nat × va_E), (mm_ws ad hp')[k]? = some q → ∃ q', (mm_ws ad hp)[k]? = some q' ∧ q'.1 = q.1 := by
    intro k q hq
    have hk : k < (mm_ws ad hp').length := (List.getElem?_eq_some_iff.mp hq).1
    rw [mm_ws_len, hl] at hk
    have h1 : hp[k]? = some hp[k] := List.getElem?_eq_getElem hk
    refine ⟨_, mm_ws_at h1, ?_⟩
    rw [mm_ws_get] at hq
    cases h2 : hp'[k]? with
    | none => rw [h2] at hq; cases hq
    | some c9 => rw [h2] at hq; cases hq; rfl
  refine ⟨fun i j x y hx hy hxy => ?_, fun k q hq => ?_⟩
  · obtain ⟨x', hx', ex⟩ := key i x hx
    obtain ⟨y', hy', ey⟩ := key j y hy
    exact h.1 i j x' y' hx' hy' (by rw [ex, ey]; exact hxy)
  · obtain ⟨q', hq', eq'⟩ := key k q hq
    rw [← eq']; exact h.2 k q' hq'
def mm_H (D : va_G) (A : Nat → Prop) (s : State) (ad : mm_A) (hp : List mm_c) (H : Heap) (locs : List Loc) : Prop :=
  va_P D vwCl (mm_ws ad hp) H ∧ va_D A (mm_ws ad hp) ∧ mm_T s ad hp ∧ va_S A s.heap H locs
def mm_lv (ad : mm_A) (lv : List (Nat × Value)) : List (Nat × Value) := lv.map (fun q => (q.1, mm_v ad q.2))
theorem mm_lvat {ad : mm_A} {lv : List (Nat × Value)} {k i : Nat} {v : Value} (h : lv[k]? = some (i, v)) : (mm_lv ad lv)[k]? = some (i, mm_v ad v) := by
  simp [mm_lv, h]
def mm_F (i : Nat) (lv : List (Nat × Value)) : List (Nat × Value) := lv.filter (fun q => !(q.1 == i) && !(q.1 + 1 == i && q.2.category == 2))
theorem mm_lvF (ad : mm_A) (i : Nat) (lv : List (Nat × Value)) : (mm_lv ad lv).filter (fun q => !(q.1 == i) && !(q.1 + 1 == i && q.2.category == 2)) = mm_lv ad (mm_F i lv) := by
  induction lv with
  | nil => rfl
  | cons a t ih =>
    have hcat : (mm_v ad a.2).category = a.2.category := mm_v_cat ad a.2
    simp only [mm_lv, mm_F, List.map_cons, List.filter_cons, hcat] at ih ⊢
    split
    · simp only [List.map_cons]; rw [ih]
    · exact ih
theorem mm_lvst {ad : mm_A} {i : Nat} {v : Value} {lv lv' : List (Nat × Value)} (h : (i, v) :: mm_F i lv = lv') : (i, mm_v ad v) :: (mm_lv ad lv).filter (fun q => !(q.1 == i) && !(q.1 + 1 == i && q.2.category == 2)) = mm_lv ad lv' := by
  rw [mm_lvF, ← h]; rfl
def mm_tb : List (String × String × String × Nat × List Int32) := [("IncidentKinds", "GREATEST_WORD", "[I", 1000000, [9, 99, 4, 99]), ("IncidentKinds", "WORD_WHEN_NOBODY_SAYS_IT", "[I", 1000001, [9, 0, 0, 0])]
def mm_sr : List (Nat × String) := [(155, "an unknown number"), (162, "a number outside its range"), (167, "not in this state"), (172, "no room")]
def mm_ex : List String := ["java/lang/IllegalArgumentException", "java/lang/IndexOutOfBoundsException", "java/lang/IllegalStateException", "java/lang/UnsupportedOperationException"]
/-- all that stands outside the world: links across the nest, casts, tables, texts, what a throw reads -/
def mm_G (ad : mm_A) (A : Nat → Prop) (U : State) (H : Heap) : Prop := (∀ w ∈ mm_nw, va_Nw w U) ∧ (∀ q ∈ mm_tb, va_Z q.1 q.2.1 q.2.2.1 (.ref (ad q.2.2.2.1).1) A U H ∧ va_T .int (ad q.2.2.2.1).1 q.2.2.2.2.length (fun j => .int (q.2.2.2.2.getD j 0)) A U H) ∧ (∀ q ∈ mm_sr, ∃ a, vk_R RX2 q.1 q.2 a U) ∧ vx_Zq Bundle.tN "UNASSIGNED_STACK" Bundle.steD A U H ∧ vx_Zq Bundle.tN "SUPPRESSED_SENTINEL" Bundle.listD A U H ∧ (∀ a ∈ mm_ex, ∀ b ∈ mm_ex, a ≠ b → va_Nc a b U)
theorem mm_castw {E n : String} {s U : State} (hvm : s.vm.Alike U.vm) (h : va_Nw (.castable E n) s) : va_Nw (.castable E n) U := by
  obtain ⟨a, b, h1, h2, h3⟩ := Cond.castable_spec (args := #[]) (first := s) (o := none) (s := s) (idx := []) h
  show (Cond.castable E n).before #[] U = true
  simp [Cond.before, Cond.holds, Cond.value, hvm.findClass, h1, h2, hvm.assignable, h3]
theorem mm_nww {s U : State} (hW : s.WarmedH U.vm) (h : ∀ w ∈ mm_nw, va_Nw w s) : ∀ w ∈ mm_nw, va_Nw w U := by
  intro w hw
  have hz := h w hw
  simp only [mm_nw, List.mem_cons, List.not_mem_nil, or_false] at hw
  rcases hw with rfl | rfl | rfl | rfl | rfl | rfl | rfl | rfl | rfl | rfl | rfl | rfl | rfl | rfl | rfl | rfl | rfl | rfl | rfl | rfl | rfl <;> first | exact va_Nw.warmF hW hz | exact va_Nw.warmM hW hz | exact va_Nw.warmD hW hz | exact mm_castw hW.alike hz
theorem mm_G.warm {ad : mm_A} {A : Nat → Prop} {s U : State} {H : Heap} (hW : s.WarmedH U.vm) (h : mm_G ad A s H) : mm_G ad A U H :=
  ⟨mm_nww hW h.1, fun q hq => ⟨(h.2.1 q hq).1.moved hW.alike, (h.2.1 q hq).2.moved hW.alike⟩, fun q hq => (h.2.2.1 q hq).imp (fun _ h9 => vk_R.warm hW h9), h.2.2.2.1.moved hW.alike, h.2.2.2.2.1.moved hW.alike, fun a ha b hb hab => (h.2.2.2.2.2 a ha b hb hab).moved hW.alike⟩
theorem mm_G.kept {ad : mm_A} {A : Nat → Prop} {s : State} {H H1 : Heap} (h : mm_G ad A s H) (hq : ∀ a : Nat, a < H.size → ¬ A a → H1[a]? = H[a]?) : mm_G ad A s H1 :=
  ⟨h.1, fun q h9 => ⟨(h.2.1 q h9).1.kept hq, (h.2.1 q h9).2.kept hq⟩, h.2.2.1, h.2.2.2.1.kept hq, h.2.2.2.2.1.kept hq, h.2.2.2.2.2⟩
theorem mm_G.narrow {ad : mm_A} {A B : Nat → Prop} {s : State} {H : Heap} (h : mm_G ad A s H) (hAB : ∀ q, B q → A q) : mm_G ad B s H :=
  ⟨h.1, fun q h9 => ⟨(h.2.1 q h9).1.narrow hAB, (h.2.1 q h9).2.narrow hAB⟩, h.2.2.1, h.2.2.2.1.narrow hAB, h.2.2.2.2.1.narrow hAB, h.2.2.2.2.2⟩
theorem mm_G.ext {ad ad' : mm_A} {A : Nat → Prop} {s : State} {H : Heap} (h : mm_G ad A s H) (he : ∀ q, 1000000 ≤ q → ad' q = ad q) : mm_G ad' A s H :=
  ⟨h.1, fun q h9 => by
    have h8 : 1000000 ≤ q.2.2.2.1 := by
      simp only [mm_tb, List.mem_cons, List.not_mem_nil, or_false] at h9
      rcases h9 with rfl | rfl <;> decide
    rw [he _ h8]; exact h.2.1 q h9, h.2.2.1, h.2.2.2.1, h.2.2.2.2.1, h.2.2.2.2.2⟩
abbrev mm_g := Program × Launch × Env × Room × State × MethodId × Array Value × List Frame × Method × Code × Nat × va_G × (Nat → Prop) × (State → Prop)
def mm_l (g : mm_g) : Launch := g.2.1
def mm_D0 (g : mm_g) : va_G := g.2.2.2.2.2.2.2.2.2.2.2.1
def mm_nL (g : mm_g) : Nat := g.2.2.2.2.2.2.2.2.2.2.1
def mm_M : mm_g → mm_A → Nat → Nat → List mm_c → Nat → List (Nat × Value) → List Value → Prop
  | (p, l, e, R, s, m, args, below, meth, c, nL, D, A, Q), ad, cells, slots, hp, pc, lv, st => ∀ (H : Heap) (locs : List Loc) (ls : Array Slot), mm_H D A s ad hp H locs → lv_has ls nL (mm_lv ad lv) → W p l e R s m args below meth c H locs cells slots Q (F0 m pc ls (st.map (mm_v ad)))
/-- thrown: an object of the class E lies over this frame -/
def mm_X : mm_g → mm_A → Nat → Nat → List mm_c → Nat → List (Nat × Value) → List Value → String → Prop
  | (p, l, e, R, s, m, args, below, meth, c, nL, D, A, Q), ad, cells, slots, hp, pc, lv, st, E => ∀ (H : Heap) (locs : List Loc) (ls : Array Slot) (q : Addr) (ce : Cell), mm_H D A s ad hp H locs → lv_has ls nL (mm_lv ad lv) → H[q]? = some ce → ce.vm = .none → s.vm.findClass E = some ce.cls → vx_W p l e R s m args below meth c H locs cells slots Q (F0 m pc ls (st.map (mm_v ad))) q
def mm_C : mm_g → ByteArray → String → List Cond → Room → mm_A → Prop
  | (p, l, e, R, s, m, args, below, meth, c, nL, D, A, Q), cc, own, Ts, rm, ad => p.tables.exec = Jvm.exec ∧ c.code = cc ∧ c.maxLocals = nL ∧ s.vm.findClass own = some m.cls ∧ (∀ w ∈ Ts, w.before args s = true) ∧ va_K D vwCl [] s ∧ (∀ q, s.heap.size ≤ q → A q) ∧ mm_G ad A s s.heap ∧ l.stackTraces = false ∧ R = rm
theorem mm_iconst {g : mm_g} {cc : ByteArray} {own : String} {Ts : List Cond} {rm : Room} {ad : mm_A} {cells slots : Nat} {hp : List mm_c} {pc : Nat} {lv : List (Nat × Value)} {st : List Value} (C : mm_C g cc own Ts rm ad) {n : Int} {v : Int32} (hd : decode cc pc = .ok (.iconst n, 1)) (hv : Int32.ofInt n = v) (k : mm_M g ad cells slots hp (pc + 1) lv (.int v :: st)) : mm_M g ad cells slots hp pc lv st := by
  obtain ⟨p, l, e, R, s, m, args, below, meth, c, nL, D, A, Q⟩ := g
  obtain ⟨hx, hb, hml, hown, hts, hK, hA, hG, hlt, hR⟩ := C
  intro H locs ls hH h
  exact lv_iconst hx hb hd hv (k H locs ls hH h)
theorem mm_bipush {g : mm_g} {cc : ByteArray} {own : String} {Ts : List Cond} {rm : Room} {ad : mm_A} {cells slots : Nat} {hp : List mm_c} {pc : Nat} {lv : List (Nat × Value)} {st : List Value} (C : mm_C g cc own Ts rm ad) {n : Int} {v : Int32} (hd : decode cc pc = .ok (.bipush n, 2)) (hv : (Int8.ofInt n).toInt32 = v) (k : mm_M g ad cells slots hp (pc + 2) lv (.int v :: st)) : mm_M g ad cells slots hp pc lv st := by
  obtain ⟨p, l, e, R, s, m, args, below, meth, c, nL, D, A, Q⟩ := g
  obtain ⟨hx, hb, hml, hown, hts, hK, hA, hG, hlt, hR⟩ := C
  intro H locs ls hH h
  exact lv_bipush hx hb hd hv (k H locs ls hH h)
theorem mm_sipush {g : mm_g} {cc : ByteArray} {own : String} {Ts : List Cond} {rm : Room} {ad : mm_A} {cells slots : Nat} {hp : List mm_c} {pc : Nat} {lv : List (Nat × Value)} {st : List Value} (C : mm_C g cc own Ts rm ad) {n : Int} {v : Int32} (hd : decode cc pc = .ok (.sipush n, 3)) (hv : (Int16.ofInt n).toInt32 = v) (k : mm_M g ad cells slots hp (pc + 3) lv (.int v :: st)) : mm_M g ad cells slots hp pc lv st := by
  obtain ⟨p, l, e, R, s, m, args, below, meth, c, nL, D, A, Q⟩ := g
  obtain ⟨hx, hb, hml, hown, hts, hK, hA, hG, hlt, hR⟩ := C
  intro H locs ls hH h
  exact lv_sipush hx hb hd hv (k H locs ls hH h)
theorem mm_ldc {g : mm_g} {cc : ByteArray} {own : String} {Ts : List Cond} {rm : Room} {ad : mm_A} {cells slots : Nat} {hp : List mm_c} {pc : Nat} {lv : List (Nat × Value)} {st : List Value} (C : mm_C g cc own Ts rm ad) {idx : Nat} {v : Int32} (hd : decode cc pc = .ok (.ldc idx, 2)) (hw : Cond.constant own idx v ∈ Ts) (k : mm_M g ad cells slots hp (pc + 2) lv (.int v :: st)) : mm_M g ad cells slots hp pc lv st := by
  obtain ⟨p, l, e, R, s, m, args, below, meth, c, nL, D, A, Q⟩ := g
  obtain ⟨hx, hb, hml, hown, hts, hK, hA, hG, hlt, hR⟩ := C
  intro H locs ls hH h
  exact lv_ldc hx hb hown (hts _ hw) hd (k H locs ls hH h)
theorem mm_iload_n {g : mm_g} {cc : ByteArray} {own : String} {Ts : List Cond} {rm : Room} {ad : mm_A} {cells slots : Nat} {hp : List mm_c} {pc : Nat} {lv : List (Nat × Value)} {st : List Value} (C : mm_C g cc own Ts rm ad) {j : Fin 4} {i : Nat} {x : Int32} (hd : decode cc pc = .ok (.iload_n j, 1)) (hi : (j : Nat) = i) (q : Nat) (hl : lv[q]? = some (i, .int x)) (k : mm_M g ad cells slots hp (pc + 1) lv (.int x :: st)) : mm_M g ad cells slots hp pc lv st := by
  obtain ⟨p, l, e, R, s, m, args, below, meth, c, nL, D, A, Q⟩ := g
  obtain ⟨hx, hb, hml, hown, hts, hK, hA, hG, hlt, hR⟩ := C
  intro H locs ls hH h
  exact lv_iload_n hx hb hd hi (lv_at h q (mm_lvat hl)) (k H locs ls hH h)
theorem mm_aload_n {g : mm_g} {cc : ByteArray} {own : String} {Ts : List Cond} {rm : Room} {ad : mm_A} {cells slots : Nat} {hp : List mm_c} {pc : Nat} {lv : List (Nat × Value)} {st : List Value} (C : mm_C g cc own Ts rm ad) {j : Fin 4} {i : Nat} {x : Nat} (hd : decode cc pc = .ok (.aload_n j, 1)) (hi : (j : Nat) = i) (q : Nat) (hl : lv[q]? = some (i, .ref x)) (k : mm_M g ad cells slots hp (pc + 1) lv (.ref x :: st)) : mm_M g ad cells slots hp pc lv st := by
  obtain ⟨p, l, e, R, s, m, args, below, meth, c, nL, D, A, Q⟩ := g
  obtain ⟨hx, hb, hml, hown, hts, hK, hA, hG, hlt, hR⟩ := C
  intro H locs ls hH h
  exact lv_aload_n hx hb hd hi (lv_at h q (mm_lvat hl)) (k H locs ls hH h)
theorem mm_iload {g : mm_g} {cc : ByteArray} {own : String} {Ts : List Cond} {rm : Room} {ad : mm_A} {cells slots : Nat} {hp : List mm_c} {pc : Nat} {lv : List (Nat × Value)} {st : List Value} (C : mm_C g cc own Ts rm ad) {i : Nat} {x : Int32} (hd : decode cc pc = .ok (.iload i, 2)) (q : Nat) (hl : lv[q]? = some (i, .int x)) (k : mm_M g ad cells slots hp (pc + 2) lv (.int x :: st)) : mm_M g ad cells slots hp pc lv st := by
  obtain ⟨p, l, e, R, s, m, args, below, meth, c, nL, D, A, Q⟩ := g
  obtain ⟨hx, hb, hml, hown, hts, hK, hA, hG, hlt, hR⟩ := C
  intro H locs ls hH h
  exact lv_iload hx hb hd (lv_at h q (mm_lvat hl)) (k H locs ls hH h)
theorem mm_aload {g : mm_g} {cc : ByteArray} {own : String} {Ts : List Cond} {rm : Room} {ad : mm_A} {cells slots : Nat} {hp : List mm_c} {pc : Nat} {lv : List (Nat × Value)} {st : List Value} (C : mm_C g cc own Ts rm ad) {i : Nat} {x : Nat} (hd : decode cc pc = .ok (.aload i, 2)) (q : Nat) (hl : lv[q]? = some (i, .ref x)) (k : mm_M g ad cells slots hp (pc + 2) lv (.ref x :: st)) : mm_M g ad cells slots hp pc lv st := by
  obtain ⟨p, l, e, R, s, m, args, below, meth, c, nL, D, A, Q⟩ := g
  obtain ⟨hx, hb, hml, hown, hts, hK, hA, hG, hlt, hR⟩ := C
  intro H locs ls hH h
  exact lv_aload hx hb hd (lv_at h q (mm_lvat hl)) (k H locs ls hH h)
theorem mm_istore_n {g : mm_g} {cc : ByteArray} {own : String} {Ts : List Cond} {rm : Room} {ad : mm_A} {cells slots : Nat} {hp : List mm_c} {pc : Nat} {lv : List (Nat × Value)} {st : List Value} (C : mm_C g cc own Ts rm ad) {j : Fin 4} {i : Nat} {x : Int32} {lv' : List (Nat × Value)} (hd : decode cc pc = .ok (.istore_n j, 1)) (hi : (j : Nat) = i) {nl : Nat} (hnl : mm_nL g = nl) (hn : i < nl) (hl : (i, Value.int x) :: mm_F i lv = lv') (k : mm_M g ad cells slots hp (pc + 1) lv' st) : mm_M g ad cells slots hp pc lv (.int x :: st) := by
  obtain ⟨p, l, e, R, s, m, args, below, meth, c, nL, D, A, Q⟩ := g
  obtain ⟨hx, hb, hml, hown, hts, hK, hA, hG, hlt, hR⟩ := C
  intro H locs ls hH h
  exact lv_istore_n hx hb hd hi h (by have h9 := hn; rw [← hnl] at h9; exact h9) (mm_lvst (ad := ad) hl) (fun ls' h' => k H locs ls' hH h')
theorem mm_astore_n {g : mm_g} {cc : ByteArray} {own : String} {Ts : List Cond} {rm : Room} {ad : mm_A} {cells slots : Nat} {hp : List mm_c} {pc : Nat} {lv : List (Nat × Value)} {st : List Value} (C : mm_C g cc own Ts rm ad) {j : Fin 4} {i : Nat} {x : Nat} {lv' : List (Nat × Value)} (hd : decode cc pc = .ok (.astore_n j, 1)) (hi : (j : Nat) = i) {nl : Nat} (hnl : mm_nL g = nl) (hn : i < nl) (hl : (i, Value.ref x) :: mm_F i lv = lv') (k : mm_M g ad cells slots hp (pc + 1) lv' st) : mm_M g ad cells slots hp pc lv (.ref x :: st) := by
  obtain ⟨p, l, e, R, s, m, args, below, meth, c, nL, D, A, Q⟩ := g
  obtain ⟨hx, hb, hml, hown, hts, hK, hA, hG, hlt, hR⟩ := C
  intro H locs ls hH h
  exact lv_astore_n hx hb hd hi h (by have h9 := hn; rw [← hnl] at h9; exact h9) (mm_lvst (ad := ad) hl) (fun ls' h' => k H locs ls' hH h')
theorem mm_istore {g : mm_g} {cc : ByteArray} {own : String} {Ts : List Cond} {rm : Room} {ad : mm_A} {cells slots : Nat} {hp : List mm_c} {pc : Nat} {lv : List (Nat × Value)} {st : List Value} (C : mm_C g cc own Ts rm ad) {i : Nat} {x : Int32} {lv' : List (Nat × Value)} (hd : decode cc pc = .ok (.istore i, 2)) {nl : Nat} (hnl : mm_nL g = nl) (hn : i < nl) (hl : (i, Value.int x) :: mm_F i lv = lv') (k : mm_M g ad cells slots hp (pc + 2) lv' st) : mm_M g ad cells slots hp pc lv (.int x :: st) := by
  obtain ⟨p, l, e, R, s, m, args, below, meth, c, nL, D, A, Q⟩ := g
  obtain ⟨hx, hb, hml, hown, hts, hK, hA, hG, hlt, hR⟩ := C
  intro H locs ls hH h
  exact lv_istore hx hb hd h (by have h9 := hn; rw [← hnl] at h9; exact h9) (mm_lvst (ad := ad) hl) (fun ls' h' => k H locs ls' hH h')
theorem mm_astore {g : mm_g} {cc : ByteArray} {own : String} {Ts : List Cond} {rm : Room} {ad : mm_A} {cells slots : Nat} {hp : List mm_c} {pc : Nat} {lv : List (Nat × Value)} {st : List Value} (C : mm_C g cc own Ts rm ad) {i : Nat} {x : Nat} {lv' : List (Nat × Value)} (hd : decode cc pc = .ok (.astore i, 2)) {nl : Nat} (hnl : mm_nL g = nl) (hn : i < nl) (hl : (i, Value.ref x) :: mm_F i lv = lv') (k : mm_M g ad cells slots hp (pc + 2) lv' st) : mm_M g ad cells slots hp pc lv (.ref x :: st) := by
  obtain ⟨p, l, e, R, s, m, args, below, meth, c, nL, D, A, Q⟩ := g
  obtain ⟨hx, hb, hml, hown, hts, hK, hA, hG, hlt, hR⟩ := C
  intro H locs ls hH h
  exact lv_astore hx hb hd h (by have h9 := hn; rw [← hnl] at h9; exact h9) (mm_lvst (ad := ad) hl) (fun ls' h' => k H locs ls' hH h')
theorem mm_iinc {g : mm_g} {cc : ByteArray} {own : String} {Ts : List Cond} {rm : Room} {ad : mm_A} {cells slots : Nat} {hp : List mm_c} {pc : Nat} {lv : List (Nat × Value)} {st : List Value} (C : mm_C g cc own Ts rm ad) {i q : Nat} {n : Int} {x v : Int32} {lv' : List (Nat × Value)} (hd : decode cc pc = .ok (.iinc i n, 3)) (hq : lv[q]? = some (i, .int x)) (hv : x + Int32.ofInt n = v) {nl : Nat} (hnl : mm_nL g = nl) (hn : i < nl) (hl : (i, Value.int v) :: mm_F i lv = lv') (k : mm_M g ad cells slots hp (pc + 3) lv' st) : mm_M g ad cells slots hp pc lv st := by
  obtain ⟨p, l, e, R, s, m, args, below, meth, c, nL, D, A, Q⟩ := g
  obtain ⟨hx, hb, hml, hown, hts, hK, hA, hG, hlt, hR⟩ := C
  intro H locs ls hH h
  exact lv_iinc hx hb hd h (mm_lvat hq) hv (by have h9 := hn; rw [← hnl] at h9; exact h9) (mm_lvst (ad := ad) hl) (fun ls' h' => k H locs ls' hH h')
theorem mm_iadd {g : mm_g} {cc : ByteArray} {own : String} {Ts : List Cond} {rm : Room} {ad : mm_A} {cells slots : Nat} {hp : List mm_c} {pc : Nat} {lv : List (Nat × Value)} {st : List Value} (C : mm_C g cc own Ts rm ad) {x y : Int32} (hd : decode cc pc = .ok (.iadd, 1)) (k : mm_M g ad cells slots hp (pc + 1) lv (.int (x + y) :: st)) : mm_M g ad cells slots hp pc lv (.int y :: .int x :: st) := by
  obtain ⟨p, l, e, R, s, m, args, below, meth, c, nL, D, A, Q⟩ := g
  obtain ⟨hx, hb, hml, hown, hts, hK, hA, hG, hlt, hR⟩ := C
  intro H locs ls hH h
  exact lv_iadd hx hb hd (k H locs ls hH h)
theorem mm_isub {g : mm_g} {cc : ByteArray} {own : String} {Ts : List Cond} {rm : Room} {ad : mm_A} {cells slots : Nat} {hp : List mm_c} {pc : Nat} {lv : List (Nat × Value)} {st : List Value} (C : mm_C g cc own Ts rm ad) {x y : Int32} (hd : decode cc pc = .ok (.isub, 1)) (k : mm_M g ad cells slots hp (pc + 1) lv (.int (x - y) :: st)) : mm_M g ad cells slots hp pc lv (.int y :: .int x :: st) := by
  obtain ⟨p, l, e, R, s, m, args, below, meth, c, nL, D, A, Q⟩ := g
  obtain ⟨hx, hb, hml, hown, hts, hK, hA, hG, hlt, hR⟩ := C
  intro H locs ls hH h
  exact lv_isub hx hb hd (k H locs ls hH h)
theorem mm_imul {g : mm_g} {cc : ByteArray} {own : String} {Ts : List Cond} {rm : Room} {ad : mm_A} {cells slots : Nat} {hp : List mm_c} {pc : Nat} {lv : List (Nat × Value)} {st : List Value} (C : mm_C g cc own Ts rm ad) {x y : Int32} (hd : decode cc pc = .ok (.imul, 1)) (k : mm_M g ad cells slots hp (pc + 1) lv (.int (x * y) :: st)) : mm_M g ad cells slots hp pc lv (.int y :: .int x :: st) := by
  obtain ⟨p, l, e, R, s, m, args, below, meth, c, nL, D, A, Q⟩ := g
  obtain ⟨hx, hb, hml, hown, hts, hK, hA, hG, hlt, hR⟩ := C
  intro H locs ls hH h
  exact lv_imul hx hb hd (k H locs ls hH h)
theorem mm_iand {g : mm_g} {cc : ByteArray} {own : String} {Ts : List Cond} {rm : Room} {ad : mm_A} {cells slots : Nat} {hp : List mm_c} {pc : Nat} {lv : List (Nat × Value)} {st : List Value} (C : mm_C g cc own Ts rm ad) {x y : Int32} (hd : decode cc pc = .ok (.iand, 1)) (k : mm_M g ad cells slots hp (pc + 1) lv (.int (x &&& y) :: st)) : mm_M g ad cells slots hp pc lv (.int y :: .int x :: st) := by
  obtain ⟨p, l, e, R, s, m, args, below, meth, c, nL, D, A, Q⟩ := g
  obtain ⟨hx, hb, hml, hown, hts, hK, hA, hG, hlt, hR⟩ := C
  intro H locs ls hH h
  exact lv_iand hx hb hd (k H locs ls hH h)
theorem mm_ior {g : mm_g} {cc : ByteArray} {own : String} {Ts : List Cond} {rm : Room} {ad : mm_A} {cells slots : Nat} {hp : List mm_c} {pc : Nat} {lv : List (Nat × Value)} {st : List Value} (C : mm_C g cc own Ts rm ad) {x y : Int32} (hd : decode cc pc = .ok (.ior, 1)) (k : mm_M g ad cells slots hp (pc + 1) lv (.int (x ||| y) :: st)) : mm_M g ad cells slots hp pc lv (.int y :: .int x :: st) := by
  obtain ⟨p, l, e, R, s, m, args, below, meth, c, nL, D, A, Q⟩ := g
  obtain ⟨hx, hb, hml, hown, hts, hK, hA, hG, hlt, hR⟩ := C
  intro H locs ls hH h
  exact lv_ior hx hb hd (k H locs ls hH h)
theorem mm_ixor {g : mm_g} {cc : ByteArray} {own : String} {Ts : List Cond} {rm : Room} {ad : mm_A} {cells slots : Nat} {hp : List mm_c} {pc : Nat} {lv : List (Nat × Value)} {st : List Value} (C : mm_C g cc own Ts rm ad) {x y : Int32} (hd : decode cc pc = .ok (.ixor, 1)) (k : mm_M g ad cells slots hp (pc + 1) lv (.int (x ^^^ y) :: st)) : mm_M g ad cells slots hp pc lv (.int y :: .int x :: st) := by
  obtain ⟨p, l, e, R, s, m, args, below, meth, c, nL, D, A, Q⟩ := g
  obtain ⟨hx, hb, hml, hown, hts, hK, hA, hG, hlt, hR⟩ := C
  intro H locs ls hH h
  exact lv_ixor hx hb hd (k H locs ls hH h)
theorem mm_ishl {g : mm_g} {cc : ByteArray} {own : String} {Ts : List Cond} {rm : Room} {ad : mm_A} {cells slots : Nat} {hp : List mm_c} {pc : Nat} {lv : List (Nat × Value)} {st : List Value} (C : mm_C g cc own Ts rm ad) {x y : Int32} (hd : decode cc pc = .ok (.ishl, 1)) (k : mm_M g ad cells slots hp (pc + 1) lv (.int (x <<< (y &&& 31)) :: st)) : mm_M g ad cells slots hp pc lv (.int y :: .int x :: st) := by
  obtain ⟨p, l, e, R, s, m, args, below, meth, c, nL, D, A, Q⟩ := g
  obtain ⟨hx, hb, hml, hown, hts, hK, hA, hG, hlt, hR⟩ := C
  intro H locs ls hH h
  exact lv_ishl hx hb hd (k H locs ls hH h)
theorem mm_ishr {g : mm_g} {cc : ByteArray} {own : String} {Ts : List Cond} {rm : Room} {ad : mm_A} {cells slots : Nat} {hp : List mm_c} {pc : Nat} {lv : List (Nat × Value)} {st : List Value} (C : mm_C g cc own Ts rm ad) {x y : Int32} (hd : decode cc pc = .ok (.ishr, 1)) (k : mm_M g ad cells slots hp (pc + 1) lv (.int (x >>> (y &&& 31)) :: st)) : mm_M g ad cells slots hp pc lv (.int y :: .int x :: st) := by
  obtain ⟨p, l, e, R, s, m, args, below, meth, c, nL, D, A, Q⟩ := g
  obtain ⟨hx, hb, hml, hown, hts, hK, hA, hG, hlt, hR⟩ := C
  intro H locs ls hH h
  exact lv_ishr hx hb hd (k H locs ls hH h)
theorem mm_idiv {g : mm_g} {cc : ByteArray} {own : String} {Ts : List Cond} {rm : Room} {ad : mm_A} {cells slots : Nat} {hp : List mm_c} {pc : Nat} {lv : List (Nat × Value)} {st : List Value} (C : mm_C g cc own Ts rm ad) {x y : Int32} (hd : decode cc pc = .ok (.idiv, 1)) (hy : ¬ y = 0) (k : mm_M g ad cells slots hp (pc + 1) lv (.int (x / y) :: st)) : mm_M g ad cells slots hp pc lv (.int y :: .int x :: st) := by
  obtain ⟨p, l, e, R, s, m, args, below, meth, c, nL, D, A, Q⟩ := g
  obtain ⟨hx, hb, hml, hown, hts, hK, hA, hG, hlt, hR⟩ := C
  intro H locs ls hH h
  exact lv_idiv hx hb hd hy (k H locs ls hH h)
theorem mm_irem {g : mm_g} {cc : ByteArray} {own : String} {Ts : List Cond} {rm : Room} {ad : mm_A} {cells slots : Nat} {hp : List mm_c} {pc : Nat} {lv : List (Nat × Value)} {st : List Value} (C : mm_C g cc own Ts rm ad) {x y : Int32} (hd : decode cc pc = .ok (.irem, 1)) (hy : ¬ y = 0) (k : mm_M g ad cells slots hp (pc + 1) lv (.int (x - x / y * y) :: st)) : mm_M g ad cells slots hp pc lv (.int y :: .int x :: st) := by
  obtain ⟨p, l, e, R, s, m, args, below, meth, c, nL, D, A, Q⟩ := g
  obtain ⟨hx, hb, hml, hown, hts, hK, hA, hG, hlt, hR⟩ := C
  intro H locs ls hH h
  exact lv_irem hx hb hd hy (k H locs ls hH h)
theorem mm_ineg {g : mm_g} {cc : ByteArray} {own : String} {Ts : List Cond} {rm : Room} {ad : mm_A} {cells slots : Nat} {hp : List mm_c} {pc : Nat} {lv : List (Nat × Value)} {st : List Value} (C : mm_C g cc own Ts rm ad) {x : Int32} (hd : decode cc pc = .ok (.ineg, 1)) (k : mm_M g ad cells slots hp (pc + 1) lv (.int (-x) :: st)) : mm_M g ad cells slots hp pc lv (.int x :: st) := by
  obtain ⟨p, l, e, R, s, m, args, below, meth, c, nL, D, A, Q⟩ := g
  obtain ⟨hx, hb, hml, hown, hts, hK, hA, hG, hlt, hR⟩ := C
  intro H locs ls hH h
  exact lv_ineg hx hb hd (k H locs ls hH h)
theorem mm_topi {g : mm_g} {ad : mm_A} {cells slots : Nat} {hp : List mm_c} {pc : Nat} {lv : List (Nat × Value)} {st : List Value} {x : Int32} (k : ∀ y : Int32, y = x → mm_M g ad cells slots hp pc lv (.int y :: st)) : mm_M g ad cells slots hp pc lv (.int x :: st) := k x rfl
theorem mm_dup {g : mm_g} {cc : ByteArray} {own : String} {Ts : List Cond} {rm : Room} {ad : mm_A} {cells slots : Nat} {hp : List mm_c} {pc : Nat} {lv : List (Nat × Value)} {st : List Value} (C : mm_C g cc own Ts rm ad) {v : Value} (hd : decode cc pc = .ok (.dup, 1)) (hv : v.category = 1) (k : mm_M g ad cells slots hp (pc + 1) lv (v :: v :: st)) : mm_M g ad cells slots hp pc lv (v :: st) := by
  obtain ⟨p, l, e, R, s, m, args, below, meth, c, nL, D, A, Q⟩ := g
  obtain ⟨hx, hb, hml, hown, hts, hK, hA, hG, hlt, hR⟩ := C
  intro H locs ls hH h
  exact lv_dup hx hb hd ((mm_v_cat ad v).trans hv) (k H locs ls hH h)
theorem mm_pop {g : mm_g} {cc : ByteArray} {own : String} {Ts : List Cond} {rm : Room} {ad : mm_A} {cells slots : Nat} {hp : List mm_c} {pc : Nat} {lv : List (Nat × Value)} {st : List Value} (C : mm_C g cc own Ts rm ad) {v : Value} (hd : decode cc pc = .ok (.pop, 1)) (hv : v.category = 1) (k : mm_M g ad cells slots hp (pc + 1) lv st) : mm_M g ad cells slots hp pc lv (v :: st) := by
  obtain ⟨p, l, e, R, s, m, args, below, meth, c, nL, D, A, Q⟩ := g
  obtain ⟨hx, hb, hml, hown, hts, hK, hA, hG, hlt, hR⟩ := C
  intro H locs ls hH h
  exact lv_pop hx hb hd ((mm_v_cat ad v).trans hv) (k H locs ls hH h)
theorem mm_dup_x1 {g : mm_g} {cc : ByteArray} {own : String} {Ts : List Cond} {rm : Room} {ad : mm_A} {cells slots : Nat} {hp : List mm_c} {pc : Nat} {lv : List (Nat × Value)} {st : List Value} (C : mm_C g cc own Ts rm ad) {v w : Value} (hd : decode cc pc = .ok (.dup_x1, 1)) (hv : v.category = 1) (hw : w.category = 1) (k : mm_M g ad cells slots hp (pc + 1) lv (v :: w :: v :: st)) : mm_M g ad cells slots hp pc lv (v :: w :: st) := by
  obtain ⟨p, l, e, R, s, m, args, below, meth, c, nL, D, A, Q⟩ := g
  obtain ⟨hx, hb, hml, hown, hts, hK, hA, hG, hlt, hR⟩ := C
  intro H locs ls hH h
  exact lv_dup_x1 hx hb hd ((mm_v_cat ad v).trans hv) ((mm_v_cat ad w).trans hw) (k H locs ls hH h)
theorem mm_dup_x2 {g : mm_g} {cc : ByteArray} {own : String} {Ts : List Cond} {rm : Room} {ad : mm_A} {cells slots : Nat} {hp : List mm_c} {pc : Nat} {lv : List (Nat × Value)} {st : List Value} (C : mm_C g cc own Ts rm ad) {v w z : Value} (hd : decode cc pc = .ok (.dup_x2, 1)) (hv : v.category = 1) (hw : w.category = 1) (hz : z.category = 1) (k : mm_M g ad cells slots hp (pc + 1) lv (v :: w :: z :: v :: st)) : mm_M g ad cells slots hp pc lv (v :: w :: z :: st) := by
  obtain ⟨p, l, e, R, s, m, args, below, meth, c, nL, D, A, Q⟩ := g
  obtain ⟨hx, hb, hml, hown, hts, hK, hA, hG, hlt, hR⟩ := C
  intro H locs ls hH h
  exact lv_dup_x2 hx hb hd ((mm_v_cat ad v).trans hv) ((mm_v_cat ad w).trans hw) ((mm_v_cat ad z).trans hz) (k H locs ls hH h)
theorem mm_dup2 {g : mm_g} {cc : ByteArray} {own : String} {Ts : List Cond} {rm : Room} {ad : mm_A} {cells slots : Nat} {hp : List mm_c} {pc : Nat} {lv : List (Nat × Value)} {st : List Value} (C : mm_C g cc own Ts rm ad) {v w : Value} (hd : decode cc pc = .ok (.dup2, 1)) (hv : v.category = 1) (hw : w.category = 1) (k : mm_M g ad cells slots hp (pc + 1) lv (v :: w :: v :: w :: st)) : mm_M g ad cells slots hp pc lv (v :: w :: st) := by
  obtain ⟨p, l, e, R, s, m, args, below, meth, c, nL, D, A, Q⟩ := g
  obtain ⟨hx, hb, hml, hown, hts, hK, hA, hG, hlt, hR⟩ := C
  intro H locs ls hH h
  exact lv_dup2_11 hx hb hd ((mm_v_cat ad v).trans hv) ((mm_v_cat ad w).trans hw) (k H locs ls hH h)
theorem mm_if_eq {g : mm_g} {cc : ByteArray} {own : String} {Ts : List Cond} {rm : Room} {ad : mm_A} {cells slots : Nat} {hp : List mm_c} {pc : Nat} {lv : List (Nat × Value)} {st : List Value} (C : mm_C g cc own Ts rm ad) {x : Int32} {off : Int} {tgt : Nat} (hd : decode cc pc = .ok (.ifCond .eq off, 3)) (ht : (pc : Int) + off = (tgt : Int)) (kt : x = 0 → mm_M g ad cells slots hp tgt lv st) (kf : ¬ x = 0 → mm_M g ad cells slots hp (pc + 3) lv st) : mm_M g ad cells slots hp pc lv (.int x :: st) := by
  obtain ⟨p, l, e, R, s, m, args, below, meth, c, nL, D, A, Q⟩ := g
  obtain ⟨hx, hb, hml, hown, hts, hK, hA, hG, hlt, hR⟩ := C
  intro H locs ls hH h
  exact lv_if_eq hx hb hd ht (fun c9 => kt c9 H locs ls hH h) (fun c9 => kf c9 H locs ls hH h)
theorem mm_if_ne {g : mm_g} {cc : ByteArray} {own : String} {Ts : List Cond} {rm : Room} {ad : mm_A} {cells slots : Nat} {hp : List mm_c} {pc : Nat} {lv : List (Nat × Value)} {st : List Value} (C : mm_C g cc own Ts rm ad) {x : Int32} {off : Int} {tgt : Nat} (hd : decode cc pc = .ok (.ifCond .ne off, 3)) (ht : (pc : Int) + off = (tgt : Int)) (kt : ¬ x = 0 → mm_M g ad cells slots hp tgt lv st) (kf : x = 0 → mm_M g ad cells slots hp (pc + 3) lv st) : mm_M g ad cells slots hp pc lv (.int x :: st) := by
  obtain ⟨p, l, e, R, s, m, args, below, meth, c, nL, D, A, Q⟩ := g
  obtain ⟨hx, hb, hml, hown, hts, hK, hA, hG, hlt, hR⟩ := C
  intro H locs ls hH h
  exact lv_if_ne hx hb hd ht (fun c9 => kt c9 H locs ls hH h) (fun c9 => kf c9 H locs ls hH h)
theorem mm_if_lt {g : mm_g} {cc : ByteArray} {own : String} {Ts : List Cond} {rm : Room} {ad : mm_A} {cells slots : Nat} {hp : List mm_c} {pc : Nat} {lv : List (Nat × Value)} {st : List Value} (C : mm_C g cc own Ts rm ad) {x : Int32} {off : Int} {tgt : Nat} (hd : decode cc pc = .ok (.ifCond .lt off, 3)) (ht : (pc : Int) + off = (tgt : Int)) (kt : x < 0 → mm_M g ad cells slots hp tgt lv st) (kf : ¬ x < 0 → mm_M g ad cells slots hp (pc + 3) lv st) : mm_M g ad cells slots hp pc lv (.int x :: st) := by
  obtain ⟨p, l, e, R, s, m, args, below, meth, c, nL, D, A, Q⟩ := g
  obtain ⟨hx, hb, hml, hown, hts, hK, hA, hG, hlt, hR⟩ := C
  intro H locs ls hH h
  exact lv_if_lt hx hb hd ht (fun c9 => kt c9 H locs ls hH h) (fun c9 => kf c9 H locs ls hH h)
theorem mm_if_ge {g : mm_g} {cc : ByteArray} {own : String} {Ts : List Cond} {rm : Room} {ad : mm_A} {cells slots : Nat} {hp : List mm_c} {pc : Nat} {lv : List (Nat × Value)} {st : List Value} (C : mm_C g cc own Ts rm ad) {x : Int32} {off : Int} {tgt : Nat} (hd : decode cc pc = .ok (.ifCond .ge off, 3)) (ht : (pc : Int) + off = (tgt : Int)) (kt : 0 ≤ x → mm_M g ad cells slots hp tgt lv st) (kf : ¬ 0 ≤ x → mm_M g ad cells slots hp (pc + 3) lv st) : mm_M g ad cells slots hp pc lv (.int x :: st) := by
  obtain ⟨p, l, e, R, s, m, args, below, meth, c, nL, D, A, Q⟩ := g
  obtain ⟨hx, hb, hml, hown, hts, hK, hA, hG, hlt, hR⟩ := C
  intro H locs ls hH h
  exact lv_if_ge hx hb hd ht (fun c9 => kt c9 H locs ls hH h) (fun c9 => kf c9 H locs ls hH h)
theorem mm_if_gt {g : mm_g} {cc : ByteArray} {own : String} {Ts : List Cond} {rm : Room} {ad : mm_A} {cells slots : Nat} {hp : List mm_c} {pc : Nat} {lv : List (Nat × Value)} {st : List Value} (C : mm_C g cc own Ts rm ad) {x : Int32} {off : Int} {tgt : Nat} (hd : decode cc pc = .ok (.ifCond .gt off, 3)) (ht : (pc : Int) + off = (tgt : Int)) (kt : 0 < x → mm_M g ad cells slots hp tgt lv st) (kf : ¬ 0 < x → mm_M g ad cells slots hp (pc + 3) lv st) : mm_M g ad cells slots hp pc lv (.int x :: st) := by
  obtain ⟨p, l, e, R, s, m, args, below, meth, c, nL, D, A, Q⟩ := g
  obtain ⟨hx, hb, hml, hown, hts, hK, hA, hG, hlt, hR⟩ := C
  intro H locs ls hH h
  exact lv_if_gt hx hb hd ht (fun c9 => kt c9 H locs ls hH h) (fun c9 => kf c9 H locs ls hH h)
theorem mm_if_le {g : mm_g} {cc : ByteArray} {own : String} {Ts : List Cond} {rm : Room} {ad : mm_A} {cells slots : Nat} {hp : List mm_c} {pc : Nat} {lv : List (Nat × Value)} {st : List Value} (C : mm_C g cc own Ts rm ad) {x : Int32} {off : Int} {tgt : Nat} (hd : decode cc pc = .ok (.ifCond .le off, 3)) (ht : (pc : Int) + off = (tgt : Int)) (kt : x ≤ 0 → mm_M g ad cells slots hp tgt lv st) (kf : ¬ x ≤ 0 → mm_M g ad cells slots hp (pc + 3) lv st) : mm_M g ad cells slots hp pc lv (.int x :: st) := by
  obtain ⟨p, l, e, R, s, m, args, below, meth, c, nL, D, A, Q⟩ := g
  obtain ⟨hx, hb, hml, hown, hts, hK, hA, hG, hlt, hR⟩ := C
  intro H locs ls hH h
  exact lv_if_le hx hb hd ht (fun c9 => kt c9 H locs ls hH h) (fun c9 => kf c9 H locs ls hH h)
theorem mm_icmp_eq {g : mm_g} {cc : ByteArray} {own : String} {Ts : List Cond} {rm : Room} {ad : mm_A} {cells slots : Nat} {hp : List mm_c} {pc : Nat} {lv : List (Nat × Value)} {st : List Value} (C : mm_C g cc own Ts rm ad) {x y : Int32} {off : Int} {tgt : Nat} (hd : decode cc pc = .ok (.if_icmp .eq off, 3)) (ht : (pc : Int) + off = (tgt : Int)) (kt : x = y → mm_M g ad cells slots hp tgt lv st) (kf : ¬ x = y → mm_M g ad cells slots hp (pc + 3) lv st) : mm_M g ad cells slots hp pc lv (.int y :: .int x :: st) := by
  obtain ⟨p, l, e, R, s, m, args, below, meth, c, nL, D, A, Q⟩ := g
  obtain ⟨hx, hb, hml, hown, hts, hK, hA, hG, hlt, hR⟩ := C
  intro H locs ls hH h
  exact lv_icmp_eq hx hb hd ht (fun c9 => kt c9 H locs ls hH h) (fun c9 => kf c9 H locs ls hH h)
theorem mm_icmp_ne {g : mm_g} {cc : ByteArray} {own : String} {Ts : List Cond} {rm : Room} {ad : mm_A} {cells slots : Nat} {hp : List mm_c} {pc : Nat} {lv : List (Nat × Value)} {st : List Value} (C : mm_C g cc own Ts rm ad) {x y : Int32} {off : Int} {tgt : Nat} (hd : decode cc pc = .ok (.if_icmp .ne off, 3)) (ht : (pc : Int) + off = (tgt : Int)) (kt : ¬ x = y → mm_M g ad cells slots hp tgt lv st) (kf : x = y → mm_M g ad cells slots hp (pc + 3) lv st) : mm_M g ad cells slots hp pc lv (.int y :: .int x :: st) := by
  obtain ⟨p, l, e, R, s, m, args, below, meth, c, nL, D, A, Q⟩ := g
  obtain ⟨hx, hb, hml, hown, hts, hK, hA, hG, hlt, hR⟩ := C
  intro H locs ls hH h
  exact lv_icmp_ne hx hb hd ht (fun c9 => kt c9 H locs ls hH h) (fun c9 => kf c9 H locs ls hH h)
theorem mm_icmp_lt {g : mm_g} {cc : ByteArray} {own : String} {Ts : List Cond} {rm : Room} {ad : mm_A} {cells slots : Nat} {hp : List mm_c} {pc : Nat} {lv : List (Nat × Value)} {st : List Value} (C : mm_C g cc own Ts rm ad) {x y : Int32} {off : Int} {tgt : Nat} (hd : decode cc pc = .ok (.if_icmp .lt off, 3)) (ht : (pc : Int) + off = (tgt : Int)) (kt : x < y → mm_M g ad cells slots hp tgt lv st) (kf : ¬ x < y → mm_M g ad cells slots hp (pc + 3) lv st) : mm_M g ad cells slots hp pc lv (.int y :: .int x :: st) := by
  obtain ⟨p, l, e, R, s, m, args, below, meth, c, nL, D, A, Q⟩ := g
  obtain ⟨hx, hb, hml, hown, hts, hK, hA, hG, hlt, hR⟩ := C
  intro H locs ls hH h
  exact lv_icmp_lt hx hb hd ht (fun c9 => kt c9 H locs ls hH h) (fun c9 => kf c9 H locs ls hH h)
theorem mm_icmp_ge {g : mm_g} {cc : ByteArray} {own : String} {Ts : List Cond} {rm : Room} {ad : mm_A} {cells slots : Nat} {hp : List mm_c} {pc : Nat} {lv : List (Nat × Value)} {st : List Value} (C : mm_C g cc own Ts rm ad) {x y : Int32} {off : Int} {tgt : Nat} (hd : decode cc pc = .ok (.if_icmp .ge off, 3)) (ht : (pc : Int) + off = (tgt : Int)) (kt : y ≤ x → mm_M g ad cells slots hp tgt lv st) (kf : ¬ y ≤ x → mm_M g ad cells slots hp (pc + 3) lv st) : mm_M g ad cells slots hp pc lv (.int y :: .int x :: st) := by
  obtain ⟨p, l, e, R, s, m, args, below, meth, c, nL, D, A, Q⟩ := g
  obtain ⟨hx, hb, hml, hown, hts, hK, hA, hG, hlt, hR⟩ := C
  intro H locs ls hH h
  exact lv_icmp_ge hx hb hd ht (fun c9 => kt c9 H locs ls hH h) (fun c9 => kf c9 H locs ls hH h)
theorem mm_icmp_gt {g : mm_g} {cc : ByteArray} {own : String} {Ts : List Cond} {rm : Room} {ad : mm_A} {cells slots : Nat} {hp : List mm_c} {pc : Nat} {lv : List (Nat × Value)} {st : List Value} (C : mm_C g cc own Ts rm ad) {x y : Int32} {off : Int} {tgt : Nat} (hd : decode cc pc = .ok (.if_icmp .gt off, 3)) (ht : (pc : Int) + off = (tgt : Int)) (kt : y < x → mm_M g ad cells slots hp tgt lv st) (kf : ¬ y < x → mm_M g ad cells slots hp (pc + 3) lv st) : mm_M g ad cells slots hp pc lv (.int y :: .int x :: st) := by
  obtain ⟨p, l, e, R, s, m, args, below, meth, c, nL, D, A, Q⟩ := g
  obtain ⟨hx, hb, hml, hown, hts, hK, hA, hG, hlt, hR⟩ := C
  intro H locs ls hH h
  exact lv_icmp_gt hx hb hd ht (fun c9 => kt c9 H locs ls hH h) (fun c9 => kf c9 H locs ls hH h)
theorem mm_icmp_le {g : mm_g} {cc : ByteArray} {own : String} {Ts : List Cond} {rm : Room} {ad : mm_A} {cells slots : Nat} {hp : List mm_c} {pc : Nat} {lv : List (Nat × Value)} {st : List Value} (C : mm_C g cc own Ts rm ad) {x y : Int32} {off : Int} {tgt : Nat} (hd : decode cc pc = .ok (.if_icmp .le off, 3)) (ht : (pc : Int) + off = (tgt : Int)) (kt : x ≤ y → mm_M g ad cells slots hp tgt lv st) (kf : ¬ x ≤ y → mm_M g ad cells slots hp (pc + 3) lv st) : mm_M g ad cells slots hp pc lv (.int y :: .int x :: st) := by
  obtain ⟨p, l, e, R, s, m, args, below, meth, c, nL, D, A, Q⟩ := g
  obtain ⟨hx, hb, hml, hown, hts, hK, hA, hG, hlt, hR⟩ := C
  intro H locs ls hH h
  exact lv_icmp_le hx hb hd ht (fun c9 => kt c9 H locs ls hH h) (fun c9 => kf c9 H locs ls hH h)
theorem mm_goto {g : mm_g} {cc : ByteArray} {own : String} {Ts : List Cond} {rm : Room} {ad : mm_A} {cells slots : Nat} {hp : List mm_c} {pc : Nat} {lv : List (Nat × Value)} {st : List Value} (C : mm_C g cc own Ts rm ad) {off : Int} {tgt : Nat} (hd : decode cc pc = .ok (.goto off, 3)) (ht : (pc : Int) + off = (tgt : Int)) (k : mm_M g ad cells slots hp tgt lv st) : mm_M g ad cells slots hp pc lv st := by
  obtain ⟨p, l, e, R, s, m, args, below, meth, c, nL, D, A, Q⟩ := g
  obtain ⟨hx, hb, hml, hown, hts, hK, hA, hG, hlt, hR⟩ := C
  intro H locs ls hH h
  exact lv_goto hx hb hd ht (k H locs ls hH h)
theorem mm_tableIn {g : mm_g} {cc : ByteArray} {own : String} {Ts : List Cond} {rm : Room} {ad : mm_A} {cells slots : Nat} {hp : List mm_c} {pc : Nat} {lv : List (Nat × Value)} {st : List Value} (C : mm_C g cc own Ts rm ad) {dflt lo hi : Int} {offs : Array Int} {len : Nat} {x : Int32} {off : Int} {tgt : Nat} (hd : decode cc pc = .ok (.tableswitch dflt lo hi offs, len)) (h1 : ¬ x.toInt < lo) (h2 : ¬ hi < x.toInt) (ho : offs[(x.toInt - lo).toNat]? = some off) (ht : (pc : Int) + off = (tgt : Int)) (k : mm_M g ad cells slots hp tgt lv st) : mm_M g ad cells slots hp pc lv (.int x :: st) := by
  obtain ⟨p, l, e, R, s, m, args, below, meth, c, nL, D, A, Q⟩ := g
  obtain ⟨hx, hb, hml, hown, hts, hK, hA, hG, hlt, hR⟩ := C
  intro H locs ls hH h
  exact lv_tableIn hx hb hd h1 h2 ho ht (k H locs ls hH h)
theorem mm_tableOut {g : mm_g} {cc : ByteArray} {own : String} {Ts : List Cond} {rm : Room} {ad : mm_A} {cells slots : Nat} {hp : List mm_c} {pc : Nat} {lv : List (Nat × Value)} {st : List Value} (C : mm_C g cc own Ts rm ad) {dflt lo hi : Int} {offs : Array Int} {len : Nat} {x : Int32} {tgt : Nat} (hd : decode cc pc = .ok (.tableswitch dflt lo hi offs, len)) (h1 : x.toInt < lo ∨ hi < x.toInt) (ht : (pc : Int) + dflt = (tgt : Int)) (k : mm_M g ad cells slots hp tgt lv st) : mm_M g ad cells slots hp pc lv (.int x :: st) := by
  obtain ⟨p, l, e, R, s, m, args, below, meth, c, nL, D, A, Q⟩ := g
  obtain ⟨hx, hb, hml, hown, hts, hK, hA, hG, hlt, hR⟩ := C
  intro H locs ls hH h
  exact lv_tableOut hx hb hd h1 ht (k H locs ls hH h)
theorem mm_lookup {g : mm_g} {cc : ByteArray} {own : String} {Ts : List Cond} {rm : Room} {ad : mm_A} {cells slots : Nat} {hp : List mm_c} {pc : Nat} {lv : List (Nat × Value)} {st : List Value} (C : mm_C g cc own Ts rm ad) {dflt : Int} {ps : Array (Int × Int)} {len : Nat} {x : Int32} {off : Int} {tgt : Nat} (hd : decode cc pc = .ok (.lookupswitch dflt ps, len)) (hp9 : (ps.toList.zip (ps.toList.drop 1)).all (fun (a, next) => a.1 < next.1) = true) (ho : Op.lookupswitch.offset ps.toList dflt x.toInt = off) (ht : (pc : Int) + off = (tgt : Int)) (k : mm_M g ad cells slots hp tgt lv st) : mm_M g ad cells slots hp pc lv (.int x :: st) := by
  obtain ⟨p, l, e, R, s, m, args, below, meth, c, nL, D, A, Q⟩ := g
  obtain ⟨hx, hb, hml, hown, hts, hK, hA, hG, hlt, hR⟩ := C
  intro H locs ls hH h
  exact lv_lookup hx hb hd hp9 ho ht (k H locs ls hH h)
theorem mm_fv {ad : mm_A} {fs : List Value} {k : Nat} {v : Value} (h : fs[k]? = some v) : (fs.map (mm_v ad))[k]? = some (mm_v ad v) := by simp [h]
theorem mm_fset {ad : mm_A} {fs : List Value} {k : Nat} {v : Value} : (fs.set k v).map (mm_v ad) = (fs.map (mm_v ad)).set k (mm_v ad v) := by rw [List.map_set]
theorem mm_get {g : mm_g} {cc : ByteArray} {own : String} {Ts : List Cond} {rm : Room} {ad : mm_A} {cells slots : Nat} {hp : List mm_c} {pc : Nat} {lv : List (Nat × Value)} {st : List Value} (C : mm_C g cc own Ts rm ad) (pl k : Nat) {ci N idx : Nat} {fs : List Value} {v : Value} {Cn ref : String} {F : u_T} (hin : ∀ w ∈ u_ws Cn F N, w ∈ Ts) (he : hp[pl]? = some (.inr (.inl (ci, fs)))) (hc : vwCl[ci]? = some (Cn, F, N)) (hk : k < N) (hl : Cond.fieldLink own idx ref (F k).2.1 (F k).2.2.1 ∈ Ts) (hre : ref = (F k).1) (hv : fs[k]? = some v) (hd : decode cc pc = .ok (.getfield idx, 3)) (k9 : mm_M g ad cells slots hp (pc + 3) lv (v :: st)) : mm_M g ad cells slots hp pc lv (.ref pl :: st) := by
  obtain ⟨p, l, e, R, s, m, args, below, meth, c, nL, D, A, Q⟩ := g
  obtain ⟨hx, hb, hml, hown, hts, hK, hA, hG, hlt, hR⟩ := C
  intro H locs ls hH h
  subst hre
  exact va_get (D := D) (ci := ci) hx hb hts hin hown hK hH.1 pl (mm_ws_at he) hc k hk (hts _ hl) (fun _ h9 => h9) (mm_fv hv) hd (k9 H locs ls hH h)
theorem mm_getN {g : mm_g} {cc : ByteArray} {own : String} {Ts : List Cond} {rm : Room} {ad : mm_A} {cells slots : Nat} {hp : List mm_c} {pc : Nat} {lv : List (Nat × Value)} {st : List Value} (C : mm_C g cc own Ts rm ad) (pl k : Nat) {ci N idx : Nat} {fs : List Value} {v : Value} {Cn ref : String} {F : u_T} (hin : ∀ w ∈ u_ws Cn F N, w ∈ Ts) (he : hp[pl]? = some (.inr (.inl (ci, fs)))) (hc : vwCl[ci]? = some (Cn, F, N)) (hk : k < N) {host : String} (hl : Cond.fieldLinkNest own idx ref (F k).2.1 (F k).2.2.1 host ∈ mm_nw) (hre : ref = (F k).1) (hv : fs[k]? = some v) (hd : decode cc pc = .ok (.getfield idx, 3)) (k9 : mm_M g ad cells slots hp (pc + 3) lv (v :: st)) : mm_M g ad cells slots hp pc lv (.ref pl :: st) := by
  obtain ⟨p, l, e, R, s, m, args, below, meth, c, nL, D, A, Q⟩ := g
  obtain ⟨hx, hb, hml, hown, hts, hK, hA, hG, hlt, hR⟩ := C
  intro H locs ls hH h
  subst hre
  exact va_getN (D := D) (ci := ci) hx hb hts hin hown hK hH.1 pl (mm_ws_at he) hc k hk (va_Nw.use rfl (hG.1 _ hl)) (fun _ h9 => h9) (mm_fv hv) hd (k9 H locs ls hH h)
theorem mm_put {g : mm_g} {cc : ByteArray} {own : String} {Ts : List Cond} {rm : Room} {ad : mm_A} {cells slots : Nat} {hp : List mm_c} {pc : Nat} {lv : List (Nat × Value)} {st : List Value} (C : mm_C g cc own Ts rm ad) (pl k : Nat) {ci N idx : Nat} {fs : List Value} {v : Value} {Cn ref : String} {F : u_T} (hin : ∀ w ∈ u_ws Cn F N, w ∈ Ts) (he : hp[pl]? = some (.inr (.inl (ci, fs)))) (hc : vwCl[ci]? = some (Cn, F, N)) (hk : k < N) (ty0 : Nat → FieldType) (hty : ∀ k, k < N → parseFieldDescriptor (F k).2.2.1 = some (ty0 k)) (hnm : ∀ a, a < N → ∀ b, b < N → a ≠ b → (F a).2.1 ≠ (F b).2.1) (hl : Cond.fieldLink own idx ref (F k).2.1 (F k).2.2.1 ∈ Ts) (hre : ref = (F k).1) (hfin : (F k).2.2.2 = false) {ty : FieldType} (hdsc : parseFieldDescriptor (F k).2.2.1 = some ty) (hn : ∀ ad, narrow ty (mm_v ad v) = mm_v ad v) (hft : ∀ ad, fits ty (mm_v ad v) = true) (hlen : k < fs.length) (hd : decode cc pc = .ok (.putfield idx, 3)) (k9 : mm_M g ad cells slots (hp.set pl (.inr (.inl (ci, fs.set k v)))) (pc + 3) lv st) : mm_M g ad cells slots hp pc lv (v :: .ref pl :: st) := by
  obtain ⟨p, l, e, R, s, m, args, below, meth, c, nL, D, A, Q⟩ := g
  obtain ⟨hx, hb, hml, hown, hts, hK, hA, hG, hlt, hR⟩ := C
  intro H locs ls hH h
  subst hre
  refine va_put (D := D) (ci := ci) hx hb hts hin ty0 hty hnm hown hK hH.1 hH.2.1 hH.2.2.2 pl (mm_ws_at he) hc k hk (hts _ hl) (fun _ h9 => h9) hfin hdsc (hn ad) (hft ad) (by simpa using hlen) hd (fun H1 locs1 hP1 hD1 hS1 => ?_)
  rw [← mm_fset, show (.inr (ci, (fs.set k v).map (mm_v ad)) : va_E) = mm_e ad pl (.inr (.inl (ci, fs.set k v))) from rfl, ← mm_ws_set] at hP1 hD1
  exact k9 H1 locs1 ls ⟨hP1, hD1, hH.2.2.1.sh (mm_sh_set he rfl), hS1⟩ h
theorem mm_putN {g : mm_g} {cc : ByteArray} {own : String} {Ts : List Cond} {rm : Room} {ad : mm_A} {cells slots : Nat} {hp : List mm_c} {pc : Nat} {lv : List (Nat × Value)} {st : List Value} (C : mm_C g cc own Ts rm ad) (pl k : Nat) {ci N idx : Nat} {fs : List Value} {v : Value} {Cn ref : String} {F : u_T} (hin : ∀ w ∈ u_ws Cn F N, w ∈ Ts) (he : hp[pl]? = some (.inr (.inl (ci, fs)))) (hc : vwCl[ci]? = some (Cn, F, N)) (hk : k < N) (ty0 : Nat → FieldType) (hty : ∀ k, k < N → parseFieldDescriptor (F k).2.2.1 = some (ty0 k)) (hnm : ∀ a, a < N → ∀ b, b < N → a ≠ b → (F a).2.1 ≠ (F b).2.1) {host : String} (hl : Cond.fieldLinkNest own idx ref (F k).2.1 (F k).2.2.1 host ∈ mm_nw) (hre : ref = (F k).1) (hfin : (F k).2.2.2 = false) {ty : FieldType} (hdsc : parseFieldDescriptor (F k).2.2.1 = some ty) (hn : ∀ ad, narrow ty (mm_v ad v) = mm_v ad v) (hft : ∀ ad, fits ty (mm_v ad v) = true) (hlen : k < fs.length) (hd : decode cc pc = .ok (.putfield idx, 3)) (k9 : mm_M g ad cells slots (hp.set pl (.inr (.inl (ci, fs.set k v)))) (pc + 3) lv st) : mm_M g ad cells slots hp pc lv (v :: .ref pl :: st) := by
  obtain ⟨p, l, e, R, s, m, args, below, meth, c, nL, D, A, Q⟩ := g
  obtain ⟨hx, hb, hml, hown, hts, hK, hA, hG, hlt, hR⟩ := C
  intro H locs ls hH h
  subst hre
  refine va_putN (D := D) (ci := ci) hx hb hts hin ty0 hty hnm hown hK hH.1 hH.2.1 hH.2.2.2 pl (mm_ws_at he) hc k hk (va_Nw.use rfl (hG.1 _ hl)) (fun _ h9 => h9) hfin hdsc (hn ad) (hft ad) (by simpa using hlen) hd (fun H1 locs1 hP1 hD1 hS1 => ?_)
  rw [← mm_fset, show (.inr (ci, (fs.set k v).map (mm_v ad)) : va_E) = mm_e ad pl (.inr (.inl (ci, fs.set k v))) from rfl, ← mm_ws_set] at hP1 hD1
  exact k9 H1 locs1 ls ⟨hP1, hD1, hH.2.2.1.sh (mm_sh_set he rfl), hS1⟩ h
theorem mm_K1 {D : va_G} {s : State} {cA : ClassId} (hK : va_K D vwCl [] s) (h : ArrOfT s cA .int ∧ va_RA s cA .int) : va_K D vwCl [(cA, .int)] s := ⟨hK.1, fun k q hq => by
  cases k with
  | zero => cases hq; exact h
  | succ n => simp at hq⟩
theorem mm_K2 {D : va_G} {s : State} {cA : ClassId} (hK : va_K D vwCl [] s) (h : ArrOfT s cA .long ∧ va_RA s cA .long) : va_K D vwCl [(cA, .long)] s := ⟨hK.1, fun k q hq => by
  cases k with
  | zero => cases hq; exact h
  | succ n => simp at hq⟩
theorem mm_iald {g : mm_g} {cc : ByteArray} {own : String} {Ts : List Cond} {rm : Room} {ad : mm_A} {cells slots : Nat} {hp : List mm_c} {pc : Nat} {lv : List (Nat × Value)} {st : List Value} (C : mm_C g cc own Ts rm ad) (pl : Nat) {n : Nat} {f : Nat → Int32} {i : Int32} (he : hp[pl]? = some (.inl (n, f))) (hi : vp_in i n) (hd : decode cc pc = .ok (.iaload, 1)) (k : mm_M g ad cells slots hp (pc + 1) lv (.int (f i.toNatClampNeg) :: st)) : mm_M g ad cells slots hp pc lv (.int i :: .ref pl :: st) := by
  obtain ⟨p, l, e, R, s, m, args, below, meth, c, nL, D, A, Q⟩ := g
  obtain ⟨hx, hb, hml, hown, hts, hK, hA, hG, hlt, hR⟩ := C
  intro H locs ls hH h
  exact va_iald (D := D) (cl := vwCl) hx hb (mm_K1 hK (hH.2.2.1 pl _ .int he rfl)) hH.1 pl 0 (mm_ws_at he) rfl hi hd (k H locs ls hH h)
theorem mm_iast {g : mm_g} {cc : ByteArray} {own : String} {Ts : List Cond} {rm : Room} {ad : mm_A} {cells slots : Nat} {hp : List mm_c} {pc : Nat} {lv : List (Nat × Value)} {st : List Value} (C : mm_C g cc own Ts rm ad) (pl : Nat) {n : Nat} {f : Nat → Int32} {i x : Int32} (he : hp[pl]? = some (.inl (n, f))) (hi : vp_in i n) (hd : decode cc pc = .ok (.iastore, 1)) (k : mm_M g ad cells slots (hp.set pl (.inl (n, upd f i.toNatClampNeg x))) (pc + 1) lv st) : mm_M g ad cells slots hp pc lv (.int x :: .int i :: .ref pl :: st) := by
  obtain ⟨p, l, e, R, s, m, args, below, meth, c, nL, D, A, Q⟩ := g
  obtain ⟨hx, hb, hml, hown, hts, hK, hA, hG, hlt, hR⟩ := C
  intro H locs ls hH h
  refine va_iast (D := D) (cl := vwCl) hx hb (mm_K1 hK (hH.2.2.1 pl _ .int he rfl)) hH.1 hH.2.1 hH.2.2.2 pl 0 (mm_ws_at he) rfl hi hd (fun H1 locs1 hP1 hD1 hS1 => ?_)
  rw [show (.inl ((ad pl).2, n, .inl (upd f i.toNatClampNeg x)) : va_E) = mm_e ad pl (.inl (n, upd f i.toNatClampNeg x)) from rfl, ← mm_ws_set] at hP1 hD1
  exact k H1 locs1 ls ⟨hP1, hD1, hH.2.2.1.sh (mm_sh_set he rfl), hS1⟩ h
theorem mm_alen {g : mm_g} {cc : ByteArray} {own : String} {Ts : List Cond} {rm : Room} {ad : mm_A} {cells slots : Nat} {hp : List mm_c} {pc : Nat} {lv : List (Nat × Value)} {st : List Value} (C : mm_C g cc own Ts rm ad) (pl : Nat) {n : Nat} {f : Nat → Int32} {v : Int32} (he : hp[pl]? = some (.inl (n, f))) (hv : Int32.ofNat n = v) (hd : decode cc pc = .ok (.arraylength, 1)) (k : mm_M g ad cells slots hp (pc + 1) lv (.int v :: st)) : mm_M g ad cells slots hp pc lv (.ref pl :: st) := by
  obtain ⟨p, l, e, R, s, m, args, below, meth, c, nL, D, A, Q⟩ := g
  obtain ⟨hx, hb, hml, hown, hts, hK, hA, hG, hlt, hR⟩ := C
  intro H locs ls hH h
  exact va_alen (D := D) (cl := vwCl) hx hb (mm_K1 hK (hH.2.2.1 pl _ .int he rfl)) hH.1 pl 0 (mm_ws_at he) rfl hv hd (k H locs ls hH h)
theorem mm_lald {g : mm_g} {cc : ByteArray} {own : String} {Ts : List Cond} {rm : Room} {ad : mm_A} {cells slots : Nat} {hp : List mm_c} {pc : Nat} {lv : List (Nat × Value)} {st : List Value} (C : mm_C g cc own Ts rm ad) (pl : Nat) {n : Nat} {f : Nat → Int64} {i : Int32} (he : hp[pl]? = some (.inr (.inr (n, f)))) (hi : vp_in i n) (hd : decode cc pc = .ok (.laload, 1)) (k : mm_M g ad cells slots hp (pc + 1) lv (.long (f i.toNatClampNeg) :: st)) : mm_M g ad cells slots hp pc lv (.int i :: .ref pl :: st) := by
  obtain ⟨p, l, e, R, s, m, args, below, meth, c, nL, D, A, Q⟩ := g
  obtain ⟨hx, hb, hml, hown, hts, hK, hA, hG, hlt, hR⟩ := C
  intro H locs ls hH h
  exact va_lald (D := D) (cl := vwCl) hx hb (mm_K2 hK (hH.2.2.1 pl _ .long he rfl)) hH.1 pl 0 (mm_ws_at he) rfl hi hd (k H locs ls hH h)
theorem mm_last {g : mm_g} {cc : ByteArray} {own : String} {Ts : List Cond} {rm : Room} {ad : mm_A} {cells slots : Nat} {hp : List mm_c} {pc : Nat} {lv : List (Nat × Value)} {st : List Value} (C : mm_C g cc own Ts rm ad) (pl : Nat) {n : Nat} {f : Nat → Int64} {i : Int32} {x : Int64} (he : hp[pl]? = some (.inr (.inr (n, f)))) (hi : vp_in i n) (hd : decode cc pc = .ok (.lastore, 1)) (k : mm_M g ad cells slots (hp.set pl (.inr (.inr (n, vp_updL f i.toNatClampNeg x)))) (pc + 1) lv st) : mm_M g ad cells slots hp pc lv (.long x :: .int i :: .ref pl :: st) := by
  obtain ⟨p, l, e, R, s, m, args, below, meth, c, nL, D, A, Q⟩ := g
  obtain ⟨hx, hb, hml, hown, hts, hK, hA, hG, hlt, hR⟩ := C
  intro H locs ls hH h
  refine va_last (D := D) (cl := vwCl) hx hb (mm_K2 hK (hH.2.2.1 pl _ .long he rfl)) hH.1 hH.2.1 hH.2.2.2 pl 0 (mm_ws_at he) rfl hi hd (fun H1 locs1 hP1 hD1 hS1 => ?_)
  rw [show (.inl ((ad pl).2, n, .inr (.inl (vp_updL f i.toNatClampNeg x))) : va_E) = mm_e ad pl (.inr (.inr (n, vp_updL f i.toNatClampNeg x))) from rfl, ← mm_ws_set] at hP1 hD1
  exact k H1 locs1 ls ⟨hP1, hD1, hH.2.2.1.sh (mm_sh_set he rfl), hS1⟩ h
theorem mm_i2l {g : mm_g} {cc : ByteArray} {own : String} {Ts : List Cond} {rm : Room} {ad : mm_A} {cells slots : Nat} {hp : List mm_c} {pc : Nat} {lv : List (Nat × Value)} {st : List Value} (C : mm_C g cc own Ts rm ad) {x : Int32} (hd : decode cc pc = .ok (.i2l, 1)) (k : mm_M g ad cells slots hp (pc + 1) lv (.long x.toInt64 :: st)) : mm_M g ad cells slots hp pc lv (.int x :: st) := by
  obtain ⟨p, l, e, R, s, m, args, below, meth, c, nL, D, A, Q⟩ := g
  obtain ⟨hx, hb, hml, hown, hts, hK, hA, hG, hlt, hR⟩ := C
  intro H locs ls hH h
  exact lv_i2l hx hb hd rfl (k H locs ls hH h)
