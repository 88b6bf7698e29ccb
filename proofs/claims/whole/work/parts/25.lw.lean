theorem sv_L_X3_area_110 : mm_SV RL 110 RX3 yX3_area cX3_area 7 none 3 := ⟨tw595, tw596, tw597, tw5, tw598, rfl, ⟨by decide +kernel, by decide +kernel, by decide +kernel⟩⟩
theorem sv_L_X3_close_106 : mm_SV RL 106 RX3 yX3_close cX3_close 3 none 2 := ⟨tw567, tw568, tw569, tw5, tw570, rfl, ⟨by decide +kernel, by decide +kernel, by decide +kernel⟩⟩
theorem sv_L_X3_coded_145 : mm_SV RL 145 RX3 yX3_coded cX3_coded 5 (some .int) 2 := ⟨tw655, tw656, tw657, tw5, tw658, rfl, ⟨by decide +kernel, by decide +kernel, by decide +kernel⟩⟩
theorem sv_L_X3_count_148 : mm_SV RL 148 RX3 yX3_count cX3_count 2 (some .int) 1 := ⟨tw659, tw660, tw661, tw5, tw662, rfl, ⟨by decide +kernel, by decide +kernel, by decide +kernel⟩⟩
theorem sv_L_X3_found_127 : mm_SV RL 127 RX3 yX3_found cX3_found 8 (some .int) 3 := ⟨tw622, tw623, tw624, tw5, tw625, rfl, ⟨by decide +kernel, by decide +kernel, by decide +kernel⟩⟩
theorem sv_L_X3_has_117 : mm_SV RL 117 RX3 yX3_has cX3_has 4 (some .int) 3 := ⟨tw571, tw572, tw573, tw5, tw574, rfl, ⟨by decide +kernel, by decide +kernel, by decide +kernel⟩⟩
theorem sv_L_X3_in_121 : mm_SV RL 121 RX3 yX3_in cX3_in 3 (some .int) 2 := ⟨tw602, tw603, tw604, tw5, tw605, rfl, ⟨by decide +kernel, by decide +kernel, by decide +kernel⟩⟩
theorem sv_L_X3_incident_136 : mm_SV RL 136 RX3 yX3_incident cX3_incident 3 (some .int) 2 := ⟨tw638, tw639, tw640, tw5, tw641, rfl, ⟨by decide +kernel, by decide +kernel, by decide +kernel⟩⟩
theorem sv_L_X3_kind_87 : mm_SV RL 87 RX3 yX3_kind cX3_kind 3 (some .int) 1 := ⟨tw526, tw527, tw528, tw5, tw529, rfl, ⟨by decide +kernel, by decide +kernel, by decide +kernel⟩⟩
theorem sv_L_X3_missing_133 : mm_SV RL 133 RX3 yX3_missing cX3_missing 6 (some .int) 3 := ⟨tw634, tw635, tw636, tw5, tw637, rfl, ⟨by decide +kernel, by decide +kernel, by decide +kernel⟩⟩
theorem sv_L_X3_need_103 : mm_SV RL 103 RX3 yX3_need cX3_need 8 none 5 := ⟨tw563, tw564, tw565, tw5, tw566, rfl, ⟨by decide +kernel, by decide +kernel, by decide +kernel⟩⟩
theorem sv_L_X3_open_124 : mm_SV RL 124 RX3 yX3_open cX3_open 7 (some .int) 3 := ⟨tw618, tw619, tw620, tw5, tw621, rfl, ⟨by decide +kernel, by decide +kernel, by decide +kernel⟩⟩
theorem sv_L_X3_parent_95 : mm_SV RL 95 RX3 yX3_parent cX3_parent 4 none 2 := ⟨tw541, tw542, tw543, tw5, tw544, rfl, ⟨by decide +kernel, by decide +kernel, by decide +kernel⟩⟩
theorem sv_L_X3_says_99 : mm_SV RL 99 RX3 yX3_says cX3_says 7 none 4 := ⟨tw549, tw550, tw551, tw5, tw552, rfl, ⟨by decide +kernel, by decide +kernel, by decide +kernel⟩⟩
theorem sv_L_X3_send_130 : mm_SV RL 130 RX3 yX3_send cX3_send 6 (some .int) 3 := ⟨tw630, tw631, tw632, tw5, tw633, rfl, ⟨by decide +kernel, by decide +kernel, by decide +kernel⟩⟩
theorem sv_L_X3_thrown_88 : mm_SV RL 88 RX3 yX3_thrown cX3_thrown 1 (some .int) 0 := ⟨tw522, tw523, tw524, tw5, tw525, rfl, ⟨by decide +kernel, by decide +kernel, by decide +kernel⟩⟩
theorem sv_L_X3_uncovered_142 : mm_SV RL 142 RX3 yX3_uncovered cX3_uncovered 5 (some .int) 2 := ⟨tw647, tw648, tw649, tw5, tw650, rfl, ⟨by decide +kernel, by decide +kernel, by decide +kernel⟩⟩
theorem sv_L_X3_unit_139 : mm_SV RL 139 RX3 yX3_unit cX3_unit 3 none 2 := ⟨tw642, tw643, tw644, tw5, tw645, rfl, ⟨by decide +kernel, by decide +kernel, by decide +kernel⟩⟩
theorem sv_L_X3_upgrade_113 : mm_SV RL 113 RX3 yX3_upgrade cX3_upgrade 7 none 3 := ⟨tw610, tw611, tw612, tw5, tw613, rfl, ⟨by decide +kernel, by decide +kernel, by decide +kernel⟩⟩
def mm_SW (own : String) (idx : Nat) (y : MethodName) (bytes : ByteArray) (maxL : Nat) (ret : Option FieldType) (hh : List (Nat × Nat × Nat × Nat)) (n : Nat) : Prop := Cond.methodLink own idx y ∈ mm_all ∧ Cond.static y ∈ mm_all ∧ Cond.initialized y.cls ∈ mm_all ∧ Cond.codeWith y bytes maxL ret hh ∈ mm_all ∧ mm_dd y n
def lw_x0 : Cond := Cond.initialized "IncidentKinds"
abbrev lw_C (g : mm_g) (ad : mm_A) : Prop := mm_C g cL_law RL (lw_x0 :: mm_all) room_1 ad
theorem ix_s {r j L : Nat} (h : 6 * r + j < L) (hL : L ≤ 3072) {x : Int32} (hx : x = nI j) : vp_in (nI (6 * r) + x) L := by
  rw [hx, nI_add]; exact vp_in_nI h (by omega)
theorem ix_s0 {r L : Nat} (h : 6 * r < L) (hL : L ≤ 3072) : vp_in (nI (6 * r)) L := vp_in_nI h (by omega)
theorem cd_ne {l : List String} {E : String} (hl : l.length < 1000) : ¬ m_cd l (.inl E) = 0 := fun z => by
  have h1 := congrArg Int32.toInt z
  have h2 : l.findIdx (fun q => q == E) ≤ l.length := List.findIdx_le_length
  have h3 : (m_cd l (.inl E)).toInt = ((l.findIdx (fun q => q == E) + 1 : Nat) : Int) := nI_toInt (by omega)
  rw [h3, Int32.toInt_zero] at h1
  omega
theorem ou_eq {l : List String} {f : Nat → Int64} {O : ks_O} (hO : (∃ E, O = .inl E ∧ E ∈ l) ∨ ∃ v u', O = .inr (some v, u')) (hl : l.length < 1000) (h : m_cd l O = 0) : lg_cmp (m_ou f O (0 : Int32).toNatClampNeg) (m_an O).toInt64 = 0 := by
  have e : m_ou f O (0 : Int32).toNatClampNeg = (m_an O).toInt64 := by
    rcases hO with ⟨E, rfl, _⟩ | ⟨v, u', rfl⟩
    · exact absurd h (cd_ne hl)
    · show vp_updL f (0 : Int32).toNatClampNeg v.toInt64 (0 : Int32).toNatClampNeg = v.toInt64
      simp [vp_updL]
  rw [e]
  simp [lg_cmp]
theorem sw_L_kind : mm_SW RL 82 yL_kind cL_kind 4 (some .int) [(0, 9, 12, 13), (0, 9, 15, 15)] 3 := ⟨tw109, tw110, tw0, tw111, ⟨by decide +kernel, by decide +kernel, by decide +kernel⟩⟩
set_option maxHeartbeats 4000000 in
set_option maxRecDepth 100000 in
theorem lw_kind {g : mm_g} {ad : mm_A} {cells slots r L : Nat} {xs : Nat → Int32} {u : ks_S} {t : Int32} {ck cw : Nat → Int32} {f : Nat → Int64} {k c i : Nat} (C : lw_C g ad) (hnL : mm_nL g = 7) (hS : mm_Sx g ad L xs) (hr : 6 * r + 6 ≤ L) (hL : L ≤ 3072) (hc : cells + 4 ≤ 601024) (hs : slots + 24 ≤ 7293034) (J : ms_I u ck cw k c i)
    (next : ∀ (u' : ks_S) (t' : Int32) (ck' cw' : Nat → Int32) (f' : Nat → Int64) (k' c' i' : Nat), ms_I u' ck' cw' k' c' i' → mm_M g ad (cells + 4) (slots + 24) (lw_H u' u' t' ck' cw' f') 1332 [(4, .int (nI (6 * r))), (3, .ref 33), (2, .ref 18), (1, .ref 0), (0, .ref 1000002)] []) : mm_M g ad cells slots (lw_H u u t ck cw f) 128 [(4, .int (nI (6 * r))), (3, .ref 33), (2, .ref 18), (1, .ref 0), (0, .ref 1000002)] [] := by
  refine mm_aload_n C dL_law_128 rfl 3 rfl ?_
  refine mm_aload_n C dL_law_129 rfl 4 rfl ?_
  refine mm_iload C dL_law_130 0 rfl ?_
  refine mm_iconst (v := 1) C dL_law_132 (by decide) ?_
  refine mm_iadd C dL_law_133 ?_
  refine mm_sald C hS (ix_s (j := 1) (by omega) hL rfl) dL_law_134 ?_
  refine mm_aload_n C dL_law_135 rfl 1 rfl ?_
  refine mm_callSW (hh := [(0, 9, 12, 13), (0, 9, 15, 15)]) (av := [.ref 0, .int (xs (nI (6 * r) + 1).toNatClampNeg), .ref 33]) C (mm_gS sw_L_kind.1 sw_L_kind.2.1 sw_L_kind.2.2.1 sw_L_kind.2.2.2.1) (sw_L_kind.2.2.2.2) (kL_kind _ _ u u t ck cw f (xs (nI (6 * r) + 1).toNatClampNeg) k c i J.1) 3 rfl rfl rfl ⟨mm_nl rfl, mm_nl rfl⟩ rfl rfl (mm_nl rfl) dL_law_136 ⟨hc, hs⟩ (fun v hp' h' _ => ?_)
  obtain ⟨rfl, rfl⟩ := h'
  refine mm_istore (lv' := [(5, .int (m_cd l_kind (o_kind u (xs (nI (6 * r) + 1).toNatClampNeg)))), (4, .int (nI (6 * r))), (3, .ref 33), (2, .ref 18), (1, .ref 0), (0, .ref 1000002)]) C dL_law_139 hnL (by decide) rfl ?_
  refine mm_aload_n C dL_law_141 rfl 3 rfl ?_
  refine mm_aload_n C dL_law_142 rfl 5 rfl ?_
  refine mm_iload C dL_law_143 1 rfl ?_
  refine mm_iconst (v := 1) C dL_law_145 (by decide) ?_
  refine mm_iadd C dL_law_146 ?_
  refine mm_sald C hS (ix_s (j := 1) (by omega) hL rfl) dL_law_147 ?_
  refine mm_riV (av := [.int (xs (nI (6 * r) + 1).toNatClampNeg)]) C 18 sv_L_X3_kind_87 rfl rfl (kX3_kind _ _ _ u _ ck cw _ (xs (nI (6 * r) + 1).toNatClampNeg) k c i J) ⟨rfl, rfl⟩ ⟨mm_nl rfl, mm_nl rfl⟩ rfl rfl (mm_nl rfl) ⟨hc, hs⟩ dL_law_148 ?_
  refine mm_istore (lv' := [(6, .int (m_an (o_kind u (xs (nI (6 * r) + 1).toNatClampNeg)))), (5, .int (m_cd l_kind (o_kind u (xs (nI (6 * r) + 1).toNatClampNeg)))), (4, .int (nI (6 * r))), (3, .ref 33), (2, .ref 18), (1, .ref 0), (0, .ref 1000002)]) C dL_law_151 hnL (by decide) rfl ?_
  refine mm_aload_n C dL_law_153 rfl 4 rfl ?_
  refine mm_riV (av := []) C 18 sv_L_X3_thrown_88 rfl rfl (kX3_thrown _ _ _ _ _ _ _ _) ⟨rfl, rfl⟩ ⟨mm_nl rfl, mm_nl rfl⟩ rfl rfl (mm_nl rfl) ⟨hc, hs⟩ dL_law_154 ?_
  refine mm_iload C dL_law_157 1 rfl ?_
  refine mm_icmp_eq (tgt := 164) C dL_law_159 (by decide) (fun _ => ?_) (fun z => absurd rfl z)
  refine mm_iload C dL_law_164 1 rfl ?_
  refine mm_if_ne (tgt := 181) C dL_law_166 (by decide) (fun _ => ?_) (fun hz => ?_)
  · refine mm_goto (tgt := 1332) C dL_law_181 (by decide) ?_
    refine mm_lvs (lv' := [(4, .int (nI (6 * r))), (3, .ref 33), (2, .ref 18), (1, .ref 0), (0, .ref 1000002)]) [2, 3, 4, 5, 6] rfl ?_
    obtain ⟨k', c', i', J'⟩ := pr_kind J (xs (nI (6 * r) + 1).toNatClampNeg)
    exact next _ _ _ _ _ k' c' i' J'
  · refine mm_aload_n C dL_law_169 rfl 3 rfl ?_
    refine mm_iconst (v := 0) C dL_law_170 (by decide) ?_
    refine mm_lald C 33 rfl (vp_in_nI (n := 0) (by decide) (by decide)) dL_law_171 ?_
    refine mm_iload C dL_law_172 0 rfl ?_
    refine mm_i2l C dL_law_174 ?_
    refine mm_lcmp C dL_law_175 ?_
    refine mm_if_eq (tgt := 181) C dL_law_176 (by decide) (fun _ => ?_) (fun z => absurd (ou_eq (l := l_kind) (ou_kind u (xs (nI (6 * r) + 1).toNatClampNeg)) (by decide) hz) z)
    refine mm_goto (tgt := 1332) C dL_law_181 (by decide) ?_
    refine mm_lvs (lv' := [(4, .int (nI (6 * r))), (3, .ref 33), (2, .ref 18), (1, .ref 0), (0, .ref 1000002)]) [2, 3, 4, 5, 6] rfl ?_
    obtain ⟨k', c', i', J'⟩ := pr_kind J (xs (nI (6 * r) + 1).toNatClampNeg)
    exact next _ _ _ _ _ k' c' i' J'
theorem sw_L_parent : mm_SW RL 92 yL_parent cL_parent 4 (some .int) [(0, 6, 9, 13), (0, 6, 12, 21)] 3 := ⟨tw220, tw221, tw0, tw222, ⟨by decide +kernel, by decide +kernel, by decide +kernel⟩⟩
set_option maxHeartbeats 4000000 in
set_option maxRecDepth 100000 in
theorem lw_parent {g : mm_g} {ad : mm_A} {cells slots r L : Nat} {xs : Nat → Int32} {u : ks_S} {t : Int32} {ck cw : Nat → Int32} {f : Nat → Int64} {k c i : Nat} (C : lw_C g ad) (hnL : mm_nL g = 7) (hS : mm_Sx g ad L xs) (hr : 6 * r + 6 ≤ L) (hL : L ≤ 3072) (hc : cells + 4 ≤ 601024) (hs : slots + 24 ≤ 7293034) (J : ms_I u ck cw k c i)
    (next : ∀ (u' : ks_S) (t' : Int32) (ck' cw' : Nat → Int32) (f' : Nat → Int64) (k' c' i' : Nat), ms_I u' ck' cw' k' c' i' → mm_M g ad (cells + 4) (slots + 24) (lw_H u' u' t' ck' cw' f') 1332 [(4, .int (nI (6 * r))), (3, .ref 33), (2, .ref 18), (1, .ref 0), (0, .ref 1000002)] []) : mm_M g ad cells slots (lw_H u u t ck cw f) 184 [(4, .int (nI (6 * r))), (3, .ref 33), (2, .ref 18), (1, .ref 0), (0, .ref 1000002)] [] := by
  refine mm_aload_n C dL_law_184 rfl 3 rfl ?_
  refine mm_aload_n C dL_law_185 rfl 4 rfl ?_
  refine mm_iload C dL_law_186 0 rfl ?_
  refine mm_iconst (v := 1) C dL_law_188 (by decide) ?_
  refine mm_iadd C dL_law_189 ?_
  refine mm_sald C hS (ix_s (j := 1) (by omega) hL rfl) dL_law_190 ?_
  refine mm_aload_n C dL_law_191 rfl 4 rfl ?_
  refine mm_iload C dL_law_192 0 rfl ?_
  refine mm_iconst (v := 2) C dL_law_194 (by decide) ?_
  refine mm_iadd C dL_law_195 ?_
  refine mm_sald C hS (ix_s (j := 2) (by omega) hL rfl) dL_law_196 ?_
  refine mm_callSW (hh := [(0, 6, 9, 13), (0, 6, 12, 21)]) (av := [.ref 0, .int (xs (nI (6 * r) + 1).toNatClampNeg), .int (xs (nI (6 * r) + 2).toNatClampNeg)]) C (mm_gS sw_L_parent.1 sw_L_parent.2.1 sw_L_parent.2.2.1 sw_L_parent.2.2.2.1) (sw_L_parent.2.2.2.2) (kL_parent _ _ u u t ck cw f (xs (nI (6 * r) + 1).toNatClampNeg) (xs (nI (6 * r) + 2).toNatClampNeg) k c i J.1) 3 rfl rfl rfl ⟨mm_nl rfl, mm_nl rfl⟩ rfl rfl (mm_nl rfl) dL_law_197 ⟨hc, hs⟩ (fun v hp' h' _ => ?_)
  obtain ⟨rfl, rfl⟩ := h'
  refine mm_istore (lv' := [(5, .int (m_cd l_parent (o_parent u (xs (nI (6 * r) + 1).toNatClampNeg) (xs (nI (6 * r) + 2).toNatClampNeg)))), (4, .int (nI (6 * r))), (3, .ref 33), (2, .ref 18), (1, .ref 0), (0, .ref 1000002)]) C dL_law_200 hnL (by decide) rfl ?_
  refine mm_aload_n C dL_law_202 rfl 3 rfl ?_
  refine mm_aload_n C dL_law_203 rfl 5 rfl ?_
  refine mm_iload C dL_law_204 1 rfl ?_
  refine mm_iconst (v := 1) C dL_law_206 (by decide) ?_
  refine mm_iadd C dL_law_207 ?_
  refine mm_sald C hS (ix_s (j := 1) (by omega) hL rfl) dL_law_208 ?_
  refine mm_aload_n C dL_law_209 rfl 5 rfl ?_
  refine mm_iload C dL_law_210 1 rfl ?_
  refine mm_iconst (v := 2) C dL_law_212 (by decide) ?_
  refine mm_iadd C dL_law_213 ?_
  refine mm_sald C hS (ix_s (j := 2) (by omega) hL rfl) dL_law_214 ?_
  refine mm_rvV (av := [.int (xs (nI (6 * r) + 1).toNatClampNeg), .int (xs (nI (6 * r) + 2).toNatClampNeg)]) C 18 sv_L_X3_parent_95 rfl rfl (kX3_parent _ _ _ u _ ck cw _ (xs (nI (6 * r) + 1).toNatClampNeg) (xs (nI (6 * r) + 2).toNatClampNeg) k c i J) ⟨rfl, rfl⟩ ⟨mm_nl rfl, mm_nl rfl⟩ rfl rfl (mm_nl rfl) ⟨hc, hs⟩ dL_law_215 ?_
  refine mm_aload_n C dL_law_218 rfl 3 rfl ?_
  refine mm_riV (av := []) C 18 sv_L_X3_thrown_88 rfl rfl (kX3_thrown _ _ _ _ _ _ _ _) ⟨rfl, rfl⟩ ⟨mm_nl rfl, mm_nl rfl⟩ rfl rfl (mm_nl rfl) ⟨hc, hs⟩ dL_law_219 ?_
  refine mm_iload C dL_law_222 0 rfl ?_
  refine mm_icmp_eq (tgt := 229) C dL_law_224 (by decide) (fun _ => ?_) (fun z => absurd rfl z)
  refine mm_goto (tgt := 1332) C dL_law_229 (by decide) ?_
  refine mm_lvs (lv' := [(4, .int (nI (6 * r))), (3, .ref 33), (2, .ref 18), (1, .ref 0), (0, .ref 1000002)]) [1, 2, 3, 4, 5] rfl ?_
  obtain ⟨k', c', i', J'⟩ := pr_parent J (xs (nI (6 * r) + 1).toNatClampNeg) (xs (nI (6 * r) + 2).toNatClampNeg)
  exact next _ _ _ _ _ k' c' i' J'
theorem sw_L_says : mm_SW RL 96 yL_says cL_says 6 (some .int) [(0, 9, 12, 13), (0, 9, 16, 27), (0, 9, 20, 15)] 5 := ⟨tw251, tw252, tw0, tw253, ⟨by decide +kernel, by decide +kernel, by decide +kernel⟩⟩
set_option maxHeartbeats 4000000 in
set_option maxRecDepth 100000 in
theorem lw_says {g : mm_g} {ad : mm_A} {cells slots r L : Nat} {xs : Nat → Int32} {u : ks_S} {t : Int32} {ck cw : Nat → Int32} {f : Nat → Int64} {k c i : Nat} (C : lw_C g ad) (hnL : mm_nL g = 7) (hS : mm_Sx g ad L xs) (hr : 6 * r + 6 ≤ L) (hL : L ≤ 3072) (hc : cells + 4 ≤ 601024) (hs : slots + 24 ≤ 7293034) (J : ms_I u ck cw k c i)
    (next : ∀ (u' : ks_S) (t' : Int32) (ck' cw' : Nat → Int32) (f' : Nat → Int64) (k' c' i' : Nat), ms_I u' ck' cw' k' c' i' → mm_M g ad (cells + 4) (slots + 24) (lw_H u' u' t' ck' cw' f') 1332 [(4, .int (nI (6 * r))), (3, .ref 33), (2, .ref 18), (1, .ref 0), (0, .ref 1000002)] []) : mm_M g ad cells slots (lw_H u u t ck cw f) 232 [(4, .int (nI (6 * r))), (3, .ref 33), (2, .ref 18), (1, .ref 0), (0, .ref 1000002)] [] := by
  refine mm_aload_n C dL_law_232 rfl 3 rfl ?_
  refine mm_aload_n C dL_law_233 rfl 4 rfl ?_
  refine mm_iload C dL_law_234 0 rfl ?_
  refine mm_iconst (v := 1) C dL_law_236 (by decide) ?_
  refine mm_iadd C dL_law_237 ?_
  refine mm_sald C hS (ix_s (j := 1) (by omega) hL rfl) dL_law_238 ?_
  refine mm_aload_n C dL_law_239 rfl 4 rfl ?_
  refine mm_iload C dL_law_240 0 rfl ?_
  refine mm_iconst (v := 2) C dL_law_242 (by decide) ?_
  refine mm_iadd C dL_law_243 ?_
  refine mm_sald C hS (ix_s (j := 2) (by omega) hL rfl) dL_law_244 ?_
  refine mm_aload_n C dL_law_245 rfl 4 rfl ?_
  refine mm_iload C dL_law_246 0 rfl ?_
  refine mm_iconst (v := 3) C dL_law_248 (by decide) ?_
  refine mm_iadd C dL_law_249 ?_
  refine mm_sald C hS (ix_s (j := 3) (by omega) hL rfl) dL_law_250 ?_
  refine mm_aload_n C dL_law_251 rfl 4 rfl ?_
  refine mm_iload C dL_law_252 0 rfl ?_
  refine mm_iconst (v := 4) C dL_law_254 (by decide) ?_
  refine mm_iadd C dL_law_255 ?_
  refine mm_sald C hS (ix_s (j := 4) (by omega) hL rfl) dL_law_256 ?_
  refine mm_callSW (hh := [(0, 9, 12, 13), (0, 9, 16, 27), (0, 9, 20, 15)]) (av := [.ref 0, .int (xs (nI (6 * r) + 1).toNatClampNeg), .int (xs (nI (6 * r) + 2).toNatClampNeg), .int (xs (nI (6 * r) + 3).toNatClampNeg), .int (xs (nI (6 * r) + 4).toNatClampNeg)]) C (mm_gS sw_L_says.1 sw_L_says.2.1 sw_L_says.2.2.1 sw_L_says.2.2.2.1) (sw_L_says.2.2.2.2) (kL_says _ _ u u t ck cw f (xs (nI (6 * r) + 1).toNatClampNeg) (xs (nI (6 * r) + 2).toNatClampNeg) (xs (nI (6 * r) + 3).toNatClampNeg) (xs (nI (6 * r) + 4).toNatClampNeg) k c i J.1) 5 rfl rfl rfl ⟨mm_nl rfl, mm_nl rfl⟩ rfl rfl (mm_nl rfl) dL_law_257 ⟨hc, hs⟩ (fun v hp' h' _ => ?_)
  obtain ⟨rfl, rfl⟩ := h'
  refine mm_istore (lv' := [(5, .int (m_cd l_says (o_says u (xs (nI (6 * r) + 1).toNatClampNeg) (xs (nI (6 * r) + 2).toNatClampNeg) (xs (nI (6 * r) + 3).toNatClampNeg) (xs (nI (6 * r) + 4).toNatClampNeg)))), (4, .int (nI (6 * r))), (3, .ref 33), (2, .ref 18), (1, .ref 0), (0, .ref 1000002)]) C dL_law_260 hnL (by decide) rfl ?_
  refine mm_aload_n C dL_law_262 rfl 3 rfl ?_
  refine mm_aload_n C dL_law_263 rfl 5 rfl ?_
  refine mm_iload C dL_law_264 1 rfl ?_
  refine mm_iconst (v := 1) C dL_law_266 (by decide) ?_
  refine mm_iadd C dL_law_267 ?_
  refine mm_sald C hS (ix_s (j := 1) (by omega) hL rfl) dL_law_268 ?_
  refine mm_aload_n C dL_law_269 rfl 5 rfl ?_
  refine mm_iload C dL_law_270 1 rfl ?_
  refine mm_iconst (v := 2) C dL_law_272 (by decide) ?_
  refine mm_iadd C dL_law_273 ?_
  refine mm_sald C hS (ix_s (j := 2) (by omega) hL rfl) dL_law_274 ?_
  refine mm_aload_n C dL_law_275 rfl 5 rfl ?_
  refine mm_iload C dL_law_276 1 rfl ?_
  refine mm_iconst (v := 3) C dL_law_278 (by decide) ?_
  refine mm_iadd C dL_law_279 ?_
  refine mm_sald C hS (ix_s (j := 3) (by omega) hL rfl) dL_law_280 ?_
  refine mm_aload_n C dL_law_281 rfl 5 rfl ?_
  refine mm_iload C dL_law_282 1 rfl ?_
  refine mm_iconst (v := 4) C dL_law_284 (by decide) ?_
  refine mm_iadd C dL_law_285 ?_
  refine mm_sald C hS (ix_s (j := 4) (by omega) hL rfl) dL_law_286 ?_
  refine mm_rvV (av := [.int (xs (nI (6 * r) + 1).toNatClampNeg), .int (xs (nI (6 * r) + 2).toNatClampNeg), .int (xs (nI (6 * r) + 3).toNatClampNeg), .int (xs (nI (6 * r) + 4).toNatClampNeg)]) C 18 sv_L_X3_says_99 rfl rfl (kX3_says _ _ _ u _ ck cw _ (xs (nI (6 * r) + 1).toNatClampNeg) (xs (nI (6 * r) + 2).toNatClampNeg) (xs (nI (6 * r) + 3).toNatClampNeg) (xs (nI (6 * r) + 4).toNatClampNeg) k c i J) ⟨rfl, rfl⟩ ⟨mm_nl rfl, mm_nl rfl⟩ rfl rfl (mm_nl rfl) ⟨hc, hs⟩ dL_law_287 ?_
  refine mm_aload_n C dL_law_290 rfl 3 rfl ?_
  refine mm_riV (av := []) C 18 sv_L_X3_thrown_88 rfl rfl (kX3_thrown _ _ _ _ _ _ _ _) ⟨rfl, rfl⟩ ⟨mm_nl rfl, mm_nl rfl⟩ rfl rfl (mm_nl rfl) ⟨hc, hs⟩ dL_law_291 ?_
  refine mm_iload C dL_law_294 0 rfl ?_
  refine mm_icmp_eq (tgt := 301) C dL_law_296 (by decide) (fun _ => ?_) (fun z => absurd rfl z)
  refine mm_goto (tgt := 1332) C dL_law_301 (by decide) ?_
  refine mm_lvs (lv' := [(4, .int (nI (6 * r))), (3, .ref 33), (2, .ref 18), (1, .ref 0), (0, .ref 1000002)]) [1, 2, 3, 4, 5] rfl ?_
  obtain ⟨k', c', i', J'⟩ := pr_says J (xs (nI (6 * r) + 1).toNatClampNeg) (xs (nI (6 * r) + 2).toNatClampNeg) (xs (nI (6 * r) + 3).toNatClampNeg) (xs (nI (6 * r) + 4).toNatClampNeg)
  exact next _ _ _ _ _ k' c' i' J'
theorem sw_L_need : mm_SW RL 100 yL_need cL_need 7 (some .int) [(0, 11, 14, 13), (0, 11, 18, 27), (0, 11, 22, 15)] 6 := ⟨tw291, tw292, tw0, tw293, ⟨by decide +kernel, by decide +kernel, by decide +kernel⟩⟩
set_option maxHeartbeats 4000000 in
set_option maxRecDepth 100000 in
theorem lw_need {g : mm_g} {ad : mm_A} {cells slots r L : Nat} {xs : Nat → Int32} {u : ks_S} {t : Int32} {ck cw : Nat → Int32} {f : Nat → Int64} {k c i : Nat} (C : lw_C g ad) (hnL : mm_nL g = 7) (hS : mm_Sx g ad L xs) (hr : 6 * r + 6 ≤ L) (hL : L ≤ 3072) (hc : cells + 4 ≤ 601024) (hs : slots + 24 ≤ 7293034) (J : ms_I u ck cw k c i)
    (next : ∀ (u' : ks_S) (t' : Int32) (ck' cw' : Nat → Int32) (f' : Nat → Int64) (k' c' i' : Nat), ms_I u' ck' cw' k' c' i' → mm_M g ad (cells + 4) (slots + 24) (lw_H u' u' t' ck' cw' f') 1332 [(4, .int (nI (6 * r))), (3, .ref 33), (2, .ref 18), (1, .ref 0), (0, .ref 1000002)] []) : mm_M g ad cells slots (lw_H u u t ck cw f) 304 [(4, .int (nI (6 * r))), (3, .ref 33), (2, .ref 18), (1, .ref 0), (0, .ref 1000002)] [] := by
  refine mm_aload_n C dL_law_304 rfl 3 rfl ?_
  refine mm_aload_n C dL_law_305 rfl 4 rfl ?_
  refine mm_iload C dL_law_306 0 rfl ?_
  refine mm_iconst (v := 1) C dL_law_308 (by decide) ?_
  refine mm_iadd C dL_law_309 ?_
  refine mm_sald C hS (ix_s (j := 1) (by omega) hL rfl) dL_law_310 ?_
  refine mm_aload_n C dL_law_311 rfl 4 rfl ?_
  refine mm_iload C dL_law_312 0 rfl ?_
  refine mm_iconst (v := 2) C dL_law_314 (by decide) ?_
  refine mm_iadd C dL_law_315 ?_
  refine mm_sald C hS (ix_s (j := 2) (by omega) hL rfl) dL_law_316 ?_
  refine mm_aload_n C dL_law_317 rfl 4 rfl ?_
  refine mm_iload C dL_law_318 0 rfl ?_
  refine mm_iconst (v := 3) C dL_law_320 (by decide) ?_
  refine mm_iadd C dL_law_321 ?_
  refine mm_sald C hS (ix_s (j := 3) (by omega) hL rfl) dL_law_322 ?_
  refine mm_aload_n C dL_law_323 rfl 4 rfl ?_
  refine mm_iload C dL_law_324 0 rfl ?_
  refine mm_iconst (v := 4) C dL_law_326 (by decide) ?_
  refine mm_iadd C dL_law_327 ?_
  refine mm_sald C hS (ix_s (j := 4) (by omega) hL rfl) dL_law_328 ?_
  refine mm_aload_n C dL_law_329 rfl 4 rfl ?_
  refine mm_iload C dL_law_330 0 rfl ?_
  refine mm_iconst (v := 5) C dL_law_332 (by decide) ?_
  refine mm_iadd C dL_law_333 ?_
  refine mm_sald C hS (ix_s (j := 5) (by omega) hL rfl) dL_law_334 ?_
  refine mm_callSW (hh := [(0, 11, 14, 13), (0, 11, 18, 27), (0, 11, 22, 15)]) (av := [.ref 0, .int (xs (nI (6 * r) + 1).toNatClampNeg), .int (xs (nI (6 * r) + 2).toNatClampNeg), .int (xs (nI (6 * r) + 3).toNatClampNeg), .int (xs (nI (6 * r) + 4).toNatClampNeg), .int (xs (nI (6 * r) + 5).toNatClampNeg)]) C (mm_gS sw_L_need.1 sw_L_need.2.1 sw_L_need.2.2.1 sw_L_need.2.2.2.1) (sw_L_need.2.2.2.2) (kL_need _ _ u u t ck cw f (xs (nI (6 * r) + 1).toNatClampNeg) (xs (nI (6 * r) + 2).toNatClampNeg) (xs (nI (6 * r) + 3).toNatClampNeg) (xs (nI (6 * r) + 4).toNatClampNeg) (xs (nI (6 * r) + 5).toNatClampNeg) k c i J.1) 6 rfl rfl rfl ⟨mm_nl rfl, mm_nl rfl⟩ rfl rfl (mm_nl rfl) dL_law_335 ⟨hc, hs⟩ (fun v hp' h' _ => ?_)
  obtain ⟨rfl, rfl⟩ := h'
  refine mm_istore (lv' := [(5, .int (m_cd l_need (o_need u (xs (nI (6 * r) + 1).toNatClampNeg) (xs (nI (6 * r) + 2).toNatClampNeg) (xs (nI (6 * r) + 3).toNatClampNeg) (xs (nI (6 * r) + 4).toNatClampNeg) (xs (nI (6 * r) + 5).toNatClampNeg)))), (4, .int (nI (6 * r))), (3, .ref 33), (2, .ref 18), (1, .ref 0), (0, .ref 1000002)]) C dL_law_338 hnL (by decide) rfl ?_
  refine mm_aload_n C dL_law_340 rfl 3 rfl ?_
  refine mm_aload_n C dL_law_341 rfl 5 rfl ?_
  refine mm_iload C dL_law_342 1 rfl ?_
  refine mm_iconst (v := 1) C dL_law_344 (by decide) ?_
  refine mm_iadd C dL_law_345 ?_
  refine mm_sald C hS (ix_s (j := 1) (by omega) hL rfl) dL_law_346 ?_
  refine mm_aload_n C dL_law_347 rfl 5 rfl ?_
  refine mm_iload C dL_law_348 1 rfl ?_
  refine mm_iconst (v := 2) C dL_law_350 (by decide) ?_
  refine mm_iadd C dL_law_351 ?_
  refine mm_sald C hS (ix_s (j := 2) (by omega) hL rfl) dL_law_352 ?_
  refine mm_aload_n C dL_law_353 rfl 5 rfl ?_
  refine mm_iload C dL_law_354 1 rfl ?_
  refine mm_iconst (v := 3) C dL_law_356 (by decide) ?_
  refine mm_iadd C dL_law_357 ?_
  refine mm_sald C hS (ix_s (j := 3) (by omega) hL rfl) dL_law_358 ?_
  refine mm_aload_n C dL_law_359 rfl 5 rfl ?_
  refine mm_iload C dL_law_360 1 rfl ?_
  refine mm_iconst (v := 4) C dL_law_362 (by decide) ?_
  refine mm_iadd C dL_law_363 ?_
  refine mm_sald C hS (ix_s (j := 4) (by omega) hL rfl) dL_law_364 ?_
  refine mm_aload_n C dL_law_365 rfl 5 rfl ?_
  refine mm_iload C dL_law_366 1 rfl ?_
  refine mm_iconst (v := 5) C dL_law_368 (by decide) ?_
  refine mm_iadd C dL_law_369 ?_
  refine mm_sald C hS (ix_s (j := 5) (by omega) hL rfl) dL_law_370 ?_
  refine mm_rvV (av := [.int (xs (nI (6 * r) + 1).toNatClampNeg), .int (xs (nI (6 * r) + 2).toNatClampNeg), .int (xs (nI (6 * r) + 3).toNatClampNeg), .int (xs (nI (6 * r) + 4).toNatClampNeg), .int (xs (nI (6 * r) + 5).toNatClampNeg)]) C 18 sv_L_X3_need_103 rfl rfl (kX3_need _ _ _ u _ ck cw _ (xs (nI (6 * r) + 1).toNatClampNeg) (xs (nI (6 * r) + 2).toNatClampNeg) (xs (nI (6 * r) + 3).toNatClampNeg) (xs (nI (6 * r) + 4).toNatClampNeg) (xs (nI (6 * r) + 5).toNatClampNeg) k c i J) ⟨rfl, rfl⟩ ⟨mm_nl rfl, mm_nl rfl⟩ rfl rfl (mm_nl rfl) ⟨hc, hs⟩ dL_law_371 ?_
  refine mm_aload_n C dL_law_374 rfl 3 rfl ?_
  refine mm_riV (av := []) C 18 sv_L_X3_thrown_88 rfl rfl (kX3_thrown _ _ _ _ _ _ _ _) ⟨rfl, rfl⟩ ⟨mm_nl rfl, mm_nl rfl⟩ rfl rfl (mm_nl rfl) ⟨hc, hs⟩ dL_law_375 ?_
  refine mm_iload C dL_law_378 0 rfl ?_
  refine mm_icmp_eq (tgt := 385) C dL_law_380 (by decide) (fun _ => ?_) (fun z => absurd rfl z)
  refine mm_goto (tgt := 1332) C dL_law_385 (by decide) ?_
  refine mm_lvs (lv' := [(4, .int (nI (6 * r))), (3, .ref 33), (2, .ref 18), (1, .ref 0), (0, .ref 1000002)]) [1, 2, 3, 4, 5] rfl ?_
  obtain ⟨k', c', i', J'⟩ := pr_need J (xs (nI (6 * r) + 1).toNatClampNeg) (xs (nI (6 * r) + 2).toNatClampNeg) (xs (nI (6 * r) + 3).toNatClampNeg) (xs (nI (6 * r) + 4).toNatClampNeg) (xs (nI (6 * r) + 5).toNatClampNeg)
  exact next _ _ _ _ _ k' c' i' J'
theorem sw_L_close : mm_SW RL 104 yL_close cL_close 4 (some .int) [(0, 6, 9, 13), (0, 6, 12, 27)] 3 := ⟨tw298, tw299, tw0, tw300, ⟨by decide +kernel, by decide +kernel, by decide +kernel⟩⟩
set_option maxHeartbeats 4000000 in
set_option maxRecDepth 100000 in
theorem lw_close {g : mm_g} {ad : mm_A} {cells slots r L : Nat} {xs : Nat → Int32} {u : ks_S} {t : Int32} {ck cw : Nat → Int32} {f : Nat → Int64} {k c i : Nat} (C : lw_C g ad) (hnL : mm_nL g = 7) (hS : mm_Sx g ad L xs) (hr : 6 * r + 6 ≤ L) (hL : L ≤ 3072) (hc : cells + 4 ≤ 601024) (hs : slots + 24 ≤ 7293034) (J : ms_I u ck cw k c i)
    (next : ∀ (u' : ks_S) (t' : Int32) (ck' cw' : Nat → Int32) (f' : Nat → Int64) (k' c' i' : Nat), ms_I u' ck' cw' k' c' i' → mm_M g ad (cells + 4) (slots + 24) (lw_H u' u' t' ck' cw' f') 1332 [(4, .int (nI (6 * r))), (3, .ref 33), (2, .ref 18), (1, .ref 0), (0, .ref 1000002)] []) : mm_M g ad cells slots (lw_H u u t ck cw f) 388 [(4, .int (nI (6 * r))), (3, .ref 33), (2, .ref 18), (1, .ref 0), (0, .ref 1000002)] [] := by
  refine mm_aload_n C dL_law_388 rfl 3 rfl ?_
  refine mm_aload_n C dL_law_389 rfl 4 rfl ?_
  refine mm_iload C dL_law_390 0 rfl ?_
  refine mm_iconst (v := 1) C dL_law_392 (by decide) ?_
  refine mm_iadd C dL_law_393 ?_
  refine mm_sald C hS (ix_s (j := 1) (by omega) hL rfl) dL_law_394 ?_
  refine mm_aload_n C dL_law_395 rfl 4 rfl ?_
  refine mm_iload C dL_law_396 0 rfl ?_
  refine mm_iconst (v := 2) C dL_law_398 (by decide) ?_
  refine mm_iadd C dL_law_399 ?_
  refine mm_sald C hS (ix_s (j := 2) (by omega) hL rfl) dL_law_400 ?_
  refine mm_callSW (hh := [(0, 6, 9, 13), (0, 6, 12, 27)]) (av := [.ref 0, .int (xs (nI (6 * r) + 1).toNatClampNeg), .int (xs (nI (6 * r) + 2).toNatClampNeg)]) C (mm_gS sw_L_close.1 sw_L_close.2.1 sw_L_close.2.2.1 sw_L_close.2.2.2.1) (sw_L_close.2.2.2.2) (kL_close _ _ u u t ck cw f (xs (nI (6 * r) + 1).toNatClampNeg) (xs (nI (6 * r) + 2).toNatClampNeg) k c i J.1) 3 rfl rfl rfl ⟨mm_nl rfl, mm_nl rfl⟩ rfl rfl (mm_nl rfl) dL_law_401 ⟨hc, hs⟩ (fun v hp' h' _ => ?_)
  obtain ⟨rfl, rfl⟩ := h'
  refine mm_istore (lv' := [(5, .int (m_cd l_close (o_close u (xs (nI (6 * r) + 1).toNatClampNeg) (xs (nI (6 * r) + 2).toNatClampNeg)))), (4, .int (nI (6 * r))), (3, .ref 33), (2, .ref 18), (1, .ref 0), (0, .ref 1000002)]) C dL_law_404 hnL (by decide) rfl ?_
  refine mm_aload_n C dL_law_406 rfl 3 rfl ?_
  refine mm_aload_n C dL_law_407 rfl 5 rfl ?_
  refine mm_iload C dL_law_408 1 rfl ?_
  refine mm_iconst (v := 1) C dL_law_410 (by decide) ?_
  refine mm_iadd C dL_law_411 ?_
  refine mm_sald C hS (ix_s (j := 1) (by omega) hL rfl) dL_law_412 ?_
  refine mm_aload_n C dL_law_413 rfl 5 rfl ?_
  refine mm_iload C dL_law_414 1 rfl ?_
  refine mm_iconst (v := 2) C dL_law_416 (by decide) ?_
  refine mm_iadd C dL_law_417 ?_
  refine mm_sald C hS (ix_s (j := 2) (by omega) hL rfl) dL_law_418 ?_
  refine mm_rvV (av := [.int (xs (nI (6 * r) + 1).toNatClampNeg), .int (xs (nI (6 * r) + 2).toNatClampNeg)]) C 18 sv_L_X3_close_106 rfl rfl (kX3_close _ _ _ u _ ck cw _ (xs (nI (6 * r) + 1).toNatClampNeg) (xs (nI (6 * r) + 2).toNatClampNeg) k c i J) ⟨rfl, rfl⟩ ⟨mm_nl rfl, mm_nl rfl⟩ rfl rfl (mm_nl rfl) ⟨hc, hs⟩ dL_law_419 ?_
  refine mm_aload_n C dL_law_422 rfl 3 rfl ?_
  refine mm_riV (av := []) C 18 sv_L_X3_thrown_88 rfl rfl (kX3_thrown _ _ _ _ _ _ _ _) ⟨rfl, rfl⟩ ⟨mm_nl rfl, mm_nl rfl⟩ rfl rfl (mm_nl rfl) ⟨hc, hs⟩ dL_law_423 ?_
  refine mm_iload C dL_law_426 0 rfl ?_
  refine mm_icmp_eq (tgt := 433) C dL_law_428 (by decide) (fun _ => ?_) (fun z => absurd rfl z)
  refine mm_goto (tgt := 1332) C dL_law_433 (by decide) ?_
  refine mm_lvs (lv' := [(4, .int (nI (6 * r))), (3, .ref 33), (2, .ref 18), (1, .ref 0), (0, .ref 1000002)]) [1, 2, 3, 4, 5] rfl ?_
  obtain ⟨k', c', i', J'⟩ := pr_close J (xs (nI (6 * r) + 1).toNatClampNeg) (xs (nI (6 * r) + 2).toNatClampNeg)
  exact next _ _ _ _ _ k' c' i' J'
theorem sw_L_area : mm_SW RL 107 yL_area cL_area 5 (some .int) [(0, 7, 10, 13), (0, 7, 14, 27), (0, 7, 18, 21)] 4 := ⟨tw305, tw306, tw0, tw307, ⟨by decide +kernel, by decide +kernel, by decide +kernel⟩⟩
set_option maxHeartbeats 4000000 in
set_option maxRecDepth 100000 in
theorem lw_area {g : mm_g} {ad : mm_A} {cells slots r L : Nat} {xs : Nat → Int32} {u : ks_S} {t : Int32} {ck cw : Nat → Int32} {f : Nat → Int64} {k c i : Nat} (C : lw_C g ad) (hnL : mm_nL g = 7) (hS : mm_Sx g ad L xs) (hr : 6 * r + 6 ≤ L) (hL : L ≤ 3072) (hc : cells + 4 ≤ 601024) (hs : slots + 24 ≤ 7293034) (J : ms_I u ck cw k c i)
    (next : ∀ (u' : ks_S) (t' : Int32) (ck' cw' : Nat → Int32) (f' : Nat → Int64) (k' c' i' : Nat), ms_I u' ck' cw' k' c' i' → mm_M g ad (cells + 4) (slots + 24) (lw_H u' u' t' ck' cw' f') 1332 [(4, .int (nI (6 * r))), (3, .ref 33), (2, .ref 18), (1, .ref 0), (0, .ref 1000002)] []) : mm_M g ad cells slots (lw_H u u t ck cw f) 436 [(4, .int (nI (6 * r))), (3, .ref 33), (2, .ref 18), (1, .ref 0), (0, .ref 1000002)] [] := by
  refine mm_aload_n C dL_law_436 rfl 3 rfl ?_
  refine mm_aload_n C dL_law_437 rfl 4 rfl ?_
  refine mm_iload C dL_law_438 0 rfl ?_
  refine mm_iconst (v := 1) C dL_law_440 (by decide) ?_
  refine mm_iadd C dL_law_441 ?_
  refine mm_sald C hS (ix_s (j := 1) (by omega) hL rfl) dL_law_442 ?_
  refine mm_aload_n C dL_law_443 rfl 4 rfl ?_
  refine mm_iload C dL_law_444 0 rfl ?_
  refine mm_iconst (v := 2) C dL_law_446 (by decide) ?_
  refine mm_iadd C dL_law_447 ?_
  refine mm_sald C hS (ix_s (j := 2) (by omega) hL rfl) dL_law_448 ?_
  refine mm_aload_n C dL_law_449 rfl 4 rfl ?_
  refine mm_iload C dL_law_450 0 rfl ?_
  refine mm_iconst (v := 3) C dL_law_452 (by decide) ?_
  refine mm_iadd C dL_law_453 ?_
  refine mm_sald C hS (ix_s (j := 3) (by omega) hL rfl) dL_law_454 ?_
  refine mm_callSW (hh := [(0, 7, 10, 13), (0, 7, 14, 27), (0, 7, 18, 21)]) (av := [.ref 0, .int (xs (nI (6 * r) + 1).toNatClampNeg), .int (xs (nI (6 * r) + 2).toNatClampNeg), .int (xs (nI (6 * r) + 3).toNatClampNeg)]) C (mm_gS sw_L_area.1 sw_L_area.2.1 sw_L_area.2.2.1 sw_L_area.2.2.2.1) (sw_L_area.2.2.2.2) (kL_area _ _ u u t ck cw f (xs (nI (6 * r) + 1).toNatClampNeg) (xs (nI (6 * r) + 2).toNatClampNeg) (xs (nI (6 * r) + 3).toNatClampNeg) k c i J.1) 4 rfl rfl rfl ⟨mm_nl rfl, mm_nl rfl⟩ rfl rfl (mm_nl rfl) dL_law_455 ⟨hc, hs⟩ (fun v hp' h' _ => ?_)
  obtain ⟨rfl, rfl⟩ := h'
  refine mm_istore (lv' := [(5, .int (m_cd l_area (o_area u (xs (nI (6 * r) + 1).toNatClampNeg) (xs (nI (6 * r) + 2).toNatClampNeg) (xs (nI (6 * r) + 3).toNatClampNeg)))), (4, .int (nI (6 * r))), (3, .ref 33), (2, .ref 18), (1, .ref 0), (0, .ref 1000002)]) C dL_law_458 hnL (by decide) rfl ?_
  refine mm_aload_n C dL_law_460 rfl 3 rfl ?_
  refine mm_aload_n C dL_law_461 rfl 5 rfl ?_
  refine mm_iload C dL_law_462 1 rfl ?_
  refine mm_iconst (v := 1) C dL_law_464 (by decide) ?_
  refine mm_iadd C dL_law_465 ?_
  refine mm_sald C hS (ix_s (j := 1) (by omega) hL rfl) dL_law_466 ?_
  refine mm_aload_n C dL_law_467 rfl 5 rfl ?_
  refine mm_iload C dL_law_468 1 rfl ?_
  refine mm_iconst (v := 2) C dL_law_470 (by decide) ?_
  refine mm_iadd C dL_law_471 ?_
  refine mm_sald C hS (ix_s (j := 2) (by omega) hL rfl) dL_law_472 ?_
  refine mm_aload_n C dL_law_473 rfl 5 rfl ?_
  refine mm_iload C dL_law_474 1 rfl ?_
  refine mm_iconst (v := 3) C dL_law_476 (by decide) ?_
  refine mm_iadd C dL_law_477 ?_
  refine mm_sald C hS (ix_s (j := 3) (by omega) hL rfl) dL_law_478 ?_
  refine mm_rvV (av := [.int (xs (nI (6 * r) + 1).toNatClampNeg), .int (xs (nI (6 * r) + 2).toNatClampNeg), .int (xs (nI (6 * r) + 3).toNatClampNeg)]) C 18 sv_L_X3_area_110 rfl rfl (kX3_area _ _ _ u _ ck cw _ (xs (nI (6 * r) + 1).toNatClampNeg) (xs (nI (6 * r) + 2).toNatClampNeg) (xs (nI (6 * r) + 3).toNatClampNeg) k c i J) ⟨rfl, rfl⟩ ⟨mm_nl rfl, mm_nl rfl⟩ rfl rfl (mm_nl rfl) ⟨hc, hs⟩ dL_law_479 ?_
  refine mm_aload_n C dL_law_482 rfl 3 rfl ?_
  refine mm_riV (av := []) C 18 sv_L_X3_thrown_88 rfl rfl (kX3_thrown _ _ _ _ _ _ _ _) ⟨rfl, rfl⟩ ⟨mm_nl rfl, mm_nl rfl⟩ rfl rfl (mm_nl rfl) ⟨hc, hs⟩ dL_law_483 ?_
  refine mm_iload C dL_law_486 0 rfl ?_
  refine mm_icmp_eq (tgt := 493) C dL_law_488 (by decide) (fun _ => ?_) (fun z => absurd rfl z)
  refine mm_goto (tgt := 1332) C dL_law_493 (by decide) ?_
  refine mm_lvs (lv' := [(4, .int (nI (6 * r))), (3, .ref 33), (2, .ref 18), (1, .ref 0), (0, .ref 1000002)]) [1, 2, 3, 4, 5] rfl ?_
  obtain ⟨k', c', i', J'⟩ := pr_area J (xs (nI (6 * r) + 1).toNatClampNeg) (xs (nI (6 * r) + 2).toNatClampNeg) (xs (nI (6 * r) + 3).toNatClampNeg)
  exact next _ _ _ _ _ k' c' i' J'
theorem sw_L_upgrade : mm_SW RL 111 yL_upgrade cL_upgrade 5 (some .int) [(0, 7, 10, 13), (0, 7, 14, 27), (0, 7, 18, 21), (0, 7, 22, 15)] 4 := ⟨tw324, tw325, tw0, tw326, ⟨by decide +kernel, by decide +kernel, by decide +kernel⟩⟩
set_option maxHeartbeats 4000000 in
set_option maxRecDepth 100000 in
theorem lw_upgrade {g : mm_g} {ad : mm_A} {cells slots r L : Nat} {xs : Nat → Int32} {u : ks_S} {t : Int32} {ck cw : Nat → Int32} {f : Nat → Int64} {k c i : Nat} (C : lw_C g ad) (hnL : mm_nL g = 7) (hS : mm_Sx g ad L xs) (hr : 6 * r + 6 ≤ L) (hL : L ≤ 3072) (hc : cells + 4 ≤ 601024) (hs : slots + 24 ≤ 7293034) (J : ms_I u ck cw k c i)
    (next : ∀ (u' : ks_S) (t' : Int32) (ck' cw' : Nat → Int32) (f' : Nat → Int64) (k' c' i' : Nat), ms_I u' ck' cw' k' c' i' → mm_M g ad (cells + 4) (slots + 24) (lw_H u' u' t' ck' cw' f') 1332 [(4, .int (nI (6 * r))), (3, .ref 33), (2, .ref 18), (1, .ref 0), (0, .ref 1000002)] []) : mm_M g ad cells slots (lw_H u u t ck cw f) 496 [(4, .int (nI (6 * r))), (3, .ref 33), (2, .ref 18), (1, .ref 0), (0, .ref 1000002)] [] := by
  refine mm_aload_n C dL_law_496 rfl 3 rfl ?_
  refine mm_aload_n C dL_law_497 rfl 4 rfl ?_
  refine mm_iload C dL_law_498 0 rfl ?_
  refine mm_iconst (v := 1) C dL_law_500 (by decide) ?_
  refine mm_iadd C dL_law_501 ?_
  refine mm_sald C hS (ix_s (j := 1) (by omega) hL rfl) dL_law_502 ?_
  refine mm_aload_n C dL_law_503 rfl 4 rfl ?_
  refine mm_iload C dL_law_504 0 rfl ?_
  refine mm_iconst (v := 2) C dL_law_506 (by decide) ?_
  refine mm_iadd C dL_law_507 ?_
  refine mm_sald C hS (ix_s (j := 2) (by omega) hL rfl) dL_law_508 ?_
  refine mm_aload_n C dL_law_509 rfl 4 rfl ?_
  refine mm_iload C dL_law_510 0 rfl ?_
  refine mm_iconst (v := 3) C dL_law_512 (by decide) ?_
  refine mm_iadd C dL_law_513 ?_
  refine mm_sald C hS (ix_s (j := 3) (by omega) hL rfl) dL_law_514 ?_
  refine mm_callSW (hh := [(0, 7, 10, 13), (0, 7, 14, 27), (0, 7, 18, 21), (0, 7, 22, 15)]) (av := [.ref 0, .int (xs (nI (6 * r) + 1).toNatClampNeg), .int (xs (nI (6 * r) + 2).toNatClampNeg), .int (xs (nI (6 * r) + 3).toNatClampNeg)]) C (mm_gS sw_L_upgrade.1 sw_L_upgrade.2.1 sw_L_upgrade.2.2.1 sw_L_upgrade.2.2.2.1) (sw_L_upgrade.2.2.2.2) (kL_upgrade _ _ u u t ck cw f (xs (nI (6 * r) + 1).toNatClampNeg) (xs (nI (6 * r) + 2).toNatClampNeg) (xs (nI (6 * r) + 3).toNatClampNeg) k c i J.1) 4 rfl rfl rfl ⟨mm_nl rfl, mm_nl rfl⟩ rfl rfl (mm_nl rfl) dL_law_515 ⟨hc, hs⟩ (fun v hp' h' _ => ?_)
  obtain ⟨rfl, rfl⟩ := h'
  refine mm_istore (lv' := [(5, .int (m_cd l_upgrade (o_upgrade u (xs (nI (6 * r) + 1).toNatClampNeg) (xs (nI (6 * r) + 2).toNatClampNeg) (xs (nI (6 * r) + 3).toNatClampNeg)))), (4, .int (nI (6 * r))), (3, .ref 33), (2, .ref 18), (1, .ref 0), (0, .ref 1000002)]) C dL_law_518 hnL (by decide) rfl ?_
  refine mm_aload_n C dL_law_520 rfl 3 rfl ?_
  refine mm_aload_n C dL_law_521 rfl 5 rfl ?_
  refine mm_iload C dL_law_522 1 rfl ?_
  refine mm_iconst (v := 1) C dL_law_524 (by decide) ?_
  refine mm_iadd C dL_law_525 ?_
  refine mm_sald C hS (ix_s (j := 1) (by omega) hL rfl) dL_law_526 ?_
  refine mm_aload_n C dL_law_527 rfl 5 rfl ?_
  refine mm_iload C dL_law_528 1 rfl ?_
  refine mm_iconst (v := 2) C dL_law_530 (by decide) ?_
  refine mm_iadd C dL_law_531 ?_
  refine mm_sald C hS (ix_s (j := 2) (by omega) hL rfl) dL_law_532 ?_
  refine mm_aload_n C dL_law_533 rfl 5 rfl ?_
  refine mm_iload C dL_law_534 1 rfl ?_
  refine mm_iconst (v := 3) C dL_law_536 (by decide) ?_
  refine mm_iadd C dL_law_537 ?_
  refine mm_sald C hS (ix_s (j := 3) (by omega) hL rfl) dL_law_538 ?_
  refine mm_rvV (av := [.int (xs (nI (6 * r) + 1).toNatClampNeg), .int (xs (nI (6 * r) + 2).toNatClampNeg), .int (xs (nI (6 * r) + 3).toNatClampNeg)]) C 18 sv_L_X3_upgrade_113 rfl rfl (kX3_upgrade _ _ _ u _ ck cw _ (xs (nI (6 * r) + 1).toNatClampNeg) (xs (nI (6 * r) + 2).toNatClampNeg) (xs (nI (6 * r) + 3).toNatClampNeg) k c i J) ⟨rfl, rfl⟩ ⟨mm_nl rfl, mm_nl rfl⟩ rfl rfl (mm_nl rfl) ⟨hc, hs⟩ dL_law_539 ?_
  refine mm_aload_n C dL_law_542 rfl 3 rfl ?_
  refine mm_riV (av := []) C 18 sv_L_X3_thrown_88 rfl rfl (kX3_thrown _ _ _ _ _ _ _ _) ⟨rfl, rfl⟩ ⟨mm_nl rfl, mm_nl rfl⟩ rfl rfl (mm_nl rfl) ⟨hc, hs⟩ dL_law_543 ?_
  refine mm_iload C dL_law_546 0 rfl ?_
  refine mm_icmp_eq (tgt := 553) C dL_law_548 (by decide) (fun _ => ?_) (fun z => absurd rfl z)
  refine mm_goto (tgt := 1332) C dL_law_553 (by decide) ?_
  refine mm_lvs (lv' := [(4, .int (nI (6 * r))), (3, .ref 33), (2, .ref 18), (1, .ref 0), (0, .ref 1000002)]) [1, 2, 3, 4, 5] rfl ?_
  obtain ⟨k', c', i', J'⟩ := pr_upgrade J (xs (nI (6 * r) + 1).toNatClampNeg) (xs (nI (6 * r) + 2).toNatClampNeg) (xs (nI (6 * r) + 3).toNatClampNeg)
  exact next _ _ _ _ _ k' c' i' J'
theorem sw_L_has : mm_SW RL 114 yL_has cL_has 6 (some .int) [(0, 12, 15, 13), (0, 12, 19, 27)] 5 := ⟨tw331, tw332, tw0, tw333, ⟨by decide +kernel, by decide +kernel, by decide +kernel⟩⟩
set_option maxHeartbeats 4000000 in
set_option maxRecDepth 100000 in
theorem lw_has {g : mm_g} {ad : mm_A} {cells slots r L : Nat} {xs : Nat → Int32} {u : ks_S} {t : Int32} {ck cw : Nat → Int32} {f : Nat → Int64} {k c i : Nat} (C : lw_C g ad) (hnL : mm_nL g = 7) (hS : mm_Sx g ad L xs) (hr : 6 * r + 6 ≤ L) (hL : L ≤ 3072) (hc : cells + 4 ≤ 601024) (hs : slots + 24 ≤ 7293034) (J : ms_I u ck cw k c i)
    (next : ∀ (u' : ks_S) (t' : Int32) (ck' cw' : Nat → Int32) (f' : Nat → Int64) (k' c' i' : Nat), ms_I u' ck' cw' k' c' i' → mm_M g ad (cells + 4) (slots + 24) (lw_H u' u' t' ck' cw' f') 1332 [(4, .int (nI (6 * r))), (3, .ref 33), (2, .ref 18), (1, .ref 0), (0, .ref 1000002)] []) : mm_M g ad cells slots (lw_H u u t ck cw f) 556 [(4, .int (nI (6 * r))), (3, .ref 33), (2, .ref 18), (1, .ref 0), (0, .ref 1000002)] [] := by
  refine mm_aload_n C dL_law_556 rfl 3 rfl ?_
  refine mm_aload_n C dL_law_557 rfl 4 rfl ?_
  refine mm_iload C dL_law_558 0 rfl ?_
  refine mm_iconst (v := 1) C dL_law_560 (by decide) ?_
  refine mm_iadd C dL_law_561 ?_
  refine mm_sald C hS (ix_s (j := 1) (by omega) hL rfl) dL_law_562 ?_
  refine mm_aload_n C dL_law_563 rfl 4 rfl ?_
  refine mm_iload C dL_law_564 0 rfl ?_
  refine mm_iconst (v := 2) C dL_law_566 (by decide) ?_
  refine mm_iadd C dL_law_567 ?_
  refine mm_sald C hS (ix_s (j := 2) (by omega) hL rfl) dL_law_568 ?_
  refine mm_aload_n C dL_law_569 rfl 4 rfl ?_
  refine mm_iload C dL_law_570 0 rfl ?_
  refine mm_iconst (v := 3) C dL_law_572 (by decide) ?_
  refine mm_iadd C dL_law_573 ?_
  refine mm_sald C hS (ix_s (j := 3) (by omega) hL rfl) dL_law_574 ?_
  refine mm_aload_n C dL_law_575 rfl 1 rfl ?_
  refine mm_callSW (hh := [(0, 12, 15, 13), (0, 12, 19, 27)]) (av := [.ref 0, .int (xs (nI (6 * r) + 1).toNatClampNeg), .int (xs (nI (6 * r) + 2).toNatClampNeg), .int (xs (nI (6 * r) + 3).toNatClampNeg), .ref 33]) C (mm_gS sw_L_has.1 sw_L_has.2.1 sw_L_has.2.2.1 sw_L_has.2.2.2.1) (sw_L_has.2.2.2.2) (kL_has _ _ u u t ck cw f (xs (nI (6 * r) + 1).toNatClampNeg) (xs (nI (6 * r) + 2).toNatClampNeg) (xs (nI (6 * r) + 3).toNatClampNeg) k c i J.1) 5 rfl rfl rfl ⟨mm_nl rfl, mm_nl rfl⟩ rfl rfl (mm_nl rfl) dL_law_576 ⟨hc, hs⟩ (fun v hp' h' _ => ?_)
  obtain ⟨rfl, rfl⟩ := h'
  refine mm_istore (lv' := [(5, .int (m_cd l_has (o_has u c (xs (nI (6 * r) + 1).toNatClampNeg) (xs (nI (6 * r) + 2).toNatClampNeg) (xs (nI (6 * r) + 3).toNatClampNeg)))), (4, .int (nI (6 * r))), (3, .ref 33), (2, .ref 18), (1, .ref 0), (0, .ref 1000002)]) C dL_law_579 hnL (by decide) rfl ?_
  refine mm_aload_n C dL_law_581 rfl 3 rfl ?_
  refine mm_aload_n C dL_law_582 rfl 5 rfl ?_
  refine mm_iload C dL_law_583 1 rfl ?_
  refine mm_iconst (v := 1) C dL_law_585 (by decide) ?_
  refine mm_iadd C dL_law_586 ?_
  refine mm_sald C hS (ix_s (j := 1) (by omega) hL rfl) dL_law_587 ?_
  refine mm_aload_n C dL_law_588 rfl 5 rfl ?_
  refine mm_iload C dL_law_589 1 rfl ?_
  refine mm_iconst (v := 2) C dL_law_591 (by decide) ?_
  refine mm_iadd C dL_law_592 ?_
  refine mm_sald C hS (ix_s (j := 2) (by omega) hL rfl) dL_law_593 ?_
  refine mm_aload_n C dL_law_594 rfl 5 rfl ?_
  refine mm_iload C dL_law_595 1 rfl ?_
  refine mm_iconst (v := 3) C dL_law_597 (by decide) ?_
  refine mm_iadd C dL_law_598 ?_
  refine mm_sald C hS (ix_s (j := 3) (by omega) hL rfl) dL_law_599 ?_
  refine mm_riV (av := [.int (xs (nI (6 * r) + 1).toNatClampNeg), .int (xs (nI (6 * r) + 2).toNatClampNeg), .int (xs (nI (6 * r) + 3).toNatClampNeg)]) C 18 sv_L_X3_has_117 rfl rfl (kX3_has _ _ _ u _ ck cw _ (xs (nI (6 * r) + 1).toNatClampNeg) (xs (nI (6 * r) + 2).toNatClampNeg) (xs (nI (6 * r) + 3).toNatClampNeg) k c i J) ⟨rfl, rfl⟩ ⟨mm_nl rfl, mm_nl rfl⟩ rfl rfl (mm_nl rfl) ⟨hc, hs⟩ dL_law_600 ?_
  refine mm_istore (lv' := [(6, .int (m_an (o_has u c (xs (nI (6 * r) + 1).toNatClampNeg) (xs (nI (6 * r) + 2).toNatClampNeg) (xs (nI (6 * r) + 3).toNatClampNeg)))), (5, .int (m_cd l_has (o_has u c (xs (nI (6 * r) + 1).toNatClampNeg) (xs (nI (6 * r) + 2).toNatClampNeg) (xs (nI (6 * r) + 3).toNatClampNeg)))), (4, .int (nI (6 * r))), (3, .ref 33), (2, .ref 18), (1, .ref 0), (0, .ref 1000002)]) C dL_law_603 hnL (by decide) rfl ?_
  refine mm_aload_n C dL_law_605 rfl 4 rfl ?_
  refine mm_riV (av := []) C 18 sv_L_X3_thrown_88 rfl rfl (kX3_thrown _ _ _ _ _ _ _ _) ⟨rfl, rfl⟩ ⟨mm_nl rfl, mm_nl rfl⟩ rfl rfl (mm_nl rfl) ⟨hc, hs⟩ dL_law_606 ?_
  refine mm_iload C dL_law_609 1 rfl ?_
  refine mm_icmp_eq (tgt := 616) C dL_law_611 (by decide) (fun _ => ?_) (fun z => absurd rfl z)
  refine mm_iload C dL_law_616 1 rfl ?_
  refine mm_if_ne (tgt := 633) C dL_law_618 (by decide) (fun _ => ?_) (fun hz => ?_)
  · refine mm_goto (tgt := 1332) C dL_law_633 (by decide) ?_
    refine mm_lvs (lv' := [(4, .int (nI (6 * r))), (3, .ref 33), (2, .ref 18), (1, .ref 0), (0, .ref 1000002)]) [2, 3, 4, 5, 6] rfl ?_
    obtain ⟨k', c', i', J'⟩ := pr_has J (xs (nI (6 * r) + 1).toNatClampNeg) (xs (nI (6 * r) + 2).toNatClampNeg) (xs (nI (6 * r) + 3).toNatClampNeg)
    exact next _ _ _ _ _ k' c' i' J'
  · refine mm_aload_n C dL_law_621 rfl 3 rfl ?_
    refine mm_iconst (v := 0) C dL_law_622 (by decide) ?_
    refine mm_lald C 33 rfl (vp_in_nI (n := 0) (by decide) (by decide)) dL_law_623 ?_
    refine mm_iload C dL_law_624 0 rfl ?_
    refine mm_i2l C dL_law_626 ?_
    refine mm_lcmp C dL_law_627 ?_
    refine mm_if_eq (tgt := 633) C dL_law_628 (by decide) (fun _ => ?_) (fun z => absurd (ou_eq (l := l_has) (ou_has u c (xs (nI (6 * r) + 1).toNatClampNeg) (xs (nI (6 * r) + 2).toNatClampNeg) (xs (nI (6 * r) + 3).toNatClampNeg)) (by decide) hz) z)
    refine mm_goto (tgt := 1332) C dL_law_633 (by decide) ?_
    refine mm_lvs (lv' := [(4, .int (nI (6 * r))), (3, .ref 33), (2, .ref 18), (1, .ref 0), (0, .ref 1000002)]) [2, 3, 4, 5, 6] rfl ?_
    obtain ⟨k', c', i', J'⟩ := pr_has J (xs (nI (6 * r) + 1).toNatClampNeg) (xs (nI (6 * r) + 2).toNatClampNeg) (xs (nI (6 * r) + 3).toNatClampNeg)
    exact next _ _ _ _ _ k' c' i' J'
theorem sw_L_in : mm_SW RL 118 yL_in cL_in 5 (some .int) [(0, 10, 13, 13), (0, 10, 17, 27)] 4 := ⟨tw370, tw371, tw0, tw372, ⟨by decide +kernel, by decide +kernel, by decide +kernel⟩⟩
set_option maxHeartbeats 4000000 in
set_option maxRecDepth 100000 in
theorem lw_in {g : mm_g} {ad : mm_A} {cells slots r L : Nat} {xs : Nat → Int32} {u : ks_S} {t : Int32} {ck cw : Nat → Int32} {f : Nat → Int64} {k c i : Nat} (C : lw_C g ad) (hnL : mm_nL g = 7) (hS : mm_Sx g ad L xs) (hr : 6 * r + 6 ≤ L) (hL : L ≤ 3072) (hc : cells + 4 ≤ 601024) (hs : slots + 24 ≤ 7293034) (J : ms_I u ck cw k c i)
    (next : ∀ (u' : ks_S) (t' : Int32) (ck' cw' : Nat → Int32) (f' : Nat → Int64) (k' c' i' : Nat), ms_I u' ck' cw' k' c' i' → mm_M g ad (cells + 4) (slots + 24) (lw_H u' u' t' ck' cw' f') 1332 [(4, .int (nI (6 * r))), (3, .ref 33), (2, .ref 18), (1, .ref 0), (0, .ref 1000002)] []) : mm_M g ad cells slots (lw_H u u t ck cw f) 636 [(4, .int (nI (6 * r))), (3, .ref 33), (2, .ref 18), (1, .ref 0), (0, .ref 1000002)] [] := by
  refine mm_aload_n C dL_law_636 rfl 3 rfl ?_
  refine mm_aload_n C dL_law_637 rfl 4 rfl ?_
  refine mm_iload C dL_law_638 0 rfl ?_
  refine mm_iconst (v := 1) C dL_law_640 (by decide) ?_
  refine mm_iadd C dL_law_641 ?_
  refine mm_sald C hS (ix_s (j := 1) (by omega) hL rfl) dL_law_642 ?_
  refine mm_aload_n C dL_law_643 rfl 4 rfl ?_
  refine mm_iload C dL_law_644 0 rfl ?_
  refine mm_iconst (v := 2) C dL_law_646 (by decide) ?_
  refine mm_iadd C dL_law_647 ?_
  refine mm_sald C hS (ix_s (j := 2) (by omega) hL rfl) dL_law_648 ?_
  refine mm_aload_n C dL_law_649 rfl 1 rfl ?_
  refine mm_callSW (hh := [(0, 10, 13, 13), (0, 10, 17, 27)]) (av := [.ref 0, .int (xs (nI (6 * r) + 1).toNatClampNeg), .int (xs (nI (6 * r) + 2).toNatClampNeg), .ref 33]) C (mm_gS sw_L_in.1 sw_L_in.2.1 sw_L_in.2.2.1 sw_L_in.2.2.2.1) (sw_L_in.2.2.2.2) (kL_in _ _ u u t ck cw f (xs (nI (6 * r) + 1).toNatClampNeg) (xs (nI (6 * r) + 2).toNatClampNeg) k c i J.1) 4 rfl rfl rfl ⟨mm_nl rfl, mm_nl rfl⟩ rfl rfl (mm_nl rfl) dL_law_650 ⟨hc, hs⟩ (fun v hp' h' _ => ?_)
  obtain ⟨rfl, rfl⟩ := h'
  refine mm_istore (lv' := [(5, .int (m_cd l_in (o_in u (xs (nI (6 * r) + 1).toNatClampNeg) (xs (nI (6 * r) + 2).toNatClampNeg)))), (4, .int (nI (6 * r))), (3, .ref 33), (2, .ref 18), (1, .ref 0), (0, .ref 1000002)]) C dL_law_653 hnL (by decide) rfl ?_
  refine mm_aload_n C dL_law_655 rfl 3 rfl ?_
  refine mm_aload_n C dL_law_656 rfl 5 rfl ?_
  refine mm_iload C dL_law_657 1 rfl ?_
  refine mm_iconst (v := 1) C dL_law_659 (by decide) ?_
  refine mm_iadd C dL_law_660 ?_
  refine mm_sald C hS (ix_s (j := 1) (by omega) hL rfl) dL_law_661 ?_
  refine mm_aload_n C dL_law_662 rfl 5 rfl ?_
  refine mm_iload C dL_law_663 1 rfl ?_
  refine mm_iconst (v := 2) C dL_law_665 (by decide) ?_
  refine mm_iadd C dL_law_666 ?_
  refine mm_sald C hS (ix_s (j := 2) (by omega) hL rfl) dL_law_667 ?_
  refine mm_riV (av := [.int (xs (nI (6 * r) + 1).toNatClampNeg), .int (xs (nI (6 * r) + 2).toNatClampNeg)]) C 18 sv_L_X3_in_121 rfl rfl (kX3_in _ _ _ u _ ck cw _ (xs (nI (6 * r) + 1).toNatClampNeg) (xs (nI (6 * r) + 2).toNatClampNeg) k c i J) ⟨rfl, rfl⟩ ⟨mm_nl rfl, mm_nl rfl⟩ rfl rfl (mm_nl rfl) ⟨hc, hs⟩ dL_law_668 ?_
  refine mm_istore (lv' := [(6, .int (m_an (o_in u (xs (nI (6 * r) + 1).toNatClampNeg) (xs (nI (6 * r) + 2).toNatClampNeg)))), (5, .int (m_cd l_in (o_in u (xs (nI (6 * r) + 1).toNatClampNeg) (xs (nI (6 * r) + 2).toNatClampNeg)))), (4, .int (nI (6 * r))), (3, .ref 33), (2, .ref 18), (1, .ref 0), (0, .ref 1000002)]) C dL_law_671 hnL (by decide) rfl ?_
  refine mm_aload_n C dL_law_673 rfl 4 rfl ?_
  refine mm_riV (av := []) C 18 sv_L_X3_thrown_88 rfl rfl (kX3_thrown _ _ _ _ _ _ _ _) ⟨rfl, rfl⟩ ⟨mm_nl rfl, mm_nl rfl⟩ rfl rfl (mm_nl rfl) ⟨hc, hs⟩ dL_law_674 ?_
  refine mm_iload C dL_law_677 1 rfl ?_
  refine mm_icmp_eq (tgt := 684) C dL_law_679 (by decide) (fun _ => ?_) (fun z => absurd rfl z)
  refine mm_iload C dL_law_684 1 rfl ?_
  refine mm_if_ne (tgt := 701) C dL_law_686 (by decide) (fun _ => ?_) (fun hz => ?_)
  · refine mm_goto (tgt := 1332) C dL_law_701 (by decide) ?_
    refine mm_lvs (lv' := [(4, .int (nI (6 * r))), (3, .ref 33), (2, .ref 18), (1, .ref 0), (0, .ref 1000002)]) [2, 3, 4, 5, 6] rfl ?_
    obtain ⟨k', c', i', J'⟩ := pr_in J (xs (nI (6 * r) + 1).toNatClampNeg) (xs (nI (6 * r) + 2).toNatClampNeg)
    exact next _ _ _ _ _ k' c' i' J'
  · refine mm_aload_n C dL_law_689 rfl 3 rfl ?_
    refine mm_iconst (v := 0) C dL_law_690 (by decide) ?_
    refine mm_lald C 33 rfl (vp_in_nI (n := 0) (by decide) (by decide)) dL_law_691 ?_
    refine mm_iload C dL_law_692 0 rfl ?_
    refine mm_i2l C dL_law_694 ?_
    refine mm_lcmp C dL_law_695 ?_
    refine mm_if_eq (tgt := 701) C dL_law_696 (by decide) (fun _ => ?_) (fun z => absurd (ou_eq (l := l_in) (ou_in u (xs (nI (6 * r) + 1).toNatClampNeg) (xs (nI (6 * r) + 2).toNatClampNeg)) (by decide) hz) z)
    refine mm_goto (tgt := 1332) C dL_law_701 (by decide) ?_
    refine mm_lvs (lv' := [(4, .int (nI (6 * r))), (3, .ref 33), (2, .ref 18), (1, .ref 0), (0, .ref 1000002)]) [2, 3, 4, 5, 6] rfl ?_
    obtain ⟨k', c', i', J'⟩ := pr_in J (xs (nI (6 * r) + 1).toNatClampNeg) (xs (nI (6 * r) + 2).toNatClampNeg)
    exact next _ _ _ _ _ k' c' i' J'
theorem sw_L_open : mm_SW RL 122 yL_open cL_open 6 (some .int) [(0, 12, 15, 13), (0, 12, 19, 27), (0, 12, 23, 21), (0, 12, 27, 15)] 5 := ⟨tw381, tw382, tw0, tw383, ⟨by decide +kernel, by decide +kernel, by decide +kernel⟩⟩
set_option maxHeartbeats 4000000 in
set_option maxRecDepth 100000 in
theorem lw_open {g : mm_g} {ad : mm_A} {cells slots r L : Nat} {xs : Nat → Int32} {u : ks_S} {t : Int32} {ck cw : Nat → Int32} {f : Nat → Int64} {k c i : Nat} (C : lw_C g ad) (hnL : mm_nL g = 7) (hS : mm_Sx g ad L xs) (hr : 6 * r + 6 ≤ L) (hL : L ≤ 3072) (hc : cells + 4 ≤ 601024) (hs : slots + 24 ≤ 7293034) (J : ms_I u ck cw k c i)
    (next : ∀ (u' : ks_S) (t' : Int32) (ck' cw' : Nat → Int32) (f' : Nat → Int64) (k' c' i' : Nat), ms_I u' ck' cw' k' c' i' → mm_M g ad (cells + 4) (slots + 24) (lw_H u' u' t' ck' cw' f') 1332 [(4, .int (nI (6 * r))), (3, .ref 33), (2, .ref 18), (1, .ref 0), (0, .ref 1000002)] []) : mm_M g ad cells slots (lw_H u u t ck cw f) 704 [(4, .int (nI (6 * r))), (3, .ref 33), (2, .ref 18), (1, .ref 0), (0, .ref 1000002)] [] := by
  refine mm_aload_n C dL_law_704 rfl 3 rfl ?_
  refine mm_aload_n C dL_law_705 rfl 4 rfl ?_
  refine mm_iload C dL_law_706 0 rfl ?_
  refine mm_iconst (v := 1) C dL_law_708 (by decide) ?_
  refine mm_iadd C dL_law_709 ?_
  refine mm_sald C hS (ix_s (j := 1) (by omega) hL rfl) dL_law_710 ?_
  refine mm_aload_n C dL_law_711 rfl 4 rfl ?_
  refine mm_iload C dL_law_712 0 rfl ?_
  refine mm_iconst (v := 2) C dL_law_714 (by decide) ?_
  refine mm_iadd C dL_law_715 ?_
  refine mm_sald C hS (ix_s (j := 2) (by omega) hL rfl) dL_law_716 ?_
  refine mm_aload_n C dL_law_717 rfl 4 rfl ?_
  refine mm_iload C dL_law_718 0 rfl ?_
  refine mm_iconst (v := 3) C dL_law_720 (by decide) ?_
  refine mm_iadd C dL_law_721 ?_
  refine mm_sald C hS (ix_s (j := 3) (by omega) hL rfl) dL_law_722 ?_
  refine mm_aload_n C dL_law_723 rfl 1 rfl ?_
  refine mm_callSW (hh := [(0, 12, 15, 13), (0, 12, 19, 27), (0, 12, 23, 21), (0, 12, 27, 15)]) (av := [.ref 0, .int (xs (nI (6 * r) + 1).toNatClampNeg), .int (xs (nI (6 * r) + 2).toNatClampNeg), .int (xs (nI (6 * r) + 3).toNatClampNeg), .ref 33]) C (mm_gS sw_L_open.1 sw_L_open.2.1 sw_L_open.2.2.1 sw_L_open.2.2.2.1) (sw_L_open.2.2.2.2) (kL_open _ _ u u t ck cw f (xs (nI (6 * r) + 1).toNatClampNeg) (xs (nI (6 * r) + 2).toNatClampNeg) (xs (nI (6 * r) + 3).toNatClampNeg) k c i J.1) 5 rfl rfl rfl ⟨mm_nl rfl, mm_nl rfl⟩ rfl rfl (mm_nl rfl) dL_law_724 ⟨hc, hs⟩ (fun v hp' h' _ => ?_)
  obtain ⟨rfl, rfl⟩ := h'
  refine mm_istore (lv' := [(5, .int (m_cd l_open (o_open u (xs (nI (6 * r) + 1).toNatClampNeg) (xs (nI (6 * r) + 2).toNatClampNeg) (xs (nI (6 * r) + 3).toNatClampNeg)))), (4, .int (nI (6 * r))), (3, .ref 33), (2, .ref 18), (1, .ref 0), (0, .ref 1000002)]) C dL_law_727 hnL (by decide) rfl ?_
  refine mm_aload_n C dL_law_729 rfl 3 rfl ?_
  refine mm_aload_n C dL_law_730 rfl 5 rfl ?_
  refine mm_iload C dL_law_731 1 rfl ?_
  refine mm_iconst (v := 1) C dL_law_733 (by decide) ?_
  refine mm_iadd C dL_law_734 ?_
  refine mm_sald C hS (ix_s (j := 1) (by omega) hL rfl) dL_law_735 ?_
  refine mm_aload_n C dL_law_736 rfl 5 rfl ?_
  refine mm_iload C dL_law_737 1 rfl ?_
  refine mm_iconst (v := 2) C dL_law_739 (by decide) ?_
  refine mm_iadd C dL_law_740 ?_
  refine mm_sald C hS (ix_s (j := 2) (by omega) hL rfl) dL_law_741 ?_
  refine mm_aload_n C dL_law_742 rfl 5 rfl ?_
  refine mm_iload C dL_law_743 1 rfl ?_
  refine mm_iconst (v := 3) C dL_law_745 (by decide) ?_
  refine mm_iadd C dL_law_746 ?_
  refine mm_sald C hS (ix_s (j := 3) (by omega) hL rfl) dL_law_747 ?_
  refine mm_riV (av := [.int (xs (nI (6 * r) + 1).toNatClampNeg), .int (xs (nI (6 * r) + 2).toNatClampNeg), .int (xs (nI (6 * r) + 3).toNatClampNeg)]) C 18 sv_L_X3_open_124 rfl rfl (kX3_open _ _ _ u _ ck cw _ (xs (nI (6 * r) + 1).toNatClampNeg) (xs (nI (6 * r) + 2).toNatClampNeg) (xs (nI (6 * r) + 3).toNatClampNeg) k c i J) ⟨rfl, rfl⟩ ⟨mm_nl rfl, mm_nl rfl⟩ rfl rfl (mm_nl rfl) ⟨hc, hs⟩ dL_law_748 ?_
  refine mm_istore (lv' := [(6, .int (m_an (o_open u (xs (nI (6 * r) + 1).toNatClampNeg) (xs (nI (6 * r) + 2).toNatClampNeg) (xs (nI (6 * r) + 3).toNatClampNeg)))), (5, .int (m_cd l_open (o_open u (xs (nI (6 * r) + 1).toNatClampNeg) (xs (nI (6 * r) + 2).toNatClampNeg) (xs (nI (6 * r) + 3).toNatClampNeg)))), (4, .int (nI (6 * r))), (3, .ref 33), (2, .ref 18), (1, .ref 0), (0, .ref 1000002)]) C dL_law_751 hnL (by decide) rfl ?_
  refine mm_aload_n C dL_law_753 rfl 4 rfl ?_
  refine mm_riV (av := []) C 18 sv_L_X3_thrown_88 rfl rfl (kX3_thrown _ _ _ _ _ _ _ _) ⟨rfl, rfl⟩ ⟨mm_nl rfl, mm_nl rfl⟩ rfl rfl (mm_nl rfl) ⟨hc, hs⟩ dL_law_754 ?_
  refine mm_iload C dL_law_757 1 rfl ?_
  refine mm_icmp_eq (tgt := 764) C dL_law_759 (by decide) (fun _ => ?_) (fun z => absurd rfl z)
  refine mm_iload C dL_law_764 1 rfl ?_
  refine mm_if_ne (tgt := 781) C dL_law_766 (by decide) (fun _ => ?_) (fun hz => ?_)
  · refine mm_goto (tgt := 1332) C dL_law_781 (by decide) ?_
    refine mm_lvs (lv' := [(4, .int (nI (6 * r))), (3, .ref 33), (2, .ref 18), (1, .ref 0), (0, .ref 1000002)]) [2, 3, 4, 5, 6] rfl ?_
    obtain ⟨k', c', i', J'⟩ := pr_open J (xs (nI (6 * r) + 1).toNatClampNeg) (xs (nI (6 * r) + 2).toNatClampNeg) (xs (nI (6 * r) + 3).toNatClampNeg)
    exact next _ _ _ _ _ k' c' i' J'
  · refine mm_aload_n C dL_law_769 rfl 3 rfl ?_
    refine mm_iconst (v := 0) C dL_law_770 (by decide) ?_
    refine mm_lald C 33 rfl (vp_in_nI (n := 0) (by decide) (by decide)) dL_law_771 ?_
    refine mm_iload C dL_law_772 0 rfl ?_
    refine mm_i2l C dL_law_774 ?_
    refine mm_lcmp C dL_law_775 ?_
    refine mm_if_eq (tgt := 781) C dL_law_776 (by decide) (fun _ => ?_) (fun z => absurd (ou_eq (l := l_open) (ou_open u (xs (nI (6 * r) + 1).toNatClampNeg) (xs (nI (6 * r) + 2).toNatClampNeg) (xs (nI (6 * r) + 3).toNatClampNeg)) (by decide) hz) z)
    refine mm_goto (tgt := 1332) C dL_law_781 (by decide) ?_
    refine mm_lvs (lv' := [(4, .int (nI (6 * r))), (3, .ref 33), (2, .ref 18), (1, .ref 0), (0, .ref 1000002)]) [2, 3, 4, 5, 6] rfl ?_
    obtain ⟨k', c', i', J'⟩ := pr_open J (xs (nI (6 * r) + 1).toNatClampNeg) (xs (nI (6 * r) + 2).toNatClampNeg) (xs (nI (6 * r) + 3).toNatClampNeg)
    exact next _ _ _ _ _ k' c' i' J'
theorem sw_L_found : mm_SW RL 125 yL_found cL_found 6 (some .int) [(0, 12, 15, 13), (0, 12, 19, 27), (0, 12, 23, 21)] 5 := ⟨tw388, tw389, tw0, tw390, ⟨by decide +kernel, by decide +kernel, by decide +kernel⟩⟩
set_option maxHeartbeats 4000000 in
set_option maxRecDepth 100000 in
theorem lw_found {g : mm_g} {ad : mm_A} {cells slots r L : Nat} {xs : Nat → Int32} {u : ks_S} {t : Int32} {ck cw : Nat → Int32} {f : Nat → Int64} {k c i : Nat} (C : lw_C g ad) (hnL : mm_nL g = 7) (hS : mm_Sx g ad L xs) (hr : 6 * r + 6 ≤ L) (hL : L ≤ 3072) (hc : cells + 4 ≤ 601024) (hs : slots + 24 ≤ 7293034) (J : ms_I u ck cw k c i)
    (next : ∀ (u' : ks_S) (t' : Int32) (ck' cw' : Nat → Int32) (f' : Nat → Int64) (k' c' i' : Nat), ms_I u' ck' cw' k' c' i' → mm_M g ad (cells + 4) (slots + 24) (lw_H u' u' t' ck' cw' f') 1332 [(4, .int (nI (6 * r))), (3, .ref 33), (2, .ref 18), (1, .ref 0), (0, .ref 1000002)] []) : mm_M g ad cells slots (lw_H u u t ck cw f) 784 [(4, .int (nI (6 * r))), (3, .ref 33), (2, .ref 18), (1, .ref 0), (0, .ref 1000002)] [] := by
  refine mm_aload_n C dL_law_784 rfl 3 rfl ?_
  refine mm_aload_n C dL_law_785 rfl 4 rfl ?_
  refine mm_iload C dL_law_786 0 rfl ?_
  refine mm_iconst (v := 1) C dL_law_788 (by decide) ?_
  refine mm_iadd C dL_law_789 ?_
  refine mm_sald C hS (ix_s (j := 1) (by omega) hL rfl) dL_law_790 ?_
  refine mm_aload_n C dL_law_791 rfl 4 rfl ?_
  refine mm_iload C dL_law_792 0 rfl ?_
  refine mm_iconst (v := 2) C dL_law_794 (by decide) ?_
  refine mm_iadd C dL_law_795 ?_
  refine mm_sald C hS (ix_s (j := 2) (by omega) hL rfl) dL_law_796 ?_
  refine mm_aload_n C dL_law_797 rfl 4 rfl ?_
  refine mm_iload C dL_law_798 0 rfl ?_
  refine mm_iconst (v := 3) C dL_law_800 (by decide) ?_
  refine mm_iadd C dL_law_801 ?_
  refine mm_sald C hS (ix_s (j := 3) (by omega) hL rfl) dL_law_802 ?_
  refine mm_aload_n C dL_law_803 rfl 1 rfl ?_
  refine mm_callSW (hh := [(0, 12, 15, 13), (0, 12, 19, 27), (0, 12, 23, 21)]) (av := [.ref 0, .int (xs (nI (6 * r) + 1).toNatClampNeg), .int (xs (nI (6 * r) + 2).toNatClampNeg), .int (xs (nI (6 * r) + 3).toNatClampNeg), .ref 33]) C (mm_gS sw_L_found.1 sw_L_found.2.1 sw_L_found.2.2.1 sw_L_found.2.2.2.1) (sw_L_found.2.2.2.2) (kL_found _ _ u u t ck cw f (xs (nI (6 * r) + 1).toNatClampNeg) (xs (nI (6 * r) + 2).toNatClampNeg) (xs (nI (6 * r) + 3).toNatClampNeg) k c i J.1) 5 rfl rfl rfl ⟨mm_nl rfl, mm_nl rfl⟩ rfl rfl (mm_nl rfl) dL_law_804 ⟨hc, hs⟩ (fun v hp' h' _ => ?_)
  obtain ⟨rfl, rfl⟩ := h'
  refine mm_istore (lv' := [(5, .int (m_cd l_found (o_found u (xs (nI (6 * r) + 1).toNatClampNeg) (xs (nI (6 * r) + 2).toNatClampNeg) (xs (nI (6 * r) + 3).toNatClampNeg)))), (4, .int (nI (6 * r))), (3, .ref 33), (2, .ref 18), (1, .ref 0), (0, .ref 1000002)]) C dL_law_807 hnL (by decide) rfl ?_
  refine mm_aload_n C dL_law_809 rfl 3 rfl ?_
  refine mm_aload_n C dL_law_810 rfl 5 rfl ?_
  refine mm_iload C dL_law_811 1 rfl ?_
  refine mm_iconst (v := 1) C dL_law_813 (by decide) ?_
  refine mm_iadd C dL_law_814 ?_
  refine mm_sald C hS (ix_s (j := 1) (by omega) hL rfl) dL_law_815 ?_
  refine mm_aload_n C dL_law_816 rfl 5 rfl ?_
  refine mm_iload C dL_law_817 1 rfl ?_
  refine mm_iconst (v := 2) C dL_law_819 (by decide) ?_
  refine mm_iadd C dL_law_820 ?_
  refine mm_sald C hS (ix_s (j := 2) (by omega) hL rfl) dL_law_821 ?_
  refine mm_aload_n C dL_law_822 rfl 5 rfl ?_
  refine mm_iload C dL_law_823 1 rfl ?_
  refine mm_iconst (v := 3) C dL_law_825 (by decide) ?_
  refine mm_iadd C dL_law_826 ?_
  refine mm_sald C hS (ix_s (j := 3) (by omega) hL rfl) dL_law_827 ?_
  refine mm_riV (av := [.int (xs (nI (6 * r) + 1).toNatClampNeg), .int (xs (nI (6 * r) + 2).toNatClampNeg), .int (xs (nI (6 * r) + 3).toNatClampNeg)]) C 18 sv_L_X3_found_127 rfl rfl (kX3_found _ _ _ u _ ck cw _ (xs (nI (6 * r) + 1).toNatClampNeg) (xs (nI (6 * r) + 2).toNatClampNeg) (xs (nI (6 * r) + 3).toNatClampNeg) k c i J) ⟨rfl, rfl⟩ ⟨mm_nl rfl, mm_nl rfl⟩ rfl rfl (mm_nl rfl) ⟨hc, hs⟩ dL_law_828 ?_
  refine mm_istore (lv' := [(6, .int (m_an (o_found u (xs (nI (6 * r) + 1).toNatClampNeg) (xs (nI (6 * r) + 2).toNatClampNeg) (xs (nI (6 * r) + 3).toNatClampNeg)))), (5, .int (m_cd l_found (o_found u (xs (nI (6 * r) + 1).toNatClampNeg) (xs (nI (6 * r) + 2).toNatClampNeg) (xs (nI (6 * r) + 3).toNatClampNeg)))), (4, .int (nI (6 * r))), (3, .ref 33), (2, .ref 18), (1, .ref 0), (0, .ref 1000002)]) C dL_law_831 hnL (by decide) rfl ?_
  refine mm_aload_n C dL_law_833 rfl 4 rfl ?_
  refine mm_riV (av := []) C 18 sv_L_X3_thrown_88 rfl rfl (kX3_thrown _ _ _ _ _ _ _ _) ⟨rfl, rfl⟩ ⟨mm_nl rfl, mm_nl rfl⟩ rfl rfl (mm_nl rfl) ⟨hc, hs⟩ dL_law_834 ?_
  refine mm_iload C dL_law_837 1 rfl ?_
  refine mm_icmp_eq (tgt := 844) C dL_law_839 (by decide) (fun _ => ?_) (fun z => absurd rfl z)
  refine mm_iload C dL_law_844 1 rfl ?_
  refine mm_if_ne (tgt := 861) C dL_law_846 (by decide) (fun _ => ?_) (fun hz => ?_)
  · refine mm_goto (tgt := 1332) C dL_law_861 (by decide) ?_
    refine mm_lvs (lv' := [(4, .int (nI (6 * r))), (3, .ref 33), (2, .ref 18), (1, .ref 0), (0, .ref 1000002)]) [2, 3, 4, 5, 6] rfl ?_
    obtain ⟨k', c', i', J'⟩ := pr_found J (xs (nI (6 * r) + 1).toNatClampNeg) (xs (nI (6 * r) + 2).toNatClampNeg) (xs (nI (6 * r) + 3).toNatClampNeg)
    exact next _ _ _ _ _ k' c' i' J'
  · refine mm_aload_n C dL_law_849 rfl 3 rfl ?_
    refine mm_iconst (v := 0) C dL_law_850 (by decide) ?_
    refine mm_lald C 33 rfl (vp_in_nI (n := 0) (by decide) (by decide)) dL_law_851 ?_
    refine mm_iload C dL_law_852 0 rfl ?_
    refine mm_i2l C dL_law_854 ?_
    refine mm_lcmp C dL_law_855 ?_
    refine mm_if_eq (tgt := 861) C dL_law_856 (by decide) (fun _ => ?_) (fun z => absurd (ou_eq (l := l_found) (ou_found u (xs (nI (6 * r) + 1).toNatClampNeg) (xs (nI (6 * r) + 2).toNatClampNeg) (xs (nI (6 * r) + 3).toNatClampNeg)) (by decide) hz) z)
    refine mm_goto (tgt := 1332) C dL_law_861 (by decide) ?_
    refine mm_lvs (lv' := [(4, .int (nI (6 * r))), (3, .ref 33), (2, .ref 18), (1, .ref 0), (0, .ref 1000002)]) [2, 3, 4, 5, 6] rfl ?_
    obtain ⟨k', c', i', J'⟩ := pr_found J (xs (nI (6 * r) + 1).toNatClampNeg) (xs (nI (6 * r) + 2).toNatClampNeg) (xs (nI (6 * r) + 3).toNatClampNeg)
    exact next _ _ _ _ _ k' c' i' J'
theorem sw_L_send : mm_SW RL 128 yL_send cL_send 6 (some .int) [(0, 12, 15, 13), (0, 12, 19, 27), (0, 12, 23, 15)] 5 := ⟨tw403, tw404, tw0, tw405, ⟨by decide +kernel, by decide +kernel, by decide +kernel⟩⟩
set_option maxHeartbeats 4000000 in
set_option maxRecDepth 100000 in
theorem lw_send {g : mm_g} {ad : mm_A} {cells slots r L : Nat} {xs : Nat → Int32} {u : ks_S} {t : Int32} {ck cw : Nat → Int32} {f : Nat → Int64} {k c i : Nat} (C : lw_C g ad) (hnL : mm_nL g = 7) (hS : mm_Sx g ad L xs) (hr : 6 * r + 6 ≤ L) (hL : L ≤ 3072) (hc : cells + 4 ≤ 601024) (hs : slots + 24 ≤ 7293034) (J : ms_I u ck cw k c i)
    (next : ∀ (u' : ks_S) (t' : Int32) (ck' cw' : Nat → Int32) (f' : Nat → Int64) (k' c' i' : Nat), ms_I u' ck' cw' k' c' i' → mm_M g ad (cells + 4) (slots + 24) (lw_H u' u' t' ck' cw' f') 1332 [(4, .int (nI (6 * r))), (3, .ref 33), (2, .ref 18), (1, .ref 0), (0, .ref 1000002)] []) : mm_M g ad cells slots (lw_H u u t ck cw f) 864 [(4, .int (nI (6 * r))), (3, .ref 33), (2, .ref 18), (1, .ref 0), (0, .ref 1000002)] [] := by
  refine mm_aload_n C dL_law_864 rfl 3 rfl ?_
  refine mm_aload_n C dL_law_865 rfl 4 rfl ?_
  refine mm_iload C dL_law_866 0 rfl ?_
  refine mm_iconst (v := 1) C dL_law_868 (by decide) ?_
  refine mm_iadd C dL_law_869 ?_
  refine mm_sald C hS (ix_s (j := 1) (by omega) hL rfl) dL_law_870 ?_
  refine mm_aload_n C dL_law_871 rfl 4 rfl ?_
  refine mm_iload C dL_law_872 0 rfl ?_
  refine mm_iconst (v := 2) C dL_law_874 (by decide) ?_
  refine mm_iadd C dL_law_875 ?_
  refine mm_sald C hS (ix_s (j := 2) (by omega) hL rfl) dL_law_876 ?_
  refine mm_aload_n C dL_law_877 rfl 4 rfl ?_
  refine mm_iload C dL_law_878 0 rfl ?_
  refine mm_iconst (v := 3) C dL_law_880 (by decide) ?_
  refine mm_iadd C dL_law_881 ?_
  refine mm_sald C hS (ix_s (j := 3) (by omega) hL rfl) dL_law_882 ?_
  refine mm_aload_n C dL_law_883 rfl 1 rfl ?_
  refine mm_callSW (hh := [(0, 12, 15, 13), (0, 12, 19, 27), (0, 12, 23, 15)]) (av := [.ref 0, .int (xs (nI (6 * r) + 1).toNatClampNeg), .int (xs (nI (6 * r) + 2).toNatClampNeg), .int (xs (nI (6 * r) + 3).toNatClampNeg), .ref 33]) C (mm_gS sw_L_send.1 sw_L_send.2.1 sw_L_send.2.2.1 sw_L_send.2.2.2.1) (sw_L_send.2.2.2.2) (kL_send _ _ u u t ck cw f (xs (nI (6 * r) + 1).toNatClampNeg) (xs (nI (6 * r) + 2).toNatClampNeg) (xs (nI (6 * r) + 3).toNatClampNeg) k c i J.1) 5 rfl rfl rfl ⟨mm_nl rfl, mm_nl rfl⟩ rfl rfl (mm_nl rfl) dL_law_884 ⟨hc, hs⟩ (fun v hp' h' _ => ?_)
  obtain ⟨rfl, rfl⟩ := h'
  refine mm_istore (lv' := [(5, .int (m_cd l_send (o_send u (xs (nI (6 * r) + 1).toNatClampNeg) (xs (nI (6 * r) + 2).toNatClampNeg) (xs (nI (6 * r) + 3).toNatClampNeg)))), (4, .int (nI (6 * r))), (3, .ref 33), (2, .ref 18), (1, .ref 0), (0, .ref 1000002)]) C dL_law_887 hnL (by decide) rfl ?_
  refine mm_aload_n C dL_law_889 rfl 3 rfl ?_
  refine mm_aload_n C dL_law_890 rfl 5 rfl ?_
  refine mm_iload C dL_law_891 1 rfl ?_
  refine mm_iconst (v := 1) C dL_law_893 (by decide) ?_
  refine mm_iadd C dL_law_894 ?_
  refine mm_sald C hS (ix_s (j := 1) (by omega) hL rfl) dL_law_895 ?_
  refine mm_aload_n C dL_law_896 rfl 5 rfl ?_
  refine mm_iload C dL_law_897 1 rfl ?_
  refine mm_iconst (v := 2) C dL_law_899 (by decide) ?_
  refine mm_iadd C dL_law_900 ?_
  refine mm_sald C hS (ix_s (j := 2) (by omega) hL rfl) dL_law_901 ?_
  refine mm_aload_n C dL_law_902 rfl 5 rfl ?_
  refine mm_iload C dL_law_903 1 rfl ?_
  refine mm_iconst (v := 3) C dL_law_905 (by decide) ?_
  refine mm_iadd C dL_law_906 ?_
  refine mm_sald C hS (ix_s (j := 3) (by omega) hL rfl) dL_law_907 ?_
  refine mm_riV (av := [.int (xs (nI (6 * r) + 1).toNatClampNeg), .int (xs (nI (6 * r) + 2).toNatClampNeg), .int (xs (nI (6 * r) + 3).toNatClampNeg)]) C 18 sv_L_X3_send_130 rfl rfl (kX3_send _ _ _ u _ ck cw _ (xs (nI (6 * r) + 1).toNatClampNeg) (xs (nI (6 * r) + 2).toNatClampNeg) (xs (nI (6 * r) + 3).toNatClampNeg) k c i J) ⟨rfl, rfl⟩ ⟨mm_nl rfl, mm_nl rfl⟩ rfl rfl (mm_nl rfl) ⟨hc, hs⟩ dL_law_908 ?_
  refine mm_istore (lv' := [(6, .int (m_an (o_send u (xs (nI (6 * r) + 1).toNatClampNeg) (xs (nI (6 * r) + 2).toNatClampNeg) (xs (nI (6 * r) + 3).toNatClampNeg)))), (5, .int (m_cd l_send (o_send u (xs (nI (6 * r) + 1).toNatClampNeg) (xs (nI (6 * r) + 2).toNatClampNeg) (xs (nI (6 * r) + 3).toNatClampNeg)))), (4, .int (nI (6 * r))), (3, .ref 33), (2, .ref 18), (1, .ref 0), (0, .ref 1000002)]) C dL_law_911 hnL (by decide) rfl ?_
  refine mm_aload_n C dL_law_913 rfl 4 rfl ?_
  refine mm_riV (av := []) C 18 sv_L_X3_thrown_88 rfl rfl (kX3_thrown _ _ _ _ _ _ _ _) ⟨rfl, rfl⟩ ⟨mm_nl rfl, mm_nl rfl⟩ rfl rfl (mm_nl rfl) ⟨hc, hs⟩ dL_law_914 ?_
  refine mm_iload C dL_law_917 1 rfl ?_
  refine mm_icmp_eq (tgt := 924) C dL_law_919 (by decide) (fun _ => ?_) (fun z => absurd rfl z)
  refine mm_iload C dL_law_924 1 rfl ?_
  refine mm_if_ne (tgt := 941) C dL_law_926 (by decide) (fun _ => ?_) (fun hz => ?_)
  · refine mm_goto (tgt := 1332) C dL_law_941 (by decide) ?_
    refine mm_lvs (lv' := [(4, .int (nI (6 * r))), (3, .ref 33), (2, .ref 18), (1, .ref 0), (0, .ref 1000002)]) [2, 3, 4, 5, 6] rfl ?_
    obtain ⟨k', c', i', J'⟩ := pr_send J (xs (nI (6 * r) + 1).toNatClampNeg) (xs (nI (6 * r) + 2).toNatClampNeg) (xs (nI (6 * r) + 3).toNatClampNeg)
    exact next _ _ _ _ _ k' c' i' J'
  · refine mm_aload_n C dL_law_929 rfl 3 rfl ?_
    refine mm_iconst (v := 0) C dL_law_930 (by decide) ?_
    refine mm_lald C 33 rfl (vp_in_nI (n := 0) (by decide) (by decide)) dL_law_931 ?_
    refine mm_iload C dL_law_932 0 rfl ?_
    refine mm_i2l C dL_law_934 ?_
    refine mm_lcmp C dL_law_935 ?_
    refine mm_if_eq (tgt := 941) C dL_law_936 (by decide) (fun _ => ?_) (fun z => absurd (ou_eq (l := l_send) (ou_send u (xs (nI (6 * r) + 1).toNatClampNeg) (xs (nI (6 * r) + 2).toNatClampNeg) (xs (nI (6 * r) + 3).toNatClampNeg)) (by decide) hz) z)
    refine mm_goto (tgt := 1332) C dL_law_941 (by decide) ?_
    refine mm_lvs (lv' := [(4, .int (nI (6 * r))), (3, .ref 33), (2, .ref 18), (1, .ref 0), (0, .ref 1000002)]) [2, 3, 4, 5, 6] rfl ?_
    obtain ⟨k', c', i', J'⟩ := pr_send J (xs (nI (6 * r) + 1).toNatClampNeg) (xs (nI (6 * r) + 2).toNatClampNeg) (xs (nI (6 * r) + 3).toNatClampNeg)
    exact next _ _ _ _ _ k' c' i' J'
theorem sw_L_missing : mm_SW RL 131 yL_missing cL_missing 6 (some .int) [(0, 12, 15, 13), (0, 12, 19, 27)] 5 := ⟨tw410, tw411, tw0, tw412, ⟨by decide +kernel, by decide +kernel, by decide +kernel⟩⟩
set_option maxHeartbeats 4000000 in
set_option maxRecDepth 100000 in
theorem lw_missing {g : mm_g} {ad : mm_A} {cells slots r L : Nat} {xs : Nat → Int32} {u : ks_S} {t : Int32} {ck cw : Nat → Int32} {f : Nat → Int64} {k c i : Nat} (C : lw_C g ad) (hnL : mm_nL g = 7) (hS : mm_Sx g ad L xs) (hr : 6 * r + 6 ≤ L) (hL : L ≤ 3072) (hc : cells + 4 ≤ 601024) (hs : slots + 24 ≤ 7293034) (J : ms_I u ck cw k c i)
    (next : ∀ (u' : ks_S) (t' : Int32) (ck' cw' : Nat → Int32) (f' : Nat → Int64) (k' c' i' : Nat), ms_I u' ck' cw' k' c' i' → mm_M g ad (cells + 4) (slots + 24) (lw_H u' u' t' ck' cw' f') 1332 [(4, .int (nI (6 * r))), (3, .ref 33), (2, .ref 18), (1, .ref 0), (0, .ref 1000002)] []) : mm_M g ad cells slots (lw_H u u t ck cw f) 944 [(4, .int (nI (6 * r))), (3, .ref 33), (2, .ref 18), (1, .ref 0), (0, .ref 1000002)] [] := by
  refine mm_aload_n C dL_law_944 rfl 3 rfl ?_
  refine mm_aload_n C dL_law_945 rfl 4 rfl ?_
  refine mm_iload C dL_law_946 0 rfl ?_
  refine mm_iconst (v := 1) C dL_law_948 (by decide) ?_
  refine mm_iadd C dL_law_949 ?_
  refine mm_sald C hS (ix_s (j := 1) (by omega) hL rfl) dL_law_950 ?_
  refine mm_aload_n C dL_law_951 rfl 4 rfl ?_
  refine mm_iload C dL_law_952 0 rfl ?_
  refine mm_iconst (v := 2) C dL_law_954 (by decide) ?_
  refine mm_iadd C dL_law_955 ?_
  refine mm_sald C hS (ix_s (j := 2) (by omega) hL rfl) dL_law_956 ?_
  refine mm_aload_n C dL_law_957 rfl 4 rfl ?_
  refine mm_iload C dL_law_958 0 rfl ?_
  refine mm_iconst (v := 3) C dL_law_960 (by decide) ?_
  refine mm_iadd C dL_law_961 ?_
  refine mm_sald C hS (ix_s (j := 3) (by omega) hL rfl) dL_law_962 ?_
  refine mm_aload_n C dL_law_963 rfl 1 rfl ?_
  refine mm_callSW (hh := [(0, 12, 15, 13), (0, 12, 19, 27)]) (av := [.ref 0, .int (xs (nI (6 * r) + 1).toNatClampNeg), .int (xs (nI (6 * r) + 2).toNatClampNeg), .int (xs (nI (6 * r) + 3).toNatClampNeg), .ref 33]) C (mm_gS sw_L_missing.1 sw_L_missing.2.1 sw_L_missing.2.2.1 sw_L_missing.2.2.2.1) (sw_L_missing.2.2.2.2) (kL_missing _ _ u u t ck cw f (xs (nI (6 * r) + 1).toNatClampNeg) (xs (nI (6 * r) + 2).toNatClampNeg) (xs (nI (6 * r) + 3).toNatClampNeg) k c i J.1) 5 rfl rfl rfl ⟨mm_nl rfl, mm_nl rfl⟩ rfl rfl (mm_nl rfl) dL_law_964 ⟨hc, hs⟩ (fun v hp' h' _ => ?_)
  obtain ⟨rfl, rfl⟩ := h'
  refine mm_istore (lv' := [(5, .int (m_cd l_missing (o_missing u c (xs (nI (6 * r) + 1).toNatClampNeg) (xs (nI (6 * r) + 2).toNatClampNeg) (xs (nI (6 * r) + 3).toNatClampNeg)))), (4, .int (nI (6 * r))), (3, .ref 33), (2, .ref 18), (1, .ref 0), (0, .ref 1000002)]) C dL_law_967 hnL (by decide) rfl ?_
  refine mm_aload_n C dL_law_969 rfl 3 rfl ?_
  refine mm_aload_n C dL_law_970 rfl 5 rfl ?_
  refine mm_iload C dL_law_971 1 rfl ?_
  refine mm_iconst (v := 1) C dL_law_973 (by decide) ?_
  refine mm_iadd C dL_law_974 ?_
  refine mm_sald C hS (ix_s (j := 1) (by omega) hL rfl) dL_law_975 ?_
  refine mm_aload_n C dL_law_976 rfl 5 rfl ?_
  refine mm_iload C dL_law_977 1 rfl ?_
  refine mm_iconst (v := 2) C dL_law_979 (by decide) ?_
  refine mm_iadd C dL_law_980 ?_
  refine mm_sald C hS (ix_s (j := 2) (by omega) hL rfl) dL_law_981 ?_
  refine mm_aload_n C dL_law_982 rfl 5 rfl ?_
  refine mm_iload C dL_law_983 1 rfl ?_
  refine mm_iconst (v := 3) C dL_law_985 (by decide) ?_
  refine mm_iadd C dL_law_986 ?_
  refine mm_sald C hS (ix_s (j := 3) (by omega) hL rfl) dL_law_987 ?_
  refine mm_riV (av := [.int (xs (nI (6 * r) + 1).toNatClampNeg), .int (xs (nI (6 * r) + 2).toNatClampNeg), .int (xs (nI (6 * r) + 3).toNatClampNeg)]) C 18 sv_L_X3_missing_133 rfl rfl (kX3_missing _ _ _ u _ ck cw _ (xs (nI (6 * r) + 1).toNatClampNeg) (xs (nI (6 * r) + 2).toNatClampNeg) (xs (nI (6 * r) + 3).toNatClampNeg) k c i J) ⟨rfl, rfl⟩ ⟨mm_nl rfl, mm_nl rfl⟩ rfl rfl (mm_nl rfl) ⟨hc, hs⟩ dL_law_988 ?_
  refine mm_istore (lv' := [(6, .int (m_an (o_missing u c (xs (nI (6 * r) + 1).toNatClampNeg) (xs (nI (6 * r) + 2).toNatClampNeg) (xs (nI (6 * r) + 3).toNatClampNeg)))), (5, .int (m_cd l_missing (o_missing u c (xs (nI (6 * r) + 1).toNatClampNeg) (xs (nI (6 * r) + 2).toNatClampNeg) (xs (nI (6 * r) + 3).toNatClampNeg)))), (4, .int (nI (6 * r))), (3, .ref 33), (2, .ref 18), (1, .ref 0), (0, .ref 1000002)]) C dL_law_991 hnL (by decide) rfl ?_
  refine mm_aload_n C dL_law_993 rfl 4 rfl ?_
  refine mm_riV (av := []) C 18 sv_L_X3_thrown_88 rfl rfl (kX3_thrown _ _ _ _ _ _ _ _) ⟨rfl, rfl⟩ ⟨mm_nl rfl, mm_nl rfl⟩ rfl rfl (mm_nl rfl) ⟨hc, hs⟩ dL_law_994 ?_
  refine mm_iload C dL_law_997 1 rfl ?_
  refine mm_icmp_eq (tgt := 1004) C dL_law_999 (by decide) (fun _ => ?_) (fun z => absurd rfl z)
  refine mm_iload C dL_law_1004 1 rfl ?_
  refine mm_if_ne (tgt := 1021) C dL_law_1006 (by decide) (fun _ => ?_) (fun hz => ?_)
  · refine mm_goto (tgt := 1332) C dL_law_1021 (by decide) ?_
    refine mm_lvs (lv' := [(4, .int (nI (6 * r))), (3, .ref 33), (2, .ref 18), (1, .ref 0), (0, .ref 1000002)]) [2, 3, 4, 5, 6] rfl ?_
    obtain ⟨k', c', i', J'⟩ := pr_missing J (xs (nI (6 * r) + 1).toNatClampNeg) (xs (nI (6 * r) + 2).toNatClampNeg) (xs (nI (6 * r) + 3).toNatClampNeg)
    exact next _ _ _ _ _ k' c' i' J'
  · refine mm_aload_n C dL_law_1009 rfl 3 rfl ?_
    refine mm_iconst (v := 0) C dL_law_1010 (by decide) ?_
    refine mm_lald C 33 rfl (vp_in_nI (n := 0) (by decide) (by decide)) dL_law_1011 ?_
    refine mm_iload C dL_law_1012 0 rfl ?_
    refine mm_i2l C dL_law_1014 ?_
    refine mm_lcmp C dL_law_1015 ?_
    refine mm_if_eq (tgt := 1021) C dL_law_1016 (by decide) (fun _ => ?_) (fun z => absurd (ou_eq (l := l_missing) (ou_missing u c (xs (nI (6 * r) + 1).toNatClampNeg) (xs (nI (6 * r) + 2).toNatClampNeg) (xs (nI (6 * r) + 3).toNatClampNeg)) (by decide) hz) z)
    refine mm_goto (tgt := 1332) C dL_law_1021 (by decide) ?_
    refine mm_lvs (lv' := [(4, .int (nI (6 * r))), (3, .ref 33), (2, .ref 18), (1, .ref 0), (0, .ref 1000002)]) [2, 3, 4, 5, 6] rfl ?_
    obtain ⟨k', c', i', J'⟩ := pr_missing J (xs (nI (6 * r) + 1).toNatClampNeg) (xs (nI (6 * r) + 2).toNatClampNeg) (xs (nI (6 * r) + 3).toNatClampNeg)
    exact next _ _ _ _ _ k' c' i' J'
theorem sw_L_incident : mm_SW RL 134 yL_incident cL_incident 5 (some .int) [(0, 10, 13, 13)] 4 := ⟨tw417, tw418, tw0, tw419, ⟨by decide +kernel, by decide +kernel, by decide +kernel⟩⟩
set_option maxHeartbeats 4000000 in
set_option maxRecDepth 100000 in
theorem lw_incident {g : mm_g} {ad : mm_A} {cells slots r L : Nat} {xs : Nat → Int32} {u : ks_S} {t : Int32} {ck cw : Nat → Int32} {f : Nat → Int64} {k c i : Nat} (C : lw_C g ad) (hnL : mm_nL g = 7) (hS : mm_Sx g ad L xs) (hr : 6 * r + 6 ≤ L) (hL : L ≤ 3072) (hc : cells + 4 ≤ 601024) (hs : slots + 24 ≤ 7293034) (J : ms_I u ck cw k c i)
    (next : ∀ (u' : ks_S) (t' : Int32) (ck' cw' : Nat → Int32) (f' : Nat → Int64) (k' c' i' : Nat), ms_I u' ck' cw' k' c' i' → mm_M g ad (cells + 4) (slots + 24) (lw_H u' u' t' ck' cw' f') 1332 [(4, .int (nI (6 * r))), (3, .ref 33), (2, .ref 18), (1, .ref 0), (0, .ref 1000002)] []) : mm_M g ad cells slots (lw_H u u t ck cw f) 1024 [(4, .int (nI (6 * r))), (3, .ref 33), (2, .ref 18), (1, .ref 0), (0, .ref 1000002)] [] := by
  refine mm_aload_n C dL_law_1024 rfl 3 rfl ?_
  refine mm_aload_n C dL_law_1025 rfl 4 rfl ?_
  refine mm_iload C dL_law_1026 0 rfl ?_
  refine mm_iconst (v := 1) C dL_law_1028 (by decide) ?_
  refine mm_iadd C dL_law_1029 ?_
  refine mm_sald C hS (ix_s (j := 1) (by omega) hL rfl) dL_law_1030 ?_
  refine mm_aload_n C dL_law_1031 rfl 4 rfl ?_
  refine mm_iload C dL_law_1032 0 rfl ?_
  refine mm_iconst (v := 2) C dL_law_1034 (by decide) ?_
  refine mm_iadd C dL_law_1035 ?_
  refine mm_sald C hS (ix_s (j := 2) (by omega) hL rfl) dL_law_1036 ?_
  refine mm_aload_n C dL_law_1037 rfl 1 rfl ?_
  refine mm_callSW (hh := [(0, 10, 13, 13)]) (av := [.ref 0, .int (xs (nI (6 * r) + 1).toNatClampNeg), .int (xs (nI (6 * r) + 2).toNatClampNeg), .ref 33]) C (mm_gS sw_L_incident.1 sw_L_incident.2.1 sw_L_incident.2.2.1 sw_L_incident.2.2.2.1) (sw_L_incident.2.2.2.2) (kL_incident _ _ u u t ck cw f (xs (nI (6 * r) + 1).toNatClampNeg) (xs (nI (6 * r) + 2).toNatClampNeg) k c i J.1) 4 rfl rfl rfl ⟨mm_nl rfl, mm_nl rfl⟩ rfl rfl (mm_nl rfl) dL_law_1038 ⟨hc, hs⟩ (fun v hp' h' _ => ?_)
  obtain ⟨rfl, rfl⟩ := h'
  refine mm_istore (lv' := [(5, .int (m_cd l_incident (o_incident u (xs (nI (6 * r) + 1).toNatClampNeg) (xs (nI (6 * r) + 2).toNatClampNeg)))), (4, .int (nI (6 * r))), (3, .ref 33), (2, .ref 18), (1, .ref 0), (0, .ref 1000002)]) C dL_law_1041 hnL (by decide) rfl ?_
  refine mm_aload_n C dL_law_1043 rfl 3 rfl ?_
  refine mm_aload_n C dL_law_1044 rfl 5 rfl ?_
  refine mm_iload C dL_law_1045 1 rfl ?_
  refine mm_iconst (v := 1) C dL_law_1047 (by decide) ?_
  refine mm_iadd C dL_law_1048 ?_
  refine mm_sald C hS (ix_s (j := 1) (by omega) hL rfl) dL_law_1049 ?_
  refine mm_aload_n C dL_law_1050 rfl 5 rfl ?_
  refine mm_iload C dL_law_1051 1 rfl ?_
  refine mm_iconst (v := 2) C dL_law_1053 (by decide) ?_
  refine mm_iadd C dL_law_1054 ?_
  refine mm_sald C hS (ix_s (j := 2) (by omega) hL rfl) dL_law_1055 ?_
  refine mm_riV (av := [.int (xs (nI (6 * r) + 1).toNatClampNeg), .int (xs (nI (6 * r) + 2).toNatClampNeg)]) C 18 sv_L_X3_incident_136 rfl rfl (kX3_incident _ _ _ u _ ck cw _ (xs (nI (6 * r) + 1).toNatClampNeg) (xs (nI (6 * r) + 2).toNatClampNeg) k c i J) ⟨rfl, rfl⟩ ⟨mm_nl rfl, mm_nl rfl⟩ rfl rfl (mm_nl rfl) ⟨hc, hs⟩ dL_law_1056 ?_
  refine mm_istore (lv' := [(6, .int (m_an (o_incident u (xs (nI (6 * r) + 1).toNatClampNeg) (xs (nI (6 * r) + 2).toNatClampNeg)))), (5, .int (m_cd l_incident (o_incident u (xs (nI (6 * r) + 1).toNatClampNeg) (xs (nI (6 * r) + 2).toNatClampNeg)))), (4, .int (nI (6 * r))), (3, .ref 33), (2, .ref 18), (1, .ref 0), (0, .ref 1000002)]) C dL_law_1059 hnL (by decide) rfl ?_
  refine mm_aload_n C dL_law_1061 rfl 4 rfl ?_
  refine mm_riV (av := []) C 18 sv_L_X3_thrown_88 rfl rfl (kX3_thrown _ _ _ _ _ _ _ _) ⟨rfl, rfl⟩ ⟨mm_nl rfl, mm_nl rfl⟩ rfl rfl (mm_nl rfl) ⟨hc, hs⟩ dL_law_1062 ?_
  refine mm_iload C dL_law_1065 1 rfl ?_
  refine mm_icmp_eq (tgt := 1072) C dL_law_1067 (by decide) (fun _ => ?_) (fun z => absurd rfl z)
  refine mm_iload C dL_law_1072 1 rfl ?_
  refine mm_if_ne (tgt := 1089) C dL_law_1074 (by decide) (fun _ => ?_) (fun hz => ?_)
  · refine mm_goto (tgt := 1332) C dL_law_1089 (by decide) ?_
    refine mm_lvs (lv' := [(4, .int (nI (6 * r))), (3, .ref 33), (2, .ref 18), (1, .ref 0), (0, .ref 1000002)]) [2, 3, 4, 5, 6] rfl ?_
    obtain ⟨k', c', i', J'⟩ := pr_incident J (xs (nI (6 * r) + 1).toNatClampNeg) (xs (nI (6 * r) + 2).toNatClampNeg)
    exact next _ _ _ _ _ k' c' i' J'
  · refine mm_aload_n C dL_law_1077 rfl 3 rfl ?_
    refine mm_iconst (v := 0) C dL_law_1078 (by decide) ?_
    refine mm_lald C 33 rfl (vp_in_nI (n := 0) (by decide) (by decide)) dL_law_1079 ?_
    refine mm_iload C dL_law_1080 0 rfl ?_
    refine mm_i2l C dL_law_1082 ?_
    refine mm_lcmp C dL_law_1083 ?_
    refine mm_if_eq (tgt := 1089) C dL_law_1084 (by decide) (fun _ => ?_) (fun z => absurd (ou_eq (l := l_incident) (ou_incident u (xs (nI (6 * r) + 1).toNatClampNeg) (xs (nI (6 * r) + 2).toNatClampNeg)) (by decide) hz) z)
    refine mm_goto (tgt := 1332) C dL_law_1089 (by decide) ?_
    refine mm_lvs (lv' := [(4, .int (nI (6 * r))), (3, .ref 33), (2, .ref 18), (1, .ref 0), (0, .ref 1000002)]) [2, 3, 4, 5, 6] rfl ?_
    obtain ⟨k', c', i', J'⟩ := pr_incident J (xs (nI (6 * r) + 1).toNatClampNeg) (xs (nI (6 * r) + 2).toNatClampNeg)
    exact next _ _ _ _ _ k' c' i' J'
theorem sw_L_unit : mm_SW RL 137 yL_unit cL_unit 4 (some .int) [(0, 6, 9, 13), (0, 6, 12, 27)] 3 := ⟨tw424, tw425, tw0, tw426, ⟨by decide +kernel, by decide +kernel, by decide +kernel⟩⟩
set_option maxHeartbeats 4000000 in
set_option maxRecDepth 100000 in
theorem lw_unit {g : mm_g} {ad : mm_A} {cells slots r L : Nat} {xs : Nat → Int32} {u : ks_S} {t : Int32} {ck cw : Nat → Int32} {f : Nat → Int64} {k c i : Nat} (C : lw_C g ad) (hnL : mm_nL g = 7) (hS : mm_Sx g ad L xs) (hr : 6 * r + 6 ≤ L) (hL : L ≤ 3072) (hc : cells + 4 ≤ 601024) (hs : slots + 24 ≤ 7293034) (J : ms_I u ck cw k c i)
    (next : ∀ (u' : ks_S) (t' : Int32) (ck' cw' : Nat → Int32) (f' : Nat → Int64) (k' c' i' : Nat), ms_I u' ck' cw' k' c' i' → mm_M g ad (cells + 4) (slots + 24) (lw_H u' u' t' ck' cw' f') 1332 [(4, .int (nI (6 * r))), (3, .ref 33), (2, .ref 18), (1, .ref 0), (0, .ref 1000002)] []) : mm_M g ad cells slots (lw_H u u t ck cw f) 1092 [(4, .int (nI (6 * r))), (3, .ref 33), (2, .ref 18), (1, .ref 0), (0, .ref 1000002)] [] := by
  refine mm_aload_n C dL_law_1092 rfl 3 rfl ?_
  refine mm_aload_n C dL_law_1093 rfl 4 rfl ?_
  refine mm_iload C dL_law_1094 0 rfl ?_
  refine mm_iconst (v := 1) C dL_law_1096 (by decide) ?_
  refine mm_iadd C dL_law_1097 ?_
  refine mm_sald C hS (ix_s (j := 1) (by omega) hL rfl) dL_law_1098 ?_
  refine mm_aload_n C dL_law_1099 rfl 4 rfl ?_
  refine mm_iload C dL_law_1100 0 rfl ?_
  refine mm_iconst (v := 2) C dL_law_1102 (by decide) ?_
  refine mm_iadd C dL_law_1103 ?_
  refine mm_sald C hS (ix_s (j := 2) (by omega) hL rfl) dL_law_1104 ?_
  refine mm_callSW (hh := [(0, 6, 9, 13), (0, 6, 12, 27)]) (av := [.ref 0, .int (xs (nI (6 * r) + 1).toNatClampNeg), .int (xs (nI (6 * r) + 2).toNatClampNeg)]) C (mm_gS sw_L_unit.1 sw_L_unit.2.1 sw_L_unit.2.2.1 sw_L_unit.2.2.2.1) (sw_L_unit.2.2.2.2) (kL_unit _ _ u u t ck cw f (xs (nI (6 * r) + 1).toNatClampNeg) (xs (nI (6 * r) + 2).toNatClampNeg) k c i J.1) 3 rfl rfl rfl ⟨mm_nl rfl, mm_nl rfl⟩ rfl rfl (mm_nl rfl) dL_law_1105 ⟨hc, hs⟩ (fun v hp' h' _ => ?_)
  obtain ⟨rfl, rfl⟩ := h'
  refine mm_istore (lv' := [(5, .int (m_cd l_unit (o_unit u (xs (nI (6 * r) + 1).toNatClampNeg) (xs (nI (6 * r) + 2).toNatClampNeg)))), (4, .int (nI (6 * r))), (3, .ref 33), (2, .ref 18), (1, .ref 0), (0, .ref 1000002)]) C dL_law_1108 hnL (by decide) rfl ?_
  refine mm_aload_n C dL_law_1110 rfl 3 rfl ?_
  refine mm_aload_n C dL_law_1111 rfl 5 rfl ?_
  refine mm_iload C dL_law_1112 1 rfl ?_
  refine mm_iconst (v := 1) C dL_law_1114 (by decide) ?_
  refine mm_iadd C dL_law_1115 ?_
  refine mm_sald C hS (ix_s (j := 1) (by omega) hL rfl) dL_law_1116 ?_
  refine mm_aload_n C dL_law_1117 rfl 5 rfl ?_
  refine mm_iload C dL_law_1118 1 rfl ?_
  refine mm_iconst (v := 2) C dL_law_1120 (by decide) ?_
  refine mm_iadd C dL_law_1121 ?_
  refine mm_sald C hS (ix_s (j := 2) (by omega) hL rfl) dL_law_1122 ?_
  refine mm_rvV (av := [.int (xs (nI (6 * r) + 1).toNatClampNeg), .int (xs (nI (6 * r) + 2).toNatClampNeg)]) C 18 sv_L_X3_unit_139 rfl rfl (kX3_unit _ _ _ u _ ck cw _ (xs (nI (6 * r) + 1).toNatClampNeg) (xs (nI (6 * r) + 2).toNatClampNeg) k c i J) ⟨rfl, rfl⟩ ⟨mm_nl rfl, mm_nl rfl⟩ rfl rfl (mm_nl rfl) ⟨hc, hs⟩ dL_law_1123 ?_
  refine mm_aload_n C dL_law_1126 rfl 3 rfl ?_
  refine mm_riV (av := []) C 18 sv_L_X3_thrown_88 rfl rfl (kX3_thrown _ _ _ _ _ _ _ _) ⟨rfl, rfl⟩ ⟨mm_nl rfl, mm_nl rfl⟩ rfl rfl (mm_nl rfl) ⟨hc, hs⟩ dL_law_1127 ?_
  refine mm_iload C dL_law_1130 0 rfl ?_
  refine mm_icmp_eq (tgt := 1137) C dL_law_1132 (by decide) (fun _ => ?_) (fun z => absurd rfl z)
  refine mm_goto (tgt := 1332) C dL_law_1137 (by decide) ?_
  refine mm_lvs (lv' := [(4, .int (nI (6 * r))), (3, .ref 33), (2, .ref 18), (1, .ref 0), (0, .ref 1000002)]) [1, 2, 3, 4, 5] rfl ?_
  obtain ⟨k', c', i', J'⟩ := pr_unit J (xs (nI (6 * r) + 1).toNatClampNeg) (xs (nI (6 * r) + 2).toNatClampNeg)
  exact next _ _ _ _ _ k' c' i' J'
theorem sw_L_uncovered : mm_SW RL 140 yL_uncovered cL_uncovered 5 (some .int) [(0, 10, 13, 27)] 4 := ⟨tw432, tw433, tw0, tw434, ⟨by decide +kernel, by decide +kernel, by decide +kernel⟩⟩
set_option maxHeartbeats 4000000 in
set_option maxRecDepth 100000 in
theorem lw_uncovered {g : mm_g} {ad : mm_A} {cells slots r L : Nat} {xs : Nat → Int32} {u : ks_S} {t : Int32} {ck cw : Nat → Int32} {f : Nat → Int64} {k c i : Nat} (C : lw_C g ad) (hnL : mm_nL g = 7) (hS : mm_Sx g ad L xs) (hr : 6 * r + 6 ≤ L) (hL : L ≤ 3072) (hc : cells + 4 ≤ 601024) (hs : slots + 24 ≤ 7293034) (J : ms_I u ck cw k c i)
    (next : ∀ (u' : ks_S) (t' : Int32) (ck' cw' : Nat → Int32) (f' : Nat → Int64) (k' c' i' : Nat), ms_I u' ck' cw' k' c' i' → mm_M g ad (cells + 4) (slots + 24) (lw_H u' u' t' ck' cw' f') 1332 [(4, .int (nI (6 * r))), (3, .ref 33), (2, .ref 18), (1, .ref 0), (0, .ref 1000002)] []) : mm_M g ad cells slots (lw_H u u t ck cw f) 1140 [(4, .int (nI (6 * r))), (3, .ref 33), (2, .ref 18), (1, .ref 0), (0, .ref 1000002)] [] := by
  refine mm_aload_n C dL_law_1140 rfl 3 rfl ?_
  refine mm_aload_n C dL_law_1141 rfl 4 rfl ?_
  refine mm_iload C dL_law_1142 0 rfl ?_
  refine mm_iconst (v := 1) C dL_law_1144 (by decide) ?_
  refine mm_iadd C dL_law_1145 ?_
  refine mm_sald C hS (ix_s (j := 1) (by omega) hL rfl) dL_law_1146 ?_
  refine mm_aload_n C dL_law_1147 rfl 4 rfl ?_
  refine mm_iload C dL_law_1148 0 rfl ?_
  refine mm_iconst (v := 2) C dL_law_1150 (by decide) ?_
  refine mm_iadd C dL_law_1151 ?_
  refine mm_sald C hS (ix_s (j := 2) (by omega) hL rfl) dL_law_1152 ?_
  refine mm_aload_n C dL_law_1153 rfl 1 rfl ?_
  refine mm_callSW (hh := [(0, 10, 13, 27)]) (av := [.ref 0, .int (xs (nI (6 * r) + 1).toNatClampNeg), .int (xs (nI (6 * r) + 2).toNatClampNeg), .ref 33]) C (mm_gS sw_L_uncovered.1 sw_L_uncovered.2.1 sw_L_uncovered.2.2.1 sw_L_uncovered.2.2.2.1) (sw_L_uncovered.2.2.2.2) (kL_uncovered _ _ u u t ck cw f (xs (nI (6 * r) + 1).toNatClampNeg) (xs (nI (6 * r) + 2).toNatClampNeg) k c i J.1) 4 rfl rfl rfl ⟨mm_nl rfl, mm_nl rfl⟩ rfl rfl (mm_nl rfl) dL_law_1154 ⟨hc, hs⟩ (fun v hp' h' _ => ?_)
  obtain ⟨rfl, rfl⟩ := h'
  refine mm_istore (lv' := [(5, .int (m_cd l_uncovered (o_uncovered u k c (xs (nI (6 * r) + 1).toNatClampNeg) (xs (nI (6 * r) + 2).toNatClampNeg)))), (4, .int (nI (6 * r))), (3, .ref 33), (2, .ref 18), (1, .ref 0), (0, .ref 1000002)]) C dL_law_1157 hnL (by decide) rfl ?_
  refine mm_aload_n C dL_law_1159 rfl 3 rfl ?_
  refine mm_aload_n C dL_law_1160 rfl 5 rfl ?_
  refine mm_iload C dL_law_1161 1 rfl ?_
  refine mm_iconst (v := 1) C dL_law_1163 (by decide) ?_
  refine mm_iadd C dL_law_1164 ?_
  refine mm_sald C hS (ix_s (j := 1) (by omega) hL rfl) dL_law_1165 ?_
  refine mm_aload_n C dL_law_1166 rfl 5 rfl ?_
  refine mm_iload C dL_law_1167 1 rfl ?_
  refine mm_iconst (v := 2) C dL_law_1169 (by decide) ?_
  refine mm_iadd C dL_law_1170 ?_
  refine mm_sald C hS (ix_s (j := 2) (by omega) hL rfl) dL_law_1171 ?_
  refine mm_riV (av := [.int (xs (nI (6 * r) + 1).toNatClampNeg), .int (xs (nI (6 * r) + 2).toNatClampNeg)]) C 18 sv_L_X3_uncovered_142 rfl rfl (kX3_uncovered _ _ _ u _ ck cw _ (xs (nI (6 * r) + 1).toNatClampNeg) (xs (nI (6 * r) + 2).toNatClampNeg) k c i J) ⟨rfl, rfl⟩ ⟨mm_nl rfl, mm_nl rfl⟩ rfl rfl (mm_nl rfl) ⟨hc, hs⟩ dL_law_1172 ?_
  refine mm_istore (lv' := [(6, .int (m_an (o_uncovered u k c (xs (nI (6 * r) + 1).toNatClampNeg) (xs (nI (6 * r) + 2).toNatClampNeg)))), (5, .int (m_cd l_uncovered (o_uncovered u k c (xs (nI (6 * r) + 1).toNatClampNeg) (xs (nI (6 * r) + 2).toNatClampNeg)))), (4, .int (nI (6 * r))), (3, .ref 33), (2, .ref 18), (1, .ref 0), (0, .ref 1000002)]) C dL_law_1175 hnL (by decide) rfl ?_
  refine mm_aload_n C dL_law_1177 rfl 4 rfl ?_
  refine mm_riV (av := []) C 18 sv_L_X3_thrown_88 rfl rfl (kX3_thrown _ _ _ _ _ _ _ _) ⟨rfl, rfl⟩ ⟨mm_nl rfl, mm_nl rfl⟩ rfl rfl (mm_nl rfl) ⟨hc, hs⟩ dL_law_1178 ?_
  refine mm_iload C dL_law_1181 1 rfl ?_
  refine mm_icmp_eq (tgt := 1188) C dL_law_1183 (by decide) (fun _ => ?_) (fun z => absurd rfl z)
  refine mm_iload C dL_law_1188 1 rfl ?_
  refine mm_if_ne (tgt := 1205) C dL_law_1190 (by decide) (fun _ => ?_) (fun hz => ?_)
  · refine mm_goto (tgt := 1332) C dL_law_1205 (by decide) ?_
    refine mm_lvs (lv' := [(4, .int (nI (6 * r))), (3, .ref 33), (2, .ref 18), (1, .ref 0), (0, .ref 1000002)]) [2, 3, 4, 5, 6] rfl ?_
    obtain ⟨k', c', i', J'⟩ := pr_uncovered J (xs (nI (6 * r) + 1).toNatClampNeg) (xs (nI (6 * r) + 2).toNatClampNeg)
    exact next _ _ _ _ _ k' c' i' J'
  · refine mm_aload_n C dL_law_1193 rfl 3 rfl ?_
    refine mm_iconst (v := 0) C dL_law_1194 (by decide) ?_
    refine mm_lald C 33 rfl (vp_in_nI (n := 0) (by decide) (by decide)) dL_law_1195 ?_
    refine mm_iload C dL_law_1196 0 rfl ?_
    refine mm_i2l C dL_law_1198 ?_
    refine mm_lcmp C dL_law_1199 ?_
    refine mm_if_eq (tgt := 1205) C dL_law_1200 (by decide) (fun _ => ?_) (fun z => absurd (ou_eq (l := l_uncovered) (ou_uncovered u k c (xs (nI (6 * r) + 1).toNatClampNeg) (xs (nI (6 * r) + 2).toNatClampNeg)) (by decide) hz) z)
    refine mm_goto (tgt := 1332) C dL_law_1205 (by decide) ?_
    refine mm_lvs (lv' := [(4, .int (nI (6 * r))), (3, .ref 33), (2, .ref 18), (1, .ref 0), (0, .ref 1000002)]) [2, 3, 4, 5, 6] rfl ?_
    obtain ⟨k', c', i', J'⟩ := pr_uncovered J (xs (nI (6 * r) + 1).toNatClampNeg) (xs (nI (6 * r) + 2).toNatClampNeg)
    exact next _ _ _ _ _ k' c' i' J'
theorem sw_L_coded : mm_SW RL 143 yL_coded cL_coded 5 (some .int) [(0, 10, 13, 27)] 4 := ⟨tw447, tw448, tw0, tw449, ⟨by decide +kernel, by decide +kernel, by decide +kernel⟩⟩
set_option maxHeartbeats 4000000 in
set_option maxRecDepth 100000 in
theorem lw_coded {g : mm_g} {ad : mm_A} {cells slots r L : Nat} {xs : Nat → Int32} {u : ks_S} {t : Int32} {ck cw : Nat → Int32} {f : Nat → Int64} {k c i : Nat} (C : lw_C g ad) (hnL : mm_nL g = 7) (hS : mm_Sx g ad L xs) (hr : 6 * r + 6 ≤ L) (hL : L ≤ 3072) (hc : cells + 4 ≤ 601024) (hs : slots + 24 ≤ 7293034) (J : ms_I u ck cw k c i)
    (next : ∀ (u' : ks_S) (t' : Int32) (ck' cw' : Nat → Int32) (f' : Nat → Int64) (k' c' i' : Nat), ms_I u' ck' cw' k' c' i' → mm_M g ad (cells + 4) (slots + 24) (lw_H u' u' t' ck' cw' f') 1332 [(4, .int (nI (6 * r))), (3, .ref 33), (2, .ref 18), (1, .ref 0), (0, .ref 1000002)] []) : mm_M g ad cells slots (lw_H u u t ck cw f) 1208 [(4, .int (nI (6 * r))), (3, .ref 33), (2, .ref 18), (1, .ref 0), (0, .ref 1000002)] [] := by
  refine mm_aload_n C dL_law_1208 rfl 3 rfl ?_
  refine mm_aload_n C dL_law_1209 rfl 4 rfl ?_
  refine mm_iload C dL_law_1210 0 rfl ?_
  refine mm_iconst (v := 1) C dL_law_1212 (by decide) ?_
  refine mm_iadd C dL_law_1213 ?_
  refine mm_sald C hS (ix_s (j := 1) (by omega) hL rfl) dL_law_1214 ?_
  refine mm_aload_n C dL_law_1215 rfl 4 rfl ?_
  refine mm_iload C dL_law_1216 0 rfl ?_
  refine mm_iconst (v := 2) C dL_law_1218 (by decide) ?_
  refine mm_iadd C dL_law_1219 ?_
  refine mm_sald C hS (ix_s (j := 2) (by omega) hL rfl) dL_law_1220 ?_
  refine mm_aload_n C dL_law_1221 rfl 1 rfl ?_
  refine mm_callSW (hh := [(0, 10, 13, 27)]) (av := [.ref 0, .int (xs (nI (6 * r) + 1).toNatClampNeg), .int (xs (nI (6 * r) + 2).toNatClampNeg), .ref 33]) C (mm_gS sw_L_coded.1 sw_L_coded.2.1 sw_L_coded.2.2.1 sw_L_coded.2.2.2.1) (sw_L_coded.2.2.2.2) (kL_coded _ _ u u t ck cw f (xs (nI (6 * r) + 1).toNatClampNeg) (xs (nI (6 * r) + 2).toNatClampNeg) k c i J.1) 4 rfl rfl rfl ⟨mm_nl rfl, mm_nl rfl⟩ rfl rfl (mm_nl rfl) dL_law_1222 ⟨hc, hs⟩ (fun v hp' h' _ => ?_)
  obtain ⟨rfl, rfl⟩ := h'
  refine mm_istore (lv' := [(5, .int (m_cd l_coded (o_coded u c i (xs (nI (6 * r) + 1).toNatClampNeg) (xs (nI (6 * r) + 2).toNatClampNeg)))), (4, .int (nI (6 * r))), (3, .ref 33), (2, .ref 18), (1, .ref 0), (0, .ref 1000002)]) C dL_law_1225 hnL (by decide) rfl ?_
  refine mm_aload_n C dL_law_1227 rfl 3 rfl ?_
  refine mm_aload_n C dL_law_1228 rfl 5 rfl ?_
  refine mm_iload C dL_law_1229 1 rfl ?_
  refine mm_iconst (v := 1) C dL_law_1231 (by decide) ?_
  refine mm_iadd C dL_law_1232 ?_
  refine mm_sald C hS (ix_s (j := 1) (by omega) hL rfl) dL_law_1233 ?_
  refine mm_aload_n C dL_law_1234 rfl 5 rfl ?_
  refine mm_iload C dL_law_1235 1 rfl ?_
  refine mm_iconst (v := 2) C dL_law_1237 (by decide) ?_
  refine mm_iadd C dL_law_1238 ?_
  refine mm_sald C hS (ix_s (j := 2) (by omega) hL rfl) dL_law_1239 ?_
  refine mm_riV (av := [.int (xs (nI (6 * r) + 1).toNatClampNeg), .int (xs (nI (6 * r) + 2).toNatClampNeg)]) C 18 sv_L_X3_coded_145 rfl rfl (kX3_coded _ _ _ u _ ck cw _ (xs (nI (6 * r) + 1).toNatClampNeg) (xs (nI (6 * r) + 2).toNatClampNeg) k c i J) ⟨rfl, rfl⟩ ⟨mm_nl rfl, mm_nl rfl⟩ rfl rfl (mm_nl rfl) ⟨hc, hs⟩ dL_law_1240 ?_
  refine mm_istore (lv' := [(6, .int (m_an (o_coded u c i (xs (nI (6 * r) + 1).toNatClampNeg) (xs (nI (6 * r) + 2).toNatClampNeg)))), (5, .int (m_cd l_coded (o_coded u c i (xs (nI (6 * r) + 1).toNatClampNeg) (xs (nI (6 * r) + 2).toNatClampNeg)))), (4, .int (nI (6 * r))), (3, .ref 33), (2, .ref 18), (1, .ref 0), (0, .ref 1000002)]) C dL_law_1243 hnL (by decide) rfl ?_
  refine mm_aload_n C dL_law_1245 rfl 4 rfl ?_
  refine mm_riV (av := []) C 18 sv_L_X3_thrown_88 rfl rfl (kX3_thrown _ _ _ _ _ _ _ _) ⟨rfl, rfl⟩ ⟨mm_nl rfl, mm_nl rfl⟩ rfl rfl (mm_nl rfl) ⟨hc, hs⟩ dL_law_1246 ?_
  refine mm_iload C dL_law_1249 1 rfl ?_
  refine mm_icmp_eq (tgt := 1256) C dL_law_1251 (by decide) (fun _ => ?_) (fun z => absurd rfl z)
  refine mm_iload C dL_law_1256 1 rfl ?_
  refine mm_if_ne (tgt := 1273) C dL_law_1258 (by decide) (fun _ => ?_) (fun hz => ?_)
  · refine mm_goto (tgt := 1332) C dL_law_1273 (by decide) ?_
    refine mm_lvs (lv' := [(4, .int (nI (6 * r))), (3, .ref 33), (2, .ref 18), (1, .ref 0), (0, .ref 1000002)]) [2, 3, 4, 5, 6] rfl ?_
    obtain ⟨k', c', i', J'⟩ := pr_coded J (xs (nI (6 * r) + 1).toNatClampNeg) (xs (nI (6 * r) + 2).toNatClampNeg)
    exact next _ _ _ _ _ k' c' i' J'
  · refine mm_aload_n C dL_law_1261 rfl 3 rfl ?_
    refine mm_iconst (v := 0) C dL_law_1262 (by decide) ?_
    refine mm_lald C 33 rfl (vp_in_nI (n := 0) (by decide) (by decide)) dL_law_1263 ?_
    refine mm_iload C dL_law_1264 0 rfl ?_
    refine mm_i2l C dL_law_1266 ?_
    refine mm_lcmp C dL_law_1267 ?_
    refine mm_if_eq (tgt := 1273) C dL_law_1268 (by decide) (fun _ => ?_) (fun z => absurd (ou_eq (l := l_coded) (ou_coded u c i (xs (nI (6 * r) + 1).toNatClampNeg) (xs (nI (6 * r) + 2).toNatClampNeg)) (by decide) hz) z)
    refine mm_goto (tgt := 1332) C dL_law_1273 (by decide) ?_
    refine mm_lvs (lv' := [(4, .int (nI (6 * r))), (3, .ref 33), (2, .ref 18), (1, .ref 0), (0, .ref 1000002)]) [2, 3, 4, 5, 6] rfl ?_
    obtain ⟨k', c', i', J'⟩ := pr_coded J (xs (nI (6 * r) + 1).toNatClampNeg) (xs (nI (6 * r) + 2).toNatClampNeg)
    exact next _ _ _ _ _ k' c' i' J'
theorem sw_L_count : mm_SW RL 146 yL_count cL_count 4 (some .int) [(0, 9, 12, 13)] 3 := ⟨tw454, tw455, tw0, tw456, ⟨by decide +kernel, by decide +kernel, by decide +kernel⟩⟩
set_option maxHeartbeats 4000000 in
set_option maxRecDepth 100000 in
theorem lw_count {g : mm_g} {ad : mm_A} {cells slots r L : Nat} {xs : Nat → Int32} {u : ks_S} {t : Int32} {ck cw : Nat → Int32} {f : Nat → Int64} {k c i : Nat} (C : lw_C g ad) (hnL : mm_nL g = 7) (hS : mm_Sx g ad L xs) (hr : 6 * r + 6 ≤ L) (hL : L ≤ 3072) (hc : cells + 4 ≤ 601024) (hs : slots + 24 ≤ 7293034) (J : ms_I u ck cw k c i)
    (next : ∀ (u' : ks_S) (t' : Int32) (ck' cw' : Nat → Int32) (f' : Nat → Int64) (k' c' i' : Nat), ms_I u' ck' cw' k' c' i' → mm_M g ad (cells + 4) (slots + 24) (lw_H u' u' t' ck' cw' f') 1332 [(4, .int (nI (6 * r))), (3, .ref 33), (2, .ref 18), (1, .ref 0), (0, .ref 1000002)] []) : mm_M g ad cells slots (lw_H u u t ck cw f) 1276 [(4, .int (nI (6 * r))), (3, .ref 33), (2, .ref 18), (1, .ref 0), (0, .ref 1000002)] [] := by
  refine mm_aload_n C dL_law_1276 rfl 3 rfl ?_
  refine mm_aload_n C dL_law_1277 rfl 4 rfl ?_
  refine mm_iload C dL_law_1278 0 rfl ?_
  refine mm_iconst (v := 1) C dL_law_1280 (by decide) ?_
  refine mm_iadd C dL_law_1281 ?_
  refine mm_sald C hS (ix_s (j := 1) (by omega) hL rfl) dL_law_1282 ?_
  refine mm_aload_n C dL_law_1283 rfl 1 rfl ?_
  refine mm_callSW (hh := [(0, 9, 12, 13)]) (av := [.ref 0, .int (xs (nI (6 * r) + 1).toNatClampNeg), .ref 33]) C (mm_gS sw_L_count.1 sw_L_count.2.1 sw_L_count.2.2.1 sw_L_count.2.2.2.1) (sw_L_count.2.2.2.2) (kL_count _ _ u u t ck cw f (xs (nI (6 * r) + 1).toNatClampNeg) k c i J.1) 3 rfl rfl rfl ⟨mm_nl rfl, mm_nl rfl⟩ rfl rfl (mm_nl rfl) dL_law_1284 ⟨hc, hs⟩ (fun v hp' h' _ => ?_)
  obtain ⟨rfl, rfl⟩ := h'
  refine mm_istore (lv' := [(5, .int (m_cd l_count (o_count u (xs (nI (6 * r) + 1).toNatClampNeg)))), (4, .int (nI (6 * r))), (3, .ref 33), (2, .ref 18), (1, .ref 0), (0, .ref 1000002)]) C dL_law_1287 hnL (by decide) rfl ?_
  refine mm_aload_n C dL_law_1289 rfl 3 rfl ?_
  refine mm_aload_n C dL_law_1290 rfl 5 rfl ?_
  refine mm_iload C dL_law_1291 1 rfl ?_
  refine mm_iconst (v := 1) C dL_law_1293 (by decide) ?_
  refine mm_iadd C dL_law_1294 ?_
  refine mm_sald C hS (ix_s (j := 1) (by omega) hL rfl) dL_law_1295 ?_
  refine mm_riV (av := [.int (xs (nI (6 * r) + 1).toNatClampNeg)]) C 18 sv_L_X3_count_148 rfl rfl (kX3_count _ _ _ u _ ck cw _ (xs (nI (6 * r) + 1).toNatClampNeg) k c i J) ⟨rfl, rfl⟩ ⟨mm_nl rfl, mm_nl rfl⟩ rfl rfl (mm_nl rfl) ⟨hc, hs⟩ dL_law_1296 ?_
  refine mm_istore (lv' := [(6, .int (m_an (o_count u (xs (nI (6 * r) + 1).toNatClampNeg)))), (5, .int (m_cd l_count (o_count u (xs (nI (6 * r) + 1).toNatClampNeg)))), (4, .int (nI (6 * r))), (3, .ref 33), (2, .ref 18), (1, .ref 0), (0, .ref 1000002)]) C dL_law_1299 hnL (by decide) rfl ?_
  refine mm_aload_n C dL_law_1301 rfl 4 rfl ?_
  refine mm_riV (av := []) C 18 sv_L_X3_thrown_88 rfl rfl (kX3_thrown _ _ _ _ _ _ _ _) ⟨rfl, rfl⟩ ⟨mm_nl rfl, mm_nl rfl⟩ rfl rfl (mm_nl rfl) ⟨hc, hs⟩ dL_law_1302 ?_
  refine mm_iload C dL_law_1305 1 rfl ?_
  refine mm_icmp_eq (tgt := 1312) C dL_law_1307 (by decide) (fun _ => ?_) (fun z => absurd rfl z)
  refine mm_iload C dL_law_1312 1 rfl ?_
  refine mm_if_ne (tgt := 1329) C dL_law_1314 (by decide) (fun _ => ?_) (fun hz => ?_)
  · refine mm_goto (tgt := 1332) C dL_law_1329 (by decide) ?_
    refine mm_lvs (lv' := [(4, .int (nI (6 * r))), (3, .ref 33), (2, .ref 18), (1, .ref 0), (0, .ref 1000002)]) [2, 3, 4, 5, 6] rfl ?_
    obtain ⟨k', c', i', J'⟩ := pr_count J (xs (nI (6 * r) + 1).toNatClampNeg)
    exact next _ _ _ _ _ k' c' i' J'
  · refine mm_aload_n C dL_law_1317 rfl 3 rfl ?_
    refine mm_iconst (v := 0) C dL_law_1318 (by decide) ?_
    refine mm_lald C 33 rfl (vp_in_nI (n := 0) (by decide) (by decide)) dL_law_1319 ?_
    refine mm_iload C dL_law_1320 0 rfl ?_
    refine mm_i2l C dL_law_1322 ?_
    refine mm_lcmp C dL_law_1323 ?_
    refine mm_if_eq (tgt := 1329) C dL_law_1324 (by decide) (fun _ => ?_) (fun z => absurd (ou_eq (l := l_count) (ou_count u (xs (nI (6 * r) + 1).toNatClampNeg)) (by decide) hz) z)
    refine mm_goto (tgt := 1332) C dL_law_1329 (by decide) ?_
    refine mm_lvs (lv' := [(4, .int (nI (6 * r))), (3, .ref 33), (2, .ref 18), (1, .ref 0), (0, .ref 1000002)]) [2, 3, 4, 5, 6] rfl ?_
    obtain ⟨k', c', i', J'⟩ := pr_count J (xs (nI (6 * r) + 1).toNatClampNeg)
    exact next _ _ _ _ _ k' c' i' J'
