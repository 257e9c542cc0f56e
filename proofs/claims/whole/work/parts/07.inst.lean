/-! instance methods without loops -/
theorem cb_party {x : Int32} (h : ¬ (fnX0_isParty x) = 0) : vp_in x 8 := by
  unfold fnX0_isParty at h
  by_cases h1 : x < 0
  · rw [if_pos h1] at h; exact absurd rfl h
  · rw [if_neg h1] at h
    by_cases h2 : 8 ≤ x
    · rw [if_pos h2] at h; exact absurd rfl h
    · obtain ⟨j, hj, rfl⟩ := nI_of h1
      exact vp_in_nI (Nat.lt_of_not_le (fun q => h2 (nI_le (a := 8) q hj))) (by decide)
theorem cb_place {x : Int32} (h : ¬ (fnX0_isPlace x) = 0) : vp_in x 8 := cb_party (x := x) h
theorem md_not {x : Int32} {n : Nat} (h : (fnX1_not x (nI n)) = 0) (hn : n < 2 ^ 31) : vp_in x n := by
  unfold fnX1_not at h
  by_cases h1 : x < 0
  · rw [if_pos h1] at h; exact absurd h (by decide)
  · rw [if_neg h1] at h
    by_cases h2 : x < nI n
    · obtain ⟨j, hj, rfl⟩ := nI_of h1
      exact vp_in_nI ((nI_ltI hj hn).mp h2) hn
    · rw [if_neg h2] at h; exact absurd h (by decide)
theorem md_ixN {a b : Nat} : (8 : Int32) * nI a + nI b = nI (8 * a + b) := by
  have e1 : (8 : Int32) * nI a = nI (8 * a) := pk_mul 8 a
  rw [e1, nI_add]
theorem md_ix {x y : Int32} (h : vp_in x 8) (h2 : vp_in y 8) : vp_in ((8 : Int32) * x + y) 64 := by
  obtain ⟨a, ha, rfl⟩ := vp_in_of h (by decide)
  obtain ⟨b, hb, rfl⟩ := vp_in_of h2 (by decide)
  rw [md_ixN]
  exact vp_in_nI (by omega) (by decide)

def anX0_encode (u : cb_U) (a1 : Int32) (a2 : Int32) : Int32 := if (fnX0_isLaw a1) = 0 then ((-1)) else ((fnX0_codeOf a1 (fnX0_saturated (a2.toInt64))))
def stX0_encode (u : cb_U) (a1 : Int32) (a2 : Int32) : cb_U := if (fnX0_isLaw a1) = 0 then (u) else (u)
set_option maxHeartbeats 4000000 in
set_option maxRecDepth 100000 in
theorem metX0_encode (l : Launch) (dC : Nat → ClassId) (dI : Nat → Nat → Nat) (ct : Nat → ClassId) (ad : Nat → Nat) (sz : Nat) (u : cb_U) (a1 : Int32) (a2 : Int32) : Met l yX0_encode wsX0_encode ({ frames := 4, cells := 0, slots := 0, locals := 86 }) (va_Pc [.ref (ad 0), .int a1, .int a2] (fun U => U.heap.size = sz ∧ cb_B dC dI ct ad (fun _ => True) u U)) (va_Qi (fun r (_ : Unit) => r = anX0_encode u a1 a2) (fun _ => cb_B dC dI ct ad (va_A (cb_w ct ad u) sz) (stX0_encode u a1 a2)) (va_A (cb_w ct ad u) sz)) 0 0 (va_A (cb_w ct ad u) sz) := by
  refine Met.ofW (cc := cX0_encode) (maxL := 3) (ret := (some .int)) (by decide) rfl ?_
  intro p e s m args below meth c s₁ B hml hv
  obtain ⟨rfl, hsz, hP, hK, hD0⟩ := hv
  have hx := B.exec
  have hb := B.bytes
  have hr := B.returns
  have hts := atoms_spec (ws := wsX0_encode) B.pre
  have hown : s.vm.findClass RX0 = some m.cls := findClass_of_methodNamed B.named
  have hlocks := B.notSynchronized
  subst hsz
  have hD := hD0.self (sz := s.heap.size)
  generalize hAe : va_A (cb_w ct ad u) s.heap.size = A at hD ⊢
  have hA : ∀ q : Nat, s.heap.size ≤ q → A q := fun q h => by rw [← hAe]; exact Or.inr h
  have hS : va_S A s.heap s.heap [] := va_S.rf
  have hl := lv_entry ([.ref (ad 0), .int a1, .int a2]) (n := 3) (Nat.le_of_ble_eq_true rfl)
  rw [lg_entry_eq]
  generalize (lg_sl ([.ref (ad 0), .int a1, .int a2]) ++ List.replicate (3 - (lg_sl ([.ref (ad 0), .int a1, .int a2])).length) Slot.unset).toArray = ls at hl ⊢
  have hl : lv_has ls 3 [(0, .ref (ad 0)), (1, .int (a1)), (2, .int (a2))] := hl
  refine lv_iload_n hx hb dX0_encode_0 rfl (lv_at hl 1 rfl) ?_
  refine vp_callSi (W.runS (As := [.int (a1)]) (rest := []) ⟨hx, hb, hml, hown, hts⟩ (metX0_isLaw l a1) (va_cwS 1 hts gX0_encode_X0_isLaw rfl rfl rfl (by decide +kernel) ⟨(Nat.le_of_ble_eq_true rfl), (Nat.le_of_ble_eq_true rfl)⟩) ⟨fun a U g mk q => q, fun U hU hW => ⟨rfl, trivial⟩⟩ rfl rfl hl.1 rfl (lv_room (Nat.le_of_ble_eq_true rfl)) dX0_encode_1 ⟨(Nat.zero_le _), (Nat.zero_le _)⟩) (fun r_1 er_1 => ?_)
  subst er_1
  refine lv_if_eq (tgt := 19) hx hb dX0_encode_4 (by decide) (fun c_2 => ?_) (fun c_2 => ?_)
  · refine lv_iconst (v := (-1)) hx hb dX0_encode_19 (by decide) ?_
    have e9 : stX0_encode u a1 a2 = u := by unfold stX0_encode; rw [if_pos c_2]
    exact W.iret (v := (-1)) hx hb hr (fun t ht hW => ⟨⟨(-1), (), rfl, by unfold anX0_encode; rw [if_pos c_2], by rw [ht, e9]; exact hP, va_K.moved hW.alike hK, by rw [e9]; exact hD⟩, hS.F ht⟩) hS.2.2 dX0_encode_20
  · refine lv_iload_n hx hb dX0_encode_7 rfl (lv_at hl 1 rfl) ?_
    refine lv_iload_n hx hb dX0_encode_8 rfl (lv_at hl 2 rfl) ?_
    refine lv_i2l (v := a2.toInt64) hx hb dX0_encode_9 rfl ?_
    refine vp_callSi (W.runS (As := [.long (a2.toInt64)]) (rest := [.int (a1)]) ⟨hx, hb, hml, hown, hts⟩ (metX0_saturated l (a2.toInt64)) (va_cwS 1 hts gX0_encode_X0_saturated rfl rfl rfl (by decide +kernel) ⟨(Nat.le_of_ble_eq_true rfl), (Nat.le_of_ble_eq_true rfl)⟩) ⟨fun a U g mk q => q, fun U hU hW => ⟨rfl, trivial⟩⟩ rfl rfl hl.1 rfl (lv_room (Nat.le_of_ble_eq_true rfl)) dX0_encode_10 ⟨(Nat.zero_le _), (Nat.zero_le _)⟩) (fun r_3 er_3 => ?_)
    subst er_3
    refine vp_callSi (W.runS (As := [.int (a1), .int ((fnX0_saturated (a2.toInt64)))]) (rest := []) ⟨hx, hb, hml, hown, hts⟩ (metX0_codeOf l a1 (fnX0_saturated (a2.toInt64))) (va_cwS 2 hts gX0_encode_X0_codeOf rfl rfl rfl (by decide +kernel) ⟨(Nat.le_of_ble_eq_true rfl), (Nat.le_of_ble_eq_true rfl)⟩) ⟨fun a U g mk q => q, fun U hU hW => ⟨rfl, trivial⟩⟩ rfl rfl hl.1 rfl (lv_room (Nat.le_of_ble_eq_true rfl)) dX0_encode_13 ⟨(Nat.zero_le _), (Nat.zero_le _)⟩) (fun r_4 er_4 => ?_)
    subst er_4
    refine lv_goto (tgt := 20) hx hb dX0_encode_16 (by decide) ?_
    have e9 : stX0_encode u a1 a2 = u := by unfold stX0_encode; rw [if_neg c_2]
    exact W.iret (v := (fnX0_codeOf a1 (fnX0_saturated (a2.toInt64)))) hx hb hr (fun t ht hW => ⟨⟨(fnX0_codeOf a1 (fnX0_saturated (a2.toInt64))), (), rfl, by unfold anX0_encode; rw [if_neg c_2], by rw [ht, e9]; exact hP, va_K.moved hW.alike hK, by rw [e9]; exact hD⟩, hS.F ht⟩) hS.2.2 dX0_encode_20

def anX0_law (u : cb_U) (a1 : Int32) (a2 : Int32) : Int32 := if (fnX0_isParty a1) = 0 then (0) else (if (fnX0_isLaw a2) = 0 then (0) else (1))
def stX0_law (u : cb_U) (a1 : Int32) (a2 : Int32) : cb_U := if (fnX0_isParty a1) = 0 then (u) else (if (fnX0_isLaw a2) = 0 then (u) else ((cb_sL u (upd (cbL u) a1.toNatClampNeg a2))))
set_option maxHeartbeats 4000000 in
set_option maxRecDepth 100000 in
theorem metX0_law (l : Launch) (dC : Nat → ClassId) (dI : Nat → Nat → Nat) (ct : Nat → ClassId) (ad : Nat → Nat) (sz : Nat) (u : cb_U) (a1 : Int32) (a2 : Int32) : Met l yX0_law wsX0_law ({ frames := 1, cells := 0, slots := 0, locals := 20 }) (va_Pc [.ref (ad 0), .int a1, .int a2] (fun U => U.heap.size = sz ∧ cb_B dC dI ct ad (fun _ => True) u U)) (va_Qi (fun r (_ : Unit) => r = anX0_law u a1 a2) (fun _ => cb_B dC dI ct ad (va_A (cb_w ct ad u) sz) (stX0_law u a1 a2)) (va_A (cb_w ct ad u) sz)) 0 0 (va_A (cb_w ct ad u) sz) := by
  refine Met.ofW (cc := cX0_law) (maxL := 3) (ret := (some .boolean)) (by decide) rfl ?_
  intro p e s m args below meth c s₁ B hml hv
  obtain ⟨rfl, hsz, hP, hK, hD0⟩ := hv
  have hx := B.exec
  have hb := B.bytes
  have hr := B.returns
  have hts := atoms_spec (ws := wsX0_law) B.pre
  have hown : s.vm.findClass RX0 = some m.cls := findClass_of_methodNamed B.named
  have hlocks := B.notSynchronized
  have hin0 : ∀ w ∈ u_ws RX0 TX0 9, w ∈ wsX0_law := by decide +kernel
  subst hsz
  have hD := hD0.self (sz := s.heap.size)
  generalize hAe : va_A (cb_w ct ad u) s.heap.size = A at hD ⊢
  have hA : ∀ q : Nat, s.heap.size ≤ q → A q := fun q h => by rw [← hAe]; exact Or.inr h
  have hS : va_S A s.heap s.heap [] := va_S.rf
  have hl := lv_entry ([.ref (ad 0), .int a1, .int a2]) (n := 3) (Nat.le_of_ble_eq_true rfl)
  rw [lg_entry_eq]
  generalize (lg_sl ([.ref (ad 0), .int a1, .int a2]) ++ List.replicate (3 - (lg_sl ([.ref (ad 0), .int a1, .int a2])).length) Slot.unset).toArray = ls at hl ⊢
  have hl : lv_has ls 3 [(0, .ref (ad 0)), (1, .int (a1)), (2, .int (a2))] := hl
  refine lv_iload_n hx hb dX0_law_0 rfl (lv_at hl 1 rfl) ?_
  refine vp_callSi (W.runS (As := [.int (a1)]) (rest := []) ⟨hx, hb, hml, hown, hts⟩ (metX0_isParty l a1) (va_cwS 1 hts gX0_law_X0_isParty rfl rfl rfl (by decide +kernel) ⟨(Nat.le_of_ble_eq_true rfl), (Nat.le_of_ble_eq_true rfl)⟩) ⟨fun a U g mk q => q, fun U hU hW => ⟨rfl, trivial⟩⟩ rfl rfl hl.1 rfl (lv_room (Nat.le_of_ble_eq_true rfl)) dX0_law_1 ⟨(Nat.zero_le _), (Nat.zero_le _)⟩) (fun r_1 er_1 => ?_)
  subst er_1
  refine lv_if_eq (tgt := 14) hx hb dX0_law_4 (by decide) (fun c_2 => ?_) (fun c_2 => ?_)
  · refine lv_iconst (v := 0) hx hb dX0_law_14 (by decide) ?_
    have e9 : stX0_law u a1 a2 = u := by unfold stX0_law; rw [if_pos c_2]
    exact W.zret (v := 0) hx hb hr (by decide) (fun t ht hW => ⟨⟨0, (), rfl, by unfold anX0_law; rw [if_pos c_2], by rw [ht, e9]; exact hP, va_K.moved hW.alike hK, by rw [e9]; exact hD⟩, hS.F ht⟩) hS.2.2 dX0_law_15
  · refine lv_iload_n hx hb dX0_law_7 rfl (lv_at hl 2 rfl) ?_
    refine vp_callSi (W.runS (As := [.int (a2)]) (rest := []) ⟨hx, hb, hml, hown, hts⟩ (metX0_isLaw l a2) (va_cwS 1 hts gX0_law_X0_isLaw rfl rfl rfl (by decide +kernel) ⟨(Nat.le_of_ble_eq_true rfl), (Nat.le_of_ble_eq_true rfl)⟩) ⟨fun a U g mk q => q, fun U hU hW => ⟨rfl, trivial⟩⟩ rfl rfl hl.1 rfl (lv_room (Nat.le_of_ble_eq_true rfl)) dX0_law_8 ⟨(Nat.zero_le _), (Nat.zero_le _)⟩) (fun r_3 er_3 => ?_)
    subst er_3
    refine lv_if_ne (tgt := 16) hx hb dX0_law_11 (by decide) (fun c_4 => ?_) (fun c_4 => ?_)
    · refine lv_aload_n hx hb dX0_law_16 rfl (lv_at hl 0 rfl) ?_
      refine cb_get hx hb hts hin0 hown hK hP 0 (by decide) (hts (.fieldLink RX0 9 "ConferenceBridge" "laws" "[I") (by decide +kernel)) (z := .ref (ad 1)) rfl dX0_law_17 ?_
      refine lv_iload_n hx hb dX0_law_20 rfl (lv_at hl 1 rfl) ?_
      refine lv_iload_n hx hb dX0_law_21 rfl (lv_at hl 2 rfl) ?_
      refine cb_iastR hx hb hK hP hD hS 1 0 (f := cbL u) rfl rfl (cb_party c_2) (ws1 := cb_w ct ad ((cb_sL u (upd (cbL u) a1.toNatClampNeg a2)))) rfl dX0_law_22 (fun H locs hP hD hS => ?_)
      have hP : va_P (dC, dI) vwCl (cb_w ct ad ((cb_sL u (upd (cbL u) a1.toNatClampNeg a2)))) H := hP
      have hD : va_D A (cb_w ct ad ((cb_sL u (upd (cbL u) a1.toNatClampNeg a2)))) := hD
      refine lv_iconst (v := 1) hx hb dX0_law_23 (by decide) ?_
      have e9 : stX0_law u a1 a2 = (cb_sL u (upd (cbL u) a1.toNatClampNeg a2)) := by unfold stX0_law; rw [if_neg c_2, if_neg c_4]
      exact W.zret (v := 1) hx hb hr (by decide) (fun t ht hW => ⟨⟨1, (), rfl, by unfold anX0_law; rw [if_neg c_2, if_neg c_4], by rw [ht, e9]; exact hP, va_K.moved hW.alike hK, by rw [e9]; exact hD⟩, hS.F ht⟩) hS.2.2 dX0_law_24
    · refine lv_iconst (v := 0) hx hb dX0_law_14 (by decide) ?_
      have e9 : stX0_law u a1 a2 = u := by unfold stX0_law; rw [if_neg c_2, if_pos c_4]
      exact W.zret (v := 0) hx hb hr (by decide) (fun t ht hW => ⟨⟨0, (), rfl, by unfold anX0_law; rw [if_neg c_2, if_pos c_4], by rw [ht, e9]; exact hP, va_K.moved hW.alike hK, by rw [e9]; exact hD⟩, hS.F ht⟩) hS.2.2 dX0_law_15

def anX0_gain (u : cb_U) (a1 : Int32) (a2 : Int32) : Int32 := if (fnX0_isParty a1) = 0 then (0) else (if a2 < 0 then (0) else (if a2 ≤ 1024 then (1) else (0)))
def stX0_gain (u : cb_U) (a1 : Int32) (a2 : Int32) : cb_U := if (fnX0_isParty a1) = 0 then (u) else (if a2 < 0 then (u) else (if a2 ≤ 1024 then ((cb_sG u (upd (cbG u) a1.toNatClampNeg a2))) else (u)))
set_option maxHeartbeats 4000000 in
set_option maxRecDepth 100000 in
theorem metX0_gain (l : Launch) (dC : Nat → ClassId) (dI : Nat → Nat → Nat) (ct : Nat → ClassId) (ad : Nat → Nat) (sz : Nat) (u : cb_U) (a1 : Int32) (a2 : Int32) : Met l yX0_gain wsX0_gain ({ frames := 1, cells := 0, slots := 0, locals := 20 }) (va_Pc [.ref (ad 0), .int a1, .int a2] (fun U => U.heap.size = sz ∧ cb_B dC dI ct ad (fun _ => True) u U)) (va_Qi (fun r (_ : Unit) => r = anX0_gain u a1 a2) (fun _ => cb_B dC dI ct ad (va_A (cb_w ct ad u) sz) (stX0_gain u a1 a2)) (va_A (cb_w ct ad u) sz)) 0 0 (va_A (cb_w ct ad u) sz) := by
  refine Met.ofW (cc := cX0_gain) (maxL := 3) (ret := (some .boolean)) (by decide) rfl ?_
  intro p e s m args below meth c s₁ B hml hv
  obtain ⟨rfl, hsz, hP, hK, hD0⟩ := hv
  have hx := B.exec
  have hb := B.bytes
  have hr := B.returns
  have hts := atoms_spec (ws := wsX0_gain) B.pre
  have hown : s.vm.findClass RX0 = some m.cls := findClass_of_methodNamed B.named
  have hlocks := B.notSynchronized
  have hin0 : ∀ w ∈ u_ws RX0 TX0 9, w ∈ wsX0_gain := by decide +kernel
  subst hsz
  have hD := hD0.self (sz := s.heap.size)
  generalize hAe : va_A (cb_w ct ad u) s.heap.size = A at hD ⊢
  have hA : ∀ q : Nat, s.heap.size ≤ q → A q := fun q h => by rw [← hAe]; exact Or.inr h
  have hS : va_S A s.heap s.heap [] := va_S.rf
  have hl := lv_entry ([.ref (ad 0), .int a1, .int a2]) (n := 3) (Nat.le_of_ble_eq_true rfl)
  rw [lg_entry_eq]
  generalize (lg_sl ([.ref (ad 0), .int a1, .int a2]) ++ List.replicate (3 - (lg_sl ([.ref (ad 0), .int a1, .int a2])).length) Slot.unset).toArray = ls at hl ⊢
  have hl : lv_has ls 3 [(0, .ref (ad 0)), (1, .int (a1)), (2, .int (a2))] := hl
  refine lv_iload_n hx hb dX0_gain_0 rfl (lv_at hl 1 rfl) ?_
  refine vp_callSi (W.runS (As := [.int (a1)]) (rest := []) ⟨hx, hb, hml, hown, hts⟩ (metX0_isParty l a1) (va_cwS 1 hts gX0_gain_X0_isParty rfl rfl rfl (by decide +kernel) ⟨(Nat.le_of_ble_eq_true rfl), (Nat.le_of_ble_eq_true rfl)⟩) ⟨fun a U g mk q => q, fun U hU hW => ⟨rfl, trivial⟩⟩ rfl rfl hl.1 rfl (lv_room (Nat.le_of_ble_eq_true rfl)) dX0_gain_1 ⟨(Nat.zero_le _), (Nat.zero_le _)⟩) (fun r_1 er_1 => ?_)
  subst er_1
  refine lv_if_eq (tgt := 18) hx hb dX0_gain_4 (by decide) (fun c_2 => ?_) (fun c_2 => ?_)
  · refine lv_iconst (v := 0) hx hb dX0_gain_18 (by decide) ?_
    have e9 : stX0_gain u a1 a2 = u := by unfold stX0_gain; rw [if_pos c_2]
    exact W.zret (v := 0) hx hb hr (by decide) (fun t ht hW => ⟨⟨0, (), rfl, by unfold anX0_gain; rw [if_pos c_2], by rw [ht, e9]; exact hP, va_K.moved hW.alike hK, by rw [e9]; exact hD⟩, hS.F ht⟩) hS.2.2 dX0_gain_19
  · refine lv_iload_n hx hb dX0_gain_7 rfl (lv_at hl 2 rfl) ?_
    refine lv_if_lt (tgt := 18) hx hb dX0_gain_8 (by decide) (fun c_3 => ?_) (fun c_3 => ?_)
    · refine lv_iconst (v := 0) hx hb dX0_gain_18 (by decide) ?_
      have e9 : stX0_gain u a1 a2 = u := by unfold stX0_gain; rw [if_neg c_2, if_pos c_3]
      exact W.zret (v := 0) hx hb hr (by decide) (fun t ht hW => ⟨⟨0, (), rfl, by unfold anX0_gain; rw [if_neg c_2, if_pos c_3], by rw [ht, e9]; exact hP, va_K.moved hW.alike hK, by rw [e9]; exact hD⟩, hS.F ht⟩) hS.2.2 dX0_gain_19
    · refine lv_iload_n hx hb dX0_gain_11 rfl (lv_at hl 2 rfl) ?_
      refine lv_sipush (v := 1024) hx hb dX0_gain_12 (by decide) ?_
      refine lv_icmp_le (tgt := 20) hx hb dX0_gain_15 (by decide) (fun c_4 => ?_) (fun c_4 => ?_)
      · refine lv_aload_n hx hb dX0_gain_20 rfl (lv_at hl 0 rfl) ?_
        refine cb_get hx hb hts hin0 hown hK hP 1 (by decide) (hts (.fieldLink RX0 13 "ConferenceBridge" "gains" "[I") (by decide +kernel)) (z := .ref (ad 2)) rfl dX0_gain_21 ?_
        refine lv_iload_n hx hb dX0_gain_24 rfl (lv_at hl 1 rfl) ?_
        refine lv_iload_n hx hb dX0_gain_25 rfl (lv_at hl 2 rfl) ?_
        refine cb_iastR hx hb hK hP hD hS 2 0 (f := cbG u) rfl rfl (cb_party c_2) (ws1 := cb_w ct ad ((cb_sG u (upd (cbG u) a1.toNatClampNeg a2)))) rfl dX0_gain_26 (fun H locs hP hD hS => ?_)
        have hP : va_P (dC, dI) vwCl (cb_w ct ad ((cb_sG u (upd (cbG u) a1.toNatClampNeg a2)))) H := hP
        have hD : va_D A (cb_w ct ad ((cb_sG u (upd (cbG u) a1.toNatClampNeg a2)))) := hD
        refine lv_iconst (v := 1) hx hb dX0_gain_27 (by decide) ?_
        have e9 : stX0_gain u a1 a2 = (cb_sG u (upd (cbG u) a1.toNatClampNeg a2)) := by unfold stX0_gain; rw [if_neg c_2, if_neg c_3, if_pos c_4]
        exact W.zret (v := 1) hx hb hr (by decide) (fun t ht hW => ⟨⟨1, (), rfl, by unfold anX0_gain; rw [if_neg c_2, if_neg c_3, if_pos c_4], by rw [ht, e9]; exact hP, va_K.moved hW.alike hK, by rw [e9]; exact hD⟩, hS.F ht⟩) hS.2.2 dX0_gain_28
      · refine lv_iconst (v := 0) hx hb dX0_gain_18 (by decide) ?_
        have e9 : stX0_gain u a1 a2 = u := by unfold stX0_gain; rw [if_neg c_2, if_neg c_3, if_neg c_4]
        exact W.zret (v := 0) hx hb hr (by decide) (fun t ht hW => ⟨⟨0, (), rfl, by unfold anX0_gain; rw [if_neg c_2, if_neg c_3, if_neg c_4], by rw [ht, e9]; exact hP, va_K.moved hW.alike hK, by rw [e9]; exact hD⟩, hS.F ht⟩) hS.2.2 dX0_gain_19

def anX0_mute (u : cb_U) (a1 : Int32) (a2 : Int32) : Int32 := if (fnX0_isParty a1) = 0 then (0) else (1)
def stX0_mute (u : cb_U) (a1 : Int32) (a2 : Int32) : cb_U := if (fnX0_isParty a1) = 0 then (u) else ((cb_sS u (upd (cbS u) a1.toNatClampNeg (vp_nar .boolean a2))))
set_option maxHeartbeats 4000000 in
set_option maxRecDepth 100000 in
theorem metX0_mute (l : Launch) (dC : Nat → ClassId) (dI : Nat → Nat → Nat) (ct : Nat → ClassId) (ad : Nat → Nat) (sz : Nat) (u : cb_U) (a1 : Int32) (a2 : Int32) : Met l yX0_mute wsX0_mute ({ frames := 1, cells := 0, slots := 0, locals := 20 }) (va_Pc [.ref (ad 0), .int a1, .int a2] (fun U => U.heap.size = sz ∧ cb_B dC dI ct ad (fun _ => True) u U)) (va_Qi (fun r (_ : Unit) => r = anX0_mute u a1 a2) (fun _ => cb_B dC dI ct ad (va_A (cb_w ct ad u) sz) (stX0_mute u a1 a2)) (va_A (cb_w ct ad u) sz)) 0 0 (va_A (cb_w ct ad u) sz) := by
  refine Met.ofW (cc := cX0_mute) (maxL := 3) (ret := (some .boolean)) (by decide) rfl ?_
  intro p e s m args below meth c s₁ B hml hv
  obtain ⟨rfl, hsz, hP, hK, hD0⟩ := hv
  have hx := B.exec
  have hb := B.bytes
  have hr := B.returns
  have hts := atoms_spec (ws := wsX0_mute) B.pre
  have hown : s.vm.findClass RX0 = some m.cls := findClass_of_methodNamed B.named
  have hlocks := B.notSynchronized
  have hin0 : ∀ w ∈ u_ws RX0 TX0 9, w ∈ wsX0_mute := by decide +kernel
  subst hsz
  have hD := hD0.self (sz := s.heap.size)
  generalize hAe : va_A (cb_w ct ad u) s.heap.size = A at hD ⊢
  have hA : ∀ q : Nat, s.heap.size ≤ q → A q := fun q h => by rw [← hAe]; exact Or.inr h
  have hS : va_S A s.heap s.heap [] := va_S.rf
  have hl := lv_entry ([.ref (ad 0), .int a1, .int a2]) (n := 3) (Nat.le_of_ble_eq_true rfl)
  rw [lg_entry_eq]
  generalize (lg_sl ([.ref (ad 0), .int a1, .int a2]) ++ List.replicate (3 - (lg_sl ([.ref (ad 0), .int a1, .int a2])).length) Slot.unset).toArray = ls at hl ⊢
  have hl : lv_has ls 3 [(0, .ref (ad 0)), (1, .int (a1)), (2, .int (a2))] := hl
  refine lv_iload_n hx hb dX0_mute_0 rfl (lv_at hl 1 rfl) ?_
  refine vp_callSi (W.runS (As := [.int (a1)]) (rest := []) ⟨hx, hb, hml, hown, hts⟩ (metX0_isParty l a1) (va_cwS 1 hts gX0_mute_X0_isParty rfl rfl rfl (by decide +kernel) ⟨(Nat.le_of_ble_eq_true rfl), (Nat.le_of_ble_eq_true rfl)⟩) ⟨fun a U g mk q => q, fun U hU hW => ⟨rfl, trivial⟩⟩ rfl rfl hl.1 rfl (lv_room (Nat.le_of_ble_eq_true rfl)) dX0_mute_1 ⟨(Nat.zero_le _), (Nat.zero_le _)⟩) (fun r_1 er_1 => ?_)
  subst er_1
  refine lv_if_ne (tgt := 9) hx hb dX0_mute_4 (by decide) (fun c_2 => ?_) (fun c_2 => ?_)
  · refine lv_aload_n hx hb dX0_mute_9 rfl (lv_at hl 0 rfl) ?_
    refine cb_get hx hb hts hin0 hown hK hP 2 (by decide) (hts (.fieldLink RX0 16 "ConferenceBridge" "silenced" "[Z") (by decide +kernel)) (z := .ref (ad 3)) rfl dX0_mute_10 ?_
    refine lv_iload_n hx hb dX0_mute_13 rfl (lv_at hl 1 rfl) ?_
    refine lv_iload_n hx hb dX0_mute_14 rfl (lv_at hl 2 rfl) ?_
    refine cb_zastR hx hb hK hP hD hS 3 1 (f := cbS u) rfl rfl (cb_party c_2) (ws1 := cb_w ct ad ((cb_sS u (upd (cbS u) a1.toNatClampNeg (vp_nar .boolean a2))))) rfl dX0_mute_15 (fun H locs hP hD hS => ?_)
    have hP : va_P (dC, dI) vwCl (cb_w ct ad ((cb_sS u (upd (cbS u) a1.toNatClampNeg (vp_nar .boolean a2))))) H := hP
    have hD : va_D A (cb_w ct ad ((cb_sS u (upd (cbS u) a1.toNatClampNeg (vp_nar .boolean a2))))) := hD
    refine lv_iconst (v := 1) hx hb dX0_mute_16 (by decide) ?_
    have e9 : stX0_mute u a1 a2 = (cb_sS u (upd (cbS u) a1.toNatClampNeg (vp_nar .boolean a2))) := by unfold stX0_mute; rw [if_neg c_2]
    exact W.zret (v := 1) hx hb hr (by decide) (fun t ht hW => ⟨⟨1, (), rfl, by unfold anX0_mute; rw [if_neg c_2], by rw [ht, e9]; exact hP, va_K.moved hW.alike hK, by rw [e9]; exact hD⟩, hS.F ht⟩) hS.2.2 dX0_mute_17
  · refine lv_iconst (v := 0) hx hb dX0_mute_7 (by decide) ?_
    have e9 : stX0_mute u a1 a2 = u := by unfold stX0_mute; rw [if_pos c_2]
    exact W.zret (v := 0) hx hb hr (by decide) (fun t ht hW => ⟨⟨0, (), rfl, by unfold anX0_mute; rw [if_pos c_2], by rw [ht, e9]; exact hP, va_K.moved hW.alike hK, by rw [e9]; exact hD⟩, hS.F ht⟩) hS.2.2 dX0_mute_8

def anX0_speakers (u : cb_U) (a1 : Int32) : Int32 := if a1 < 1 then (0) else (if a1 ≤ 8 then (1) else (0))
def stX0_speakers (u : cb_U) (a1 : Int32) : cb_U := if a1 < 1 then (u) else (if a1 ≤ 8 then ((cb_sM u (a1))) else (u))
set_option maxHeartbeats 4000000 in
set_option maxRecDepth 100000 in
theorem metX0_speakers (l : Launch) (dC : Nat → ClassId) (dI : Nat → Nat → Nat) (ct : Nat → ClassId) (ad : Nat → Nat) (sz : Nat) (u : cb_U) (a1 : Int32) : Met l yX0_speakers wsX0_speakers ({ frames := 0, cells := 0, slots := 0, locals := 0 }) (va_Pc [.ref (ad 0), .int a1] (fun U => U.heap.size = sz ∧ cb_B dC dI ct ad (fun _ => True) u U)) (va_Qi (fun r (_ : Unit) => r = anX0_speakers u a1) (fun _ => cb_B dC dI ct ad (va_A (cb_w ct ad u) sz) (stX0_speakers u a1)) (va_A (cb_w ct ad u) sz)) 0 0 (va_A (cb_w ct ad u) sz) := by
  refine Met.ofW (cc := cX0_speakers) (maxL := 2) (ret := (some .boolean)) (by decide) rfl ?_
  intro p e s m args below meth c s₁ B hml hv
  obtain ⟨rfl, hsz, hP, hK, hD0⟩ := hv
  have hx := B.exec
  have hb := B.bytes
  have hr := B.returns
  have hts := atoms_spec (ws := wsX0_speakers) B.pre
  have hown : s.vm.findClass RX0 = some m.cls := findClass_of_methodNamed B.named
  have hlocks := B.notSynchronized
  have hin0 : ∀ w ∈ u_ws RX0 TX0 9, w ∈ wsX0_speakers := by decide +kernel
  subst hsz
  have hD := hD0.self (sz := s.heap.size)
  generalize hAe : va_A (cb_w ct ad u) s.heap.size = A at hD ⊢
  have hA : ∀ q : Nat, s.heap.size ≤ q → A q := fun q h => by rw [← hAe]; exact Or.inr h
  have hS : va_S A s.heap s.heap [] := va_S.rf
  have hl := lv_entry ([.ref (ad 0), .int a1]) (n := 2) (Nat.le_of_ble_eq_true rfl)
  rw [lg_entry_eq]
  generalize (lg_sl ([.ref (ad 0), .int a1]) ++ List.replicate (2 - (lg_sl ([.ref (ad 0), .int a1])).length) Slot.unset).toArray = ls at hl ⊢
  have hl : lv_has ls 2 [(0, .ref (ad 0)), (1, .int (a1))] := hl
  refine lv_iload_n hx hb dX0_speakers_0 rfl (lv_at hl 1 rfl) ?_
  refine lv_iconst (v := 1) hx hb dX0_speakers_1 (by decide) ?_
  refine lv_icmp_lt (tgt := 11) hx hb dX0_speakers_2 (by decide) (fun c_1 => ?_) (fun c_1 => ?_)
  · refine lv_iconst (v := 0) hx hb dX0_speakers_11 (by decide) ?_
    have e9 : stX0_speakers u a1 = u := by unfold stX0_speakers; rw [if_pos c_1]
    exact W.zret (v := 0) hx hb hr (by decide) (fun t ht hW => ⟨⟨0, (), rfl, by unfold anX0_speakers; rw [if_pos c_1], by rw [ht, e9]; exact hP, va_K.moved hW.alike hK, by rw [e9]; exact hD⟩, hS.F ht⟩) hS.2.2 dX0_speakers_12
  · refine lv_iload_n hx hb dX0_speakers_5 rfl (lv_at hl 1 rfl) ?_
    refine lv_bipush (v := 8) hx hb dX0_speakers_6 (by decide) ?_
    refine lv_icmp_le (tgt := 13) hx hb dX0_speakers_8 (by decide) (fun c_2 => ?_) (fun c_2 => ?_)
    · refine lv_aload_n hx hb dX0_speakers_13 rfl (lv_at hl 0 rfl) ?_
      refine lv_iload_n hx hb dX0_speakers_14 rfl (lv_at hl 1 rfl) ?_
      refine cb_putM hx hb hts hin0 hown hK hP hD hS (hts (.fieldLink RX0 28 "ConferenceBridge" "mostSpeakers" "I") (by decide +kernel)) dX0_speakers_15 (fun H locs hP hD hS => ?_)
      have hP : va_P (dC, dI) vwCl (cb_w ct ad ((cb_sM u (a1)))) H := hP
      have hD : va_D A (cb_w ct ad ((cb_sM u (a1)))) := hD
      refine lv_iconst (v := 1) hx hb dX0_speakers_18 (by decide) ?_
      have e9 : stX0_speakers u a1 = (cb_sM u (a1)) := by unfold stX0_speakers; rw [if_neg c_1, if_pos c_2]
      exact W.zret (v := 1) hx hb hr (by decide) (fun t ht hW => ⟨⟨1, (), rfl, by unfold anX0_speakers; rw [if_neg c_1, if_pos c_2], by rw [ht, e9]; exact hP, va_K.moved hW.alike hK, by rw [e9]; exact hD⟩, hS.F ht⟩) hS.2.2 dX0_speakers_19
    · refine lv_iconst (v := 0) hx hb dX0_speakers_11 (by decide) ?_
      have e9 : stX0_speakers u a1 = u := by unfold stX0_speakers; rw [if_neg c_1, if_neg c_2]
      exact W.zret (v := 0) hx hb hr (by decide) (fun t ht hW => ⟨⟨0, (), rfl, by unfold anX0_speakers; rw [if_neg c_1, if_neg c_2], by rw [ht, e9]; exact hP, va_K.moved hW.alike hK, by rw [e9]; exact hD⟩, hS.F ht⟩) hS.2.2 dX0_speakers_12

def anX0_put (u : cb_U) (a1 : Int32) (a2 : Int32) (a3 : Int32) : Int32 := if (fnX0_isParty a1) = 0 then (0) else (if (fnX0_isPlace a2) = 0 then (0) else (1))
def stX0_put (u : cb_U) (a1 : Int32) (a2 : Int32) (a3 : Int32) : cb_U := if (fnX0_isParty a1) = 0 then (u) else (if (fnX0_isPlace a2) = 0 then (u) else ((cb_sC u (va_up (cbC u) a1.toNatClampNeg (upd (cbC u a1.toNatClampNeg) a2.toNatClampNeg (a3 &&& (255 : Int32)))))))
set_option maxHeartbeats 4000000 in
set_option maxRecDepth 100000 in
theorem metX0_put (l : Launch) (dC : Nat → ClassId) (dI : Nat → Nat → Nat) (ct : Nat → ClassId) (ad : Nat → Nat) (sz : Nat) (u : cb_U) (a1 : Int32) (a2 : Int32) (a3 : Int32) : Met l yX0_put wsX0_put ({ frames := 1, cells := 0, slots := 0, locals := 20 }) (va_Pc [.ref (ad 0), .int a1, .int a2, .int a3] (fun U => U.heap.size = sz ∧ cb_B dC dI ct ad (fun _ => True) u U)) (va_Qi (fun r (_ : Unit) => r = anX0_put u a1 a2 a3) (fun _ => cb_B dC dI ct ad (va_A (cb_w ct ad u) sz) (stX0_put u a1 a2 a3)) (va_A (cb_w ct ad u) sz)) 0 0 (va_A (cb_w ct ad u) sz) := by
  refine Met.ofW (cc := cX0_put) (maxL := 4) (ret := (some .boolean)) (by decide) rfl ?_
  intro p e s m args below meth c s₁ B hml hv
  obtain ⟨rfl, hsz, hP, hK, hD0⟩ := hv
  have hx := B.exec
  have hb := B.bytes
  have hr := B.returns
  have hts := atoms_spec (ws := wsX0_put) B.pre
  have hown : s.vm.findClass RX0 = some m.cls := findClass_of_methodNamed B.named
  have hlocks := B.notSynchronized
  have hin0 : ∀ w ∈ u_ws RX0 TX0 9, w ∈ wsX0_put := by decide +kernel
  subst hsz
  have hD := hD0.self (sz := s.heap.size)
  generalize hAe : va_A (cb_w ct ad u) s.heap.size = A at hD ⊢
  have hA : ∀ q : Nat, s.heap.size ≤ q → A q := fun q h => by rw [← hAe]; exact Or.inr h
  have hS : va_S A s.heap s.heap [] := va_S.rf
  have hl := lv_entry ([.ref (ad 0), .int a1, .int a2, .int a3]) (n := 4) (Nat.le_of_ble_eq_true rfl)
  rw [lg_entry_eq]
  generalize (lg_sl ([.ref (ad 0), .int a1, .int a2, .int a3]) ++ List.replicate (4 - (lg_sl ([.ref (ad 0), .int a1, .int a2, .int a3])).length) Slot.unset).toArray = ls at hl ⊢
  have hl : lv_has ls 4 [(0, .ref (ad 0)), (1, .int (a1)), (2, .int (a2)), (3, .int (a3))] := hl
  refine lv_iload_n hx hb dX0_put_0 rfl (lv_at hl 1 rfl) ?_
  refine vp_callSi (W.runS (As := [.int (a1)]) (rest := []) ⟨hx, hb, hml, hown, hts⟩ (metX0_isParty l a1) (va_cwS 1 hts gX0_put_X0_isParty rfl rfl rfl (by decide +kernel) ⟨(Nat.le_of_ble_eq_true rfl), (Nat.le_of_ble_eq_true rfl)⟩) ⟨fun a U g mk q => q, fun U hU hW => ⟨rfl, trivial⟩⟩ rfl rfl hl.1 rfl (lv_room (Nat.le_of_ble_eq_true rfl)) dX0_put_1 ⟨(Nat.zero_le _), (Nat.zero_le _)⟩) (fun r_1 er_1 => ?_)
  subst er_1
  refine lv_if_eq (tgt := 14) hx hb dX0_put_4 (by decide) (fun c_2 => ?_) (fun c_2 => ?_)
  · refine lv_iconst (v := 0) hx hb dX0_put_14 (by decide) ?_
    have e9 : stX0_put u a1 a2 a3 = u := by unfold stX0_put; rw [if_pos c_2]
    exact W.zret (v := 0) hx hb hr (by decide) (fun t ht hW => ⟨⟨0, (), rfl, by unfold anX0_put; rw [if_pos c_2], by rw [ht, e9]; exact hP, va_K.moved hW.alike hK, by rw [e9]; exact hD⟩, hS.F ht⟩) hS.2.2 dX0_put_15
  · refine lv_iload_n hx hb dX0_put_7 rfl (lv_at hl 2 rfl) ?_
    refine vp_callSi (W.runS (As := [.int (a2)]) (rest := []) ⟨hx, hb, hml, hown, hts⟩ (metX0_isPlace l a2) (va_cwS 1 hts gX0_put_X0_isPlace rfl rfl rfl (by decide +kernel) ⟨(Nat.le_of_ble_eq_true rfl), (Nat.le_of_ble_eq_true rfl)⟩) ⟨fun a U g mk q => q, fun U hU hW => ⟨rfl, trivial⟩⟩ rfl rfl hl.1 rfl (lv_room (Nat.le_of_ble_eq_true rfl)) dX0_put_8 ⟨(Nat.zero_le _), (Nat.zero_le _)⟩) (fun r_3 er_3 => ?_)
    subst er_3
    refine lv_if_ne (tgt := 16) hx hb dX0_put_11 (by decide) (fun c_4 => ?_) (fun c_4 => ?_)
    · refine lv_aload_n hx hb dX0_put_16 rfl (lv_at hl 0 rfl) ?_
      refine cb_get hx hb hts hin0 hown hK hP 3 (by decide) (hts (.fieldLink RX0 22 "ConferenceBridge" "coming" "[[I") (by decide +kernel)) (z := .ref (ad 4)) rfl dX0_put_17 ?_
      refine lv_iload_n hx hb dX0_put_20 rfl (lv_at hl 1 rfl) ?_
      refine cb_aald hx hb hK hP 4 2 rfl rfl (cb_party c_2) (b := ad (9 + a1.toNatClampNeg)) (cb_o_at (cb_vin (cb_party c_2))) dX0_put_21 ?_
      refine lv_iload_n hx hb dX0_put_22 rfl (lv_at hl 2 rfl) ?_
      refine lv_iload_n hx hb dX0_put_23 rfl (lv_at hl 3 rfl) ?_
      refine lv_sipush (v := 255) hx hb dX0_put_24 (by decide) ?_
      refine lv_iand hx hb dX0_put_27 ?_
      refine cb_iastR hx hb hK hP hD hS (9 + a1.toNatClampNeg) 0 (f := cbC u a1.toNatClampNeg) (cb_atC ct ad u a1.toNatClampNeg (cb_vin (cb_party c_2))) rfl (cb_place c_4) (cb_putC ct ad u _ a1.toNatClampNeg (cb_vin (cb_party c_2))) dX0_put_28 (fun H locs hP hD hS => ?_)
      have hP : va_P (dC, dI) vwCl (cb_w ct ad ((cb_sC u (va_up (cbC u) a1.toNatClampNeg (upd (cbC u a1.toNatClampNeg) a2.toNatClampNeg (a3 &&& (255 : Int32))))))) H := hP
      have hD : va_D A (cb_w ct ad ((cb_sC u (va_up (cbC u) a1.toNatClampNeg (upd (cbC u a1.toNatClampNeg) a2.toNatClampNeg (a3 &&& (255 : Int32))))))) := hD
      refine lv_iconst (v := 1) hx hb dX0_put_29 (by decide) ?_
      have e9 : stX0_put u a1 a2 a3 = (cb_sC u (va_up (cbC u) a1.toNatClampNeg (upd (cbC u a1.toNatClampNeg) a2.toNatClampNeg (a3 &&& (255 : Int32))))) := by unfold stX0_put; rw [if_neg c_2, if_neg c_4]
      exact W.zret (v := 1) hx hb hr (by decide) (fun t ht hW => ⟨⟨1, (), rfl, by unfold anX0_put; rw [if_neg c_2, if_neg c_4], by rw [ht, e9]; exact hP, va_K.moved hW.alike hK, by rw [e9]; exact hD⟩, hS.F ht⟩) hS.2.2 dX0_put_30
    · refine lv_iconst (v := 0) hx hb dX0_put_14 (by decide) ?_
      have e9 : stX0_put u a1 a2 a3 = u := by unfold stX0_put; rw [if_neg c_2, if_pos c_4]
      exact W.zret (v := 0) hx hb hr (by decide) (fun t ht hW => ⟨⟨0, (), rfl, by unfold anX0_put; rw [if_neg c_2, if_pos c_4], by rw [ht, e9]; exact hP, va_K.moved hW.alike hK, by rw [e9]; exact hD⟩, hS.F ht⟩) hS.2.2 dX0_put_15

def anX0_out (u : cb_U) (a1 : Int32) (a2 : Int32) : Int32 := if (fnX0_isParty a1) = 0 then ((-1)) else (if (fnX0_isPlace a2) = 0 then ((-1)) else ((cbO u a1.toNatClampNeg a2.toNatClampNeg)))
def stX0_out (u : cb_U) (a1 : Int32) (a2 : Int32) : cb_U := if (fnX0_isParty a1) = 0 then (u) else (if (fnX0_isPlace a2) = 0 then (u) else (u))
set_option maxHeartbeats 4000000 in
set_option maxRecDepth 100000 in
theorem metX0_out (l : Launch) (dC : Nat → ClassId) (dI : Nat → Nat → Nat) (ct : Nat → ClassId) (ad : Nat → Nat) (sz : Nat) (u : cb_U) (a1 : Int32) (a2 : Int32) : Met l yX0_out wsX0_out ({ frames := 1, cells := 0, slots := 0, locals := 20 }) (va_Pc [.ref (ad 0), .int a1, .int a2] (fun U => U.heap.size = sz ∧ cb_B dC dI ct ad (fun _ => True) u U)) (va_Qi (fun r (_ : Unit) => r = anX0_out u a1 a2) (fun _ => cb_B dC dI ct ad (va_A (cb_w ct ad u) sz) (stX0_out u a1 a2)) (va_A (cb_w ct ad u) sz)) 0 0 (va_A (cb_w ct ad u) sz) := by
  refine Met.ofW (cc := cX0_out) (maxL := 3) (ret := (some .int)) (by decide) rfl ?_
  intro p e s m args below meth c s₁ B hml hv
  obtain ⟨rfl, hsz, hP, hK, hD0⟩ := hv
  have hx := B.exec
  have hb := B.bytes
  have hr := B.returns
  have hts := atoms_spec (ws := wsX0_out) B.pre
  have hown : s.vm.findClass RX0 = some m.cls := findClass_of_methodNamed B.named
  have hlocks := B.notSynchronized
  have hin0 : ∀ w ∈ u_ws RX0 TX0 9, w ∈ wsX0_out := by decide +kernel
  subst hsz
  have hD := hD0.self (sz := s.heap.size)
  generalize hAe : va_A (cb_w ct ad u) s.heap.size = A at hD ⊢
  have hA : ∀ q : Nat, s.heap.size ≤ q → A q := fun q h => by rw [← hAe]; exact Or.inr h
  have hS : va_S A s.heap s.heap [] := va_S.rf
  have hl := lv_entry ([.ref (ad 0), .int a1, .int a2]) (n := 3) (Nat.le_of_ble_eq_true rfl)
  rw [lg_entry_eq]
  generalize (lg_sl ([.ref (ad 0), .int a1, .int a2]) ++ List.replicate (3 - (lg_sl ([.ref (ad 0), .int a1, .int a2])).length) Slot.unset).toArray = ls at hl ⊢
  have hl : lv_has ls 3 [(0, .ref (ad 0)), (1, .int (a1)), (2, .int (a2))] := hl
  refine lv_iload_n hx hb dX0_out_0 rfl (lv_at hl 1 rfl) ?_
  refine vp_callSi (W.runS (As := [.int (a1)]) (rest := []) ⟨hx, hb, hml, hown, hts⟩ (metX0_isParty l a1) (va_cwS 1 hts gX0_out_X0_isParty rfl rfl rfl (by decide +kernel) ⟨(Nat.le_of_ble_eq_true rfl), (Nat.le_of_ble_eq_true rfl)⟩) ⟨fun a U g mk q => q, fun U hU hW => ⟨rfl, trivial⟩⟩ rfl rfl hl.1 rfl (lv_room (Nat.le_of_ble_eq_true rfl)) dX0_out_1 ⟨(Nat.zero_le _), (Nat.zero_le _)⟩) (fun r_1 er_1 => ?_)
  subst er_1
  refine lv_if_eq (tgt := 25) hx hb dX0_out_4 (by decide) (fun c_2 => ?_) (fun c_2 => ?_)
  · refine lv_iconst (v := (-1)) hx hb dX0_out_25 (by decide) ?_
    have e9 : stX0_out u a1 a2 = u := by unfold stX0_out; rw [if_pos c_2]
    exact W.iret (v := (-1)) hx hb hr (fun t ht hW => ⟨⟨(-1), (), rfl, by unfold anX0_out; rw [if_pos c_2], by rw [ht, e9]; exact hP, va_K.moved hW.alike hK, by rw [e9]; exact hD⟩, hS.F ht⟩) hS.2.2 dX0_out_26
  · refine lv_iload_n hx hb dX0_out_7 rfl (lv_at hl 2 rfl) ?_
    refine vp_callSi (W.runS (As := [.int (a2)]) (rest := []) ⟨hx, hb, hml, hown, hts⟩ (metX0_isPlace l a2) (va_cwS 1 hts gX0_out_X0_isPlace rfl rfl rfl (by decide +kernel) ⟨(Nat.le_of_ble_eq_true rfl), (Nat.le_of_ble_eq_true rfl)⟩) ⟨fun a U g mk q => q, fun U hU hW => ⟨rfl, trivial⟩⟩ rfl rfl hl.1 rfl (lv_room (Nat.le_of_ble_eq_true rfl)) dX0_out_8 ⟨(Nat.zero_le _), (Nat.zero_le _)⟩) (fun r_3 er_3 => ?_)
    subst er_3
    refine lv_if_eq (tgt := 25) hx hb dX0_out_11 (by decide) (fun c_4 => ?_) (fun c_4 => ?_)
    · refine lv_iconst (v := (-1)) hx hb dX0_out_25 (by decide) ?_
      have e9 : stX0_out u a1 a2 = u := by unfold stX0_out; rw [if_neg c_2, if_pos c_4]
      exact W.iret (v := (-1)) hx hb hr (fun t ht hW => ⟨⟨(-1), (), rfl, by unfold anX0_out; rw [if_neg c_2, if_pos c_4], by rw [ht, e9]; exact hP, va_K.moved hW.alike hK, by rw [e9]; exact hD⟩, hS.F ht⟩) hS.2.2 dX0_out_26
    · refine lv_aload_n hx hb dX0_out_14 rfl (lv_at hl 0 rfl) ?_
      refine cb_get hx hb hts hin0 hown hK hP 4 (by decide) (hts (.fieldLink RX0 25 "ConferenceBridge" "going" "[[I") (by decide +kernel)) (z := .ref (ad 5)) rfl dX0_out_15 ?_
      refine lv_iload_n hx hb dX0_out_18 rfl (lv_at hl 1 rfl) ?_
      refine cb_aald hx hb hK hP 5 2 rfl rfl (cb_party c_2) (b := ad (17 + a1.toNatClampNeg)) (cb_o_at (cb_vin (cb_party c_2))) dX0_out_19 ?_
      refine lv_iload_n hx hb dX0_out_20 rfl (lv_at hl 2 rfl) ?_
      refine va_iald hx hb hK hP (17 + a1.toNatClampNeg) 0 (f := cbO u a1.toNatClampNeg) (cb_atO ct ad u a1.toNatClampNeg (cb_vin (cb_party c_2))) rfl (cb_place c_4) dX0_out_21 ?_
      refine lv_goto (tgt := 26) hx hb dX0_out_22 (by decide) ?_
      have e9 : stX0_out u a1 a2 = u := by unfold stX0_out; rw [if_neg c_2, if_neg c_4]
      exact W.iret (v := (cbO u a1.toNatClampNeg a2.toNatClampNeg)) hx hb hr (fun t ht hW => ⟨⟨(cbO u a1.toNatClampNeg a2.toNatClampNeg), (), rfl, by unfold anX0_out; rw [if_neg c_2, if_neg c_4], by rw [ht, e9]; exact hP, va_K.moved hW.alike hK, by rw [e9]; exact hD⟩, hS.F ht⟩) hS.2.2 dX0_out_26

def anX1_thrown (v : md_U) : Int32 := mdT v
def stX1_thrown (v : md_U) : md_U := v
set_option maxHeartbeats 4000000 in
set_option maxRecDepth 100000 in
theorem metX1_thrown (l : Launch) (dC : Nat → ClassId) (dI : Nat → Nat → Nat) (ct : Nat → ClassId) (ad : Nat → Nat) (sz : Nat) (v : md_U) : Met l yX1_thrown wsX1_thrown ({ frames := 0, cells := 0, slots := 0, locals := 0 }) (va_Pc [.ref (ad 0)] (fun U => U.heap.size = sz ∧ md_B dC dI ct ad (fun _ => True) v U)) (va_Qi (fun r (_ : Unit) => r = anX1_thrown v ) (fun _ => md_B dC dI ct ad (va_A (md_w ct ad v) sz) (stX1_thrown v )) (va_A (md_w ct ad v) sz)) 0 0 (va_A (md_w ct ad v) sz) := by
  refine Met.ofW (cc := cX1_thrown) (maxL := 1) (ret := (some .int)) (by decide) rfl ?_
  intro p e s m args below meth c s₁ B hml hv
  obtain ⟨rfl, hsz, hP, hK, hD0⟩ := hv
  have hx := B.exec
  have hb := B.bytes
  have hr := B.returns
  have hts := atoms_spec (ws := wsX1_thrown) B.pre
  have hown : s.vm.findClass RX1 = some m.cls := findClass_of_methodNamed B.named
  have hlocks := B.notSynchronized
  have hin0 : ∀ w ∈ u_ws RX1 TX1 9, w ∈ wsX1_thrown := by decide +kernel
  subst hsz
  have hD := hD0.self (sz := s.heap.size)
  generalize hAe : va_A (md_w ct ad v) s.heap.size = A at hD ⊢
  have hA : ∀ q : Nat, s.heap.size ≤ q → A q := fun q h => by rw [← hAe]; exact Or.inr h
  have hS : va_S A s.heap s.heap [] := va_S.rf
  have hl := lv_entry ([.ref (ad 0)]) (n := 1) (Nat.le_of_ble_eq_true rfl)
  rw [lg_entry_eq]
  generalize (lg_sl ([.ref (ad 0)]) ++ List.replicate (1 - (lg_sl ([.ref (ad 0)])).length) Slot.unset).toArray = ls at hl ⊢
  have hl : lv_has ls 1 [(0, .ref (ad 0))] := hl
  refine lv_aload_n hx hb dX1_thrown_0 rfl (lv_at hl 0 rfl) ?_
  refine md_get hx hb hts hin0 hown hK hP 0 (by decide) (hts (.fieldLink RX1 7 "ConferenceBridgeModel" "thrownCode" "I") (by decide +kernel)) (z := .int (mdT v)) rfl dX1_thrown_1 ?_
  have e9 : stX1_thrown v  = v := rfl
  exact W.iret (v := mdT v) hx hb hr (fun t ht hW => ⟨⟨mdT v, (), rfl, rfl, by rw [ht, e9]; exact hP, va_K.moved hW.alike hK, by rw [e9]; exact hD⟩, hS.F ht⟩) hS.2.2 dX1_thrown_4

def anX1_law (v : md_U) (a1 : Int32) (a2 : Int32) : Int32 := if (fnX1_not a1 (8 : Int32)) = 0 then (if (fnX1_not a2 (2 : Int32)) = 0 then (1) else (0)) else (0)
def stX1_law (v : md_U) (a1 : Int32) (a2 : Int32) : md_U := if (fnX1_not a1 (8 : Int32)) = 0 then (if (fnX1_not a2 (2 : Int32)) = 0 then ((md_sL (md_sT v (0)) (upd (mdL v) a1.toNatClampNeg a2))) else ((md_sT v (0)))) else ((md_sT v (0)))
set_option maxHeartbeats 4000000 in
set_option maxRecDepth 100000 in
theorem metX1_law (l : Launch) (dC : Nat → ClassId) (dI : Nat → Nat → Nat) (ct : Nat → ClassId) (ad : Nat → Nat) (sz : Nat) (v : md_U) (a1 : Int32) (a2 : Int32) : Met l yX1_law wsX1_law ({ frames := 1, cells := 0, slots := 0, locals := 21 }) (va_Pc [.ref (ad 0), .int a1, .int a2] (fun U => U.heap.size = sz ∧ md_B dC dI ct ad (fun _ => True) v U)) (va_Qi (fun r (_ : Unit) => r = anX1_law v a1 a2) (fun _ => md_B dC dI ct ad (va_A (md_w ct ad v) sz) (stX1_law v a1 a2)) (va_A (md_w ct ad v) sz)) 0 0 (va_A (md_w ct ad v) sz) := by
  refine Met.ofW (cc := cX1_law) (maxL := 3) (ret := (some .boolean)) (by decide) rfl ?_
  intro p e s m args below meth c s₁ B hml hv
  obtain ⟨rfl, hsz, hP, hK, hD0⟩ := hv
  have hx := B.exec
  have hb := B.bytes
  have hr := B.returns
  have hts := atoms_spec (ws := wsX1_law) B.pre
  have hown : s.vm.findClass RX1 = some m.cls := findClass_of_methodNamed B.named
  have hlocks := B.notSynchronized
  have hin0 : ∀ w ∈ u_ws RX1 TX1 9, w ∈ wsX1_law := by decide +kernel
  subst hsz
  have hD := hD0.self (sz := s.heap.size)
  generalize hAe : va_A (md_w ct ad v) s.heap.size = A at hD ⊢
  have hA : ∀ q : Nat, s.heap.size ≤ q → A q := fun q h => by rw [← hAe]; exact Or.inr h
  have hS : va_S A s.heap s.heap [] := va_S.rf
  have hl := lv_entry ([.ref (ad 0), .int a1, .int a2]) (n := 3) (Nat.le_of_ble_eq_true rfl)
  rw [lg_entry_eq]
  generalize (lg_sl ([.ref (ad 0), .int a1, .int a2]) ++ List.replicate (3 - (lg_sl ([.ref (ad 0), .int a1, .int a2])).length) Slot.unset).toArray = ls at hl ⊢
  have hl : lv_has ls 3 [(0, .ref (ad 0)), (1, .int (a1)), (2, .int (a2))] := hl
  refine lv_aload_n hx hb dX1_law_0 rfl (lv_at hl 0 rfl) ?_
  refine lv_iconst (v := 0) hx hb dX1_law_1 (by decide) ?_
  refine md_putT hx hb hts hin0 hown hK hP hD hS (hts (.fieldLink RX1 7 "ConferenceBridgeModel" "thrownCode" "I") (by decide +kernel)) dX1_law_2 (fun H locs hP hD hS => ?_)
  have hP : va_P (dC, dI) vwCl (md_w ct ad ((md_sT v (0)))) H := hP
  have hD : va_D A (md_w ct ad ((md_sT v (0)))) := hD
  refine lv_iload_n hx hb dX1_law_5 rfl (lv_at hl 1 rfl) ?_
  refine lv_bipush (v := 8) hx hb dX1_law_6 (by decide) ?_
  refine vp_callSi (W.runS (As := [.int (a1), .int (8)]) (rest := []) ⟨hx, hb, hml, hown, hts⟩ (metX1_not l a1 (8 : Int32)) (va_cwS 2 hts gX1_law_X1_not rfl rfl rfl (by decide +kernel) ⟨(Nat.le_of_ble_eq_true rfl), (Nat.le_of_ble_eq_true rfl)⟩) ⟨fun a U g mk q => q, fun U hU hW => ⟨rfl, trivial⟩⟩ rfl rfl hl.1 rfl (lv_room (Nat.le_of_ble_eq_true rfl)) dX1_law_8 ⟨(Nat.zero_le _), (Nat.zero_le _)⟩) (fun r_1 er_1 => ?_)
  subst er_1
  refine lv_if_ne (tgt := 22) hx hb dX1_law_11 (by decide) (fun c_2 => ?_) (fun c_2 => ?_)
  · refine lv_iconst (v := 0) hx hb dX1_law_22 (by decide) ?_
    have e9 : stX1_law v a1 a2 = (md_sT v (0)) := by unfold stX1_law; rw [if_neg c_2]
    exact W.zret (v := 0) hx hb hr (by decide) (fun t ht hW => ⟨⟨0, (), rfl, by unfold anX1_law; rw [if_neg c_2], by rw [ht, e9]; exact hP, va_K.moved hW.alike hK, by rw [e9]; exact hD⟩, hS.F ht⟩) hS.2.2 dX1_law_23
  · refine lv_iload_n hx hb dX1_law_14 rfl (lv_at hl 2 rfl) ?_
    refine lv_iconst (v := 2) hx hb dX1_law_15 (by decide) ?_
    refine vp_callSi (W.runS (As := [.int (a2), .int (2)]) (rest := []) ⟨hx, hb, hml, hown, hts⟩ (metX1_not l a2 (2 : Int32)) (va_cwS 2 hts gX1_law_X1_not rfl rfl rfl (by decide +kernel) ⟨(Nat.le_of_ble_eq_true rfl), (Nat.le_of_ble_eq_true rfl)⟩) ⟨fun a U g mk q => q, fun U hU hW => ⟨rfl, trivial⟩⟩ rfl rfl hl.1 rfl (lv_room (Nat.le_of_ble_eq_true rfl)) dX1_law_16 ⟨(Nat.zero_le _), (Nat.zero_le _)⟩) (fun r_3 er_3 => ?_)
    subst er_3
    refine lv_if_eq (tgt := 24) hx hb dX1_law_19 (by decide) (fun c_4 => ?_) (fun c_4 => ?_)
    · refine lv_aload_n hx hb dX1_law_24 rfl (lv_at hl 0 rfl) ?_
      refine md_get hx hb hts hin0 hown hK hP 1 (by decide) (hts (.fieldLink RX1 13 "ConferenceBridgeModel" "law" "[I") (by decide +kernel)) (z := .ref (ad 1)) rfl dX1_law_25 ?_
      refine lv_iload_n hx hb dX1_law_28 rfl (lv_at hl 1 rfl) ?_
      refine lv_iload_n hx hb dX1_law_29 rfl (lv_at hl 2 rfl) ?_
      refine cb_iastR hx hb hK hP hD hS 1 0 (f := mdL v) rfl rfl (md_not c_2 (by decide)) (ws1 := md_w ct ad ((md_sL (md_sT v (0)) (upd (mdL v) a1.toNatClampNeg a2)))) rfl dX1_law_30 (fun H locs hP hD hS => ?_)
      have hP : va_P (dC, dI) vwCl (md_w ct ad ((md_sL (md_sT v (0)) (upd (mdL v) a1.toNatClampNeg a2)))) H := hP
      have hD : va_D A (md_w ct ad ((md_sL (md_sT v (0)) (upd (mdL v) a1.toNatClampNeg a2)))) := hD
      refine lv_iconst (v := 1) hx hb dX1_law_31 (by decide) ?_
      have e9 : stX1_law v a1 a2 = (md_sL (md_sT v (0)) (upd (mdL v) a1.toNatClampNeg a2)) := by unfold stX1_law; rw [if_pos c_2, if_pos c_4]
      exact W.zret (v := 1) hx hb hr (by decide) (fun t ht hW => ⟨⟨1, (), rfl, by unfold anX1_law; rw [if_pos c_2, if_pos c_4], by rw [ht, e9]; exact hP, va_K.moved hW.alike hK, by rw [e9]; exact hD⟩, hS.F ht⟩) hS.2.2 dX1_law_32
    · refine lv_iconst (v := 0) hx hb dX1_law_22 (by decide) ?_
      have e9 : stX1_law v a1 a2 = (md_sT v (0)) := by unfold stX1_law; rw [if_pos c_2, if_neg c_4]
      exact W.zret (v := 0) hx hb hr (by decide) (fun t ht hW => ⟨⟨0, (), rfl, by unfold anX1_law; rw [if_pos c_2, if_neg c_4], by rw [ht, e9]; exact hP, va_K.moved hW.alike hK, by rw [e9]; exact hD⟩, hS.F ht⟩) hS.2.2 dX1_law_23

def anX1_gain (v : md_U) (a1 : Int32) (a2 : Int32) : Int32 := if (fnX1_not a1 (8 : Int32)) = 0 then (if (fnX1_not a2 (1025 : Int32)) = 0 then (1) else (0)) else (0)
def stX1_gain (v : md_U) (a1 : Int32) (a2 : Int32) : md_U := if (fnX1_not a1 (8 : Int32)) = 0 then (if (fnX1_not a2 (1025 : Int32)) = 0 then ((md_sG (md_sT v (0)) (upd (mdG v) a1.toNatClampNeg a2))) else ((md_sT v (0)))) else ((md_sT v (0)))
set_option maxHeartbeats 4000000 in
set_option maxRecDepth 100000 in
theorem metX1_gain (l : Launch) (dC : Nat → ClassId) (dI : Nat → Nat → Nat) (ct : Nat → ClassId) (ad : Nat → Nat) (sz : Nat) (v : md_U) (a1 : Int32) (a2 : Int32) : Met l yX1_gain wsX1_gain ({ frames := 1, cells := 0, slots := 0, locals := 21 }) (va_Pc [.ref (ad 0), .int a1, .int a2] (fun U => U.heap.size = sz ∧ md_B dC dI ct ad (fun _ => True) v U)) (va_Qi (fun r (_ : Unit) => r = anX1_gain v a1 a2) (fun _ => md_B dC dI ct ad (va_A (md_w ct ad v) sz) (stX1_gain v a1 a2)) (va_A (md_w ct ad v) sz)) 0 0 (va_A (md_w ct ad v) sz) := by
  refine Met.ofW (cc := cX1_gain) (maxL := 3) (ret := (some .boolean)) (by decide) rfl ?_
  intro p e s m args below meth c s₁ B hml hv
  obtain ⟨rfl, hsz, hP, hK, hD0⟩ := hv
  have hx := B.exec
  have hb := B.bytes
  have hr := B.returns
  have hts := atoms_spec (ws := wsX1_gain) B.pre
  have hown : s.vm.findClass RX1 = some m.cls := findClass_of_methodNamed B.named
  have hlocks := B.notSynchronized
  have hin0 : ∀ w ∈ u_ws RX1 TX1 9, w ∈ wsX1_gain := by decide +kernel
  subst hsz
  have hD := hD0.self (sz := s.heap.size)
  generalize hAe : va_A (md_w ct ad v) s.heap.size = A at hD ⊢
  have hA : ∀ q : Nat, s.heap.size ≤ q → A q := fun q h => by rw [← hAe]; exact Or.inr h
  have hS : va_S A s.heap s.heap [] := va_S.rf
  have hl := lv_entry ([.ref (ad 0), .int a1, .int a2]) (n := 3) (Nat.le_of_ble_eq_true rfl)
  rw [lg_entry_eq]
  generalize (lg_sl ([.ref (ad 0), .int a1, .int a2]) ++ List.replicate (3 - (lg_sl ([.ref (ad 0), .int a1, .int a2])).length) Slot.unset).toArray = ls at hl ⊢
  have hl : lv_has ls 3 [(0, .ref (ad 0)), (1, .int (a1)), (2, .int (a2))] := hl
  refine lv_aload_n hx hb dX1_gain_0 rfl (lv_at hl 0 rfl) ?_
  refine lv_iconst (v := 0) hx hb dX1_gain_1 (by decide) ?_
  refine md_putT hx hb hts hin0 hown hK hP hD hS (hts (.fieldLink RX1 7 "ConferenceBridgeModel" "thrownCode" "I") (by decide +kernel)) dX1_gain_2 (fun H locs hP hD hS => ?_)
  have hP : va_P (dC, dI) vwCl (md_w ct ad ((md_sT v (0)))) H := hP
  have hD : va_D A (md_w ct ad ((md_sT v (0)))) := hD
  refine lv_iload_n hx hb dX1_gain_5 rfl (lv_at hl 1 rfl) ?_
  refine lv_bipush (v := 8) hx hb dX1_gain_6 (by decide) ?_
  refine vp_callSi (W.runS (As := [.int (a1), .int (8)]) (rest := []) ⟨hx, hb, hml, hown, hts⟩ (metX1_not l a1 (8 : Int32)) (va_cwS 2 hts gX1_gain_X1_not rfl rfl rfl (by decide +kernel) ⟨(Nat.le_of_ble_eq_true rfl), (Nat.le_of_ble_eq_true rfl)⟩) ⟨fun a U g mk q => q, fun U hU hW => ⟨rfl, trivial⟩⟩ rfl rfl hl.1 rfl (lv_room (Nat.le_of_ble_eq_true rfl)) dX1_gain_8 ⟨(Nat.zero_le _), (Nat.zero_le _)⟩) (fun r_1 er_1 => ?_)
  subst er_1
  refine lv_if_ne (tgt := 24) hx hb dX1_gain_11 (by decide) (fun c_2 => ?_) (fun c_2 => ?_)
  · refine lv_iconst (v := 0) hx hb dX1_gain_24 (by decide) ?_
    have e9 : stX1_gain v a1 a2 = (md_sT v (0)) := by unfold stX1_gain; rw [if_neg c_2]
    exact W.zret (v := 0) hx hb hr (by decide) (fun t ht hW => ⟨⟨0, (), rfl, by unfold anX1_gain; rw [if_neg c_2], by rw [ht, e9]; exact hP, va_K.moved hW.alike hK, by rw [e9]; exact hD⟩, hS.F ht⟩) hS.2.2 dX1_gain_25
  · refine lv_iload_n hx hb dX1_gain_14 rfl (lv_at hl 2 rfl) ?_
    refine lv_sipush (v := 1025) hx hb dX1_gain_15 (by decide) ?_
    refine vp_callSi (W.runS (As := [.int (a2), .int (1025)]) (rest := []) ⟨hx, hb, hml, hown, hts⟩ (metX1_not l a2 (1025 : Int32)) (va_cwS 2 hts gX1_gain_X1_not rfl rfl rfl (by decide +kernel) ⟨(Nat.le_of_ble_eq_true rfl), (Nat.le_of_ble_eq_true rfl)⟩) ⟨fun a U g mk q => q, fun U hU hW => ⟨rfl, trivial⟩⟩ rfl rfl hl.1 rfl (lv_room (Nat.le_of_ble_eq_true rfl)) dX1_gain_18 ⟨(Nat.zero_le _), (Nat.zero_le _)⟩) (fun r_3 er_3 => ?_)
    subst er_3
    refine lv_if_eq (tgt := 26) hx hb dX1_gain_21 (by decide) (fun c_4 => ?_) (fun c_4 => ?_)
    · refine lv_aload_n hx hb dX1_gain_26 rfl (lv_at hl 0 rfl) ?_
      refine md_get hx hb hts hin0 hown hK hP 2 (by decide) (hts (.fieldLink RX1 17 "ConferenceBridgeModel" "gain" "[I") (by decide +kernel)) (z := .ref (ad 2)) rfl dX1_gain_27 ?_
      refine lv_iload_n hx hb dX1_gain_30 rfl (lv_at hl 1 rfl) ?_
      refine lv_iload_n hx hb dX1_gain_31 rfl (lv_at hl 2 rfl) ?_
      refine cb_iastR hx hb hK hP hD hS 2 0 (f := mdG v) rfl rfl (md_not c_2 (by decide)) (ws1 := md_w ct ad ((md_sG (md_sT v (0)) (upd (mdG v) a1.toNatClampNeg a2)))) rfl dX1_gain_32 (fun H locs hP hD hS => ?_)
      have hP : va_P (dC, dI) vwCl (md_w ct ad ((md_sG (md_sT v (0)) (upd (mdG v) a1.toNatClampNeg a2)))) H := hP
      have hD : va_D A (md_w ct ad ((md_sG (md_sT v (0)) (upd (mdG v) a1.toNatClampNeg a2)))) := hD
      refine lv_iconst (v := 1) hx hb dX1_gain_33 (by decide) ?_
      have e9 : stX1_gain v a1 a2 = (md_sG (md_sT v (0)) (upd (mdG v) a1.toNatClampNeg a2)) := by unfold stX1_gain; rw [if_pos c_2, if_pos c_4]
      exact W.zret (v := 1) hx hb hr (by decide) (fun t ht hW => ⟨⟨1, (), rfl, by unfold anX1_gain; rw [if_pos c_2, if_pos c_4], by rw [ht, e9]; exact hP, va_K.moved hW.alike hK, by rw [e9]; exact hD⟩, hS.F ht⟩) hS.2.2 dX1_gain_34
    · refine lv_iconst (v := 0) hx hb dX1_gain_24 (by decide) ?_
      have e9 : stX1_gain v a1 a2 = (md_sT v (0)) := by unfold stX1_gain; rw [if_pos c_2, if_neg c_4]
      exact W.zret (v := 0) hx hb hr (by decide) (fun t ht hW => ⟨⟨0, (), rfl, by unfold anX1_gain; rw [if_pos c_2, if_neg c_4], by rw [ht, e9]; exact hP, va_K.moved hW.alike hK, by rw [e9]; exact hD⟩, hS.F ht⟩) hS.2.2 dX1_gain_25

def anX1_mute (v : md_U) (a1 : Int32) (a2 : Int32) : Int32 := if (fnX1_not a1 (8 : Int32)) = 0 then (1) else (0)
def stX1_mute (v : md_U) (a1 : Int32) (a2 : Int32) : md_U := if (fnX1_not a1 (8 : Int32)) = 0 then ((md_sS (md_sT v (0)) (upd (mdS v) a1.toNatClampNeg (vp_nar .boolean a2)))) else ((md_sT v (0)))
set_option maxHeartbeats 4000000 in
set_option maxRecDepth 100000 in
theorem metX1_mute (l : Launch) (dC : Nat → ClassId) (dI : Nat → Nat → Nat) (ct : Nat → ClassId) (ad : Nat → Nat) (sz : Nat) (v : md_U) (a1 : Int32) (a2 : Int32) : Met l yX1_mute wsX1_mute ({ frames := 1, cells := 0, slots := 0, locals := 21 }) (va_Pc [.ref (ad 0), .int a1, .int a2] (fun U => U.heap.size = sz ∧ md_B dC dI ct ad (fun _ => True) v U)) (va_Qi (fun r (_ : Unit) => r = anX1_mute v a1 a2) (fun _ => md_B dC dI ct ad (va_A (md_w ct ad v) sz) (stX1_mute v a1 a2)) (va_A (md_w ct ad v) sz)) 0 0 (va_A (md_w ct ad v) sz) := by
  refine Met.ofW (cc := cX1_mute) (maxL := 3) (ret := (some .boolean)) (by decide) rfl ?_
  intro p e s m args below meth c s₁ B hml hv
  obtain ⟨rfl, hsz, hP, hK, hD0⟩ := hv
  have hx := B.exec
  have hb := B.bytes
  have hr := B.returns
  have hts := atoms_spec (ws := wsX1_mute) B.pre
  have hown : s.vm.findClass RX1 = some m.cls := findClass_of_methodNamed B.named
  have hlocks := B.notSynchronized
  have hin0 : ∀ w ∈ u_ws RX1 TX1 9, w ∈ wsX1_mute := by decide +kernel
  subst hsz
  have hD := hD0.self (sz := s.heap.size)
  generalize hAe : va_A (md_w ct ad v) s.heap.size = A at hD ⊢
  have hA : ∀ q : Nat, s.heap.size ≤ q → A q := fun q h => by rw [← hAe]; exact Or.inr h
  have hS : va_S A s.heap s.heap [] := va_S.rf
  have hl := lv_entry ([.ref (ad 0), .int a1, .int a2]) (n := 3) (Nat.le_of_ble_eq_true rfl)
  rw [lg_entry_eq]
  generalize (lg_sl ([.ref (ad 0), .int a1, .int a2]) ++ List.replicate (3 - (lg_sl ([.ref (ad 0), .int a1, .int a2])).length) Slot.unset).toArray = ls at hl ⊢
  have hl : lv_has ls 3 [(0, .ref (ad 0)), (1, .int (a1)), (2, .int (a2))] := hl
  refine lv_aload_n hx hb dX1_mute_0 rfl (lv_at hl 0 rfl) ?_
  refine lv_iconst (v := 0) hx hb dX1_mute_1 (by decide) ?_
  refine md_putT hx hb hts hin0 hown hK hP hD hS (hts (.fieldLink RX1 7 "ConferenceBridgeModel" "thrownCode" "I") (by decide +kernel)) dX1_mute_2 (fun H locs hP hD hS => ?_)
  have hP : va_P (dC, dI) vwCl (md_w ct ad ((md_sT v (0)))) H := hP
  have hD : va_D A (md_w ct ad ((md_sT v (0)))) := hD
  refine lv_iload_n hx hb dX1_mute_5 rfl (lv_at hl 1 rfl) ?_
  refine lv_bipush (v := 8) hx hb dX1_mute_6 (by decide) ?_
  refine vp_callSi (W.runS (As := [.int (a1), .int (8)]) (rest := []) ⟨hx, hb, hml, hown, hts⟩ (metX1_not l a1 (8 : Int32)) (va_cwS 2 hts gX1_mute_X1_not rfl rfl rfl (by decide +kernel) ⟨(Nat.le_of_ble_eq_true rfl), (Nat.le_of_ble_eq_true rfl)⟩) ⟨fun a U g mk q => q, fun U hU hW => ⟨rfl, trivial⟩⟩ rfl rfl hl.1 rfl (lv_room (Nat.le_of_ble_eq_true rfl)) dX1_mute_8 ⟨(Nat.zero_le _), (Nat.zero_le _)⟩) (fun r_1 er_1 => ?_)
  subst er_1
  refine lv_if_eq (tgt := 16) hx hb dX1_mute_11 (by decide) (fun c_2 => ?_) (fun c_2 => ?_)
  · refine lv_aload_n hx hb dX1_mute_16 rfl (lv_at hl 0 rfl) ?_
    refine md_get hx hb hts hin0 hown hK hP 3 (by decide) (hts (.fieldLink RX1 20 "ConferenceBridgeModel" "muted" "[Z") (by decide +kernel)) (z := .ref (ad 3)) rfl dX1_mute_17 ?_
    refine lv_iload_n hx hb dX1_mute_20 rfl (lv_at hl 1 rfl) ?_
    refine lv_iload_n hx hb dX1_mute_21 rfl (lv_at hl 2 rfl) ?_
    refine cb_zastR hx hb hK hP hD hS 3 1 (f := mdS v) rfl rfl (md_not c_2 (by decide)) (ws1 := md_w ct ad ((md_sS (md_sT v (0)) (upd (mdS v) a1.toNatClampNeg (vp_nar .boolean a2))))) rfl dX1_mute_22 (fun H locs hP hD hS => ?_)
    have hP : va_P (dC, dI) vwCl (md_w ct ad ((md_sS (md_sT v (0)) (upd (mdS v) a1.toNatClampNeg (vp_nar .boolean a2))))) H := hP
    have hD : va_D A (md_w ct ad ((md_sS (md_sT v (0)) (upd (mdS v) a1.toNatClampNeg (vp_nar .boolean a2))))) := hD
    refine lv_iconst (v := 1) hx hb dX1_mute_23 (by decide) ?_
    have e9 : stX1_mute v a1 a2 = (md_sS (md_sT v (0)) (upd (mdS v) a1.toNatClampNeg (vp_nar .boolean a2))) := by unfold stX1_mute; rw [if_pos c_2]
    exact W.zret (v := 1) hx hb hr (by decide) (fun t ht hW => ⟨⟨1, (), rfl, by unfold anX1_mute; rw [if_pos c_2], by rw [ht, e9]; exact hP, va_K.moved hW.alike hK, by rw [e9]; exact hD⟩, hS.F ht⟩) hS.2.2 dX1_mute_24
  · refine lv_iconst (v := 0) hx hb dX1_mute_14 (by decide) ?_
    have e9 : stX1_mute v a1 a2 = (md_sT v (0)) := by unfold stX1_mute; rw [if_neg c_2]
    exact W.zret (v := 0) hx hb hr (by decide) (fun t ht hW => ⟨⟨0, (), rfl, by unfold anX1_mute; rw [if_neg c_2], by rw [ht, e9]; exact hP, va_K.moved hW.alike hK, by rw [e9]; exact hD⟩, hS.F ht⟩) hS.2.2 dX1_mute_15

def anX1_speakers (v : md_U) (a1 : Int32) : Int32 := if a1 < 1 then (0) else (if a1 ≤ 8 then (1) else (0))
def stX1_speakers (v : md_U) (a1 : Int32) : md_U := if a1 < 1 then ((md_sT v (0))) else (if a1 ≤ 8 then ((md_sM (md_sT v (0)) (a1))) else ((md_sT v (0))))
set_option maxHeartbeats 4000000 in
set_option maxRecDepth 100000 in
theorem metX1_speakers (l : Launch) (dC : Nat → ClassId) (dI : Nat → Nat → Nat) (ct : Nat → ClassId) (ad : Nat → Nat) (sz : Nat) (v : md_U) (a1 : Int32) : Met l yX1_speakers wsX1_speakers ({ frames := 0, cells := 0, slots := 0, locals := 0 }) (va_Pc [.ref (ad 0), .int a1] (fun U => U.heap.size = sz ∧ md_B dC dI ct ad (fun _ => True) v U)) (va_Qi (fun r (_ : Unit) => r = anX1_speakers v a1) (fun _ => md_B dC dI ct ad (va_A (md_w ct ad v) sz) (stX1_speakers v a1)) (va_A (md_w ct ad v) sz)) 0 0 (va_A (md_w ct ad v) sz) := by
  refine Met.ofW (cc := cX1_speakers) (maxL := 2) (ret := (some .boolean)) (by decide) rfl ?_
  intro p e s m args below meth c s₁ B hml hv
  obtain ⟨rfl, hsz, hP, hK, hD0⟩ := hv
  have hx := B.exec
  have hb := B.bytes
  have hr := B.returns
  have hts := atoms_spec (ws := wsX1_speakers) B.pre
  have hown : s.vm.findClass RX1 = some m.cls := findClass_of_methodNamed B.named
  have hlocks := B.notSynchronized
  have hin0 : ∀ w ∈ u_ws RX1 TX1 9, w ∈ wsX1_speakers := by decide +kernel
  subst hsz
  have hD := hD0.self (sz := s.heap.size)
  generalize hAe : va_A (md_w ct ad v) s.heap.size = A at hD ⊢
  have hA : ∀ q : Nat, s.heap.size ≤ q → A q := fun q h => by rw [← hAe]; exact Or.inr h
  have hS : va_S A s.heap s.heap [] := va_S.rf
  have hl := lv_entry ([.ref (ad 0), .int a1]) (n := 2) (Nat.le_of_ble_eq_true rfl)
  rw [lg_entry_eq]
  generalize (lg_sl ([.ref (ad 0), .int a1]) ++ List.replicate (2 - (lg_sl ([.ref (ad 0), .int a1])).length) Slot.unset).toArray = ls at hl ⊢
  have hl : lv_has ls 2 [(0, .ref (ad 0)), (1, .int (a1))] := hl
  refine lv_aload_n hx hb dX1_speakers_0 rfl (lv_at hl 0 rfl) ?_
  refine lv_iconst (v := 0) hx hb dX1_speakers_1 (by decide) ?_
  refine md_putT hx hb hts hin0 hown hK hP hD hS (hts (.fieldLink RX1 7 "ConferenceBridgeModel" "thrownCode" "I") (by decide +kernel)) dX1_speakers_2 (fun H locs hP hD hS => ?_)
  have hP : va_P (dC, dI) vwCl (md_w ct ad ((md_sT v (0)))) H := hP
  have hD : va_D A (md_w ct ad ((md_sT v (0)))) := hD
  refine lv_iload_n hx hb dX1_speakers_5 rfl (lv_at hl 1 rfl) ?_
  refine lv_iconst (v := 1) hx hb dX1_speakers_6 (by decide) ?_
  refine lv_icmp_lt (tgt := 16) hx hb dX1_speakers_7 (by decide) (fun c_1 => ?_) (fun c_1 => ?_)
  · refine lv_iconst (v := 0) hx hb dX1_speakers_16 (by decide) ?_
    have e9 : stX1_speakers v a1 = (md_sT v (0)) := by unfold stX1_speakers; rw [if_pos c_1]
    exact W.zret (v := 0) hx hb hr (by decide) (fun t ht hW => ⟨⟨0, (), rfl, by unfold anX1_speakers; rw [if_pos c_1], by rw [ht, e9]; exact hP, va_K.moved hW.alike hK, by rw [e9]; exact hD⟩, hS.F ht⟩) hS.2.2 dX1_speakers_17
  · refine lv_iload_n hx hb dX1_speakers_10 rfl (lv_at hl 1 rfl) ?_
    refine lv_bipush (v := 8) hx hb dX1_speakers_11 (by decide) ?_
    refine lv_icmp_le (tgt := 18) hx hb dX1_speakers_13 (by decide) (fun c_2 => ?_) (fun c_2 => ?_)
    · refine lv_aload_n hx hb dX1_speakers_18 rfl (lv_at hl 0 rfl) ?_
      refine lv_iload_n hx hb dX1_speakers_19 rfl (lv_at hl 1 rfl) ?_
      refine md_putM hx hb hts hin0 hown hK hP hD hS (hts (.fieldLink RX1 37 "ConferenceBridgeModel" "most" "I") (by decide +kernel)) dX1_speakers_20 (fun H locs hP hD hS => ?_)
      have hP : va_P (dC, dI) vwCl (md_w ct ad ((md_sM (md_sT v (0)) (a1)))) H := hP
      have hD : va_D A (md_w ct ad ((md_sM (md_sT v (0)) (a1)))) := hD
      refine lv_iconst (v := 1) hx hb dX1_speakers_23 (by decide) ?_
      have e9 : stX1_speakers v a1 = (md_sM (md_sT v (0)) (a1)) := by unfold stX1_speakers; rw [if_neg c_1, if_pos c_2]
      exact W.zret (v := 1) hx hb hr (by decide) (fun t ht hW => ⟨⟨1, (), rfl, by unfold anX1_speakers; rw [if_neg c_1, if_pos c_2], by rw [ht, e9]; exact hP, va_K.moved hW.alike hK, by rw [e9]; exact hD⟩, hS.F ht⟩) hS.2.2 dX1_speakers_24
    · refine lv_iconst (v := 0) hx hb dX1_speakers_16 (by decide) ?_
      have e9 : stX1_speakers v a1 = (md_sT v (0)) := by unfold stX1_speakers; rw [if_neg c_1, if_neg c_2]
      exact W.zret (v := 0) hx hb hr (by decide) (fun t ht hW => ⟨⟨0, (), rfl, by unfold anX1_speakers; rw [if_neg c_1, if_neg c_2], by rw [ht, e9]; exact hP, va_K.moved hW.alike hK, by rw [e9]; exact hD⟩, hS.F ht⟩) hS.2.2 dX1_speakers_17

def anX1_out (v : md_U) (a1 : Int32) (a2 : Int32) : Int32 := if (fnX1_not a1 (8 : Int32)) = 0 then (if (fnX1_not a2 (8 : Int32)) = 0 then ((mdO v ((((8 : Int32) * a1) + a2)).toNatClampNeg)) else ((-1))) else ((-1))
def stX1_out (v : md_U) (a1 : Int32) (a2 : Int32) : md_U := if (fnX1_not a1 (8 : Int32)) = 0 then (if (fnX1_not a2 (8 : Int32)) = 0 then ((md_sT v (0))) else ((md_sT v (0)))) else ((md_sT v (0)))
set_option maxHeartbeats 4000000 in
set_option maxRecDepth 100000 in
theorem metX1_out (l : Launch) (dC : Nat → ClassId) (dI : Nat → Nat → Nat) (ct : Nat → ClassId) (ad : Nat → Nat) (sz : Nat) (v : md_U) (a1 : Int32) (a2 : Int32) : Met l yX1_out wsX1_out ({ frames := 1, cells := 0, slots := 0, locals := 21 }) (va_Pc [.ref (ad 0), .int a1, .int a2] (fun U => U.heap.size = sz ∧ md_B dC dI ct ad (fun _ => True) v U)) (va_Qi (fun r (_ : Unit) => r = anX1_out v a1 a2) (fun _ => md_B dC dI ct ad (va_A (md_w ct ad v) sz) (stX1_out v a1 a2)) (va_A (md_w ct ad v) sz)) 0 0 (va_A (md_w ct ad v) sz) := by
  refine Met.ofW (cc := cX1_out) (maxL := 3) (ret := (some .int)) (by decide) rfl ?_
  intro p e s m args below meth c s₁ B hml hv
  obtain ⟨rfl, hsz, hP, hK, hD0⟩ := hv
  have hx := B.exec
  have hb := B.bytes
  have hr := B.returns
  have hts := atoms_spec (ws := wsX1_out) B.pre
  have hown : s.vm.findClass RX1 = some m.cls := findClass_of_methodNamed B.named
  have hlocks := B.notSynchronized
  have hin0 : ∀ w ∈ u_ws RX1 TX1 9, w ∈ wsX1_out := by decide +kernel
  subst hsz
  have hD := hD0.self (sz := s.heap.size)
  generalize hAe : va_A (md_w ct ad v) s.heap.size = A at hD ⊢
  have hA : ∀ q : Nat, s.heap.size ≤ q → A q := fun q h => by rw [← hAe]; exact Or.inr h
  have hS : va_S A s.heap s.heap [] := va_S.rf
  have hl := lv_entry ([.ref (ad 0), .int a1, .int a2]) (n := 3) (Nat.le_of_ble_eq_true rfl)
  rw [lg_entry_eq]
  generalize (lg_sl ([.ref (ad 0), .int a1, .int a2]) ++ List.replicate (3 - (lg_sl ([.ref (ad 0), .int a1, .int a2])).length) Slot.unset).toArray = ls at hl ⊢
  have hl : lv_has ls 3 [(0, .ref (ad 0)), (1, .int (a1)), (2, .int (a2))] := hl
  refine lv_aload_n hx hb dX1_out_0 rfl (lv_at hl 0 rfl) ?_
  refine lv_iconst (v := 0) hx hb dX1_out_1 (by decide) ?_
  refine md_putT hx hb hts hin0 hown hK hP hD hS (hts (.fieldLink RX1 7 "ConferenceBridgeModel" "thrownCode" "I") (by decide +kernel)) dX1_out_2 (fun H locs hP hD hS => ?_)
  have hP : va_P (dC, dI) vwCl (md_w ct ad ((md_sT v (0)))) H := hP
  have hD : va_D A (md_w ct ad ((md_sT v (0)))) := hD
  refine lv_iload_n hx hb dX1_out_5 rfl (lv_at hl 1 rfl) ?_
  refine lv_bipush (v := 8) hx hb dX1_out_6 (by decide) ?_
  refine vp_callSi (W.runS (As := [.int (a1), .int (8)]) (rest := []) ⟨hx, hb, hml, hown, hts⟩ (metX1_not l a1 (8 : Int32)) (va_cwS 2 hts gX1_out_X1_not rfl rfl rfl (by decide +kernel) ⟨(Nat.le_of_ble_eq_true rfl), (Nat.le_of_ble_eq_true rfl)⟩) ⟨fun a U g mk q => q, fun U hU hW => ⟨rfl, trivial⟩⟩ rfl rfl hl.1 rfl (lv_room (Nat.le_of_ble_eq_true rfl)) dX1_out_8 ⟨(Nat.zero_le _), (Nat.zero_le _)⟩) (fun r_1 er_1 => ?_)
  subst er_1
  refine lv_if_ne (tgt := 23) hx hb dX1_out_11 (by decide) (fun c_2 => ?_) (fun c_2 => ?_)
  · refine lv_iconst (v := (-1)) hx hb dX1_out_23 (by decide) ?_
    refine lv_goto (tgt := 38) hx hb dX1_out_24 (by decide) ?_
    have e9 : stX1_out v a1 a2 = (md_sT v (0)) := by unfold stX1_out; rw [if_neg c_2]
    exact W.iret (v := (-1)) hx hb hr (fun t ht hW => ⟨⟨(-1), (), rfl, by unfold anX1_out; rw [if_neg c_2], by rw [ht, e9]; exact hP, va_K.moved hW.alike hK, by rw [e9]; exact hD⟩, hS.F ht⟩) hS.2.2 dX1_out_38
  · refine lv_iload_n hx hb dX1_out_14 rfl (lv_at hl 2 rfl) ?_
    refine lv_bipush (v := 8) hx hb dX1_out_15 (by decide) ?_
    refine vp_callSi (W.runS (As := [.int (a2), .int (8)]) (rest := []) ⟨hx, hb, hml, hown, hts⟩ (metX1_not l a2 (8 : Int32)) (va_cwS 2 hts gX1_out_X1_not rfl rfl rfl (by decide +kernel) ⟨(Nat.le_of_ble_eq_true rfl), (Nat.le_of_ble_eq_true rfl)⟩) ⟨fun a U g mk q => q, fun U hU hW => ⟨rfl, trivial⟩⟩ rfl rfl hl.1 rfl (lv_room (Nat.le_of_ble_eq_true rfl)) dX1_out_17 ⟨(Nat.zero_le _), (Nat.zero_le _)⟩) (fun r_3 er_3 => ?_)
    subst er_3
    refine lv_if_eq (tgt := 27) hx hb dX1_out_20 (by decide) (fun c_4 => ?_) (fun c_4 => ?_)
    · refine lv_aload_n hx hb dX1_out_27 rfl (lv_at hl 0 rfl) ?_
      refine md_get hx hb hts hin0 hown hK hP 5 (by decide) (hts (.fieldLink RX1 27 "ConferenceBridgeModel" "out" "[I") (by decide +kernel)) (z := .ref (ad 5)) rfl dX1_out_28 ?_
      refine lv_bipush (v := 8) hx hb dX1_out_31 (by decide) ?_
      refine lv_iload_n hx hb dX1_out_33 rfl (lv_at hl 1 rfl) ?_
      refine lv_imul hx hb dX1_out_34 ?_
      refine lv_iload_n hx hb dX1_out_35 rfl (lv_at hl 2 rfl) ?_
      refine lv_iadd hx hb dX1_out_36 ?_
      refine va_iald hx hb hK hP 5 0 (f := mdO v) rfl rfl (md_ix (md_not c_2 (by decide)) (md_not c_4 (by decide))) dX1_out_37 ?_
      have e9 : stX1_out v a1 a2 = (md_sT v (0)) := by unfold stX1_out; rw [if_pos c_2, if_pos c_4]
      exact W.iret (v := (mdO v ((((8 : Int32) * a1) + a2)).toNatClampNeg)) hx hb hr (fun t ht hW => ⟨⟨(mdO v ((((8 : Int32) * a1) + a2)).toNatClampNeg), (), rfl, by unfold anX1_out; rw [if_pos c_2, if_pos c_4], by rw [ht, e9]; exact hP, va_K.moved hW.alike hK, by rw [e9]; exact hD⟩, hS.F ht⟩) hS.2.2 dX1_out_38
    · refine lv_iconst (v := (-1)) hx hb dX1_out_23 (by decide) ?_
      refine lv_goto (tgt := 38) hx hb dX1_out_24 (by decide) ?_
      have e9 : stX1_out v a1 a2 = (md_sT v (0)) := by unfold stX1_out; rw [if_pos c_2, if_neg c_4]
      exact W.iret (v := (-1)) hx hb hr (fun t ht hW => ⟨⟨(-1), (), rfl, by unfold anX1_out; rw [if_pos c_2, if_neg c_4], by rw [ht, e9]; exact hP, va_K.moved hW.alike hK, by rw [e9]; exact hD⟩, hS.F ht⟩) hS.2.2 dX1_out_38

def anX1_energy (v : md_U) (a1 : Int32) : Int64 := if (fnX1_not a1 (8 : Int32)) = 0 then ((mdE v a1.toNatClampNeg)) else (0)
def stX1_energy (v : md_U) (a1 : Int32) : md_U := if (fnX1_not a1 (8 : Int32)) = 0 then ((md_sT v (0))) else ((md_sT v (1)))
set_option maxHeartbeats 4000000 in
set_option maxRecDepth 100000 in
theorem metX1_energy (l : Launch) (dC : Nat → ClassId) (dI : Nat → Nat → Nat) (ct : Nat → ClassId) (ad : Nat → Nat) (sz : Nat) (v : md_U) (a1 : Int32) : Met l yX1_energy wsX1_energy ({ frames := 1, cells := 0, slots := 0, locals := 21 }) (va_Pc [.ref (ad 0), .int a1] (fun U => U.heap.size = sz ∧ md_B dC dI ct ad (fun _ => True) v U)) (va_Ql (fun r (_ : Unit) => r = anX1_energy v a1) (fun _ => md_B dC dI ct ad (va_A (md_w ct ad v) sz) (stX1_energy v a1)) (va_A (md_w ct ad v) sz)) 0 0 (va_A (md_w ct ad v) sz) := by
  refine Met.ofW (cc := cX1_energy) (maxL := 2) (ret := (some .long)) (by decide) rfl ?_
  intro p e s m args below meth c s₁ B hml hv
  obtain ⟨rfl, hsz, hP, hK, hD0⟩ := hv
  have hx := B.exec
  have hb := B.bytes
  have hr := B.returns
  have hts := atoms_spec (ws := wsX1_energy) B.pre
  have hown : s.vm.findClass RX1 = some m.cls := findClass_of_methodNamed B.named
  have hlocks := B.notSynchronized
  have hin0 : ∀ w ∈ u_ws RX1 TX1 9, w ∈ wsX1_energy := by decide +kernel
  subst hsz
  have hD := hD0.self (sz := s.heap.size)
  generalize hAe : va_A (md_w ct ad v) s.heap.size = A at hD ⊢
  have hA : ∀ q : Nat, s.heap.size ≤ q → A q := fun q h => by rw [← hAe]; exact Or.inr h
  have hS : va_S A s.heap s.heap [] := va_S.rf
  have hl := lv_entry ([.ref (ad 0), .int a1]) (n := 2) (Nat.le_of_ble_eq_true rfl)
  rw [lg_entry_eq]
  generalize (lg_sl ([.ref (ad 0), .int a1]) ++ List.replicate (2 - (lg_sl ([.ref (ad 0), .int a1])).length) Slot.unset).toArray = ls at hl ⊢
  have hl : lv_has ls 2 [(0, .ref (ad 0)), (1, .int (a1))] := hl
  refine lv_aload_n hx hb dX1_energy_0 rfl (lv_at hl 0 rfl) ?_
  refine lv_iload_n hx hb dX1_energy_1 rfl (lv_at hl 1 rfl) ?_
  refine lv_bipush (v := 8) hx hb dX1_energy_2 (by decide) ?_
  refine vp_callSi (W.runS (As := [.int (a1), .int (8)]) (rest := [.ref (ad 0)]) ⟨hx, hb, hml, hown, hts⟩ (metX1_not l a1 (8 : Int32)) (va_cwS 2 hts gX1_energy_X1_not rfl rfl rfl (by decide +kernel) ⟨(Nat.le_of_ble_eq_true rfl), (Nat.le_of_ble_eq_true rfl)⟩) ⟨fun a U g mk q => q, fun U hU hW => ⟨rfl, trivial⟩⟩ rfl rfl hl.1 rfl (lv_room (Nat.le_of_ble_eq_true rfl)) dX1_energy_4 ⟨(Nat.zero_le _), (Nat.zero_le _)⟩) (fun r_1 er_1 => ?_)
  subst er_1
  refine lv_if_eq (tgt := 14) hx hb dX1_energy_7 (by decide) (fun c_2 => ?_) (fun c_2 => ?_)
  · refine lv_iconst (v := 0) hx hb dX1_energy_14 (by decide) ?_
    refine md_putT hx hb hts hin0 hown hK hP hD hS (hts (.fieldLink RX1 7 "ConferenceBridgeModel" "thrownCode" "I") (by decide +kernel)) dX1_energy_15 (fun H locs hP hD hS => ?_)
    have hP : va_P (dC, dI) vwCl (md_w ct ad ((md_sT v (0)))) H := hP
    have hD : va_D A (md_w ct ad ((md_sT v (0)))) := hD
    refine lv_aload_n hx hb dX1_energy_18 rfl (lv_at hl 0 rfl) ?_
    refine md_get hx hb hts hin0 hown hK hP 0 (by decide) (hts (.fieldLink RX1 7 "ConferenceBridgeModel" "thrownCode" "I") (by decide +kernel)) (z := .int (0)) rfl dX1_energy_19 ?_
    refine lv_if_eq (tgt := 29) hx hb dX1_energy_22 (by decide) (fun _ => ?_) (fun c9 => absurd (by decide) c9)
    refine lv_aload_n hx hb dX1_energy_29 rfl (lv_at hl 0 rfl) ?_
    refine md_get hx hb hts hin0 hown hK hP 7 (by decide) (hts (.fieldLink RX1 33 "ConferenceBridgeModel" "energy" "[J") (by decide +kernel)) (z := .ref (ad 7)) rfl dX1_energy_30 ?_
    refine lv_iload_n hx hb dX1_energy_33 rfl (lv_at hl 1 rfl) ?_
    refine va_lald hx hb hK hP 7 3 (f := mdE v) rfl rfl (md_not c_2 (by decide)) dX1_energy_34 ?_
    have e9 : stX1_energy v a1 = (md_sT v (0)) := by unfold stX1_energy; rw [if_pos c_2]
    exact W.lret (v := (mdE v a1.toNatClampNeg)) hx hb hr (fun t ht hW => ⟨⟨(mdE v a1.toNatClampNeg), (), rfl, by unfold anX1_energy; rw [if_pos c_2], by rw [ht, e9]; exact hP, va_K.moved hW.alike hK, by rw [e9]; exact hD⟩, hS.F ht⟩) hS.2.2 dX1_energy_35
  · refine lv_iconst (v := 1) hx hb dX1_energy_10 (by decide) ?_
    refine lv_goto (tgt := 15) hx hb dX1_energy_11 (by decide) ?_
    refine md_putT hx hb hts hin0 hown hK hP hD hS (hts (.fieldLink RX1 7 "ConferenceBridgeModel" "thrownCode" "I") (by decide +kernel)) dX1_energy_15 (fun H locs hP hD hS => ?_)
    have hP : va_P (dC, dI) vwCl (md_w ct ad ((md_sT v (1)))) H := hP
    have hD : va_D A (md_w ct ad ((md_sT v (1)))) := hD
    refine lv_aload_n hx hb dX1_energy_18 rfl (lv_at hl 0 rfl) ?_
    refine md_get hx hb hts hin0 hown hK hP 0 (by decide) (hts (.fieldLink RX1 7 "ConferenceBridgeModel" "thrownCode" "I") (by decide +kernel)) (z := .int (1)) rfl dX1_energy_19 ?_
    refine lv_if_eq (tgt := 29) hx hb dX1_energy_22 (by decide) (fun c9 => absurd c9 (by decide)) (fun _ => ?_)
    refine lv_lconst (v := 0) hx hb dX1_energy_25 (by decide) ?_
    refine lv_goto (tgt := 35) hx hb dX1_energy_26 (by decide) ?_
    have e9 : stX1_energy v a1 = (md_sT v (1)) := by unfold stX1_energy; rw [if_neg c_2]
    exact W.lret (v := 0) hx hb hr (fun t ht hW => ⟨⟨0, (), rfl, by unfold anX1_energy; rw [if_neg c_2], by rw [ht, e9]; exact hP, va_K.moved hW.alike hK, by rw [e9]; exact hD⟩, hS.F ht⟩) hS.2.2 dX1_energy_35
