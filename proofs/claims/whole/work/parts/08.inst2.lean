/-! the reference's coders over any law that it has; its decode, encode and put -/
def fnX1_meaning (a0 a1 : Int32) : Int32 := if a0 = 0 then fnX1_meaning_0 a1.toNatClampNeg else fnX1_meaning_1 a1.toNatClampNeg
def fnX1_codeOf (a0 a1 : Int32) : Int32 := if a0 = 0 then fnX1_codeOf_0 a1 else fnX1_codeOf_1 a1
theorem metX1_meaning (l : Launch) (a0 a1 : Int32) (h0 : a0 = 0 ∨ a0 = 1) (h1 : vp_in a1 256) : Met l yX1_meaning wsX1_meaning ({ frames := 0, cells := 0, slots := 0, locals := 0 }) (va_Pc [.int a0, .int a1] (fun _ => True)) (vp_Si (fun r => r = fnX1_meaning a0 a1)) 0 0 (fun _ => False) := by
  obtain ⟨n, hn, rfl⟩ := vp_in_of h1 (by decide)
  rcases h0 with rfl | rfl
  · have e : fnX1_meaning 0 (nI n) = fnX1_meaning_0 n := by unfold fnX1_meaning; rw [if_pos rfl, nI_clamp (by omega)]
    rw [e]; exact metX1_meaning_0 l n hn
  · have e : fnX1_meaning 1 (nI n) = fnX1_meaning_1 n := by unfold fnX1_meaning; rw [if_neg (by decide), nI_clamp (by omega)]
    rw [e]; exact metX1_meaning_1 l n hn
theorem metX1_codeOf (l : Launch) (a0 a1 : Int32) (h0 : a0 = 0 ∨ a0 = 1) (hx1 : -32768 ≤ a1.toInt) (hx2 : a1.toInt ≤ 32767) : Met l yX1_codeOf wsX1_codeOf ({ frames := 0, cells := 0, slots := 0, locals := 0 }) (va_Pc [.int a0, .int a1] (fun _ => True)) (vp_Si (fun r => r = fnX1_codeOf a0 a1)) 0 0 (fun _ => False) := by
  rcases h0 with rfl | rfl
  · have e : fnX1_codeOf 0 a1 = fnX1_codeOf_0 a1 := by unfold fnX1_codeOf; rw [if_pos rfl]
    rw [e]; exact metX1_codeOf_0 l a1 hx1 hx2
  · have e : fnX1_codeOf 1 a1 = fnX1_codeOf_1 a1 := by unfold fnX1_codeOf; rw [if_neg (by decide)]
    rw [e]; exact metX1_codeOf_1 l a1 hx1 hx2
theorem md_law01 {x : Int32} (h : (fnX1_not x (2 : Int32)) = 0) : x = 0 ∨ x = 1 := by
  obtain ⟨j, hj, rfl⟩ := vp_in_of (md_not (n := 2) h (by decide)) (by decide)
  match j, hj with
  | 0, _ => exact Or.inl rfl
  | 1, _ => exact Or.inr rfl
theorem md_255 (x : Int32) : vp_in (x &&& (255 : Int32)) 256 := pk_andIn x 8 (by decide) (by decide)
theorem md_l2i {x : Int64} (h1 : -32768 ≤ x.toInt) (h2 : x.toInt ≤ 32767) : x.toInt32.toInt = x.toInt := by
  rw [Int64.toInt_toInt32]
  exact Int.bmod_eq_of_le (by omega) (by omega)
theorem md_held_cases (x : Int64) : (32767 < x.toInt ∧ fnX1_held x = 32767) ∨ (x.toInt < -32768 ∧ fnX1_held x = -32768) ∨ (-32768 ≤ x.toInt ∧ x.toInt ≤ 32767 ∧ fnX1_held x = x.toInt32) := by
  unfold fnX1_held
  by_cases h1 : lg_cmp x 32767 ≤ 0
  · rw [if_pos h1]
    rw [lg_cmp_le, Int64.le_iff_toInt_le] at h1
    have h1' : x.toInt ≤ 32767 := h1
    by_cases h2 : 0 ≤ lg_cmp x (-32768)
    · rw [if_pos h2]
      rw [lg_cmp_ge, Int64.le_iff_toInt_le] at h2
      have h2' : -32768 ≤ x.toInt := h2
      exact Or.inr (Or.inr ⟨h2', h1', rfl⟩)
    · rw [if_neg h2]
      rw [lg_cmp_ge, Int64.le_iff_toInt_le] at h2
      have h2' : ¬ -32768 ≤ x.toInt := h2
      exact Or.inr (Or.inl ⟨by omega, rfl⟩)
  · rw [if_neg h1]
    rw [lg_cmp_le, Int64.le_iff_toInt_le] at h1
    have h1' : ¬ x.toInt ≤ 32767 := h1
    exact Or.inl ⟨by omega, rfl⟩
theorem md_held_lo (x : Int64) : -32768 ≤ (fnX1_held x).toInt := by
  rcases md_held_cases x with ⟨_, e⟩ | ⟨_, e⟩ | ⟨h1, h2, e⟩
  · rw [e]; decide
  · rw [e]; decide
  · rw [e, md_l2i h1 h2]; exact h1
theorem md_held_hi (x : Int64) : (fnX1_held x).toInt ≤ 32767 := by
  rcases md_held_cases x with ⟨_, e⟩ | ⟨_, e⟩ | ⟨h1, h2, e⟩
  · rw [e]; decide
  · rw [e]; decide
  · rw [e, md_l2i h1 h2]; exact h2

def anX1_decode (v : md_U) (a1 : Int32) (a2 : Int32) : Int32 := if (fnX1_not a1 (2 : Int32)) = 0 then ((fnX1_meaning a1 (a2 &&& (255 : Int32)))) else (0)
def stX1_decode (v : md_U) (a1 : Int32) (a2 : Int32) : md_U := if (fnX1_not a1 (2 : Int32)) = 0 then ((md_sT v (0))) else ((md_sT v (1)))
set_option maxHeartbeats 4000000 in
set_option maxRecDepth 100000 in
theorem metX1_decode (l : Launch) (dC : Nat → ClassId) (dI : Nat → Nat → Nat) (ct : Nat → ClassId) (ad : Nat → Nat) (sz : Nat) (v : md_U) (a1 : Int32) (a2 : Int32) : Met l yX1_decode wsX1_decode ({ frames := 1, cells := 0, slots := 0, locals := 26 }) (va_Pc [.ref (ad 0), .int a1, .int a2] (fun U => U.heap.size = sz ∧ md_B dC dI ct ad (fun _ => True) v U)) (va_Qi (fun r (_ : Unit) => r = anX1_decode v a1 a2) (fun _ => md_B dC dI ct ad (va_A (md_w ct ad v) sz) (stX1_decode v a1 a2)) (va_A (md_w ct ad v) sz)) 0 0 (va_A (md_w ct ad v) sz) := by
  refine Met.ofW (cc := cX1_decode) (maxL := 3) (ret := (some .int)) (by decide) rfl ?_
  intro p e s m args below meth c s₁ B hml hv
  obtain ⟨rfl, hsz, hP, hK, hD0⟩ := hv
  have hx := B.exec
  have hb := B.bytes
  have hr := B.returns
  have hts := atoms_spec (ws := wsX1_decode) B.pre
  have hown : s.vm.findClass RX1 = some m.cls := findClass_of_methodNamed B.named
  have hlocks := B.notSynchronized
  have hin0 : ∀ w ∈ u_ws RX1 TX1 9, w ∈ wsX1_decode := by decide +kernel
  subst hsz
  have hD := hD0.self (sz := s.heap.size)
  generalize hAe : va_A (md_w ct ad v) s.heap.size = A at hD ⊢
  have hA : ∀ q : Nat, s.heap.size ≤ q → A q := fun q h => by rw [← hAe]; exact Or.inr h
  have hS : va_S A s.heap s.heap [] := va_S.rf
  have hl := lv_entry ([.ref (ad 0), .int a1, .int a2]) (n := 3) (Nat.le_of_ble_eq_true rfl)
  rw [lg_entry_eq]
  generalize (lg_sl ([.ref (ad 0), .int a1, .int a2]) ++ List.replicate (3 - (lg_sl ([.ref (ad 0), .int a1, .int a2])).length) Slot.unset).toArray = ls at hl ⊢
  have hl : lv_has ls 3 [(0, .ref (ad 0)), (1, .int (a1)), (2, .int (a2))] := hl
  refine lv_aload_n hx hb dX1_decode_0 rfl (lv_at hl 0 rfl) ?_
  refine lv_iload_n hx hb dX1_decode_1 rfl (lv_at hl 1 rfl) ?_
  refine lv_iconst (v := 2) hx hb dX1_decode_2 (by decide) ?_
  refine vp_callSi (W.runS (As := [.int (a1), .int (2)]) (rest := [.ref (ad 0)]) ⟨hx, hb, hml, hown, hts⟩ (metX1_not l a1 (2 : Int32)) (va_cwS 2 hts gX1_decode_X1_not rfl rfl rfl (by decide +kernel) ⟨(Nat.le_of_ble_eq_true rfl), (Nat.le_of_ble_eq_true rfl)⟩) ⟨fun a U g mk q => q, fun U hU hW => ⟨rfl, trivial⟩⟩ rfl rfl hl.1 rfl (lv_room (Nat.le_of_ble_eq_true rfl)) dX1_decode_3 ⟨(Nat.zero_le _), (Nat.zero_le _)⟩) (fun r_1 er_1 => ?_)
  subst er_1
  refine lv_if_eq (tgt := 13) hx hb dX1_decode_6 (by decide) (fun c_2 => ?_) (fun c_2 => ?_)
  · refine lv_iconst (v := 0) hx hb dX1_decode_13 (by decide) ?_
    refine md_putT hx hb hts hin0 hown hK hP hD hS (hts (.fieldLink RX1 7 "ConferenceBridgeModel" "thrownCode" "I") (by decide +kernel)) dX1_decode_14 (fun H locs hP hD hS => ?_)
    have hP : va_P (dC, dI) vwCl (md_w ct ad ((md_sT v (0)))) H := hP
    have hD : va_D A (md_w ct ad ((md_sT v (0)))) := hD
    refine lv_aload_n hx hb dX1_decode_17 rfl (lv_at hl 0 rfl) ?_
    refine md_get hx hb hts hin0 hown hK hP 0 (by decide) (hts (.fieldLink RX1 7 "ConferenceBridgeModel" "thrownCode" "I") (by decide +kernel)) (z := .int (0)) rfl dX1_decode_18 ?_
    refine lv_if_eq (tgt := 28) hx hb dX1_decode_21 (by decide) (fun _ => ?_) (fun c9 => absurd (by decide) c9)
    refine lv_iload_n hx hb dX1_decode_28 rfl (lv_at hl 1 rfl) ?_
    refine lv_iload_n hx hb dX1_decode_29 rfl (lv_at hl 2 rfl) ?_
    refine lv_sipush (v := 255) hx hb dX1_decode_30 (by decide) ?_
    refine lv_iand hx hb dX1_decode_33 ?_
    refine vp_callSi (W.runS (As := [.int (a1), .int ((a2 &&& (255 : Int32)))]) (rest := []) ⟨hx, hb, hml, hown, hts⟩ (metX1_meaning l a1 (a2 &&& (255 : Int32)) (md_law01 c_2) (md_255 a2)) (va_cwS 2 hts gX1_decode_X1_meaning rfl rfl rfl (by decide +kernel) ⟨(Nat.le_of_ble_eq_true rfl), (Nat.le_of_ble_eq_true rfl)⟩) ⟨fun a U g mk q => q, fun U hU hW => ⟨rfl, trivial⟩⟩ rfl rfl hl.1 rfl (lv_room (Nat.le_of_ble_eq_true rfl)) dX1_decode_34 ⟨(Nat.zero_le _), (Nat.zero_le _)⟩) (fun r_4 er_4 => ?_)
    subst er_4
    have e9 : stX1_decode v a1 a2 = (md_sT v (0)) := by unfold stX1_decode; rw [if_pos c_2]
    exact W.iret (v := (fnX1_meaning a1 (a2 &&& (255 : Int32)))) hx hb hr (fun t ht hW => ⟨⟨(fnX1_meaning a1 (a2 &&& (255 : Int32))), (), rfl, by unfold anX1_decode; rw [if_pos c_2], by rw [ht, e9]; exact hP, va_K.moved hW.alike hK, by rw [e9]; exact hD⟩, hS.F ht⟩) hS.2.2 dX1_decode_37
  · refine lv_iconst (v := 1) hx hb dX1_decode_9 (by decide) ?_
    refine lv_goto (tgt := 14) hx hb dX1_decode_10 (by decide) ?_
    refine md_putT hx hb hts hin0 hown hK hP hD hS (hts (.fieldLink RX1 7 "ConferenceBridgeModel" "thrownCode" "I") (by decide +kernel)) dX1_decode_14 (fun H locs hP hD hS => ?_)
    have hP : va_P (dC, dI) vwCl (md_w ct ad ((md_sT v (1)))) H := hP
    have hD : va_D A (md_w ct ad ((md_sT v (1)))) := hD
    refine lv_aload_n hx hb dX1_decode_17 rfl (lv_at hl 0 rfl) ?_
    refine md_get hx hb hts hin0 hown hK hP 0 (by decide) (hts (.fieldLink RX1 7 "ConferenceBridgeModel" "thrownCode" "I") (by decide +kernel)) (z := .int (1)) rfl dX1_decode_18 ?_
    refine lv_if_eq (tgt := 28) hx hb dX1_decode_21 (by decide) (fun c9 => absurd c9 (by decide)) (fun _ => ?_)
    refine lv_iconst (v := 0) hx hb dX1_decode_24 (by decide) ?_
    refine lv_goto (tgt := 37) hx hb dX1_decode_25 (by decide) ?_
    have e9 : stX1_decode v a1 a2 = (md_sT v (1)) := by unfold stX1_decode; rw [if_neg c_2]
    exact W.iret (v := 0) hx hb hr (fun t ht hW => ⟨⟨0, (), rfl, by unfold anX1_decode; rw [if_neg c_2], by rw [ht, e9]; exact hP, va_K.moved hW.alike hK, by rw [e9]; exact hD⟩, hS.F ht⟩) hS.2.2 dX1_decode_37

def anX1_encode (v : md_U) (a1 : Int32) (a2 : Int32) : Int32 := if (fnX1_not a1 (2 : Int32)) = 0 then ((fnX1_codeOf a1 (fnX1_held (a2.toInt64)))) else ((-1))
def stX1_encode (v : md_U) (a1 : Int32) (a2 : Int32) : md_U := if (fnX1_not a1 (2 : Int32)) = 0 then ((md_sT v (0))) else ((md_sT v (0)))
set_option maxHeartbeats 4000000 in
set_option maxRecDepth 100000 in
theorem metX1_encode (l : Launch) (dC : Nat → ClassId) (dI : Nat → Nat → Nat) (ct : Nat → ClassId) (ad : Nat → Nat) (sz : Nat) (v : md_U) (a1 : Int32) (a2 : Int32) : Met l yX1_encode wsX1_encode ({ frames := 1, cells := 0, slots := 0, locals := 23 }) (va_Pc [.ref (ad 0), .int a1, .int a2] (fun U => U.heap.size = sz ∧ md_B dC dI ct ad (fun _ => True) v U)) (va_Qi (fun r (_ : Unit) => r = anX1_encode v a1 a2) (fun _ => md_B dC dI ct ad (va_A (md_w ct ad v) sz) (stX1_encode v a1 a2)) (va_A (md_w ct ad v) sz)) 0 0 (va_A (md_w ct ad v) sz) := by
  refine Met.ofW (cc := cX1_encode) (maxL := 3) (ret := (some .int)) (by decide) rfl ?_
  intro p e s m args below meth c s₁ B hml hv
  obtain ⟨rfl, hsz, hP, hK, hD0⟩ := hv
  have hx := B.exec
  have hb := B.bytes
  have hr := B.returns
  have hts := atoms_spec (ws := wsX1_encode) B.pre
  have hown : s.vm.findClass RX1 = some m.cls := findClass_of_methodNamed B.named
  have hlocks := B.notSynchronized
  have hin0 : ∀ w ∈ u_ws RX1 TX1 9, w ∈ wsX1_encode := by decide +kernel
  subst hsz
  have hD := hD0.self (sz := s.heap.size)
  generalize hAe : va_A (md_w ct ad v) s.heap.size = A at hD ⊢
  have hA : ∀ q : Nat, s.heap.size ≤ q → A q := fun q h => by rw [← hAe]; exact Or.inr h
  have hS : va_S A s.heap s.heap [] := va_S.rf
  have hl := lv_entry ([.ref (ad 0), .int a1, .int a2]) (n := 3) (Nat.le_of_ble_eq_true rfl)
  rw [lg_entry_eq]
  generalize (lg_sl ([.ref (ad 0), .int a1, .int a2]) ++ List.replicate (3 - (lg_sl ([.ref (ad 0), .int a1, .int a2])).length) Slot.unset).toArray = ls at hl ⊢
  have hl : lv_has ls 3 [(0, .ref (ad 0)), (1, .int (a1)), (2, .int (a2))] := hl
  refine lv_aload_n hx hb dX1_encode_0 rfl (lv_at hl 0 rfl) ?_
  refine lv_iconst (v := 0) hx hb dX1_encode_1 (by decide) ?_
  refine md_putT hx hb hts hin0 hown hK hP hD hS (hts (.fieldLink RX1 7 "ConferenceBridgeModel" "thrownCode" "I") (by decide +kernel)) dX1_encode_2 (fun H locs hP hD hS => ?_)
  have hP : va_P (dC, dI) vwCl (md_w ct ad ((md_sT v (0)))) H := hP
  have hD : va_D A (md_w ct ad ((md_sT v (0)))) := hD
  refine lv_iload_n hx hb dX1_encode_5 rfl (lv_at hl 1 rfl) ?_
  refine lv_iconst (v := 2) hx hb dX1_encode_6 (by decide) ?_
  refine vp_callSi (W.runS (As := [.int (a1), .int (2)]) (rest := []) ⟨hx, hb, hml, hown, hts⟩ (metX1_not l a1 (2 : Int32)) (va_cwS 2 hts gX1_encode_X1_not rfl rfl rfl (by decide +kernel) ⟨(Nat.le_of_ble_eq_true rfl), (Nat.le_of_ble_eq_true rfl)⟩) ⟨fun a U g mk q => q, fun U hU hW => ⟨rfl, trivial⟩⟩ rfl rfl hl.1 rfl (lv_room (Nat.le_of_ble_eq_true rfl)) dX1_encode_7 ⟨(Nat.zero_le _), (Nat.zero_le _)⟩) (fun r_1 er_1 => ?_)
  subst er_1
  refine lv_if_eq (tgt := 17) hx hb dX1_encode_10 (by decide) (fun c_2 => ?_) (fun c_2 => ?_)
  · refine lv_iload_n hx hb dX1_encode_17 rfl (lv_at hl 1 rfl) ?_
    refine lv_iload_n hx hb dX1_encode_18 rfl (lv_at hl 2 rfl) ?_
    refine lv_i2l (v := a2.toInt64) hx hb dX1_encode_19 rfl ?_
    refine vp_callSi (W.runS (As := [.long (a2.toInt64)]) (rest := [.int (a1)]) ⟨hx, hb, hml, hown, hts⟩ (metX1_held l (a2.toInt64)) (va_cwS 1 hts gX1_encode_X1_held rfl rfl rfl (by decide +kernel) ⟨(Nat.le_of_ble_eq_true rfl), (Nat.le_of_ble_eq_true rfl)⟩) ⟨fun a U g mk q => q, fun U hU hW => ⟨rfl, trivial⟩⟩ rfl rfl hl.1 rfl (lv_room (Nat.le_of_ble_eq_true rfl)) dX1_encode_20 ⟨(Nat.zero_le _), (Nat.zero_le _)⟩) (fun r_3 er_3 => ?_)
    subst er_3
    refine vp_callSi (W.runS (As := [.int (a1), .int ((fnX1_held (a2.toInt64)))]) (rest := []) ⟨hx, hb, hml, hown, hts⟩ (metX1_codeOf l a1 (fnX1_held (a2.toInt64)) (md_law01 c_2) (md_held_lo _) (md_held_hi _)) (va_cwS 2 hts gX1_encode_X1_codeOf rfl rfl rfl (by decide +kernel) ⟨(Nat.le_of_ble_eq_true rfl), (Nat.le_of_ble_eq_true rfl)⟩) ⟨fun a U g mk q => q, fun U hU hW => ⟨rfl, trivial⟩⟩ rfl rfl hl.1 rfl (lv_room (Nat.le_of_ble_eq_true rfl)) dX1_encode_23 ⟨(Nat.zero_le _), (Nat.zero_le _)⟩) (fun r_4 er_4 => ?_)
    subst er_4
    have e9 : stX1_encode v a1 a2 = (md_sT v (0)) := by unfold stX1_encode; rw [if_pos c_2]
    exact W.iret (v := (fnX1_codeOf a1 (fnX1_held (a2.toInt64)))) hx hb hr (fun t ht hW => ⟨⟨(fnX1_codeOf a1 (fnX1_held (a2.toInt64))), (), rfl, by unfold anX1_encode; rw [if_pos c_2], by rw [ht, e9]; exact hP, va_K.moved hW.alike hK, by rw [e9]; exact hD⟩, hS.F ht⟩) hS.2.2 dX1_encode_26
  · refine lv_iconst (v := (-1)) hx hb dX1_encode_13 (by decide) ?_
    refine lv_goto (tgt := 26) hx hb dX1_encode_14 (by decide) ?_
    have e9 : stX1_encode v a1 a2 = (md_sT v (0)) := by unfold stX1_encode; rw [if_neg c_2]
    exact W.iret (v := (-1)) hx hb hr (fun t ht hW => ⟨⟨(-1), (), rfl, by unfold anX1_encode; rw [if_neg c_2], by rw [ht, e9]; exact hP, va_K.moved hW.alike hK, by rw [e9]; exact hD⟩, hS.F ht⟩) hS.2.2 dX1_encode_26

def anX1_put (v : md_U) (a1 : Int32) (a2 : Int32) (a3 : Int32) : Int32 := if (fnX1_not a1 (8 : Int32)) = 0 then (if (fnX1_not a2 (8 : Int32)) = 0 then (1) else (0)) else (0)
def stX1_put (v : md_U) (a1 : Int32) (a2 : Int32) (a3 : Int32) : md_U := if (fnX1_not a1 (8 : Int32)) = 0 then (if (fnX1_not a2 (8 : Int32)) = 0 then ((md_sI (md_sT v (0)) (upd (mdI v) ((((8 : Int32) * a1) + a2)).toNatClampNeg (a3 &&& (255 : Int32))))) else ((md_sT v (0)))) else ((md_sT v (0)))
set_option maxHeartbeats 4000000 in
set_option maxRecDepth 100000 in
theorem metX1_put (l : Launch) (dC : Nat → ClassId) (dI : Nat → Nat → Nat) (ct : Nat → ClassId) (ad : Nat → Nat) (sz : Nat) (v : md_U) (a1 : Int32) (a2 : Int32) (a3 : Int32) : Met l yX1_put wsX1_put ({ frames := 1, cells := 0, slots := 0, locals := 21 }) (va_Pc [.ref (ad 0), .int a1, .int a2, .int a3] (fun U => U.heap.size = sz ∧ md_B dC dI ct ad (fun _ => True) v U)) (va_Qi (fun r (_ : Unit) => r = anX1_put v a1 a2 a3) (fun _ => md_B dC dI ct ad (va_A (md_w ct ad v) sz) (stX1_put v a1 a2 a3)) (va_A (md_w ct ad v) sz)) 0 0 (va_A (md_w ct ad v) sz) := by
  refine Met.ofW (cc := cX1_put) (maxL := 4) (ret := (some .boolean)) (by decide) rfl ?_
  intro p e s m args below meth c s₁ B hml hv
  obtain ⟨rfl, hsz, hP, hK, hD0⟩ := hv
  have hx := B.exec
  have hb := B.bytes
  have hr := B.returns
  have hts := atoms_spec (ws := wsX1_put) B.pre
  have hown : s.vm.findClass RX1 = some m.cls := findClass_of_methodNamed B.named
  have hlocks := B.notSynchronized
  have hin0 : ∀ w ∈ u_ws RX1 TX1 9, w ∈ wsX1_put := by decide +kernel
  subst hsz
  have hD := hD0.self (sz := s.heap.size)
  generalize hAe : va_A (md_w ct ad v) s.heap.size = A at hD ⊢
  have hA : ∀ q : Nat, s.heap.size ≤ q → A q := fun q h => by rw [← hAe]; exact Or.inr h
  have hS : va_S A s.heap s.heap [] := va_S.rf
  have hl := lv_entry ([.ref (ad 0), .int a1, .int a2, .int a3]) (n := 4) (Nat.le_of_ble_eq_true rfl)
  rw [lg_entry_eq]
  generalize (lg_sl ([.ref (ad 0), .int a1, .int a2, .int a3]) ++ List.replicate (4 - (lg_sl ([.ref (ad 0), .int a1, .int a2, .int a3])).length) Slot.unset).toArray = ls at hl ⊢
  have hl : lv_has ls 4 [(0, .ref (ad 0)), (1, .int (a1)), (2, .int (a2)), (3, .int (a3))] := hl
  refine lv_aload_n hx hb dX1_put_0 rfl (lv_at hl 0 rfl) ?_
  refine lv_iconst (v := 0) hx hb dX1_put_1 (by decide) ?_
  refine md_putT hx hb hts hin0 hown hK hP hD hS (hts (.fieldLink RX1 7 "ConferenceBridgeModel" "thrownCode" "I") (by decide +kernel)) dX1_put_2 (fun H locs hP hD hS => ?_)
  have hP : va_P (dC, dI) vwCl (md_w ct ad ((md_sT v (0)))) H := hP
  have hD : va_D A (md_w ct ad ((md_sT v (0)))) := hD
  refine lv_iload_n hx hb dX1_put_5 rfl (lv_at hl 1 rfl) ?_
  refine lv_bipush (v := 8) hx hb dX1_put_6 (by decide) ?_
  refine vp_callSi (W.runS (As := [.int (a1), .int (8)]) (rest := []) ⟨hx, hb, hml, hown, hts⟩ (metX1_not l a1 (8 : Int32)) (va_cwS 2 hts gX1_put_X1_not rfl rfl rfl (by decide +kernel) ⟨(Nat.le_of_ble_eq_true rfl), (Nat.le_of_ble_eq_true rfl)⟩) ⟨fun a U g mk q => q, fun U hU hW => ⟨rfl, trivial⟩⟩ rfl rfl hl.1 rfl (lv_room (Nat.le_of_ble_eq_true rfl)) dX1_put_8 ⟨(Nat.zero_le _), (Nat.zero_le _)⟩) (fun r_1 er_1 => ?_)
  subst er_1
  refine lv_if_ne (tgt := 23) hx hb dX1_put_11 (by decide) (fun c_2 => ?_) (fun c_2 => ?_)
  · refine lv_iconst (v := 0) hx hb dX1_put_23 (by decide) ?_
    have e9 : stX1_put v a1 a2 a3 = (md_sT v (0)) := by unfold stX1_put; rw [if_neg c_2]
    exact W.zret (v := 0) hx hb hr (by decide) (fun t ht hW => ⟨⟨0, (), rfl, by unfold anX1_put; rw [if_neg c_2], by rw [ht, e9]; exact hP, va_K.moved hW.alike hK, by rw [e9]; exact hD⟩, hS.F ht⟩) hS.2.2 dX1_put_24
  · refine lv_iload_n hx hb dX1_put_14 rfl (lv_at hl 2 rfl) ?_
    refine lv_bipush (v := 8) hx hb dX1_put_15 (by decide) ?_
    refine vp_callSi (W.runS (As := [.int (a2), .int (8)]) (rest := []) ⟨hx, hb, hml, hown, hts⟩ (metX1_not l a2 (8 : Int32)) (va_cwS 2 hts gX1_put_X1_not rfl rfl rfl (by decide +kernel) ⟨(Nat.le_of_ble_eq_true rfl), (Nat.le_of_ble_eq_true rfl)⟩) ⟨fun a U g mk q => q, fun U hU hW => ⟨rfl, trivial⟩⟩ rfl rfl hl.1 rfl (lv_room (Nat.le_of_ble_eq_true rfl)) dX1_put_17 ⟨(Nat.zero_le _), (Nat.zero_le _)⟩) (fun r_3 er_3 => ?_)
    subst er_3
    refine lv_if_eq (tgt := 25) hx hb dX1_put_20 (by decide) (fun c_4 => ?_) (fun c_4 => ?_)
    · refine lv_aload_n hx hb dX1_put_25 rfl (lv_at hl 0 rfl) ?_
      refine md_get hx hb hts hin0 hown hK hP 4 (by decide) (hts (.fieldLink RX1 24 "ConferenceBridgeModel" "in" "[I") (by decide +kernel)) (z := .ref (ad 4)) rfl dX1_put_26 ?_
      refine lv_bipush (v := 8) hx hb dX1_put_29 (by decide) ?_
      refine lv_iload_n hx hb dX1_put_31 rfl (lv_at hl 1 rfl) ?_
      refine lv_imul hx hb dX1_put_32 ?_
      refine lv_iload_n hx hb dX1_put_33 rfl (lv_at hl 2 rfl) ?_
      refine lv_iadd hx hb dX1_put_34 ?_
      refine lv_iload_n hx hb dX1_put_35 rfl (lv_at hl 3 rfl) ?_
      refine lv_sipush (v := 255) hx hb dX1_put_36 (by decide) ?_
      refine lv_iand hx hb dX1_put_39 ?_
      refine cb_iastR hx hb hK hP hD hS 4 0 (f := mdI v) rfl rfl (md_ix (md_not c_2 (by decide)) (md_not c_4 (by decide))) (ws1 := md_w ct ad ((md_sI (md_sT v (0)) (upd (mdI v) ((((8 : Int32) * a1) + a2)).toNatClampNeg (a3 &&& (255 : Int32)))))) rfl dX1_put_40 (fun H locs hP hD hS => ?_)
      have hP : va_P (dC, dI) vwCl (md_w ct ad ((md_sI (md_sT v (0)) (upd (mdI v) ((((8 : Int32) * a1) + a2)).toNatClampNeg (a3 &&& (255 : Int32)))))) H := hP
      have hD : va_D A (md_w ct ad ((md_sI (md_sT v (0)) (upd (mdI v) ((((8 : Int32) * a1) + a2)).toNatClampNeg (a3 &&& (255 : Int32)))))) := hD
      refine lv_iconst (v := 1) hx hb dX1_put_41 (by decide) ?_
      have e9 : stX1_put v a1 a2 a3 = (md_sI (md_sT v (0)) (upd (mdI v) ((((8 : Int32) * a1) + a2)).toNatClampNeg (a3 &&& (255 : Int32)))) := by unfold stX1_put; rw [if_pos c_2, if_pos c_4]
      exact W.zret (v := 1) hx hb hr (by decide) (fun t ht hW => ⟨⟨1, (), rfl, by unfold anX1_put; rw [if_pos c_2, if_pos c_4], by rw [ht, e9]; exact hP, va_K.moved hW.alike hK, by rw [e9]; exact hD⟩, hS.F ht⟩) hS.2.2 dX1_put_42
    · refine lv_iconst (v := 0) hx hb dX1_put_23 (by decide) ?_
      have e9 : stX1_put v a1 a2 a3 = (md_sT v (0)) := by unfold stX1_put; rw [if_pos c_2, if_neg c_4]
      exact W.zret (v := 0) hx hb hr (by decide) (fun t ht hW => ⟨⟨0, (), rfl, by unfold anX1_put; rw [if_pos c_2, if_neg c_4], by rw [ht, e9]; exact hP, va_K.moved hW.alike hK, by rw [e9]; exact hD⟩, hS.F ht⟩) hS.2.2 dX1_put_24
