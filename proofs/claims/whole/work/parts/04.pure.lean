def fnX0_segmentIn (a0 : Int32) : Int32 := ((a0 >>> ((4 : Int32) &&& 31)) &&& (7 : Int32))
set_option maxHeartbeats 4000000 in
set_option maxRecDepth 100000 in
theorem metX0_segmentIn (l : Launch) (a0 : Int32) : Met l yX0_segmentIn wsX0_segmentIn ({ frames := 0, cells := 0, slots := 0, locals := 0 }) (va_Pc [.int a0] (fun _ => True)) (vp_Si (fun r => r = fnX0_segmentIn a0)) 0 0 (fun _ => False) := by
  refine Met.ofW (cc := cX0_segmentIn) (maxL := 1) (ret := (some .int)) (by decide) rfl ?_
  intro p e s m args below meth c s₁ B hml hv
  obtain ⟨rfl, -⟩ := hv
  have hx := B.exec
  have hb := B.bytes
  have hr := B.returns
  have hts := atoms_spec (ws := wsX0_segmentIn) B.pre
  have hown : s.vm.findClass RX0 = some m.cls := findClass_of_methodNamed B.named
  have hlocks := B.notSynchronized
  have hl := lv_entry ([.int a0]) (n := 1) (Nat.le_of_ble_eq_true rfl)
  rw [lg_entry_eq]
  generalize (lg_sl ([.int a0]) ++ List.replicate (1 - (lg_sl ([.int a0])).length) Slot.unset).toArray = ls at hl ⊢
  have hl : lv_has ls 1 [(0, .int (a0))] := hl
  refine lv_iload_n hx hb dX0_segmentIn_0 rfl (lv_at hl 0 rfl) ?_
  refine lv_iconst (v := 4) hx hb dX0_segmentIn_1 (by decide) ?_
  refine lv_ishr hx hb dX0_segmentIn_2 ?_
  refine lv_bipush (v := 7) hx hb dX0_segmentIn_3 (by decide) ?_
  refine lv_iand hx hb dX0_segmentIn_5 ?_
  exact W.iret (v := ((a0 >>> ((4 : Int32) &&& 31)) &&& (7 : Int32))) hx hb hr (fun t ht _ => ⟨((a0 >>> ((4 : Int32) &&& 31)) &&& (7 : Int32)), rfl, rfl, ht⟩) (fun q h => absurd h List.not_mem_nil) dX0_segmentIn_6

def fnX0_stepIn (a0 : Int32) : Int32 := (a0 &&& (15 : Int32))
set_option maxHeartbeats 4000000 in
set_option maxRecDepth 100000 in
theorem metX0_stepIn (l : Launch) (a0 : Int32) : Met l yX0_stepIn wsX0_stepIn ({ frames := 0, cells := 0, slots := 0, locals := 0 }) (va_Pc [.int a0] (fun _ => True)) (vp_Si (fun r => r = fnX0_stepIn a0)) 0 0 (fun _ => False) := by
  refine Met.ofW (cc := cX0_stepIn) (maxL := 1) (ret := (some .int)) (by decide) rfl ?_
  intro p e s m args below meth c s₁ B hml hv
  obtain ⟨rfl, -⟩ := hv
  have hx := B.exec
  have hb := B.bytes
  have hr := B.returns
  have hts := atoms_spec (ws := wsX0_stepIn) B.pre
  have hown : s.vm.findClass RX0 = some m.cls := findClass_of_methodNamed B.named
  have hlocks := B.notSynchronized
  have hl := lv_entry ([.int a0]) (n := 1) (Nat.le_of_ble_eq_true rfl)
  rw [lg_entry_eq]
  generalize (lg_sl ([.int a0]) ++ List.replicate (1 - (lg_sl ([.int a0])).length) Slot.unset).toArray = ls at hl ⊢
  have hl : lv_has ls 1 [(0, .int (a0))] := hl
  refine lv_iload_n hx hb dX0_stepIn_0 rfl (lv_at hl 0 rfl) ?_
  refine lv_bipush (v := 15) hx hb dX0_stepIn_1 (by decide) ?_
  refine lv_iand hx hb dX0_stepIn_3 ?_
  exact W.iret (v := (a0 &&& (15 : Int32))) hx hb hr (fun t ht _ => ⟨(a0 &&& (15 : Int32)), rfl, rfl, ht⟩) (fun q h => absurd h List.not_mem_nil) dX0_stepIn_4

def fnX0_speaks (a0 : Int32) (a1 : Int32) : Int32 := if ((a0 >>> (a1 &&& 31)) &&& (1 : Int32)) = 0 then (0) else (1)
set_option maxHeartbeats 4000000 in
set_option maxRecDepth 100000 in
theorem metX0_speaks (l : Launch) (a0 : Int32) (a1 : Int32) : Met l yX0_speaks wsX0_speaks ({ frames := 0, cells := 0, slots := 0, locals := 0 }) (va_Pc [.int a0, .int a1] (fun _ => True)) (vp_Si (fun r => r = fnX0_speaks a0 a1)) 0 0 (fun _ => False) := by
  refine Met.ofW (cc := cX0_speaks) (maxL := 2) (ret := (some .boolean)) (by decide) rfl ?_
  intro p e s m args below meth c s₁ B hml hv
  obtain ⟨rfl, -⟩ := hv
  have hx := B.exec
  have hb := B.bytes
  have hr := B.returns
  have hts := atoms_spec (ws := wsX0_speaks) B.pre
  have hown : s.vm.findClass RX0 = some m.cls := findClass_of_methodNamed B.named
  have hlocks := B.notSynchronized
  have hl := lv_entry ([.int a0, .int a1]) (n := 2) (Nat.le_of_ble_eq_true rfl)
  rw [lg_entry_eq]
  generalize (lg_sl ([.int a0, .int a1]) ++ List.replicate (2 - (lg_sl ([.int a0, .int a1])).length) Slot.unset).toArray = ls at hl ⊢
  have hl : lv_has ls 2 [(0, .int (a0)), (1, .int (a1))] := hl
  refine lv_iload_n hx hb dX0_speaks_0 rfl (lv_at hl 0 rfl) ?_
  refine lv_iload_n hx hb dX0_speaks_1 rfl (lv_at hl 1 rfl) ?_
  refine lv_ishr hx hb dX0_speaks_2 ?_
  refine lv_iconst (v := 1) hx hb dX0_speaks_3 (by decide) ?_
  refine lv_iand hx hb dX0_speaks_4 ?_
  refine lv_if_eq (tgt := 12) hx hb dX0_speaks_5 (by decide) (fun c_1 => ?_) (fun c_1 => ?_)
  · refine lv_iconst (v := 0) hx hb dX0_speaks_12 (by decide) ?_
    exact W.zret (v := 0) hx hb hr (by decide) (fun t ht _ => ⟨0, rfl, by unfold fnX0_speaks; rw [if_pos c_1], ht⟩) (fun q h => absurd h List.not_mem_nil) dX0_speaks_13
  · refine lv_iconst (v := 1) hx hb dX0_speaks_8 (by decide) ?_
    refine lv_goto (tgt := 13) hx hb dX0_speaks_9 (by decide) ?_
    exact W.zret (v := 1) hx hb hr (by decide) (fun t ht _ => ⟨1, rfl, by unfold fnX0_speaks; rw [if_neg c_1], ht⟩) (fun q h => absurd h List.not_mem_nil) dX0_speaks_13

def fnX0_isLaw (a0 : Int32) : Int32 := if a0 = 0 then (1) else (if a0 = 1 then (1) else (0))
set_option maxHeartbeats 4000000 in
set_option maxRecDepth 100000 in
theorem metX0_isLaw (l : Launch) (a0 : Int32) : Met l yX0_isLaw wsX0_isLaw ({ frames := 0, cells := 0, slots := 0, locals := 0 }) (va_Pc [.int a0] (fun _ => True)) (vp_Si (fun r => r = fnX0_isLaw a0)) 0 0 (fun _ => False) := by
  refine Met.ofW (cc := cX0_isLaw) (maxL := 1) (ret := (some .boolean)) (by decide) rfl ?_
  intro p e s m args below meth c s₁ B hml hv
  obtain ⟨rfl, -⟩ := hv
  have hx := B.exec
  have hb := B.bytes
  have hr := B.returns
  have hts := atoms_spec (ws := wsX0_isLaw) B.pre
  have hown : s.vm.findClass RX0 = some m.cls := findClass_of_methodNamed B.named
  have hlocks := B.notSynchronized
  have hl := lv_entry ([.int a0]) (n := 1) (Nat.le_of_ble_eq_true rfl)
  rw [lg_entry_eq]
  generalize (lg_sl ([.int a0]) ++ List.replicate (1 - (lg_sl ([.int a0])).length) Slot.unset).toArray = ls at hl ⊢
  have hl : lv_has ls 1 [(0, .int (a0))] := hl
  refine lv_iload_n hx hb dX0_isLaw_0 rfl (lv_at hl 0 rfl) ?_
  refine lv_if_eq (tgt := 9) hx hb dX0_isLaw_1 (by decide) (fun c_1 => ?_) (fun c_1 => ?_)
  · refine lv_iconst (v := 1) hx hb dX0_isLaw_9 (by decide) ?_
    refine lv_goto (tgt := 14) hx hb dX0_isLaw_10 (by decide) ?_
    exact W.zret (v := 1) hx hb hr (by decide) (fun t ht _ => ⟨1, rfl, by unfold fnX0_isLaw; rw [if_pos c_1], ht⟩) (fun q h => absurd h List.not_mem_nil) dX0_isLaw_14
  · refine lv_iload_n hx hb dX0_isLaw_4 rfl (lv_at hl 0 rfl) ?_
    refine lv_iconst (v := 1) hx hb dX0_isLaw_5 (by decide) ?_
    refine lv_icmp_ne (tgt := 13) hx hb dX0_isLaw_6 (by decide) (fun c_2 => ?_) (fun c_2 => ?_)
    · refine lv_iconst (v := 0) hx hb dX0_isLaw_13 (by decide) ?_
      exact W.zret (v := 0) hx hb hr (by decide) (fun t ht _ => ⟨0, rfl, by unfold fnX0_isLaw; rw [if_neg c_1, if_neg c_2], ht⟩) (fun q h => absurd h List.not_mem_nil) dX0_isLaw_14
    · refine lv_iconst (v := 1) hx hb dX0_isLaw_9 (by decide) ?_
      refine lv_goto (tgt := 14) hx hb dX0_isLaw_10 (by decide) ?_
      exact W.zret (v := 1) hx hb hr (by decide) (fun t ht _ => ⟨1, rfl, by unfold fnX0_isLaw; rw [if_neg c_1, if_pos c_2], ht⟩) (fun q h => absurd h List.not_mem_nil) dX0_isLaw_14

def fnX0_isParty (a0 : Int32) : Int32 := if a0 < 0 then (0) else (if 8 ≤ a0 then (0) else (1))
set_option maxHeartbeats 4000000 in
set_option maxRecDepth 100000 in
theorem metX0_isParty (l : Launch) (a0 : Int32) : Met l yX0_isParty wsX0_isParty ({ frames := 0, cells := 0, slots := 0, locals := 0 }) (va_Pc [.int a0] (fun _ => True)) (vp_Si (fun r => r = fnX0_isParty a0)) 0 0 (fun _ => False) := by
  refine Met.ofW (cc := cX0_isParty) (maxL := 1) (ret := (some .boolean)) (by decide) rfl ?_
  intro p e s m args below meth c s₁ B hml hv
  obtain ⟨rfl, -⟩ := hv
  have hx := B.exec
  have hb := B.bytes
  have hr := B.returns
  have hts := atoms_spec (ws := wsX0_isParty) B.pre
  have hown : s.vm.findClass RX0 = some m.cls := findClass_of_methodNamed B.named
  have hlocks := B.notSynchronized
  have hl := lv_entry ([.int a0]) (n := 1) (Nat.le_of_ble_eq_true rfl)
  rw [lg_entry_eq]
  generalize (lg_sl ([.int a0]) ++ List.replicate (1 - (lg_sl ([.int a0])).length) Slot.unset).toArray = ls at hl ⊢
  have hl : lv_has ls 1 [(0, .int (a0))] := hl
  refine lv_iload_n hx hb dX0_isParty_0 rfl (lv_at hl 0 rfl) ?_
  refine lv_if_lt (tgt := 14) hx hb dX0_isParty_1 (by decide) (fun c_1 => ?_) (fun c_1 => ?_)
  · refine lv_iconst (v := 0) hx hb dX0_isParty_14 (by decide) ?_
    exact W.zret (v := 0) hx hb hr (by decide) (fun t ht _ => ⟨0, rfl, by unfold fnX0_isParty; rw [if_pos c_1], ht⟩) (fun q h => absurd h List.not_mem_nil) dX0_isParty_15
  · refine lv_iload_n hx hb dX0_isParty_4 rfl (lv_at hl 0 rfl) ?_
    refine lv_bipush (v := 8) hx hb dX0_isParty_5 (by decide) ?_
    refine lv_icmp_ge (tgt := 14) hx hb dX0_isParty_7 (by decide) (fun c_2 => ?_) (fun c_2 => ?_)
    · refine lv_iconst (v := 0) hx hb dX0_isParty_14 (by decide) ?_
      exact W.zret (v := 0) hx hb hr (by decide) (fun t ht _ => ⟨0, rfl, by unfold fnX0_isParty; rw [if_neg c_1, if_pos c_2], ht⟩) (fun q h => absurd h List.not_mem_nil) dX0_isParty_15
    · refine lv_iconst (v := 1) hx hb dX0_isParty_10 (by decide) ?_
      refine lv_goto (tgt := 15) hx hb dX0_isParty_11 (by decide) ?_
      exact W.zret (v := 1) hx hb hr (by decide) (fun t ht _ => ⟨1, rfl, by unfold fnX0_isParty; rw [if_neg c_1, if_neg c_2], ht⟩) (fun q h => absurd h List.not_mem_nil) dX0_isParty_15

def fnX0_isPlace (a0 : Int32) : Int32 := if a0 < 0 then (0) else (if 8 ≤ a0 then (0) else (1))
set_option maxHeartbeats 4000000 in
set_option maxRecDepth 100000 in
theorem metX0_isPlace (l : Launch) (a0 : Int32) : Met l yX0_isPlace wsX0_isPlace ({ frames := 0, cells := 0, slots := 0, locals := 0 }) (va_Pc [.int a0] (fun _ => True)) (vp_Si (fun r => r = fnX0_isPlace a0)) 0 0 (fun _ => False) := by
  refine Met.ofW (cc := cX0_isPlace) (maxL := 1) (ret := (some .boolean)) (by decide) rfl ?_
  intro p e s m args below meth c s₁ B hml hv
  obtain ⟨rfl, -⟩ := hv
  have hx := B.exec
  have hb := B.bytes
  have hr := B.returns
  have hts := atoms_spec (ws := wsX0_isPlace) B.pre
  have hown : s.vm.findClass RX0 = some m.cls := findClass_of_methodNamed B.named
  have hlocks := B.notSynchronized
  have hl := lv_entry ([.int a0]) (n := 1) (Nat.le_of_ble_eq_true rfl)
  rw [lg_entry_eq]
  generalize (lg_sl ([.int a0]) ++ List.replicate (1 - (lg_sl ([.int a0])).length) Slot.unset).toArray = ls at hl ⊢
  have hl : lv_has ls 1 [(0, .int (a0))] := hl
  refine lv_iload_n hx hb dX0_isPlace_0 rfl (lv_at hl 0 rfl) ?_
  refine lv_if_lt (tgt := 14) hx hb dX0_isPlace_1 (by decide) (fun c_1 => ?_) (fun c_1 => ?_)
  · refine lv_iconst (v := 0) hx hb dX0_isPlace_14 (by decide) ?_
    exact W.zret (v := 0) hx hb hr (by decide) (fun t ht _ => ⟨0, rfl, by unfold fnX0_isPlace; rw [if_pos c_1], ht⟩) (fun q h => absurd h List.not_mem_nil) dX0_isPlace_15
  · refine lv_iload_n hx hb dX0_isPlace_4 rfl (lv_at hl 0 rfl) ?_
    refine lv_bipush (v := 8) hx hb dX0_isPlace_5 (by decide) ?_
    refine lv_icmp_ge (tgt := 14) hx hb dX0_isPlace_7 (by decide) (fun c_2 => ?_) (fun c_2 => ?_)
    · refine lv_iconst (v := 0) hx hb dX0_isPlace_14 (by decide) ?_
      exact W.zret (v := 0) hx hb hr (by decide) (fun t ht _ => ⟨0, rfl, by unfold fnX0_isPlace; rw [if_neg c_1, if_pos c_2], ht⟩) (fun q h => absurd h List.not_mem_nil) dX0_isPlace_15
    · refine lv_iconst (v := 1) hx hb dX0_isPlace_10 (by decide) ?_
      refine lv_goto (tgt := 15) hx hb dX0_isPlace_11 (by decide) ?_
      exact W.zret (v := 1) hx hb hr (by decide) (fun t ht _ => ⟨1, rfl, by unfold fnX0_isPlace; rw [if_neg c_1, if_neg c_2], ht⟩) (fun q h => absurd h List.not_mem_nil) dX0_isPlace_15

def fnJ6_numberOfLeadingZeros_0f7a4 (a0 : Int32) : Int32 := if 0 < a0 then (if a0 < 65536 then (if a0 < 256 then (if a0 < 16 then (if a0 < 4 then (((31 : Int32) - ((a0.toUInt32 >>> ((1 : Int32).toUInt32 &&& Int32.toUInt32 31)).toInt32))) else ((((31 : Int32) + (-2 : Int32)) - ((((a0.toUInt32 >>> ((2 : Int32).toUInt32 &&& Int32.toUInt32 31)).toInt32).toUInt32 >>> ((1 : Int32).toUInt32 &&& Int32.toUInt32 31)).toInt32)))) else (if (a0.toUInt32 >>> ((4 : Int32).toUInt32 &&& Int32.toUInt32 31)).toInt32 < 4 then ((((31 : Int32) + (-4 : Int32)) - ((((a0.toUInt32 >>> ((4 : Int32).toUInt32 &&& Int32.toUInt32 31)).toInt32).toUInt32 >>> ((1 : Int32).toUInt32 &&& Int32.toUInt32 31)).toInt32))) else (((((31 : Int32) + (-4 : Int32)) + (-2 : Int32)) - ((((((a0.toUInt32 >>> ((4 : Int32).toUInt32 &&& Int32.toUInt32 31)).toInt32).toUInt32 >>> ((2 : Int32).toUInt32 &&& Int32.toUInt32 31)).toInt32).toUInt32 >>> ((1 : Int32).toUInt32 &&& Int32.toUInt32 31)).toInt32))))) else (if (a0.toUInt32 >>> ((8 : Int32).toUInt32 &&& Int32.toUInt32 31)).toInt32 < 16 then (if (a0.toUInt32 >>> ((8 : Int32).toUInt32 &&& Int32.toUInt32 31)).toInt32 < 4 then ((((31 : Int32) + (-8 : Int32)) - ((((a0.toUInt32 >>> ((8 : Int32).toUInt32 &&& Int32.toUInt32 31)).toInt32).toUInt32 >>> ((1 : Int32).toUInt32 &&& Int32.toUInt32 31)).toInt32))) else (((((31 : Int32) + (-8 : Int32)) + (-2 : Int32)) - ((((((a0.toUInt32 >>> ((8 : Int32).toUInt32 &&& Int32.toUInt32 31)).toInt32).toUInt32 >>> ((2 : Int32).toUInt32 &&& Int32.toUInt32 31)).toInt32).toUInt32 >>> ((1 : Int32).toUInt32 &&& Int32.toUInt32 31)).toInt32)))) else (if (((a0.toUInt32 >>> ((8 : Int32).toUInt32 &&& Int32.toUInt32 31)).toInt32).toUInt32 >>> ((4 : Int32).toUInt32 &&& Int32.toUInt32 31)).toInt32 < 4 then (((((31 : Int32) + (-8 : Int32)) + (-4 : Int32)) - ((((((a0.toUInt32 >>> ((8 : Int32).toUInt32 &&& Int32.toUInt32 31)).toInt32).toUInt32 >>> ((4 : Int32).toUInt32 &&& Int32.toUInt32 31)).toInt32).toUInt32 >>> ((1 : Int32).toUInt32 &&& Int32.toUInt32 31)).toInt32))) else ((((((31 : Int32) + (-8 : Int32)) + (-4 : Int32)) + (-2 : Int32)) - ((((((((a0.toUInt32 >>> ((8 : Int32).toUInt32 &&& Int32.toUInt32 31)).toInt32).toUInt32 >>> ((4 : Int32).toUInt32 &&& Int32.toUInt32 31)).toInt32).toUInt32 >>> ((2 : Int32).toUInt32 &&& Int32.toUInt32 31)).toInt32).toUInt32 >>> ((1 : Int32).toUInt32 &&& Int32.toUInt32 31)).toInt32)))))) else (if (a0.toUInt32 >>> ((16 : Int32).toUInt32 &&& Int32.toUInt32 31)).toInt32 < 256 then (if (a0.toUInt32 >>> ((16 : Int32).toUInt32 &&& Int32.toUInt32 31)).toInt32 < 16 then (if (a0.toUInt32 >>> ((16 : Int32).toUInt32 &&& Int32.toUInt32 31)).toInt32 < 4 then ((((31 : Int32) + (-16 : Int32)) - ((((a0.toUInt32 >>> ((16 : Int32).toUInt32 &&& Int32.toUInt32 31)).toInt32).toUInt32 >>> ((1 : Int32).toUInt32 &&& Int32.toUInt32 31)).toInt32))) else (((((31 : Int32) + (-16 : Int32)) + (-2 : Int32)) - ((((((a0.toUInt32 >>> ((16 : Int32).toUInt32 &&& Int32.toUInt32 31)).toInt32).toUInt32 >>> ((2 : Int32).toUInt32 &&& Int32.toUInt32 31)).toInt32).toUInt32 >>> ((1 : Int32).toUInt32 &&& Int32.toUInt32 31)).toInt32)))) else (if (((a0.toUInt32 >>> ((16 : Int32).toUInt32 &&& Int32.toUInt32 31)).toInt32).toUInt32 >>> ((4 : Int32).toUInt32 &&& Int32.toUInt32 31)).toInt32 < 4 then (((((31 : Int32) + (-16 : Int32)) + (-4 : Int32)) - ((((((a0.toUInt32 >>> ((16 : Int32).toUInt32 &&& Int32.toUInt32 31)).toInt32).toUInt32 >>> ((4 : Int32).toUInt32 &&& Int32.toUInt32 31)).toInt32).toUInt32 >>> ((1 : Int32).toUInt32 &&& Int32.toUInt32 31)).toInt32))) else ((((((31 : Int32) + (-16 : Int32)) + (-4 : Int32)) + (-2 : Int32)) - ((((((((a0.toUInt32 >>> ((16 : Int32).toUInt32 &&& Int32.toUInt32 31)).toInt32).toUInt32 >>> ((4 : Int32).toUInt32 &&& Int32.toUInt32 31)).toInt32).toUInt32 >>> ((2 : Int32).toUInt32 &&& Int32.toUInt32 31)).toInt32).toUInt32 >>> ((1 : Int32).toUInt32 &&& Int32.toUInt32 31)).toInt32))))) else (if (((a0.toUInt32 >>> ((16 : Int32).toUInt32 &&& Int32.toUInt32 31)).toInt32).toUInt32 >>> ((8 : Int32).toUInt32 &&& Int32.toUInt32 31)).toInt32 < 16 then (if (((a0.toUInt32 >>> ((16 : Int32).toUInt32 &&& Int32.toUInt32 31)).toInt32).toUInt32 >>> ((8 : Int32).toUInt32 &&& Int32.toUInt32 31)).toInt32 < 4 then (((((31 : Int32) + (-16 : Int32)) + (-8 : Int32)) - ((((((a0.toUInt32 >>> ((16 : Int32).toUInt32 &&& Int32.toUInt32 31)).toInt32).toUInt32 >>> ((8 : Int32).toUInt32 &&& Int32.toUInt32 31)).toInt32).toUInt32 >>> ((1 : Int32).toUInt32 &&& Int32.toUInt32 31)).toInt32))) else ((((((31 : Int32) + (-16 : Int32)) + (-8 : Int32)) + (-2 : Int32)) - ((((((((a0.toUInt32 >>> ((16 : Int32).toUInt32 &&& Int32.toUInt32 31)).toInt32).toUInt32 >>> ((8 : Int32).toUInt32 &&& Int32.toUInt32 31)).toInt32).toUInt32 >>> ((2 : Int32).toUInt32 &&& Int32.toUInt32 31)).toInt32).toUInt32 >>> ((1 : Int32).toUInt32 &&& Int32.toUInt32 31)).toInt32)))) else (if (((((a0.toUInt32 >>> ((16 : Int32).toUInt32 &&& Int32.toUInt32 31)).toInt32).toUInt32 >>> ((8 : Int32).toUInt32 &&& Int32.toUInt32 31)).toInt32).toUInt32 >>> ((4 : Int32).toUInt32 &&& Int32.toUInt32 31)).toInt32 < 4 then ((((((31 : Int32) + (-16 : Int32)) + (-8 : Int32)) + (-4 : Int32)) - ((((((((a0.toUInt32 >>> ((16 : Int32).toUInt32 &&& Int32.toUInt32 31)).toInt32).toUInt32 >>> ((8 : Int32).toUInt32 &&& Int32.toUInt32 31)).toInt32).toUInt32 >>> ((4 : Int32).toUInt32 &&& Int32.toUInt32 31)).toInt32).toUInt32 >>> ((1 : Int32).toUInt32 &&& Int32.toUInt32 31)).toInt32))) else (((((((31 : Int32) + (-16 : Int32)) + (-8 : Int32)) + (-4 : Int32)) + (-2 : Int32)) - ((((((((((a0.toUInt32 >>> ((16 : Int32).toUInt32 &&& Int32.toUInt32 31)).toInt32).toUInt32 >>> ((8 : Int32).toUInt32 &&& Int32.toUInt32 31)).toInt32).toUInt32 >>> ((4 : Int32).toUInt32 &&& Int32.toUInt32 31)).toInt32).toUInt32 >>> ((2 : Int32).toUInt32 &&& Int32.toUInt32 31)).toInt32).toUInt32 >>> ((1 : Int32).toUInt32 &&& Int32.toUInt32 31)).toInt32))))))) else (if a0 = 0 then (32) else (0))
set_option maxHeartbeats 4000000 in
set_option maxRecDepth 100000 in
theorem metJ6_numberOfLeadingZeros_0f7a4 (l : Launch) (a0 : Int32) : Met l yJ6_numberOfLeadingZeros_0f7a4 wsJ6_numberOfLeadingZeros_0f7a4 ({ frames := 0, cells := 0, slots := 0, locals := 0 }) (va_Pc [.int a0] (fun _ => True)) (vp_Si (fun r => r = fnJ6_numberOfLeadingZeros_0f7a4 a0)) 0 0 (fun _ => False) := by
  refine Met.ofW (cc := cJ6_numberOfLeadingZeros_0f7a4) (maxL := 2) (ret := (some .int)) (by decide) rfl ?_
  intro p e s m args below meth c s₁ B hml hv
  obtain ⟨rfl, -⟩ := hv
  have hx := B.exec
  have hb := B.bytes
  have hr := B.returns
  have hts := atoms_spec (ws := wsJ6_numberOfLeadingZeros_0f7a4) B.pre
  have hown : s.vm.findClass RJ6 = some m.cls := findClass_of_methodNamed B.named
  have hlocks := B.notSynchronized
  have hl := lv_entry ([.int a0]) (n := 2) (Nat.le_of_ble_eq_true rfl)
  rw [lg_entry_eq]
  generalize (lg_sl ([.int a0]) ++ List.replicate (2 - (lg_sl ([.int a0])).length) Slot.unset).toArray = ls at hl ⊢
  have hl : lv_has ls 2 [(0, .int (a0))] := hl
  refine lv_iload_n hx hb dJ6_numberOfLeadingZeros_0f7a4_0 rfl (lv_at hl 0 rfl) ?_
  refine lv_if_gt (tgt := 15) hx hb dJ6_numberOfLeadingZeros_0f7a4_1 (by decide) (fun c_1 => ?_) (fun c_1 => ?_)
  · refine lv_bipush (v := 31) hx hb dJ6_numberOfLeadingZeros_0f7a4_15 (by decide) ?_
    refine lv_istore_n (lv' := [(1, .int (31)), (0, .int (a0))]) hx hb dJ6_numberOfLeadingZeros_0f7a4_17 rfl hl (by decide) rfl (fun ls hl => ?_)
    refine lv_iload_n hx hb dJ6_numberOfLeadingZeros_0f7a4_18 rfl (lv_at hl 1 rfl) ?_
    refine lv_ldcw (v := 65536) hx hb hown (hts (.constant RJ6 264 (65536)) (by decide +kernel)) dJ6_numberOfLeadingZeros_0f7a4_19 ?_
    refine lv_icmp_lt (tgt := 33) hx hb dJ6_numberOfLeadingZeros_0f7a4_22 (by decide) (fun c_2 => ?_) (fun c_2 => ?_)
    · refine lv_iload_n hx hb dJ6_numberOfLeadingZeros_0f7a4_33 rfl (lv_at hl 1 rfl) ?_
      refine lv_sipush (v := 256) hx hb dJ6_numberOfLeadingZeros_0f7a4_34 (by decide) ?_
      refine lv_icmp_lt (tgt := 48) hx hb dJ6_numberOfLeadingZeros_0f7a4_37 (by decide) (fun c_3 => ?_) (fun c_3 => ?_)
      · refine lv_iload_n hx hb dJ6_numberOfLeadingZeros_0f7a4_48 rfl (lv_at hl 1 rfl) ?_
        refine lv_bipush (v := 16) hx hb dJ6_numberOfLeadingZeros_0f7a4_49 (by decide) ?_
        refine lv_icmp_lt (tgt := 61) hx hb dJ6_numberOfLeadingZeros_0f7a4_51 (by decide) (fun c_4 => ?_) (fun c_4 => ?_)
        · refine lv_iload_n hx hb dJ6_numberOfLeadingZeros_0f7a4_61 rfl (lv_at hl 1 rfl) ?_
          refine lv_iconst (v := 4) hx hb dJ6_numberOfLeadingZeros_0f7a4_62 (by decide) ?_
          refine lv_icmp_lt (tgt := 73) hx hb dJ6_numberOfLeadingZeros_0f7a4_63 (by decide) (fun c_5 => ?_) (fun c_5 => ?_)
          · refine lv_iload_n hx hb dJ6_numberOfLeadingZeros_0f7a4_73 rfl (lv_at hl 0 rfl) ?_
            refine lv_iload_n hx hb dJ6_numberOfLeadingZeros_0f7a4_74 rfl (lv_at hl 1 rfl) ?_
            refine lv_iconst (v := 1) hx hb dJ6_numberOfLeadingZeros_0f7a4_75 (by decide) ?_
            refine lv_iushr (v := (a0.toUInt32 >>> ((1 : Int32).toUInt32 &&& Int32.toUInt32 31)).toInt32) hx hb dJ6_numberOfLeadingZeros_0f7a4_76 rfl ?_
            refine lv_isub hx hb dJ6_numberOfLeadingZeros_0f7a4_77 ?_
            exact W.iret (v := ((31 : Int32) - ((a0.toUInt32 >>> ((1 : Int32).toUInt32 &&& Int32.toUInt32 31)).toInt32))) hx hb hr (fun t ht _ => ⟨((31 : Int32) - ((a0.toUInt32 >>> ((1 : Int32).toUInt32 &&& Int32.toUInt32 31)).toInt32)), rfl, by unfold fnJ6_numberOfLeadingZeros_0f7a4; rw [if_pos c_1, if_pos c_2, if_pos c_3, if_pos c_4, if_pos c_5], ht⟩) (fun q h => absurd h List.not_mem_nil) dJ6_numberOfLeadingZeros_0f7a4_78
          · refine lv_iinc (v := ((31 : Int32) + (-2 : Int32))) (lv' := [(1, .int (((31 : Int32) + (-2 : Int32)))), (0, .int (a0))]) hx hb dJ6_numberOfLeadingZeros_0f7a4_66 hl (k := 0) rfl rfl (by decide) rfl (fun ls hl => ?_)
            refine lv_iload_n hx hb dJ6_numberOfLeadingZeros_0f7a4_69 rfl (lv_at hl 1 rfl) ?_
            refine lv_iconst (v := 2) hx hb dJ6_numberOfLeadingZeros_0f7a4_70 (by decide) ?_
            refine lv_iushr (v := (a0.toUInt32 >>> ((2 : Int32).toUInt32 &&& Int32.toUInt32 31)).toInt32) hx hb dJ6_numberOfLeadingZeros_0f7a4_71 rfl ?_
            refine lv_istore_n (lv' := [(0, .int ((a0.toUInt32 >>> ((2 : Int32).toUInt32 &&& Int32.toUInt32 31)).toInt32)), (1, .int (((31 : Int32) + (-2 : Int32))))]) hx hb dJ6_numberOfLeadingZeros_0f7a4_72 rfl hl (by decide) rfl (fun ls hl => ?_)
            refine lv_iload_n hx hb dJ6_numberOfLeadingZeros_0f7a4_73 rfl (lv_at hl 1 rfl) ?_
            refine lv_iload_n hx hb dJ6_numberOfLeadingZeros_0f7a4_74 rfl (lv_at hl 0 rfl) ?_
            refine lv_iconst (v := 1) hx hb dJ6_numberOfLeadingZeros_0f7a4_75 (by decide) ?_
            refine lv_iushr (v := (((a0.toUInt32 >>> ((2 : Int32).toUInt32 &&& Int32.toUInt32 31)).toInt32).toUInt32 >>> ((1 : Int32).toUInt32 &&& Int32.toUInt32 31)).toInt32) hx hb dJ6_numberOfLeadingZeros_0f7a4_76 rfl ?_
            refine lv_isub hx hb dJ6_numberOfLeadingZeros_0f7a4_77 ?_
            exact W.iret (v := (((31 : Int32) + (-2 : Int32)) - ((((a0.toUInt32 >>> ((2 : Int32).toUInt32 &&& Int32.toUInt32 31)).toInt32).toUInt32 >>> ((1 : Int32).toUInt32 &&& Int32.toUInt32 31)).toInt32))) hx hb hr (fun t ht _ => ⟨(((31 : Int32) + (-2 : Int32)) - ((((a0.toUInt32 >>> ((2 : Int32).toUInt32 &&& Int32.toUInt32 31)).toInt32).toUInt32 >>> ((1 : Int32).toUInt32 &&& Int32.toUInt32 31)).toInt32)), rfl, by unfold fnJ6_numberOfLeadingZeros_0f7a4; rw [if_pos c_1, if_pos c_2, if_pos c_3, if_pos c_4, if_neg c_5], ht⟩) (fun q h => absurd h List.not_mem_nil) dJ6_numberOfLeadingZeros_0f7a4_78
        · refine lv_iinc (v := ((31 : Int32) + (-4 : Int32))) (lv' := [(1, .int (((31 : Int32) + (-4 : Int32)))), (0, .int (a0))]) hx hb dJ6_numberOfLeadingZeros_0f7a4_54 hl (k := 0) rfl rfl (by decide) rfl (fun ls hl => ?_)
          refine lv_iload_n hx hb dJ6_numberOfLeadingZeros_0f7a4_57 rfl (lv_at hl 1 rfl) ?_
          refine lv_iconst (v := 4) hx hb dJ6_numberOfLeadingZeros_0f7a4_58 (by decide) ?_
          refine lv_iushr (v := (a0.toUInt32 >>> ((4 : Int32).toUInt32 &&& Int32.toUInt32 31)).toInt32) hx hb dJ6_numberOfLeadingZeros_0f7a4_59 rfl ?_
          refine lv_istore_n (lv' := [(0, .int ((a0.toUInt32 >>> ((4 : Int32).toUInt32 &&& Int32.toUInt32 31)).toInt32)), (1, .int (((31 : Int32) + (-4 : Int32))))]) hx hb dJ6_numberOfLeadingZeros_0f7a4_60 rfl hl (by decide) rfl (fun ls hl => ?_)
          refine lv_iload_n hx hb dJ6_numberOfLeadingZeros_0f7a4_61 rfl (lv_at hl 0 rfl) ?_
          refine lv_iconst (v := 4) hx hb dJ6_numberOfLeadingZeros_0f7a4_62 (by decide) ?_
          refine lv_icmp_lt (tgt := 73) hx hb dJ6_numberOfLeadingZeros_0f7a4_63 (by decide) (fun c_6 => ?_) (fun c_6 => ?_)
          · refine lv_iload_n hx hb dJ6_numberOfLeadingZeros_0f7a4_73 rfl (lv_at hl 1 rfl) ?_
            refine lv_iload_n hx hb dJ6_numberOfLeadingZeros_0f7a4_74 rfl (lv_at hl 0 rfl) ?_
            refine lv_iconst (v := 1) hx hb dJ6_numberOfLeadingZeros_0f7a4_75 (by decide) ?_
            refine lv_iushr (v := (((a0.toUInt32 >>> ((4 : Int32).toUInt32 &&& Int32.toUInt32 31)).toInt32).toUInt32 >>> ((1 : Int32).toUInt32 &&& Int32.toUInt32 31)).toInt32) hx hb dJ6_numberOfLeadingZeros_0f7a4_76 rfl ?_
            refine lv_isub hx hb dJ6_numberOfLeadingZeros_0f7a4_77 ?_
            exact W.iret (v := (((31 : Int32) + (-4 : Int32)) - ((((a0.toUInt32 >>> ((4 : Int32).toUInt32 &&& Int32.toUInt32 31)).toInt32).toUInt32 >>> ((1 : Int32).toUInt32 &&& Int32.toUInt32 31)).toInt32))) hx hb hr (fun t ht _ => ⟨(((31 : Int32) + (-4 : Int32)) - ((((a0.toUInt32 >>> ((4 : Int32).toUInt32 &&& Int32.toUInt32 31)).toInt32).toUInt32 >>> ((1 : Int32).toUInt32 &&& Int32.toUInt32 31)).toInt32)), rfl, by unfold fnJ6_numberOfLeadingZeros_0f7a4; rw [if_pos c_1, if_pos c_2, if_pos c_3, if_neg c_4, if_pos c_6], ht⟩) (fun q h => absurd h List.not_mem_nil) dJ6_numberOfLeadingZeros_0f7a4_78
          · refine lv_iinc (v := (((31 : Int32) + (-4 : Int32)) + (-2 : Int32))) (lv' := [(1, .int ((((31 : Int32) + (-4 : Int32)) + (-2 : Int32)))), (0, .int ((a0.toUInt32 >>> ((4 : Int32).toUInt32 &&& Int32.toUInt32 31)).toInt32))]) hx hb dJ6_numberOfLeadingZeros_0f7a4_66 hl (k := 1) rfl rfl (by decide) rfl (fun ls hl => ?_)
            refine lv_iload_n hx hb dJ6_numberOfLeadingZeros_0f7a4_69 rfl (lv_at hl 1 rfl) ?_
            refine lv_iconst (v := 2) hx hb dJ6_numberOfLeadingZeros_0f7a4_70 (by decide) ?_
            refine lv_iushr (v := (((a0.toUInt32 >>> ((4 : Int32).toUInt32 &&& Int32.toUInt32 31)).toInt32).toUInt32 >>> ((2 : Int32).toUInt32 &&& Int32.toUInt32 31)).toInt32) hx hb dJ6_numberOfLeadingZeros_0f7a4_71 rfl ?_
            refine lv_istore_n (lv' := [(0, .int ((((a0.toUInt32 >>> ((4 : Int32).toUInt32 &&& Int32.toUInt32 31)).toInt32).toUInt32 >>> ((2 : Int32).toUInt32 &&& Int32.toUInt32 31)).toInt32)), (1, .int ((((31 : Int32) + (-4 : Int32)) + (-2 : Int32))))]) hx hb dJ6_numberOfLeadingZeros_0f7a4_72 rfl hl (by decide) rfl (fun ls hl => ?_)
            refine lv_iload_n hx hb dJ6_numberOfLeadingZeros_0f7a4_73 rfl (lv_at hl 1 rfl) ?_
            refine lv_iload_n hx hb dJ6_numberOfLeadingZeros_0f7a4_74 rfl (lv_at hl 0 rfl) ?_
            refine lv_iconst (v := 1) hx hb dJ6_numberOfLeadingZeros_0f7a4_75 (by decide) ?_
            refine lv_iushr (v := (((((a0.toUInt32 >>> ((4 : Int32).toUInt32 &&& Int32.toUInt32 31)).toInt32).toUInt32 >>> ((2 : Int32).toUInt32 &&& Int32.toUInt32 31)).toInt32).toUInt32 >>> ((1 : Int32).toUInt32 &&& Int32.toUInt32 31)).toInt32) hx hb dJ6_numberOfLeadingZeros_0f7a4_76 rfl ?_
            refine lv_isub hx hb dJ6_numberOfLeadingZeros_0f7a4_77 ?_
            exact W.iret (v := ((((31 : Int32) + (-4 : Int32)) + (-2 : Int32)) - ((((((a0.toUInt32 >>> ((4 : Int32).toUInt32 &&& Int32.toUInt32 31)).toInt32).toUInt32 >>> ((2 : Int32).toUInt32 &&& Int32.toUInt32 31)).toInt32).toUInt32 >>> ((1 : Int32).toUInt32 &&& Int32.toUInt32 31)).toInt32))) hx hb hr (fun t ht _ => ⟨((((31 : Int32) + (-4 : Int32)) + (-2 : Int32)) - ((((((a0.toUInt32 >>> ((4 : Int32).toUInt32 &&& Int32.toUInt32 31)).toInt32).toUInt32 >>> ((2 : Int32).toUInt32 &&& Int32.toUInt32 31)).toInt32).toUInt32 >>> ((1 : Int32).toUInt32 &&& Int32.toUInt32 31)).toInt32)), rfl, by unfold fnJ6_numberOfLeadingZeros_0f7a4; rw [if_pos c_1, if_pos c_2, if_pos c_3, if_neg c_4, if_neg c_6], ht⟩) (fun q h => absurd h List.not_mem_nil) dJ6_numberOfLeadingZeros_0f7a4_78
      · refine lv_iinc (v := ((31 : Int32) + (-8 : Int32))) (lv' := [(1, .int (((31 : Int32) + (-8 : Int32)))), (0, .int (a0))]) hx hb dJ6_numberOfLeadingZeros_0f7a4_40 hl (k := 0) rfl rfl (by decide) rfl (fun ls hl => ?_)
        refine lv_iload_n hx hb dJ6_numberOfLeadingZeros_0f7a4_43 rfl (lv_at hl 1 rfl) ?_
        refine lv_bipush (v := 8) hx hb dJ6_numberOfLeadingZeros_0f7a4_44 (by decide) ?_
        refine lv_iushr (v := (a0.toUInt32 >>> ((8 : Int32).toUInt32 &&& Int32.toUInt32 31)).toInt32) hx hb dJ6_numberOfLeadingZeros_0f7a4_46 rfl ?_
        refine lv_istore_n (lv' := [(0, .int ((a0.toUInt32 >>> ((8 : Int32).toUInt32 &&& Int32.toUInt32 31)).toInt32)), (1, .int (((31 : Int32) + (-8 : Int32))))]) hx hb dJ6_numberOfLeadingZeros_0f7a4_47 rfl hl (by decide) rfl (fun ls hl => ?_)
        refine lv_iload_n hx hb dJ6_numberOfLeadingZeros_0f7a4_48 rfl (lv_at hl 0 rfl) ?_
        refine lv_bipush (v := 16) hx hb dJ6_numberOfLeadingZeros_0f7a4_49 (by decide) ?_
        refine lv_icmp_lt (tgt := 61) hx hb dJ6_numberOfLeadingZeros_0f7a4_51 (by decide) (fun c_7 => ?_) (fun c_7 => ?_)
        · refine lv_iload_n hx hb dJ6_numberOfLeadingZeros_0f7a4_61 rfl (lv_at hl 0 rfl) ?_
          refine lv_iconst (v := 4) hx hb dJ6_numberOfLeadingZeros_0f7a4_62 (by decide) ?_
          refine lv_icmp_lt (tgt := 73) hx hb dJ6_numberOfLeadingZeros_0f7a4_63 (by decide) (fun c_8 => ?_) (fun c_8 => ?_)
          · refine lv_iload_n hx hb dJ6_numberOfLeadingZeros_0f7a4_73 rfl (lv_at hl 1 rfl) ?_
            refine lv_iload_n hx hb dJ6_numberOfLeadingZeros_0f7a4_74 rfl (lv_at hl 0 rfl) ?_
            refine lv_iconst (v := 1) hx hb dJ6_numberOfLeadingZeros_0f7a4_75 (by decide) ?_
            refine lv_iushr (v := (((a0.toUInt32 >>> ((8 : Int32).toUInt32 &&& Int32.toUInt32 31)).toInt32).toUInt32 >>> ((1 : Int32).toUInt32 &&& Int32.toUInt32 31)).toInt32) hx hb dJ6_numberOfLeadingZeros_0f7a4_76 rfl ?_
            refine lv_isub hx hb dJ6_numberOfLeadingZeros_0f7a4_77 ?_
            exact W.iret (v := (((31 : Int32) + (-8 : Int32)) - ((((a0.toUInt32 >>> ((8 : Int32).toUInt32 &&& Int32.toUInt32 31)).toInt32).toUInt32 >>> ((1 : Int32).toUInt32 &&& Int32.toUInt32 31)).toInt32))) hx hb hr (fun t ht _ => ⟨(((31 : Int32) + (-8 : Int32)) - ((((a0.toUInt32 >>> ((8 : Int32).toUInt32 &&& Int32.toUInt32 31)).toInt32).toUInt32 >>> ((1 : Int32).toUInt32 &&& Int32.toUInt32 31)).toInt32)), rfl, by unfold fnJ6_numberOfLeadingZeros_0f7a4; rw [if_pos c_1, if_pos c_2, if_neg c_3, if_pos c_7, if_pos c_8], ht⟩) (fun q h => absurd h List.not_mem_nil) dJ6_numberOfLeadingZeros_0f7a4_78
          · refine lv_iinc (v := (((31 : Int32) + (-8 : Int32)) + (-2 : Int32))) (lv' := [(1, .int ((((31 : Int32) + (-8 : Int32)) + (-2 : Int32)))), (0, .int ((a0.toUInt32 >>> ((8 : Int32).toUInt32 &&& Int32.toUInt32 31)).toInt32))]) hx hb dJ6_numberOfLeadingZeros_0f7a4_66 hl (k := 1) rfl rfl (by decide) rfl (fun ls hl => ?_)
            refine lv_iload_n hx hb dJ6_numberOfLeadingZeros_0f7a4_69 rfl (lv_at hl 1 rfl) ?_
            refine lv_iconst (v := 2) hx hb dJ6_numberOfLeadingZeros_0f7a4_70 (by decide) ?_
            refine lv_iushr (v := (((a0.toUInt32 >>> ((8 : Int32).toUInt32 &&& Int32.toUInt32 31)).toInt32).toUInt32 >>> ((2 : Int32).toUInt32 &&& Int32.toUInt32 31)).toInt32) hx hb dJ6_numberOfLeadingZeros_0f7a4_71 rfl ?_
            refine lv_istore_n (lv' := [(0, .int ((((a0.toUInt32 >>> ((8 : Int32).toUInt32 &&& Int32.toUInt32 31)).toInt32).toUInt32 >>> ((2 : Int32).toUInt32 &&& Int32.toUInt32 31)).toInt32)), (1, .int ((((31 : Int32) + (-8 : Int32)) + (-2 : Int32))))]) hx hb dJ6_numberOfLeadingZeros_0f7a4_72 rfl hl (by decide) rfl (fun ls hl => ?_)
            refine lv_iload_n hx hb dJ6_numberOfLeadingZeros_0f7a4_73 rfl (lv_at hl 1 rfl) ?_
            refine lv_iload_n hx hb dJ6_numberOfLeadingZeros_0f7a4_74 rfl (lv_at hl 0 rfl) ?_
            refine lv_iconst (v := 1) hx hb dJ6_numberOfLeadingZeros_0f7a4_75 (by decide) ?_
            refine lv_iushr (v := (((((a0.toUInt32 >>> ((8 : Int32).toUInt32 &&& Int32.toUInt32 31)).toInt32).toUInt32 >>> ((2 : Int32).toUInt32 &&& Int32.toUInt32 31)).toInt32).toUInt32 >>> ((1 : Int32).toUInt32 &&& Int32.toUInt32 31)).toInt32) hx hb dJ6_numberOfLeadingZeros_0f7a4_76 rfl ?_
            refine lv_isub hx hb dJ6_numberOfLeadingZeros_0f7a4_77 ?_
            exact W.iret (v := ((((31 : Int32) + (-8 : Int32)) + (-2 : Int32)) - ((((((a0.toUInt32 >>> ((8 : Int32).toUInt32 &&& Int32.toUInt32 31)).toInt32).toUInt32 >>> ((2 : Int32).toUInt32 &&& Int32.toUInt32 31)).toInt32).toUInt32 >>> ((1 : Int32).toUInt32 &&& Int32.toUInt32 31)).toInt32))) hx hb hr (fun t ht _ => ⟨((((31 : Int32) + (-8 : Int32)) + (-2 : Int32)) - ((((((a0.toUInt32 >>> ((8 : Int32).toUInt32 &&& Int32.toUInt32 31)).toInt32).toUInt32 >>> ((2 : Int32).toUInt32 &&& Int32.toUInt32 31)).toInt32).toUInt32 >>> ((1 : Int32).toUInt32 &&& Int32.toUInt32 31)).toInt32)), rfl, by unfold fnJ6_numberOfLeadingZeros_0f7a4; rw [if_pos c_1, if_pos c_2, if_neg c_3, if_pos c_7, if_neg c_8], ht⟩) (fun q h => absurd h List.not_mem_nil) dJ6_numberOfLeadingZeros_0f7a4_78
        · refine lv_iinc (v := (((31 : Int32) + (-8 : Int32)) + (-4 : Int32))) (lv' := [(1, .int ((((31 : Int32) + (-8 : Int32)) + (-4 : Int32)))), (0, .int ((a0.toUInt32 >>> ((8 : Int32).toUInt32 &&& Int32.toUInt32 31)).toInt32))]) hx hb dJ6_numberOfLeadingZeros_0f7a4_54 hl (k := 1) rfl rfl (by decide) rfl (fun ls hl => ?_)
          refine lv_iload_n hx hb dJ6_numberOfLeadingZeros_0f7a4_57 rfl (lv_at hl 1 rfl) ?_
          refine lv_iconst (v := 4) hx hb dJ6_numberOfLeadingZeros_0f7a4_58 (by decide) ?_
          refine lv_iushr (v := (((a0.toUInt32 >>> ((8 : Int32).toUInt32 &&& Int32.toUInt32 31)).toInt32).toUInt32 >>> ((4 : Int32).toUInt32 &&& Int32.toUInt32 31)).toInt32) hx hb dJ6_numberOfLeadingZeros_0f7a4_59 rfl ?_
          refine lv_istore_n (lv' := [(0, .int ((((a0.toUInt32 >>> ((8 : Int32).toUInt32 &&& Int32.toUInt32 31)).toInt32).toUInt32 >>> ((4 : Int32).toUInt32 &&& Int32.toUInt32 31)).toInt32)), (1, .int ((((31 : Int32) + (-8 : Int32)) + (-4 : Int32))))]) hx hb dJ6_numberOfLeadingZeros_0f7a4_60 rfl hl (by decide) rfl (fun ls hl => ?_)
          refine lv_iload_n hx hb dJ6_numberOfLeadingZeros_0f7a4_61 rfl (lv_at hl 0 rfl) ?_
          refine lv_iconst (v := 4) hx hb dJ6_numberOfLeadingZeros_0f7a4_62 (by decide) ?_
          refine lv_icmp_lt (tgt := 73) hx hb dJ6_numberOfLeadingZeros_0f7a4_63 (by decide) (fun c_9 => ?_) (fun c_9 => ?_)
          · refine lv_iload_n hx hb dJ6_numberOfLeadingZeros_0f7a4_73 rfl (lv_at hl 1 rfl) ?_
            refine lv_iload_n hx hb dJ6_numberOfLeadingZeros_0f7a4_74 rfl (lv_at hl 0 rfl) ?_
            refine lv_iconst (v := 1) hx hb dJ6_numberOfLeadingZeros_0f7a4_75 (by decide) ?_
            refine lv_iushr (v := (((((a0.toUInt32 >>> ((8 : Int32).toUInt32 &&& Int32.toUInt32 31)).toInt32).toUInt32 >>> ((4 : Int32).toUInt32 &&& Int32.toUInt32 31)).toInt32).toUInt32 >>> ((1 : Int32).toUInt32 &&& Int32.toUInt32 31)).toInt32) hx hb dJ6_numberOfLeadingZeros_0f7a4_76 rfl ?_
            refine lv_isub hx hb dJ6_numberOfLeadingZeros_0f7a4_77 ?_
            exact W.iret (v := ((((31 : Int32) + (-8 : Int32)) + (-4 : Int32)) - ((((((a0.toUInt32 >>> ((8 : Int32).toUInt32 &&& Int32.toUInt32 31)).toInt32).toUInt32 >>> ((4 : Int32).toUInt32 &&& Int32.toUInt32 31)).toInt32).toUInt32 >>> ((1 : Int32).toUInt32 &&& Int32.toUInt32 31)).toInt32))) hx hb hr (fun t ht _ => ⟨((((31 : Int32) + (-8 : Int32)) + (-4 : Int32)) - ((((((a0.toUInt32 >>> ((8 : Int32).toUInt32 &&& Int32.toUInt32 31)).toInt32).toUInt32 >>> ((4 : Int32).toUInt32 &&& Int32.toUInt32 31)).toInt32).toUInt32 >>> ((1 : Int32).toUInt32 &&& Int32.toUInt32 31)).toInt32)), rfl, by unfold fnJ6_numberOfLeadingZeros_0f7a4; rw [if_pos c_1, if_pos c_2, if_neg c_3, if_neg c_7, if_pos c_9], ht⟩) (fun q h => absurd h List.not_mem_nil) dJ6_numberOfLeadingZeros_0f7a4_78
          · refine lv_iinc (v := ((((31 : Int32) + (-8 : Int32)) + (-4 : Int32)) + (-2 : Int32))) (lv' := [(1, .int (((((31 : Int32) + (-8 : Int32)) + (-4 : Int32)) + (-2 : Int32)))), (0, .int ((((a0.toUInt32 >>> ((8 : Int32).toUInt32 &&& Int32.toUInt32 31)).toInt32).toUInt32 >>> ((4 : Int32).toUInt32 &&& Int32.toUInt32 31)).toInt32))]) hx hb dJ6_numberOfLeadingZeros_0f7a4_66 hl (k := 1) rfl rfl (by decide) rfl (fun ls hl => ?_)
            refine lv_iload_n hx hb dJ6_numberOfLeadingZeros_0f7a4_69 rfl (lv_at hl 1 rfl) ?_
            refine lv_iconst (v := 2) hx hb dJ6_numberOfLeadingZeros_0f7a4_70 (by decide) ?_
            refine lv_iushr (v := (((((a0.toUInt32 >>> ((8 : Int32).toUInt32 &&& Int32.toUInt32 31)).toInt32).toUInt32 >>> ((4 : Int32).toUInt32 &&& Int32.toUInt32 31)).toInt32).toUInt32 >>> ((2 : Int32).toUInt32 &&& Int32.toUInt32 31)).toInt32) hx hb dJ6_numberOfLeadingZeros_0f7a4_71 rfl ?_
            refine lv_istore_n (lv' := [(0, .int ((((((a0.toUInt32 >>> ((8 : Int32).toUInt32 &&& Int32.toUInt32 31)).toInt32).toUInt32 >>> ((4 : Int32).toUInt32 &&& Int32.toUInt32 31)).toInt32).toUInt32 >>> ((2 : Int32).toUInt32 &&& Int32.toUInt32 31)).toInt32)), (1, .int (((((31 : Int32) + (-8 : Int32)) + (-4 : Int32)) + (-2 : Int32))))]) hx hb dJ6_numberOfLeadingZeros_0f7a4_72 rfl hl (by decide) rfl (fun ls hl => ?_)
            refine lv_iload_n hx hb dJ6_numberOfLeadingZeros_0f7a4_73 rfl (lv_at hl 1 rfl) ?_
            refine lv_iload_n hx hb dJ6_numberOfLeadingZeros_0f7a4_74 rfl (lv_at hl 0 rfl) ?_
            refine lv_iconst (v := 1) hx hb dJ6_numberOfLeadingZeros_0f7a4_75 (by decide) ?_
            refine lv_iushr (v := (((((((a0.toUInt32 >>> ((8 : Int32).toUInt32 &&& Int32.toUInt32 31)).toInt32).toUInt32 >>> ((4 : Int32).toUInt32 &&& Int32.toUInt32 31)).toInt32).toUInt32 >>> ((2 : Int32).toUInt32 &&& Int32.toUInt32 31)).toInt32).toUInt32 >>> ((1 : Int32).toUInt32 &&& Int32.toUInt32 31)).toInt32) hx hb dJ6_numberOfLeadingZeros_0f7a4_76 rfl ?_
            refine lv_isub hx hb dJ6_numberOfLeadingZeros_0f7a4_77 ?_
            exact W.iret (v := (((((31 : Int32) + (-8 : Int32)) + (-4 : Int32)) + (-2 : Int32)) - ((((((((a0.toUInt32 >>> ((8 : Int32).toUInt32 &&& Int32.toUInt32 31)).toInt32).toUInt32 >>> ((4 : Int32).toUInt32 &&& Int32.toUInt32 31)).toInt32).toUInt32 >>> ((2 : Int32).toUInt32 &&& Int32.toUInt32 31)).toInt32).toUInt32 >>> ((1 : Int32).toUInt32 &&& Int32.toUInt32 31)).toInt32))) hx hb hr (fun t ht _ => ⟨(((((31 : Int32) + (-8 : Int32)) + (-4 : Int32)) + (-2 : Int32)) - ((((((((a0.toUInt32 >>> ((8 : Int32).toUInt32 &&& Int32.toUInt32 31)).toInt32).toUInt32 >>> ((4 : Int32).toUInt32 &&& Int32.toUInt32 31)).toInt32).toUInt32 >>> ((2 : Int32).toUInt32 &&& Int32.toUInt32 31)).toInt32).toUInt32 >>> ((1 : Int32).toUInt32 &&& Int32.toUInt32 31)).toInt32)), rfl, by unfold fnJ6_numberOfLeadingZeros_0f7a4; rw [if_pos c_1, if_pos c_2, if_neg c_3, if_neg c_7, if_neg c_9], ht⟩) (fun q h => absurd h List.not_mem_nil) dJ6_numberOfLeadingZeros_0f7a4_78
    · refine lv_iinc (v := ((31 : Int32) + (-16 : Int32))) (lv' := [(1, .int (((31 : Int32) + (-16 : Int32)))), (0, .int (a0))]) hx hb dJ6_numberOfLeadingZeros_0f7a4_25 hl (k := 0) rfl rfl (by decide) rfl (fun ls hl => ?_)
      refine lv_iload_n hx hb dJ6_numberOfLeadingZeros_0f7a4_28 rfl (lv_at hl 1 rfl) ?_
      refine lv_bipush (v := 16) hx hb dJ6_numberOfLeadingZeros_0f7a4_29 (by decide) ?_
      refine lv_iushr (v := (a0.toUInt32 >>> ((16 : Int32).toUInt32 &&& Int32.toUInt32 31)).toInt32) hx hb dJ6_numberOfLeadingZeros_0f7a4_31 rfl ?_
      refine lv_istore_n (lv' := [(0, .int ((a0.toUInt32 >>> ((16 : Int32).toUInt32 &&& Int32.toUInt32 31)).toInt32)), (1, .int (((31 : Int32) + (-16 : Int32))))]) hx hb dJ6_numberOfLeadingZeros_0f7a4_32 rfl hl (by decide) rfl (fun ls hl => ?_)
      refine lv_iload_n hx hb dJ6_numberOfLeadingZeros_0f7a4_33 rfl (lv_at hl 0 rfl) ?_
      refine lv_sipush (v := 256) hx hb dJ6_numberOfLeadingZeros_0f7a4_34 (by decide) ?_
      refine lv_icmp_lt (tgt := 48) hx hb dJ6_numberOfLeadingZeros_0f7a4_37 (by decide) (fun c_10 => ?_) (fun c_10 => ?_)
      · refine lv_iload_n hx hb dJ6_numberOfLeadingZeros_0f7a4_48 rfl (lv_at hl 0 rfl) ?_
        refine lv_bipush (v := 16) hx hb dJ6_numberOfLeadingZeros_0f7a4_49 (by decide) ?_
        refine lv_icmp_lt (tgt := 61) hx hb dJ6_numberOfLeadingZeros_0f7a4_51 (by decide) (fun c_11 => ?_) (fun c_11 => ?_)
        · refine lv_iload_n hx hb dJ6_numberOfLeadingZeros_0f7a4_61 rfl (lv_at hl 0 rfl) ?_
          refine lv_iconst (v := 4) hx hb dJ6_numberOfLeadingZeros_0f7a4_62 (by decide) ?_
          refine lv_icmp_lt (tgt := 73) hx hb dJ6_numberOfLeadingZeros_0f7a4_63 (by decide) (fun c_12 => ?_) (fun c_12 => ?_)
          · refine lv_iload_n hx hb dJ6_numberOfLeadingZeros_0f7a4_73 rfl (lv_at hl 1 rfl) ?_
            refine lv_iload_n hx hb dJ6_numberOfLeadingZeros_0f7a4_74 rfl (lv_at hl 0 rfl) ?_
            refine lv_iconst (v := 1) hx hb dJ6_numberOfLeadingZeros_0f7a4_75 (by decide) ?_
            refine lv_iushr (v := (((a0.toUInt32 >>> ((16 : Int32).toUInt32 &&& Int32.toUInt32 31)).toInt32).toUInt32 >>> ((1 : Int32).toUInt32 &&& Int32.toUInt32 31)).toInt32) hx hb dJ6_numberOfLeadingZeros_0f7a4_76 rfl ?_
            refine lv_isub hx hb dJ6_numberOfLeadingZeros_0f7a4_77 ?_
            exact W.iret (v := (((31 : Int32) + (-16 : Int32)) - ((((a0.toUInt32 >>> ((16 : Int32).toUInt32 &&& Int32.toUInt32 31)).toInt32).toUInt32 >>> ((1 : Int32).toUInt32 &&& Int32.toUInt32 31)).toInt32))) hx hb hr (fun t ht _ => ⟨(((31 : Int32) + (-16 : Int32)) - ((((a0.toUInt32 >>> ((16 : Int32).toUInt32 &&& Int32.toUInt32 31)).toInt32).toUInt32 >>> ((1 : Int32).toUInt32 &&& Int32.toUInt32 31)).toInt32)), rfl, by unfold fnJ6_numberOfLeadingZeros_0f7a4; rw [if_pos c_1, if_neg c_2, if_pos c_10, if_pos c_11, if_pos c_12], ht⟩) (fun q h => absurd h List.not_mem_nil) dJ6_numberOfLeadingZeros_0f7a4_78
          · refine lv_iinc (v := (((31 : Int32) + (-16 : Int32)) + (-2 : Int32))) (lv' := [(1, .int ((((31 : Int32) + (-16 : Int32)) + (-2 : Int32)))), (0, .int ((a0.toUInt32 >>> ((16 : Int32).toUInt32 &&& Int32.toUInt32 31)).toInt32))]) hx hb dJ6_numberOfLeadingZeros_0f7a4_66 hl (k := 1) rfl rfl (by decide) rfl (fun ls hl => ?_)
            refine lv_iload_n hx hb dJ6_numberOfLeadingZeros_0f7a4_69 rfl (lv_at hl 1 rfl) ?_
            refine lv_iconst (v := 2) hx hb dJ6_numberOfLeadingZeros_0f7a4_70 (by decide) ?_
            refine lv_iushr (v := (((a0.toUInt32 >>> ((16 : Int32).toUInt32 &&& Int32.toUInt32 31)).toInt32).toUInt32 >>> ((2 : Int32).toUInt32 &&& Int32.toUInt32 31)).toInt32) hx hb dJ6_numberOfLeadingZeros_0f7a4_71 rfl ?_
            refine lv_istore_n (lv' := [(0, .int ((((a0.toUInt32 >>> ((16 : Int32).toUInt32 &&& Int32.toUInt32 31)).toInt32).toUInt32 >>> ((2 : Int32).toUInt32 &&& Int32.toUInt32 31)).toInt32)), (1, .int ((((31 : Int32) + (-16 : Int32)) + (-2 : Int32))))]) hx hb dJ6_numberOfLeadingZeros_0f7a4_72 rfl hl (by decide) rfl (fun ls hl => ?_)
            refine lv_iload_n hx hb dJ6_numberOfLeadingZeros_0f7a4_73 rfl (lv_at hl 1 rfl) ?_
            refine lv_iload_n hx hb dJ6_numberOfLeadingZeros_0f7a4_74 rfl (lv_at hl 0 rfl) ?_
            refine lv_iconst (v := 1) hx hb dJ6_numberOfLeadingZeros_0f7a4_75 (by decide) ?_
            refine lv_iushr (v := (((((a0.toUInt32 >>> ((16 : Int32).toUInt32 &&& Int32.toUInt32 31)).toInt32).toUInt32 >>> ((2 : Int32).toUInt32 &&& Int32.toUInt32 31)).toInt32).toUInt32 >>> ((1 : Int32).toUInt32 &&& Int32.toUInt32 31)).toInt32) hx hb dJ6_numberOfLeadingZeros_0f7a4_76 rfl ?_
            refine lv_isub hx hb dJ6_numberOfLeadingZeros_0f7a4_77 ?_
            exact W.iret (v := ((((31 : Int32) + (-16 : Int32)) + (-2 : Int32)) - ((((((a0.toUInt32 >>> ((16 : Int32).toUInt32 &&& Int32.toUInt32 31)).toInt32).toUInt32 >>> ((2 : Int32).toUInt32 &&& Int32.toUInt32 31)).toInt32).toUInt32 >>> ((1 : Int32).toUInt32 &&& Int32.toUInt32 31)).toInt32))) hx hb hr (fun t ht _ => ⟨((((31 : Int32) + (-16 : Int32)) + (-2 : Int32)) - ((((((a0.toUInt32 >>> ((16 : Int32).toUInt32 &&& Int32.toUInt32 31)).toInt32).toUInt32 >>> ((2 : Int32).toUInt32 &&& Int32.toUInt32 31)).toInt32).toUInt32 >>> ((1 : Int32).toUInt32 &&& Int32.toUInt32 31)).toInt32)), rfl, by unfold fnJ6_numberOfLeadingZeros_0f7a4; rw [if_pos c_1, if_neg c_2, if_pos c_10, if_pos c_11, if_neg c_12], ht⟩) (fun q h => absurd h List.not_mem_nil) dJ6_numberOfLeadingZeros_0f7a4_78
        · refine lv_iinc (v := (((31 : Int32) + (-16 : Int32)) + (-4 : Int32))) (lv' := [(1, .int ((((31 : Int32) + (-16 : Int32)) + (-4 : Int32)))), (0, .int ((a0.toUInt32 >>> ((16 : Int32).toUInt32 &&& Int32.toUInt32 31)).toInt32))]) hx hb dJ6_numberOfLeadingZeros_0f7a4_54 hl (k := 1) rfl rfl (by decide) rfl (fun ls hl => ?_)
          refine lv_iload_n hx hb dJ6_numberOfLeadingZeros_0f7a4_57 rfl (lv_at hl 1 rfl) ?_
          refine lv_iconst (v := 4) hx hb dJ6_numberOfLeadingZeros_0f7a4_58 (by decide) ?_
          refine lv_iushr (v := (((a0.toUInt32 >>> ((16 : Int32).toUInt32 &&& Int32.toUInt32 31)).toInt32).toUInt32 >>> ((4 : Int32).toUInt32 &&& Int32.toUInt32 31)).toInt32) hx hb dJ6_numberOfLeadingZeros_0f7a4_59 rfl ?_
          refine lv_istore_n (lv' := [(0, .int ((((a0.toUInt32 >>> ((16 : Int32).toUInt32 &&& Int32.toUInt32 31)).toInt32).toUInt32 >>> ((4 : Int32).toUInt32 &&& Int32.toUInt32 31)).toInt32)), (1, .int ((((31 : Int32) + (-16 : Int32)) + (-4 : Int32))))]) hx hb dJ6_numberOfLeadingZeros_0f7a4_60 rfl hl (by decide) rfl (fun ls hl => ?_)
          refine lv_iload_n hx hb dJ6_numberOfLeadingZeros_0f7a4_61 rfl (lv_at hl 0 rfl) ?_
          refine lv_iconst (v := 4) hx hb dJ6_numberOfLeadingZeros_0f7a4_62 (by decide) ?_
          refine lv_icmp_lt (tgt := 73) hx hb dJ6_numberOfLeadingZeros_0f7a4_63 (by decide) (fun c_13 => ?_) (fun c_13 => ?_)
          · refine lv_iload_n hx hb dJ6_numberOfLeadingZeros_0f7a4_73 rfl (lv_at hl 1 rfl) ?_
            refine lv_iload_n hx hb dJ6_numberOfLeadingZeros_0f7a4_74 rfl (lv_at hl 0 rfl) ?_
            refine lv_iconst (v := 1) hx hb dJ6_numberOfLeadingZeros_0f7a4_75 (by decide) ?_
            refine lv_iushr (v := (((((a0.toUInt32 >>> ((16 : Int32).toUInt32 &&& Int32.toUInt32 31)).toInt32).toUInt32 >>> ((4 : Int32).toUInt32 &&& Int32.toUInt32 31)).toInt32).toUInt32 >>> ((1 : Int32).toUInt32 &&& Int32.toUInt32 31)).toInt32) hx hb dJ6_numberOfLeadingZeros_0f7a4_76 rfl ?_
            refine lv_isub hx hb dJ6_numberOfLeadingZeros_0f7a4_77 ?_
            exact W.iret (v := ((((31 : Int32) + (-16 : Int32)) + (-4 : Int32)) - ((((((a0.toUInt32 >>> ((16 : Int32).toUInt32 &&& Int32.toUInt32 31)).toInt32).toUInt32 >>> ((4 : Int32).toUInt32 &&& Int32.toUInt32 31)).toInt32).toUInt32 >>> ((1 : Int32).toUInt32 &&& Int32.toUInt32 31)).toInt32))) hx hb hr (fun t ht _ => ⟨((((31 : Int32) + (-16 : Int32)) + (-4 : Int32)) - ((((((a0.toUInt32 >>> ((16 : Int32).toUInt32 &&& Int32.toUInt32 31)).toInt32).toUInt32 >>> ((4 : Int32).toUInt32 &&& Int32.toUInt32 31)).toInt32).toUInt32 >>> ((1 : Int32).toUInt32 &&& Int32.toUInt32 31)).toInt32)), rfl, by unfold fnJ6_numberOfLeadingZeros_0f7a4; rw [if_pos c_1, if_neg c_2, if_pos c_10, if_neg c_11, if_pos c_13], ht⟩) (fun q h => absurd h List.not_mem_nil) dJ6_numberOfLeadingZeros_0f7a4_78
          · refine lv_iinc (v := ((((31 : Int32) + (-16 : Int32)) + (-4 : Int32)) + (-2 : Int32))) (lv' := [(1, .int (((((31 : Int32) + (-16 : Int32)) + (-4 : Int32)) + (-2 : Int32)))), (0, .int ((((a0.toUInt32 >>> ((16 : Int32).toUInt32 &&& Int32.toUInt32 31)).toInt32).toUInt32 >>> ((4 : Int32).toUInt32 &&& Int32.toUInt32 31)).toInt32))]) hx hb dJ6_numberOfLeadingZeros_0f7a4_66 hl (k := 1) rfl rfl (by decide) rfl (fun ls hl => ?_)
            refine lv_iload_n hx hb dJ6_numberOfLeadingZeros_0f7a4_69 rfl (lv_at hl 1 rfl) ?_
            refine lv_iconst (v := 2) hx hb dJ6_numberOfLeadingZeros_0f7a4_70 (by decide) ?_
            refine lv_iushr (v := (((((a0.toUInt32 >>> ((16 : Int32).toUInt32 &&& Int32.toUInt32 31)).toInt32).toUInt32 >>> ((4 : Int32).toUInt32 &&& Int32.toUInt32 31)).toInt32).toUInt32 >>> ((2 : Int32).toUInt32 &&& Int32.toUInt32 31)).toInt32) hx hb dJ6_numberOfLeadingZeros_0f7a4_71 rfl ?_
            refine lv_istore_n (lv' := [(0, .int ((((((a0.toUInt32 >>> ((16 : Int32).toUInt32 &&& Int32.toUInt32 31)).toInt32).toUInt32 >>> ((4 : Int32).toUInt32 &&& Int32.toUInt32 31)).toInt32).toUInt32 >>> ((2 : Int32).toUInt32 &&& Int32.toUInt32 31)).toInt32)), (1, .int (((((31 : Int32) + (-16 : Int32)) + (-4 : Int32)) + (-2 : Int32))))]) hx hb dJ6_numberOfLeadingZeros_0f7a4_72 rfl hl (by decide) rfl (fun ls hl => ?_)
            refine lv_iload_n hx hb dJ6_numberOfLeadingZeros_0f7a4_73 rfl (lv_at hl 1 rfl) ?_
            refine lv_iload_n hx hb dJ6_numberOfLeadingZeros_0f7a4_74 rfl (lv_at hl 0 rfl) ?_
            refine lv_iconst (v := 1) hx hb dJ6_numberOfLeadingZeros_0f7a4_75 (by decide) ?_
            refine lv_iushr (v := (((((((a0.toUInt32 >>> ((16 : Int32).toUInt32 &&& Int32.toUInt32 31)).toInt32).toUInt32 >>> ((4 : Int32).toUInt32 &&& Int32.toUInt32 31)).toInt32).toUInt32 >>> ((2 : Int32).toUInt32 &&& Int32.toUInt32 31)).toInt32).toUInt32 >>> ((1 : Int32).toUInt32 &&& Int32.toUInt32 31)).toInt32) hx hb dJ6_numberOfLeadingZeros_0f7a4_76 rfl ?_
            refine lv_isub hx hb dJ6_numberOfLeadingZeros_0f7a4_77 ?_
            exact W.iret (v := (((((31 : Int32) + (-16 : Int32)) + (-4 : Int32)) + (-2 : Int32)) - ((((((((a0.toUInt32 >>> ((16 : Int32).toUInt32 &&& Int32.toUInt32 31)).toInt32).toUInt32 >>> ((4 : Int32).toUInt32 &&& Int32.toUInt32 31)).toInt32).toUInt32 >>> ((2 : Int32).toUInt32 &&& Int32.toUInt32 31)).toInt32).toUInt32 >>> ((1 : Int32).toUInt32 &&& Int32.toUInt32 31)).toInt32))) hx hb hr (fun t ht _ => ⟨(((((31 : Int32) + (-16 : Int32)) + (-4 : Int32)) + (-2 : Int32)) - ((((((((a0.toUInt32 >>> ((16 : Int32).toUInt32 &&& Int32.toUInt32 31)).toInt32).toUInt32 >>> ((4 : Int32).toUInt32 &&& Int32.toUInt32 31)).toInt32).toUInt32 >>> ((2 : Int32).toUInt32 &&& Int32.toUInt32 31)).toInt32).toUInt32 >>> ((1 : Int32).toUInt32 &&& Int32.toUInt32 31)).toInt32)), rfl, by unfold fnJ6_numberOfLeadingZeros_0f7a4; rw [if_pos c_1, if_neg c_2, if_pos c_10, if_neg c_11, if_neg c_13], ht⟩) (fun q h => absurd h List.not_mem_nil) dJ6_numberOfLeadingZeros_0f7a4_78
      · refine lv_iinc (v := (((31 : Int32) + (-16 : Int32)) + (-8 : Int32))) (lv' := [(1, .int ((((31 : Int32) + (-16 : Int32)) + (-8 : Int32)))), (0, .int ((a0.toUInt32 >>> ((16 : Int32).toUInt32 &&& Int32.toUInt32 31)).toInt32))]) hx hb dJ6_numberOfLeadingZeros_0f7a4_40 hl (k := 1) rfl rfl (by decide) rfl (fun ls hl => ?_)
        refine lv_iload_n hx hb dJ6_numberOfLeadingZeros_0f7a4_43 rfl (lv_at hl 1 rfl) ?_
        refine lv_bipush (v := 8) hx hb dJ6_numberOfLeadingZeros_0f7a4_44 (by decide) ?_
        refine lv_iushr (v := (((a0.toUInt32 >>> ((16 : Int32).toUInt32 &&& Int32.toUInt32 31)).toInt32).toUInt32 >>> ((8 : Int32).toUInt32 &&& Int32.toUInt32 31)).toInt32) hx hb dJ6_numberOfLeadingZeros_0f7a4_46 rfl ?_
        refine lv_istore_n (lv' := [(0, .int ((((a0.toUInt32 >>> ((16 : Int32).toUInt32 &&& Int32.toUInt32 31)).toInt32).toUInt32 >>> ((8 : Int32).toUInt32 &&& Int32.toUInt32 31)).toInt32)), (1, .int ((((31 : Int32) + (-16 : Int32)) + (-8 : Int32))))]) hx hb dJ6_numberOfLeadingZeros_0f7a4_47 rfl hl (by decide) rfl (fun ls hl => ?_)
        refine lv_iload_n hx hb dJ6_numberOfLeadingZeros_0f7a4_48 rfl (lv_at hl 0 rfl) ?_
        refine lv_bipush (v := 16) hx hb dJ6_numberOfLeadingZeros_0f7a4_49 (by decide) ?_
        refine lv_icmp_lt (tgt := 61) hx hb dJ6_numberOfLeadingZeros_0f7a4_51 (by decide) (fun c_14 => ?_) (fun c_14 => ?_)
        · refine lv_iload_n hx hb dJ6_numberOfLeadingZeros_0f7a4_61 rfl (lv_at hl 0 rfl) ?_
          refine lv_iconst (v := 4) hx hb dJ6_numberOfLeadingZeros_0f7a4_62 (by decide) ?_
          refine lv_icmp_lt (tgt := 73) hx hb dJ6_numberOfLeadingZeros_0f7a4_63 (by decide) (fun c_15 => ?_) (fun c_15 => ?_)
          · refine lv_iload_n hx hb dJ6_numberOfLeadingZeros_0f7a4_73 rfl (lv_at hl 1 rfl) ?_
            refine lv_iload_n hx hb dJ6_numberOfLeadingZeros_0f7a4_74 rfl (lv_at hl 0 rfl) ?_
            refine lv_iconst (v := 1) hx hb dJ6_numberOfLeadingZeros_0f7a4_75 (by decide) ?_
            refine lv_iushr (v := (((((a0.toUInt32 >>> ((16 : Int32).toUInt32 &&& Int32.toUInt32 31)).toInt32).toUInt32 >>> ((8 : Int32).toUInt32 &&& Int32.toUInt32 31)).toInt32).toUInt32 >>> ((1 : Int32).toUInt32 &&& Int32.toUInt32 31)).toInt32) hx hb dJ6_numberOfLeadingZeros_0f7a4_76 rfl ?_
            refine lv_isub hx hb dJ6_numberOfLeadingZeros_0f7a4_77 ?_
            exact W.iret (v := ((((31 : Int32) + (-16 : Int32)) + (-8 : Int32)) - ((((((a0.toUInt32 >>> ((16 : Int32).toUInt32 &&& Int32.toUInt32 31)).toInt32).toUInt32 >>> ((8 : Int32).toUInt32 &&& Int32.toUInt32 31)).toInt32).toUInt32 >>> ((1 : Int32).toUInt32 &&& Int32.toUInt32 31)).toInt32))) hx hb hr (fun t ht _ => ⟨((((31 : Int32) + (-16 : Int32)) + (-8 : Int32)) - ((((((a0.toUInt32 >>> ((16 : Int32).toUInt32 &&& Int32.toUInt32 31)).toInt32).toUInt32 >>> ((8 : Int32).toUInt32 &&& Int32.toUInt32 31)).toInt32).toUInt32 >>> ((1 : Int32).toUInt32 &&& Int32.toUInt32 31)).toInt32)), rfl, by unfold fnJ6_numberOfLeadingZeros_0f7a4; rw [if_pos c_1, if_neg c_2, if_neg c_10, if_pos c_14, if_pos c_15], ht⟩) (fun q h => absurd h List.not_mem_nil) dJ6_numberOfLeadingZeros_0f7a4_78
          · refine lv_iinc (v := ((((31 : Int32) + (-16 : Int32)) + (-8 : Int32)) + (-2 : Int32))) (lv' := [(1, .int (((((31 : Int32) + (-16 : Int32)) + (-8 : Int32)) + (-2 : Int32)))), (0, .int ((((a0.toUInt32 >>> ((16 : Int32).toUInt32 &&& Int32.toUInt32 31)).toInt32).toUInt32 >>> ((8 : Int32).toUInt32 &&& Int32.toUInt32 31)).toInt32))]) hx hb dJ6_numberOfLeadingZeros_0f7a4_66 hl (k := 1) rfl rfl (by decide) rfl (fun ls hl => ?_)
            refine lv_iload_n hx hb dJ6_numberOfLeadingZeros_0f7a4_69 rfl (lv_at hl 1 rfl) ?_
            refine lv_iconst (v := 2) hx hb dJ6_numberOfLeadingZeros_0f7a4_70 (by decide) ?_
            refine lv_iushr (v := (((((a0.toUInt32 >>> ((16 : Int32).toUInt32 &&& Int32.toUInt32 31)).toInt32).toUInt32 >>> ((8 : Int32).toUInt32 &&& Int32.toUInt32 31)).toInt32).toUInt32 >>> ((2 : Int32).toUInt32 &&& Int32.toUInt32 31)).toInt32) hx hb dJ6_numberOfLeadingZeros_0f7a4_71 rfl ?_
            refine lv_istore_n (lv' := [(0, .int ((((((a0.toUInt32 >>> ((16 : Int32).toUInt32 &&& Int32.toUInt32 31)).toInt32).toUInt32 >>> ((8 : Int32).toUInt32 &&& Int32.toUInt32 31)).toInt32).toUInt32 >>> ((2 : Int32).toUInt32 &&& Int32.toUInt32 31)).toInt32)), (1, .int (((((31 : Int32) + (-16 : Int32)) + (-8 : Int32)) + (-2 : Int32))))]) hx hb dJ6_numberOfLeadingZeros_0f7a4_72 rfl hl (by decide) rfl (fun ls hl => ?_)
            refine lv_iload_n hx hb dJ6_numberOfLeadingZeros_0f7a4_73 rfl (lv_at hl 1 rfl) ?_
            refine lv_iload_n hx hb dJ6_numberOfLeadingZeros_0f7a4_74 rfl (lv_at hl 0 rfl) ?_
            refine lv_iconst (v := 1) hx hb dJ6_numberOfLeadingZeros_0f7a4_75 (by decide) ?_
            refine lv_iushr (v := (((((((a0.toUInt32 >>> ((16 : Int32).toUInt32 &&& Int32.toUInt32 31)).toInt32).toUInt32 >>> ((8 : Int32).toUInt32 &&& Int32.toUInt32 31)).toInt32).toUInt32 >>> ((2 : Int32).toUInt32 &&& Int32.toUInt32 31)).toInt32).toUInt32 >>> ((1 : Int32).toUInt32 &&& Int32.toUInt32 31)).toInt32) hx hb dJ6_numberOfLeadingZeros_0f7a4_76 rfl ?_
            refine lv_isub hx hb dJ6_numberOfLeadingZeros_0f7a4_77 ?_
            exact W.iret (v := (((((31 : Int32) + (-16 : Int32)) + (-8 : Int32)) + (-2 : Int32)) - ((((((((a0.toUInt32 >>> ((16 : Int32).toUInt32 &&& Int32.toUInt32 31)).toInt32).toUInt32 >>> ((8 : Int32).toUInt32 &&& Int32.toUInt32 31)).toInt32).toUInt32 >>> ((2 : Int32).toUInt32 &&& Int32.toUInt32 31)).toInt32).toUInt32 >>> ((1 : Int32).toUInt32 &&& Int32.toUInt32 31)).toInt32))) hx hb hr (fun t ht _ => ⟨(((((31 : Int32) + (-16 : Int32)) + (-8 : Int32)) + (-2 : Int32)) - ((((((((a0.toUInt32 >>> ((16 : Int32).toUInt32 &&& Int32.toUInt32 31)).toInt32).toUInt32 >>> ((8 : Int32).toUInt32 &&& Int32.toUInt32 31)).toInt32).toUInt32 >>> ((2 : Int32).toUInt32 &&& Int32.toUInt32 31)).toInt32).toUInt32 >>> ((1 : Int32).toUInt32 &&& Int32.toUInt32 31)).toInt32)), rfl, by unfold fnJ6_numberOfLeadingZeros_0f7a4; rw [if_pos c_1, if_neg c_2, if_neg c_10, if_pos c_14, if_neg c_15], ht⟩) (fun q h => absurd h List.not_mem_nil) dJ6_numberOfLeadingZeros_0f7a4_78
        · refine lv_iinc (v := ((((31 : Int32) + (-16 : Int32)) + (-8 : Int32)) + (-4 : Int32))) (lv' := [(1, .int (((((31 : Int32) + (-16 : Int32)) + (-8 : Int32)) + (-4 : Int32)))), (0, .int ((((a0.toUInt32 >>> ((16 : Int32).toUInt32 &&& Int32.toUInt32 31)).toInt32).toUInt32 >>> ((8 : Int32).toUInt32 &&& Int32.toUInt32 31)).toInt32))]) hx hb dJ6_numberOfLeadingZeros_0f7a4_54 hl (k := 1) rfl rfl (by decide) rfl (fun ls hl => ?_)
          refine lv_iload_n hx hb dJ6_numberOfLeadingZeros_0f7a4_57 rfl (lv_at hl 1 rfl) ?_
          refine lv_iconst (v := 4) hx hb dJ6_numberOfLeadingZeros_0f7a4_58 (by decide) ?_
          refine lv_iushr (v := (((((a0.toUInt32 >>> ((16 : Int32).toUInt32 &&& Int32.toUInt32 31)).toInt32).toUInt32 >>> ((8 : Int32).toUInt32 &&& Int32.toUInt32 31)).toInt32).toUInt32 >>> ((4 : Int32).toUInt32 &&& Int32.toUInt32 31)).toInt32) hx hb dJ6_numberOfLeadingZeros_0f7a4_59 rfl ?_
          refine lv_istore_n (lv' := [(0, .int ((((((a0.toUInt32 >>> ((16 : Int32).toUInt32 &&& Int32.toUInt32 31)).toInt32).toUInt32 >>> ((8 : Int32).toUInt32 &&& Int32.toUInt32 31)).toInt32).toUInt32 >>> ((4 : Int32).toUInt32 &&& Int32.toUInt32 31)).toInt32)), (1, .int (((((31 : Int32) + (-16 : Int32)) + (-8 : Int32)) + (-4 : Int32))))]) hx hb dJ6_numberOfLeadingZeros_0f7a4_60 rfl hl (by decide) rfl (fun ls hl => ?_)
          refine lv_iload_n hx hb dJ6_numberOfLeadingZeros_0f7a4_61 rfl (lv_at hl 0 rfl) ?_
          refine lv_iconst (v := 4) hx hb dJ6_numberOfLeadingZeros_0f7a4_62 (by decide) ?_
          refine lv_icmp_lt (tgt := 73) hx hb dJ6_numberOfLeadingZeros_0f7a4_63 (by decide) (fun c_16 => ?_) (fun c_16 => ?_)
          · refine lv_iload_n hx hb dJ6_numberOfLeadingZeros_0f7a4_73 rfl (lv_at hl 1 rfl) ?_
            refine lv_iload_n hx hb dJ6_numberOfLeadingZeros_0f7a4_74 rfl (lv_at hl 0 rfl) ?_
            refine lv_iconst (v := 1) hx hb dJ6_numberOfLeadingZeros_0f7a4_75 (by decide) ?_
            refine lv_iushr (v := (((((((a0.toUInt32 >>> ((16 : Int32).toUInt32 &&& Int32.toUInt32 31)).toInt32).toUInt32 >>> ((8 : Int32).toUInt32 &&& Int32.toUInt32 31)).toInt32).toUInt32 >>> ((4 : Int32).toUInt32 &&& Int32.toUInt32 31)).toInt32).toUInt32 >>> ((1 : Int32).toUInt32 &&& Int32.toUInt32 31)).toInt32) hx hb dJ6_numberOfLeadingZeros_0f7a4_76 rfl ?_
            refine lv_isub hx hb dJ6_numberOfLeadingZeros_0f7a4_77 ?_
            exact W.iret (v := (((((31 : Int32) + (-16 : Int32)) + (-8 : Int32)) + (-4 : Int32)) - ((((((((a0.toUInt32 >>> ((16 : Int32).toUInt32 &&& Int32.toUInt32 31)).toInt32).toUInt32 >>> ((8 : Int32).toUInt32 &&& Int32.toUInt32 31)).toInt32).toUInt32 >>> ((4 : Int32).toUInt32 &&& Int32.toUInt32 31)).toInt32).toUInt32 >>> ((1 : Int32).toUInt32 &&& Int32.toUInt32 31)).toInt32))) hx hb hr (fun t ht _ => ⟨(((((31 : Int32) + (-16 : Int32)) + (-8 : Int32)) + (-4 : Int32)) - ((((((((a0.toUInt32 >>> ((16 : Int32).toUInt32 &&& Int32.toUInt32 31)).toInt32).toUInt32 >>> ((8 : Int32).toUInt32 &&& Int32.toUInt32 31)).toInt32).toUInt32 >>> ((4 : Int32).toUInt32 &&& Int32.toUInt32 31)).toInt32).toUInt32 >>> ((1 : Int32).toUInt32 &&& Int32.toUInt32 31)).toInt32)), rfl, by unfold fnJ6_numberOfLeadingZeros_0f7a4; rw [if_pos c_1, if_neg c_2, if_neg c_10, if_neg c_14, if_pos c_16], ht⟩) (fun q h => absurd h List.not_mem_nil) dJ6_numberOfLeadingZeros_0f7a4_78
          · refine lv_iinc (v := (((((31 : Int32) + (-16 : Int32)) + (-8 : Int32)) + (-4 : Int32)) + (-2 : Int32))) (lv' := [(1, .int ((((((31 : Int32) + (-16 : Int32)) + (-8 : Int32)) + (-4 : Int32)) + (-2 : Int32)))), (0, .int ((((((a0.toUInt32 >>> ((16 : Int32).toUInt32 &&& Int32.toUInt32 31)).toInt32).toUInt32 >>> ((8 : Int32).toUInt32 &&& Int32.toUInt32 31)).toInt32).toUInt32 >>> ((4 : Int32).toUInt32 &&& Int32.toUInt32 31)).toInt32))]) hx hb dJ6_numberOfLeadingZeros_0f7a4_66 hl (k := 1) rfl rfl (by decide) rfl (fun ls hl => ?_)
            refine lv_iload_n hx hb dJ6_numberOfLeadingZeros_0f7a4_69 rfl (lv_at hl 1 rfl) ?_
            refine lv_iconst (v := 2) hx hb dJ6_numberOfLeadingZeros_0f7a4_70 (by decide) ?_
            refine lv_iushr (v := (((((((a0.toUInt32 >>> ((16 : Int32).toUInt32 &&& Int32.toUInt32 31)).toInt32).toUInt32 >>> ((8 : Int32).toUInt32 &&& Int32.toUInt32 31)).toInt32).toUInt32 >>> ((4 : Int32).toUInt32 &&& Int32.toUInt32 31)).toInt32).toUInt32 >>> ((2 : Int32).toUInt32 &&& Int32.toUInt32 31)).toInt32) hx hb dJ6_numberOfLeadingZeros_0f7a4_71 rfl ?_
            refine lv_istore_n (lv' := [(0, .int ((((((((a0.toUInt32 >>> ((16 : Int32).toUInt32 &&& Int32.toUInt32 31)).toInt32).toUInt32 >>> ((8 : Int32).toUInt32 &&& Int32.toUInt32 31)).toInt32).toUInt32 >>> ((4 : Int32).toUInt32 &&& Int32.toUInt32 31)).toInt32).toUInt32 >>> ((2 : Int32).toUInt32 &&& Int32.toUInt32 31)).toInt32)), (1, .int ((((((31 : Int32) + (-16 : Int32)) + (-8 : Int32)) + (-4 : Int32)) + (-2 : Int32))))]) hx hb dJ6_numberOfLeadingZeros_0f7a4_72 rfl hl (by decide) rfl (fun ls hl => ?_)
            refine lv_iload_n hx hb dJ6_numberOfLeadingZeros_0f7a4_73 rfl (lv_at hl 1 rfl) ?_
            refine lv_iload_n hx hb dJ6_numberOfLeadingZeros_0f7a4_74 rfl (lv_at hl 0 rfl) ?_
            refine lv_iconst (v := 1) hx hb dJ6_numberOfLeadingZeros_0f7a4_75 (by decide) ?_
            refine lv_iushr (v := (((((((((a0.toUInt32 >>> ((16 : Int32).toUInt32 &&& Int32.toUInt32 31)).toInt32).toUInt32 >>> ((8 : Int32).toUInt32 &&& Int32.toUInt32 31)).toInt32).toUInt32 >>> ((4 : Int32).toUInt32 &&& Int32.toUInt32 31)).toInt32).toUInt32 >>> ((2 : Int32).toUInt32 &&& Int32.toUInt32 31)).toInt32).toUInt32 >>> ((1 : Int32).toUInt32 &&& Int32.toUInt32 31)).toInt32) hx hb dJ6_numberOfLeadingZeros_0f7a4_76 rfl ?_
            refine lv_isub hx hb dJ6_numberOfLeadingZeros_0f7a4_77 ?_
            exact W.iret (v := ((((((31 : Int32) + (-16 : Int32)) + (-8 : Int32)) + (-4 : Int32)) + (-2 : Int32)) - ((((((((((a0.toUInt32 >>> ((16 : Int32).toUInt32 &&& Int32.toUInt32 31)).toInt32).toUInt32 >>> ((8 : Int32).toUInt32 &&& Int32.toUInt32 31)).toInt32).toUInt32 >>> ((4 : Int32).toUInt32 &&& Int32.toUInt32 31)).toInt32).toUInt32 >>> ((2 : Int32).toUInt32 &&& Int32.toUInt32 31)).toInt32).toUInt32 >>> ((1 : Int32).toUInt32 &&& Int32.toUInt32 31)).toInt32))) hx hb hr (fun t ht _ => ⟨((((((31 : Int32) + (-16 : Int32)) + (-8 : Int32)) + (-4 : Int32)) + (-2 : Int32)) - ((((((((((a0.toUInt32 >>> ((16 : Int32).toUInt32 &&& Int32.toUInt32 31)).toInt32).toUInt32 >>> ((8 : Int32).toUInt32 &&& Int32.toUInt32 31)).toInt32).toUInt32 >>> ((4 : Int32).toUInt32 &&& Int32.toUInt32 31)).toInt32).toUInt32 >>> ((2 : Int32).toUInt32 &&& Int32.toUInt32 31)).toInt32).toUInt32 >>> ((1 : Int32).toUInt32 &&& Int32.toUInt32 31)).toInt32)), rfl, by unfold fnJ6_numberOfLeadingZeros_0f7a4; rw [if_pos c_1, if_neg c_2, if_neg c_10, if_neg c_14, if_neg c_16], ht⟩) (fun q h => absurd h List.not_mem_nil) dJ6_numberOfLeadingZeros_0f7a4_78
  · refine lv_iload_n hx hb dJ6_numberOfLeadingZeros_0f7a4_4 rfl (lv_at hl 0 rfl) ?_
    refine lv_if_ne (tgt := 13) hx hb dJ6_numberOfLeadingZeros_0f7a4_5 (by decide) (fun c_17 => ?_) (fun c_17 => ?_)
    · refine lv_iconst (v := 0) hx hb dJ6_numberOfLeadingZeros_0f7a4_13 (by decide) ?_
      exact W.iret (v := 0) hx hb hr (fun t ht _ => ⟨0, rfl, by unfold fnJ6_numberOfLeadingZeros_0f7a4; rw [if_neg c_1, if_neg c_17], ht⟩) (fun q h => absurd h List.not_mem_nil) dJ6_numberOfLeadingZeros_0f7a4_14
    · refine lv_bipush (v := 32) hx hb dJ6_numberOfLeadingZeros_0f7a4_8 (by decide) ?_
      refine lv_goto (tgt := 14) hx hb dJ6_numberOfLeadingZeros_0f7a4_10 (by decide) ?_
      exact W.iret (v := 32) hx hb hr (fun t ht _ => ⟨32, rfl, by unfold fnJ6_numberOfLeadingZeros_0f7a4; rw [if_neg c_1, if_pos c_17], ht⟩) (fun q h => absurd h List.not_mem_nil) dJ6_numberOfLeadingZeros_0f7a4_14

def fnX0_highestPlace (a0 : Int32) : Int32 := ((31 : Int32) - (fnJ6_numberOfLeadingZeros_0f7a4 a0))
set_option maxHeartbeats 4000000 in
set_option maxRecDepth 100000 in
theorem metX0_highestPlace (l : Launch) (a0 : Int32) : Met l yX0_highestPlace wsX0_highestPlace ({ frames := 1, cells := 0, slots := 0, locals := 21 }) (va_Pc [.int a0] (fun _ => True)) (vp_Si (fun r => r = fnX0_highestPlace a0)) 0 0 (fun _ => False) := by
  refine Met.ofW (cc := cX0_highestPlace) (maxL := 1) (ret := (some .int)) (by decide) rfl ?_
  intro p e s m args below meth c s₁ B hml hv
  obtain ⟨rfl, -⟩ := hv
  have hx := B.exec
  have hb := B.bytes
  have hr := B.returns
  have hts := atoms_spec (ws := wsX0_highestPlace) B.pre
  have hown : s.vm.findClass RX0 = some m.cls := findClass_of_methodNamed B.named
  have hlocks := B.notSynchronized
  have hl := lv_entry ([.int a0]) (n := 1) (Nat.le_of_ble_eq_true rfl)
  rw [lg_entry_eq]
  generalize (lg_sl ([.int a0]) ++ List.replicate (1 - (lg_sl ([.int a0])).length) Slot.unset).toArray = ls at hl ⊢
  have hl : lv_has ls 1 [(0, .int (a0))] := hl
  refine lv_bipush (v := 31) hx hb dX0_highestPlace_0 (by decide) ?_
  refine lv_iload_n hx hb dX0_highestPlace_2 rfl (lv_at hl 0 rfl) ?_
  refine vp_callSi (W.runS (As := [.int (a0)]) (rest := [.int (31)]) ⟨hx, hb, hml, hown, hts⟩ (metJ6_numberOfLeadingZeros_0f7a4 l a0) (va_cwS 1 hts gX0_highestPlace_J6_numberOfLeadingZeros_0f7a4 rfl rfl rfl (by decide +kernel) ⟨(Nat.le_of_ble_eq_true rfl), (Nat.le_of_ble_eq_true rfl)⟩) ⟨fun a U g mk q => q, fun U hU hW => ⟨rfl, trivial⟩⟩ rfl rfl hl.1 rfl (lv_room (Nat.le_of_ble_eq_true rfl)) dX0_highestPlace_3 ⟨(Nat.zero_le _), (Nat.zero_le _)⟩) (fun r_1 er_1 => ?_)
  subst er_1
  refine lv_isub hx hb dX0_highestPlace_6 ?_
  exact W.iret (v := ((31 : Int32) - (fnJ6_numberOfLeadingZeros_0f7a4 a0))) hx hb hr (fun t ht _ => ⟨((31 : Int32) - (fnJ6_numberOfLeadingZeros_0f7a4 a0)), rfl, rfl, ht⟩) (fun q h => absurd h List.not_mem_nil) dX0_highestPlace_7

def fnJ9_floorDiv_7cf53 (a0 : Int32) (a1 : Int32) : Int32 := if 0 ≤ (a0 ^^^ a1) then ((a0 / a1)) else (if ((a0 / a1) * a1) = a0 then ((a0 / a1)) else (((a0 / a1) - (1 : Int32))))
set_option maxHeartbeats 4000000 in
set_option maxRecDepth 100000 in
theorem metJ9_floorDiv_7cf53 (l : Launch) (a0 : Int32) (a1 : Int32) (hz : ¬ a1 = 0) : Met l yJ9_floorDiv_7cf53 wsJ9_floorDiv_7cf53 ({ frames := 0, cells := 0, slots := 0, locals := 0 }) (va_Pc [.int a0, .int a1] (fun _ => True)) (vp_Si (fun r => r = fnJ9_floorDiv_7cf53 a0 a1)) 0 0 (fun _ => False) := by
  refine cb_ofWF (cc := cJ9_floorDiv_7cf53) (maxL := 3) (ret := (some .int)) cb_plain_floorDiv rfl ?_
  intro p e s m args below meth c s₁ B hml hv
  obtain ⟨rfl, -⟩ := hv
  have hx := B.exec
  have hb := B.bytes
  have hr := B.returns
  have hts := atoms_spec (ws := wsJ9_floorDiv_7cf53) B.pre
  have hown : s.vm.findClass RJ9 = some m.cls := findClass_of_methodNamed B.named
  have hlocks := B.notSynchronized
  have hl := lv_entry ([.int a0, .int a1]) (n := 3) (Nat.le_of_ble_eq_true rfl)
  rw [lg_entry_eq]
  generalize (lg_sl ([.int a0, .int a1]) ++ List.replicate (3 - (lg_sl ([.int a0, .int a1])).length) Slot.unset).toArray = ls at hl ⊢
  have hl : lv_has ls 3 [(0, .int (a0)), (1, .int (a1))] := hl
  refine lv_iload_n hx hb dJ9_floorDiv_7cf53_0 rfl (lv_at hl 0 rfl) ?_
  refine lv_iload_n hx hb dJ9_floorDiv_7cf53_1 rfl (lv_at hl 1 rfl) ?_
  refine lv_idiv hx hb dJ9_floorDiv_7cf53_2 hz ?_
  refine lv_istore_n (lv' := [(2, .int ((a0 / a1))), (0, .int (a0)), (1, .int (a1))]) hx hb dJ9_floorDiv_7cf53_3 rfl hl (by decide) rfl (fun ls hl => ?_)
  refine lv_iload_n hx hb dJ9_floorDiv_7cf53_4 rfl (lv_at hl 1 rfl) ?_
  refine lv_iload_n hx hb dJ9_floorDiv_7cf53_5 rfl (lv_at hl 2 rfl) ?_
  refine lv_ixor hx hb dJ9_floorDiv_7cf53_6 ?_
  refine lv_if_ge (tgt := 21) hx hb dJ9_floorDiv_7cf53_7 (by decide) (fun c_1 => ?_) (fun c_1 => ?_)
  · refine lv_iload_n hx hb dJ9_floorDiv_7cf53_21 rfl (lv_at hl 0 rfl) ?_
    exact W.iret (v := (a0 / a1)) hx hb hr (fun t ht _ => ⟨(a0 / a1), rfl, by unfold fnJ9_floorDiv_7cf53; rw [if_pos c_1], ht⟩) (fun q h => absurd h List.not_mem_nil) dJ9_floorDiv_7cf53_22
  · refine lv_iload_n hx hb dJ9_floorDiv_7cf53_10 rfl (lv_at hl 0 rfl) ?_
    refine lv_iload_n hx hb dJ9_floorDiv_7cf53_11 rfl (lv_at hl 2 rfl) ?_
    refine lv_imul hx hb dJ9_floorDiv_7cf53_12 ?_
    refine lv_iload_n hx hb dJ9_floorDiv_7cf53_13 rfl (lv_at hl 1 rfl) ?_
    refine lv_icmp_eq (tgt := 21) hx hb dJ9_floorDiv_7cf53_14 (by decide) (fun c_2 => ?_) (fun c_2 => ?_)
    · refine lv_iload_n hx hb dJ9_floorDiv_7cf53_21 rfl (lv_at hl 0 rfl) ?_
      exact W.iret (v := (a0 / a1)) hx hb hr (fun t ht _ => ⟨(a0 / a1), rfl, by unfold fnJ9_floorDiv_7cf53; rw [if_neg c_1, if_pos c_2], ht⟩) (fun q h => absurd h List.not_mem_nil) dJ9_floorDiv_7cf53_22
    · refine lv_iload_n hx hb dJ9_floorDiv_7cf53_17 rfl (lv_at hl 0 rfl) ?_
      refine lv_iconst (v := 1) hx hb dJ9_floorDiv_7cf53_18 (by decide) ?_
      refine lv_isub hx hb dJ9_floorDiv_7cf53_19 ?_
      exact W.iret (v := ((a0 / a1) - (1 : Int32))) hx hb hr (fun t ht _ => ⟨((a0 / a1) - (1 : Int32)), rfl, by unfold fnJ9_floorDiv_7cf53; rw [if_neg c_1, if_neg c_2], ht⟩) (fun q h => absurd h List.not_mem_nil) dJ9_floorDiv_7cf53_20

def fnX0_saturated (a0 : Int64) : Int32 := (if (if a0 < (32767 : Int64) then a0 else (32767 : Int64)) < (-32768 : Int64) then (-32768 : Int64) else (if a0 < (32767 : Int64) then a0 else (32767 : Int64))).toInt32
set_option maxHeartbeats 4000000 in
set_option maxRecDepth 100000 in
theorem metX0_saturated (l : Launch) (a0 : Int64) : Met l yX0_saturated wsX0_saturated ({ frames := 1, cells := 0, slots := 0, locals := 17 }) (va_Pc [.long a0] (fun _ => True)) (vp_Si (fun r => r = fnX0_saturated a0)) 0 0 (fun _ => False) := by
  refine Met.ofW (cc := cX0_saturated) (maxL := 2) (ret := (some .int)) (by decide) rfl ?_
  intro p e s m args below meth c s₁ B hml hv
  obtain ⟨rfl, -⟩ := hv
  have hx := B.exec
  have hb := B.bytes
  have hr := B.returns
  have hts := atoms_spec (ws := wsX0_saturated) B.pre
  have hown : s.vm.findClass RX0 = some m.cls := findClass_of_methodNamed B.named
  have hlocks := B.notSynchronized
  have hl := lv_entry ([.long a0]) (n := 2) (Nat.le_of_ble_eq_true rfl)
  rw [lg_entry_eq]
  generalize (lg_sl ([.long a0]) ++ List.replicate (2 - (lg_sl ([.long a0])).length) Slot.unset).toArray = ls at hl ⊢
  have hl : lv_has ls 2 [(0, .long (a0))] := hl
  refine lv_ldc2 (v := (-32768)) hx hb hown (hts (.constantLong RX0 94 (-32768)) (by decide +kernel)) dX0_saturated_0 ?_
  refine lv_ldc2 (v := 32767) hx hb hown (hts (.constantLong RX0 96 (32767)) (by decide +kernel)) dX0_saturated_3 ?_
  refine lv_lload_n hx hb dX0_saturated_6 rfl (lv_at hl 0 rfl) ?_
  refine va_mmin_long hx hb (hml.trans hl.1.symm) hown (hts (.methodLink RX0 98 Lib.MathLoose.min_long.x) (by decide +kernel)) (hts (.static Lib.MathLoose.min_long.x) (by decide +kernel)) (hts (.initialized "java/lang/Math") (by decide +kernel)) (hts (.code Lib.MathLoose.min_long.x Lib.MathLoose.min_long.code 4 (some .long)) (by decide +kernel)) (Nat.le_of_ble_eq_true rfl) (Nat.le_of_ble_eq_true rfl) (Nat.zero_le _) (Nat.zero_le _) dX0_saturated_7 ?_
  refine va_mmax_long hx hb (hml.trans hl.1.symm) hown (hts (.methodLink RX0 102 Lib.MathLoose.max_long.x) (by decide +kernel)) (hts (.static Lib.MathLoose.max_long.x) (by decide +kernel)) (hts (.initialized "java/lang/Math") (by decide +kernel)) (hts (.code Lib.MathLoose.max_long.x Lib.MathLoose.max_long.code 4 (some .long)) (by decide +kernel)) (Nat.le_of_ble_eq_true rfl) (Nat.le_of_ble_eq_true rfl) (Nat.zero_le _) (Nat.zero_le _) dX0_saturated_10 ?_
  refine lv_l2i (v := (if (if a0 < (32767 : Int64) then a0 else (32767 : Int64)) < (-32768 : Int64) then (-32768 : Int64) else (if a0 < (32767 : Int64) then a0 else (32767 : Int64))).toInt32) hx hb dX0_saturated_13 rfl ?_
  exact W.iret (v := (if (if a0 < (32767 : Int64) then a0 else (32767 : Int64)) < (-32768 : Int64) then (-32768 : Int64) else (if a0 < (32767 : Int64) then a0 else (32767 : Int64))).toInt32) hx hb hr (fun t ht _ => ⟨(if (if a0 < (32767 : Int64) then a0 else (32767 : Int64)) < (-32768 : Int64) then (-32768 : Int64) else (if a0 < (32767 : Int64) then a0 else (32767 : Int64))).toInt32, rfl, rfl, ht⟩) (fun q h => absurd h List.not_mem_nil) dX0_saturated_14

def fnX0_sampleByA (a0 : Int32) : Int32 := if (fnX0_segmentIn (a0 ^^^ (85 : Int32))) = 0 then (if ((a0 ^^^ (85 : Int32)) &&& (128 : Int32)) = 0 then ((-(((16 : Int32) * (fnX0_stepIn (a0 ^^^ (85 : Int32)))) + (8 : Int32)))) else ((((16 : Int32) * (fnX0_stepIn (a0 ^^^ (85 : Int32)))) + (8 : Int32)))) else (if ((a0 ^^^ (85 : Int32)) &&& (128 : Int32)) = 0 then ((-((((16 : Int32) * (fnX0_stepIn (a0 ^^^ (85 : Int32)))) + (264 : Int32)) <<< (((fnX0_segmentIn (a0 ^^^ (85 : Int32))) - (1 : Int32)) &&& 31)))) else (((((16 : Int32) * (fnX0_stepIn (a0 ^^^ (85 : Int32)))) + (264 : Int32)) <<< (((fnX0_segmentIn (a0 ^^^ (85 : Int32))) - (1 : Int32)) &&& 31))))
set_option maxHeartbeats 4000000 in
set_option maxRecDepth 100000 in
theorem metX0_sampleByA (l : Launch) (a0 : Int32) : Met l yX0_sampleByA wsX0_sampleByA ({ frames := 1, cells := 0, slots := 0, locals := 20 }) (va_Pc [.int a0] (fun _ => True)) (vp_Si (fun r => r = fnX0_sampleByA a0)) 0 0 (fun _ => False) := by
  refine Met.ofW (cc := cX0_sampleByA) (maxL := 5) (ret := (some .int)) (by decide) rfl ?_
  intro p e s m args below meth c s₁ B hml hv
  obtain ⟨rfl, -⟩ := hv
  have hx := B.exec
  have hb := B.bytes
  have hr := B.returns
  have hts := atoms_spec (ws := wsX0_sampleByA) B.pre
  have hown : s.vm.findClass RX0 = some m.cls := findClass_of_methodNamed B.named
  have hlocks := B.notSynchronized
  have hl := lv_entry ([.int a0]) (n := 5) (Nat.le_of_ble_eq_true rfl)
  rw [lg_entry_eq]
  generalize (lg_sl ([.int a0]) ++ List.replicate (5 - (lg_sl ([.int a0])).length) Slot.unset).toArray = ls at hl ⊢
  have hl : lv_has ls 5 [(0, .int (a0))] := hl
  refine lv_iload_n hx hb dX0_sampleByA_0 rfl (lv_at hl 0 rfl) ?_
  refine lv_bipush (v := 85) hx hb dX0_sampleByA_1 (by decide) ?_
  refine lv_ixor hx hb dX0_sampleByA_3 ?_
  refine lv_istore_n (lv' := [(1, .int ((a0 ^^^ (85 : Int32)))), (0, .int (a0))]) hx hb dX0_sampleByA_4 rfl hl (by decide) rfl (fun ls hl => ?_)
  refine lv_iload_n hx hb dX0_sampleByA_5 rfl (lv_at hl 0 rfl) ?_
  refine vp_callSi (W.runS (As := [.int ((a0 ^^^ (85 : Int32)))]) (rest := []) ⟨hx, hb, hml, hown, hts⟩ (metX0_segmentIn l (a0 ^^^ (85 : Int32))) (va_cwS 1 hts gX0_sampleByA_X0_segmentIn rfl rfl rfl (by decide +kernel) ⟨(Nat.le_of_ble_eq_true rfl), (Nat.le_of_ble_eq_true rfl)⟩) ⟨fun a U g mk q => q, fun U hU hW => ⟨rfl, trivial⟩⟩ rfl rfl hl.1 rfl (lv_room (Nat.le_of_ble_eq_true rfl)) dX0_sampleByA_6 ⟨(Nat.zero_le _), (Nat.zero_le _)⟩) (fun r_1 er_1 => ?_)
  subst er_1
  refine lv_istore_n (lv' := [(2, .int ((fnX0_segmentIn (a0 ^^^ (85 : Int32))))), (1, .int ((a0 ^^^ (85 : Int32)))), (0, .int (a0))]) hx hb dX0_sampleByA_9 rfl hl (by decide) rfl (fun ls hl => ?_)
  refine lv_bipush (v := 16) hx hb dX0_sampleByA_10 (by decide) ?_
  refine lv_iload_n hx hb dX0_sampleByA_12 rfl (lv_at hl 1 rfl) ?_
  refine vp_callSi (W.runS (As := [.int ((a0 ^^^ (85 : Int32)))]) (rest := [.int (16)]) ⟨hx, hb, hml, hown, hts⟩ (metX0_stepIn l (a0 ^^^ (85 : Int32))) (va_cwS 1 hts gX0_sampleByA_X0_stepIn rfl rfl rfl (by decide +kernel) ⟨(Nat.le_of_ble_eq_true rfl), (Nat.le_of_ble_eq_true rfl)⟩) ⟨fun a U g mk q => q, fun U hU hW => ⟨rfl, trivial⟩⟩ rfl rfl hl.1 rfl (lv_room (Nat.le_of_ble_eq_true rfl)) dX0_sampleByA_13 ⟨(Nat.zero_le _), (Nat.zero_le _)⟩) (fun r_2 er_2 => ?_)
  subst er_2
  refine lv_imul hx hb dX0_sampleByA_16 ?_
  refine lv_istore_n (lv' := [(3, .int (((16 : Int32) * (fnX0_stepIn (a0 ^^^ (85 : Int32)))))), (2, .int ((fnX0_segmentIn (a0 ^^^ (85 : Int32))))), (1, .int ((a0 ^^^ (85 : Int32)))), (0, .int (a0))]) hx hb dX0_sampleByA_17 rfl hl (by decide) rfl (fun ls hl => ?_)
  refine lv_iload_n hx hb dX0_sampleByA_18 rfl (lv_at hl 1 rfl) ?_
  refine lv_if_ne (tgt := 29) hx hb dX0_sampleByA_19 (by decide) (fun c_3 => ?_) (fun c_3 => ?_)
  · refine lv_iload_n hx hb dX0_sampleByA_29 rfl (lv_at hl 0 rfl) ?_
    refine lv_sipush (v := 264) hx hb dX0_sampleByA_30 (by decide) ?_
    refine lv_iadd hx hb dX0_sampleByA_33 ?_
    refine lv_iload_n hx hb dX0_sampleByA_34 rfl (lv_at hl 1 rfl) ?_
    refine lv_iconst (v := 1) hx hb dX0_sampleByA_35 (by decide) ?_
    refine lv_isub hx hb dX0_sampleByA_36 ?_
    refine lv_ishl hx hb dX0_sampleByA_37 ?_
    refine lv_istore (lv' := [(4, .int (((((16 : Int32) * (fnX0_stepIn (a0 ^^^ (85 : Int32)))) + (264 : Int32)) <<< (((fnX0_segmentIn (a0 ^^^ (85 : Int32))) - (1 : Int32)) &&& 31)))), (3, .int (((16 : Int32) * (fnX0_stepIn (a0 ^^^ (85 : Int32)))))), (2, .int ((fnX0_segmentIn (a0 ^^^ (85 : Int32))))), (1, .int ((a0 ^^^ (85 : Int32)))), (0, .int (a0))]) hx hb dX0_sampleByA_38 hl (by decide) rfl (fun ls hl => ?_)
    refine lv_iload_n hx hb dX0_sampleByA_40 rfl (lv_at hl 3 rfl) ?_
    refine lv_sipush (v := 128) hx hb dX0_sampleByA_41 (by decide) ?_
    refine lv_iand hx hb dX0_sampleByA_44 ?_
    refine lv_if_eq (tgt := 53) hx hb dX0_sampleByA_45 (by decide) (fun c_4 => ?_) (fun c_4 => ?_)
    · refine lv_iload hx hb dX0_sampleByA_53 (lv_at hl 0 rfl) ?_
      refine lv_ineg hx hb dX0_sampleByA_55 ?_
      exact W.iret (v := (-((((16 : Int32) * (fnX0_stepIn (a0 ^^^ (85 : Int32)))) + (264 : Int32)) <<< (((fnX0_segmentIn (a0 ^^^ (85 : Int32))) - (1 : Int32)) &&& 31)))) hx hb hr (fun t ht _ => ⟨(-((((16 : Int32) * (fnX0_stepIn (a0 ^^^ (85 : Int32)))) + (264 : Int32)) <<< (((fnX0_segmentIn (a0 ^^^ (85 : Int32))) - (1 : Int32)) &&& 31))), rfl, by unfold fnX0_sampleByA; rw [if_neg c_3, if_pos c_4], ht⟩) (fun q h => absurd h List.not_mem_nil) dX0_sampleByA_56
    · refine lv_iload hx hb dX0_sampleByA_48 (lv_at hl 0 rfl) ?_
      refine lv_goto (tgt := 56) hx hb dX0_sampleByA_50 (by decide) ?_
      exact W.iret (v := ((((16 : Int32) * (fnX0_stepIn (a0 ^^^ (85 : Int32)))) + (264 : Int32)) <<< (((fnX0_segmentIn (a0 ^^^ (85 : Int32))) - (1 : Int32)) &&& 31))) hx hb hr (fun t ht _ => ⟨((((16 : Int32) * (fnX0_stepIn (a0 ^^^ (85 : Int32)))) + (264 : Int32)) <<< (((fnX0_segmentIn (a0 ^^^ (85 : Int32))) - (1 : Int32)) &&& 31)), rfl, by unfold fnX0_sampleByA; rw [if_neg c_3, if_neg c_4], ht⟩) (fun q h => absurd h List.not_mem_nil) dX0_sampleByA_56
  · refine lv_iload_n hx hb dX0_sampleByA_22 rfl (lv_at hl 0 rfl) ?_
    refine lv_bipush (v := 8) hx hb dX0_sampleByA_23 (by decide) ?_
    refine lv_iadd hx hb dX0_sampleByA_25 ?_
    refine lv_goto (tgt := 38) hx hb dX0_sampleByA_26 (by decide) ?_
    refine lv_istore (lv' := [(4, .int ((((16 : Int32) * (fnX0_stepIn (a0 ^^^ (85 : Int32)))) + (8 : Int32)))), (3, .int (((16 : Int32) * (fnX0_stepIn (a0 ^^^ (85 : Int32)))))), (2, .int ((fnX0_segmentIn (a0 ^^^ (85 : Int32))))), (1, .int ((a0 ^^^ (85 : Int32)))), (0, .int (a0))]) hx hb dX0_sampleByA_38 hl (by decide) rfl (fun ls hl => ?_)
    refine lv_iload_n hx hb dX0_sampleByA_40 rfl (lv_at hl 3 rfl) ?_
    refine lv_sipush (v := 128) hx hb dX0_sampleByA_41 (by decide) ?_
    refine lv_iand hx hb dX0_sampleByA_44 ?_
    refine lv_if_eq (tgt := 53) hx hb dX0_sampleByA_45 (by decide) (fun c_5 => ?_) (fun c_5 => ?_)
    · refine lv_iload hx hb dX0_sampleByA_53 (lv_at hl 0 rfl) ?_
      refine lv_ineg hx hb dX0_sampleByA_55 ?_
      exact W.iret (v := (-(((16 : Int32) * (fnX0_stepIn (a0 ^^^ (85 : Int32)))) + (8 : Int32)))) hx hb hr (fun t ht _ => ⟨(-(((16 : Int32) * (fnX0_stepIn (a0 ^^^ (85 : Int32)))) + (8 : Int32))), rfl, by unfold fnX0_sampleByA; rw [if_pos c_3, if_pos c_5], ht⟩) (fun q h => absurd h List.not_mem_nil) dX0_sampleByA_56
    · refine lv_iload hx hb dX0_sampleByA_48 (lv_at hl 0 rfl) ?_
      refine lv_goto (tgt := 56) hx hb dX0_sampleByA_50 (by decide) ?_
      exact W.iret (v := (((16 : Int32) * (fnX0_stepIn (a0 ^^^ (85 : Int32)))) + (8 : Int32))) hx hb hr (fun t ht _ => ⟨(((16 : Int32) * (fnX0_stepIn (a0 ^^^ (85 : Int32)))) + (8 : Int32)), rfl, by unfold fnX0_sampleByA; rw [if_pos c_3, if_neg c_5], ht⟩) (fun q h => absurd h List.not_mem_nil) dX0_sampleByA_56

def fnX0_sampleByMu (a0 : Int32) : Int32 := if ((a0 ^^^ (255 : Int32)) &&& (128 : Int32)) = 0 then ((((((8 : Int32) * (fnX0_stepIn (a0 ^^^ (255 : Int32)))) + (132 : Int32)) <<< ((fnX0_segmentIn (a0 ^^^ (255 : Int32))) &&& 31)) - (132 : Int32))) else ((-(((((8 : Int32) * (fnX0_stepIn (a0 ^^^ (255 : Int32)))) + (132 : Int32)) <<< ((fnX0_segmentIn (a0 ^^^ (255 : Int32))) &&& 31)) - (132 : Int32))))
set_option maxHeartbeats 4000000 in
set_option maxRecDepth 100000 in
theorem metX0_sampleByMu (l : Launch) (a0 : Int32) : Met l yX0_sampleByMu wsX0_sampleByMu ({ frames := 1, cells := 0, slots := 0, locals := 20 }) (va_Pc [.int a0] (fun _ => True)) (vp_Si (fun r => r = fnX0_sampleByMu a0)) 0 0 (fun _ => False) := by
  refine Met.ofW (cc := cX0_sampleByMu) (maxL := 3) (ret := (some .int)) (by decide) rfl ?_
  intro p e s m args below meth c s₁ B hml hv
  obtain ⟨rfl, -⟩ := hv
  have hx := B.exec
  have hb := B.bytes
  have hr := B.returns
  have hts := atoms_spec (ws := wsX0_sampleByMu) B.pre
  have hown : s.vm.findClass RX0 = some m.cls := findClass_of_methodNamed B.named
  have hlocks := B.notSynchronized
  have hl := lv_entry ([.int a0]) (n := 3) (Nat.le_of_ble_eq_true rfl)
  rw [lg_entry_eq]
  generalize (lg_sl ([.int a0]) ++ List.replicate (3 - (lg_sl ([.int a0])).length) Slot.unset).toArray = ls at hl ⊢
  have hl : lv_has ls 3 [(0, .int (a0))] := hl
  refine lv_iload_n hx hb dX0_sampleByMu_0 rfl (lv_at hl 0 rfl) ?_
  refine lv_sipush (v := 255) hx hb dX0_sampleByMu_1 (by decide) ?_
  refine lv_ixor hx hb dX0_sampleByMu_4 ?_
  refine lv_istore_n (lv' := [(1, .int ((a0 ^^^ (255 : Int32)))), (0, .int (a0))]) hx hb dX0_sampleByMu_5 rfl hl (by decide) rfl (fun ls hl => ?_)
  refine lv_bipush (v := 8) hx hb dX0_sampleByMu_6 (by decide) ?_
  refine lv_iload_n hx hb dX0_sampleByMu_8 rfl (lv_at hl 0 rfl) ?_
  refine vp_callSi (W.runS (As := [.int ((a0 ^^^ (255 : Int32)))]) (rest := [.int (8)]) ⟨hx, hb, hml, hown, hts⟩ (metX0_stepIn l (a0 ^^^ (255 : Int32))) (va_cwS 1 hts gX0_sampleByMu_X0_stepIn rfl rfl rfl (by decide +kernel) ⟨(Nat.le_of_ble_eq_true rfl), (Nat.le_of_ble_eq_true rfl)⟩) ⟨fun a U g mk q => q, fun U hU hW => ⟨rfl, trivial⟩⟩ rfl rfl hl.1 rfl (lv_room (Nat.le_of_ble_eq_true rfl)) dX0_sampleByMu_9 ⟨(Nat.zero_le _), (Nat.zero_le _)⟩) (fun r_1 er_1 => ?_)
  subst er_1
  refine lv_imul hx hb dX0_sampleByMu_12 ?_
  refine lv_sipush (v := 132) hx hb dX0_sampleByMu_13 (by decide) ?_
  refine lv_iadd hx hb dX0_sampleByMu_16 ?_
  refine lv_iload_n hx hb dX0_sampleByMu_17 rfl (lv_at hl 0 rfl) ?_
  refine vp_callSi (W.runS (As := [.int ((a0 ^^^ (255 : Int32)))]) (rest := [.int ((((8 : Int32) * (fnX0_stepIn (a0 ^^^ (255 : Int32)))) + (132 : Int32)))]) ⟨hx, hb, hml, hown, hts⟩ (metX0_segmentIn l (a0 ^^^ (255 : Int32))) (va_cwS 1 hts gX0_sampleByMu_X0_segmentIn rfl rfl rfl (by decide +kernel) ⟨(Nat.le_of_ble_eq_true rfl), (Nat.le_of_ble_eq_true rfl)⟩) ⟨fun a U g mk q => q, fun U hU hW => ⟨rfl, trivial⟩⟩ rfl rfl hl.1 rfl (lv_room (Nat.le_of_ble_eq_true rfl)) dX0_sampleByMu_18 ⟨(Nat.zero_le _), (Nat.zero_le _)⟩) (fun r_2 er_2 => ?_)
  subst er_2
  refine lv_ishl hx hb dX0_sampleByMu_21 ?_
  refine lv_sipush (v := 132) hx hb dX0_sampleByMu_22 (by decide) ?_
  refine lv_isub hx hb dX0_sampleByMu_25 ?_
  refine lv_istore_n (lv' := [(2, .int ((((((8 : Int32) * (fnX0_stepIn (a0 ^^^ (255 : Int32)))) + (132 : Int32)) <<< ((fnX0_segmentIn (a0 ^^^ (255 : Int32))) &&& 31)) - (132 : Int32)))), (1, .int ((a0 ^^^ (255 : Int32)))), (0, .int (a0))]) hx hb dX0_sampleByMu_26 rfl hl (by decide) rfl (fun ls hl => ?_)
  refine lv_iload_n hx hb dX0_sampleByMu_27 rfl (lv_at hl 1 rfl) ?_
  refine lv_sipush (v := 128) hx hb dX0_sampleByMu_28 (by decide) ?_
  refine lv_iand hx hb dX0_sampleByMu_31 ?_
  refine lv_if_eq (tgt := 40) hx hb dX0_sampleByMu_32 (by decide) (fun c_3 => ?_) (fun c_3 => ?_)
  · refine lv_iload_n hx hb dX0_sampleByMu_40 rfl (lv_at hl 0 rfl) ?_
    exact W.iret (v := (((((8 : Int32) * (fnX0_stepIn (a0 ^^^ (255 : Int32)))) + (132 : Int32)) <<< ((fnX0_segmentIn (a0 ^^^ (255 : Int32))) &&& 31)) - (132 : Int32))) hx hb hr (fun t ht _ => ⟨(((((8 : Int32) * (fnX0_stepIn (a0 ^^^ (255 : Int32)))) + (132 : Int32)) <<< ((fnX0_segmentIn (a0 ^^^ (255 : Int32))) &&& 31)) - (132 : Int32)), rfl, by unfold fnX0_sampleByMu; rw [if_pos c_3], ht⟩) (fun q h => absurd h List.not_mem_nil) dX0_sampleByMu_41
  · refine lv_iload_n hx hb dX0_sampleByMu_35 rfl (lv_at hl 0 rfl) ?_
    refine lv_ineg hx hb dX0_sampleByMu_36 ?_
    refine lv_goto (tgt := 41) hx hb dX0_sampleByMu_37 (by decide) ?_
    exact W.iret (v := (-(((((8 : Int32) * (fnX0_stepIn (a0 ^^^ (255 : Int32)))) + (132 : Int32)) <<< ((fnX0_segmentIn (a0 ^^^ (255 : Int32))) &&& 31)) - (132 : Int32)))) hx hb hr (fun t ht _ => ⟨(-(((((8 : Int32) * (fnX0_stepIn (a0 ^^^ (255 : Int32)))) + (132 : Int32)) <<< ((fnX0_segmentIn (a0 ^^^ (255 : Int32))) &&& 31)) - (132 : Int32))), rfl, by unfold fnX0_sampleByMu; rw [if_neg c_3], ht⟩) (fun q h => absurd h List.not_mem_nil) dX0_sampleByMu_41

def fnX0_sampleOf (a0 : Int32) (a1 : Int32) : Int32 := if a0 = 0 then ((fnX0_sampleByA a1)) else ((fnX0_sampleByMu a1))
set_option maxHeartbeats 4000000 in
set_option maxRecDepth 100000 in
theorem metX0_sampleOf (l : Launch) (a0 : Int32) (a1 : Int32) : Met l yX0_sampleOf wsX0_sampleOf ({ frames := 2, cells := 0, slots := 0, locals := 44 }) (va_Pc [.int a0, .int a1] (fun _ => True)) (vp_Si (fun r => r = fnX0_sampleOf a0 a1)) 0 0 (fun _ => False) := by
  refine Met.ofW (cc := cX0_sampleOf) (maxL := 2) (ret := (some .int)) (by decide) rfl ?_
  intro p e s m args below meth c s₁ B hml hv
  obtain ⟨rfl, -⟩ := hv
  have hx := B.exec
  have hb := B.bytes
  have hr := B.returns
  have hts := atoms_spec (ws := wsX0_sampleOf) B.pre
  have hown : s.vm.findClass RX0 = some m.cls := findClass_of_methodNamed B.named
  have hlocks := B.notSynchronized
  have hl := lv_entry ([.int a0, .int a1]) (n := 2) (Nat.le_of_ble_eq_true rfl)
  rw [lg_entry_eq]
  generalize (lg_sl ([.int a0, .int a1]) ++ List.replicate (2 - (lg_sl ([.int a0, .int a1])).length) Slot.unset).toArray = ls at hl ⊢
  have hl : lv_has ls 2 [(0, .int (a0)), (1, .int (a1))] := hl
  refine lv_iload_n hx hb dX0_sampleOf_0 rfl (lv_at hl 0 rfl) ?_
  refine lv_if_ne (tgt := 11) hx hb dX0_sampleOf_1 (by decide) (fun c_1 => ?_) (fun c_1 => ?_)
  · refine lv_iload_n hx hb dX0_sampleOf_11 rfl (lv_at hl 1 rfl) ?_
    refine vp_callSi (W.runS (As := [.int (a1)]) (rest := []) ⟨hx, hb, hml, hown, hts⟩ (metX0_sampleByMu l a1) (va_cwS 1 hts gX0_sampleOf_X0_sampleByMu rfl rfl rfl (by decide +kernel) ⟨(Nat.le_of_ble_eq_true rfl), (Nat.le_of_ble_eq_true rfl)⟩) ⟨fun a U g mk q => q, fun U hU hW => ⟨rfl, trivial⟩⟩ rfl rfl hl.1 rfl (lv_room (Nat.le_of_ble_eq_true rfl)) dX0_sampleOf_12 ⟨(Nat.zero_le _), (Nat.zero_le _)⟩) (fun r_2 er_2 => ?_)
    subst er_2
    exact W.iret (v := (fnX0_sampleByMu a1)) hx hb hr (fun t ht _ => ⟨(fnX0_sampleByMu a1), rfl, by unfold fnX0_sampleOf; rw [if_neg c_1], ht⟩) (fun q h => absurd h List.not_mem_nil) dX0_sampleOf_15
  · refine lv_iload_n hx hb dX0_sampleOf_4 rfl (lv_at hl 1 rfl) ?_
    refine vp_callSi (W.runS (As := [.int (a1)]) (rest := []) ⟨hx, hb, hml, hown, hts⟩ (metX0_sampleByA l a1) (va_cwS 1 hts gX0_sampleOf_X0_sampleByA rfl rfl rfl (by decide +kernel) ⟨(Nat.le_of_ble_eq_true rfl), (Nat.le_of_ble_eq_true rfl)⟩) ⟨fun a U g mk q => q, fun U hU hW => ⟨rfl, trivial⟩⟩ rfl rfl hl.1 rfl (lv_room (Nat.le_of_ble_eq_true rfl)) dX0_sampleOf_5 ⟨(Nat.zero_le _), (Nat.zero_le _)⟩) (fun r_3 er_3 => ?_)
    subst er_3
    refine lv_goto (tgt := 15) hx hb dX0_sampleOf_8 (by decide) ?_
    exact W.iret (v := (fnX0_sampleByA a1)) hx hb hr (fun t ht _ => ⟨(fnX0_sampleByA a1), rfl, by unfold fnX0_sampleOf; rw [if_pos c_1], ht⟩) (fun q h => absurd h List.not_mem_nil) dX0_sampleOf_15

def fnX0_codeByA (a0 : Int32) : Int32 := if 0 ≤ a0 then (if 16 ≤ (a0 / (16 : Int32)) then (if (((fnX0_highestPlace (a0 / (16 : Int32))) - (4 : Int32)) + (1 : Int32)) = 0 then (((((128 : Int32) ||| ((((fnX0_highestPlace (a0 / (16 : Int32))) - (4 : Int32)) + (1 : Int32)) <<< ((4 : Int32) &&& 31))) ||| ((a0 / (16 : Int32)) &&& (15 : Int32))) ^^^ (85 : Int32))) else (((((128 : Int32) ||| ((((fnX0_highestPlace (a0 / (16 : Int32))) - (4 : Int32)) + (1 : Int32)) <<< ((4 : Int32) &&& 31))) ||| (((a0 / (16 : Int32)) >>> (((((fnX0_highestPlace (a0 / (16 : Int32))) - (4 : Int32)) + (1 : Int32)) - (1 : Int32)) &&& 31)) &&& (15 : Int32))) ^^^ (85 : Int32)))) else (((((128 : Int32) ||| ((0 : Int32) <<< ((4 : Int32) &&& 31))) ||| ((a0 / (16 : Int32)) &&& (15 : Int32))) ^^^ (85 : Int32)))) else (if 16 ≤ (((-1 : Int32) - a0) / (16 : Int32)) then (if (((fnX0_highestPlace (((-1 : Int32) - a0) / (16 : Int32))) - (4 : Int32)) + (1 : Int32)) = 0 then (((((0 : Int32) ||| ((((fnX0_highestPlace (((-1 : Int32) - a0) / (16 : Int32))) - (4 : Int32)) + (1 : Int32)) <<< ((4 : Int32) &&& 31))) ||| ((((-1 : Int32) - a0) / (16 : Int32)) &&& (15 : Int32))) ^^^ (85 : Int32))) else (((((0 : Int32) ||| ((((fnX0_highestPlace (((-1 : Int32) - a0) / (16 : Int32))) - (4 : Int32)) + (1 : Int32)) <<< ((4 : Int32) &&& 31))) ||| (((((-1 : Int32) - a0) / (16 : Int32)) >>> (((((fnX0_highestPlace (((-1 : Int32) - a0) / (16 : Int32))) - (4 : Int32)) + (1 : Int32)) - (1 : Int32)) &&& 31)) &&& (15 : Int32))) ^^^ (85 : Int32)))) else (((((0 : Int32) ||| ((0 : Int32) <<< ((4 : Int32) &&& 31))) ||| ((((-1 : Int32) - a0) / (16 : Int32)) &&& (15 : Int32))) ^^^ (85 : Int32))))
set_option maxHeartbeats 4000000 in
set_option maxRecDepth 100000 in
theorem metX0_codeByA (l : Launch) (a0 : Int32) : Met l yX0_codeByA wsX0_codeByA ({ frames := 2, cells := 0, slots := 0, locals := 41 }) (va_Pc [.int a0] (fun _ => True)) (vp_Si (fun r => r = fnX0_codeByA a0)) 0 0 (fun _ => False) := by
  refine Met.ofW (cc := cX0_codeByA) (maxL := 5) (ret := (some .int)) (by decide) rfl ?_
  intro p e s m args below meth c s₁ B hml hv
  obtain ⟨rfl, -⟩ := hv
  have hx := B.exec
  have hb := B.bytes
  have hr := B.returns
  have hts := atoms_spec (ws := wsX0_codeByA) B.pre
  have hown : s.vm.findClass RX0 = some m.cls := findClass_of_methodNamed B.named
  have hlocks := B.notSynchronized
  have hl := lv_entry ([.int a0]) (n := 5) (Nat.le_of_ble_eq_true rfl)
  rw [lg_entry_eq]
  generalize (lg_sl ([.int a0]) ++ List.replicate (5 - (lg_sl ([.int a0])).length) Slot.unset).toArray = ls at hl ⊢
  have hl : lv_has ls 5 [(0, .int (a0))] := hl
  refine lv_iload_n hx hb dX0_codeByA_0 rfl (lv_at hl 0 rfl) ?_
  refine lv_if_ge (tgt := 10) hx hb dX0_codeByA_1 (by decide) (fun c_1 => ?_) (fun c_1 => ?_)
  · refine lv_iload_n hx hb dX0_codeByA_10 rfl (lv_at hl 0 rfl) ?_
    refine lv_bipush (v := 16) hx hb dX0_codeByA_11 (by decide) ?_
    refine lv_idiv hx hb dX0_codeByA_13 (by decide) ?_
    refine lv_istore_n (lv' := [(1, .int ((a0 / (16 : Int32)))), (0, .int (a0))]) hx hb dX0_codeByA_14 rfl hl (by decide) rfl (fun ls hl => ?_)
    refine lv_iload_n hx hb dX0_codeByA_15 rfl (lv_at hl 0 rfl) ?_
    refine lv_bipush (v := 16) hx hb dX0_codeByA_16 (by decide) ?_
    refine lv_icmp_ge (tgt := 25) hx hb dX0_codeByA_18 (by decide) (fun c_2 => ?_) (fun c_2 => ?_)
    · refine lv_iload_n hx hb dX0_codeByA_25 rfl (lv_at hl 0 rfl) ?_
      refine vp_callSi (W.runS (As := [.int ((a0 / (16 : Int32)))]) (rest := []) ⟨hx, hb, hml, hown, hts⟩ (metX0_highestPlace l (a0 / (16 : Int32))) (va_cwS 1 hts gX0_codeByA_X0_highestPlace rfl rfl rfl (by decide +kernel) ⟨(Nat.le_of_ble_eq_true rfl), (Nat.le_of_ble_eq_true rfl)⟩) ⟨fun a U g mk q => q, fun U hU hW => ⟨rfl, trivial⟩⟩ rfl rfl hl.1 rfl (lv_room (Nat.le_of_ble_eq_true rfl)) dX0_codeByA_26 ⟨(Nat.zero_le _), (Nat.zero_le _)⟩) (fun r_3 er_3 => ?_)
      subst er_3
      refine lv_iconst (v := 4) hx hb dX0_codeByA_29 (by decide) ?_
      refine lv_isub hx hb dX0_codeByA_30 ?_
      refine lv_iconst (v := 1) hx hb dX0_codeByA_31 (by decide) ?_
      refine lv_iadd hx hb dX0_codeByA_32 ?_
      refine lv_istore_n (lv' := [(2, .int ((((fnX0_highestPlace (a0 / (16 : Int32))) - (4 : Int32)) + (1 : Int32)))), (1, .int ((a0 / (16 : Int32)))), (0, .int (a0))]) hx hb dX0_codeByA_33 rfl hl (by decide) rfl (fun ls hl => ?_)
      refine lv_iload_n hx hb dX0_codeByA_34 rfl (lv_at hl 0 rfl) ?_
      refine lv_if_ne (tgt := 42) hx hb dX0_codeByA_35 (by decide) (fun c_4 => ?_) (fun c_4 => ?_)
      · refine lv_iload_n hx hb dX0_codeByA_42 rfl (lv_at hl 1 rfl) ?_
        refine lv_iload_n hx hb dX0_codeByA_43 rfl (lv_at hl 0 rfl) ?_
        refine lv_iconst (v := 1) hx hb dX0_codeByA_44 (by decide) ?_
        refine lv_isub hx hb dX0_codeByA_45 ?_
        refine lv_ishr hx hb dX0_codeByA_46 ?_
        refine lv_bipush (v := 15) hx hb dX0_codeByA_47 (by decide) ?_
        refine lv_iand hx hb dX0_codeByA_49 ?_
        refine lv_istore_n (lv' := [(3, .int ((((a0 / (16 : Int32)) >>> (((((fnX0_highestPlace (a0 / (16 : Int32))) - (4 : Int32)) + (1 : Int32)) - (1 : Int32)) &&& 31)) &&& (15 : Int32)))), (2, .int ((((fnX0_highestPlace (a0 / (16 : Int32))) - (4 : Int32)) + (1 : Int32)))), (1, .int ((a0 / (16 : Int32)))), (0, .int (a0))]) hx hb dX0_codeByA_50 rfl hl (by decide) rfl (fun ls hl => ?_)
        refine lv_iload_n hx hb dX0_codeByA_51 rfl (lv_at hl 3 rfl) ?_
        refine lv_if_ge (tgt := 59) hx hb dX0_codeByA_52 (by decide) (fun _ => ?_) (fun c9 => absurd c_1 c9)
        refine lv_sipush (v := 128) hx hb dX0_codeByA_59 (by decide) ?_
        refine lv_istore (lv' := [(4, .int (128)), (3, .int ((((a0 / (16 : Int32)) >>> (((((fnX0_highestPlace (a0 / (16 : Int32))) - (4 : Int32)) + (1 : Int32)) - (1 : Int32)) &&& 31)) &&& (15 : Int32)))), (2, .int ((((fnX0_highestPlace (a0 / (16 : Int32))) - (4 : Int32)) + (1 : Int32)))), (1, .int ((a0 / (16 : Int32)))), (0, .int (a0))]) hx hb dX0_codeByA_62 hl (by decide) rfl (fun ls hl => ?_)
        refine lv_iload hx hb dX0_codeByA_64 (lv_at hl 0 rfl) ?_
        refine lv_iload_n hx hb dX0_codeByA_66 rfl (lv_at hl 2 rfl) ?_
        refine lv_iconst (v := 4) hx hb dX0_codeByA_67 (by decide) ?_
        refine lv_ishl hx hb dX0_codeByA_68 ?_
        refine lv_ior hx hb dX0_codeByA_69 ?_
        refine lv_iload_n hx hb dX0_codeByA_70 rfl (lv_at hl 1 rfl) ?_
        refine lv_ior hx hb dX0_codeByA_71 ?_
        refine lv_bipush (v := 85) hx hb dX0_codeByA_72 (by decide) ?_
        refine lv_ixor hx hb dX0_codeByA_74 ?_
        exact W.iret (v := ((((128 : Int32) ||| ((((fnX0_highestPlace (a0 / (16 : Int32))) - (4 : Int32)) + (1 : Int32)) <<< ((4 : Int32) &&& 31))) ||| (((a0 / (16 : Int32)) >>> (((((fnX0_highestPlace (a0 / (16 : Int32))) - (4 : Int32)) + (1 : Int32)) - (1 : Int32)) &&& 31)) &&& (15 : Int32))) ^^^ (85 : Int32))) hx hb hr (fun t ht _ => ⟨((((128 : Int32) ||| ((((fnX0_highestPlace (a0 / (16 : Int32))) - (4 : Int32)) + (1 : Int32)) <<< ((4 : Int32) &&& 31))) ||| (((a0 / (16 : Int32)) >>> (((((fnX0_highestPlace (a0 / (16 : Int32))) - (4 : Int32)) + (1 : Int32)) - (1 : Int32)) &&& 31)) &&& (15 : Int32))) ^^^ (85 : Int32)), rfl, by unfold fnX0_codeByA; rw [if_pos c_1, if_pos c_2, if_neg c_4], ht⟩) (fun q h => absurd h List.not_mem_nil) dX0_codeByA_75
      · refine lv_iload_n hx hb dX0_codeByA_38 rfl (lv_at hl 1 rfl) ?_
        refine lv_goto (tgt := 47) hx hb dX0_codeByA_39 (by decide) ?_
        refine lv_bipush (v := 15) hx hb dX0_codeByA_47 (by decide) ?_
        refine lv_iand hx hb dX0_codeByA_49 ?_
        refine lv_istore_n (lv' := [(3, .int (((a0 / (16 : Int32)) &&& (15 : Int32)))), (2, .int ((((fnX0_highestPlace (a0 / (16 : Int32))) - (4 : Int32)) + (1 : Int32)))), (1, .int ((a0 / (16 : Int32)))), (0, .int (a0))]) hx hb dX0_codeByA_50 rfl hl (by decide) rfl (fun ls hl => ?_)
        refine lv_iload_n hx hb dX0_codeByA_51 rfl (lv_at hl 3 rfl) ?_
        refine lv_if_ge (tgt := 59) hx hb dX0_codeByA_52 (by decide) (fun _ => ?_) (fun c9 => absurd c_1 c9)
        refine lv_sipush (v := 128) hx hb dX0_codeByA_59 (by decide) ?_
        refine lv_istore (lv' := [(4, .int (128)), (3, .int (((a0 / (16 : Int32)) &&& (15 : Int32)))), (2, .int ((((fnX0_highestPlace (a0 / (16 : Int32))) - (4 : Int32)) + (1 : Int32)))), (1, .int ((a0 / (16 : Int32)))), (0, .int (a0))]) hx hb dX0_codeByA_62 hl (by decide) rfl (fun ls hl => ?_)
        refine lv_iload hx hb dX0_codeByA_64 (lv_at hl 0 rfl) ?_
        refine lv_iload_n hx hb dX0_codeByA_66 rfl (lv_at hl 2 rfl) ?_
        refine lv_iconst (v := 4) hx hb dX0_codeByA_67 (by decide) ?_
        refine lv_ishl hx hb dX0_codeByA_68 ?_
        refine lv_ior hx hb dX0_codeByA_69 ?_
        refine lv_iload_n hx hb dX0_codeByA_70 rfl (lv_at hl 1 rfl) ?_
        refine lv_ior hx hb dX0_codeByA_71 ?_
        refine lv_bipush (v := 85) hx hb dX0_codeByA_72 (by decide) ?_
        refine lv_ixor hx hb dX0_codeByA_74 ?_
        exact W.iret (v := ((((128 : Int32) ||| ((((fnX0_highestPlace (a0 / (16 : Int32))) - (4 : Int32)) + (1 : Int32)) <<< ((4 : Int32) &&& 31))) ||| ((a0 / (16 : Int32)) &&& (15 : Int32))) ^^^ (85 : Int32))) hx hb hr (fun t ht _ => ⟨((((128 : Int32) ||| ((((fnX0_highestPlace (a0 / (16 : Int32))) - (4 : Int32)) + (1 : Int32)) <<< ((4 : Int32) &&& 31))) ||| ((a0 / (16 : Int32)) &&& (15 : Int32))) ^^^ (85 : Int32)), rfl, by unfold fnX0_codeByA; rw [if_pos c_1, if_pos c_2, if_pos c_4], ht⟩) (fun q h => absurd h List.not_mem_nil) dX0_codeByA_75
    · refine lv_iconst (v := 0) hx hb dX0_codeByA_21 (by decide) ?_
      refine lv_goto (tgt := 33) hx hb dX0_codeByA_22 (by decide) ?_
      refine lv_istore_n (lv' := [(2, .int (0)), (1, .int ((a0 / (16 : Int32)))), (0, .int (a0))]) hx hb dX0_codeByA_33 rfl hl (by decide) rfl (fun ls hl => ?_)
      refine lv_iload_n hx hb dX0_codeByA_34 rfl (lv_at hl 0 rfl) ?_
      refine lv_if_ne (tgt := 42) hx hb dX0_codeByA_35 (by decide) (fun c9 => absurd c9 (by decide)) (fun _ => ?_)
      refine lv_iload_n hx hb dX0_codeByA_38 rfl (lv_at hl 1 rfl) ?_
      refine lv_goto (tgt := 47) hx hb dX0_codeByA_39 (by decide) ?_
      refine lv_bipush (v := 15) hx hb dX0_codeByA_47 (by decide) ?_
      refine lv_iand hx hb dX0_codeByA_49 ?_
      refine lv_istore_n (lv' := [(3, .int (((a0 / (16 : Int32)) &&& (15 : Int32)))), (2, .int (0)), (1, .int ((a0 / (16 : Int32)))), (0, .int (a0))]) hx hb dX0_codeByA_50 rfl hl (by decide) rfl (fun ls hl => ?_)
      refine lv_iload_n hx hb dX0_codeByA_51 rfl (lv_at hl 3 rfl) ?_
      refine lv_if_ge (tgt := 59) hx hb dX0_codeByA_52 (by decide) (fun _ => ?_) (fun c9 => absurd c_1 c9)
      refine lv_sipush (v := 128) hx hb dX0_codeByA_59 (by decide) ?_
      refine lv_istore (lv' := [(4, .int (128)), (3, .int (((a0 / (16 : Int32)) &&& (15 : Int32)))), (2, .int (0)), (1, .int ((a0 / (16 : Int32)))), (0, .int (a0))]) hx hb dX0_codeByA_62 hl (by decide) rfl (fun ls hl => ?_)
      refine lv_iload hx hb dX0_codeByA_64 (lv_at hl 0 rfl) ?_
      refine lv_iload_n hx hb dX0_codeByA_66 rfl (lv_at hl 2 rfl) ?_
      refine lv_iconst (v := 4) hx hb dX0_codeByA_67 (by decide) ?_
      refine lv_ishl hx hb dX0_codeByA_68 ?_
      refine lv_ior hx hb dX0_codeByA_69 ?_
      refine lv_iload_n hx hb dX0_codeByA_70 rfl (lv_at hl 1 rfl) ?_
      refine lv_ior hx hb dX0_codeByA_71 ?_
      refine lv_bipush (v := 85) hx hb dX0_codeByA_72 (by decide) ?_
      refine lv_ixor hx hb dX0_codeByA_74 ?_
      exact W.iret (v := ((((128 : Int32) ||| ((0 : Int32) <<< ((4 : Int32) &&& 31))) ||| ((a0 / (16 : Int32)) &&& (15 : Int32))) ^^^ (85 : Int32))) hx hb hr (fun t ht _ => ⟨((((128 : Int32) ||| ((0 : Int32) <<< ((4 : Int32) &&& 31))) ||| ((a0 / (16 : Int32)) &&& (15 : Int32))) ^^^ (85 : Int32)), rfl, by unfold fnX0_codeByA; rw [if_pos c_1, if_neg c_2], ht⟩) (fun q h => absurd h List.not_mem_nil) dX0_codeByA_75
  · refine lv_iconst (v := (-1)) hx hb dX0_codeByA_4 (by decide) ?_
    refine lv_iload_n hx hb dX0_codeByA_5 rfl (lv_at hl 0 rfl) ?_
    refine lv_isub hx hb dX0_codeByA_6 ?_
    refine lv_goto (tgt := 11) hx hb dX0_codeByA_7 (by decide) ?_
    refine lv_bipush (v := 16) hx hb dX0_codeByA_11 (by decide) ?_
    refine lv_idiv hx hb dX0_codeByA_13 (by decide) ?_
    refine lv_istore_n (lv' := [(1, .int ((((-1 : Int32) - a0) / (16 : Int32)))), (0, .int (a0))]) hx hb dX0_codeByA_14 rfl hl (by decide) rfl (fun ls hl => ?_)
    refine lv_iload_n hx hb dX0_codeByA_15 rfl (lv_at hl 0 rfl) ?_
    refine lv_bipush (v := 16) hx hb dX0_codeByA_16 (by decide) ?_
    refine lv_icmp_ge (tgt := 25) hx hb dX0_codeByA_18 (by decide) (fun c_9 => ?_) (fun c_9 => ?_)
    · refine lv_iload_n hx hb dX0_codeByA_25 rfl (lv_at hl 0 rfl) ?_
      refine vp_callSi (W.runS (As := [.int ((((-1 : Int32) - a0) / (16 : Int32)))]) (rest := []) ⟨hx, hb, hml, hown, hts⟩ (metX0_highestPlace l (((-1 : Int32) - a0) / (16 : Int32))) (va_cwS 1 hts gX0_codeByA_X0_highestPlace rfl rfl rfl (by decide +kernel) ⟨(Nat.le_of_ble_eq_true rfl), (Nat.le_of_ble_eq_true rfl)⟩) ⟨fun a U g mk q => q, fun U hU hW => ⟨rfl, trivial⟩⟩ rfl rfl hl.1 rfl (lv_room (Nat.le_of_ble_eq_true rfl)) dX0_codeByA_26 ⟨(Nat.zero_le _), (Nat.zero_le _)⟩) (fun r_10 er_10 => ?_)
      subst er_10
      refine lv_iconst (v := 4) hx hb dX0_codeByA_29 (by decide) ?_
      refine lv_isub hx hb dX0_codeByA_30 ?_
      refine lv_iconst (v := 1) hx hb dX0_codeByA_31 (by decide) ?_
      refine lv_iadd hx hb dX0_codeByA_32 ?_
      refine lv_istore_n (lv' := [(2, .int ((((fnX0_highestPlace (((-1 : Int32) - a0) / (16 : Int32))) - (4 : Int32)) + (1 : Int32)))), (1, .int ((((-1 : Int32) - a0) / (16 : Int32)))), (0, .int (a0))]) hx hb dX0_codeByA_33 rfl hl (by decide) rfl (fun ls hl => ?_)
      refine lv_iload_n hx hb dX0_codeByA_34 rfl (lv_at hl 0 rfl) ?_
      refine lv_if_ne (tgt := 42) hx hb dX0_codeByA_35 (by decide) (fun c_11 => ?_) (fun c_11 => ?_)
      · refine lv_iload_n hx hb dX0_codeByA_42 rfl (lv_at hl 1 rfl) ?_
        refine lv_iload_n hx hb dX0_codeByA_43 rfl (lv_at hl 0 rfl) ?_
        refine lv_iconst (v := 1) hx hb dX0_codeByA_44 (by decide) ?_
        refine lv_isub hx hb dX0_codeByA_45 ?_
        refine lv_ishr hx hb dX0_codeByA_46 ?_
        refine lv_bipush (v := 15) hx hb dX0_codeByA_47 (by decide) ?_
        refine lv_iand hx hb dX0_codeByA_49 ?_
        refine lv_istore_n (lv' := [(3, .int ((((((-1 : Int32) - a0) / (16 : Int32)) >>> (((((fnX0_highestPlace (((-1 : Int32) - a0) / (16 : Int32))) - (4 : Int32)) + (1 : Int32)) - (1 : Int32)) &&& 31)) &&& (15 : Int32)))), (2, .int ((((fnX0_highestPlace (((-1 : Int32) - a0) / (16 : Int32))) - (4 : Int32)) + (1 : Int32)))), (1, .int ((((-1 : Int32) - a0) / (16 : Int32)))), (0, .int (a0))]) hx hb dX0_codeByA_50 rfl hl (by decide) rfl (fun ls hl => ?_)
        refine lv_iload_n hx hb dX0_codeByA_51 rfl (lv_at hl 3 rfl) ?_
        refine lv_if_ge (tgt := 59) hx hb dX0_codeByA_52 (by decide) (fun c9 => absurd c9 c_1) (fun _ => ?_)
        refine lv_iconst (v := 0) hx hb dX0_codeByA_55 (by decide) ?_
        refine lv_goto (tgt := 62) hx hb dX0_codeByA_56 (by decide) ?_
        refine lv_istore (lv' := [(4, .int (0)), (3, .int ((((((-1 : Int32) - a0) / (16 : Int32)) >>> (((((fnX0_highestPlace (((-1 : Int32) - a0) / (16 : Int32))) - (4 : Int32)) + (1 : Int32)) - (1 : Int32)) &&& 31)) &&& (15 : Int32)))), (2, .int ((((fnX0_highestPlace (((-1 : Int32) - a0) / (16 : Int32))) - (4 : Int32)) + (1 : Int32)))), (1, .int ((((-1 : Int32) - a0) / (16 : Int32)))), (0, .int (a0))]) hx hb dX0_codeByA_62 hl (by decide) rfl (fun ls hl => ?_)
        refine lv_iload hx hb dX0_codeByA_64 (lv_at hl 0 rfl) ?_
        refine lv_iload_n hx hb dX0_codeByA_66 rfl (lv_at hl 2 rfl) ?_
        refine lv_iconst (v := 4) hx hb dX0_codeByA_67 (by decide) ?_
        refine lv_ishl hx hb dX0_codeByA_68 ?_
        refine lv_ior hx hb dX0_codeByA_69 ?_
        refine lv_iload_n hx hb dX0_codeByA_70 rfl (lv_at hl 1 rfl) ?_
        refine lv_ior hx hb dX0_codeByA_71 ?_
        refine lv_bipush (v := 85) hx hb dX0_codeByA_72 (by decide) ?_
        refine lv_ixor hx hb dX0_codeByA_74 ?_
        exact W.iret (v := ((((0 : Int32) ||| ((((fnX0_highestPlace (((-1 : Int32) - a0) / (16 : Int32))) - (4 : Int32)) + (1 : Int32)) <<< ((4 : Int32) &&& 31))) ||| (((((-1 : Int32) - a0) / (16 : Int32)) >>> (((((fnX0_highestPlace (((-1 : Int32) - a0) / (16 : Int32))) - (4 : Int32)) + (1 : Int32)) - (1 : Int32)) &&& 31)) &&& (15 : Int32))) ^^^ (85 : Int32))) hx hb hr (fun t ht _ => ⟨((((0 : Int32) ||| ((((fnX0_highestPlace (((-1 : Int32) - a0) / (16 : Int32))) - (4 : Int32)) + (1 : Int32)) <<< ((4 : Int32) &&& 31))) ||| (((((-1 : Int32) - a0) / (16 : Int32)) >>> (((((fnX0_highestPlace (((-1 : Int32) - a0) / (16 : Int32))) - (4 : Int32)) + (1 : Int32)) - (1 : Int32)) &&& 31)) &&& (15 : Int32))) ^^^ (85 : Int32)), rfl, by unfold fnX0_codeByA; rw [if_neg c_1, if_pos c_9, if_neg c_11], ht⟩) (fun q h => absurd h List.not_mem_nil) dX0_codeByA_75
      · refine lv_iload_n hx hb dX0_codeByA_38 rfl (lv_at hl 1 rfl) ?_
        refine lv_goto (tgt := 47) hx hb dX0_codeByA_39 (by decide) ?_
        refine lv_bipush (v := 15) hx hb dX0_codeByA_47 (by decide) ?_
        refine lv_iand hx hb dX0_codeByA_49 ?_
        refine lv_istore_n (lv' := [(3, .int (((((-1 : Int32) - a0) / (16 : Int32)) &&& (15 : Int32)))), (2, .int ((((fnX0_highestPlace (((-1 : Int32) - a0) / (16 : Int32))) - (4 : Int32)) + (1 : Int32)))), (1, .int ((((-1 : Int32) - a0) / (16 : Int32)))), (0, .int (a0))]) hx hb dX0_codeByA_50 rfl hl (by decide) rfl (fun ls hl => ?_)
        refine lv_iload_n hx hb dX0_codeByA_51 rfl (lv_at hl 3 rfl) ?_
        refine lv_if_ge (tgt := 59) hx hb dX0_codeByA_52 (by decide) (fun c9 => absurd c9 c_1) (fun _ => ?_)
        refine lv_iconst (v := 0) hx hb dX0_codeByA_55 (by decide) ?_
        refine lv_goto (tgt := 62) hx hb dX0_codeByA_56 (by decide) ?_
        refine lv_istore (lv' := [(4, .int (0)), (3, .int (((((-1 : Int32) - a0) / (16 : Int32)) &&& (15 : Int32)))), (2, .int ((((fnX0_highestPlace (((-1 : Int32) - a0) / (16 : Int32))) - (4 : Int32)) + (1 : Int32)))), (1, .int ((((-1 : Int32) - a0) / (16 : Int32)))), (0, .int (a0))]) hx hb dX0_codeByA_62 hl (by decide) rfl (fun ls hl => ?_)
        refine lv_iload hx hb dX0_codeByA_64 (lv_at hl 0 rfl) ?_
        refine lv_iload_n hx hb dX0_codeByA_66 rfl (lv_at hl 2 rfl) ?_
        refine lv_iconst (v := 4) hx hb dX0_codeByA_67 (by decide) ?_
        refine lv_ishl hx hb dX0_codeByA_68 ?_
        refine lv_ior hx hb dX0_codeByA_69 ?_
        refine lv_iload_n hx hb dX0_codeByA_70 rfl (lv_at hl 1 rfl) ?_
        refine lv_ior hx hb dX0_codeByA_71 ?_
        refine lv_bipush (v := 85) hx hb dX0_codeByA_72 (by decide) ?_
        refine lv_ixor hx hb dX0_codeByA_74 ?_
        exact W.iret (v := ((((0 : Int32) ||| ((((fnX0_highestPlace (((-1 : Int32) - a0) / (16 : Int32))) - (4 : Int32)) + (1 : Int32)) <<< ((4 : Int32) &&& 31))) ||| ((((-1 : Int32) - a0) / (16 : Int32)) &&& (15 : Int32))) ^^^ (85 : Int32))) hx hb hr (fun t ht _ => ⟨((((0 : Int32) ||| ((((fnX0_highestPlace (((-1 : Int32) - a0) / (16 : Int32))) - (4 : Int32)) + (1 : Int32)) <<< ((4 : Int32) &&& 31))) ||| ((((-1 : Int32) - a0) / (16 : Int32)) &&& (15 : Int32))) ^^^ (85 : Int32)), rfl, by unfold fnX0_codeByA; rw [if_neg c_1, if_pos c_9, if_pos c_11], ht⟩) (fun q h => absurd h List.not_mem_nil) dX0_codeByA_75
    · refine lv_iconst (v := 0) hx hb dX0_codeByA_21 (by decide) ?_
      refine lv_goto (tgt := 33) hx hb dX0_codeByA_22 (by decide) ?_
      refine lv_istore_n (lv' := [(2, .int (0)), (1, .int ((((-1 : Int32) - a0) / (16 : Int32)))), (0, .int (a0))]) hx hb dX0_codeByA_33 rfl hl (by decide) rfl (fun ls hl => ?_)
      refine lv_iload_n hx hb dX0_codeByA_34 rfl (lv_at hl 0 rfl) ?_
      refine lv_if_ne (tgt := 42) hx hb dX0_codeByA_35 (by decide) (fun c9 => absurd c9 (by decide)) (fun _ => ?_)
      refine lv_iload_n hx hb dX0_codeByA_38 rfl (lv_at hl 1 rfl) ?_
      refine lv_goto (tgt := 47) hx hb dX0_codeByA_39 (by decide) ?_
      refine lv_bipush (v := 15) hx hb dX0_codeByA_47 (by decide) ?_
      refine lv_iand hx hb dX0_codeByA_49 ?_
      refine lv_istore_n (lv' := [(3, .int (((((-1 : Int32) - a0) / (16 : Int32)) &&& (15 : Int32)))), (2, .int (0)), (1, .int ((((-1 : Int32) - a0) / (16 : Int32)))), (0, .int (a0))]) hx hb dX0_codeByA_50 rfl hl (by decide) rfl (fun ls hl => ?_)
      refine lv_iload_n hx hb dX0_codeByA_51 rfl (lv_at hl 3 rfl) ?_
      refine lv_if_ge (tgt := 59) hx hb dX0_codeByA_52 (by decide) (fun c9 => absurd c9 c_1) (fun _ => ?_)
      refine lv_iconst (v := 0) hx hb dX0_codeByA_55 (by decide) ?_
      refine lv_goto (tgt := 62) hx hb dX0_codeByA_56 (by decide) ?_
      refine lv_istore (lv' := [(4, .int (0)), (3, .int (((((-1 : Int32) - a0) / (16 : Int32)) &&& (15 : Int32)))), (2, .int (0)), (1, .int ((((-1 : Int32) - a0) / (16 : Int32)))), (0, .int (a0))]) hx hb dX0_codeByA_62 hl (by decide) rfl (fun ls hl => ?_)
      refine lv_iload hx hb dX0_codeByA_64 (lv_at hl 0 rfl) ?_
      refine lv_iload_n hx hb dX0_codeByA_66 rfl (lv_at hl 2 rfl) ?_
      refine lv_iconst (v := 4) hx hb dX0_codeByA_67 (by decide) ?_
      refine lv_ishl hx hb dX0_codeByA_68 ?_
      refine lv_ior hx hb dX0_codeByA_69 ?_
      refine lv_iload_n hx hb dX0_codeByA_70 rfl (lv_at hl 1 rfl) ?_
      refine lv_ior hx hb dX0_codeByA_71 ?_
      refine lv_bipush (v := 85) hx hb dX0_codeByA_72 (by decide) ?_
      refine lv_ixor hx hb dX0_codeByA_74 ?_
      exact W.iret (v := ((((0 : Int32) ||| ((0 : Int32) <<< ((4 : Int32) &&& 31))) ||| ((((-1 : Int32) - a0) / (16 : Int32)) &&& (15 : Int32))) ^^^ (85 : Int32))) hx hb hr (fun t ht _ => ⟨((((0 : Int32) ||| ((0 : Int32) <<< ((4 : Int32) &&& 31))) ||| ((((-1 : Int32) - a0) / (16 : Int32)) &&& (15 : Int32))) ^^^ (85 : Int32)), rfl, by unfold fnX0_codeByA; rw [if_neg c_1, if_neg c_9], ht⟩) (fun q h => absurd h List.not_mem_nil) dX0_codeByA_75

def fnX0_codeByMu (a0 : Int32) : Int32 := if 0 ≤ a0 then (((((0 : Int32) ||| (((fnX0_highestPlace ((if (32635 : Int32) < (if 0 ≤ a0 then a0 else 0 - a0) then (32635 : Int32) else (if 0 ≤ a0 then a0 else 0 - a0)) + (132 : Int32))) - (7 : Int32)) <<< ((4 : Int32) &&& 31))) ||| ((((if (32635 : Int32) < (if 0 ≤ a0 then a0 else 0 - a0) then (32635 : Int32) else (if 0 ≤ a0 then a0 else 0 - a0)) + (132 : Int32)) >>> ((((fnX0_highestPlace ((if (32635 : Int32) < (if 0 ≤ a0 then a0 else 0 - a0) then (32635 : Int32) else (if 0 ≤ a0 then a0 else 0 - a0)) + (132 : Int32))) - (7 : Int32)) + (3 : Int32)) &&& 31)) &&& (15 : Int32))) ^^^ (255 : Int32))) else (((((128 : Int32) ||| (((fnX0_highestPlace ((if (32635 : Int32) < (if 0 ≤ a0 then a0 else 0 - a0) then (32635 : Int32) else (if 0 ≤ a0 then a0 else 0 - a0)) + (132 : Int32))) - (7 : Int32)) <<< ((4 : Int32) &&& 31))) ||| ((((if (32635 : Int32) < (if 0 ≤ a0 then a0 else 0 - a0) then (32635 : Int32) else (if 0 ≤ a0 then a0 else 0 - a0)) + (132 : Int32)) >>> ((((fnX0_highestPlace ((if (32635 : Int32) < (if 0 ≤ a0 then a0 else 0 - a0) then (32635 : Int32) else (if 0 ≤ a0 then a0 else 0 - a0)) + (132 : Int32))) - (7 : Int32)) + (3 : Int32)) &&& 31)) &&& (15 : Int32))) ^^^ (255 : Int32)))
set_option maxHeartbeats 4000000 in
set_option maxRecDepth 100000 in
theorem metX0_codeByMu (l : Launch) (a0 : Int32) : Met l yX0_codeByMu wsX0_codeByMu ({ frames := 2, cells := 0, slots := 0, locals := 41 }) (va_Pc [.int a0] (fun _ => True)) (vp_Si (fun r => r = fnX0_codeByMu a0)) 0 0 (fun _ => False) := by
  refine Met.ofW (cc := cX0_codeByMu) (maxL := 5) (ret := (some .int)) (by decide) rfl ?_
  intro p e s m args below meth c s₁ B hml hv
  obtain ⟨rfl, -⟩ := hv
  have hx := B.exec
  have hb := B.bytes
  have hr := B.returns
  have hts := atoms_spec (ws := wsX0_codeByMu) B.pre
  have hown : s.vm.findClass RX0 = some m.cls := findClass_of_methodNamed B.named
  have hlocks := B.notSynchronized
  have hl := lv_entry ([.int a0]) (n := 5) (Nat.le_of_ble_eq_true rfl)
  rw [lg_entry_eq]
  generalize (lg_sl ([.int a0]) ++ List.replicate (5 - (lg_sl ([.int a0])).length) Slot.unset).toArray = ls at hl ⊢
  have hl : lv_has ls 5 [(0, .int (a0))] := hl
  refine lv_iload_n hx hb dX0_codeByMu_0 rfl (lv_at hl 0 rfl) ?_
  refine va_mabs hx hb (hml.trans hl.1.symm) hown (hts (.methodLink RX0 126 Lib.Math.abs.name) (by decide +kernel)) (hts (.static Lib.Math.abs.name) (by decide +kernel)) (hts (.initialized "java/lang/Math") (by decide +kernel)) (hts (.code Lib.Math.abs.name Lib.Math.abs.code 1 (some .int)) (by decide +kernel)) (Nat.le_of_ble_eq_true rfl) (Nat.le_of_ble_eq_true rfl) (Nat.zero_le _) (Nat.zero_le _) dX0_codeByMu_1 ?_
  refine lv_sipush (v := 32635) hx hb dX0_codeByMu_4 (by decide) ?_
  refine va_mmin hx hb (hml.trans hl.1.symm) hown (hts (.methodLink RX0 129 Lib.Math.min.name) (by decide +kernel)) (hts (.static Lib.Math.min.name) (by decide +kernel)) (hts (.initialized "java/lang/Math") (by decide +kernel)) (hts (.code Lib.Math.min.name Lib.Math.min.code 2 (some .int)) (by decide +kernel)) (Nat.le_of_ble_eq_true rfl) (Nat.le_of_ble_eq_true rfl) (Nat.zero_le _) (Nat.zero_le _) dX0_codeByMu_7 ?_
  refine lv_sipush (v := 132) hx hb dX0_codeByMu_10 (by decide) ?_
  refine lv_iadd hx hb dX0_codeByMu_13 ?_
  refine lv_istore_n (lv' := [(1, .int (((if (32635 : Int32) < (if 0 ≤ a0 then a0 else 0 - a0) then (32635 : Int32) else (if 0 ≤ a0 then a0 else 0 - a0)) + (132 : Int32)))), (0, .int (a0))]) hx hb dX0_codeByMu_14 rfl hl (by decide) rfl (fun ls hl => ?_)
  refine lv_iload_n hx hb dX0_codeByMu_15 rfl (lv_at hl 0 rfl) ?_
  refine vp_callSi (W.runS (As := [.int (((if (32635 : Int32) < (if 0 ≤ a0 then a0 else 0 - a0) then (32635 : Int32) else (if 0 ≤ a0 then a0 else 0 - a0)) + (132 : Int32)))]) (rest := []) ⟨hx, hb, hml, hown, hts⟩ (metX0_highestPlace l ((if (32635 : Int32) < (if 0 ≤ a0 then a0 else 0 - a0) then (32635 : Int32) else (if 0 ≤ a0 then a0 else 0 - a0)) + (132 : Int32))) (va_cwS 1 hts gX0_codeByMu_X0_highestPlace rfl rfl rfl (by decide +kernel) ⟨(Nat.le_of_ble_eq_true rfl), (Nat.le_of_ble_eq_true rfl)⟩) ⟨fun a U g mk q => q, fun U hU hW => ⟨rfl, trivial⟩⟩ rfl rfl hl.1 rfl (lv_room (Nat.le_of_ble_eq_true rfl)) dX0_codeByMu_16 ⟨(Nat.zero_le _), (Nat.zero_le _)⟩) (fun r_1 er_1 => ?_)
  subst er_1
  refine lv_bipush (v := 7) hx hb dX0_codeByMu_19 (by decide) ?_
  refine lv_isub hx hb dX0_codeByMu_21 ?_
  refine lv_istore_n (lv' := [(2, .int (((fnX0_highestPlace ((if (32635 : Int32) < (if 0 ≤ a0 then a0 else 0 - a0) then (32635 : Int32) else (if 0 ≤ a0 then a0 else 0 - a0)) + (132 : Int32))) - (7 : Int32)))), (1, .int (((if (32635 : Int32) < (if 0 ≤ a0 then a0 else 0 - a0) then (32635 : Int32) else (if 0 ≤ a0 then a0 else 0 - a0)) + (132 : Int32)))), (0, .int (a0))]) hx hb dX0_codeByMu_22 rfl hl (by decide) rfl (fun ls hl => ?_)
  refine lv_iload_n hx hb dX0_codeByMu_23 rfl (lv_at hl 1 rfl) ?_
  refine lv_iload_n hx hb dX0_codeByMu_24 rfl (lv_at hl 0 rfl) ?_
  refine lv_iconst (v := 3) hx hb dX0_codeByMu_25 (by decide) ?_
  refine lv_iadd hx hb dX0_codeByMu_26 ?_
  refine lv_ishr hx hb dX0_codeByMu_27 ?_
  refine lv_bipush (v := 15) hx hb dX0_codeByMu_28 (by decide) ?_
  refine lv_iand hx hb dX0_codeByMu_30 ?_
  refine lv_istore_n (lv' := [(3, .int (((((if (32635 : Int32) < (if 0 ≤ a0 then a0 else 0 - a0) then (32635 : Int32) else (if 0 ≤ a0 then a0 else 0 - a0)) + (132 : Int32)) >>> ((((fnX0_highestPlace ((if (32635 : Int32) < (if 0 ≤ a0 then a0 else 0 - a0) then (32635 : Int32) else (if 0 ≤ a0 then a0 else 0 - a0)) + (132 : Int32))) - (7 : Int32)) + (3 : Int32)) &&& 31)) &&& (15 : Int32)))), (2, .int (((fnX0_highestPlace ((if (32635 : Int32) < (if 0 ≤ a0 then a0 else 0 - a0) then (32635 : Int32) else (if 0 ≤ a0 then a0 else 0 - a0)) + (132 : Int32))) - (7 : Int32)))), (1, .int (((if (32635 : Int32) < (if 0 ≤ a0 then a0 else 0 - a0) then (32635 : Int32) else (if 0 ≤ a0 then a0 else 0 - a0)) + (132 : Int32)))), (0, .int (a0))]) hx hb dX0_codeByMu_31 rfl hl (by decide) rfl (fun ls hl => ?_)
  refine lv_iload_n hx hb dX0_codeByMu_32 rfl (lv_at hl 3 rfl) ?_
  refine lv_if_ge (tgt := 42) hx hb dX0_codeByMu_33 (by decide) (fun c_2 => ?_) (fun c_2 => ?_)
  · refine lv_iconst (v := 0) hx hb dX0_codeByMu_42 (by decide) ?_
    refine lv_istore (lv' := [(4, .int (0)), (3, .int (((((if (32635 : Int32) < (if 0 ≤ a0 then a0 else 0 - a0) then (32635 : Int32) else (if 0 ≤ a0 then a0 else 0 - a0)) + (132 : Int32)) >>> ((((fnX0_highestPlace ((if (32635 : Int32) < (if 0 ≤ a0 then a0 else 0 - a0) then (32635 : Int32) else (if 0 ≤ a0 then a0 else 0 - a0)) + (132 : Int32))) - (7 : Int32)) + (3 : Int32)) &&& 31)) &&& (15 : Int32)))), (2, .int (((fnX0_highestPlace ((if (32635 : Int32) < (if 0 ≤ a0 then a0 else 0 - a0) then (32635 : Int32) else (if 0 ≤ a0 then a0 else 0 - a0)) + (132 : Int32))) - (7 : Int32)))), (1, .int (((if (32635 : Int32) < (if 0 ≤ a0 then a0 else 0 - a0) then (32635 : Int32) else (if 0 ≤ a0 then a0 else 0 - a0)) + (132 : Int32)))), (0, .int (a0))]) hx hb dX0_codeByMu_43 hl (by decide) rfl (fun ls hl => ?_)
    refine lv_iload hx hb dX0_codeByMu_45 (lv_at hl 0 rfl) ?_
    refine lv_iload_n hx hb dX0_codeByMu_47 rfl (lv_at hl 2 rfl) ?_
    refine lv_iconst (v := 4) hx hb dX0_codeByMu_48 (by decide) ?_
    refine lv_ishl hx hb dX0_codeByMu_49 ?_
    refine lv_ior hx hb dX0_codeByMu_50 ?_
    refine lv_iload_n hx hb dX0_codeByMu_51 rfl (lv_at hl 1 rfl) ?_
    refine lv_ior hx hb dX0_codeByMu_52 ?_
    refine lv_sipush (v := 255) hx hb dX0_codeByMu_53 (by decide) ?_
    refine lv_ixor hx hb dX0_codeByMu_56 ?_
    exact W.iret (v := ((((0 : Int32) ||| (((fnX0_highestPlace ((if (32635 : Int32) < (if 0 ≤ a0 then a0 else 0 - a0) then (32635 : Int32) else (if 0 ≤ a0 then a0 else 0 - a0)) + (132 : Int32))) - (7 : Int32)) <<< ((4 : Int32) &&& 31))) ||| ((((if (32635 : Int32) < (if 0 ≤ a0 then a0 else 0 - a0) then (32635 : Int32) else (if 0 ≤ a0 then a0 else 0 - a0)) + (132 : Int32)) >>> ((((fnX0_highestPlace ((if (32635 : Int32) < (if 0 ≤ a0 then a0 else 0 - a0) then (32635 : Int32) else (if 0 ≤ a0 then a0 else 0 - a0)) + (132 : Int32))) - (7 : Int32)) + (3 : Int32)) &&& 31)) &&& (15 : Int32))) ^^^ (255 : Int32))) hx hb hr (fun t ht _ => ⟨((((0 : Int32) ||| (((fnX0_highestPlace ((if (32635 : Int32) < (if 0 ≤ a0 then a0 else 0 - a0) then (32635 : Int32) else (if 0 ≤ a0 then a0 else 0 - a0)) + (132 : Int32))) - (7 : Int32)) <<< ((4 : Int32) &&& 31))) ||| ((((if (32635 : Int32) < (if 0 ≤ a0 then a0 else 0 - a0) then (32635 : Int32) else (if 0 ≤ a0 then a0 else 0 - a0)) + (132 : Int32)) >>> ((((fnX0_highestPlace ((if (32635 : Int32) < (if 0 ≤ a0 then a0 else 0 - a0) then (32635 : Int32) else (if 0 ≤ a0 then a0 else 0 - a0)) + (132 : Int32))) - (7 : Int32)) + (3 : Int32)) &&& 31)) &&& (15 : Int32))) ^^^ (255 : Int32)), rfl, by unfold fnX0_codeByMu; rw [if_pos c_2], ht⟩) (fun q h => absurd h List.not_mem_nil) dX0_codeByMu_57
  · refine lv_sipush (v := 128) hx hb dX0_codeByMu_36 (by decide) ?_
    refine lv_goto (tgt := 43) hx hb dX0_codeByMu_39 (by decide) ?_
    refine lv_istore (lv' := [(4, .int (128)), (3, .int (((((if (32635 : Int32) < (if 0 ≤ a0 then a0 else 0 - a0) then (32635 : Int32) else (if 0 ≤ a0 then a0 else 0 - a0)) + (132 : Int32)) >>> ((((fnX0_highestPlace ((if (32635 : Int32) < (if 0 ≤ a0 then a0 else 0 - a0) then (32635 : Int32) else (if 0 ≤ a0 then a0 else 0 - a0)) + (132 : Int32))) - (7 : Int32)) + (3 : Int32)) &&& 31)) &&& (15 : Int32)))), (2, .int (((fnX0_highestPlace ((if (32635 : Int32) < (if 0 ≤ a0 then a0 else 0 - a0) then (32635 : Int32) else (if 0 ≤ a0 then a0 else 0 - a0)) + (132 : Int32))) - (7 : Int32)))), (1, .int (((if (32635 : Int32) < (if 0 ≤ a0 then a0 else 0 - a0) then (32635 : Int32) else (if 0 ≤ a0 then a0 else 0 - a0)) + (132 : Int32)))), (0, .int (a0))]) hx hb dX0_codeByMu_43 hl (by decide) rfl (fun ls hl => ?_)
    refine lv_iload hx hb dX0_codeByMu_45 (lv_at hl 0 rfl) ?_
    refine lv_iload_n hx hb dX0_codeByMu_47 rfl (lv_at hl 2 rfl) ?_
    refine lv_iconst (v := 4) hx hb dX0_codeByMu_48 (by decide) ?_
    refine lv_ishl hx hb dX0_codeByMu_49 ?_
    refine lv_ior hx hb dX0_codeByMu_50 ?_
    refine lv_iload_n hx hb dX0_codeByMu_51 rfl (lv_at hl 1 rfl) ?_
    refine lv_ior hx hb dX0_codeByMu_52 ?_
    refine lv_sipush (v := 255) hx hb dX0_codeByMu_53 (by decide) ?_
    refine lv_ixor hx hb dX0_codeByMu_56 ?_
    exact W.iret (v := ((((128 : Int32) ||| (((fnX0_highestPlace ((if (32635 : Int32) < (if 0 ≤ a0 then a0 else 0 - a0) then (32635 : Int32) else (if 0 ≤ a0 then a0 else 0 - a0)) + (132 : Int32))) - (7 : Int32)) <<< ((4 : Int32) &&& 31))) ||| ((((if (32635 : Int32) < (if 0 ≤ a0 then a0 else 0 - a0) then (32635 : Int32) else (if 0 ≤ a0 then a0 else 0 - a0)) + (132 : Int32)) >>> ((((fnX0_highestPlace ((if (32635 : Int32) < (if 0 ≤ a0 then a0 else 0 - a0) then (32635 : Int32) else (if 0 ≤ a0 then a0 else 0 - a0)) + (132 : Int32))) - (7 : Int32)) + (3 : Int32)) &&& 31)) &&& (15 : Int32))) ^^^ (255 : Int32))) hx hb hr (fun t ht _ => ⟨((((128 : Int32) ||| (((fnX0_highestPlace ((if (32635 : Int32) < (if 0 ≤ a0 then a0 else 0 - a0) then (32635 : Int32) else (if 0 ≤ a0 then a0 else 0 - a0)) + (132 : Int32))) - (7 : Int32)) <<< ((4 : Int32) &&& 31))) ||| ((((if (32635 : Int32) < (if 0 ≤ a0 then a0 else 0 - a0) then (32635 : Int32) else (if 0 ≤ a0 then a0 else 0 - a0)) + (132 : Int32)) >>> ((((fnX0_highestPlace ((if (32635 : Int32) < (if 0 ≤ a0 then a0 else 0 - a0) then (32635 : Int32) else (if 0 ≤ a0 then a0 else 0 - a0)) + (132 : Int32))) - (7 : Int32)) + (3 : Int32)) &&& 31)) &&& (15 : Int32))) ^^^ (255 : Int32)), rfl, by unfold fnX0_codeByMu; rw [if_neg c_2], ht⟩) (fun q h => absurd h List.not_mem_nil) dX0_codeByMu_57

def fnX0_codeOf (a0 : Int32) (a1 : Int32) : Int32 := if a0 = 0 then ((fnX0_codeByA a1)) else ((fnX0_codeByMu a1))
set_option maxHeartbeats 4000000 in
set_option maxRecDepth 100000 in
theorem metX0_codeOf (l : Launch) (a0 : Int32) (a1 : Int32) : Met l yX0_codeOf wsX0_codeOf ({ frames := 3, cells := 0, slots := 0, locals := 65 }) (va_Pc [.int a0, .int a1] (fun _ => True)) (vp_Si (fun r => r = fnX0_codeOf a0 a1)) 0 0 (fun _ => False) := by
  refine Met.ofW (cc := cX0_codeOf) (maxL := 2) (ret := (some .int)) (by decide) rfl ?_
  intro p e s m args below meth c s₁ B hml hv
  obtain ⟨rfl, -⟩ := hv
  have hx := B.exec
  have hb := B.bytes
  have hr := B.returns
  have hts := atoms_spec (ws := wsX0_codeOf) B.pre
  have hown : s.vm.findClass RX0 = some m.cls := findClass_of_methodNamed B.named
  have hlocks := B.notSynchronized
  have hl := lv_entry ([.int a0, .int a1]) (n := 2) (Nat.le_of_ble_eq_true rfl)
  rw [lg_entry_eq]
  generalize (lg_sl ([.int a0, .int a1]) ++ List.replicate (2 - (lg_sl ([.int a0, .int a1])).length) Slot.unset).toArray = ls at hl ⊢
  have hl : lv_has ls 2 [(0, .int (a0)), (1, .int (a1))] := hl
  refine lv_iload_n hx hb dX0_codeOf_0 rfl (lv_at hl 0 rfl) ?_
  refine lv_if_ne (tgt := 11) hx hb dX0_codeOf_1 (by decide) (fun c_1 => ?_) (fun c_1 => ?_)
  · refine lv_iload_n hx hb dX0_codeOf_11 rfl (lv_at hl 1 rfl) ?_
    refine vp_callSi (W.runS (As := [.int (a1)]) (rest := []) ⟨hx, hb, hml, hown, hts⟩ (metX0_codeByMu l a1) (va_cwS 1 hts gX0_codeOf_X0_codeByMu rfl rfl rfl (by decide +kernel) ⟨(Nat.le_of_ble_eq_true rfl), (Nat.le_of_ble_eq_true rfl)⟩) ⟨fun a U g mk q => q, fun U hU hW => ⟨rfl, trivial⟩⟩ rfl rfl hl.1 rfl (lv_room (Nat.le_of_ble_eq_true rfl)) dX0_codeOf_12 ⟨(Nat.zero_le _), (Nat.zero_le _)⟩) (fun r_2 er_2 => ?_)
    subst er_2
    exact W.iret (v := (fnX0_codeByMu a1)) hx hb hr (fun t ht _ => ⟨(fnX0_codeByMu a1), rfl, by unfold fnX0_codeOf; rw [if_neg c_1], ht⟩) (fun q h => absurd h List.not_mem_nil) dX0_codeOf_15
  · refine lv_iload_n hx hb dX0_codeOf_4 rfl (lv_at hl 1 rfl) ?_
    refine vp_callSi (W.runS (As := [.int (a1)]) (rest := []) ⟨hx, hb, hml, hown, hts⟩ (metX0_codeByA l a1) (va_cwS 1 hts gX0_codeOf_X0_codeByA rfl rfl rfl (by decide +kernel) ⟨(Nat.le_of_ble_eq_true rfl), (Nat.le_of_ble_eq_true rfl)⟩) ⟨fun a U g mk q => q, fun U hU hW => ⟨rfl, trivial⟩⟩ rfl rfl hl.1 rfl (lv_room (Nat.le_of_ble_eq_true rfl)) dX0_codeOf_5 ⟨(Nat.zero_le _), (Nat.zero_le _)⟩) (fun r_3 er_3 => ?_)
    subst er_3
    refine lv_goto (tgt := 15) hx hb dX0_codeOf_8 (by decide) ?_
    exact W.iret (v := (fnX0_codeByA a1)) hx hb hr (fun t ht _ => ⟨(fnX0_codeByA a1), rfl, by unfold fnX0_codeOf; rw [if_pos c_1], ht⟩) (fun q h => absurd h List.not_mem_nil) dX0_codeOf_15

def fnX1_held (a0 : Int64) : Int32 := if (lg_cmp a0 (32767 : Int64)) ≤ 0 then (if 0 ≤ (lg_cmp a0 (-32768 : Int64)) then (a0.toInt32) else ((-32768))) else (32767)
set_option maxHeartbeats 4000000 in
set_option maxRecDepth 100000 in
theorem metX1_held (l : Launch) (a0 : Int64) : Met l yX1_held wsX1_held ({ frames := 0, cells := 0, slots := 0, locals := 0 }) (va_Pc [.long a0] (fun _ => True)) (vp_Si (fun r => r = fnX1_held a0)) 0 0 (fun _ => False) := by
  refine Met.ofW (cc := cX1_held) (maxL := 2) (ret := (some .int)) (by decide) rfl ?_
  intro p e s m args below meth c s₁ B hml hv
  obtain ⟨rfl, -⟩ := hv
  have hx := B.exec
  have hb := B.bytes
  have hr := B.returns
  have hts := atoms_spec (ws := wsX1_held) B.pre
  have hown : s.vm.findClass RX1 = some m.cls := findClass_of_methodNamed B.named
  have hlocks := B.notSynchronized
  have hl := lv_entry ([.long a0]) (n := 2) (Nat.le_of_ble_eq_true rfl)
  rw [lg_entry_eq]
  generalize (lg_sl ([.long a0]) ++ List.replicate (2 - (lg_sl ([.long a0])).length) Slot.unset).toArray = ls at hl ⊢
  have hl : lv_has ls 2 [(0, .long (a0))] := hl
  refine lv_lload_n hx hb dX1_held_0 rfl (lv_at hl 0 rfl) ?_
  refine lv_ldc2 (v := 32767) hx hb hown (hts (.constantLong RX1 44 (32767)) (by decide +kernel)) dX1_held_1 ?_
  refine W.lcmp hx hb dX1_held_4 ?_
  refine lv_if_le (tgt := 14) hx hb dX1_held_5 (by decide) (fun c_1 => ?_) (fun c_1 => ?_)
  · refine lv_lload_n hx hb dX1_held_14 rfl (lv_at hl 0 rfl) ?_
    refine lv_ldc2 (v := (-32768)) hx hb hown (hts (.constantLong RX1 46 (-32768)) (by decide +kernel)) dX1_held_15 ?_
    refine W.lcmp hx hb dX1_held_18 ?_
    refine lv_if_ge (tgt := 28) hx hb dX1_held_19 (by decide) (fun c_2 => ?_) (fun c_2 => ?_)
    · refine lv_lload_n hx hb dX1_held_28 rfl (lv_at hl 0 rfl) ?_
      refine lv_l2i (v := a0.toInt32) hx hb dX1_held_29 rfl ?_
      exact W.iret (v := a0.toInt32) hx hb hr (fun t ht _ => ⟨a0.toInt32, rfl, by unfold fnX1_held; rw [if_pos c_1, if_pos c_2], ht⟩) (fun q h => absurd h List.not_mem_nil) dX1_held_30
    · refine lv_sipush (v := (-32768)) hx hb dX1_held_22 (by decide) ?_
      refine lv_goto (tgt := 30) hx hb dX1_held_25 (by decide) ?_
      exact W.iret (v := (-32768)) hx hb hr (fun t ht _ => ⟨(-32768), rfl, by unfold fnX1_held; rw [if_pos c_1, if_neg c_2], ht⟩) (fun q h => absurd h List.not_mem_nil) dX1_held_30
  · refine lv_sipush (v := 32767) hx hb dX1_held_8 (by decide) ?_
    refine lv_goto (tgt := 30) hx hb dX1_held_11 (by decide) ?_
    exact W.iret (v := 32767) hx hb hr (fun t ht _ => ⟨32767, rfl, by unfold fnX1_held; rw [if_neg c_1], ht⟩) (fun q h => absurd h List.not_mem_nil) dX1_held_30

def fnX1_scaled (a0 : Int32) (a1 : Int32) : Int32 := if 0 ≤ (a0 * a1) then ((fnX1_held (((a0 * a1) / (256 : Int32)).toInt64))) else ((fnX1_held ((-(((255 : Int32) - (a0 * a1)) / (256 : Int32))).toInt64)))
set_option maxHeartbeats 4000000 in
set_option maxRecDepth 100000 in
theorem metX1_scaled (l : Launch) (a0 : Int32) (a1 : Int32) : Met l yX1_scaled wsX1_scaled ({ frames := 1, cells := 0, slots := 0, locals := 21 }) (va_Pc [.int a0, .int a1] (fun _ => True)) (vp_Si (fun r => r = fnX1_scaled a0 a1)) 0 0 (fun _ => False) := by
  refine Met.ofW (cc := cX1_scaled) (maxL := 3) (ret := (some .int)) (by decide) rfl ?_
  intro p e s m args below meth c s₁ B hml hv
  obtain ⟨rfl, -⟩ := hv
  have hx := B.exec
  have hb := B.bytes
  have hr := B.returns
  have hts := atoms_spec (ws := wsX1_scaled) B.pre
  have hown : s.vm.findClass RX1 = some m.cls := findClass_of_methodNamed B.named
  have hlocks := B.notSynchronized
  have hl := lv_entry ([.int a0, .int a1]) (n := 3) (Nat.le_of_ble_eq_true rfl)
  rw [lg_entry_eq]
  generalize (lg_sl ([.int a0, .int a1]) ++ List.replicate (3 - (lg_sl ([.int a0, .int a1])).length) Slot.unset).toArray = ls at hl ⊢
  have hl : lv_has ls 3 [(0, .int (a0)), (1, .int (a1))] := hl
  refine lv_iload_n hx hb dX1_scaled_0 rfl (lv_at hl 0 rfl) ?_
  refine lv_iload_n hx hb dX1_scaled_1 rfl (lv_at hl 1 rfl) ?_
  refine lv_imul hx hb dX1_scaled_2 ?_
  refine lv_istore_n (lv' := [(2, .int ((a0 * a1))), (0, .int (a0)), (1, .int (a1))]) hx hb dX1_scaled_3 rfl hl (by decide) rfl (fun ls hl => ?_)
  refine lv_iload_n hx hb dX1_scaled_4 rfl (lv_at hl 0 rfl) ?_
  refine lv_if_ge (tgt := 22) hx hb dX1_scaled_5 (by decide) (fun c_1 => ?_) (fun c_1 => ?_)
  · refine lv_iload_n hx hb dX1_scaled_22 rfl (lv_at hl 0 rfl) ?_
    refine lv_sipush (v := 256) hx hb dX1_scaled_23 (by decide) ?_
    refine lv_idiv hx hb dX1_scaled_26 (by decide) ?_
    refine lv_i2l (v := ((a0 * a1) / (256 : Int32)).toInt64) hx hb dX1_scaled_27 rfl ?_
    refine vp_callSi (W.runS (As := [.long (((a0 * a1) / (256 : Int32)).toInt64)]) (rest := []) ⟨hx, hb, hml, hown, hts⟩ (metX1_held l (((a0 * a1) / (256 : Int32)).toInt64)) (va_cwS 1 hts gX1_scaled_X1_held rfl rfl rfl (by decide +kernel) ⟨(Nat.le_of_ble_eq_true rfl), (Nat.le_of_ble_eq_true rfl)⟩) ⟨fun a U g mk q => q, fun U hU hW => ⟨rfl, trivial⟩⟩ rfl rfl hl.1 rfl (lv_room (Nat.le_of_ble_eq_true rfl)) dX1_scaled_28 ⟨(Nat.zero_le _), (Nat.zero_le _)⟩) (fun r_2 er_2 => ?_)
    subst er_2
    exact W.iret (v := (fnX1_held (((a0 * a1) / (256 : Int32)).toInt64))) hx hb hr (fun t ht _ => ⟨(fnX1_held (((a0 * a1) / (256 : Int32)).toInt64)), rfl, by unfold fnX1_scaled; rw [if_pos c_1], ht⟩) (fun q h => absurd h List.not_mem_nil) dX1_scaled_31
  · refine lv_sipush (v := 255) hx hb dX1_scaled_8 (by decide) ?_
    refine lv_iload_n hx hb dX1_scaled_11 rfl (lv_at hl 0 rfl) ?_
    refine lv_isub hx hb dX1_scaled_12 ?_
    refine lv_sipush (v := 256) hx hb dX1_scaled_13 (by decide) ?_
    refine lv_idiv hx hb dX1_scaled_16 (by decide) ?_
    refine lv_ineg hx hb dX1_scaled_17 ?_
    refine lv_i2l (v := (-(((255 : Int32) - (a0 * a1)) / (256 : Int32))).toInt64) hx hb dX1_scaled_18 rfl ?_
    refine lv_goto (tgt := 28) hx hb dX1_scaled_19 (by decide) ?_
    refine vp_callSi (W.runS (As := [.long ((-(((255 : Int32) - (a0 * a1)) / (256 : Int32))).toInt64)]) (rest := []) ⟨hx, hb, hml, hown, hts⟩ (metX1_held l ((-(((255 : Int32) - (a0 * a1)) / (256 : Int32))).toInt64)) (va_cwS 1 hts gX1_scaled_X1_held rfl rfl rfl (by decide +kernel) ⟨(Nat.le_of_ble_eq_true rfl), (Nat.le_of_ble_eq_true rfl)⟩) ⟨fun a U g mk q => q, fun U hU hW => ⟨rfl, trivial⟩⟩ rfl rfl hl.1 rfl (lv_room (Nat.le_of_ble_eq_true rfl)) dX1_scaled_28 ⟨(Nat.zero_le _), (Nat.zero_le _)⟩) (fun r_3 er_3 => ?_)
    subst er_3
    exact W.iret (v := (fnX1_held ((-(((255 : Int32) - (a0 * a1)) / (256 : Int32))).toInt64))) hx hb hr (fun t ht _ => ⟨(fnX1_held ((-(((255 : Int32) - (a0 * a1)) / (256 : Int32))).toInt64)), rfl, by unfold fnX1_scaled; rw [if_neg c_1], ht⟩) (fun q h => absurd h List.not_mem_nil) dX1_scaled_31

def fnX1_not (a0 : Int32) (a1 : Int32) : Int32 := if a0 < 0 then (1) else (if a0 < a1 then (0) else (1))
set_option maxHeartbeats 4000000 in
set_option maxRecDepth 100000 in
theorem metX1_not (l : Launch) (a0 : Int32) (a1 : Int32) : Met l yX1_not wsX1_not ({ frames := 0, cells := 0, slots := 0, locals := 0 }) (va_Pc [.int a0, .int a1] (fun _ => True)) (vp_Si (fun r => r = fnX1_not a0 a1)) 0 0 (fun _ => False) := by
  refine Met.ofW (cc := cX1_not) (maxL := 2) (ret := (some .boolean)) (by decide) rfl ?_
  intro p e s m args below meth c s₁ B hml hv
  obtain ⟨rfl, -⟩ := hv
  have hx := B.exec
  have hb := B.bytes
  have hr := B.returns
  have hts := atoms_spec (ws := wsX1_not) B.pre
  have hown : s.vm.findClass RX1 = some m.cls := findClass_of_methodNamed B.named
  have hlocks := B.notSynchronized
  have hl := lv_entry ([.int a0, .int a1]) (n := 2) (Nat.le_of_ble_eq_true rfl)
  rw [lg_entry_eq]
  generalize (lg_sl ([.int a0, .int a1]) ++ List.replicate (2 - (lg_sl ([.int a0, .int a1])).length) Slot.unset).toArray = ls at hl ⊢
  have hl : lv_has ls 2 [(0, .int (a0)), (1, .int (a1))] := hl
  refine lv_iload_n hx hb dX1_not_0 rfl (lv_at hl 0 rfl) ?_
  refine lv_if_lt (tgt := 9) hx hb dX1_not_1 (by decide) (fun c_1 => ?_) (fun c_1 => ?_)
  · refine lv_iconst (v := 1) hx hb dX1_not_9 (by decide) ?_
    refine lv_goto (tgt := 14) hx hb dX1_not_10 (by decide) ?_
    exact W.zret (v := 1) hx hb hr (by decide) (fun t ht _ => ⟨1, rfl, by unfold fnX1_not; rw [if_pos c_1], ht⟩) (fun q h => absurd h List.not_mem_nil) dX1_not_14
  · refine lv_iload_n hx hb dX1_not_4 rfl (lv_at hl 0 rfl) ?_
    refine lv_iload_n hx hb dX1_not_5 rfl (lv_at hl 1 rfl) ?_
    refine lv_icmp_lt (tgt := 13) hx hb dX1_not_6 (by decide) (fun c_2 => ?_) (fun c_2 => ?_)
    · refine lv_iconst (v := 0) hx hb dX1_not_13 (by decide) ?_
      exact W.zret (v := 0) hx hb hr (by decide) (fun t ht _ => ⟨0, rfl, by unfold fnX1_not; rw [if_neg c_1, if_pos c_2], ht⟩) (fun q h => absurd h List.not_mem_nil) dX1_not_14
    · refine lv_iconst (v := 1) hx hb dX1_not_9 (by decide) ?_
      refine lv_goto (tgt := 14) hx hb dX1_not_10 (by decide) ?_
      exact W.zret (v := 1) hx hb hr (by decide) (fun t ht _ => ⟨1, rfl, by unfold fnX1_not; rw [if_neg c_1, if_neg c_2], ht⟩) (fun q h => absurd h List.not_mem_nil) dX1_not_14
