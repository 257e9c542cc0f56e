/-! the law's two helpers: a call whose exception they catch -/
set_option maxHeartbeats 4000000 in
set_option maxRecDepth 100000 in
theorem metL_decode (l : Launch) (hl9 : l.stackTraces = false) (dC : Nat → ClassId) (dI : Nat → Nat → Nat) (ct : Nat → ClassId) (ad : Nat → Nat) (o : Nat) (sz : Nat) (u : cb_U) (F : Nat → Int64) (a1 : Int32) (a2 : Int32) : Met l yL_decode wsL_decode ({ frames := 7, cells := 1, slots := 6, locals := 103 }) (va_Pc [.ref (ad 0), .int a1, .int a2, .ref o] (fun U => U.heap.size = sz ∧ va_P (dC, dI) vwCl (cb_w ct ad u ++ [(o, .inl (ct 3, 1, .inr (.inl F)))]) U.heap ∧ va_K (dC, dI) vwCl (cb_ty ct) U ∧ va_D (fun _ => True) (cb_w ct ad u ++ [(o, .inl (ct 3, 1, .inr (.inl F)))]) ∧ cb_X (va_A (cb_w ct ad u ++ [(o, .inl (ct 3, 1, .inr (.inl F)))]) sz) U)) (va_Qi (fun r (F1 : Nat → Int64) => (fnX0_isLaw a1 = 0 ∧ r = 1) ∨ (¬ fnX0_isLaw a1 = 0 ∧ r = 0 ∧ F1 0 = (fnX0_sampleOf a1 (a2 &&& (255 : Int32))).toInt64)) (fun F1 t => va_P (dC, dI) vwCl (cb_w ct ad u ++ [(o, .inl (ct 3, 1, .inr (.inl F1)))]) t.heap ∧ va_K (dC, dI) vwCl (cb_ty ct) t ∧ va_D (va_A (cb_w ct ad u ++ [(o, .inl (ct 3, 1, .inr (.inl F)))]) sz) (cb_w ct ad u ++ [(o, .inl (ct 3, 1, .inr (.inl F1)))])) (va_A (cb_w ct ad u ++ [(o, .inl (ct 3, 1, .inr (.inl F)))]) sz)) 1 6 (va_A (cb_w ct ad u ++ [(o, .inl (ct 3, 1, .inr (.inl F)))]) sz) := by
  refine va_MetW (cc := cL_decode) (maxL := 5) (ret := (some .int)) (by decide) rfl ?_
  intro p e s m args below meth c s₁ B hml hv
  obtain ⟨rfl, hsz, hP, hK, hD0, hX⟩ := hv
  have hx := B.exec
  have hb := B.bytes
  have hr := B.returns
  have hts := atoms_spec (ws := wsL_decode) B.pre
  have hown : s.vm.findClass RL = some m.cls := findClass_of_methodNamed B.named
  have hlocks := B.notSynchronized
  have htab : c.exceptionTable.toList = [] ++ (⟨0, 10, 13, 13⟩ : ExceptionTableEntry) :: [] := vx_table (x := yL_decode) B (hts (.codeWith yL_decode cL_decode 5 (some .int) [(0, 10, 13, 13)]) List.mem_cons_self)
  subst hsz
  have hD := hD0.self (sz := s.heap.size)
  generalize hAe : va_A (cb_w ct ad u ++ [(o, .inl (ct 3, 1, .inr (.inl F)))]) s.heap.size = A at hD hX ⊢
  have hA : ∀ q : Nat, s.heap.size ≤ q → A q := fun q h => by rw [← hAe]; exact Or.inr h
  have hS : va_S A s.heap s.heap [] := va_S.rf
  have hl := lv_entry ([.ref (ad 0), .int a1, .int a2, .ref o]) (n := 5) (Nat.le_of_ble_eq_true rfl)
  rw [lg_entry_eq]
  generalize (lg_sl ([.ref (ad 0), .int a1, .int a2, .ref o]) ++ List.replicate (5 - (lg_sl ([.ref (ad 0), .int a1, .int a2, .ref o])).length) Slot.unset).toArray = ls at hl ⊢
  have hl : lv_has ls 5 [(0, .ref (ad 0)), (1, .int (a1)), (2, .int (a2)), (3, .ref o)] := hl
  refine lv_aload_n hx hb dL_decode_0 rfl (lv_at hl 3 rfl) ?_
  refine lv_iconst (v := 0) hx hb dL_decode_1 (by decide) ?_
  refine lv_aload_n hx hb dL_decode_2 rfl (lv_at hl 0 rfl) ?_
  refine lv_iload_n hx hb dL_decode_3 rfl (lv_at hl 1 rfl) ?_
  refine lv_iload_n hx hb dL_decode_4 rfl (lv_at hl 2 rfl) ?_
  have hPc := cb_P1 hP
  have hDc := cb_D1 hD
  have hFc := cb_freeL hD hS hA
  refine vx_calli (vx_runV (As := [.int (a1), .int (a2)]) (rest := [.int 0, .ref o]) ⟨hx, hb, hml, hown, hts⟩ (metX0_decode l hl9 dC dI ct ad s.heap.size u a1 a2) (cwV 2 hts gL_decode_X0_decode rfl rfl rfl (by decide +kernel) ⟨(Nat.le_of_ble_eq_true rfl), (Nat.le_of_ble_eq_true rfl)⟩) ⟨fun a U g mk q => by obtain ⟨q0, q1, ⟨qP, qK, qD⟩, qX⟩ := q; exact ⟨q0, q1, ⟨qP, va_K.moved (u := U) (U := U.calling g mk a) (Vm.Alike.refl U.vm) qK, qD⟩, qX.blind⟩, va_recv hK hPc (ci := 0) (q0 := 0) rfl rfl, fun U hU hW => ⟨rfl, by rw [hU], ⟨by rw [hU]; exact hPc, va_K.moved hW.alike hK, hDc.weaken (fun _ _ _ _ => trivial)⟩, hX.at hS hU hW hFc⟩⟩ rfl rfl hl.1 rfl (lv_room (Nat.le_of_ble_eq_true rfl)) dL_decode_5 ⟨(Nat.le_of_ble_eq_true rfl), (Nat.le_of_ble_eq_true rfl)⟩) hS (fun q _ h => hFc q h) hFc (fun q _ h => hFc q h) (fun E ce q9 u9 t9 H1 locs ht9 hvm hpx hBX hz1 hk1 hS hce hcv hcl => ?_) (fun r9 u9 t9 H1 locs ht9 hvm hw9 hB hz1 hk1 hS => ?_)
  · obtain ⟨rfl, hP1, -, hD1⟩ := hBX
    rw [ht9] at hP1
    obtain ⟨hP, hD⟩ := cb_joinL hP hD hk1 hFc hP1 hD1
    refine vx_catch (own := RL) (name := "java/util/NoSuchElementException") hown [] ⟨0, 10, 13, 13⟩ [] htab (fun z h => absurd h List.not_mem_nil) (by decide) (by decide) (hts (.classLink RL 13 "java/util/NoSuchElementException") (by decide +kernel)) (va_Nw.use rfl hX.1) hce hcv hcl ?_
    refine W.eq (g2 := F0 m 13 ls [.ref q9]) rfl ?_
    refine lv_astore (lv' := [(4, .ref q9), (0, .ref (ad 0)), (1, .int (a1)), (2, .int (a2)), (3, .ref o)]) hx hb dL_decode_13 hl (by decide) rfl (fun ls hl => ?_)
    refine lv_iconst (v := 1) hx hb dL_decode_15 (by decide) ?_
    exact W.iret (v := 1) hx hb hr (fun t ht hW => ⟨⟨1, F, rfl, Or.inl ⟨hpx, rfl⟩, by rw [ht]; exact hP, va_K.moved hW.alike hK, hD⟩, hS.F ht⟩) hS.2.2 dL_decode_16
  · obtain ⟨hP1, -, hD1⟩ := hB
    rw [ht9] at hP1
    obtain ⟨hP, hD⟩ := cb_joinL hP hD hk1 hFc hP1 hD1
    obtain ⟨hno, rfl⟩ := hw9
    refine lv_i2l (v := (fnX0_sampleOf a1 (a2 &&& (255 : Int32))).toInt64) hx hb dL_decode_8 rfl ?_
    refine cb_last (j := 0) (n := 1) (x := (fnX0_sampleOf a1 (a2 &&& (255 : Int32))).toInt64) (ws1 := cb_w ct ad u ++ [(o, .inl (ct 3, 1, .inr (.inl (vp_updL F 0 ((fnX0_sampleOf a1 (a2 &&& (255 : Int32))).toInt64)))))]) hx hb hK hP hD hS 33 3 (f := F) rfl rfl (by decide) (by decide) rfl dL_decode_9 (fun H locs hP hD hS => ?_)
    refine lv_goto (tgt := 17) hx hb dL_decode_10 (by decide) ?_
    refine lv_iconst (v := 0) hx hb dL_decode_17 (by decide) ?_
    exact W.iret (v := 0) hx hb hr (fun t ht hW => ⟨⟨0, vp_updL F 0 ((fnX0_sampleOf a1 (a2 &&& (255 : Int32))).toInt64), rfl, Or.inr ⟨hno, rfl, pk_uLs⟩, by rw [ht]; exact hP, va_K.moved hW.alike hK, hD⟩, hS.F ht⟩) hS.2.2 dL_decode_18

set_option maxHeartbeats 4000000 in
set_option maxRecDepth 100000 in
theorem metL_energy (l : Launch) (hl9 : l.stackTraces = false) (dC : Nat → ClassId) (dI : Nat → Nat → Nat) (ct : Nat → ClassId) (ad : Nat → Nat) (o : Nat) (sz : Nat) (u : cb_U) (F : Nat → Int64) (a1 : Int32) : Met l yL_energy wsL_energy ({ frames := 7, cells := 1, slots := 6, locals := 102 }) (va_Pc [.ref (ad 0), .int a1, .ref o] (fun U => U.heap.size = sz ∧ va_P (dC, dI) vwCl (cb_w ct ad u ++ [(o, .inl (ct 3, 1, .inr (.inl F)))]) U.heap ∧ va_K (dC, dI) vwCl (cb_ty ct) U ∧ va_D (fun _ => True) (cb_w ct ad u ++ [(o, .inl (ct 3, 1, .inr (.inl F)))]) ∧ cb_X (va_A (cb_w ct ad u ++ [(o, .inl (ct 3, 1, .inr (.inl F)))]) sz) U)) (va_Qi (fun r (F1 : Nat → Int64) => (fnX0_isParty a1 = 0 ∧ r = 1) ∨ (¬ fnX0_isParty a1 = 0 ∧ r = 0 ∧ F1 0 = cbE u a1.toNatClampNeg)) (fun F1 t => va_P (dC, dI) vwCl (cb_w ct ad u ++ [(o, .inl (ct 3, 1, .inr (.inl F1)))]) t.heap ∧ va_K (dC, dI) vwCl (cb_ty ct) t ∧ va_D (va_A (cb_w ct ad u ++ [(o, .inl (ct 3, 1, .inr (.inl F)))]) sz) (cb_w ct ad u ++ [(o, .inl (ct 3, 1, .inr (.inl F1)))])) (va_A (cb_w ct ad u ++ [(o, .inl (ct 3, 1, .inr (.inl F)))]) sz)) 1 6 (va_A (cb_w ct ad u ++ [(o, .inl (ct 3, 1, .inr (.inl F)))]) sz) := by
  refine va_MetW (cc := cL_energy) (maxL := 4) (ret := (some .int)) (by decide) rfl ?_
  intro p e s m args below meth c s₁ B hml hv
  obtain ⟨rfl, hsz, hP, hK, hD0, hX⟩ := hv
  have hx := B.exec
  have hb := B.bytes
  have hr := B.returns
  have hts := atoms_spec (ws := wsL_energy) B.pre
  have hown : s.vm.findClass RL = some m.cls := findClass_of_methodNamed B.named
  have hlocks := B.notSynchronized
  have htab : c.exceptionTable.toList = [] ++ (⟨0, 8, 11, 13⟩ : ExceptionTableEntry) :: [] := vx_table (x := yL_energy) B (hts (.codeWith yL_energy cL_energy 4 (some .int) [(0, 8, 11, 13)]) List.mem_cons_self)
  subst hsz
  have hD := hD0.self (sz := s.heap.size)
  generalize hAe : va_A (cb_w ct ad u ++ [(o, .inl (ct 3, 1, .inr (.inl F)))]) s.heap.size = A at hD hX ⊢
  have hA : ∀ q : Nat, s.heap.size ≤ q → A q := fun q h => by rw [← hAe]; exact Or.inr h
  have hS : va_S A s.heap s.heap [] := va_S.rf
  have hl := lv_entry ([.ref (ad 0), .int a1, .ref o]) (n := 4) (Nat.le_of_ble_eq_true rfl)
  rw [lg_entry_eq]
  generalize (lg_sl ([.ref (ad 0), .int a1, .ref o]) ++ List.replicate (4 - (lg_sl ([.ref (ad 0), .int a1, .ref o])).length) Slot.unset).toArray = ls at hl ⊢
  have hl : lv_has ls 4 [(0, .ref (ad 0)), (1, .int (a1)), (2, .ref o)] := hl
  refine lv_aload_n hx hb dL_energy_0 rfl (lv_at hl 2 rfl) ?_
  refine lv_iconst (v := 0) hx hb dL_energy_1 (by decide) ?_
  refine lv_aload_n hx hb dL_energy_2 rfl (lv_at hl 0 rfl) ?_
  refine lv_iload_n hx hb dL_energy_3 rfl (lv_at hl 1 rfl) ?_
  have hPc := cb_P1 hP
  have hDc := cb_D1 hD
  have hFc := cb_freeL hD hS hA
  refine vx_calll (vx_runV (As := [.int (a1)]) (rest := [.int 0, .ref o]) ⟨hx, hb, hml, hown, hts⟩ (metX0_energy l hl9 dC dI ct ad s.heap.size u a1) (cwV 1 hts gL_energy_X0_energy rfl rfl rfl (by decide +kernel) ⟨(Nat.le_of_ble_eq_true rfl), (Nat.le_of_ble_eq_true rfl)⟩) ⟨fun a U g mk q => by obtain ⟨q0, q1, ⟨qP, qK, qD⟩, qX⟩ := q; exact ⟨q0, q1, ⟨qP, va_K.moved (u := U) (U := U.calling g mk a) (Vm.Alike.refl U.vm) qK, qD⟩, qX.blind⟩, va_recv hK hPc (ci := 0) (q0 := 0) rfl rfl, fun U hU hW => ⟨rfl, by rw [hU], ⟨by rw [hU]; exact hPc, va_K.moved hW.alike hK, hDc.weaken (fun _ _ _ _ => trivial)⟩, hX.at hS hU hW hFc⟩⟩ rfl rfl hl.1 rfl (lv_room (Nat.le_of_ble_eq_true rfl)) dL_energy_4 ⟨(Nat.le_of_ble_eq_true rfl), (Nat.le_of_ble_eq_true rfl)⟩) hS (fun q _ h => hFc q h) hFc (fun q _ h => hFc q h) (fun E ce q9 u9 t9 H1 locs ht9 hvm hpx hBX hz1 hk1 hS hce hcv hcl => ?_) (fun r9 u9 t9 H1 locs ht9 hvm hw9 hB hz1 hk1 hS => ?_)
  · obtain ⟨rfl, hP1, -, hD1⟩ := hBX
    rw [ht9] at hP1
    obtain ⟨hP, hD⟩ := cb_joinL hP hD hk1 hFc hP1 hD1
    refine vx_catch (own := RL) (name := "java/util/NoSuchElementException") hown [] ⟨0, 8, 11, 13⟩ [] htab (fun z h => absurd h List.not_mem_nil) (by decide) (by decide) (hts (.classLink RL 13 "java/util/NoSuchElementException") (by decide +kernel)) (va_Nw.use rfl hX.1) hce hcv hcl ?_
    refine W.eq (g2 := F0 m 11 ls [.ref q9]) rfl ?_
    refine lv_astore_n (lv' := [(3, .ref q9), (0, .ref (ad 0)), (1, .int (a1)), (2, .ref o)]) hx hb dL_energy_11 rfl hl (by decide) rfl (fun ls hl => ?_)
    refine lv_iconst (v := 1) hx hb dL_energy_12 (by decide) ?_
    exact W.iret (v := 1) hx hb hr (fun t ht hW => ⟨⟨1, F, rfl, Or.inl ⟨hpx, rfl⟩, by rw [ht]; exact hP, va_K.moved hW.alike hK, hD⟩, hS.F ht⟩) hS.2.2 dL_energy_13
  · obtain ⟨hP1, -, hD1⟩ := hB
    rw [ht9] at hP1
    obtain ⟨hP, hD⟩ := cb_joinL hP hD hk1 hFc hP1 hD1
    obtain ⟨hno, rfl⟩ := hw9
    refine cb_last (j := 0) (n := 1) (x := cbE u a1.toNatClampNeg) (ws1 := cb_w ct ad u ++ [(o, .inl (ct 3, 1, .inr (.inl (vp_updL F 0 (cbE u a1.toNatClampNeg)))))]) hx hb hK hP hD hS 33 3 (f := F) rfl rfl (by decide) (by decide) rfl dL_energy_7 (fun H locs hP hD hS => ?_)
    refine lv_goto (tgt := 14) hx hb dL_energy_8 (by decide) ?_
    refine lv_iconst (v := 0) hx hb dL_energy_14 (by decide) ?_
    exact W.iret (v := 0) hx hb hr (fun t ht hW => ⟨⟨0, vp_updL F 0 (cbE u a1.toNatClampNeg), rfl, Or.inr ⟨hno, rfl, pk_uLs⟩, by rw [ht]; exact hP, va_K.moved hW.alike hK, hD⟩, hS.F ht⟩) hS.2.2 dL_energy_15
