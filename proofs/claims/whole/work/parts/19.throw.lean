/-! both sides at their beginning; what a throw needs of the start -/
theorem pr_st1 : ∀ i, i < 8 → cbL cb_1 i = mdL md_1 i ∧ (mdL md_1 i = 0 ∨ mdL md_1 i = 1) := by decide +kernel
theorem pr_st2 : ∀ i, i < 8 → cbG cb_1 i = mdG md_1 i ∧ 0 ≤ (mdG md_1 i).toInt ∧ (mdG md_1 i).toInt < 1025 := by decide +kernel
theorem pr_st3 : ∀ i, i < 8 → ∀ k, k < 8 → cbC cb_1 i k = mdI md_1 (8 * i + k) ∧ 0 ≤ (mdI md_1 (8 * i + k)).toInt ∧ (mdI md_1 (8 * i + k)).toInt < 256 := by decide +kernel
theorem pr_st4 : ∀ i, i < 8 → ∀ k, k < 8 → cbO cb_1 i k = mdO md_1 (8 * i + k) := by decide +kernel
theorem pr_start : pr_R cb_1 md_1 := ⟨pr_st1, fun i hi => ⟨(pr_st2 i hi).1, vp_in_iff.mpr (pr_st2 i hi).2⟩, fun _ _ => rfl, fun i hi k hk => ⟨(pr_st3 i hi k hk).1, vp_in_iff.mpr (pr_st3 i hi k hk).2⟩, pr_st4, ⟨3, by decide, rfl, rfl⟩, fun _ _ => rfl⟩
def cb_X (A : Nat → Prop) (U : State) : Prop := va_Nw (.castable "java/util/NoSuchElementException" "java/util/NoSuchElementException") U ∧ va_Nw (.declares ⟨"java/lang/RuntimeException", "<init>", "()V"⟩) U ∧ va_Nw (.declares ⟨"java/lang/Exception", "<init>", "()V"⟩) U ∧ va_Nw (.declares ⟨"java/lang/Throwable", "<init>", "()V"⟩) U ∧ vx_Zq Bundle.tN "UNASSIGNED_STACK" Bundle.steD A U U.heap ∧ vx_Zq Bundle.tN "SUPPRESSED_SENTINEL" Bundle.listD A U U.heap
theorem cb_X.at {s U : State} {A A0 : Nat → Prop} {H : Heap} {locs : List Loc} (h : cb_X A0 s) (hS : va_S A0 s.heap H locs) (hU : U.heap = H) (hW : s.WarmedH U.vm) (hn : ∀ q, A q → A0 q) : cb_X A U := by
  obtain ⟨h1, h2, h3, h4, h5, h6⟩ := h
  refine ⟨va_Nw.warmC hW h1, va_Nw.warmD hW h2, va_Nw.warmD hW h3, va_Nw.warmD hW h4, ?_, ?_⟩
  · rw [hU]; exact ((h5.kept hS.2.1).moved hW.alike).narrow hn
  · rw [hU]; exact ((h6.kept hS.2.1).moved hW.alike).narrow hn
theorem cb_X.blind {A : Nat → Prop} {U : State} {g : JFrame} {mk : MethodId} {a : Array Value} (h : cb_X A U) : cb_X A (U.calling g mk a) := by
  obtain ⟨h1, h2, h3, h4, h5, h6⟩ := h
  exact ⟨va_Nw.same rfl (u := U) rfl h1, va_Nw.same rfl (u := U) rfl h2, va_Nw.same rfl (u := U) rfl h3, va_Nw.same rfl (u := U) rfl h4, vx_Zq.moved (u := U) (U := U.calling g mk a) (Vm.Alike.refl U.vm) h5, vx_Zq.moved (u := U) (U := U.calling g mk a) (Vm.Alike.refl U.vm) h6⟩

set_option maxHeartbeats 4000000 in
set_option maxRecDepth 100000 in
theorem metX0_decode (l : Launch) (hl9 : l.stackTraces = false) (dC : Nat → ClassId) (dI : Nat → Nat → Nat) (ct : Nat → ClassId) (ad : Nat → Nat) (sz : Nat) (u : cb_U) (a1 : Int32) (a2 : Int32) : vx_Met l yX0_decode wsX0_decode ({ frames := 6, cells := 1, slots := 6, locals := 81 }) (va_Pc [.ref (ad 0), .int a1, .int a2] (fun U => U.heap.size = sz ∧ cb_B dC dI ct ad (fun _ => True) u U ∧ cb_X (va_A (cb_w ct ad u) sz) U)) (va_Qi (fun r (_ : Unit) => ¬ fnX0_isLaw a1 = 0 ∧ r = fnX0_sampleOf a1 (a2 &&& (255 : Int32))) (fun _ => cb_B dC dI ct ad (va_A (cb_w ct ad u) sz) u) (va_A (cb_w ct ad u) sz)) (vx_X (fun _ : Unit => fnX0_isLaw a1 = 0) (fun E _ t => E = "java/util/NoSuchElementException" ∧ cb_B dC dI ct ad (va_A (cb_w ct ad u) sz) u t) (va_A (cb_w ct ad u) sz)) 1 6 (va_A (cb_w ct ad u) sz) := by
  refine vx_ofW (cc := cX0_decode) (maxL := 3) (ret := (some .int)) (by decide) rfl ?_
  intro p e s m args below meth c s₁ B hml hex hv
  obtain ⟨rfl, hsz, ⟨hP, hK, hD0⟩, hX⟩ := hv
  have hx := B.exec
  have hb := B.bytes
  have hr := B.returns
  have hts := atoms_spec (ws := wsX0_decode) B.pre
  have hown : s.vm.findClass RX0 = some m.cls := findClass_of_methodNamed B.named
  have hlocks := B.notSynchronized
  subst hsz
  have hD := hD0.self (sz := s.heap.size)
  generalize hAe : va_A (cb_w ct ad u) s.heap.size = A at hD hX ⊢
  have hA : ∀ q : Nat, s.heap.size ≤ q → A q := fun q h => by rw [← hAe]; exact Or.inr h
  have hS : va_S A s.heap s.heap [] := va_S.rf
  have hl := lv_entry ([.ref (ad 0), .int a1, .int a2]) (n := 3) (Nat.le_of_ble_eq_true rfl)
  rw [lg_entry_eq]
  generalize (lg_sl ([.ref (ad 0), .int a1, .int a2]) ++ List.replicate (3 - (lg_sl ([.ref (ad 0), .int a1, .int a2])).length) Slot.unset).toArray = ls at hl ⊢
  have hl : lv_has ls 3 [(0, .ref (ad 0)), (1, .int (a1)), (2, .int (a2))] := hl
  refine lv_iload_n hx hb dX0_decode_0 rfl (lv_at hl 1 rfl) ?_
  refine vp_callSi (W.runS (As := [.int (a1)]) (rest := []) ⟨hx, hb, hml, hown, hts⟩ (metX0_isLaw l a1) (va_cwS 1 hts gX0_decode_X0_isLaw rfl rfl rfl (by decide +kernel) ⟨(Nat.le_of_ble_eq_true rfl), (Nat.le_of_ble_eq_true rfl)⟩) ⟨fun a U g mk q => q, fun U hU hW => ⟨rfl, trivial⟩⟩ rfl rfl hl.1 rfl (lv_room (Nat.le_of_ble_eq_true rfl)) dX0_decode_1 ⟨(Nat.zero_le _), (Nat.zero_le _)⟩) (fun r_1 er_1 => ?_)
  subst er_1
  refine lv_if_ne (tgt := 15) hx hb dX0_decode_4 (by decide) (fun c_2 => ?_) (fun c_2 => ?_)
  · refine lv_iload_n hx hb dX0_decode_15 rfl (lv_at hl 1 rfl) ?_
    refine lv_iload_n hx hb dX0_decode_16 rfl (lv_at hl 2 rfl) ?_
    refine lv_sipush (v := 255) hx hb dX0_decode_17 (by decide) ?_
    refine lv_iand hx hb dX0_decode_20 ?_
    refine vp_callSi (W.runS (As := [.int (a1), .int ((a2 &&& (255 : Int32)))]) (rest := []) ⟨hx, hb, hml, hown, hts⟩ (metX0_sampleOf l a1 (a2 &&& (255 : Int32))) (va_cwS 2 hts gX0_decode_X0_sampleOf rfl rfl rfl (by decide +kernel) ⟨(Nat.le_of_ble_eq_true rfl), (Nat.le_of_ble_eq_true rfl)⟩) ⟨fun a U g mk q => q, fun U hU hW => ⟨rfl, trivial⟩⟩ rfl rfl hl.1 rfl (lv_room (Nat.le_of_ble_eq_true rfl)) dX0_decode_21 ⟨(Nat.zero_le _), (Nat.zero_le _)⟩) (fun r_3 er_3 => ?_)
    subst er_3
    refine W.widen (k := 1) (n := 6) (Nat.le_of_ble_eq_true rfl) (Nat.le_of_ble_eq_true rfl) ?_
    refine vx_ret ?_
    exact W.iret (v := (fnX0_sampleOf a1 (a2 &&& (255 : Int32)))) hx hb hr (fun t ht hW => ⟨⟨(fnX0_sampleOf a1 (a2 &&& (255 : Int32))), (), rfl, ⟨c_2, rfl⟩, by rw [ht]; exact hP, va_K.moved hW.alike hK, hD⟩, hS.F ht⟩) hS.2.2 dX0_decode_24
  · refine vx_throw0 (own := RX0) (cls := "java/util/NoSuchElementException") (names := ["java/lang/RuntimeException", "java/lang/Exception"]) (A := A) hx hb hl9 hown (by decide +kernel) (by decide +kernel) (hts (.classLink RX0 50 "java/util/NoSuchElementException") (by decide +kernel)) (hts (.initialized "java/util/NoSuchElementException") (by decide +kernel)) (vx_hat (L := vx_at0 RX0 52 "java/util/NoSuchElementException" ["java/lang/RuntimeException", "java/lang/Exception"]) (B := [.castable "java/util/NoSuchElementException" "java/util/NoSuchElementException", .declares ⟨"java/lang/RuntimeException", "<init>", "()V"⟩, .declares ⟨"java/lang/Exception", "<init>", "()V"⟩, .declares ⟨"java/lang/Throwable", "<init>", "()V"⟩]) (fun w hw => hts w ((by decide +kernel : ∀ w ∈ (vx_at0 RX0 52 "java/util/NoSuchElementException" ["java/lang/RuntimeException", "java/lang/Exception"]).filter goodWord, w ∈ wsX0_decode) w hw)) (by decide +kernel) (vx_c (va_Nw.use rfl hX.1) (vx_c (va_Nw.use rfl hX.2.1) (vx_c (va_Nw.use rfl hX.2.2.1) (vx_c (va_Nw.use rfl hX.2.2.2.1) vx_n))))) (by decide +kernel) hX.2.2.2.2.1 hX.2.2.2.2.2 hS (hl.1.trans hml.symm) dX0_decode_7 dX0_decode_10 dX0_decode_11 dX0_decode_14 (fun x hx9 => (hex x hx9).elim) (Nat.le_of_ble_eq_true rfl) (Nat.le_of_ble_eq_true rfl) (Nat.le_of_ble_eq_true rfl) (Nat.le_of_ble_eq_true rfl) hlocks (fun t ha hz hq => ?_) hS.2.2 (Nat.le_of_ble_eq_true rfl) (Nat.le_of_ble_eq_true rfl)
    exact ⟨(), c_2, ⟨rfl, hP.kept (fun k x hx => hq x.1 (hP k x hx).lt), va_K.moved ha hK, hD⟩, Nat.le_trans hS.1 hz, fun q h1 h2 => (hq q (Nat.lt_of_lt_of_le h1 hS.1)).trans (hS.2.1 q h1 h2)⟩

set_option maxHeartbeats 4000000 in
set_option maxRecDepth 100000 in
theorem metX0_energy (l : Launch) (hl9 : l.stackTraces = false) (dC : Nat → ClassId) (dI : Nat → Nat → Nat) (ct : Nat → ClassId) (ad : Nat → Nat) (sz : Nat) (u : cb_U) (a1 : Int32) : vx_Met l yX0_energy wsX0_energy ({ frames := 6, cells := 1, slots := 6, locals := 81 }) (va_Pc [.ref (ad 0), .int a1] (fun U => U.heap.size = sz ∧ cb_B dC dI ct ad (fun _ => True) u U ∧ cb_X (va_A (cb_w ct ad u) sz) U)) (va_Ql (fun r (_ : Unit) => ¬ fnX0_isParty a1 = 0 ∧ r = cbE u a1.toNatClampNeg) (fun _ => cb_B dC dI ct ad (va_A (cb_w ct ad u) sz) u) (va_A (cb_w ct ad u) sz)) (vx_X (fun _ : Unit => fnX0_isParty a1 = 0) (fun E _ t => E = "java/util/NoSuchElementException" ∧ cb_B dC dI ct ad (va_A (cb_w ct ad u) sz) u t) (va_A (cb_w ct ad u) sz)) 1 6 (va_A (cb_w ct ad u) sz) := by
  refine vx_ofW (cc := cX0_energy) (maxL := 2) (ret := (some .long)) (by decide) rfl ?_
  intro p e s m args below meth c s₁ B hml hex hv
  obtain ⟨rfl, hsz, ⟨hP, hK, hD0⟩, hX⟩ := hv
  have hx := B.exec
  have hb := B.bytes
  have hr := B.returns
  have hts := atoms_spec (ws := wsX0_energy) B.pre
  have hown : s.vm.findClass RX0 = some m.cls := findClass_of_methodNamed B.named
  have hlocks := B.notSynchronized
  have hin0 : ∀ w ∈ u_ws RX0 TX0 9, w ∈ wsX0_energy := by decide +kernel
  subst hsz
  have hD := hD0.self (sz := s.heap.size)
  generalize hAe : va_A (cb_w ct ad u) s.heap.size = A at hD hX ⊢
  have hA : ∀ q : Nat, s.heap.size ≤ q → A q := fun q h => by rw [← hAe]; exact Or.inr h
  have hS : va_S A s.heap s.heap [] := va_S.rf
  have hl := lv_entry ([.ref (ad 0), .int a1]) (n := 2) (Nat.le_of_ble_eq_true rfl)
  rw [lg_entry_eq]
  generalize (lg_sl ([.ref (ad 0), .int a1]) ++ List.replicate (2 - (lg_sl ([.ref (ad 0), .int a1])).length) Slot.unset).toArray = ls at hl ⊢
  have hl : lv_has ls 2 [(0, .ref (ad 0)), (1, .int (a1))] := hl
  refine lv_iload_n hx hb dX0_energy_0 rfl (lv_at hl 1 rfl) ?_
  refine vp_callSi (W.runS (As := [.int (a1)]) (rest := []) ⟨hx, hb, hml, hown, hts⟩ (metX0_isParty l a1) (va_cwS 1 hts gX0_energy_X0_isParty rfl rfl rfl (by decide +kernel) ⟨(Nat.le_of_ble_eq_true rfl), (Nat.le_of_ble_eq_true rfl)⟩) ⟨fun a U g mk q => q, fun U hU hW => ⟨rfl, trivial⟩⟩ rfl rfl hl.1 rfl (lv_room (Nat.le_of_ble_eq_true rfl)) dX0_energy_1 ⟨(Nat.zero_le _), (Nat.zero_le _)⟩) (fun r_1 er_1 => ?_)
  subst er_1
  refine lv_if_ne (tgt := 15) hx hb dX0_energy_4 (by decide) (fun c_2 => ?_) (fun c_2 => ?_)
  · refine lv_aload_n hx hb dX0_energy_15 rfl (lv_at hl 0 rfl) ?_
    refine cb_get hx hb hts hin0 hown hK hP 7 (by decide) (hts (.fieldLink RX0 35 "ConferenceBridge" "energies" "[J") (by decide +kernel)) (z := .ref (ad 7)) rfl dX0_energy_16 ?_
    refine lv_iload_n hx hb dX0_energy_19 rfl (lv_at hl 1 rfl) ?_
    refine va_lald hx hb hK hP 7 3 (f := cbE u) rfl rfl (cb_party c_2) dX0_energy_20 ?_
    refine W.widen (k := 1) (n := 6) (Nat.le_of_ble_eq_true rfl) (Nat.le_of_ble_eq_true rfl) ?_
    refine vx_ret ?_
    exact W.lret (v := (cbE u a1.toNatClampNeg)) hx hb hr (fun t ht hW => ⟨⟨(cbE u a1.toNatClampNeg), (), rfl, ⟨c_2, rfl⟩, by rw [ht]; exact hP, va_K.moved hW.alike hK, hD⟩, hS.F ht⟩) hS.2.2 dX0_energy_21
  · refine vx_throw0 (own := RX0) (cls := "java/util/NoSuchElementException") (names := ["java/lang/RuntimeException", "java/lang/Exception"]) (A := A) hx hb hl9 hown (by decide +kernel) (by decide +kernel) (hts (.classLink RX0 50 "java/util/NoSuchElementException") (by decide +kernel)) (hts (.initialized "java/util/NoSuchElementException") (by decide +kernel)) (vx_hat (L := vx_at0 RX0 52 "java/util/NoSuchElementException" ["java/lang/RuntimeException", "java/lang/Exception"]) (B := [.castable "java/util/NoSuchElementException" "java/util/NoSuchElementException", .declares ⟨"java/lang/RuntimeException", "<init>", "()V"⟩, .declares ⟨"java/lang/Exception", "<init>", "()V"⟩, .declares ⟨"java/lang/Throwable", "<init>", "()V"⟩]) (fun w hw => hts w ((by decide +kernel : ∀ w ∈ (vx_at0 RX0 52 "java/util/NoSuchElementException" ["java/lang/RuntimeException", "java/lang/Exception"]).filter goodWord, w ∈ wsX0_energy) w hw)) (by decide +kernel) (vx_c (va_Nw.use rfl hX.1) (vx_c (va_Nw.use rfl hX.2.1) (vx_c (va_Nw.use rfl hX.2.2.1) (vx_c (va_Nw.use rfl hX.2.2.2.1) vx_n))))) (by decide +kernel) hX.2.2.2.2.1 hX.2.2.2.2.2 hS (hl.1.trans hml.symm) dX0_energy_7 dX0_energy_10 dX0_energy_11 dX0_energy_14 (fun x hx9 => (hex x hx9).elim) (Nat.le_of_ble_eq_true rfl) (Nat.le_of_ble_eq_true rfl) (Nat.le_of_ble_eq_true rfl) (Nat.le_of_ble_eq_true rfl) hlocks (fun t ha hz hq => ?_) hS.2.2 (Nat.le_of_ble_eq_true rfl) (Nat.le_of_ble_eq_true rfl)
    exact ⟨(), c_2, ⟨rfl, hP.kept (fun k x hx => hq x.1 (hP k x hx).lt), va_K.moved ha hK, hD⟩, Nat.le_trans hS.1 hz, fun q h1 h2 => (hq q (Nat.lt_of_lt_of_le h1 hS.1)).trans (hS.2.1 q h1 h2)⟩
