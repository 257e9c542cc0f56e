/-! the law: the calls that may throw -/
theorem pr_dT {v : md_U} {a b : Int32} (h : fnX0_isLaw a = 0) : anX1_thrown (stX1_decode v a b) = 1 ∧ stX1_decode v a b = md_sT v 1 := by
  have h' := (pr_law a).mp h
  unfold stX1_decode
  rw [if_neg h']
  exact ⟨rfl, rfl⟩
theorem pr_dN {v : md_U} {a b : Int32} (h : ¬ fnX0_isLaw a = 0) : anX1_thrown (stX1_decode v a b) = 0 ∧ stX1_decode v a b = md_sT v 0 ∧ anX1_decode v a b = fnX0_sampleOf a (b &&& (255 : Int32)) := by
  have h' : fnX1_not a (2 : Int32) = 0 := by
    rcases Decidable.em (fnX1_not a (2 : Int32) = 0) with q | q
    · exact q
    · exact absurd ((pr_law a).mpr q) h
  unfold stX1_decode anX1_decode
  rw [if_pos h', if_pos h']
  exact ⟨rfl, rfl, (pr_mean (md_law01 h') (md_255 b)).1.symm⟩
theorem pr_eT {v : md_U} {a : Int32} (h : fnX0_isParty a = 0) : anX1_thrown (stX1_energy v a) = 1 ∧ stX1_energy v a = md_sT v 1 := by
  have h' := (pr_party a).mp h
  unfold stX1_energy
  rw [if_neg h']
  exact ⟨rfl, rfl⟩
theorem pr_eN {u : cb_U} {v : md_U} (R : pr_R u v) {a : Int32} (h : ¬ fnX0_isParty a = 0) : anX1_thrown (stX1_energy v a) = 0 ∧ stX1_energy v a = md_sT v 0 ∧ anX1_energy v a = cbE u a.toNatClampNeg := by
  have h' : fnX1_not a (8 : Int32) = 0 := by
    rcases Decidable.em (fnX1_not a (8 : Int32) = 0) with q | q
    · exact q
    · exact absurd ((pr_party a).mpr q) h
  unfold stX1_energy anX1_energy
  rw [if_pos h', if_pos h']
  exact ⟨rfl, rfl, (R.2.2.2.2.2.2 _ (cb_vin (md_not (n := 8) h' (by decide)))).symm⟩

set_option maxHeartbeats 4000000 in
set_option maxRecDepth 100000 in
theorem law_c0 {p : Program} {l : Launch} {e : Env} {s : State} {m : MethodId} {below : List Frame} {meth : Method} {c : Code} {dC : Nat → ClassId} {dI : Nat → Nat → Nat} {ct : Nat → ClassId} {ad bd : Nat → Nat} {o b L : Nat} {xs : Nat → Int32} (hL : L ≤ 2048) (C0 : lw_At p s m meth c b L xs) (hl9 : l.stackTraces = false) (hK : va_K (dC, dI) vwCl (cb_ty ct) s) (hX : cb_X (law_A s) s) (t : Nat) (ht : 4 * t + 4 ≤ L) (next : law_I p l e s m below meth c dC dI ct ad bd o b 23 (t + 1) (42 + (t + 1)) (499 + 6 * (t + 1))) : law_I p l e s m below meth c dC dI ct ad bd o b 96 t (42 + t) (499 + 6 * t) := by
  intro u v F H locs ls R hP hD hS hl
  obtain ⟨hx, hb, hr, hml, hown0, hts0, hXs, hbl, hlocks, hgv⟩ := id C0
  have hown : s.vm.findClass RL = some m.cls := hown0
  have hts : ∀ w ∈ wsL_law, w.before #[Value.ref b] s = true := fun w h => hts0 w (wsL_law_in w h)
  have hA : ∀ q : Nat, s.heap.size ≤ q → law_A s q := fun _ h => h
  have hbA : ¬ law_A s b := Nat.not_le.mpr hbl
  refine lv_aload_n hx hb dL_law_96 rfl (lv_at hl 1 rfl) ?_
  refine lv_aload_n hx hb dL_law_97 rfl (lv_at hl 0 rfl) ?_
  refine lv_iload hx hb dL_law_98 (lv_at hl 4 rfl) ?_
  refine lv_iconst (v := 1) hx hb dL_law_100 (by decide) ?_
  refine lv_iadd hx hb dL_law_101 ?_
  refine lv_topi (fun x_1 ex_1 => ?_)
  obtain rfl : x_1 = nI (4 * t + 1) := ex_1.trans (nI_add (4 * t) 1)
  refine cb_sld hx hb hXs hbl hbA hS (j := 4 * t + 1) (by omega) (by omega) dL_law_102 ?_
  refine lv_aload_n hx hb dL_law_103 rfl (lv_at hl 0 rfl) ?_
  refine lv_iload hx hb dL_law_104 (lv_at hl 4 rfl) ?_
  refine lv_iconst (v := 2) hx hb dL_law_106 (by decide) ?_
  refine lv_iadd hx hb dL_law_107 ?_
  refine lv_topi (fun x_2 ex_2 => ?_)
  obtain rfl : x_2 = nI (4 * t + 2) := ex_2.trans (nI_add (4 * t) 2)
  refine cb_sld hx hb hXs hbl hbA hS (j := 4 * t + 2) (by omega) (by omega) dL_law_108 ?_
  refine lv_aload_n hx hb dL_law_109 rfl (lv_at hl 3 rfl) ?_
  have hP := cb_end hP
  have hD := cb_endD hD
  have hPc := cb_P1 hP
  have hDc := cb_D1 hD
  have hFc := cb_freeL hD hS hA
  refine va_calli (vx_runSW (As := [.ref (ad 0), .int ((xs (4 * t + 1))), .int ((xs (4 * t + 2))), .ref o]) (rest := []) ⟨hx, hb, hml, hown, hts⟩ (metL_decode l hl9 dC dI ct ad o H.size u F (xs (4 * t + 1)) (xs (4 * t + 2))) (vx_cwSW 4 hts gL_law_L_decode rfl rfl rfl (by decide +kernel) ⟨(Nat.le_of_ble_eq_true rfl), (Nat.le_of_ble_eq_true rfl)⟩) ⟨fun a U g mk q => by obtain ⟨q0, q1, qP, qK, qD, qX⟩ := q; exact ⟨q0, q1, qP, va_K.moved (u := U) (U := U.calling g mk a) (Vm.Alike.refl U.vm) qK, qD, qX.blind⟩, fun U hU hW => ⟨rfl, by rw [hU], by rw [hU]; exact hPc, va_K.moved hW.alike hK, hDc.weaken (fun _ _ _ _ => trivial), hX.at hS hU hW hFc⟩⟩ rfl rfl hl.1 rfl (lv_room (Nat.le_of_ble_eq_true rfl)) dL_law_110 ⟨by show 42 + t + 1 ≤ 654044; omega, by show 499 + 6 * t + 6 ≤ 7133972; omega⟩) hS (fun q _ h => hFc q h) hFc (fun r_3 F1 t9 H1 locs ht9 hvm hw9 hB hz1 hk1 hS => ?_)
  obtain ⟨hP1, -, hD1⟩ := hB
  rw [ht9] at hP1
  obtain ⟨hP, hD⟩ := cb_joinL hP hD hk1 hFc hP1 hD1
  have hP := cb_ret hP
  have hD := cb_retD hD
  generalize H1 = H at hP hS ⊢
  have hP : va_P (dC, dI) vwCl (law_w ct ad bd o u v F1) H := hP
  have hD : va_D (law_A s) (law_w ct ad bd o u v F1) := hD
  rcases hw9 with ⟨hc, rfl⟩ | ⟨hc, rfl, hF⟩
  · refine lv_istore (lv' := [(5, .int (1)), (0, .ref b), (1, .ref (ad 0)), (2, .ref (bd 0)), (3, .ref o), (4, .int (nI (4 * t)))]) hx hb dL_law_113 hl (by decide) rfl (fun ls hl => ?_)
    refine lv_aload_n hx hb dL_law_115 rfl (lv_at hl 3 rfl) ?_
    refine lv_aload_n hx hb dL_law_116 rfl (lv_at hl 1 rfl) ?_
    refine lv_iload hx hb dL_law_117 (lv_at hl 5 rfl) ?_
    refine lv_iconst (v := 1) hx hb dL_law_119 (by decide) ?_
    refine lv_iadd hx hb dL_law_120 ?_
    refine lv_topi (fun x_4 ex_4 => ?_)
    obtain rfl : x_4 = nI (4 * t + 1) := ex_4.trans (nI_add (4 * t) 1)
    refine cb_sld hx hb hXs hbl hbA hS (j := 4 * t + 1) (by omega) (by omega) dL_law_121 ?_
    refine lv_aload_n hx hb dL_law_122 rfl (lv_at hl 1 rfl) ?_
    refine lv_iload hx hb dL_law_123 (lv_at hl 5 rfl) ?_
    refine lv_iconst (v := 2) hx hb dL_law_125 (by decide) ?_
    refine lv_iadd hx hb dL_law_126 ?_
    refine lv_topi (fun x_5 ex_5 => ?_)
    obtain rfl : x_5 = nI (4 * t + 2) := ex_5.trans (nI_add (4 * t) 2)
    refine cb_sld hx hb hXs hbl hbA hS (j := 4 * t + 2) (by omega) (by omega) dL_law_127 ?_
    have hP := cb_mid hP
    have hD := cb_midD hD
    have hPc := cb_P1 hP
    have hDc := cb_D1 hD
    have hFc := cb_freeL hD hS hA
    refine va_calli (va_runV (As := [.int ((xs (4 * t + 1))), .int ((xs (4 * t + 2)))]) (rest := []) ⟨hx, hb, hml, hown, hts⟩ (metX1_decode l dC dI ct bd H.size v (xs (4 * t + 1)) (xs (4 * t + 2))) (cwV 2 hts gL_law_X1_decode rfl rfl rfl (by decide +kernel) ⟨(Nat.le_of_ble_eq_true rfl), (Nat.le_of_ble_eq_true rfl)⟩) ⟨fun a U g mk q => by obtain ⟨q0, q1, qP, qK, qD⟩ := q; exact ⟨q0, q1, qP, va_K.moved (u := U) (U := U.calling g mk a) (Vm.Alike.refl U.vm) qK, qD⟩, va_recv hK hPc (ci := 1) (q0 := 0) rfl rfl, fun U hU hW => ⟨rfl, by rw [hU], by rw [hU]; exact hPc, va_K.moved hW.alike hK, hDc.weaken (fun _ _ _ _ => trivial)⟩⟩ rfl rfl hl.1 rfl (lv_room (Nat.le_of_ble_eq_true rfl)) dL_law_128 ⟨by show 42 + t + 1 + 0 ≤ 654044; omega, by show 499 + 6 * t + 6 + 0 ≤ 7133972; omega⟩) hS (fun q _ h => hFc q h) hFc (fun r_6 u9 t9 H1 locs ht9 hvm hw9 hB hz1 hk1 hS => ?_)
    obtain ⟨hP1, -, hD1⟩ := hB
    rw [ht9] at hP1
    subst hw9
    obtain ⟨hP, hD⟩ := cb_joinL hP hD hk1 hFc hP1 hD1
    have hP := cb_mid hP
    have hD := cb_midD hD
    generalize H1 = H at hP hS ⊢
    have hP : va_P (dC, dI) vwCl (law_w ct ad bd o u (stX1_decode v (xs (4 * t + 1)) (xs (4 * t + 2))) F1) H := hP
    have hD : va_D (law_A s) (law_w ct ad bd o u (stX1_decode v (xs (4 * t + 1)) (xs (4 * t + 2))) F1) := hD
    refine lv_istore (lv' := [(6, .int ((anX1_decode v (xs (4 * t + 1)) (xs (4 * t + 2))))), (5, .int (1)), (0, .ref b), (1, .ref (ad 0)), (2, .ref (bd 0)), (3, .ref o), (4, .int (nI (4 * t)))]) hx hb dL_law_131 hl (by decide) rfl (fun ls hl => ?_)
    refine lv_aload_n hx hb dL_law_133 rfl (lv_at hl 4 rfl) ?_
    have hP := cb_mid hP
    have hD := cb_midD hD
    have hPc := cb_P1 hP
    have hDc := cb_D1 hD
    have hFc := cb_freeL hD hS hA
    refine va_calli (va_runV (As := []) (rest := []) ⟨hx, hb, hml, hown, hts⟩ (metX1_thrown l dC dI ct bd H.size (stX1_decode v (xs (4 * t + 1)) (xs (4 * t + 2))) ) (cwV 0 hts gL_law_X1_thrown rfl rfl rfl (by decide +kernel) ⟨(Nat.le_of_ble_eq_true rfl), (Nat.le_of_ble_eq_true rfl)⟩) ⟨fun a U g mk q => by obtain ⟨q0, q1, qP, qK, qD⟩ := q; exact ⟨q0, q1, qP, va_K.moved (u := U) (U := U.calling g mk a) (Vm.Alike.refl U.vm) qK, qD⟩, va_recv hK hPc (ci := 1) (q0 := 0) rfl rfl, fun U hU hW => ⟨rfl, by rw [hU], by rw [hU]; exact hPc, va_K.moved hW.alike hK, hDc.weaken (fun _ _ _ _ => trivial)⟩⟩ rfl rfl hl.1 rfl (lv_room (Nat.le_of_ble_eq_true rfl)) dL_law_134 ⟨by show 42 + t + 1 + 0 ≤ 654044; omega, by show 499 + 6 * t + 6 + 0 ≤ 7133972; omega⟩) hS (fun q _ h => hFc q h) hFc (fun r_7 u9 t9 H1 locs ht9 hvm hw9 hB hz1 hk1 hS => ?_)
    obtain ⟨hP1, -, hD1⟩ := hB
    rw [ht9] at hP1
    subst hw9
    obtain ⟨hP, hD⟩ := cb_joinL hP hD hk1 hFc hP1 hD1
    have hP := cb_mid hP
    have hD := cb_midD hD
    generalize H1 = H at hP hS ⊢
    have hP : va_P (dC, dI) vwCl (law_w ct ad bd o u (stX1_thrown (stX1_decode v (xs (4 * t + 1)) (xs (4 * t + 2)))) F1) H := hP
    have hD : va_D (law_A s) (law_w ct ad bd o u (stX1_thrown (stX1_decode v (xs (4 * t + 1)) (xs (4 * t + 2)))) F1) := hD
    refine lv_iload hx hb dL_law_137 (lv_at hl 1 rfl) ?_
    refine lv_icmp_eq (tgt := 144) hx hb dL_law_139 (by decide) (fun c_8 => ?_) (fun c_8 => ?_)
    · refine lv_iload hx hb dL_law_144 (lv_at hl 1 rfl) ?_
      refine lv_if_ne (tgt := 161) hx hb dL_law_146 (by decide) (fun _ => ?_) (fun c9 => absurd c9 (by decide))
      refine lv_goto (tgt := 556) hx hb dL_law_161 (by decide) ?_
      exact law_next C0 t next _ _ _ H locs ls (by rw [(pr_dT hc).2]; exact R) hP hD hS (lv_sub hl [2, 3, 4, 5, 6] rfl)
    · refine lv_iconst (v := 0) hx hb dL_law_142 (by decide) ?_
      exact absurd (pr_dT hc).1 c_8
  · refine lv_istore (lv' := [(5, .int (0)), (0, .ref b), (1, .ref (ad 0)), (2, .ref (bd 0)), (3, .ref o), (4, .int (nI (4 * t)))]) hx hb dL_law_113 hl (by decide) rfl (fun ls hl => ?_)
    refine lv_aload_n hx hb dL_law_115 rfl (lv_at hl 3 rfl) ?_
    refine lv_aload_n hx hb dL_law_116 rfl (lv_at hl 1 rfl) ?_
    refine lv_iload hx hb dL_law_117 (lv_at hl 5 rfl) ?_
    refine lv_iconst (v := 1) hx hb dL_law_119 (by decide) ?_
    refine lv_iadd hx hb dL_law_120 ?_
    refine lv_topi (fun x_10 ex_10 => ?_)
    obtain rfl : x_10 = nI (4 * t + 1) := ex_10.trans (nI_add (4 * t) 1)
    refine cb_sld hx hb hXs hbl hbA hS (j := 4 * t + 1) (by omega) (by omega) dL_law_121 ?_
    refine lv_aload_n hx hb dL_law_122 rfl (lv_at hl 1 rfl) ?_
    refine lv_iload hx hb dL_law_123 (lv_at hl 5 rfl) ?_
    refine lv_iconst (v := 2) hx hb dL_law_125 (by decide) ?_
    refine lv_iadd hx hb dL_law_126 ?_
    refine lv_topi (fun x_11 ex_11 => ?_)
    obtain rfl : x_11 = nI (4 * t + 2) := ex_11.trans (nI_add (4 * t) 2)
    refine cb_sld hx hb hXs hbl hbA hS (j := 4 * t + 2) (by omega) (by omega) dL_law_127 ?_
    have hP := cb_mid hP
    have hD := cb_midD hD
    have hPc := cb_P1 hP
    have hDc := cb_D1 hD
    have hFc := cb_freeL hD hS hA
    refine va_calli (va_runV (As := [.int ((xs (4 * t + 1))), .int ((xs (4 * t + 2)))]) (rest := []) ⟨hx, hb, hml, hown, hts⟩ (metX1_decode l dC dI ct bd H.size v (xs (4 * t + 1)) (xs (4 * t + 2))) (cwV 2 hts gL_law_X1_decode rfl rfl rfl (by decide +kernel) ⟨(Nat.le_of_ble_eq_true rfl), (Nat.le_of_ble_eq_true rfl)⟩) ⟨fun a U g mk q => by obtain ⟨q0, q1, qP, qK, qD⟩ := q; exact ⟨q0, q1, qP, va_K.moved (u := U) (U := U.calling g mk a) (Vm.Alike.refl U.vm) qK, qD⟩, va_recv hK hPc (ci := 1) (q0 := 0) rfl rfl, fun U hU hW => ⟨rfl, by rw [hU], by rw [hU]; exact hPc, va_K.moved hW.alike hK, hDc.weaken (fun _ _ _ _ => trivial)⟩⟩ rfl rfl hl.1 rfl (lv_room (Nat.le_of_ble_eq_true rfl)) dL_law_128 ⟨by show 42 + t + 1 + 0 ≤ 654044; omega, by show 499 + 6 * t + 6 + 0 ≤ 7133972; omega⟩) hS (fun q _ h => hFc q h) hFc (fun r_12 u9 t9 H1 locs ht9 hvm hw9 hB hz1 hk1 hS => ?_)
    obtain ⟨hP1, -, hD1⟩ := hB
    rw [ht9] at hP1
    subst hw9
    obtain ⟨hP, hD⟩ := cb_joinL hP hD hk1 hFc hP1 hD1
    have hP := cb_mid hP
    have hD := cb_midD hD
    generalize H1 = H at hP hS ⊢
    have hP : va_P (dC, dI) vwCl (law_w ct ad bd o u (stX1_decode v (xs (4 * t + 1)) (xs (4 * t + 2))) F1) H := hP
    have hD : va_D (law_A s) (law_w ct ad bd o u (stX1_decode v (xs (4 * t + 1)) (xs (4 * t + 2))) F1) := hD
    refine lv_istore (lv' := [(6, .int ((anX1_decode v (xs (4 * t + 1)) (xs (4 * t + 2))))), (5, .int (0)), (0, .ref b), (1, .ref (ad 0)), (2, .ref (bd 0)), (3, .ref o), (4, .int (nI (4 * t)))]) hx hb dL_law_131 hl (by decide) rfl (fun ls hl => ?_)
    refine lv_aload_n hx hb dL_law_133 rfl (lv_at hl 4 rfl) ?_
    have hP := cb_mid hP
    have hD := cb_midD hD
    have hPc := cb_P1 hP
    have hDc := cb_D1 hD
    have hFc := cb_freeL hD hS hA
    refine va_calli (va_runV (As := []) (rest := []) ⟨hx, hb, hml, hown, hts⟩ (metX1_thrown l dC dI ct bd H.size (stX1_decode v (xs (4 * t + 1)) (xs (4 * t + 2))) ) (cwV 0 hts gL_law_X1_thrown rfl rfl rfl (by decide +kernel) ⟨(Nat.le_of_ble_eq_true rfl), (Nat.le_of_ble_eq_true rfl)⟩) ⟨fun a U g mk q => by obtain ⟨q0, q1, qP, qK, qD⟩ := q; exact ⟨q0, q1, qP, va_K.moved (u := U) (U := U.calling g mk a) (Vm.Alike.refl U.vm) qK, qD⟩, va_recv hK hPc (ci := 1) (q0 := 0) rfl rfl, fun U hU hW => ⟨rfl, by rw [hU], by rw [hU]; exact hPc, va_K.moved hW.alike hK, hDc.weaken (fun _ _ _ _ => trivial)⟩⟩ rfl rfl hl.1 rfl (lv_room (Nat.le_of_ble_eq_true rfl)) dL_law_134 ⟨by show 42 + t + 1 + 0 ≤ 654044; omega, by show 499 + 6 * t + 6 + 0 ≤ 7133972; omega⟩) hS (fun q _ h => hFc q h) hFc (fun r_13 u9 t9 H1 locs ht9 hvm hw9 hB hz1 hk1 hS => ?_)
    obtain ⟨hP1, -, hD1⟩ := hB
    rw [ht9] at hP1
    subst hw9
    obtain ⟨hP, hD⟩ := cb_joinL hP hD hk1 hFc hP1 hD1
    have hP := cb_mid hP
    have hD := cb_midD hD
    generalize H1 = H at hP hS ⊢
    have hP : va_P (dC, dI) vwCl (law_w ct ad bd o u (stX1_thrown (stX1_decode v (xs (4 * t + 1)) (xs (4 * t + 2)))) F1) H := hP
    have hD : va_D (law_A s) (law_w ct ad bd o u (stX1_thrown (stX1_decode v (xs (4 * t + 1)) (xs (4 * t + 2)))) F1) := hD
    refine lv_iload hx hb dL_law_137 (lv_at hl 1 rfl) ?_
    refine lv_icmp_eq (tgt := 144) hx hb dL_law_139 (by decide) (fun c_14 => ?_) (fun c_14 => ?_)
    · refine lv_iload hx hb dL_law_144 (lv_at hl 1 rfl) ?_
      refine lv_if_ne (tgt := 161) hx hb dL_law_146 (by decide) (fun c9 => absurd (by decide) c9) (fun _ => ?_)
      refine lv_aload_n hx hb dL_law_149 rfl (lv_at hl 5 rfl) ?_
      refine lv_iconst (v := 0) hx hb dL_law_150 (by decide) ?_
      refine cb_lald (j := 0) (n := 1) hx hb hK hP 41 3 (f := F1) rfl rfl (by decide) (by decide) dL_law_151 ?_
      refine lv_iload hx hb dL_law_152 (lv_at hl 0 rfl) ?_
      refine lv_i2l (v := (anX1_decode v (xs (4 * t + 1)) (xs (4 * t + 2))).toInt64) hx hb dL_law_154 rfl ?_
      refine W.lcmp hx hb dL_law_155 ?_
      refine lv_if_eq (tgt := 161) hx hb dL_law_156 (by decide) (fun c_16 => ?_) (fun c_16 => ?_)
      · refine lv_goto (tgt := 556) hx hb dL_law_161 (by decide) ?_
        exact law_next C0 t next _ _ _ H locs ls (by rw [(pr_dN hc).2.1]; exact R) hP hD hS (lv_sub hl [2, 3, 4, 5, 6] rfl)
      · refine lv_iconst (v := 0) hx hb dL_law_159 (by decide) ?_
        exact absurd ((lg_cmp_eq _ _).mpr (hF.trans (by rw [(pr_dN hc).2.2]))) c_16
    · refine lv_iconst (v := 0) hx hb dL_law_142 (by decide) ?_
      exact absurd (pr_dN hc).1 c_14

set_option maxHeartbeats 4000000 in
set_option maxRecDepth 100000 in
theorem law_c10 {p : Program} {l : Launch} {e : Env} {s : State} {m : MethodId} {below : List Frame} {meth : Method} {c : Code} {dC : Nat → ClassId} {dI : Nat → Nat → Nat} {ct : Nat → ClassId} {ad bd : Nat → Nat} {o b L : Nat} {xs : Nat → Int32} (hL : L ≤ 2048) (C0 : lw_At p s m meth c b L xs) (hl9 : l.stackTraces = false) (hK : va_K (dC, dI) vwCl (cb_ty ct) s) (hX : cb_X (law_A s) s) (t : Nat) (ht : 4 * t + 4 ≤ L) (next : law_I p l e s m below meth c dC dI ct ad bd o b 23 (t + 1) (42 + (t + 1)) (499 + 6 * (t + 1))) : law_I p l e s m below meth c dC dI ct ad bd o b 501 t (42 + t) (499 + 6 * t) := by
  intro u v F H locs ls R hP hD hS hl
  obtain ⟨hx, hb, hr, hml, hown0, hts0, hXs, hbl, hlocks, hgv⟩ := id C0
  have hown : s.vm.findClass RL = some m.cls := hown0
  have hts : ∀ w ∈ wsL_law, w.before #[Value.ref b] s = true := fun w h => hts0 w (wsL_law_in w h)
  have hA : ∀ q : Nat, s.heap.size ≤ q → law_A s q := fun _ h => h
  have hbA : ¬ law_A s b := Nat.not_le.mpr hbl
  refine lv_aload_n hx hb dL_law_501 rfl (lv_at hl 1 rfl) ?_
  refine lv_aload_n hx hb dL_law_502 rfl (lv_at hl 0 rfl) ?_
  refine lv_iload hx hb dL_law_503 (lv_at hl 4 rfl) ?_
  refine lv_iconst (v := 1) hx hb dL_law_505 (by decide) ?_
  refine lv_iadd hx hb dL_law_506 ?_
  refine lv_topi (fun x_1 ex_1 => ?_)
  obtain rfl : x_1 = nI (4 * t + 1) := ex_1.trans (nI_add (4 * t) 1)
  refine cb_sld hx hb hXs hbl hbA hS (j := 4 * t + 1) (by omega) (by omega) dL_law_507 ?_
  refine lv_aload_n hx hb dL_law_508 rfl (lv_at hl 3 rfl) ?_
  have hP := cb_end hP
  have hD := cb_endD hD
  have hPc := cb_P1 hP
  have hDc := cb_D1 hD
  have hFc := cb_freeL hD hS hA
  refine va_calli (vx_runSW (As := [.ref (ad 0), .int ((xs (4 * t + 1))), .ref o]) (rest := []) ⟨hx, hb, hml, hown, hts⟩ (metL_energy l hl9 dC dI ct ad o H.size u F (xs (4 * t + 1))) (vx_cwSW 3 hts gL_law_L_energy rfl rfl rfl (by decide +kernel) ⟨(Nat.le_of_ble_eq_true rfl), (Nat.le_of_ble_eq_true rfl)⟩) ⟨fun a U g mk q => by obtain ⟨q0, q1, qP, qK, qD, qX⟩ := q; exact ⟨q0, q1, qP, va_K.moved (u := U) (U := U.calling g mk a) (Vm.Alike.refl U.vm) qK, qD, qX.blind⟩, fun U hU hW => ⟨rfl, by rw [hU], by rw [hU]; exact hPc, va_K.moved hW.alike hK, hDc.weaken (fun _ _ _ _ => trivial), hX.at hS hU hW hFc⟩⟩ rfl rfl hl.1 rfl (lv_room (Nat.le_of_ble_eq_true rfl)) dL_law_509 ⟨by show 42 + t + 1 ≤ 654044; omega, by show 499 + 6 * t + 6 ≤ 7133972; omega⟩) hS (fun q _ h => hFc q h) hFc (fun r_2 F1 t9 H1 locs ht9 hvm hw9 hB hz1 hk1 hS => ?_)
  obtain ⟨hP1, -, hD1⟩ := hB
  rw [ht9] at hP1
  obtain ⟨hP, hD⟩ := cb_joinL hP hD hk1 hFc hP1 hD1
  have hP := cb_ret hP
  have hD := cb_retD hD
  generalize H1 = H at hP hS ⊢
  have hP : va_P (dC, dI) vwCl (law_w ct ad bd o u v F1) H := hP
  have hD : va_D (law_A s) (law_w ct ad bd o u v F1) := hD
  rcases hw9 with ⟨hc, rfl⟩ | ⟨hc, rfl, hF⟩
  · refine lv_istore (lv' := [(5, .int (1)), (0, .ref b), (1, .ref (ad 0)), (2, .ref (bd 0)), (3, .ref o), (4, .int (nI (4 * t)))]) hx hb dL_law_512 hl (by decide) rfl (fun ls hl => ?_)
    refine lv_aload_n hx hb dL_law_514 rfl (lv_at hl 3 rfl) ?_
    refine lv_aload_n hx hb dL_law_515 rfl (lv_at hl 1 rfl) ?_
    refine lv_iload hx hb dL_law_516 (lv_at hl 5 rfl) ?_
    refine lv_iconst (v := 1) hx hb dL_law_518 (by decide) ?_
    refine lv_iadd hx hb dL_law_519 ?_
    refine lv_topi (fun x_3 ex_3 => ?_)
    obtain rfl : x_3 = nI (4 * t + 1) := ex_3.trans (nI_add (4 * t) 1)
    refine cb_sld hx hb hXs hbl hbA hS (j := 4 * t + 1) (by omega) (by omega) dL_law_520 ?_
    have hP := cb_mid hP
    have hD := cb_midD hD
    have hPc := cb_P1 hP
    have hDc := cb_D1 hD
    have hFc := cb_freeL hD hS hA
    refine va_calll (va_runV (As := [.int ((xs (4 * t + 1)))]) (rest := []) ⟨hx, hb, hml, hown, hts⟩ (metX1_energy l dC dI ct bd H.size v (xs (4 * t + 1))) (cwV 1 hts gL_law_X1_energy rfl rfl rfl (by decide +kernel) ⟨(Nat.le_of_ble_eq_true rfl), (Nat.le_of_ble_eq_true rfl)⟩) ⟨fun a U g mk q => by obtain ⟨q0, q1, qP, qK, qD⟩ := q; exact ⟨q0, q1, qP, va_K.moved (u := U) (U := U.calling g mk a) (Vm.Alike.refl U.vm) qK, qD⟩, va_recv hK hPc (ci := 1) (q0 := 0) rfl rfl, fun U hU hW => ⟨rfl, by rw [hU], by rw [hU]; exact hPc, va_K.moved hW.alike hK, hDc.weaken (fun _ _ _ _ => trivial)⟩⟩ rfl rfl hl.1 rfl (lv_room (Nat.le_of_ble_eq_true rfl)) dL_law_521 ⟨by show 42 + t + 1 + 0 ≤ 654044; omega, by show 499 + 6 * t + 6 + 0 ≤ 7133972; omega⟩) hS (fun q _ h => hFc q h) hFc (fun r_4 u9 t9 H1 locs ht9 hvm hw9 hB hz1 hk1 hS => ?_)
    obtain ⟨hP1, -, hD1⟩ := hB
    rw [ht9] at hP1
    subst hw9
    obtain ⟨hP, hD⟩ := cb_joinL hP hD hk1 hFc hP1 hD1
    have hP := cb_mid hP
    have hD := cb_midD hD
    generalize H1 = H at hP hS ⊢
    have hP : va_P (dC, dI) vwCl (law_w ct ad bd o u (stX1_energy v (xs (4 * t + 1))) F1) H := hP
    have hD : va_D (law_A s) (law_w ct ad bd o u (stX1_energy v (xs (4 * t + 1))) F1) := hD
    refine lv_lstore (lv' := [(6, .long ((anX1_energy v (xs (4 * t + 1))))), (5, .int (1)), (0, .ref b), (1, .ref (ad 0)), (2, .ref (bd 0)), (3, .ref o), (4, .int (nI (4 * t)))]) hx hb dL_law_524 hl (by decide) rfl (fun ls hl => ?_)
    refine lv_aload_n hx hb dL_law_526 rfl (lv_at hl 4 rfl) ?_
    have hP := cb_mid hP
    have hD := cb_midD hD
    have hPc := cb_P1 hP
    have hDc := cb_D1 hD
    have hFc := cb_freeL hD hS hA
    refine va_calli (va_runV (As := []) (rest := []) ⟨hx, hb, hml, hown, hts⟩ (metX1_thrown l dC dI ct bd H.size (stX1_energy v (xs (4 * t + 1))) ) (cwV 0 hts gL_law_X1_thrown rfl rfl rfl (by decide +kernel) ⟨(Nat.le_of_ble_eq_true rfl), (Nat.le_of_ble_eq_true rfl)⟩) ⟨fun a U g mk q => by obtain ⟨q0, q1, qP, qK, qD⟩ := q; exact ⟨q0, q1, qP, va_K.moved (u := U) (U := U.calling g mk a) (Vm.Alike.refl U.vm) qK, qD⟩, va_recv hK hPc (ci := 1) (q0 := 0) rfl rfl, fun U hU hW => ⟨rfl, by rw [hU], by rw [hU]; exact hPc, va_K.moved hW.alike hK, hDc.weaken (fun _ _ _ _ => trivial)⟩⟩ rfl rfl hl.1 rfl (lv_room (Nat.le_of_ble_eq_true rfl)) dL_law_527 ⟨by show 42 + t + 1 + 0 ≤ 654044; omega, by show 499 + 6 * t + 6 + 0 ≤ 7133972; omega⟩) hS (fun q _ h => hFc q h) hFc (fun r_5 u9 t9 H1 locs ht9 hvm hw9 hB hz1 hk1 hS => ?_)
    obtain ⟨hP1, -, hD1⟩ := hB
    rw [ht9] at hP1
    subst hw9
    obtain ⟨hP, hD⟩ := cb_joinL hP hD hk1 hFc hP1 hD1
    have hP := cb_mid hP
    have hD := cb_midD hD
    generalize H1 = H at hP hS ⊢
    have hP : va_P (dC, dI) vwCl (law_w ct ad bd o u (stX1_thrown (stX1_energy v (xs (4 * t + 1)))) F1) H := hP
    have hD : va_D (law_A s) (law_w ct ad bd o u (stX1_thrown (stX1_energy v (xs (4 * t + 1)))) F1) := hD
    refine lv_iload hx hb dL_law_530 (lv_at hl 1 rfl) ?_
    refine lv_icmp_eq (tgt := 537) hx hb dL_law_532 (by decide) (fun c_6 => ?_) (fun c_6 => ?_)
    · refine lv_iload hx hb dL_law_537 (lv_at hl 1 rfl) ?_
      refine lv_if_ne (tgt := 553) hx hb dL_law_539 (by decide) (fun _ => ?_) (fun c9 => absurd c9 (by decide))
      refine lv_goto (tgt := 556) hx hb dL_law_553 (by decide) ?_
      exact law_next C0 t next _ _ _ H locs ls (by rw [(pr_eT hc).2]; exact R) hP hD hS (lv_sub hl [2, 3, 4, 5, 6] rfl)
    · refine lv_iconst (v := 0) hx hb dL_law_535 (by decide) ?_
      exact absurd (pr_eT hc).1 c_6
  · refine lv_istore (lv' := [(5, .int (0)), (0, .ref b), (1, .ref (ad 0)), (2, .ref (bd 0)), (3, .ref o), (4, .int (nI (4 * t)))]) hx hb dL_law_512 hl (by decide) rfl (fun ls hl => ?_)
    refine lv_aload_n hx hb dL_law_514 rfl (lv_at hl 3 rfl) ?_
    refine lv_aload_n hx hb dL_law_515 rfl (lv_at hl 1 rfl) ?_
    refine lv_iload hx hb dL_law_516 (lv_at hl 5 rfl) ?_
    refine lv_iconst (v := 1) hx hb dL_law_518 (by decide) ?_
    refine lv_iadd hx hb dL_law_519 ?_
    refine lv_topi (fun x_8 ex_8 => ?_)
    obtain rfl : x_8 = nI (4 * t + 1) := ex_8.trans (nI_add (4 * t) 1)
    refine cb_sld hx hb hXs hbl hbA hS (j := 4 * t + 1) (by omega) (by omega) dL_law_520 ?_
    have hP := cb_mid hP
    have hD := cb_midD hD
    have hPc := cb_P1 hP
    have hDc := cb_D1 hD
    have hFc := cb_freeL hD hS hA
    refine va_calll (va_runV (As := [.int ((xs (4 * t + 1)))]) (rest := []) ⟨hx, hb, hml, hown, hts⟩ (metX1_energy l dC dI ct bd H.size v (xs (4 * t + 1))) (cwV 1 hts gL_law_X1_energy rfl rfl rfl (by decide +kernel) ⟨(Nat.le_of_ble_eq_true rfl), (Nat.le_of_ble_eq_true rfl)⟩) ⟨fun a U g mk q => by obtain ⟨q0, q1, qP, qK, qD⟩ := q; exact ⟨q0, q1, qP, va_K.moved (u := U) (U := U.calling g mk a) (Vm.Alike.refl U.vm) qK, qD⟩, va_recv hK hPc (ci := 1) (q0 := 0) rfl rfl, fun U hU hW => ⟨rfl, by rw [hU], by rw [hU]; exact hPc, va_K.moved hW.alike hK, hDc.weaken (fun _ _ _ _ => trivial)⟩⟩ rfl rfl hl.1 rfl (lv_room (Nat.le_of_ble_eq_true rfl)) dL_law_521 ⟨by show 42 + t + 1 + 0 ≤ 654044; omega, by show 499 + 6 * t + 6 + 0 ≤ 7133972; omega⟩) hS (fun q _ h => hFc q h) hFc (fun r_9 u9 t9 H1 locs ht9 hvm hw9 hB hz1 hk1 hS => ?_)
    obtain ⟨hP1, -, hD1⟩ := hB
    rw [ht9] at hP1
    subst hw9
    obtain ⟨hP, hD⟩ := cb_joinL hP hD hk1 hFc hP1 hD1
    have hP := cb_mid hP
    have hD := cb_midD hD
    generalize H1 = H at hP hS ⊢
    have hP : va_P (dC, dI) vwCl (law_w ct ad bd o u (stX1_energy v (xs (4 * t + 1))) F1) H := hP
    have hD : va_D (law_A s) (law_w ct ad bd o u (stX1_energy v (xs (4 * t + 1))) F1) := hD
    refine lv_lstore (lv' := [(6, .long ((anX1_energy v (xs (4 * t + 1))))), (5, .int (0)), (0, .ref b), (1, .ref (ad 0)), (2, .ref (bd 0)), (3, .ref o), (4, .int (nI (4 * t)))]) hx hb dL_law_524 hl (by decide) rfl (fun ls hl => ?_)
    refine lv_aload_n hx hb dL_law_526 rfl (lv_at hl 4 rfl) ?_
    have hP := cb_mid hP
    have hD := cb_midD hD
    have hPc := cb_P1 hP
    have hDc := cb_D1 hD
    have hFc := cb_freeL hD hS hA
    refine va_calli (va_runV (As := []) (rest := []) ⟨hx, hb, hml, hown, hts⟩ (metX1_thrown l dC dI ct bd H.size (stX1_energy v (xs (4 * t + 1))) ) (cwV 0 hts gL_law_X1_thrown rfl rfl rfl (by decide +kernel) ⟨(Nat.le_of_ble_eq_true rfl), (Nat.le_of_ble_eq_true rfl)⟩) ⟨fun a U g mk q => by obtain ⟨q0, q1, qP, qK, qD⟩ := q; exact ⟨q0, q1, qP, va_K.moved (u := U) (U := U.calling g mk a) (Vm.Alike.refl U.vm) qK, qD⟩, va_recv hK hPc (ci := 1) (q0 := 0) rfl rfl, fun U hU hW => ⟨rfl, by rw [hU], by rw [hU]; exact hPc, va_K.moved hW.alike hK, hDc.weaken (fun _ _ _ _ => trivial)⟩⟩ rfl rfl hl.1 rfl (lv_room (Nat.le_of_ble_eq_true rfl)) dL_law_527 ⟨by show 42 + t + 1 + 0 ≤ 654044; omega, by show 499 + 6 * t + 6 + 0 ≤ 7133972; omega⟩) hS (fun q _ h => hFc q h) hFc (fun r_10 u9 t9 H1 locs ht9 hvm hw9 hB hz1 hk1 hS => ?_)
    obtain ⟨hP1, -, hD1⟩ := hB
    rw [ht9] at hP1
    subst hw9
    obtain ⟨hP, hD⟩ := cb_joinL hP hD hk1 hFc hP1 hD1
    have hP := cb_mid hP
    have hD := cb_midD hD
    generalize H1 = H at hP hS ⊢
    have hP : va_P (dC, dI) vwCl (law_w ct ad bd o u (stX1_thrown (stX1_energy v (xs (4 * t + 1)))) F1) H := hP
    have hD : va_D (law_A s) (law_w ct ad bd o u (stX1_thrown (stX1_energy v (xs (4 * t + 1)))) F1) := hD
    refine lv_iload hx hb dL_law_530 (lv_at hl 1 rfl) ?_
    refine lv_icmp_eq (tgt := 537) hx hb dL_law_532 (by decide) (fun c_11 => ?_) (fun c_11 => ?_)
    · refine lv_iload hx hb dL_law_537 (lv_at hl 1 rfl) ?_
      refine lv_if_ne (tgt := 553) hx hb dL_law_539 (by decide) (fun c9 => absurd (by decide) c9) (fun _ => ?_)
      refine lv_aload_n hx hb dL_law_542 rfl (lv_at hl 5 rfl) ?_
      refine lv_iconst (v := 0) hx hb dL_law_543 (by decide) ?_
      refine cb_lald (j := 0) (n := 1) hx hb hK hP 41 3 (f := F1) rfl rfl (by decide) (by decide) dL_law_544 ?_
      refine lv_lload hx hb dL_law_545 (lv_at hl 0 rfl) ?_
      refine W.lcmp hx hb dL_law_547 ?_
      refine lv_if_eq (tgt := 553) hx hb dL_law_548 (by decide) (fun c_13 => ?_) (fun c_13 => ?_)
      · refine lv_goto (tgt := 556) hx hb dL_law_553 (by decide) ?_
        exact law_next C0 t next _ _ _ H locs ls (by rw [(pr_eN R hc).2.1]; exact R) hP hD hS (lv_sub hl [2, 3, 4, 5, 6] rfl)
      · refine lv_iconst (v := 0) hx hb dL_law_551 (by decide) ?_
        exact absurd ((lg_cmp_eq _ _).mpr (hF.trans (by rw [(pr_eN R hc).2.2]))) c_13
    · refine lv_iconst (v := 0) hx hb dL_law_535 (by decide) ?_
      exact absurd (pr_eN R hc).1 c_11
