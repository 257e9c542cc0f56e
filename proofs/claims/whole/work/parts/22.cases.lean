/-! the law, call by call -/
set_option maxHeartbeats 4000000 in
set_option maxRecDepth 100000 in
theorem law_c1 {p : Program} {l : Launch} {e : Env} {s : State} {m : MethodId} {below : List Frame} {meth : Method} {c : Code} {dC : Nat → ClassId} {dI : Nat → Nat → Nat} {ct : Nat → ClassId} {ad bd : Nat → Nat} {o b L : Nat} {xs : Nat → Int32} (hL : L ≤ 2048) (C0 : lw_At p s m meth c b L xs) (hl9 : l.stackTraces = false) (hK : va_K (dC, dI) vwCl (cb_ty ct) s) (hX : cb_X (law_A s) s) (t : Nat) (ht : 4 * t + 4 ≤ L) (next : law_I p l e s m below meth c dC dI ct ad bd o b 23 (t + 1) (42 + (t + 1)) (499 + 6 * (t + 1))) : law_I p l e s m below meth c dC dI ct ad bd o b 164 t (42 + t) (499 + 6 * t) := by
  intro u v F H locs ls R hP hD hS hl
  obtain ⟨hx, hb, hr, hml, hown0, hts0, hXs, hbl, hlocks, hgv⟩ := id C0
  have hown : s.vm.findClass RL = some m.cls := hown0
  have hts : ∀ w ∈ wsL_law, w.before #[Value.ref b] s = true := fun w h => hts0 w (wsL_law_in w h)
  have hA : ∀ q : Nat, s.heap.size ≤ q → law_A s q := fun _ h => h
  have hbA : ¬ law_A s b := Nat.not_le.mpr hbl
  refine lv_aload_n hx hb dL_law_164 rfl (lv_at hl 1 rfl) ?_
  refine lv_aload_n hx hb dL_law_165 rfl (lv_at hl 0 rfl) ?_
  refine lv_iload hx hb dL_law_166 (lv_at hl 4 rfl) ?_
  refine lv_iconst (v := 1) hx hb dL_law_168 (by decide) ?_
  refine lv_iadd hx hb dL_law_169 ?_
  refine lv_topi (fun x_1 ex_1 => ?_)
  obtain rfl : x_1 = nI (4 * t + 1) := ex_1.trans (nI_add (4 * t) 1)
  refine cb_sld hx hb hXs hbl hbA hS (j := 4 * t + 1) (by omega) (by omega) dL_law_170 ?_
  refine lv_aload_n hx hb dL_law_171 rfl (lv_at hl 0 rfl) ?_
  refine lv_iload hx hb dL_law_172 (lv_at hl 4 rfl) ?_
  refine lv_iconst (v := 2) hx hb dL_law_174 (by decide) ?_
  refine lv_iadd hx hb dL_law_175 ?_
  refine lv_topi (fun x_2 ex_2 => ?_)
  obtain rfl : x_2 = nI (4 * t + 2) := ex_2.trans (nI_add (4 * t) 2)
  refine cb_sld hx hb hXs hbl hbA hS (j := 4 * t + 2) (by omega) (by omega) dL_law_176 ?_
  have hPc := cb_P1 hP
  have hDc := cb_D1 hD
  have hFc := cb_freeL hD hS hA
  refine va_calli (va_runV (As := [.int ((xs (4 * t + 1))), .int ((xs (4 * t + 2)))]) (rest := []) ⟨hx, hb, hml, hown, hts⟩ (metX0_encode l dC dI ct ad H.size u (xs (4 * t + 1)) (xs (4 * t + 2))) (cwV 2 hts gL_law_X0_encode rfl rfl rfl (by decide +kernel) ⟨(Nat.le_of_ble_eq_true rfl), (Nat.le_of_ble_eq_true rfl)⟩) ⟨fun a U g mk q => by obtain ⟨q0, q1, qP, qK, qD⟩ := q; exact ⟨q0, q1, qP, va_K.moved (u := U) (U := U.calling g mk a) (Vm.Alike.refl U.vm) qK, qD⟩, va_recv hK hPc (ci := 0) (q0 := 0) rfl rfl, fun U hU hW => ⟨rfl, by rw [hU], by rw [hU]; exact hPc, va_K.moved hW.alike hK, hDc.weaken (fun _ _ _ _ => trivial)⟩⟩ rfl rfl hl.1 rfl (lv_room (Nat.le_of_ble_eq_true rfl)) dL_law_177 ⟨by show 42 + t + 0 ≤ 654044; omega, by show 499 + 6 * t + 0 ≤ 7133972; omega⟩) hS (fun q _ h => hFc q h) hFc (fun r_3 u9 t9 H1 locs ht9 hvm hw9 hB hz1 hk1 hS => ?_)
  obtain ⟨hP1, -, hD1⟩ := hB
  rw [ht9] at hP1
  subst hw9
  obtain ⟨hP, hD⟩ := cb_joinL hP hD hk1 hFc hP1 hD1
  generalize H1 = H at hP hS ⊢
  have hP : va_P (dC, dI) vwCl (law_w ct ad bd o (stX0_encode u (xs (4 * t + 1)) (xs (4 * t + 2))) v F) H := hP
  have hD : va_D (law_A s) (law_w ct ad bd o (stX0_encode u (xs (4 * t + 1)) (xs (4 * t + 2))) v F) := hD
  refine lv_aload_n hx hb dL_law_180 rfl (lv_at hl 2 rfl) ?_
  refine lv_aload_n hx hb dL_law_181 rfl (lv_at hl 0 rfl) ?_
  refine lv_iload hx hb dL_law_182 (lv_at hl 4 rfl) ?_
  refine lv_iconst (v := 1) hx hb dL_law_184 (by decide) ?_
  refine lv_iadd hx hb dL_law_185 ?_
  refine lv_topi (fun x_4 ex_4 => ?_)
  obtain rfl : x_4 = nI (4 * t + 1) := ex_4.trans (nI_add (4 * t) 1)
  refine cb_sld hx hb hXs hbl hbA hS (j := 4 * t + 1) (by omega) (by omega) dL_law_186 ?_
  refine lv_aload_n hx hb dL_law_187 rfl (lv_at hl 0 rfl) ?_
  refine lv_iload hx hb dL_law_188 (lv_at hl 4 rfl) ?_
  refine lv_iconst (v := 2) hx hb dL_law_190 (by decide) ?_
  refine lv_iadd hx hb dL_law_191 ?_
  refine lv_topi (fun x_5 ex_5 => ?_)
  obtain rfl : x_5 = nI (4 * t + 2) := ex_5.trans (nI_add (4 * t) 2)
  refine cb_sld hx hb hXs hbl hbA hS (j := 4 * t + 2) (by omega) (by omega) dL_law_192 ?_
  have hP := cb_mid hP
  have hD := cb_midD hD
  have hPc := cb_P1 hP
  have hDc := cb_D1 hD
  have hFc := cb_freeL hD hS hA
  refine va_calli (va_runV (As := [.int ((xs (4 * t + 1))), .int ((xs (4 * t + 2)))]) (rest := [.int ((anX0_encode u (xs (4 * t + 1)) (xs (4 * t + 2))))]) ⟨hx, hb, hml, hown, hts⟩ (metX1_encode l dC dI ct bd H.size v (xs (4 * t + 1)) (xs (4 * t + 2))) (cwV 2 hts gL_law_X1_encode rfl rfl rfl (by decide +kernel) ⟨(Nat.le_of_ble_eq_true rfl), (Nat.le_of_ble_eq_true rfl)⟩) ⟨fun a U g mk q => by obtain ⟨q0, q1, qP, qK, qD⟩ := q; exact ⟨q0, q1, qP, va_K.moved (u := U) (U := U.calling g mk a) (Vm.Alike.refl U.vm) qK, qD⟩, va_recv hK hPc (ci := 1) (q0 := 0) rfl rfl, fun U hU hW => ⟨rfl, by rw [hU], by rw [hU]; exact hPc, va_K.moved hW.alike hK, hDc.weaken (fun _ _ _ _ => trivial)⟩⟩ rfl rfl hl.1 rfl (lv_room (Nat.le_of_ble_eq_true rfl)) dL_law_193 ⟨by show 42 + t + 0 ≤ 654044; omega, by show 499 + 6 * t + 0 ≤ 7133972; omega⟩) hS (fun q _ h => hFc q h) hFc (fun r_6 u9 t9 H1 locs ht9 hvm hw9 hB hz1 hk1 hS => ?_)
  obtain ⟨hP1, -, hD1⟩ := hB
  rw [ht9] at hP1
  subst hw9
  obtain ⟨hP, hD⟩ := cb_joinL hP hD hk1 hFc hP1 hD1
  have hP := cb_mid hP
  have hD := cb_midD hD
  generalize H1 = H at hP hS ⊢
  have hP : va_P (dC, dI) vwCl (law_w ct ad bd o (stX0_encode u (xs (4 * t + 1)) (xs (4 * t + 2))) (stX1_encode v (xs (4 * t + 1)) (xs (4 * t + 2))) F) H := hP
  have hD : va_D (law_A s) (law_w ct ad bd o (stX0_encode u (xs (4 * t + 1)) (xs (4 * t + 2))) (stX1_encode v (xs (4 * t + 1)) (xs (4 * t + 2))) F) := hD
  refine lv_icmp_eq (tgt := 556) hx hb dL_law_196 (by decide) (fun c_7 => ?_) (fun c_7 => ?_)
  · refine W.widen (k := 42 + t + 1) (n := 499 + 6 * t + 6) (by omega) (by omega) ?_
    exact law_next C0 t next _ _ _ H locs ls (pr_encode R _ _).2 hP hD hS (lv_sub hl [0, 1, 2, 3, 4] rfl)
  · refine lv_iconst (v := 0) hx hb dL_law_199 (by decide) ?_
    exact absurd (pr_encode R (xs (4 * t + 1)) (xs (4 * t + 2))).1 c_7

set_option maxHeartbeats 4000000 in
set_option maxRecDepth 100000 in
theorem law_c2 {p : Program} {l : Launch} {e : Env} {s : State} {m : MethodId} {below : List Frame} {meth : Method} {c : Code} {dC : Nat → ClassId} {dI : Nat → Nat → Nat} {ct : Nat → ClassId} {ad bd : Nat → Nat} {o b L : Nat} {xs : Nat → Int32} (hL : L ≤ 2048) (C0 : lw_At p s m meth c b L xs) (hl9 : l.stackTraces = false) (hK : va_K (dC, dI) vwCl (cb_ty ct) s) (hX : cb_X (law_A s) s) (t : Nat) (ht : 4 * t + 4 ≤ L) (next : law_I p l e s m below meth c dC dI ct ad bd o b 23 (t + 1) (42 + (t + 1)) (499 + 6 * (t + 1))) : law_I p l e s m below meth c dC dI ct ad bd o b 201 t (42 + t) (499 + 6 * t) := by
  intro u v F H locs ls R hP hD hS hl
  obtain ⟨hx, hb, hr, hml, hown0, hts0, hXs, hbl, hlocks, hgv⟩ := id C0
  have hown : s.vm.findClass RL = some m.cls := hown0
  have hts : ∀ w ∈ wsL_law, w.before #[Value.ref b] s = true := fun w h => hts0 w (wsL_law_in w h)
  have hA : ∀ q : Nat, s.heap.size ≤ q → law_A s q := fun _ h => h
  have hbA : ¬ law_A s b := Nat.not_le.mpr hbl
  refine lv_aload_n hx hb dL_law_201 rfl (lv_at hl 1 rfl) ?_
  refine lv_aload_n hx hb dL_law_202 rfl (lv_at hl 0 rfl) ?_
  refine lv_iload hx hb dL_law_203 (lv_at hl 4 rfl) ?_
  refine lv_iconst (v := 1) hx hb dL_law_205 (by decide) ?_
  refine lv_iadd hx hb dL_law_206 ?_
  refine lv_topi (fun x_1 ex_1 => ?_)
  obtain rfl : x_1 = nI (4 * t + 1) := ex_1.trans (nI_add (4 * t) 1)
  refine cb_sld hx hb hXs hbl hbA hS (j := 4 * t + 1) (by omega) (by omega) dL_law_207 ?_
  refine lv_aload_n hx hb dL_law_208 rfl (lv_at hl 0 rfl) ?_
  refine lv_iload hx hb dL_law_209 (lv_at hl 4 rfl) ?_
  refine lv_iconst (v := 2) hx hb dL_law_211 (by decide) ?_
  refine lv_iadd hx hb dL_law_212 ?_
  refine lv_topi (fun x_2 ex_2 => ?_)
  obtain rfl : x_2 = nI (4 * t + 2) := ex_2.trans (nI_add (4 * t) 2)
  refine cb_sld hx hb hXs hbl hbA hS (j := 4 * t + 2) (by omega) (by omega) dL_law_213 ?_
  have hPc := cb_P1 hP
  have hDc := cb_D1 hD
  have hFc := cb_freeL hD hS hA
  refine va_calli (va_runV (As := [.int ((xs (4 * t + 1))), .int ((xs (4 * t + 2)))]) (rest := []) ⟨hx, hb, hml, hown, hts⟩ (metX0_law l dC dI ct ad H.size u (xs (4 * t + 1)) (xs (4 * t + 2))) (cwV 2 hts gL_law_X0_law rfl rfl rfl (by decide +kernel) ⟨(Nat.le_of_ble_eq_true rfl), (Nat.le_of_ble_eq_true rfl)⟩) ⟨fun a U g mk q => by obtain ⟨q0, q1, qP, qK, qD⟩ := q; exact ⟨q0, q1, qP, va_K.moved (u := U) (U := U.calling g mk a) (Vm.Alike.refl U.vm) qK, qD⟩, va_recv hK hPc (ci := 0) (q0 := 0) rfl rfl, fun U hU hW => ⟨rfl, by rw [hU], by rw [hU]; exact hPc, va_K.moved hW.alike hK, hDc.weaken (fun _ _ _ _ => trivial)⟩⟩ rfl rfl hl.1 rfl (lv_room (Nat.le_of_ble_eq_true rfl)) dL_law_214 ⟨by show 42 + t + 0 ≤ 654044; omega, by show 499 + 6 * t + 0 ≤ 7133972; omega⟩) hS (fun q _ h => hFc q h) hFc (fun r_3 u9 t9 H1 locs ht9 hvm hw9 hB hz1 hk1 hS => ?_)
  obtain ⟨hP1, -, hD1⟩ := hB
  rw [ht9] at hP1
  subst hw9
  obtain ⟨hP, hD⟩ := cb_joinL hP hD hk1 hFc hP1 hD1
  generalize H1 = H at hP hS ⊢
  have hP : va_P (dC, dI) vwCl (law_w ct ad bd o (stX0_law u (xs (4 * t + 1)) (xs (4 * t + 2))) v F) H := hP
  have hD : va_D (law_A s) (law_w ct ad bd o (stX0_law u (xs (4 * t + 1)) (xs (4 * t + 2))) v F) := hD
  refine lv_aload_n hx hb dL_law_217 rfl (lv_at hl 2 rfl) ?_
  refine lv_aload_n hx hb dL_law_218 rfl (lv_at hl 0 rfl) ?_
  refine lv_iload hx hb dL_law_219 (lv_at hl 4 rfl) ?_
  refine lv_iconst (v := 1) hx hb dL_law_221 (by decide) ?_
  refine lv_iadd hx hb dL_law_222 ?_
  refine lv_topi (fun x_4 ex_4 => ?_)
  obtain rfl : x_4 = nI (4 * t + 1) := ex_4.trans (nI_add (4 * t) 1)
  refine cb_sld hx hb hXs hbl hbA hS (j := 4 * t + 1) (by omega) (by omega) dL_law_223 ?_
  refine lv_aload_n hx hb dL_law_224 rfl (lv_at hl 0 rfl) ?_
  refine lv_iload hx hb dL_law_225 (lv_at hl 4 rfl) ?_
  refine lv_iconst (v := 2) hx hb dL_law_227 (by decide) ?_
  refine lv_iadd hx hb dL_law_228 ?_
  refine lv_topi (fun x_5 ex_5 => ?_)
  obtain rfl : x_5 = nI (4 * t + 2) := ex_5.trans (nI_add (4 * t) 2)
  refine cb_sld hx hb hXs hbl hbA hS (j := 4 * t + 2) (by omega) (by omega) dL_law_229 ?_
  have hP := cb_mid hP
  have hD := cb_midD hD
  have hPc := cb_P1 hP
  have hDc := cb_D1 hD
  have hFc := cb_freeL hD hS hA
  refine va_calli (va_runV (As := [.int ((xs (4 * t + 1))), .int ((xs (4 * t + 2)))]) (rest := [.int ((anX0_law u (xs (4 * t + 1)) (xs (4 * t + 2))))]) ⟨hx, hb, hml, hown, hts⟩ (metX1_law l dC dI ct bd H.size v (xs (4 * t + 1)) (xs (4 * t + 2))) (cwV 2 hts gL_law_X1_law rfl rfl rfl (by decide +kernel) ⟨(Nat.le_of_ble_eq_true rfl), (Nat.le_of_ble_eq_true rfl)⟩) ⟨fun a U g mk q => by obtain ⟨q0, q1, qP, qK, qD⟩ := q; exact ⟨q0, q1, qP, va_K.moved (u := U) (U := U.calling g mk a) (Vm.Alike.refl U.vm) qK, qD⟩, va_recv hK hPc (ci := 1) (q0 := 0) rfl rfl, fun U hU hW => ⟨rfl, by rw [hU], by rw [hU]; exact hPc, va_K.moved hW.alike hK, hDc.weaken (fun _ _ _ _ => trivial)⟩⟩ rfl rfl hl.1 rfl (lv_room (Nat.le_of_ble_eq_true rfl)) dL_law_230 ⟨by show 42 + t + 0 ≤ 654044; omega, by show 499 + 6 * t + 0 ≤ 7133972; omega⟩) hS (fun q _ h => hFc q h) hFc (fun r_6 u9 t9 H1 locs ht9 hvm hw9 hB hz1 hk1 hS => ?_)
  obtain ⟨hP1, -, hD1⟩ := hB
  rw [ht9] at hP1
  subst hw9
  obtain ⟨hP, hD⟩ := cb_joinL hP hD hk1 hFc hP1 hD1
  have hP := cb_mid hP
  have hD := cb_midD hD
  generalize H1 = H at hP hS ⊢
  have hP : va_P (dC, dI) vwCl (law_w ct ad bd o (stX0_law u (xs (4 * t + 1)) (xs (4 * t + 2))) (stX1_law v (xs (4 * t + 1)) (xs (4 * t + 2))) F) H := hP
  have hD : va_D (law_A s) (law_w ct ad bd o (stX0_law u (xs (4 * t + 1)) (xs (4 * t + 2))) (stX1_law v (xs (4 * t + 1)) (xs (4 * t + 2))) F) := hD
  refine lv_icmp_eq (tgt := 556) hx hb dL_law_233 (by decide) (fun c_7 => ?_) (fun c_7 => ?_)
  · refine W.widen (k := 42 + t + 1) (n := 499 + 6 * t + 6) (by omega) (by omega) ?_
    exact law_next C0 t next _ _ _ H locs ls (pr_lawC R _ _).2 hP hD hS (lv_sub hl [0, 1, 2, 3, 4] rfl)
  · refine lv_iconst (v := 0) hx hb dL_law_236 (by decide) ?_
    exact absurd (pr_lawC R (xs (4 * t + 1)) (xs (4 * t + 2))).1 c_7

set_option maxHeartbeats 4000000 in
set_option maxRecDepth 100000 in
theorem law_c3 {p : Program} {l : Launch} {e : Env} {s : State} {m : MethodId} {below : List Frame} {meth : Method} {c : Code} {dC : Nat → ClassId} {dI : Nat → Nat → Nat} {ct : Nat → ClassId} {ad bd : Nat → Nat} {o b L : Nat} {xs : Nat → Int32} (hL : L ≤ 2048) (C0 : lw_At p s m meth c b L xs) (hl9 : l.stackTraces = false) (hK : va_K (dC, dI) vwCl (cb_ty ct) s) (hX : cb_X (law_A s) s) (t : Nat) (ht : 4 * t + 4 ≤ L) (next : law_I p l e s m below meth c dC dI ct ad bd o b 23 (t + 1) (42 + (t + 1)) (499 + 6 * (t + 1))) : law_I p l e s m below meth c dC dI ct ad bd o b 238 t (42 + t) (499 + 6 * t) := by
  intro u v F H locs ls R hP hD hS hl
  obtain ⟨hx, hb, hr, hml, hown0, hts0, hXs, hbl, hlocks, hgv⟩ := id C0
  have hown : s.vm.findClass RL = some m.cls := hown0
  have hts : ∀ w ∈ wsL_law, w.before #[Value.ref b] s = true := fun w h => hts0 w (wsL_law_in w h)
  have hA : ∀ q : Nat, s.heap.size ≤ q → law_A s q := fun _ h => h
  have hbA : ¬ law_A s b := Nat.not_le.mpr hbl
  refine lv_aload_n hx hb dL_law_238 rfl (lv_at hl 1 rfl) ?_
  refine lv_aload_n hx hb dL_law_239 rfl (lv_at hl 0 rfl) ?_
  refine lv_iload hx hb dL_law_240 (lv_at hl 4 rfl) ?_
  refine lv_iconst (v := 1) hx hb dL_law_242 (by decide) ?_
  refine lv_iadd hx hb dL_law_243 ?_
  refine lv_topi (fun x_1 ex_1 => ?_)
  obtain rfl : x_1 = nI (4 * t + 1) := ex_1.trans (nI_add (4 * t) 1)
  refine cb_sld hx hb hXs hbl hbA hS (j := 4 * t + 1) (by omega) (by omega) dL_law_244 ?_
  refine lv_aload_n hx hb dL_law_245 rfl (lv_at hl 0 rfl) ?_
  refine lv_iload hx hb dL_law_246 (lv_at hl 4 rfl) ?_
  refine lv_iconst (v := 2) hx hb dL_law_248 (by decide) ?_
  refine lv_iadd hx hb dL_law_249 ?_
  refine lv_topi (fun x_2 ex_2 => ?_)
  obtain rfl : x_2 = nI (4 * t + 2) := ex_2.trans (nI_add (4 * t) 2)
  refine cb_sld hx hb hXs hbl hbA hS (j := 4 * t + 2) (by omega) (by omega) dL_law_250 ?_
  have hPc := cb_P1 hP
  have hDc := cb_D1 hD
  have hFc := cb_freeL hD hS hA
  refine va_calli (va_runV (As := [.int ((xs (4 * t + 1))), .int ((xs (4 * t + 2)))]) (rest := []) ⟨hx, hb, hml, hown, hts⟩ (metX0_gain l dC dI ct ad H.size u (xs (4 * t + 1)) (xs (4 * t + 2))) (cwV 2 hts gL_law_X0_gain rfl rfl rfl (by decide +kernel) ⟨(Nat.le_of_ble_eq_true rfl), (Nat.le_of_ble_eq_true rfl)⟩) ⟨fun a U g mk q => by obtain ⟨q0, q1, qP, qK, qD⟩ := q; exact ⟨q0, q1, qP, va_K.moved (u := U) (U := U.calling g mk a) (Vm.Alike.refl U.vm) qK, qD⟩, va_recv hK hPc (ci := 0) (q0 := 0) rfl rfl, fun U hU hW => ⟨rfl, by rw [hU], by rw [hU]; exact hPc, va_K.moved hW.alike hK, hDc.weaken (fun _ _ _ _ => trivial)⟩⟩ rfl rfl hl.1 rfl (lv_room (Nat.le_of_ble_eq_true rfl)) dL_law_251 ⟨by show 42 + t + 0 ≤ 654044; omega, by show 499 + 6 * t + 0 ≤ 7133972; omega⟩) hS (fun q _ h => hFc q h) hFc (fun r_3 u9 t9 H1 locs ht9 hvm hw9 hB hz1 hk1 hS => ?_)
  obtain ⟨hP1, -, hD1⟩ := hB
  rw [ht9] at hP1
  subst hw9
  obtain ⟨hP, hD⟩ := cb_joinL hP hD hk1 hFc hP1 hD1
  generalize H1 = H at hP hS ⊢
  have hP : va_P (dC, dI) vwCl (law_w ct ad bd o (stX0_gain u (xs (4 * t + 1)) (xs (4 * t + 2))) v F) H := hP
  have hD : va_D (law_A s) (law_w ct ad bd o (stX0_gain u (xs (4 * t + 1)) (xs (4 * t + 2))) v F) := hD
  refine lv_aload_n hx hb dL_law_254 rfl (lv_at hl 2 rfl) ?_
  refine lv_aload_n hx hb dL_law_255 rfl (lv_at hl 0 rfl) ?_
  refine lv_iload hx hb dL_law_256 (lv_at hl 4 rfl) ?_
  refine lv_iconst (v := 1) hx hb dL_law_258 (by decide) ?_
  refine lv_iadd hx hb dL_law_259 ?_
  refine lv_topi (fun x_4 ex_4 => ?_)
  obtain rfl : x_4 = nI (4 * t + 1) := ex_4.trans (nI_add (4 * t) 1)
  refine cb_sld hx hb hXs hbl hbA hS (j := 4 * t + 1) (by omega) (by omega) dL_law_260 ?_
  refine lv_aload_n hx hb dL_law_261 rfl (lv_at hl 0 rfl) ?_
  refine lv_iload hx hb dL_law_262 (lv_at hl 4 rfl) ?_
  refine lv_iconst (v := 2) hx hb dL_law_264 (by decide) ?_
  refine lv_iadd hx hb dL_law_265 ?_
  refine lv_topi (fun x_5 ex_5 => ?_)
  obtain rfl : x_5 = nI (4 * t + 2) := ex_5.trans (nI_add (4 * t) 2)
  refine cb_sld hx hb hXs hbl hbA hS (j := 4 * t + 2) (by omega) (by omega) dL_law_266 ?_
  have hP := cb_mid hP
  have hD := cb_midD hD
  have hPc := cb_P1 hP
  have hDc := cb_D1 hD
  have hFc := cb_freeL hD hS hA
  refine va_calli (va_runV (As := [.int ((xs (4 * t + 1))), .int ((xs (4 * t + 2)))]) (rest := [.int ((anX0_gain u (xs (4 * t + 1)) (xs (4 * t + 2))))]) ⟨hx, hb, hml, hown, hts⟩ (metX1_gain l dC dI ct bd H.size v (xs (4 * t + 1)) (xs (4 * t + 2))) (cwV 2 hts gL_law_X1_gain rfl rfl rfl (by decide +kernel) ⟨(Nat.le_of_ble_eq_true rfl), (Nat.le_of_ble_eq_true rfl)⟩) ⟨fun a U g mk q => by obtain ⟨q0, q1, qP, qK, qD⟩ := q; exact ⟨q0, q1, qP, va_K.moved (u := U) (U := U.calling g mk a) (Vm.Alike.refl U.vm) qK, qD⟩, va_recv hK hPc (ci := 1) (q0 := 0) rfl rfl, fun U hU hW => ⟨rfl, by rw [hU], by rw [hU]; exact hPc, va_K.moved hW.alike hK, hDc.weaken (fun _ _ _ _ => trivial)⟩⟩ rfl rfl hl.1 rfl (lv_room (Nat.le_of_ble_eq_true rfl)) dL_law_267 ⟨by show 42 + t + 0 ≤ 654044; omega, by show 499 + 6 * t + 0 ≤ 7133972; omega⟩) hS (fun q _ h => hFc q h) hFc (fun r_6 u9 t9 H1 locs ht9 hvm hw9 hB hz1 hk1 hS => ?_)
  obtain ⟨hP1, -, hD1⟩ := hB
  rw [ht9] at hP1
  subst hw9
  obtain ⟨hP, hD⟩ := cb_joinL hP hD hk1 hFc hP1 hD1
  have hP := cb_mid hP
  have hD := cb_midD hD
  generalize H1 = H at hP hS ⊢
  have hP : va_P (dC, dI) vwCl (law_w ct ad bd o (stX0_gain u (xs (4 * t + 1)) (xs (4 * t + 2))) (stX1_gain v (xs (4 * t + 1)) (xs (4 * t + 2))) F) H := hP
  have hD : va_D (law_A s) (law_w ct ad bd o (stX0_gain u (xs (4 * t + 1)) (xs (4 * t + 2))) (stX1_gain v (xs (4 * t + 1)) (xs (4 * t + 2))) F) := hD
  refine lv_icmp_eq (tgt := 556) hx hb dL_law_270 (by decide) (fun c_7 => ?_) (fun c_7 => ?_)
  · refine W.widen (k := 42 + t + 1) (n := 499 + 6 * t + 6) (by omega) (by omega) ?_
    exact law_next C0 t next _ _ _ H locs ls (pr_gainC R _ _).2 hP hD hS (lv_sub hl [0, 1, 2, 3, 4] rfl)
  · refine lv_iconst (v := 0) hx hb dL_law_273 (by decide) ?_
    exact absurd (pr_gainC R (xs (4 * t + 1)) (xs (4 * t + 2))).1 c_7

set_option maxHeartbeats 4000000 in
set_option maxRecDepth 100000 in
theorem law_c5 {p : Program} {l : Launch} {e : Env} {s : State} {m : MethodId} {below : List Frame} {meth : Method} {c : Code} {dC : Nat → ClassId} {dI : Nat → Nat → Nat} {ct : Nat → ClassId} {ad bd : Nat → Nat} {o b L : Nat} {xs : Nat → Int32} (hL : L ≤ 2048) (C0 : lw_At p s m meth c b L xs) (hl9 : l.stackTraces = false) (hK : va_K (dC, dI) vwCl (cb_ty ct) s) (hX : cb_X (law_A s) s) (t : Nat) (ht : 4 * t + 4 ≤ L) (next : law_I p l e s m below meth c dC dI ct ad bd o b 23 (t + 1) (42 + (t + 1)) (499 + 6 * (t + 1))) : law_I p l e s m below meth c dC dI ct ad bd o b 328 t (42 + t) (499 + 6 * t) := by
  intro u v F H locs ls R hP hD hS hl
  obtain ⟨hx, hb, hr, hml, hown0, hts0, hXs, hbl, hlocks, hgv⟩ := id C0
  have hown : s.vm.findClass RL = some m.cls := hown0
  have hts : ∀ w ∈ wsL_law, w.before #[Value.ref b] s = true := fun w h => hts0 w (wsL_law_in w h)
  have hA : ∀ q : Nat, s.heap.size ≤ q → law_A s q := fun _ h => h
  have hbA : ¬ law_A s b := Nat.not_le.mpr hbl
  refine lv_aload_n hx hb dL_law_328 rfl (lv_at hl 1 rfl) ?_
  refine lv_aload_n hx hb dL_law_329 rfl (lv_at hl 0 rfl) ?_
  refine lv_iload hx hb dL_law_330 (lv_at hl 4 rfl) ?_
  refine lv_iconst (v := 1) hx hb dL_law_332 (by decide) ?_
  refine lv_iadd hx hb dL_law_333 ?_
  refine lv_topi (fun x_1 ex_1 => ?_)
  obtain rfl : x_1 = nI (4 * t + 1) := ex_1.trans (nI_add (4 * t) 1)
  refine cb_sld hx hb hXs hbl hbA hS (j := 4 * t + 1) (by omega) (by omega) dL_law_334 ?_
  have hPc := cb_P1 hP
  have hDc := cb_D1 hD
  have hFc := cb_freeL hD hS hA
  refine va_calli (va_runV (As := [.int ((xs (4 * t + 1)))]) (rest := []) ⟨hx, hb, hml, hown, hts⟩ (metX0_speakers l dC dI ct ad H.size u (xs (4 * t + 1))) (cwV 1 hts gL_law_X0_speakers rfl rfl rfl (by decide +kernel) ⟨(Nat.le_of_ble_eq_true rfl), (Nat.le_of_ble_eq_true rfl)⟩) ⟨fun a U g mk q => by obtain ⟨q0, q1, qP, qK, qD⟩ := q; exact ⟨q0, q1, qP, va_K.moved (u := U) (U := U.calling g mk a) (Vm.Alike.refl U.vm) qK, qD⟩, va_recv hK hPc (ci := 0) (q0 := 0) rfl rfl, fun U hU hW => ⟨rfl, by rw [hU], by rw [hU]; exact hPc, va_K.moved hW.alike hK, hDc.weaken (fun _ _ _ _ => trivial)⟩⟩ rfl rfl hl.1 rfl (lv_room (Nat.le_of_ble_eq_true rfl)) dL_law_335 ⟨by show 42 + t + 0 ≤ 654044; omega, by show 499 + 6 * t + 0 ≤ 7133972; omega⟩) hS (fun q _ h => hFc q h) hFc (fun r_2 u9 t9 H1 locs ht9 hvm hw9 hB hz1 hk1 hS => ?_)
  obtain ⟨hP1, -, hD1⟩ := hB
  rw [ht9] at hP1
  subst hw9
  obtain ⟨hP, hD⟩ := cb_joinL hP hD hk1 hFc hP1 hD1
  generalize H1 = H at hP hS ⊢
  have hP : va_P (dC, dI) vwCl (law_w ct ad bd o (stX0_speakers u (xs (4 * t + 1))) v F) H := hP
  have hD : va_D (law_A s) (law_w ct ad bd o (stX0_speakers u (xs (4 * t + 1))) v F) := hD
  refine lv_aload_n hx hb dL_law_338 rfl (lv_at hl 2 rfl) ?_
  refine lv_aload_n hx hb dL_law_339 rfl (lv_at hl 0 rfl) ?_
  refine lv_iload hx hb dL_law_340 (lv_at hl 4 rfl) ?_
  refine lv_iconst (v := 1) hx hb dL_law_342 (by decide) ?_
  refine lv_iadd hx hb dL_law_343 ?_
  refine lv_topi (fun x_3 ex_3 => ?_)
  obtain rfl : x_3 = nI (4 * t + 1) := ex_3.trans (nI_add (4 * t) 1)
  refine cb_sld hx hb hXs hbl hbA hS (j := 4 * t + 1) (by omega) (by omega) dL_law_344 ?_
  have hP := cb_mid hP
  have hD := cb_midD hD
  have hPc := cb_P1 hP
  have hDc := cb_D1 hD
  have hFc := cb_freeL hD hS hA
  refine va_calli (va_runV (As := [.int ((xs (4 * t + 1)))]) (rest := [.int ((anX0_speakers u (xs (4 * t + 1))))]) ⟨hx, hb, hml, hown, hts⟩ (metX1_speakers l dC dI ct bd H.size v (xs (4 * t + 1))) (cwV 1 hts gL_law_X1_speakers rfl rfl rfl (by decide +kernel) ⟨(Nat.le_of_ble_eq_true rfl), (Nat.le_of_ble_eq_true rfl)⟩) ⟨fun a U g mk q => by obtain ⟨q0, q1, qP, qK, qD⟩ := q; exact ⟨q0, q1, qP, va_K.moved (u := U) (U := U.calling g mk a) (Vm.Alike.refl U.vm) qK, qD⟩, va_recv hK hPc (ci := 1) (q0 := 0) rfl rfl, fun U hU hW => ⟨rfl, by rw [hU], by rw [hU]; exact hPc, va_K.moved hW.alike hK, hDc.weaken (fun _ _ _ _ => trivial)⟩⟩ rfl rfl hl.1 rfl (lv_room (Nat.le_of_ble_eq_true rfl)) dL_law_345 ⟨by show 42 + t + 0 ≤ 654044; omega, by show 499 + 6 * t + 0 ≤ 7133972; omega⟩) hS (fun q _ h => hFc q h) hFc (fun r_4 u9 t9 H1 locs ht9 hvm hw9 hB hz1 hk1 hS => ?_)
  obtain ⟨hP1, -, hD1⟩ := hB
  rw [ht9] at hP1
  subst hw9
  obtain ⟨hP, hD⟩ := cb_joinL hP hD hk1 hFc hP1 hD1
  have hP := cb_mid hP
  have hD := cb_midD hD
  generalize H1 = H at hP hS ⊢
  have hP : va_P (dC, dI) vwCl (law_w ct ad bd o (stX0_speakers u (xs (4 * t + 1))) (stX1_speakers v (xs (4 * t + 1))) F) H := hP
  have hD : va_D (law_A s) (law_w ct ad bd o (stX0_speakers u (xs (4 * t + 1))) (stX1_speakers v (xs (4 * t + 1))) F) := hD
  refine lv_icmp_eq (tgt := 556) hx hb dL_law_348 (by decide) (fun c_5 => ?_) (fun c_5 => ?_)
  · refine W.widen (k := 42 + t + 1) (n := 499 + 6 * t + 6) (by omega) (by omega) ?_
    exact law_next C0 t next _ _ _ H locs ls (pr_speakersC R _).2 hP hD hS (lv_sub hl [0, 1, 2, 3, 4] rfl)
  · refine lv_iconst (v := 0) hx hb dL_law_351 (by decide) ?_
    exact absurd (pr_speakersC R (xs (4 * t + 1))).1 c_5

set_option maxHeartbeats 4000000 in
set_option maxRecDepth 100000 in
theorem law_c6 {p : Program} {l : Launch} {e : Env} {s : State} {m : MethodId} {below : List Frame} {meth : Method} {c : Code} {dC : Nat → ClassId} {dI : Nat → Nat → Nat} {ct : Nat → ClassId} {ad bd : Nat → Nat} {o b L : Nat} {xs : Nat → Int32} (hL : L ≤ 2048) (C0 : lw_At p s m meth c b L xs) (hl9 : l.stackTraces = false) (hK : va_K (dC, dI) vwCl (cb_ty ct) s) (hX : cb_X (law_A s) s) (t : Nat) (ht : 4 * t + 4 ≤ L) (next : law_I p l e s m below meth c dC dI ct ad bd o b 23 (t + 1) (42 + (t + 1)) (499 + 6 * (t + 1))) : law_I p l e s m below meth c dC dI ct ad bd o b 353 t (42 + t) (499 + 6 * t) := by
  intro u v F H locs ls R hP hD hS hl
  obtain ⟨hx, hb, hr, hml, hown0, hts0, hXs, hbl, hlocks, hgv⟩ := id C0
  have hown : s.vm.findClass RL = some m.cls := hown0
  have hts : ∀ w ∈ wsL_law, w.before #[Value.ref b] s = true := fun w h => hts0 w (wsL_law_in w h)
  have hA : ∀ q : Nat, s.heap.size ≤ q → law_A s q := fun _ h => h
  have hbA : ¬ law_A s b := Nat.not_le.mpr hbl
  refine lv_aload_n hx hb dL_law_353 rfl (lv_at hl 1 rfl) ?_
  refine lv_aload_n hx hb dL_law_354 rfl (lv_at hl 0 rfl) ?_
  refine lv_iload hx hb dL_law_355 (lv_at hl 4 rfl) ?_
  refine lv_iconst (v := 1) hx hb dL_law_357 (by decide) ?_
  refine lv_iadd hx hb dL_law_358 ?_
  refine lv_topi (fun x_1 ex_1 => ?_)
  obtain rfl : x_1 = nI (4 * t + 1) := ex_1.trans (nI_add (4 * t) 1)
  refine cb_sld hx hb hXs hbl hbA hS (j := 4 * t + 1) (by omega) (by omega) dL_law_359 ?_
  refine lv_aload_n hx hb dL_law_360 rfl (lv_at hl 0 rfl) ?_
  refine lv_iload hx hb dL_law_361 (lv_at hl 4 rfl) ?_
  refine lv_iconst (v := 2) hx hb dL_law_363 (by decide) ?_
  refine lv_iadd hx hb dL_law_364 ?_
  refine lv_topi (fun x_2 ex_2 => ?_)
  obtain rfl : x_2 = nI (4 * t + 2) := ex_2.trans (nI_add (4 * t) 2)
  refine cb_sld hx hb hXs hbl hbA hS (j := 4 * t + 2) (by omega) (by omega) dL_law_365 ?_
  refine lv_aload_n hx hb dL_law_366 rfl (lv_at hl 0 rfl) ?_
  refine lv_iload hx hb dL_law_367 (lv_at hl 4 rfl) ?_
  refine lv_iconst (v := 3) hx hb dL_law_369 (by decide) ?_
  refine lv_iadd hx hb dL_law_370 ?_
  refine lv_topi (fun x_3 ex_3 => ?_)
  obtain rfl : x_3 = nI (4 * t + 3) := ex_3.trans (nI_add (4 * t) 3)
  refine cb_sld hx hb hXs hbl hbA hS (j := 4 * t + 3) (by omega) (by omega) dL_law_371 ?_
  have hPc := cb_P1 hP
  have hDc := cb_D1 hD
  have hFc := cb_freeL hD hS hA
  refine va_calli (va_runV (As := [.int ((xs (4 * t + 1))), .int ((xs (4 * t + 2))), .int ((xs (4 * t + 3)))]) (rest := []) ⟨hx, hb, hml, hown, hts⟩ (metX0_put l dC dI ct ad H.size u (xs (4 * t + 1)) (xs (4 * t + 2)) (xs (4 * t + 3))) (cwV 3 hts gL_law_X0_put rfl rfl rfl (by decide +kernel) ⟨(Nat.le_of_ble_eq_true rfl), (Nat.le_of_ble_eq_true rfl)⟩) ⟨fun a U g mk q => by obtain ⟨q0, q1, qP, qK, qD⟩ := q; exact ⟨q0, q1, qP, va_K.moved (u := U) (U := U.calling g mk a) (Vm.Alike.refl U.vm) qK, qD⟩, va_recv hK hPc (ci := 0) (q0 := 0) rfl rfl, fun U hU hW => ⟨rfl, by rw [hU], by rw [hU]; exact hPc, va_K.moved hW.alike hK, hDc.weaken (fun _ _ _ _ => trivial)⟩⟩ rfl rfl hl.1 rfl (lv_room (Nat.le_of_ble_eq_true rfl)) dL_law_372 ⟨by show 42 + t + 0 ≤ 654044; omega, by show 499 + 6 * t + 0 ≤ 7133972; omega⟩) hS (fun q _ h => hFc q h) hFc (fun r_4 u9 t9 H1 locs ht9 hvm hw9 hB hz1 hk1 hS => ?_)
  obtain ⟨hP1, -, hD1⟩ := hB
  rw [ht9] at hP1
  subst hw9
  obtain ⟨hP, hD⟩ := cb_joinL hP hD hk1 hFc hP1 hD1
  generalize H1 = H at hP hS ⊢
  have hP : va_P (dC, dI) vwCl (law_w ct ad bd o (stX0_put u (xs (4 * t + 1)) (xs (4 * t + 2)) (xs (4 * t + 3))) v F) H := hP
  have hD : va_D (law_A s) (law_w ct ad bd o (stX0_put u (xs (4 * t + 1)) (xs (4 * t + 2)) (xs (4 * t + 3))) v F) := hD
  refine lv_aload_n hx hb dL_law_375 rfl (lv_at hl 2 rfl) ?_
  refine lv_aload_n hx hb dL_law_376 rfl (lv_at hl 0 rfl) ?_
  refine lv_iload hx hb dL_law_377 (lv_at hl 4 rfl) ?_
  refine lv_iconst (v := 1) hx hb dL_law_379 (by decide) ?_
  refine lv_iadd hx hb dL_law_380 ?_
  refine lv_topi (fun x_5 ex_5 => ?_)
  obtain rfl : x_5 = nI (4 * t + 1) := ex_5.trans (nI_add (4 * t) 1)
  refine cb_sld hx hb hXs hbl hbA hS (j := 4 * t + 1) (by omega) (by omega) dL_law_381 ?_
  refine lv_aload_n hx hb dL_law_382 rfl (lv_at hl 0 rfl) ?_
  refine lv_iload hx hb dL_law_383 (lv_at hl 4 rfl) ?_
  refine lv_iconst (v := 2) hx hb dL_law_385 (by decide) ?_
  refine lv_iadd hx hb dL_law_386 ?_
  refine lv_topi (fun x_6 ex_6 => ?_)
  obtain rfl : x_6 = nI (4 * t + 2) := ex_6.trans (nI_add (4 * t) 2)
  refine cb_sld hx hb hXs hbl hbA hS (j := 4 * t + 2) (by omega) (by omega) dL_law_387 ?_
  refine lv_aload_n hx hb dL_law_388 rfl (lv_at hl 0 rfl) ?_
  refine lv_iload hx hb dL_law_389 (lv_at hl 4 rfl) ?_
  refine lv_iconst (v := 3) hx hb dL_law_391 (by decide) ?_
  refine lv_iadd hx hb dL_law_392 ?_
  refine lv_topi (fun x_7 ex_7 => ?_)
  obtain rfl : x_7 = nI (4 * t + 3) := ex_7.trans (nI_add (4 * t) 3)
  refine cb_sld hx hb hXs hbl hbA hS (j := 4 * t + 3) (by omega) (by omega) dL_law_393 ?_
  have hP := cb_mid hP
  have hD := cb_midD hD
  have hPc := cb_P1 hP
  have hDc := cb_D1 hD
  have hFc := cb_freeL hD hS hA
  refine va_calli (va_runV (As := [.int ((xs (4 * t + 1))), .int ((xs (4 * t + 2))), .int ((xs (4 * t + 3)))]) (rest := [.int ((anX0_put u (xs (4 * t + 1)) (xs (4 * t + 2)) (xs (4 * t + 3))))]) ⟨hx, hb, hml, hown, hts⟩ (metX1_put l dC dI ct bd H.size v (xs (4 * t + 1)) (xs (4 * t + 2)) (xs (4 * t + 3))) (cwV 3 hts gL_law_X1_put rfl rfl rfl (by decide +kernel) ⟨(Nat.le_of_ble_eq_true rfl), (Nat.le_of_ble_eq_true rfl)⟩) ⟨fun a U g mk q => by obtain ⟨q0, q1, qP, qK, qD⟩ := q; exact ⟨q0, q1, qP, va_K.moved (u := U) (U := U.calling g mk a) (Vm.Alike.refl U.vm) qK, qD⟩, va_recv hK hPc (ci := 1) (q0 := 0) rfl rfl, fun U hU hW => ⟨rfl, by rw [hU], by rw [hU]; exact hPc, va_K.moved hW.alike hK, hDc.weaken (fun _ _ _ _ => trivial)⟩⟩ rfl rfl hl.1 rfl (lv_room (Nat.le_of_ble_eq_true rfl)) dL_law_394 ⟨by show 42 + t + 0 ≤ 654044; omega, by show 499 + 6 * t + 0 ≤ 7133972; omega⟩) hS (fun q _ h => hFc q h) hFc (fun r_8 u9 t9 H1 locs ht9 hvm hw9 hB hz1 hk1 hS => ?_)
  obtain ⟨hP1, -, hD1⟩ := hB
  rw [ht9] at hP1
  subst hw9
  obtain ⟨hP, hD⟩ := cb_joinL hP hD hk1 hFc hP1 hD1
  have hP := cb_mid hP
  have hD := cb_midD hD
  generalize H1 = H at hP hS ⊢
  have hP : va_P (dC, dI) vwCl (law_w ct ad bd o (stX0_put u (xs (4 * t + 1)) (xs (4 * t + 2)) (xs (4 * t + 3))) (stX1_put v (xs (4 * t + 1)) (xs (4 * t + 2)) (xs (4 * t + 3))) F) H := hP
  have hD : va_D (law_A s) (law_w ct ad bd o (stX0_put u (xs (4 * t + 1)) (xs (4 * t + 2)) (xs (4 * t + 3))) (stX1_put v (xs (4 * t + 1)) (xs (4 * t + 2)) (xs (4 * t + 3))) F) := hD
  refine lv_icmp_eq (tgt := 556) hx hb dL_law_397 (by decide) (fun c_9 => ?_) (fun c_9 => ?_)
  · refine W.widen (k := 42 + t + 1) (n := 499 + 6 * t + 6) (by omega) (by omega) ?_
    exact law_next C0 t next _ _ _ H locs ls (pr_putC R _ _ _).2 hP hD hS (lv_sub hl [0, 1, 2, 3, 4] rfl)
  · refine lv_iconst (v := 0) hx hb dL_law_400 (by decide) ?_
    exact absurd (pr_putC R (xs (4 * t + 1)) (xs (4 * t + 2)) (xs (4 * t + 3))).1 c_9

set_option maxHeartbeats 4000000 in
set_option maxRecDepth 100000 in
theorem law_c7 {p : Program} {l : Launch} {e : Env} {s : State} {m : MethodId} {below : List Frame} {meth : Method} {c : Code} {dC : Nat → ClassId} {dI : Nat → Nat → Nat} {ct : Nat → ClassId} {ad bd : Nat → Nat} {o b L : Nat} {xs : Nat → Int32} (hL : L ≤ 2048) (C0 : lw_At p s m meth c b L xs) (hl9 : l.stackTraces = false) (hK : va_K (dC, dI) vwCl (cb_ty ct) s) (hX : cb_X (law_A s) s) (t : Nat) (ht : 4 * t + 4 ≤ L) (next : law_I p l e s m below meth c dC dI ct ad bd o b 23 (t + 1) (42 + (t + 1)) (499 + 6 * (t + 1))) : law_I p l e s m below meth c dC dI ct ad bd o b 402 t (42 + t) (499 + 6 * t) := by
  intro u v F H locs ls R hP hD hS hl
  obtain ⟨hx, hb, hr, hml, hown0, hts0, hXs, hbl, hlocks, hgv⟩ := id C0
  have hown : s.vm.findClass RL = some m.cls := hown0
  have hts : ∀ w ∈ wsL_law, w.before #[Value.ref b] s = true := fun w h => hts0 w (wsL_law_in w h)
  have hA : ∀ q : Nat, s.heap.size ≤ q → law_A s q := fun _ h => h
  have hbA : ¬ law_A s b := Nat.not_le.mpr hbl
  refine lv_aload_n hx hb dL_law_402 rfl (lv_at hl 1 rfl) ?_
  refine lv_aload_n hx hb dL_law_403 rfl (lv_at hl 0 rfl) ?_
  refine lv_iload hx hb dL_law_404 (lv_at hl 4 rfl) ?_
  refine lv_iconst (v := 1) hx hb dL_law_406 (by decide) ?_
  refine lv_iadd hx hb dL_law_407 ?_
  refine lv_topi (fun x_1 ex_1 => ?_)
  obtain rfl : x_1 = nI (4 * t + 1) := ex_1.trans (nI_add (4 * t) 1)
  refine cb_sld hx hb hXs hbl hbA hS (j := 4 * t + 1) (by omega) (by omega) dL_law_408 ?_
  refine lv_aload_n hx hb dL_law_409 rfl (lv_at hl 0 rfl) ?_
  refine lv_iload hx hb dL_law_410 (lv_at hl 4 rfl) ?_
  refine lv_iconst (v := 2) hx hb dL_law_412 (by decide) ?_
  refine lv_iadd hx hb dL_law_413 ?_
  refine lv_topi (fun x_2 ex_2 => ?_)
  obtain rfl : x_2 = nI (4 * t + 2) := ex_2.trans (nI_add (4 * t) 2)
  refine cb_sld hx hb hXs hbl hbA hS (j := 4 * t + 2) (by omega) (by omega) dL_law_414 ?_
  refine lv_aload_n hx hb dL_law_415 rfl (lv_at hl 0 rfl) ?_
  refine lv_iload hx hb dL_law_416 (lv_at hl 4 rfl) ?_
  refine lv_iconst (v := 3) hx hb dL_law_418 (by decide) ?_
  refine lv_iadd hx hb dL_law_419 ?_
  refine lv_topi (fun x_3 ex_3 => ?_)
  obtain rfl : x_3 = nI (4 * t + 3) := ex_3.trans (nI_add (4 * t) 3)
  refine cb_sld hx hb hXs hbl hbA hS (j := 4 * t + 3) (by omega) (by omega) dL_law_420 ?_
  have hPc := cb_P1 hP
  have hDc := cb_D1 hD
  have hFc := cb_freeL hD hS hA
  refine va_calli (va_runV (As := [.int ((xs (4 * t + 1))), .int ((xs (4 * t + 2))), .int ((xs (4 * t + 3)))]) (rest := []) ⟨hx, hb, hml, hown, hts⟩ (metX0_ramp l dC dI ct ad H.size u (xs (4 * t + 1)) (xs (4 * t + 2)) (xs (4 * t + 3))) (cwV 3 hts gL_law_X0_ramp rfl rfl rfl (by decide +kernel) ⟨(Nat.le_of_ble_eq_true rfl), (Nat.le_of_ble_eq_true rfl)⟩) ⟨fun a U g mk q => by obtain ⟨q0, q1, qP, qK, qD⟩ := q; exact ⟨q0, q1, qP, va_K.moved (u := U) (U := U.calling g mk a) (Vm.Alike.refl U.vm) qK, qD⟩, va_recv hK hPc (ci := 0) (q0 := 0) rfl rfl, fun U hU hW => ⟨rfl, by rw [hU], by rw [hU]; exact hPc, va_K.moved hW.alike hK, hDc.weaken (fun _ _ _ _ => trivial)⟩⟩ rfl rfl hl.1 rfl (lv_room (Nat.le_of_ble_eq_true rfl)) dL_law_421 ⟨by show 42 + t + 0 ≤ 654044; omega, by show 499 + 6 * t + 0 ≤ 7133972; omega⟩) hS (fun q _ h => hFc q h) hFc (fun r_4 u9 t9 H1 locs ht9 hvm hw9 hB hz1 hk1 hS => ?_)
  obtain ⟨hP1, -, hD1⟩ := hB
  rw [ht9] at hP1
  subst hw9
  obtain ⟨hP, hD⟩ := cb_joinL hP hD hk1 hFc hP1 hD1
  generalize H1 = H at hP hS ⊢
  have hP : va_P (dC, dI) vwCl (law_w ct ad bd o (stX0_ramp u (xs (4 * t + 1)) (xs (4 * t + 2)) (xs (4 * t + 3))) v F) H := hP
  have hD : va_D (law_A s) (law_w ct ad bd o (stX0_ramp u (xs (4 * t + 1)) (xs (4 * t + 2)) (xs (4 * t + 3))) v F) := hD
  refine lv_aload_n hx hb dL_law_424 rfl (lv_at hl 2 rfl) ?_
  refine lv_aload_n hx hb dL_law_425 rfl (lv_at hl 0 rfl) ?_
  refine lv_iload hx hb dL_law_426 (lv_at hl 4 rfl) ?_
  refine lv_iconst (v := 1) hx hb dL_law_428 (by decide) ?_
  refine lv_iadd hx hb dL_law_429 ?_
  refine lv_topi (fun x_5 ex_5 => ?_)
  obtain rfl : x_5 = nI (4 * t + 1) := ex_5.trans (nI_add (4 * t) 1)
  refine cb_sld hx hb hXs hbl hbA hS (j := 4 * t + 1) (by omega) (by omega) dL_law_430 ?_
  refine lv_aload_n hx hb dL_law_431 rfl (lv_at hl 0 rfl) ?_
  refine lv_iload hx hb dL_law_432 (lv_at hl 4 rfl) ?_
  refine lv_iconst (v := 2) hx hb dL_law_434 (by decide) ?_
  refine lv_iadd hx hb dL_law_435 ?_
  refine lv_topi (fun x_6 ex_6 => ?_)
  obtain rfl : x_6 = nI (4 * t + 2) := ex_6.trans (nI_add (4 * t) 2)
  refine cb_sld hx hb hXs hbl hbA hS (j := 4 * t + 2) (by omega) (by omega) dL_law_436 ?_
  refine lv_aload_n hx hb dL_law_437 rfl (lv_at hl 0 rfl) ?_
  refine lv_iload hx hb dL_law_438 (lv_at hl 4 rfl) ?_
  refine lv_iconst (v := 3) hx hb dL_law_440 (by decide) ?_
  refine lv_iadd hx hb dL_law_441 ?_
  refine lv_topi (fun x_7 ex_7 => ?_)
  obtain rfl : x_7 = nI (4 * t + 3) := ex_7.trans (nI_add (4 * t) 3)
  refine cb_sld hx hb hXs hbl hbA hS (j := 4 * t + 3) (by omega) (by omega) dL_law_442 ?_
  have hP := cb_mid hP
  have hD := cb_midD hD
  have hPc := cb_P1 hP
  have hDc := cb_D1 hD
  have hFc := cb_freeL hD hS hA
  refine va_calli (va_runV (As := [.int ((xs (4 * t + 1))), .int ((xs (4 * t + 2))), .int ((xs (4 * t + 3)))]) (rest := [.int ((anX0_ramp (xs (4 * t + 1))))]) ⟨hx, hb, hml, hown, hts⟩ (metX1_ramp l dC dI ct bd H.size v (pr_hL R) (xs (4 * t + 1)) (xs (4 * t + 2)) (xs (4 * t + 3))) (cwV 3 hts gL_law_X1_ramp rfl rfl rfl (by decide +kernel) ⟨(Nat.le_of_ble_eq_true rfl), (Nat.le_of_ble_eq_true rfl)⟩) ⟨fun a U g mk q => by obtain ⟨q0, q1, qP, qK, qD⟩ := q; exact ⟨q0, q1, qP, va_K.moved (u := U) (U := U.calling g mk a) (Vm.Alike.refl U.vm) qK, qD⟩, va_recv hK hPc (ci := 1) (q0 := 0) rfl rfl, fun U hU hW => ⟨rfl, by rw [hU], by rw [hU]; exact hPc, va_K.moved hW.alike hK, hDc.weaken (fun _ _ _ _ => trivial)⟩⟩ rfl rfl hl.1 rfl (lv_room (Nat.le_of_ble_eq_true rfl)) dL_law_443 ⟨by show 42 + t + 0 ≤ 654044; omega, by show 499 + 6 * t + 0 ≤ 7133972; omega⟩) hS (fun q _ h => hFc q h) hFc (fun r_8 u9 t9 H1 locs ht9 hvm hw9 hB hz1 hk1 hS => ?_)
  obtain ⟨hP1, -, hD1⟩ := hB
  rw [ht9] at hP1
  subst hw9
  obtain ⟨hP, hD⟩ := cb_joinL hP hD hk1 hFc hP1 hD1
  have hP := cb_mid hP
  have hD := cb_midD hD
  generalize H1 = H at hP hS ⊢
  have hP : va_P (dC, dI) vwCl (law_w ct ad bd o (stX0_ramp u (xs (4 * t + 1)) (xs (4 * t + 2)) (xs (4 * t + 3))) (stX1_ramp v (xs (4 * t + 1)) (xs (4 * t + 2)) (xs (4 * t + 3))) F) H := hP
  have hD : va_D (law_A s) (law_w ct ad bd o (stX0_ramp u (xs (4 * t + 1)) (xs (4 * t + 2)) (xs (4 * t + 3))) (stX1_ramp v (xs (4 * t + 1)) (xs (4 * t + 2)) (xs (4 * t + 3))) F) := hD
  refine lv_icmp_eq (tgt := 556) hx hb dL_law_446 (by decide) (fun c_9 => ?_) (fun c_9 => ?_)
  · refine W.widen (k := 42 + t + 1) (n := 499 + 6 * t + 6) (by omega) (by omega) ?_
    exact law_next C0 t next _ _ _ H locs ls (pr_rampC R _ _ _).2 hP hD hS (lv_sub hl [0, 1, 2, 3, 4] rfl)
  · refine lv_iconst (v := 0) hx hb dL_law_449 (by decide) ?_
    exact absurd (pr_rampC R (xs (4 * t + 1)) (xs (4 * t + 2)) (xs (4 * t + 3))).1 c_9

set_option maxHeartbeats 4000000 in
set_option maxRecDepth 100000 in
theorem law_c9 {p : Program} {l : Launch} {e : Env} {s : State} {m : MethodId} {below : List Frame} {meth : Method} {c : Code} {dC : Nat → ClassId} {dI : Nat → Nat → Nat} {ct : Nat → ClassId} {ad bd : Nat → Nat} {o b L : Nat} {xs : Nat → Int32} (hL : L ≤ 2048) (C0 : lw_At p s m meth c b L xs) (hl9 : l.stackTraces = false) (hK : va_K (dC, dI) vwCl (cb_ty ct) s) (hX : cb_X (law_A s) s) (t : Nat) (ht : 4 * t + 4 ≤ L) (next : law_I p l e s m below meth c dC dI ct ad bd o b 23 (t + 1) (42 + (t + 1)) (499 + 6 * (t + 1))) : law_I p l e s m below meth c dC dI ct ad bd o b 464 t (42 + t) (499 + 6 * t) := by
  intro u v F H locs ls R hP hD hS hl
  obtain ⟨hx, hb, hr, hml, hown0, hts0, hXs, hbl, hlocks, hgv⟩ := id C0
  have hown : s.vm.findClass RL = some m.cls := hown0
  have hts : ∀ w ∈ wsL_law, w.before #[Value.ref b] s = true := fun w h => hts0 w (wsL_law_in w h)
  have hA : ∀ q : Nat, s.heap.size ≤ q → law_A s q := fun _ h => h
  have hbA : ¬ law_A s b := Nat.not_le.mpr hbl
  refine lv_aload_n hx hb dL_law_464 rfl (lv_at hl 1 rfl) ?_
  refine lv_aload_n hx hb dL_law_465 rfl (lv_at hl 0 rfl) ?_
  refine lv_iload hx hb dL_law_466 (lv_at hl 4 rfl) ?_
  refine lv_iconst (v := 1) hx hb dL_law_468 (by decide) ?_
  refine lv_iadd hx hb dL_law_469 ?_
  refine lv_topi (fun x_1 ex_1 => ?_)
  obtain rfl : x_1 = nI (4 * t + 1) := ex_1.trans (nI_add (4 * t) 1)
  refine cb_sld hx hb hXs hbl hbA hS (j := 4 * t + 1) (by omega) (by omega) dL_law_470 ?_
  refine lv_aload_n hx hb dL_law_471 rfl (lv_at hl 0 rfl) ?_
  refine lv_iload hx hb dL_law_472 (lv_at hl 4 rfl) ?_
  refine lv_iconst (v := 2) hx hb dL_law_474 (by decide) ?_
  refine lv_iadd hx hb dL_law_475 ?_
  refine lv_topi (fun x_2 ex_2 => ?_)
  obtain rfl : x_2 = nI (4 * t + 2) := ex_2.trans (nI_add (4 * t) 2)
  refine cb_sld hx hb hXs hbl hbA hS (j := 4 * t + 2) (by omega) (by omega) dL_law_476 ?_
  have hPc := cb_P1 hP
  have hDc := cb_D1 hD
  have hFc := cb_freeL hD hS hA
  refine va_calli (va_runV (As := [.int ((xs (4 * t + 1))), .int ((xs (4 * t + 2)))]) (rest := []) ⟨hx, hb, hml, hown, hts⟩ (metX0_out l dC dI ct ad H.size u (xs (4 * t + 1)) (xs (4 * t + 2))) (cwV 2 hts gL_law_X0_out rfl rfl rfl (by decide +kernel) ⟨(Nat.le_of_ble_eq_true rfl), (Nat.le_of_ble_eq_true rfl)⟩) ⟨fun a U g mk q => by obtain ⟨q0, q1, qP, qK, qD⟩ := q; exact ⟨q0, q1, qP, va_K.moved (u := U) (U := U.calling g mk a) (Vm.Alike.refl U.vm) qK, qD⟩, va_recv hK hPc (ci := 0) (q0 := 0) rfl rfl, fun U hU hW => ⟨rfl, by rw [hU], by rw [hU]; exact hPc, va_K.moved hW.alike hK, hDc.weaken (fun _ _ _ _ => trivial)⟩⟩ rfl rfl hl.1 rfl (lv_room (Nat.le_of_ble_eq_true rfl)) dL_law_477 ⟨by show 42 + t + 0 ≤ 654044; omega, by show 499 + 6 * t + 0 ≤ 7133972; omega⟩) hS (fun q _ h => hFc q h) hFc (fun r_3 u9 t9 H1 locs ht9 hvm hw9 hB hz1 hk1 hS => ?_)
  obtain ⟨hP1, -, hD1⟩ := hB
  rw [ht9] at hP1
  subst hw9
  obtain ⟨hP, hD⟩ := cb_joinL hP hD hk1 hFc hP1 hD1
  generalize H1 = H at hP hS ⊢
  have hP : va_P (dC, dI) vwCl (law_w ct ad bd o (stX0_out u (xs (4 * t + 1)) (xs (4 * t + 2))) v F) H := hP
  have hD : va_D (law_A s) (law_w ct ad bd o (stX0_out u (xs (4 * t + 1)) (xs (4 * t + 2))) v F) := hD
  refine lv_aload_n hx hb dL_law_480 rfl (lv_at hl 2 rfl) ?_
  refine lv_aload_n hx hb dL_law_481 rfl (lv_at hl 0 rfl) ?_
  refine lv_iload hx hb dL_law_482 (lv_at hl 4 rfl) ?_
  refine lv_iconst (v := 1) hx hb dL_law_484 (by decide) ?_
  refine lv_iadd hx hb dL_law_485 ?_
  refine lv_topi (fun x_4 ex_4 => ?_)
  obtain rfl : x_4 = nI (4 * t + 1) := ex_4.trans (nI_add (4 * t) 1)
  refine cb_sld hx hb hXs hbl hbA hS (j := 4 * t + 1) (by omega) (by omega) dL_law_486 ?_
  refine lv_aload_n hx hb dL_law_487 rfl (lv_at hl 0 rfl) ?_
  refine lv_iload hx hb dL_law_488 (lv_at hl 4 rfl) ?_
  refine lv_iconst (v := 2) hx hb dL_law_490 (by decide) ?_
  refine lv_iadd hx hb dL_law_491 ?_
  refine lv_topi (fun x_5 ex_5 => ?_)
  obtain rfl : x_5 = nI (4 * t + 2) := ex_5.trans (nI_add (4 * t) 2)
  refine cb_sld hx hb hXs hbl hbA hS (j := 4 * t + 2) (by omega) (by omega) dL_law_492 ?_
  have hP := cb_mid hP
  have hD := cb_midD hD
  have hPc := cb_P1 hP
  have hDc := cb_D1 hD
  have hFc := cb_freeL hD hS hA
  refine va_calli (va_runV (As := [.int ((xs (4 * t + 1))), .int ((xs (4 * t + 2)))]) (rest := [.int ((anX0_out u (xs (4 * t + 1)) (xs (4 * t + 2))))]) ⟨hx, hb, hml, hown, hts⟩ (metX1_out l dC dI ct bd H.size v (xs (4 * t + 1)) (xs (4 * t + 2))) (cwV 2 hts gL_law_X1_out rfl rfl rfl (by decide +kernel) ⟨(Nat.le_of_ble_eq_true rfl), (Nat.le_of_ble_eq_true rfl)⟩) ⟨fun a U g mk q => by obtain ⟨q0, q1, qP, qK, qD⟩ := q; exact ⟨q0, q1, qP, va_K.moved (u := U) (U := U.calling g mk a) (Vm.Alike.refl U.vm) qK, qD⟩, va_recv hK hPc (ci := 1) (q0 := 0) rfl rfl, fun U hU hW => ⟨rfl, by rw [hU], by rw [hU]; exact hPc, va_K.moved hW.alike hK, hDc.weaken (fun _ _ _ _ => trivial)⟩⟩ rfl rfl hl.1 rfl (lv_room (Nat.le_of_ble_eq_true rfl)) dL_law_493 ⟨by show 42 + t + 0 ≤ 654044; omega, by show 499 + 6 * t + 0 ≤ 7133972; omega⟩) hS (fun q _ h => hFc q h) hFc (fun r_6 u9 t9 H1 locs ht9 hvm hw9 hB hz1 hk1 hS => ?_)
  obtain ⟨hP1, -, hD1⟩ := hB
  rw [ht9] at hP1
  subst hw9
  obtain ⟨hP, hD⟩ := cb_joinL hP hD hk1 hFc hP1 hD1
  have hP := cb_mid hP
  have hD := cb_midD hD
  generalize H1 = H at hP hS ⊢
  have hP : va_P (dC, dI) vwCl (law_w ct ad bd o (stX0_out u (xs (4 * t + 1)) (xs (4 * t + 2))) (stX1_out v (xs (4 * t + 1)) (xs (4 * t + 2))) F) H := hP
  have hD : va_D (law_A s) (law_w ct ad bd o (stX0_out u (xs (4 * t + 1)) (xs (4 * t + 2))) (stX1_out v (xs (4 * t + 1)) (xs (4 * t + 2))) F) := hD
  refine lv_icmp_eq (tgt := 556) hx hb dL_law_496 (by decide) (fun c_7 => ?_) (fun c_7 => ?_)
  · refine W.widen (k := 42 + t + 1) (n := 499 + 6 * t + 6) (by omega) (by omega) ?_
    exact law_next C0 t next _ _ _ H locs ls (pr_outC R _ _).2 hP hD hS (lv_sub hl [0, 1, 2, 3, 4] rfl)
  · refine lv_iconst (v := 0) hx hb dL_law_499 (by decide) ?_
    exact absurd (pr_outC R (xs (4 * t + 1)) (xs (4 * t + 2))).1 c_7

set_option maxHeartbeats 4000000 in
set_option maxRecDepth 100000 in
theorem law_c4 {p : Program} {l : Launch} {e : Env} {s : State} {m : MethodId} {below : List Frame} {meth : Method} {c : Code} {dC : Nat → ClassId} {dI : Nat → Nat → Nat} {ct : Nat → ClassId} {ad bd : Nat → Nat} {o b L : Nat} {xs : Nat → Int32} (hL : L ≤ 2048) (C0 : lw_At p s m meth c b L xs) (hl9 : l.stackTraces = false) (hK : va_K (dC, dI) vwCl (cb_ty ct) s) (hX : cb_X (law_A s) s) (t : Nat) (ht : 4 * t + 4 ≤ L) (next : law_I p l e s m below meth c dC dI ct ad bd o b 23 (t + 1) (42 + (t + 1)) (499 + 6 * (t + 1))) : law_I p l e s m below meth c dC dI ct ad bd o b 275 t (42 + t) (499 + 6 * t) := by
  intro u v F H locs ls R hP hD hS hl
  obtain ⟨hx, hb, hr, hml, hown0, hts0, hXs, hbl, hlocks, hgv⟩ := id C0
  have hown : s.vm.findClass RL = some m.cls := hown0
  have hts : ∀ w ∈ wsL_law, w.before #[Value.ref b] s = true := fun w h => hts0 w (wsL_law_in w h)
  have hA : ∀ q : Nat, s.heap.size ≤ q → law_A s q := fun _ h => h
  have hbA : ¬ law_A s b := Nat.not_le.mpr hbl
  refine lv_aload_n hx hb dL_law_275 rfl (lv_at hl 1 rfl) ?_
  refine lv_aload_n hx hb dL_law_276 rfl (lv_at hl 0 rfl) ?_
  refine lv_iload hx hb dL_law_277 (lv_at hl 4 rfl) ?_
  refine lv_iconst (v := 1) hx hb dL_law_279 (by decide) ?_
  refine lv_iadd hx hb dL_law_280 ?_
  refine lv_topi (fun x_1 ex_1 => ?_)
  obtain rfl : x_1 = nI (4 * t + 1) := ex_1.trans (nI_add (4 * t) 1)
  refine cb_sld hx hb hXs hbl hbA hS (j := 4 * t + 1) (by omega) (by omega) dL_law_281 ?_
  refine lv_aload_n hx hb dL_law_282 rfl (lv_at hl 0 rfl) ?_
  refine lv_iload hx hb dL_law_283 (lv_at hl 4 rfl) ?_
  refine lv_iconst (v := 2) hx hb dL_law_285 (by decide) ?_
  refine lv_iadd hx hb dL_law_286 ?_
  refine lv_topi (fun x_2 ex_2 => ?_)
  obtain rfl : x_2 = nI (4 * t + 2) := ex_2.trans (nI_add (4 * t) 2)
  refine cb_sld hx hb hXs hbl hbA hS (j := 4 * t + 2) (by omega) (by omega) dL_law_287 ?_
  refine lv_if_eq (tgt := 295) hx hb dL_law_288 (by decide) (fun c_3 => ?_) (fun c_3 => ?_)
  · refine lv_iconst (v := 0) hx hb dL_law_295 (by decide) ?_
    have hPc := cb_P1 hP
    have hDc := cb_D1 hD
    have hFc := cb_freeL hD hS hA
    refine va_calli (va_runV (As := [.int ((xs (4 * t + 1))), .int (0)]) (rest := []) ⟨hx, hb, hml, hown, hts⟩ (metX0_mute l dC dI ct ad H.size u (xs (4 * t + 1)) (0 : Int32)) (cwV 2 hts gL_law_X0_mute rfl rfl rfl (by decide +kernel) ⟨(Nat.le_of_ble_eq_true rfl), (Nat.le_of_ble_eq_true rfl)⟩) ⟨fun a U g mk q => by obtain ⟨q0, q1, qP, qK, qD⟩ := q; exact ⟨q0, q1, qP, va_K.moved (u := U) (U := U.calling g mk a) (Vm.Alike.refl U.vm) qK, qD⟩, va_recv hK hPc (ci := 0) (q0 := 0) rfl rfl, fun U hU hW => ⟨rfl, by rw [hU], by rw [hU]; exact hPc, va_K.moved hW.alike hK, hDc.weaken (fun _ _ _ _ => trivial)⟩⟩ rfl rfl hl.1 rfl (lv_room (Nat.le_of_ble_eq_true rfl)) dL_law_296 ⟨by show 42 + t + 0 ≤ 654044; omega, by show 499 + 6 * t + 0 ≤ 7133972; omega⟩) hS (fun q _ h => hFc q h) hFc (fun r_4 u9 t9 H1 locs ht9 hvm hw9 hB hz1 hk1 hS => ?_)
    obtain ⟨hP1, -, hD1⟩ := hB
    rw [ht9] at hP1
    subst hw9
    obtain ⟨hP, hD⟩ := cb_joinL hP hD hk1 hFc hP1 hD1
    generalize H1 = H at hP hS ⊢
    have hP : va_P (dC, dI) vwCl (law_w ct ad bd o (stX0_mute u (xs (4 * t + 1)) (0 : Int32)) v F) H := hP
    have hD : va_D (law_A s) (law_w ct ad bd o (stX0_mute u (xs (4 * t + 1)) (0 : Int32)) v F) := hD
    refine lv_aload_n hx hb dL_law_299 rfl (lv_at hl 2 rfl) ?_
    refine lv_aload_n hx hb dL_law_300 rfl (lv_at hl 0 rfl) ?_
    refine lv_iload hx hb dL_law_301 (lv_at hl 4 rfl) ?_
    refine lv_iconst (v := 1) hx hb dL_law_303 (by decide) ?_
    refine lv_iadd hx hb dL_law_304 ?_
    refine lv_topi (fun x_5 ex_5 => ?_)
    obtain rfl : x_5 = nI (4 * t + 1) := ex_5.trans (nI_add (4 * t) 1)
    refine cb_sld hx hb hXs hbl hbA hS (j := 4 * t + 1) (by omega) (by omega) dL_law_305 ?_
    refine lv_aload_n hx hb dL_law_306 rfl (lv_at hl 0 rfl) ?_
    refine lv_iload hx hb dL_law_307 (lv_at hl 4 rfl) ?_
    refine lv_iconst (v := 2) hx hb dL_law_309 (by decide) ?_
    refine lv_iadd hx hb dL_law_310 ?_
    refine lv_topi (fun x_6 ex_6 => ?_)
    obtain rfl : x_6 = nI (4 * t + 2) := ex_6.trans (nI_add (4 * t) 2)
    refine cb_sld hx hb hXs hbl hbA hS (j := 4 * t + 2) (by omega) (by omega) dL_law_311 ?_
    refine lv_if_eq (tgt := 319) hx hb dL_law_312 (by decide) (fun _ => ?_) (fun c9 => absurd c_3 c9)
    refine lv_iconst (v := 0) hx hb dL_law_319 (by decide) ?_
    have hP := cb_mid hP
    have hD := cb_midD hD
    have hPc := cb_P1 hP
    have hDc := cb_D1 hD
    have hFc := cb_freeL hD hS hA
    refine va_calli (va_runV (As := [.int ((xs (4 * t + 1))), .int (0)]) (rest := [.int ((anX0_mute u (xs (4 * t + 1)) (0 : Int32)))]) ⟨hx, hb, hml, hown, hts⟩ (metX1_mute l dC dI ct bd H.size v (xs (4 * t + 1)) (0 : Int32)) (cwV 2 hts gL_law_X1_mute rfl rfl rfl (by decide +kernel) ⟨(Nat.le_of_ble_eq_true rfl), (Nat.le_of_ble_eq_true rfl)⟩) ⟨fun a U g mk q => by obtain ⟨q0, q1, qP, qK, qD⟩ := q; exact ⟨q0, q1, qP, va_K.moved (u := U) (U := U.calling g mk a) (Vm.Alike.refl U.vm) qK, qD⟩, va_recv hK hPc (ci := 1) (q0 := 0) rfl rfl, fun U hU hW => ⟨rfl, by rw [hU], by rw [hU]; exact hPc, va_K.moved hW.alike hK, hDc.weaken (fun _ _ _ _ => trivial)⟩⟩ rfl rfl hl.1 rfl (lv_room (Nat.le_of_ble_eq_true rfl)) dL_law_320 ⟨by show 42 + t + 0 ≤ 654044; omega, by show 499 + 6 * t + 0 ≤ 7133972; omega⟩) hS (fun q _ h => hFc q h) hFc (fun r_8 u9 t9 H1 locs ht9 hvm hw9 hB hz1 hk1 hS => ?_)
    obtain ⟨hP1, -, hD1⟩ := hB
    rw [ht9] at hP1
    subst hw9
    obtain ⟨hP, hD⟩ := cb_joinL hP hD hk1 hFc hP1 hD1
    have hP := cb_mid hP
    have hD := cb_midD hD
    generalize H1 = H at hP hS ⊢
    have hP : va_P (dC, dI) vwCl (law_w ct ad bd o (stX0_mute u (xs (4 * t + 1)) (0 : Int32)) (stX1_mute v (xs (4 * t + 1)) (0 : Int32)) F) H := hP
    have hD : va_D (law_A s) (law_w ct ad bd o (stX0_mute u (xs (4 * t + 1)) (0 : Int32)) (stX1_mute v (xs (4 * t + 1)) (0 : Int32)) F) := hD
    refine lv_icmp_eq (tgt := 556) hx hb dL_law_323 (by decide) (fun c_9 => ?_) (fun c_9 => ?_)
    · refine W.widen (k := 42 + t + 1) (n := 499 + 6 * t + 6) (by omega) (by omega) ?_
      exact law_next C0 t next _ _ _ H locs ls (pr_muteC R _ _).2 hP hD hS (lv_sub hl [0, 1, 2, 3, 4] rfl)
    · refine lv_iconst (v := 0) hx hb dL_law_326 (by decide) ?_
      exact absurd (pr_muteC R (xs (4 * t + 1)) (0 : Int32)).1 c_9
  · refine lv_iconst (v := 1) hx hb dL_law_291 (by decide) ?_
    refine lv_goto (tgt := 296) hx hb dL_law_292 (by decide) ?_
    have hPc := cb_P1 hP
    have hDc := cb_D1 hD
    have hFc := cb_freeL hD hS hA
    refine va_calli (va_runV (As := [.int ((xs (4 * t + 1))), .int (1)]) (rest := []) ⟨hx, hb, hml, hown, hts⟩ (metX0_mute l dC dI ct ad H.size u (xs (4 * t + 1)) (1 : Int32)) (cwV 2 hts gL_law_X0_mute rfl rfl rfl (by decide +kernel) ⟨(Nat.le_of_ble_eq_true rfl), (Nat.le_of_ble_eq_true rfl)⟩) ⟨fun a U g mk q => by obtain ⟨q0, q1, qP, qK, qD⟩ := q; exact ⟨q0, q1, qP, va_K.moved (u := U) (U := U.calling g mk a) (Vm.Alike.refl U.vm) qK, qD⟩, va_recv hK hPc (ci := 0) (q0 := 0) rfl rfl, fun U hU hW => ⟨rfl, by rw [hU], by rw [hU]; exact hPc, va_K.moved hW.alike hK, hDc.weaken (fun _ _ _ _ => trivial)⟩⟩ rfl rfl hl.1 rfl (lv_room (Nat.le_of_ble_eq_true rfl)) dL_law_296 ⟨by show 42 + t + 0 ≤ 654044; omega, by show 499 + 6 * t + 0 ≤ 7133972; omega⟩) hS (fun q _ h => hFc q h) hFc (fun r_10 u9 t9 H1 locs ht9 hvm hw9 hB hz1 hk1 hS => ?_)
    obtain ⟨hP1, -, hD1⟩ := hB
    rw [ht9] at hP1
    subst hw9
    obtain ⟨hP, hD⟩ := cb_joinL hP hD hk1 hFc hP1 hD1
    generalize H1 = H at hP hS ⊢
    have hP : va_P (dC, dI) vwCl (law_w ct ad bd o (stX0_mute u (xs (4 * t + 1)) (1 : Int32)) v F) H := hP
    have hD : va_D (law_A s) (law_w ct ad bd o (stX0_mute u (xs (4 * t + 1)) (1 : Int32)) v F) := hD
    refine lv_aload_n hx hb dL_law_299 rfl (lv_at hl 2 rfl) ?_
    refine lv_aload_n hx hb dL_law_300 rfl (lv_at hl 0 rfl) ?_
    refine lv_iload hx hb dL_law_301 (lv_at hl 4 rfl) ?_
    refine lv_iconst (v := 1) hx hb dL_law_303 (by decide) ?_
    refine lv_iadd hx hb dL_law_304 ?_
    refine lv_topi (fun x_11 ex_11 => ?_)
    obtain rfl : x_11 = nI (4 * t + 1) := ex_11.trans (nI_add (4 * t) 1)
    refine cb_sld hx hb hXs hbl hbA hS (j := 4 * t + 1) (by omega) (by omega) dL_law_305 ?_
    refine lv_aload_n hx hb dL_law_306 rfl (lv_at hl 0 rfl) ?_
    refine lv_iload hx hb dL_law_307 (lv_at hl 4 rfl) ?_
    refine lv_iconst (v := 2) hx hb dL_law_309 (by decide) ?_
    refine lv_iadd hx hb dL_law_310 ?_
    refine lv_topi (fun x_12 ex_12 => ?_)
    obtain rfl : x_12 = nI (4 * t + 2) := ex_12.trans (nI_add (4 * t) 2)
    refine cb_sld hx hb hXs hbl hbA hS (j := 4 * t + 2) (by omega) (by omega) dL_law_311 ?_
    refine lv_if_eq (tgt := 319) hx hb dL_law_312 (by decide) (fun c9 => absurd c9 c_3) (fun _ => ?_)
    refine lv_iconst (v := 1) hx hb dL_law_315 (by decide) ?_
    refine lv_goto (tgt := 320) hx hb dL_law_316 (by decide) ?_
    have hP := cb_mid hP
    have hD := cb_midD hD
    have hPc := cb_P1 hP
    have hDc := cb_D1 hD
    have hFc := cb_freeL hD hS hA
    refine va_calli (va_runV (As := [.int ((xs (4 * t + 1))), .int (1)]) (rest := [.int ((anX0_mute u (xs (4 * t + 1)) (1 : Int32)))]) ⟨hx, hb, hml, hown, hts⟩ (metX1_mute l dC dI ct bd H.size v (xs (4 * t + 1)) (1 : Int32)) (cwV 2 hts gL_law_X1_mute rfl rfl rfl (by decide +kernel) ⟨(Nat.le_of_ble_eq_true rfl), (Nat.le_of_ble_eq_true rfl)⟩) ⟨fun a U g mk q => by obtain ⟨q0, q1, qP, qK, qD⟩ := q; exact ⟨q0, q1, qP, va_K.moved (u := U) (U := U.calling g mk a) (Vm.Alike.refl U.vm) qK, qD⟩, va_recv hK hPc (ci := 1) (q0 := 0) rfl rfl, fun U hU hW => ⟨rfl, by rw [hU], by rw [hU]; exact hPc, va_K.moved hW.alike hK, hDc.weaken (fun _ _ _ _ => trivial)⟩⟩ rfl rfl hl.1 rfl (lv_room (Nat.le_of_ble_eq_true rfl)) dL_law_320 ⟨by show 42 + t + 0 ≤ 654044; omega, by show 499 + 6 * t + 0 ≤ 7133972; omega⟩) hS (fun q _ h => hFc q h) hFc (fun r_14 u9 t9 H1 locs ht9 hvm hw9 hB hz1 hk1 hS => ?_)
    obtain ⟨hP1, -, hD1⟩ := hB
    rw [ht9] at hP1
    subst hw9
    obtain ⟨hP, hD⟩ := cb_joinL hP hD hk1 hFc hP1 hD1
    have hP := cb_mid hP
    have hD := cb_midD hD
    generalize H1 = H at hP hS ⊢
    have hP : va_P (dC, dI) vwCl (law_w ct ad bd o (stX0_mute u (xs (4 * t + 1)) (1 : Int32)) (stX1_mute v (xs (4 * t + 1)) (1 : Int32)) F) H := hP
    have hD : va_D (law_A s) (law_w ct ad bd o (stX0_mute u (xs (4 * t + 1)) (1 : Int32)) (stX1_mute v (xs (4 * t + 1)) (1 : Int32)) F) := hD
    refine lv_icmp_eq (tgt := 556) hx hb dL_law_323 (by decide) (fun c_15 => ?_) (fun c_15 => ?_)
    · refine W.widen (k := 42 + t + 1) (n := 499 + 6 * t + 6) (by omega) (by omega) ?_
      exact law_next C0 t next _ _ _ H locs ls (pr_muteC R _ _).2 hP hD hS (lv_sub hl [0, 1, 2, 3, 4] rfl)
    · refine lv_iconst (v := 0) hx hb dL_law_326 (by decide) ?_
      exact absurd (pr_muteC R (xs (4 * t + 1)) (1 : Int32)).1 c_15

set_option maxHeartbeats 4000000 in
set_option maxRecDepth 100000 in
theorem law_c8 {p : Program} {l : Launch} {e : Env} {s : State} {m : MethodId} {below : List Frame} {meth : Method} {c : Code} {dC : Nat → ClassId} {dI : Nat → Nat → Nat} {ct : Nat → ClassId} {ad bd : Nat → Nat} {o b L : Nat} {xs : Nat → Int32} (hL : L ≤ 2048) (C0 : lw_At p s m meth c b L xs) (hl9 : l.stackTraces = false) (hK : va_K (dC, dI) vwCl (cb_ty ct) s) (hX : cb_X (law_A s) s) (t : Nat) (ht : 4 * t + 4 ≤ L) (next : law_I p l e s m below meth c dC dI ct ad bd o b 23 (t + 1) (42 + (t + 1)) (499 + 6 * (t + 1))) : law_I p l e s m below meth c dC dI ct ad bd o b 451 t (42 + t) (499 + 6 * t) := by
  intro u v F H locs ls R hP hD hS hl
  obtain ⟨hx, hb, hr, hml, hown0, hts0, hXs, hbl, hlocks, hgv⟩ := id C0
  have hown : s.vm.findClass RL = some m.cls := hown0
  have hts : ∀ w ∈ wsL_law, w.before #[Value.ref b] s = true := fun w h => hts0 w (wsL_law_in w h)
  have hA : ∀ q : Nat, s.heap.size ≤ q → law_A s q := fun _ h => h
  have hbA : ¬ law_A s b := Nat.not_le.mpr hbl
  obtain ⟨M, hM, eM, eM2⟩ := R.2.2.2.2.2.1
  refine lv_aload_n hx hb dL_law_451 rfl (lv_at hl 1 rfl) ?_
  have hPc := cb_P1 hP
  have hDc := cb_D1 hD
  have hFc := cb_freeL hD hS hA
  refine va_calli (va_runV (As := []) (rest := []) ⟨hx, hb, hml, hown, hts⟩ (metX0_mix l dC dI ct ad H.size u M hM eM ) (cwV 0 hts gL_law_X0_mix rfl rfl rfl (by decide +kernel) ⟨(Nat.le_of_ble_eq_true rfl), (Nat.le_of_ble_eq_true rfl)⟩) ⟨fun a U g mk q => by obtain ⟨q0, q1, qP, qK, qD⟩ := q; exact ⟨q0, q1, qP, va_K.moved (u := U) (U := U.calling g mk a) (Vm.Alike.refl U.vm) qK, qD⟩, va_recv hK hPc (ci := 0) (q0 := 0) rfl rfl, fun U hU hW => ⟨rfl, by rw [hU], by rw [hU]; exact hPc, va_K.moved hW.alike hK, hDc.weaken (fun _ _ _ _ => trivial)⟩⟩ rfl rfl hl.1 rfl (lv_room (Nat.le_of_ble_eq_true rfl)) dL_law_452 ⟨by show 42 + t + 0 ≤ 654044; omega, by show 499 + 6 * t + 0 ≤ 7133972; omega⟩) hS (fun q _ h => hFc q h) hFc (fun r_1 u9 t9 H1 locs ht9 hvm hw9 hB hz1 hk1 hS => ?_)
  obtain ⟨hP1, -, hD1⟩ := hB
  rw [ht9] at hP1
  subst hw9
  obtain ⟨hP, hD⟩ := cb_joinL hP hD hk1 hFc hP1 hD1
  generalize H1 = H at hP hS ⊢
  have hP : va_P (dC, dI) vwCl (law_w ct ad bd o (stX0_mix u M) v F) H := hP
  have hD : va_D (law_A s) (law_w ct ad bd o (stX0_mix u M) v F) := hD
  refine lv_aload_n hx hb dL_law_455 rfl (lv_at hl 2 rfl) ?_
  have hP := cb_mid hP
  have hD := cb_midD hD
  have hPc := cb_P1 hP
  have hDc := cb_D1 hD
  have hFc := cb_freeL hD hS hA
  refine va_calli (va_runV (As := []) (rest := [.int ((anX0_mix u M))]) ⟨hx, hb, hml, hown, hts⟩ (metX1_mix l dC dI ct bd H.size v (pr_hL R) (pr_hI R) M hM eM2 ) (cwV 0 hts gL_law_X1_mix rfl rfl rfl (by decide +kernel) ⟨(Nat.le_of_ble_eq_true rfl), (Nat.le_of_ble_eq_true rfl)⟩) ⟨fun a U g mk q => by obtain ⟨q0, q1, qP, qK, qD⟩ := q; exact ⟨q0, q1, qP, va_K.moved (u := U) (U := U.calling g mk a) (Vm.Alike.refl U.vm) qK, qD⟩, va_recv hK hPc (ci := 1) (q0 := 0) rfl rfl, fun U hU hW => ⟨rfl, by rw [hU], by rw [hU]; exact hPc, va_K.moved hW.alike hK, hDc.weaken (fun _ _ _ _ => trivial)⟩⟩ rfl rfl hl.1 rfl (lv_room (Nat.le_of_ble_eq_true rfl)) dL_law_456 ⟨by show 42 + t + 0 ≤ 654044; omega, by show 499 + 6 * t + 0 ≤ 7133972; omega⟩) hS (fun q _ h => hFc q h) hFc (fun r_2 u9 t9 H1 locs ht9 hvm hw9 hB hz1 hk1 hS => ?_)
  obtain ⟨hP1, -, hD1⟩ := hB
  rw [ht9] at hP1
  subst hw9
  obtain ⟨hP, hD⟩ := cb_joinL hP hD hk1 hFc hP1 hD1
  have hP := cb_mid hP
  have hD := cb_midD hD
  generalize H1 = H at hP hS ⊢
  have hP : va_P (dC, dI) vwCl (law_w ct ad bd o (stX0_mix u M) (stX1_mix v M) F) H := hP
  have hD : va_D (law_A s) (law_w ct ad bd o (stX0_mix u M) (stX1_mix v M) F) := hD
  refine lv_icmp_eq (tgt := 556) hx hb dL_law_459 (by decide) (fun c_3 => ?_) (fun c_3 => ?_)
  · refine W.widen (k := 42 + t + 1) (n := 499 + 6 * t + 6) (by omega) (by omega) ?_
    exact law_next C0 t next _ _ _ H locs ls (pr_mixC R M).2 hP hD hS (lv_sub hl [0, 1, 2, 3, 4] rfl)
  · refine lv_iconst (v := 0) hx hb dL_law_462 (by decide) ?_
    exact absurd (pr_mixC R M).1 c_3
