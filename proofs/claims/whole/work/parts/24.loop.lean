/-! the law: its loop -/
set_option maxHeartbeats 4000000 in
set_option maxRecDepth 100000 in
theorem law_loop {p : Program} {l : Launch} {e : Env} {s : State} {m : MethodId} {below : List Frame} {meth : Method} {c : Code} {dC : Nat → ClassId} {dI : Nat → Nat → Nat} {ct : Nat → ClassId} {ad bd : Nat → Nat} {o b L : Nat} {xs : Nat → Int32} (hL : L ≤ 2048) (C0 : lw_At p s m meth c b L xs) (hl9 : l.stackTraces = false) (hK : va_K (dC, dI) vwCl (cb_ty ct) s) (hX : cb_X (law_A s) s) : ∀ (n t : Nat), t ≤ 512 → 513 ≤ t + n → law_I p l e s m below meth c dC dI ct ad bd o b 23 t (42 + t) (499 + 6 * t) := by
  intro n
  induction n with
  | zero => intro t h1 h2; exact absurd h2 (by omega)
  | succ n ih =>
    intro t h1 h2 u v F H locs ls R hP hD hS hl
    obtain ⟨hx, hb, hr, hml, hown0, hts0, hXs, hbl, hlocks, hgv⟩ := id C0
    have hbA : ¬ law_A s b := Nat.not_le.mpr hbl
    refine lv_iload hx hb dL_law_23 (lv_at hl 4 rfl) ?_
    refine lv_aload_n hx hb dL_law_25 rfl (lv_at hl 0 rfl) ?_
    refine va_slen hx hb hXs hbl hbA hS dL_law_26 ?_
    refine lv_iconst (v := 4) hx hb dL_law_27 (by decide) ?_
    refine lv_isub hx hb dL_law_28 ?_
    have e1 : (nI L - (4 : Int32)).toInt = (L : Int) - 4 := pk_sub_toInt (b := 4) (by omega) (by decide)
    have e2 : (nI (4 * t)).toInt = ((4 * t : Nat) : Int) := nI_toInt (by omega)
    refine lv_icmp_gt (tgt := 562) hx hb dL_law_29 (by decide) (fun c_1 => ?_) (fun c_1 => ?_)
    · refine lv_iconst (v := 1) hx hb dL_law_562 (by decide) ?_
      refine va_forget (fun q hq => hS.2.2 q hq) ?_
      refine W.widen (k := 654044) (n := 7133972) (by omega) (by omega) ?_
      exact lw_ret hx hb hr hlocks dL_law_563
    · have ht : 4 * t + 4 ≤ L := by
        have c_2 : ¬ (nI L - (4 : Int32)).toInt < (nI (4 * t)).toInt := fun q => c_1 (Int32.lt_iff_toInt_lt.mpr q)
        rw [e1, e2] at c_2
        omega
      refine lv_aload_n hx hb dL_law_32 rfl (lv_at hl 0 rfl) ?_
      refine lv_iload hx hb dL_law_33 (lv_at hl 4 rfl) ?_
      refine cb_sld hx hb hXs hbl hbA hS (j := 4 * t) (by omega) (by omega) dL_law_35 ?_
      refine lv_bipush (v := 15) hx hb dL_law_36 (by decide) ?_
      refine lv_iand hx hb dL_law_38 ?_
      obtain ⟨n9, hn9, en⟩ := pk_andE (xs (4 * t)) (m := 15) 4 (by decide)
      refine lv_topi (fun x9 ex9 => ?_)
      obtain rfl : x9 = nI n9 := ex9.trans en
      have next := ih (t + 1) (by omega) (by omega)
      match n9, hn9 with
      | 0, _ =>
        refine lv_tableIn (off := 57) (tgt := 96) hx hb dL_law_39 (by decide) (by decide) (by decide) (by decide) ?_
        exact law_c0 hL C0 hl9 hK hX t ht next u v F H locs ls R hP hD hS hl
      | 1, _ =>
        refine lv_tableIn (off := 125) (tgt := 164) hx hb dL_law_39 (by decide) (by decide) (by decide) (by decide) ?_
        exact law_c1 hL C0 hl9 hK hX t ht next u v F H locs ls R hP hD hS hl
      | 2, _ =>
        refine lv_tableIn (off := 162) (tgt := 201) hx hb dL_law_39 (by decide) (by decide) (by decide) (by decide) ?_
        exact law_c2 hL C0 hl9 hK hX t ht next u v F H locs ls R hP hD hS hl
      | 3, _ =>
        refine lv_tableIn (off := 199) (tgt := 238) hx hb dL_law_39 (by decide) (by decide) (by decide) (by decide) ?_
        exact law_c3 hL C0 hl9 hK hX t ht next u v F H locs ls R hP hD hS hl
      | 4, _ =>
        refine lv_tableIn (off := 236) (tgt := 275) hx hb dL_law_39 (by decide) (by decide) (by decide) (by decide) ?_
        exact law_c4 hL C0 hl9 hK hX t ht next u v F H locs ls R hP hD hS hl
      | 5, _ =>
        refine lv_tableIn (off := 289) (tgt := 328) hx hb dL_law_39 (by decide) (by decide) (by decide) (by decide) ?_
        exact law_c5 hL C0 hl9 hK hX t ht next u v F H locs ls R hP hD hS hl
      | 6, _ =>
        refine lv_tableIn (off := 314) (tgt := 353) hx hb dL_law_39 (by decide) (by decide) (by decide) (by decide) ?_
        exact law_c6 hL C0 hl9 hK hX t ht next u v F H locs ls R hP hD hS hl
      | 7, _ =>
        refine lv_tableIn (off := 363) (tgt := 402) hx hb dL_law_39 (by decide) (by decide) (by decide) (by decide) ?_
        exact law_c7 hL C0 hl9 hK hX t ht next u v F H locs ls R hP hD hS hl
      | 8, _ =>
        refine lv_tableIn (off := 412) (tgt := 451) hx hb dL_law_39 (by decide) (by decide) (by decide) (by decide) ?_
        exact law_c8 hL C0 hl9 hK hX t ht next u v F H locs ls R hP hD hS hl
      | 9, _ =>
        refine lv_tableIn (off := 425) (tgt := 464) hx hb dL_law_39 (by decide) (by decide) (by decide) (by decide) ?_
        exact law_c9 hL C0 hl9 hK hX t ht next u v F H locs ls R hP hD hS hl
      | 10, _ =>
        refine lv_tableIn (off := 462) (tgt := 501) hx hb dL_law_39 (by decide) (by decide) (by decide) (by decide) ?_
        exact law_c10 hL C0 hl9 hK hX t ht next u v F H locs ls R hP hD hS hl
      | 11, _ =>
        refine lv_tableOut (tgt := 556) hx hb dL_law_39 (Or.inr (by decide)) (by decide) ?_
        refine W.widen (k := 42 + t + 1) (n := 499 + 6 * t + 6) (by omega) (by omega) ?_
        exact law_next C0 t next u v F H locs ls R hP hD hS hl
      | 12, _ =>
        refine lv_tableOut (tgt := 556) hx hb dL_law_39 (Or.inr (by decide)) (by decide) ?_
        refine W.widen (k := 42 + t + 1) (n := 499 + 6 * t + 6) (by omega) (by omega) ?_
        exact law_next C0 t next u v F H locs ls R hP hD hS hl
      | 13, _ =>
        refine lv_tableOut (tgt := 556) hx hb dL_law_39 (Or.inr (by decide)) (by decide) ?_
        refine W.widen (k := 42 + t + 1) (n := 499 + 6 * t + 6) (by omega) (by omega) ?_
        exact law_next C0 t next u v F H locs ls R hP hD hS hl
      | 14, _ =>
        refine lv_tableOut (tgt := 556) hx hb dL_law_39 (Or.inr (by decide)) (by decide) ?_
        refine W.widen (k := 42 + t + 1) (n := 499 + 6 * t + 6) (by omega) (by omega) ?_
        exact law_next C0 t next u v F H locs ls R hP hD hS hl
      | 15, _ =>
        refine lv_tableOut (tgt := 556) hx hb dL_law_39 (Or.inr (by decide)) (by decide) ?_
        refine W.widen (k := 42 + t + 1) (n := 499 + 6 * t + 6) (by omega) (by omega) ?_
        exact law_next C0 t next u v F H locs ls R hP hD hS hl
      | n9 + 16, hn9 => exact absurd hn9 (by omega)
