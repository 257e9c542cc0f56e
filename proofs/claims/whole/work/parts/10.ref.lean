/-! the reference's methods with loops: what each does to the values -/
def mdVoice (a b g : Int32) : Int32 := fnX1_scaled (fnX1_meaning a b) g
def rmI (v : md_U) (j : Nat) (a2 a3 : Int32) : Nat → Nat → Int32
  | 0 => mdI v
  | k + 1 => upd (rmI v j a2 a3 k) (8 * j + k) (fnX1_codeOf (mdL v j) (fnX1_held (a2.toInt64 + (nI k).toInt64 * a3.toInt64)))
def anX1_ramp (a1 : Int32) : Int32 := if fnX1_not a1 (8 : Int32) = 0 then 1 else 0
def stX1_ramp (v : md_U) (a1 a2 a3 : Int32) : md_U := if fnX1_not a1 (8 : Int32) = 0 then md_sI (md_sT v 0) (rmI v a1.toNatClampNeg a2 a3 8) else md_sT v 0
def miV (v : md_U) (j : Nat) (V0 : Nat → Int32) : Nat → Nat → Int32
  | 0 => V0
  | k + 1 => upd (miV v j V0 k) (8 * j + k) (mdVoice (mdL v j) (mdI v (8 * j + k)) (mdG v j))
def miE (v : md_U) (j : Nat) (E0 : Nat → Int64) : Nat → Nat → Int64
  | 0 => E0
  | k + 1 => vp_updL (miE v j E0 k) j (miE v j E0 k j + (mdVoice (mdL v j) (mdI v (8 * j + k)) (mdG v j)).toInt64 * (mdVoice (mdL v j) (mdI v (8 * j + k)) (mdG v j)).toInt64)
def moV (v : md_U) : Nat → Nat → Int32
  | 0 => mdV v
  | j + 1 => miV v j (moV v j) 8
def moE (v : md_U) : Nat → Nat → Int64
  | 0 => mdE v
  | j + 1 => miE v j (vp_updL (moE v j) j 0) 8
def mdHear (v : md_U) : md_U := md_sE (md_sV (md_sT v 0) (moV v 8)) (moE v 8)
def mbF (v : md_U) (st : Int32) : Nat → Int32
  | 0 => -1
  | k + 1 => if ((st >>> ((nI k) &&& 31)) &&& (1 : Int32)) = 0 then (if mdS v k = 0 then (if lg_cmp (mdE v k) 0 ≤ 0 then mbF v st k else (if mbF v st k < 0 then nI k else (if lg_cmp (mdE v k) (mdE v (mbF v st k).toNatClampNeg) ≤ 0 then mbF v st k else nI k))) else mbF v st k) else mbF v st k
theorem mbF_cases (v : md_U) (st : Int32) : ∀ k, mbF v st k = -1 ∨ ∃ b, b < k ∧ mbF v st k = nI b
  | 0 => Or.inl rfl
  | k + 1 => by
    have h : mbF v st (k + 1) = mbF v st k ∨ mbF v st (k + 1) = nI k := by
      rw [mbF]
      repeat' split
      all_goals first | exact Or.inl rfl | exact Or.inr rfl
    rcases h with h | h
    · rcases mbF_cases v st k with e | ⟨b, hb, e⟩
      · exact Or.inl (h.trans e)
      · exact Or.inr ⟨b, by omega, h.trans e⟩
    · exact Or.inr ⟨k, by omega, h⟩
theorem md_best {v : md_U} {st : Int32} {k : Nat} (h : ¬ mbF v st k < 0) (hk : k ≤ 8) : vp_in (mbF v st k) 8 := by
  rcases mbF_cases v st k with e | ⟨b, hb, e⟩
  · rw [e] at h; exact absurd (by decide) h
  · rw [e]; exact vp_in_nI (by omega) (by decide)
def msF (v : md_U) : Nat → Int32 → Int32
  | 0, st => st
  | r + 1, st => msF v r (if mbF v st 8 < 0 then st else (st ||| ((1 : Int32) <<< ((mbF v st 8) &&& 31))))
def mcF (v : md_U) (st : Int32) (j k : Nat) : Nat → Int32
  | 0 => 0
  | o + 1 => if nI o = nI j then mcF v st j k o + (0 : Int32) else (if ((st >>> ((nI o) &&& 31)) &&& (1 : Int32)) = 1 then mcF v st j k o + mdV v (8 * o + k) else mcF v st j k o + (0 : Int32))
def mcO (v : md_U) (st : Int32) (j : Nat) (O0 : Nat → Int32) : Nat → Nat → Int32
  | 0 => O0
  | k + 1 => upd (mcO v st j O0 k) (8 * j + k) (fnX1_codeOf (mdL v j) (fnX1_held (mcF v st j k 8).toInt64))
def mcP (v : md_U) (st : Int32) : Nat → Nat → Int32
  | 0 => mdO v
  | j + 1 => mcO v st j (mcP v st j) 8
def anX1_mix (v : md_U) (M : Nat) : Int32 := msF (mdHear v) M 0
def stX1_mix (v : md_U) (M : Nat) : md_U := md_sO (mdHear v) (mcP (mdHear v) (anX1_mix v M) 8)

set_option maxHeartbeats 4000000 in
set_option maxRecDepth 100000 in
theorem lpX1_ramp_19 {p : Program} {l : Launch} {e : Env} {s : State} {m : MethodId} {args : Array Value} {below : List Frame} {meth : Method} {c : Code} {Q : State → Prop} {A : Nat → Prop} {dC : Nat → ClassId} {dI : Nat → Nat → Nat} {ct : Nat → ClassId} {ad : Nat → Nat} (hx : p.tables.exec = Jvm.exec) (hb : c.code = cX1_ramp) (hml : c.maxLocals = 5) (hown : s.vm.findClass RX1 = some m.cls) (hts : ∀ w ∈ wsX1_ramp, w.before args s = true) (hin0 : ∀ w ∈ u_ws RX1 TX1 9, w ∈ wsX1_ramp) (hK : va_K (dC, dI) vwCl (cb_ty ct) s) (hA : ∀ q : Nat, s.heap.size ≤ q → A q) (v : md_U) (hL : ∀ i, i < 8 → mdL v i = 0 ∨ mdL v i = 1) (j : Nat) (hj : j < 8) (a2 a3 : Int32)
    (kk : ∀ (H : Heap) (locs : List Loc) (ls : Array Slot), va_P (dC, dI) vwCl (md_w ct ad ((md_sI (md_sT v (0)) (rmI v j a2 a3 8)))) H → va_D A (md_w ct ad ((md_sI (md_sT v (0)) (rmI v j a2 a3 8)))) → va_S A s.heap H locs → lv_has ls 5 [(0, .ref (ad 0)), (1, .int (nI j)), (2, .int (a2)), (3, .int (a3)), (4, .int (nI 8))] → W p l e ({ frames := 1, cells := 0, slots := 0, locals := 23 }) s m args below meth c H locs 0 0 Q (F0 m 65 ls [])) :
    ∀ (n k : Nat), k ≤ 8 → 9 ≤ k + n → ∀ (H : Heap) (locs : List Loc) (ls : Array Slot), va_P (dC, dI) vwCl (md_w ct ad ((md_sI (md_sT v (0)) (rmI v j a2 a3 k)))) H → va_D A (md_w ct ad ((md_sI (md_sT v (0)) (rmI v j a2 a3 k)))) → va_S A s.heap H locs → lv_has ls 5 [(0, .ref (ad 0)), (1, .int (nI j)), (2, .int (a2)), (3, .int (a3)), (4, .int (nI k))] → W p l e ({ frames := 1, cells := 0, slots := 0, locals := 23 }) s m args below meth c H locs 0 0 Q (F0 m 19 ls []) := by
  intro n
  induction n with
  | zero => intro k h1 h2; exact absurd h2 (by omega)
  | succ n ih =>
    intro k h1 h2 H locs ls hP hD hS hl
    refine lv_iload hx hb dX1_ramp_19 (lv_at hl 4 rfl) ?_
    refine lv_bipush (v := 8) hx hb dX1_ramp_21 (by decide) ?_
    refine lv_icmp_ge (tgt := 65) hx hb dX1_ramp_23 (by decide) (fun c_1 => ?_) (fun c_1 => ?_)
    · have hk8 : k = 8 := Nat.le_antisymm h1 ((nI_leI (a := 8) (by decide) (by omega)).mp c_1)
      subst hk8
      exact kk H locs ls hP hD hS (lv_sub hl [0, 1, 2, 3, 4] rfl)
    · have hk : k < 8 := Nat.lt_of_not_le (fun q => c_1 (nI_le (a := 8) q (by omega)))
      refine lv_aload_n hx hb dX1_ramp_26 rfl (lv_at hl 0 rfl) ?_
      refine md_get hx hb hts hin0 hown hK hP 4 (by decide) (hts (.fieldLink RX1 24 "ConferenceBridgeModel" "in" "[I") (by decide +kernel)) (z := .ref (ad 4)) rfl dX1_ramp_27 ?_
      refine lv_bipush (v := 8) hx hb dX1_ramp_30 (by decide) ?_
      refine lv_iload_n hx hb dX1_ramp_32 rfl (lv_at hl 1 rfl) ?_
      refine lv_imul hx hb dX1_ramp_33 ?_
      refine lv_iload hx hb dX1_ramp_34 (lv_at hl 4 rfl) ?_
      refine lv_iadd hx hb dX1_ramp_36 ?_
      refine lv_topi (fun x_2 ex_2 => ?_)
      obtain rfl : x_2 = nI (8 * j + k) := ex_2.trans md_ixN
      refine lv_aload_n hx hb dX1_ramp_37 rfl (lv_at hl 0 rfl) ?_
      refine md_get hx hb hts hin0 hown hK hP 1 (by decide) (hts (.fieldLink RX1 13 "ConferenceBridgeModel" "law" "[I") (by decide +kernel)) (z := .ref (ad 1)) rfl dX1_ramp_38 ?_
      refine lv_iload_n hx hb dX1_ramp_41 rfl (lv_at hl 1 rfl) ?_
      refine cb_iald hx hb hK hP 1 0 (f := mdL v) rfl rfl hj (by decide) dX1_ramp_42 ?_
      refine lv_iload_n hx hb dX1_ramp_43 rfl (lv_at hl 2 rfl) ?_
      refine lv_i2l (v := a2.toInt64) hx hb dX1_ramp_44 rfl ?_
      refine lv_iload hx hb dX1_ramp_45 (lv_at hl 4 rfl) ?_
      refine lv_i2l (v := (nI k).toInt64) hx hb dX1_ramp_47 rfl ?_
      refine lv_iload_n hx hb dX1_ramp_48 rfl (lv_at hl 3 rfl) ?_
      refine lv_i2l (v := a3.toInt64) hx hb dX1_ramp_49 rfl ?_
      refine lv_lmul hx hb dX1_ramp_50 ?_
      refine lv_ladd hx hb dX1_ramp_51 ?_
      refine vp_callSi (W.runS (As := [.long (((a2.toInt64) + (((nI k).toInt64) * (a3.toInt64))))]) (rest := [.int ((mdL v j)), .int (nI (8 * j + k)), .ref (ad 4)]) ⟨hx, hb, hml, hown, hts⟩ (metX1_held l ((a2.toInt64) + (((nI k).toInt64) * (a3.toInt64)))) (va_cwS 1 hts gX1_ramp_X1_held rfl rfl rfl (by decide +kernel) ⟨(Nat.le_of_ble_eq_true rfl), (Nat.le_of_ble_eq_true rfl)⟩) ⟨fun a U g mk q => q, fun U hU hW => ⟨rfl, trivial⟩⟩ rfl rfl hl.1 rfl (lv_room (Nat.le_of_ble_eq_true rfl)) dX1_ramp_52 ⟨(Nat.zero_le _), (Nat.zero_le _)⟩) (fun r_3 er_3 => ?_)
      subst er_3
      refine vp_callSi (W.runS (As := [.int ((mdL v j)), .int ((fnX1_held ((a2.toInt64) + (((nI k).toInt64) * (a3.toInt64)))))]) (rest := [.int (nI (8 * j + k)), .ref (ad 4)]) ⟨hx, hb, hml, hown, hts⟩ (metX1_codeOf l (mdL v j) (fnX1_held ((a2.toInt64) + (((nI k).toInt64) * (a3.toInt64)))) (hL _ hj) (md_held_lo _) (md_held_hi _)) (va_cwS 2 hts gX1_ramp_X1_codeOf rfl rfl rfl (by decide +kernel) ⟨(Nat.le_of_ble_eq_true rfl), (Nat.le_of_ble_eq_true rfl)⟩) ⟨fun a U g mk q => q, fun U hU hW => ⟨rfl, trivial⟩⟩ rfl rfl hl.1 rfl (lv_room (Nat.le_of_ble_eq_true rfl)) dX1_ramp_55 ⟨(Nat.zero_le _), (Nat.zero_le _)⟩) (fun r_4 er_4 => ?_)
      subst er_4
      refine cb_iast hx hb hK hP hD hS 4 0 (f := rmI v j a2 a3 k) rfl rfl (show 8 * j + k < 64 by have h8 := hj; have h9 := hk; omega) (by decide) (ws1 := md_w ct ad ((md_sI (md_sT v (0)) (upd (rmI v j a2 a3 k) ((8 * j + k)) (fnX1_codeOf (mdL v j) (fnX1_held ((a2.toInt64) + (((nI k).toInt64) * (a3.toInt64))))))))) rfl dX1_ramp_58 (fun H locs hP hD hS => ?_)
      have hP : va_P (dC, dI) vwCl (md_w ct ad ((md_sI (md_sT v (0)) (upd (rmI v j a2 a3 k) ((8 * j + k)) (fnX1_codeOf (mdL v j) (fnX1_held ((a2.toInt64) + (((nI k).toInt64) * (a3.toInt64))))))))) H := hP
      have hD : va_D A (md_w ct ad ((md_sI (md_sT v (0)) (upd (rmI v j a2 a3 k) ((8 * j + k)) (fnX1_codeOf (mdL v j) (fnX1_held ((a2.toInt64) + (((nI k).toInt64) * (a3.toInt64))))))))) := hD
      refine lv_iinc (v := ((nI k) + (1 : Int32))) (lv' := [(4, .int (((nI k) + (1 : Int32)))), (0, .ref (ad 0)), (1, .int (nI j)), (2, .int (a2)), (3, .int (a3))]) hx hb dX1_ramp_59 hl (k := 4) rfl rfl (by decide) rfl (fun ls hl => ?_)
      refine lv_goto (tgt := 19) hx hb dX1_ramp_62 (by decide) ?_
      exact ih (k + 1) (by omega) (by omega) H locs ls hP hD hS (by rw [← nI_1]; exact lv_sub hl [1, 2, 3, 4, 0] rfl)

set_option maxHeartbeats 4000000 in
set_option maxRecDepth 100000 in
theorem metX1_ramp (l : Launch) (dC : Nat → ClassId) (dI : Nat → Nat → Nat) (ct : Nat → ClassId) (ad : Nat → Nat) (sz : Nat) (v : md_U) (hL : ∀ i, i < 8 → mdL v i = 0 ∨ mdL v i = 1) (a1 a2 a3 : Int32) : Met l yX1_ramp wsX1_ramp ({ frames := 1, cells := 0, slots := 0, locals := 23 }) (va_Pc [.ref (ad 0), .int (a1), .int (a2), .int (a3)] (fun U => U.heap.size = sz ∧ md_B dC dI ct ad (fun _ => True) v U)) (va_Qi (fun r (_ : Unit) => r = anX1_ramp a1) (fun _ => md_B dC dI ct ad (va_A (md_w ct ad v) sz) (stX1_ramp v a1 a2 a3)) (va_A (md_w ct ad v) sz)) 0 0 (va_A (md_w ct ad v) sz) := by
  refine Met.ofW (cc := cX1_ramp) (maxL := 5) (ret := (some .boolean)) (by decide) rfl ?_
  intro p e s m args below meth c s₁ B hml hv
  obtain ⟨rfl, hsz, hP, hK, hD0⟩ := hv
  have hx := B.exec
  have hb := B.bytes
  have hr := B.returns
  have hts := atoms_spec (ws := wsX1_ramp) B.pre
  have hown : s.vm.findClass RX1 = some m.cls := findClass_of_methodNamed B.named
  have hlocks := B.notSynchronized
  have hin0 : ∀ w ∈ u_ws RX1 TX1 9, w ∈ wsX1_ramp := by decide +kernel
  subst hsz
  have hD := hD0.self (sz := s.heap.size)
  generalize hAe : va_A (md_w ct ad v) s.heap.size = A at hD ⊢
  have hA : ∀ q : Nat, s.heap.size ≤ q → A q := fun q h => by rw [← hAe]; exact Or.inr h
  have hS : va_S A s.heap s.heap [] := va_S.rf
  have hl := lv_entry ([.ref (ad 0), .int (a1), .int (a2), .int (a3)]) (n := 5) (Nat.le_of_ble_eq_true rfl)
  rw [lg_entry_eq]
  generalize (lg_sl ([.ref (ad 0), .int (a1), .int (a2), .int (a3)]) ++ List.replicate (5 - (lg_sl ([.ref (ad 0), .int (a1), .int (a2), .int (a3)])).length) Slot.unset).toArray = ls at hl ⊢
  have hl : lv_has ls 5 [(0, .ref (ad 0)), (1, .int (a1)), (2, .int (a2)), (3, .int (a3))] := hl
  refine lv_aload_n hx hb dX1_ramp_0 rfl (lv_at hl 0 rfl) ?_
  refine lv_iconst (v := 0) hx hb dX1_ramp_1 (by decide) ?_
  refine md_putT hx hb hts hin0 hown hK hP hD hS (hts (.fieldLink RX1 7 "ConferenceBridgeModel" "thrownCode" "I") (by decide +kernel)) dX1_ramp_2 (fun H locs hP hD hS => ?_)
  have hP : va_P (dC, dI) vwCl (md_w ct ad ((md_sT v (0)))) H := hP
  have hD : va_D A (md_w ct ad ((md_sT v (0)))) := hD
  refine lv_iload_n hx hb dX1_ramp_5 rfl (lv_at hl 1 rfl) ?_
  refine lv_bipush (v := 8) hx hb dX1_ramp_6 (by decide) ?_
  refine vp_callSi (W.runS (As := [.int (a1), .int (8)]) (rest := []) ⟨hx, hb, hml, hown, hts⟩ (metX1_not l a1 (8 : Int32)) (va_cwS 2 hts gX1_ramp_X1_not rfl rfl rfl (by decide +kernel) ⟨(Nat.le_of_ble_eq_true rfl), (Nat.le_of_ble_eq_true rfl)⟩) ⟨fun a U g mk q => q, fun U hU hW => ⟨rfl, trivial⟩⟩ rfl rfl hl.1 rfl (lv_room (Nat.le_of_ble_eq_true rfl)) dX1_ramp_8 ⟨(Nat.zero_le _), (Nat.zero_le _)⟩) (fun r_1 er_1 => ?_)
  subst er_1
  refine lv_if_eq (tgt := 16) hx hb dX1_ramp_11 (by decide) (fun c_2 => ?_) (fun c_2 => ?_)
  · obtain ⟨j, hj, rfl⟩ := vp_in_of (md_not (n := 8) c_2 (by decide)) (by decide)
    refine lv_iconst (v := 0) hx hb dX1_ramp_16 (by decide) ?_
    refine lv_istore (lv' := [(4, .int (0)), (0, .ref (ad 0)), (1, .int (nI j)), (2, .int (a2)), (3, .int (a3))]) hx hb dX1_ramp_17 hl (by decide) rfl (fun ls hl => ?_)
    refine lpX1_ramp_19 hx hb hml hown hts hin0 hK hA v hL j hj a2 a3 (fun H locs ls hP hD hS hl => ?_) 9 0 (by decide) (by decide) _ _ ls hP hD hS (lv_sub hl [1, 2, 3, 4, 0] rfl)
    refine lv_iconst (v := 1) hx hb dX1_ramp_65 (by decide) ?_
    have e9 : stX1_ramp v (nI j) a2 a3 = (md_sI (md_sT v (0)) (rmI v j a2 a3 8)) := by unfold stX1_ramp; rw [if_pos c_2, nI_clamp (by omega)]
    exact W.zret (v := 1) hx hb hr (by decide) (fun t ht hW => ⟨⟨1, (), rfl, by unfold anX1_ramp; rw [if_pos c_2], by rw [ht, e9]; exact hP, va_K.moved hW.alike hK, by rw [e9]; exact hD⟩, hS.F ht⟩) hS.2.2 dX1_ramp_66
  · refine lv_iconst (v := 0) hx hb dX1_ramp_14 (by decide) ?_
    have e9 : stX1_ramp v a1 a2 a3 = (md_sT v (0)) := by unfold stX1_ramp; rw [if_neg c_2]
    exact W.zret (v := 0) hx hb hr (by decide) (fun t ht hW => ⟨⟨0, (), rfl, by unfold anX1_ramp; rw [if_neg c_2], by rw [ht, e9]; exact hP, va_K.moved hW.alike hK, by rw [e9]; exact hD⟩, hS.F ht⟩) hS.2.2 dX1_ramp_15

set_option maxHeartbeats 4000000 in
set_option maxRecDepth 100000 in
theorem lpX1_mix_22 {p : Program} {l : Launch} {e : Env} {s : State} {m : MethodId} {args : Array Value} {below : List Frame} {meth : Method} {c : Code} {Q : State → Prop} {A : Nat → Prop} {dC : Nat → ClassId} {dI : Nat → Nat → Nat} {ct : Nat → ClassId} {ad : Nat → Nat} (hx : p.tables.exec = Jvm.exec) (hb : c.code = cX1_mix) (hml : c.maxLocals = 6) (hown : s.vm.findClass RX1 = some m.cls) (hts : ∀ w ∈ wsX1_mix, w.before args s = true) (hin0 : ∀ w ∈ u_ws RX1 TX1 9, w ∈ wsX1_mix) (hK : va_K (dC, dI) vwCl (cb_ty ct) s) (hA : ∀ q : Nat, s.heap.size ≤ q → A q) (v : md_U) (hL : ∀ i, i < 8 → mdL v i = 0 ∨ mdL v i = 1) (hI : ∀ i, i < 64 → vp_in (mdI v i) 256) (j : Nat) (hj : j < 8) (V0 : Nat → Int32) (E0 : Nat → Int64)
    (kk : ∀ (H : Heap) (locs : List Loc) (ls : Array Slot), va_P (dC, dI) vwCl (md_w ct ad ((md_sE (md_sV (md_sT v (0)) (miV v j V0 8)) (miE v j E0 8)))) H → va_D A (md_w ct ad ((md_sE (md_sV (md_sT v (0)) (miV v j V0 8)) (miE v j E0 8)))) → va_S A s.heap H locs → lv_has ls 6 [(0, .ref (ad 0)), (1, .int (nI j)), (2, .int (nI 8))] → W p l e ({ frames := 2, cells := 0, slots := 0, locals := 43 }) s m args below meth c H locs 0 0 Q (F0 m 94 ls [])) :
    ∀ (n k : Nat), k ≤ 8 → 9 ≤ k + n → ∀ (H : Heap) (locs : List Loc) (ls : Array Slot), va_P (dC, dI) vwCl (md_w ct ad ((md_sE (md_sV (md_sT v (0)) (miV v j V0 k)) (miE v j E0 k)))) H → va_D A (md_w ct ad ((md_sE (md_sV (md_sT v (0)) (miV v j V0 k)) (miE v j E0 k)))) → va_S A s.heap H locs → lv_has ls 6 [(0, .ref (ad 0)), (1, .int (nI j)), (2, .int (nI k))] → W p l e ({ frames := 2, cells := 0, slots := 0, locals := 43 }) s m args below meth c H locs 0 0 Q (F0 m 22 ls []) := by
  intro n
  induction n with
  | zero => intro k h1 h2; exact absurd h2 (by omega)
  | succ n ih =>
    intro k h1 h2 H locs ls hP hD hS hl
    refine lv_iload_n hx hb dX1_mix_22 rfl (lv_at hl 2 rfl) ?_
    refine lv_bipush (v := 8) hx hb dX1_mix_23 (by decide) ?_
    refine lv_icmp_ge (tgt := 94) hx hb dX1_mix_25 (by decide) (fun c_1 => ?_) (fun c_1 => ?_)
    · have hk8 : k = 8 := Nat.le_antisymm h1 ((nI_leI (a := 8) (by decide) (by omega)).mp c_1)
      subst hk8
      exact kk H locs ls hP hD hS (lv_sub hl [0, 1, 2] rfl)
    · have hk : k < 8 := Nat.lt_of_not_le (fun q => c_1 (nI_le (a := 8) q (by omega)))
      refine lv_aload_n hx hb dX1_mix_28 rfl (lv_at hl 0 rfl) ?_
      refine md_get hx hb hts hin0 hown hK hP 1 (by decide) (hts (.fieldLink RX1 13 "ConferenceBridgeModel" "law" "[I") (by decide +kernel)) (z := .ref (ad 1)) rfl dX1_mix_29 ?_
      refine lv_iload_n hx hb dX1_mix_32 rfl (lv_at hl 1 rfl) ?_
      refine cb_iald hx hb hK hP 1 0 (f := mdL v) rfl rfl hj (by decide) dX1_mix_33 ?_
      refine lv_aload_n hx hb dX1_mix_34 rfl (lv_at hl 0 rfl) ?_
      refine md_get hx hb hts hin0 hown hK hP 4 (by decide) (hts (.fieldLink RX1 24 "ConferenceBridgeModel" "in" "[I") (by decide +kernel)) (z := .ref (ad 4)) rfl dX1_mix_35 ?_
      refine lv_bipush (v := 8) hx hb dX1_mix_38 (by decide) ?_
      refine lv_iload_n hx hb dX1_mix_40 rfl (lv_at hl 1 rfl) ?_
      refine lv_imul hx hb dX1_mix_41 ?_
      refine lv_iload_n hx hb dX1_mix_42 rfl (lv_at hl 2 rfl) ?_
      refine lv_iadd hx hb dX1_mix_43 ?_
      refine lv_topi (fun x_2 ex_2 => ?_)
      obtain rfl : x_2 = nI (8 * j + k) := ex_2.trans md_ixN
      refine cb_iald hx hb hK hP 4 0 (f := mdI v) rfl rfl (show 8 * j + k < 64 by have h8 := hj; have h9 := hk; omega) (by decide) dX1_mix_44 ?_
      refine vp_callSi (W.runS (As := [.int ((mdL v j)), .int ((mdI v ((8 * j + k))))]) (rest := []) ⟨hx, hb, hml, hown, hts⟩ (metX1_meaning l (mdL v j) (mdI v ((8 * j + k))) (hL _ hj) (hI _ (show 8 * j + k < 64 by have h8 := hj; have h9 := hk; omega))) (va_cwS 2 hts gX1_mix_X1_meaning rfl rfl rfl (by decide +kernel) ⟨(Nat.le_of_ble_eq_true rfl), (Nat.le_of_ble_eq_true rfl)⟩) ⟨fun a U g mk q => q, fun U hU hW => ⟨rfl, trivial⟩⟩ rfl rfl hl.1 rfl (lv_room (Nat.le_of_ble_eq_true rfl)) dX1_mix_45 ⟨(Nat.zero_le _), (Nat.zero_le _)⟩) (fun r_3 er_3 => ?_)
      subst er_3
      refine lv_aload_n hx hb dX1_mix_48 rfl (lv_at hl 0 rfl) ?_
      refine md_get hx hb hts hin0 hown hK hP 2 (by decide) (hts (.fieldLink RX1 17 "ConferenceBridgeModel" "gain" "[I") (by decide +kernel)) (z := .ref (ad 2)) rfl dX1_mix_49 ?_
      refine lv_iload_n hx hb dX1_mix_52 rfl (lv_at hl 1 rfl) ?_
      refine cb_iald hx hb hK hP 2 0 (f := mdG v) rfl rfl hj (by decide) dX1_mix_53 ?_
      refine vp_callSi (W.runS (As := [.int ((fnX1_meaning (mdL v j) (mdI v ((8 * j + k))))), .int ((mdG v j))]) (rest := []) ⟨hx, hb, hml, hown, hts⟩ (metX1_scaled l (fnX1_meaning (mdL v j) (mdI v ((8 * j + k)))) (mdG v j)) (va_cwS 2 hts gX1_mix_X1_scaled rfl rfl rfl (by decide +kernel) ⟨(Nat.le_of_ble_eq_true rfl), (Nat.le_of_ble_eq_true rfl)⟩) ⟨fun a U g mk q => q, fun U hU hW => ⟨rfl, trivial⟩⟩ rfl rfl hl.1 rfl (lv_room (Nat.le_of_ble_eq_true rfl)) dX1_mix_54 ⟨(Nat.zero_le _), (Nat.zero_le _)⟩) (fun r_4 er_4 => ?_)
      subst er_4
      refine lv_istore_n (lv' := [(3, .int ((fnX1_scaled (fnX1_meaning (mdL v j) (mdI v ((8 * j + k)))) (mdG v j)))), (0, .ref (ad 0)), (1, .int (nI j)), (2, .int (nI k))]) hx hb dX1_mix_57 rfl hl (by decide) rfl (fun ls hl => ?_)
      refine lv_aload_n hx hb dX1_mix_58 rfl (lv_at hl 1 rfl) ?_
      refine md_get hx hb hts hin0 hown hK hP 6 (by decide) (hts (.fieldLink RX1 30 "ConferenceBridgeModel" "sample" "[I") (by decide +kernel)) (z := .ref (ad 6)) rfl dX1_mix_59 ?_
      refine lv_bipush (v := 8) hx hb dX1_mix_62 (by decide) ?_
      refine lv_iload_n hx hb dX1_mix_64 rfl (lv_at hl 2 rfl) ?_
      refine lv_imul hx hb dX1_mix_65 ?_
      refine lv_iload_n hx hb dX1_mix_66 rfl (lv_at hl 3 rfl) ?_
      refine lv_iadd hx hb dX1_mix_67 ?_
      refine lv_topi (fun x_5 ex_5 => ?_)
      obtain rfl : x_5 = nI (8 * j + k) := ex_5.trans md_ixN
      refine lv_iload_n hx hb dX1_mix_68 rfl (lv_at hl 0 rfl) ?_
      refine cb_iast hx hb hK hP hD hS 6 0 (f := miV v j V0 k) rfl rfl (show 8 * j + k < 64 by have h8 := hj; have h9 := hk; omega) (by decide) (ws1 := md_w ct ad ((md_sE (md_sV (md_sT v (0)) (upd (miV v j V0 k) ((8 * j + k)) (fnX1_scaled (fnX1_meaning (mdL v j) (mdI v ((8 * j + k)))) (mdG v j)))) (miE v j E0 k)))) rfl dX1_mix_69 (fun H locs hP hD hS => ?_)
      have hP : va_P (dC, dI) vwCl (md_w ct ad ((md_sE (md_sV (md_sT v (0)) (upd (miV v j V0 k) ((8 * j + k)) (fnX1_scaled (fnX1_meaning (mdL v j) (mdI v ((8 * j + k)))) (mdG v j)))) (miE v j E0 k)))) H := hP
      have hD : va_D A (md_w ct ad ((md_sE (md_sV (md_sT v (0)) (upd (miV v j V0 k) ((8 * j + k)) (fnX1_scaled (fnX1_meaning (mdL v j) (mdI v ((8 * j + k)))) (mdG v j)))) (miE v j E0 k)))) := hD
      refine lv_aload_n hx hb dX1_mix_70 rfl (lv_at hl 1 rfl) ?_
      refine md_get hx hb hts hin0 hown hK hP 7 (by decide) (hts (.fieldLink RX1 33 "ConferenceBridgeModel" "energy" "[J") (by decide +kernel)) (z := .ref (ad 7)) rfl dX1_mix_71 ?_
      refine lv_iload_n hx hb dX1_mix_74 rfl (lv_at hl 2 rfl) ?_
      refine lv_aload_n hx hb dX1_mix_75 rfl (lv_at hl 1 rfl) ?_
      refine md_get hx hb hts hin0 hown hK hP 7 (by decide) (hts (.fieldLink RX1 33 "ConferenceBridgeModel" "energy" "[J") (by decide +kernel)) (z := .ref (ad 7)) rfl dX1_mix_76 ?_
      refine lv_iload_n hx hb dX1_mix_79 rfl (lv_at hl 2 rfl) ?_
      refine cb_lald hx hb hK hP 7 3 (f := miE v j E0 k) rfl rfl hj (by decide) dX1_mix_80 ?_
      refine lv_iload_n hx hb dX1_mix_81 rfl (lv_at hl 0 rfl) ?_
      refine lv_i2l (v := (fnX1_scaled (fnX1_meaning (mdL v j) (mdI v ((8 * j + k)))) (mdG v j)).toInt64) hx hb dX1_mix_82 rfl ?_
      refine lv_iload_n hx hb dX1_mix_83 rfl (lv_at hl 0 rfl) ?_
      refine lv_i2l (v := (fnX1_scaled (fnX1_meaning (mdL v j) (mdI v ((8 * j + k)))) (mdG v j)).toInt64) hx hb dX1_mix_84 rfl ?_
      refine lv_lmul hx hb dX1_mix_85 ?_
      refine lv_ladd hx hb dX1_mix_86 ?_
      refine cb_last hx hb hK hP hD hS 7 3 (f := miE v j E0 k) rfl rfl hj (by decide) (ws1 := md_w ct ad ((md_sE (md_sV (md_sT v (0)) (upd (miV v j V0 k) ((8 * j + k)) (fnX1_scaled (fnX1_meaning (mdL v j) (mdI v ((8 * j + k)))) (mdG v j)))) (vp_updL (miE v j E0 k) j (((miE v j E0 k) j) + (((fnX1_scaled (fnX1_meaning (mdL v j) (mdI v ((8 * j + k)))) (mdG v j)).toInt64) * ((fnX1_scaled (fnX1_meaning (mdL v j) (mdI v ((8 * j + k)))) (mdG v j)).toInt64))))))) rfl dX1_mix_87 (fun H locs hP hD hS => ?_)
      have hP : va_P (dC, dI) vwCl (md_w ct ad ((md_sE (md_sV (md_sT v (0)) (upd (miV v j V0 k) ((8 * j + k)) (fnX1_scaled (fnX1_meaning (mdL v j) (mdI v ((8 * j + k)))) (mdG v j)))) (vp_updL (miE v j E0 k) j (((miE v j E0 k) j) + (((fnX1_scaled (fnX1_meaning (mdL v j) (mdI v ((8 * j + k)))) (mdG v j)).toInt64) * ((fnX1_scaled (fnX1_meaning (mdL v j) (mdI v ((8 * j + k)))) (mdG v j)).toInt64))))))) H := hP
      have hD : va_D A (md_w ct ad ((md_sE (md_sV (md_sT v (0)) (upd (miV v j V0 k) ((8 * j + k)) (fnX1_scaled (fnX1_meaning (mdL v j) (mdI v ((8 * j + k)))) (mdG v j)))) (vp_updL (miE v j E0 k) j (((miE v j E0 k) j) + (((fnX1_scaled (fnX1_meaning (mdL v j) (mdI v ((8 * j + k)))) (mdG v j)).toInt64) * ((fnX1_scaled (fnX1_meaning (mdL v j) (mdI v ((8 * j + k)))) (mdG v j)).toInt64))))))) := hD
      refine lv_iinc (v := ((nI k) + (1 : Int32))) (lv' := [(2, .int (((nI k) + (1 : Int32)))), (3, .int ((fnX1_scaled (fnX1_meaning (mdL v j) (mdI v ((8 * j + k)))) (mdG v j)))), (0, .ref (ad 0)), (1, .int (nI j))]) hx hb dX1_mix_88 hl (k := 3) rfl rfl (by decide) rfl (fun ls hl => ?_)
      refine lv_goto (tgt := 22) hx hb dX1_mix_91 (by decide) ?_
      exact ih (k + 1) (by omega) (by omega) H locs ls hP hD hS (by rw [← nI_1]; exact lv_sub hl [2, 3, 0] rfl)

set_option maxHeartbeats 4000000 in
set_option maxRecDepth 100000 in
theorem lpX1_mix_7 {p : Program} {l : Launch} {e : Env} {s : State} {m : MethodId} {args : Array Value} {below : List Frame} {meth : Method} {c : Code} {Q : State → Prop} {A : Nat → Prop} {dC : Nat → ClassId} {dI : Nat → Nat → Nat} {ct : Nat → ClassId} {ad : Nat → Nat} (hx : p.tables.exec = Jvm.exec) (hb : c.code = cX1_mix) (hml : c.maxLocals = 6) (hown : s.vm.findClass RX1 = some m.cls) (hts : ∀ w ∈ wsX1_mix, w.before args s = true) (hin0 : ∀ w ∈ u_ws RX1 TX1 9, w ∈ wsX1_mix) (hK : va_K (dC, dI) vwCl (cb_ty ct) s) (hA : ∀ q : Nat, s.heap.size ≤ q → A q) (v : md_U) (hL : ∀ i, i < 8 → mdL v i = 0 ∨ mdL v i = 1) (hI : ∀ i, i < 64 → vp_in (mdI v i) 256)
    (kk : ∀ (H : Heap) (locs : List Loc) (ls : Array Slot), va_P (dC, dI) vwCl (md_w ct ad ((md_sE (md_sV (md_sT v (0)) (moV v 8)) (moE v 8)))) H → va_D A (md_w ct ad ((md_sE (md_sV (md_sT v (0)) (moV v 8)) (moE v 8)))) → va_S A s.heap H locs → lv_has ls 6 [(0, .ref (ad 0)), (1, .int (nI 8))] → W p l e ({ frames := 2, cells := 0, slots := 0, locals := 43 }) s m args below meth c H locs 0 0 Q (F0 m 100 ls [])) :
    ∀ (n j : Nat), j ≤ 8 → 9 ≤ j + n → ∀ (H : Heap) (locs : List Loc) (ls : Array Slot), va_P (dC, dI) vwCl (md_w ct ad ((md_sE (md_sV (md_sT v (0)) (moV v j)) (moE v j)))) H → va_D A (md_w ct ad ((md_sE (md_sV (md_sT v (0)) (moV v j)) (moE v j)))) → va_S A s.heap H locs → lv_has ls 6 [(0, .ref (ad 0)), (1, .int (nI j))] → W p l e ({ frames := 2, cells := 0, slots := 0, locals := 43 }) s m args below meth c H locs 0 0 Q (F0 m 7 ls []) := by
  intro n
  induction n with
  | zero => intro j h1 h2; exact absurd h2 (by omega)
  | succ n ih =>
    intro j h1 h2 H locs ls hP hD hS hl
    refine lv_iload_n hx hb dX1_mix_7 rfl (lv_at hl 1 rfl) ?_
    refine lv_bipush (v := 8) hx hb dX1_mix_8 (by decide) ?_
    refine lv_icmp_ge (tgt := 100) hx hb dX1_mix_10 (by decide) (fun c_1 => ?_) (fun c_1 => ?_)
    · have hk8 : j = 8 := Nat.le_antisymm h1 ((nI_leI (a := 8) (by decide) (by omega)).mp c_1)
      subst hk8
      exact kk H locs ls hP hD hS (lv_sub hl [0, 1] rfl)
    · have hj : j < 8 := Nat.lt_of_not_le (fun q => c_1 (nI_le (a := 8) q (by omega)))
      refine lv_aload_n hx hb dX1_mix_13 rfl (lv_at hl 0 rfl) ?_
      refine md_get hx hb hts hin0 hown hK hP 7 (by decide) (hts (.fieldLink RX1 33 "ConferenceBridgeModel" "energy" "[J") (by decide +kernel)) (z := .ref (ad 7)) rfl dX1_mix_14 ?_
      refine lv_iload_n hx hb dX1_mix_17 rfl (lv_at hl 1 rfl) ?_
      refine lv_lconst (v := 0) hx hb dX1_mix_18 (by decide) ?_
      refine cb_last hx hb hK hP hD hS 7 3 (f := moE v j) rfl rfl hj (by decide) (ws1 := md_w ct ad ((md_sE (md_sV (md_sT v (0)) (moV v j)) (vp_updL (moE v j) j (0 : Int64))))) rfl dX1_mix_19 (fun H locs hP hD hS => ?_)
      have hP : va_P (dC, dI) vwCl (md_w ct ad ((md_sE (md_sV (md_sT v (0)) (moV v j)) (vp_updL (moE v j) j (0 : Int64))))) H := hP
      have hD : va_D A (md_w ct ad ((md_sE (md_sV (md_sT v (0)) (moV v j)) (vp_updL (moE v j) j (0 : Int64))))) := hD
      refine lv_iconst (v := 0) hx hb dX1_mix_20 (by decide) ?_
      refine lv_istore_n (lv' := [(2, .int (0)), (0, .ref (ad 0)), (1, .int (nI j))]) hx hb dX1_mix_21 rfl hl (by decide) rfl (fun ls hl => ?_)
      refine lpX1_mix_22 hx hb hml hown hts hin0 hK hA v hL hI j hj (moV v j) (vp_updL (moE v j) j (0 : Int64)) (fun H locs ls hP hD hS hl => ?_) 9 0 (by decide) (by decide) _ _ ls hP hD hS (lv_sub hl [1, 2, 0] rfl)
      refine lv_iinc (v := ((nI j) + (1 : Int32))) (lv' := [(1, .int (((nI j) + (1 : Int32)))), (0, .ref (ad 0)), (2, .int (nI 8))]) hx hb dX1_mix_94 hl (k := 1) rfl rfl (by decide) rfl (fun ls hl => ?_)
      refine lv_goto (tgt := 7) hx hb dX1_mix_97 (by decide) ?_
      exact ih (j + 1) (by omega) (by omega) H locs ls hP hD hS (by rw [← nI_1]; exact lv_sub hl [1, 0] rfl)

set_option maxHeartbeats 4000000 in
set_option maxRecDepth 100000 in
theorem lpX1_mix_117 {p : Program} {l : Launch} {e : Env} {s : State} {m : MethodId} {args : Array Value} {below : List Frame} {meth : Method} {c : Code} {Q : State → Prop} {A : Nat → Prop} {dC : Nat → ClassId} {dI : Nat → Nat → Nat} {ct : Nat → ClassId} {ad : Nat → Nat} (hx : p.tables.exec = Jvm.exec) (hb : c.code = cX1_mix) (hml : c.maxLocals = 6) (hown : s.vm.findClass RX1 = some m.cls) (hts : ∀ w ∈ wsX1_mix, w.before args s = true) (hin0 : ∀ w ∈ u_ws RX1 TX1 9, w ∈ wsX1_mix) (hK : va_K (dC, dI) vwCl (cb_ty ct) s) (hA : ∀ q : Nat, s.heap.size ≤ q → A q) (v : md_U) (st x2 : Int32)
    (kk : ∀ (H : Heap) (locs : List Loc) (ls : Array Slot), va_P (dC, dI) vwCl (md_w ct ad v) H → va_D A (md_w ct ad v) → va_S A s.heap H locs → lv_has ls 6 [(0, .ref (ad 0)), (1, .int (st)), (2, .int (x2)), (3, .int (mbF v st 8)), (4, .int (nI 8))] → W p l e ({ frames := 2, cells := 0, slots := 0, locals := 43 }) s m args below meth c H locs 0 0 Q (F0 m 197 ls [])) :
    ∀ (n q : Nat), q ≤ 8 → 9 ≤ q + n → ∀ (H : Heap) (locs : List Loc) (ls : Array Slot), va_P (dC, dI) vwCl (md_w ct ad v) H → va_D A (md_w ct ad v) → va_S A s.heap H locs → lv_has ls 6 [(0, .ref (ad 0)), (1, .int (st)), (2, .int (x2)), (3, .int (mbF v st q)), (4, .int (nI q))] → W p l e ({ frames := 2, cells := 0, slots := 0, locals := 43 }) s m args below meth c H locs 0 0 Q (F0 m 117 ls []) := by
  intro n
  induction n with
  | zero => intro q h1 h2; exact absurd h2 (by omega)
  | succ n ih =>
    intro q h1 h2 H locs ls hP hD hS hl
    refine lv_iload hx hb dX1_mix_117 (lv_at hl 4 rfl) ?_
    refine lv_bipush (v := 8) hx hb dX1_mix_119 (by decide) ?_
    refine lv_icmp_ge (tgt := 197) hx hb dX1_mix_121 (by decide) (fun c_1 => ?_) (fun c_1 => ?_)
    · have hk8 : q = 8 := Nat.le_antisymm h1 ((nI_leI (a := 8) (by decide) (by omega)).mp c_1)
      subst hk8
      exact kk H locs ls hP hD hS (lv_sub hl [0, 1, 2, 3, 4] rfl)
    · have hq : q < 8 := Nat.lt_of_not_le (fun q => c_1 (nI_le (a := 8) q (by omega)))
      refine lv_iload_n hx hb dX1_mix_124 rfl (lv_at hl 1 rfl) ?_
      refine lv_iload hx hb dX1_mix_125 (lv_at hl 4 rfl) ?_
      refine lv_ishr hx hb dX1_mix_127 ?_
      refine lv_iconst (v := 1) hx hb dX1_mix_128 (by decide) ?_
      refine lv_iand hx hb dX1_mix_129 ?_
      refine lv_if_ne (tgt := 159) hx hb dX1_mix_130 (by decide) (fun c_2 => ?_) (fun c_2 => ?_)
      · refine lv_iconst (v := 0) hx hb dX1_mix_159 (by decide) ?_
        refine lv_istore (lv' := [(5, .int (0)), (0, .ref (ad 0)), (1, .int (st)), (2, .int (x2)), (3, .int (mbF v st q)), (4, .int (nI q))]) hx hb dX1_mix_160 hl (by decide) rfl (fun ls hl => ?_)
        refine lv_iload hx hb dX1_mix_162 (lv_at hl 0 rfl) ?_
        refine lv_if_eq (tgt := 191) hx hb dX1_mix_164 (by decide) (fun _ => ?_) (fun c9 => absurd (by decide) c9)
        refine lv_iinc (v := ((nI q) + (1 : Int32))) (lv' := [(4, .int (((nI q) + (1 : Int32)))), (5, .int (0)), (0, .ref (ad 0)), (1, .int (st)), (2, .int (x2)), (3, .int (mbF v st q))]) hx hb dX1_mix_191 hl (k := 5) rfl rfl (by decide) rfl (fun ls hl => ?_)
        refine lv_goto (tgt := 117) hx hb dX1_mix_194 (by decide) ?_
        have e9 : mbF v st (q + 1) = mbF v st q := by rw [mbF, if_neg c_2]
        exact ih (q + 1) (by omega) (by omega) H locs ls hP hD hS (by rw [← nI_1, e9]; exact lv_sub hl [2, 3, 4, 5, 0] rfl)
      · refine lv_aload_n hx hb dX1_mix_133 rfl (lv_at hl 0 rfl) ?_
        refine md_get hx hb hts hin0 hown hK hP 3 (by decide) (hts (.fieldLink RX1 20 "ConferenceBridgeModel" "muted" "[Z") (by decide +kernel)) (z := .ref (ad 3)) rfl dX1_mix_134 ?_
        refine lv_iload hx hb dX1_mix_137 (lv_at hl 4 rfl) ?_
        refine cb_zald hx hb hK hP 3 1 (f := mdS v) rfl rfl hq (by decide) dX1_mix_139 ?_
        refine lv_if_ne (tgt := 159) hx hb dX1_mix_140 (by decide) (fun c_4 => ?_) (fun c_4 => ?_)
        · refine lv_iconst (v := 0) hx hb dX1_mix_159 (by decide) ?_
          refine lv_istore (lv' := [(5, .int (0)), (0, .ref (ad 0)), (1, .int (st)), (2, .int (x2)), (3, .int (mbF v st q)), (4, .int (nI q))]) hx hb dX1_mix_160 hl (by decide) rfl (fun ls hl => ?_)
          refine lv_iload hx hb dX1_mix_162 (lv_at hl 0 rfl) ?_
          refine lv_if_eq (tgt := 191) hx hb dX1_mix_164 (by decide) (fun _ => ?_) (fun c9 => absurd (by decide) c9)
          refine lv_iinc (v := ((nI q) + (1 : Int32))) (lv' := [(4, .int (((nI q) + (1 : Int32)))), (5, .int (0)), (0, .ref (ad 0)), (1, .int (st)), (2, .int (x2)), (3, .int (mbF v st q))]) hx hb dX1_mix_191 hl (k := 5) rfl rfl (by decide) rfl (fun ls hl => ?_)
          refine lv_goto (tgt := 117) hx hb dX1_mix_194 (by decide) ?_
          have e9 : mbF v st (q + 1) = mbF v st q := by rw [mbF, if_pos c_2, if_neg c_4]
          exact ih (q + 1) (by omega) (by omega) H locs ls hP hD hS (by rw [← nI_1, e9]; exact lv_sub hl [2, 3, 4, 5, 0] rfl)
        · refine lv_aload_n hx hb dX1_mix_143 rfl (lv_at hl 0 rfl) ?_
          refine md_get hx hb hts hin0 hown hK hP 7 (by decide) (hts (.fieldLink RX1 33 "ConferenceBridgeModel" "energy" "[J") (by decide +kernel)) (z := .ref (ad 7)) rfl dX1_mix_144 ?_
          refine lv_iload hx hb dX1_mix_147 (lv_at hl 4 rfl) ?_
          refine cb_lald hx hb hK hP 7 3 (f := mdE v) rfl rfl hq (by decide) dX1_mix_149 ?_
          refine lv_lconst (v := 0) hx hb dX1_mix_150 (by decide) ?_
          refine W.lcmp hx hb dX1_mix_151 ?_
          refine lv_if_le (tgt := 159) hx hb dX1_mix_152 (by decide) (fun c_6 => ?_) (fun c_6 => ?_)
          · refine lv_iconst (v := 0) hx hb dX1_mix_159 (by decide) ?_
            refine lv_istore (lv' := [(5, .int (0)), (0, .ref (ad 0)), (1, .int (st)), (2, .int (x2)), (3, .int (mbF v st q)), (4, .int (nI q))]) hx hb dX1_mix_160 hl (by decide) rfl (fun ls hl => ?_)
            refine lv_iload hx hb dX1_mix_162 (lv_at hl 0 rfl) ?_
            refine lv_if_eq (tgt := 191) hx hb dX1_mix_164 (by decide) (fun _ => ?_) (fun c9 => absurd (by decide) c9)
            refine lv_iinc (v := ((nI q) + (1 : Int32))) (lv' := [(4, .int (((nI q) + (1 : Int32)))), (5, .int (0)), (0, .ref (ad 0)), (1, .int (st)), (2, .int (x2)), (3, .int (mbF v st q))]) hx hb dX1_mix_191 hl (k := 5) rfl rfl (by decide) rfl (fun ls hl => ?_)
            refine lv_goto (tgt := 117) hx hb dX1_mix_194 (by decide) ?_
            have e9 : mbF v st (q + 1) = mbF v st q := by rw [mbF, if_pos c_2, if_pos c_4, if_pos c_6]
            exact ih (q + 1) (by omega) (by omega) H locs ls hP hD hS (by rw [← nI_1, e9]; exact lv_sub hl [2, 3, 4, 5, 0] rfl)
          · refine lv_iconst (v := 1) hx hb dX1_mix_155 (by decide) ?_
            refine lv_goto (tgt := 160) hx hb dX1_mix_156 (by decide) ?_
            refine lv_istore (lv' := [(5, .int (1)), (0, .ref (ad 0)), (1, .int (st)), (2, .int (x2)), (3, .int (mbF v st q)), (4, .int (nI q))]) hx hb dX1_mix_160 hl (by decide) rfl (fun ls hl => ?_)
            refine lv_iload hx hb dX1_mix_162 (lv_at hl 0 rfl) ?_
            refine lv_if_eq (tgt := 191) hx hb dX1_mix_164 (by decide) (fun c9 => absurd c9 (by decide)) (fun _ => ?_)
            refine lv_iload_n hx hb dX1_mix_167 rfl (lv_at hl 4 rfl) ?_
            refine lv_if_lt (tgt := 188) hx hb dX1_mix_168 (by decide) (fun c_9 => ?_) (fun c_9 => ?_)
            · refine lv_iload hx hb dX1_mix_188 (lv_at hl 5 rfl) ?_
              refine lv_istore_n (lv' := [(3, .int (nI q)), (5, .int (1)), (0, .ref (ad 0)), (1, .int (st)), (2, .int (x2)), (4, .int (nI q))]) hx hb dX1_mix_190 rfl hl (by decide) rfl (fun ls hl => ?_)
              refine lv_iinc (v := ((nI q) + (1 : Int32))) (lv' := [(4, .int (((nI q) + (1 : Int32)))), (3, .int (nI q)), (5, .int (1)), (0, .ref (ad 0)), (1, .int (st)), (2, .int (x2))]) hx hb dX1_mix_191 hl (k := 5) rfl rfl (by decide) rfl (fun ls hl => ?_)
              refine lv_goto (tgt := 117) hx hb dX1_mix_194 (by decide) ?_
              have e9 : mbF v st (q + 1) = nI q := by rw [mbF, if_pos c_2, if_pos c_4, if_neg c_6, if_pos c_9]
              exact ih (q + 1) (by omega) (by omega) H locs ls hP hD hS (by rw [← nI_1, e9]; exact lv_sub hl [3, 4, 5, 1, 0] rfl)
            · refine lv_aload_n hx hb dX1_mix_171 rfl (lv_at hl 1 rfl) ?_
              refine md_get hx hb hts hin0 hown hK hP 7 (by decide) (hts (.fieldLink RX1 33 "ConferenceBridgeModel" "energy" "[J") (by decide +kernel)) (z := .ref (ad 7)) rfl dX1_mix_172 ?_
              refine lv_iload hx hb dX1_mix_175 (lv_at hl 5 rfl) ?_
              refine cb_lald hx hb hK hP 7 3 (f := mdE v) rfl rfl hq (by decide) dX1_mix_177 ?_
              refine lv_aload_n hx hb dX1_mix_178 rfl (lv_at hl 1 rfl) ?_
              refine md_get hx hb hts hin0 hown hK hP 7 (by decide) (hts (.fieldLink RX1 33 "ConferenceBridgeModel" "energy" "[J") (by decide +kernel)) (z := .ref (ad 7)) rfl dX1_mix_179 ?_
              refine lv_iload_n hx hb dX1_mix_182 rfl (lv_at hl 4 rfl) ?_
              refine va_lald hx hb hK hP 7 3 (f := mdE v) rfl rfl (md_best c_9 (by omega)) dX1_mix_183 ?_
              refine W.lcmp hx hb dX1_mix_184 ?_
              refine lv_if_le (tgt := 191) hx hb dX1_mix_185 (by decide) (fun c_10 => ?_) (fun c_10 => ?_)
              · refine lv_iinc (v := ((nI q) + (1 : Int32))) (lv' := [(4, .int (((nI q) + (1 : Int32)))), (5, .int (1)), (0, .ref (ad 0)), (1, .int (st)), (2, .int (x2)), (3, .int (mbF v st q))]) hx hb dX1_mix_191 hl (k := 5) rfl rfl (by decide) rfl (fun ls hl => ?_)
                refine lv_goto (tgt := 117) hx hb dX1_mix_194 (by decide) ?_
                have e9 : mbF v st (q + 1) = mbF v st q := by rw [mbF, if_pos c_2, if_pos c_4, if_neg c_6, if_neg c_9, if_pos c_10]
                exact ih (q + 1) (by omega) (by omega) H locs ls hP hD hS (by rw [← nI_1, e9]; exact lv_sub hl [2, 3, 4, 5, 0] rfl)
              · refine lv_iload hx hb dX1_mix_188 (lv_at hl 5 rfl) ?_
                refine lv_istore_n (lv' := [(3, .int (nI q)), (5, .int (1)), (0, .ref (ad 0)), (1, .int (st)), (2, .int (x2)), (4, .int (nI q))]) hx hb dX1_mix_190 rfl hl (by decide) rfl (fun ls hl => ?_)
                refine lv_iinc (v := ((nI q) + (1 : Int32))) (lv' := [(4, .int (((nI q) + (1 : Int32)))), (3, .int (nI q)), (5, .int (1)), (0, .ref (ad 0)), (1, .int (st)), (2, .int (x2))]) hx hb dX1_mix_191 hl (k := 5) rfl rfl (by decide) rfl (fun ls hl => ?_)
                refine lv_goto (tgt := 117) hx hb dX1_mix_194 (by decide) ?_
                have e9 : mbF v st (q + 1) = nI q := by rw [mbF, if_pos c_2, if_pos c_4, if_neg c_6, if_neg c_9, if_neg c_10]
                exact ih (q + 1) (by omega) (by omega) H locs ls hP hD hS (by rw [← nI_1, e9]; exact lv_sub hl [3, 4, 5, 1, 0] rfl)

set_option maxHeartbeats 4000000 in
set_option maxRecDepth 100000 in
theorem lpX1_mix_104 {p : Program} {l : Launch} {e : Env} {s : State} {m : MethodId} {args : Array Value} {below : List Frame} {meth : Method} {c : Code} {Q : State → Prop} {A : Nat → Prop} {dC : Nat → ClassId} {dI : Nat → Nat → Nat} {ct : Nat → ClassId} {ad : Nat → Nat} (hx : p.tables.exec = Jvm.exec) (hb : c.code = cX1_mix) (hml : c.maxLocals = 6) (hown : s.vm.findClass RX1 = some m.cls) (hts : ∀ w ∈ wsX1_mix, w.before args s = true) (hin0 : ∀ w ∈ u_ws RX1 TX1 9, w ∈ wsX1_mix) (hK : va_K (dC, dI) vwCl (cb_ty ct) s) (hA : ∀ q : Nat, s.heap.size ≤ q → A q) (v : md_U) (M : Nat) (hM : M ≤ 8) (eM : mdM v = nI M) (F : Int32)
    (kk : ∀ (i : Nat) (H : Heap) (locs : List Loc) (ls : Array Slot), va_P (dC, dI) vwCl (md_w ct ad v) H → va_D A (md_w ct ad v) → va_S A s.heap H locs → lv_has ls 6 [(0, .ref (ad 0)), (1, .int (F)), (2, .int (nI i))] → W p l e ({ frames := 2, cells := 0, slots := 0, locals := 43 }) s m args below meth c H locs 0 0 Q (F0 m 213 ls [])) :
    ∀ (n i : Nat) (st : Int32), i ≤ M → M + 1 ≤ i + n → msF v (M - i) st = F → ∀ (H : Heap) (locs : List Loc) (ls : Array Slot), va_P (dC, dI) vwCl (md_w ct ad v) H → va_D A (md_w ct ad v) → va_S A s.heap H locs → lv_has ls 6 [(0, .ref (ad 0)), (1, .int (st)), (2, .int (nI i))] → W p l e ({ frames := 2, cells := 0, slots := 0, locals := 43 }) s m args below meth c H locs 0 0 Q (F0 m 104 ls []) := by
  intro n
  induction n with
  | zero => intro i st h1 h2; exact absurd h2 (by omega)
  | succ n ih =>
    intro i st h1 h2 hF H locs ls hP hD hS hl
    refine lv_iload_n hx hb dX1_mix_104 rfl (lv_at hl 2 rfl) ?_
    refine lv_aload_n hx hb dX1_mix_105 rfl (lv_at hl 0 rfl) ?_
    refine md_get hx hb hts hin0 hown hK hP 8 (by decide) (hts (.fieldLink RX1 37 "ConferenceBridgeModel" "most" "I") (by decide +kernel)) (z := .int (mdM v)) rfl dX1_mix_106 ?_
    refine lv_topi (fun y9 ey9 => ?_)
    obtain rfl : y9 = nI M := ey9.trans eM
    refine lv_icmp_ge (tgt := 213) hx hb dX1_mix_109 (by decide) (fun c_1 => ?_) (fun c_1 => ?_)
    · have hi : M = i := Nat.le_antisymm ((nI_leI (by omega) (by omega)).mp c_1) h1
      subst hi
      have e9 : st = F := by rw [← hF, Nat.sub_self]; rfl
      subst e9
      exact kk _ H locs ls hP hD hS (lv_sub hl [0, 1, 2] rfl)
    · refine lv_iconst (v := (-1)) hx hb dX1_mix_112 (by decide) ?_
      refine lv_istore_n (lv' := [(3, .int ((-1))), (0, .ref (ad 0)), (1, .int (st)), (2, .int (nI i))]) hx hb dX1_mix_113 rfl hl (by decide) rfl (fun ls hl => ?_)
      refine lv_iconst (v := 0) hx hb dX1_mix_114 (by decide) ?_
      refine lv_istore (lv' := [(4, .int (0)), (3, .int ((-1))), (0, .ref (ad 0)), (1, .int (st)), (2, .int (nI i))]) hx hb dX1_mix_115 hl (by decide) rfl (fun ls hl => ?_)
      refine lpX1_mix_117 hx hb hml hown hts hin0 hK hA v st (nI i) (fun H locs ls hP hD hS hl => ?_) 9 0 (by decide) (by decide) _ _ ls hP hD hS (lv_sub hl [2, 3, 4, 1, 0] rfl)
      refine lv_iload_n hx hb dX1_mix_197 rfl (lv_at hl 3 rfl) ?_
      refine lv_if_lt (tgt := 207) hx hb dX1_mix_198 (by decide) (fun c_2 => ?_) (fun c_2 => ?_)
      · refine lv_iinc (v := ((nI i) + (1 : Int32))) (lv' := [(2, .int (((nI i) + (1 : Int32)))), (0, .ref (ad 0)), (1, .int (st)), (3, .int (mbF v st 8)), (4, .int (nI 8))]) hx hb dX1_mix_207 hl (k := 2) rfl rfl (by decide) rfl (fun ls hl => ?_)
        refine lv_goto (tgt := 104) hx hb dX1_mix_210 (by decide) ?_
        have hi : i < M := Nat.lt_of_not_le (fun q => c_1 (nI_le q (by omega)))
        have e9 : msF v (M - (i + 1)) (st) = F := by
          rw [← hF, show M - i = (M - (i + 1)) + 1 by omega, msF, if_pos c_2]
        exact ih (i + 1) _ (by omega) (by omega) e9 H locs ls hP hD hS (by rw [← nI_1]; exact lv_sub hl [1, 2, 0] rfl)
      · refine lv_iload_n hx hb dX1_mix_201 rfl (lv_at hl 1 rfl) ?_
        refine lv_iconst (v := 1) hx hb dX1_mix_202 (by decide) ?_
        refine lv_iload_n hx hb dX1_mix_203 rfl (lv_at hl 3 rfl) ?_
        refine lv_ishl hx hb dX1_mix_204 ?_
        refine lv_ior hx hb dX1_mix_205 ?_
        refine lv_istore_n (lv' := [(1, .int ((st ||| ((1 : Int32) <<< ((mbF v st 8) &&& 31))))), (0, .ref (ad 0)), (2, .int (nI i)), (3, .int (mbF v st 8)), (4, .int (nI 8))]) hx hb dX1_mix_206 rfl hl (by decide) rfl (fun ls hl => ?_)
        refine lv_iinc (v := ((nI i) + (1 : Int32))) (lv' := [(2, .int (((nI i) + (1 : Int32)))), (1, .int ((st ||| ((1 : Int32) <<< ((mbF v st 8) &&& 31))))), (0, .ref (ad 0)), (3, .int (mbF v st 8)), (4, .int (nI 8))]) hx hb dX1_mix_207 hl (k := 2) rfl rfl (by decide) rfl (fun ls hl => ?_)
        refine lv_goto (tgt := 104) hx hb dX1_mix_210 (by decide) ?_
        have hi : i < M := Nat.lt_of_not_le (fun q => c_1 (nI_le q (by omega)))
        have e9 : msF v (M - (i + 1)) ((st ||| ((1 : Int32) <<< ((mbF v st 8) &&& 31)))) = F := by
          rw [← hF, show M - i = (M - (i + 1)) + 1 by omega, msF, if_neg c_2]
        exact ih (i + 1) _ (by omega) (by omega) e9 H locs ls hP hD hS (by rw [← nI_1]; exact lv_sub hl [2, 1, 0] rfl)

set_option maxHeartbeats 4000000 in
set_option maxRecDepth 100000 in
theorem lpX1_mix_235 {p : Program} {l : Launch} {e : Env} {s : State} {m : MethodId} {args : Array Value} {below : List Frame} {meth : Method} {c : Code} {Q : State → Prop} {A : Nat → Prop} {dC : Nat → ClassId} {dI : Nat → Nat → Nat} {ct : Nat → ClassId} {ad : Nat → Nat} (hx : p.tables.exec = Jvm.exec) (hb : c.code = cX1_mix) (hml : c.maxLocals = 6) (hown : s.vm.findClass RX1 = some m.cls) (hts : ∀ w ∈ wsX1_mix, w.before args s = true) (hin0 : ∀ w ∈ u_ws RX1 TX1 9, w ∈ wsX1_mix) (hK : va_K (dC, dI) vwCl (cb_ty ct) s) (hA : ∀ q : Nat, s.heap.size ≤ q → A q) (v : md_U) (st : Int32) (j k : Nat) (hj : j < 8) (hk : k < 8) (O0 : Nat → Int32)
    (kk : ∀ (H : Heap) (locs : List Loc) (ls : Array Slot), va_P (dC, dI) vwCl (md_w ct ad ((md_sO v (O0)))) H → va_D A (md_w ct ad ((md_sO v (O0)))) → va_S A s.heap H locs → lv_has ls 6 [(0, .ref (ad 0)), (1, .int (st)), (2, .int (nI j)), (3, .int (nI k)), (4, .int (mcF v st j k 8)), (5, .int (nI 8))] → W p l e ({ frames := 2, cells := 0, slots := 0, locals := 43 }) s m args below meth c H locs 0 0 Q (F0 m 285 ls [])) :
    ∀ (n o : Nat), o ≤ 8 → 9 ≤ o + n → ∀ (H : Heap) (locs : List Loc) (ls : Array Slot), va_P (dC, dI) vwCl (md_w ct ad ((md_sO v (O0)))) H → va_D A (md_w ct ad ((md_sO v (O0)))) → va_S A s.heap H locs → lv_has ls 6 [(0, .ref (ad 0)), (1, .int (st)), (2, .int (nI j)), (3, .int (nI k)), (4, .int (mcF v st j k o)), (5, .int (nI o))] → W p l e ({ frames := 2, cells := 0, slots := 0, locals := 43 }) s m args below meth c H locs 0 0 Q (F0 m 235 ls []) := by
  intro n
  induction n with
  | zero => intro o h1 h2; exact absurd h2 (by omega)
  | succ n ih =>
    intro o h1 h2 H locs ls hP hD hS hl
    refine lv_iload hx hb dX1_mix_235 (lv_at hl 5 rfl) ?_
    refine lv_bipush (v := 8) hx hb dX1_mix_237 (by decide) ?_
    refine lv_icmp_ge (tgt := 285) hx hb dX1_mix_239 (by decide) (fun c_1 => ?_) (fun c_1 => ?_)
    · have hk8 : o = 8 := Nat.le_antisymm h1 ((nI_leI (a := 8) (by decide) (by omega)).mp c_1)
      subst hk8
      exact kk H locs ls hP hD hS (lv_sub hl [0, 1, 2, 3, 4, 5] rfl)
    · have ho : o < 8 := Nat.lt_of_not_le (fun q => c_1 (nI_le (a := 8) q (by omega)))
      refine lv_iload hx hb dX1_mix_242 (lv_at hl 4 rfl) ?_
      refine lv_iload hx hb dX1_mix_244 (lv_at hl 5 rfl) ?_
      refine lv_iload_n hx hb dX1_mix_246 rfl (lv_at hl 2 rfl) ?_
      refine lv_icmp_eq (tgt := 275) hx hb dX1_mix_247 (by decide) (fun c_2 => ?_) (fun c_2 => ?_)
      · refine lv_iconst (v := 0) hx hb dX1_mix_275 (by decide) ?_
        refine lv_iadd hx hb dX1_mix_276 ?_
        refine lv_istore (lv' := [(4, .int (((mcF v st j k o) + (0 : Int32)))), (0, .ref (ad 0)), (1, .int (st)), (2, .int (nI j)), (3, .int (nI k)), (5, .int (nI o))]) hx hb dX1_mix_277 hl (by decide) rfl (fun ls hl => ?_)
        refine lv_iinc (v := ((nI o) + (1 : Int32))) (lv' := [(5, .int (((nI o) + (1 : Int32)))), (4, .int (((mcF v st j k o) + (0 : Int32)))), (0, .ref (ad 0)), (1, .int (st)), (2, .int (nI j)), (3, .int (nI k))]) hx hb dX1_mix_279 hl (k := 5) rfl rfl (by decide) rfl (fun ls hl => ?_)
        refine lv_goto (tgt := 235) hx hb dX1_mix_282 (by decide) ?_
        have e9 : mcF v st j k (o + 1) = ((mcF v st j k o) + (0 : Int32)) := by rw [mcF, if_pos c_2]
        exact ih (o + 1) (by omega) (by omega) H locs ls hP hD hS (by rw [← nI_1, e9]; exact lv_sub hl [2, 3, 4, 5, 1, 0] rfl)
      · refine lv_iload_n hx hb dX1_mix_250 rfl (lv_at hl 1 rfl) ?_
        refine lv_iload hx hb dX1_mix_251 (lv_at hl 5 rfl) ?_
        refine lv_ishr hx hb dX1_mix_253 ?_
        refine lv_iconst (v := 1) hx hb dX1_mix_254 (by decide) ?_
        refine lv_iand hx hb dX1_mix_255 ?_
        refine lv_iconst (v := 1) hx hb dX1_mix_256 (by decide) ?_
        refine lv_icmp_ne (tgt := 275) hx hb dX1_mix_257 (by decide) (fun c_3 => ?_) (fun c_3 => ?_)
        · refine lv_iconst (v := 0) hx hb dX1_mix_275 (by decide) ?_
          refine lv_iadd hx hb dX1_mix_276 ?_
          refine lv_istore (lv' := [(4, .int (((mcF v st j k o) + (0 : Int32)))), (0, .ref (ad 0)), (1, .int (st)), (2, .int (nI j)), (3, .int (nI k)), (5, .int (nI o))]) hx hb dX1_mix_277 hl (by decide) rfl (fun ls hl => ?_)
          refine lv_iinc (v := ((nI o) + (1 : Int32))) (lv' := [(5, .int (((nI o) + (1 : Int32)))), (4, .int (((mcF v st j k o) + (0 : Int32)))), (0, .ref (ad 0)), (1, .int (st)), (2, .int (nI j)), (3, .int (nI k))]) hx hb dX1_mix_279 hl (k := 5) rfl rfl (by decide) rfl (fun ls hl => ?_)
          refine lv_goto (tgt := 235) hx hb dX1_mix_282 (by decide) ?_
          have e9 : mcF v st j k (o + 1) = ((mcF v st j k o) + (0 : Int32)) := by rw [mcF, if_neg c_2, if_neg c_3]
          exact ih (o + 1) (by omega) (by omega) H locs ls hP hD hS (by rw [← nI_1, e9]; exact lv_sub hl [2, 3, 4, 5, 1, 0] rfl)
        · refine lv_aload_n hx hb dX1_mix_260 rfl (lv_at hl 0 rfl) ?_
          refine md_get hx hb hts hin0 hown hK hP 6 (by decide) (hts (.fieldLink RX1 30 "ConferenceBridgeModel" "sample" "[I") (by decide +kernel)) (z := .ref (ad 6)) rfl dX1_mix_261 ?_
          refine lv_bipush (v := 8) hx hb dX1_mix_264 (by decide) ?_
          refine lv_iload hx hb dX1_mix_266 (lv_at hl 5 rfl) ?_
          refine lv_imul hx hb dX1_mix_268 ?_
          refine lv_iload_n hx hb dX1_mix_269 rfl (lv_at hl 3 rfl) ?_
          refine lv_iadd hx hb dX1_mix_270 ?_
          refine lv_topi (fun x_4 ex_4 => ?_)
          obtain rfl : x_4 = nI (8 * o + k) := ex_4.trans md_ixN
          refine cb_iald hx hb hK hP 6 0 (f := mdV v) rfl rfl (show 8 * o + k < 64 by have h8 := ho; have h9 := hk; omega) (by decide) dX1_mix_271 ?_
          refine lv_goto (tgt := 276) hx hb dX1_mix_272 (by decide) ?_
          refine lv_iadd hx hb dX1_mix_276 ?_
          refine lv_istore (lv' := [(4, .int (((mcF v st j k o) + (mdV v ((8 * o + k)))))), (0, .ref (ad 0)), (1, .int (st)), (2, .int (nI j)), (3, .int (nI k)), (5, .int (nI o))]) hx hb dX1_mix_277 hl (by decide) rfl (fun ls hl => ?_)
          refine lv_iinc (v := ((nI o) + (1 : Int32))) (lv' := [(5, .int (((nI o) + (1 : Int32)))), (4, .int (((mcF v st j k o) + (mdV v ((8 * o + k)))))), (0, .ref (ad 0)), (1, .int (st)), (2, .int (nI j)), (3, .int (nI k))]) hx hb dX1_mix_279 hl (k := 5) rfl rfl (by decide) rfl (fun ls hl => ?_)
          refine lv_goto (tgt := 235) hx hb dX1_mix_282 (by decide) ?_
          have e9 : mcF v st j k (o + 1) = ((mcF v st j k o) + (mdV v ((8 * o + k)))) := by rw [mcF, if_neg c_2, if_pos c_3]
          exact ih (o + 1) (by omega) (by omega) H locs ls hP hD hS (by rw [← nI_1, e9]; exact lv_sub hl [2, 3, 4, 5, 1, 0] rfl)

set_option maxHeartbeats 4000000 in
set_option maxRecDepth 100000 in
theorem lpX1_mix_223 {p : Program} {l : Launch} {e : Env} {s : State} {m : MethodId} {args : Array Value} {below : List Frame} {meth : Method} {c : Code} {Q : State → Prop} {A : Nat → Prop} {dC : Nat → ClassId} {dI : Nat → Nat → Nat} {ct : Nat → ClassId} {ad : Nat → Nat} (hx : p.tables.exec = Jvm.exec) (hb : c.code = cX1_mix) (hml : c.maxLocals = 6) (hown : s.vm.findClass RX1 = some m.cls) (hts : ∀ w ∈ wsX1_mix, w.before args s = true) (hin0 : ∀ w ∈ u_ws RX1 TX1 9, w ∈ wsX1_mix) (hK : va_K (dC, dI) vwCl (cb_ty ct) s) (hA : ∀ q : Nat, s.heap.size ≤ q → A q) (v : md_U) (hL : ∀ i, i < 8 → mdL v i = 0 ∨ mdL v i = 1) (st : Int32) (j : Nat) (hj : j < 8) (O0 : Nat → Int32)
    (kk : ∀ (H : Heap) (locs : List Loc) (ls : Array Slot), va_P (dC, dI) vwCl (md_w ct ad ((md_sO v (mcO v st j O0 8)))) H → va_D A (md_w ct ad ((md_sO v (mcO v st j O0 8)))) → va_S A s.heap H locs → lv_has ls 6 [(0, .ref (ad 0)), (1, .int (st)), (2, .int (nI j)), (3, .int (nI 8))] → W p l e ({ frames := 2, cells := 0, slots := 0, locals := 43 }) s m args below meth c H locs 0 0 Q (F0 m 317 ls [])) :
    ∀ (n k : Nat), k ≤ 8 → 9 ≤ k + n → ∀ (H : Heap) (locs : List Loc) (ls : Array Slot), va_P (dC, dI) vwCl (md_w ct ad ((md_sO v (mcO v st j O0 k)))) H → va_D A (md_w ct ad ((md_sO v (mcO v st j O0 k)))) → va_S A s.heap H locs → lv_has ls 6 [(0, .ref (ad 0)), (1, .int (st)), (2, .int (nI j)), (3, .int (nI k))] → W p l e ({ frames := 2, cells := 0, slots := 0, locals := 43 }) s m args below meth c H locs 0 0 Q (F0 m 223 ls []) := by
  intro n
  induction n with
  | zero => intro k h1 h2; exact absurd h2 (by omega)
  | succ n ih =>
    intro k h1 h2 H locs ls hP hD hS hl
    refine lv_iload_n hx hb dX1_mix_223 rfl (lv_at hl 3 rfl) ?_
    refine lv_bipush (v := 8) hx hb dX1_mix_224 (by decide) ?_
    refine lv_icmp_ge (tgt := 317) hx hb dX1_mix_226 (by decide) (fun c_1 => ?_) (fun c_1 => ?_)
    · have hk8 : k = 8 := Nat.le_antisymm h1 ((nI_leI (a := 8) (by decide) (by omega)).mp c_1)
      subst hk8
      exact kk H locs ls hP hD hS (lv_sub hl [0, 1, 2, 3] rfl)
    · have hk : k < 8 := Nat.lt_of_not_le (fun q => c_1 (nI_le (a := 8) q (by omega)))
      refine lv_iconst (v := 0) hx hb dX1_mix_229 (by decide) ?_
      refine lv_istore (lv' := [(4, .int (0)), (0, .ref (ad 0)), (1, .int (st)), (2, .int (nI j)), (3, .int (nI k))]) hx hb dX1_mix_230 hl (by decide) rfl (fun ls hl => ?_)
      refine lv_iconst (v := 0) hx hb dX1_mix_232 (by decide) ?_
      refine lv_istore (lv' := [(5, .int (0)), (4, .int (0)), (0, .ref (ad 0)), (1, .int (st)), (2, .int (nI j)), (3, .int (nI k))]) hx hb dX1_mix_233 hl (by decide) rfl (fun ls hl => ?_)
      refine lpX1_mix_235 hx hb hml hown hts hin0 hK hA v st j k hj hk (mcO v st j O0 k) (fun H locs ls hP hD hS hl => ?_) 9 0 (by decide) (by decide) _ _ ls hP hD hS (lv_sub hl [2, 3, 4, 5, 1, 0] rfl)
      refine lv_aload_n hx hb dX1_mix_285 rfl (lv_at hl 0 rfl) ?_
      refine md_get hx hb hts hin0 hown hK hP 5 (by decide) (hts (.fieldLink RX1 27 "ConferenceBridgeModel" "out" "[I") (by decide +kernel)) (z := .ref (ad 5)) rfl dX1_mix_286 ?_
      refine lv_bipush (v := 8) hx hb dX1_mix_289 (by decide) ?_
      refine lv_iload_n hx hb dX1_mix_291 rfl (lv_at hl 2 rfl) ?_
      refine lv_imul hx hb dX1_mix_292 ?_
      refine lv_iload_n hx hb dX1_mix_293 rfl (lv_at hl 3 rfl) ?_
      refine lv_iadd hx hb dX1_mix_294 ?_
      refine lv_topi (fun x_2 ex_2 => ?_)
      obtain rfl : x_2 = nI (8 * j + k) := ex_2.trans md_ixN
      refine lv_aload_n hx hb dX1_mix_295 rfl (lv_at hl 0 rfl) ?_
      refine md_get hx hb hts hin0 hown hK hP 1 (by decide) (hts (.fieldLink RX1 13 "ConferenceBridgeModel" "law" "[I") (by decide +kernel)) (z := .ref (ad 1)) rfl dX1_mix_296 ?_
      refine lv_iload_n hx hb dX1_mix_299 rfl (lv_at hl 2 rfl) ?_
      refine cb_iald hx hb hK hP 1 0 (f := mdL v) rfl rfl hj (by decide) dX1_mix_300 ?_
      refine lv_iload hx hb dX1_mix_301 (lv_at hl 4 rfl) ?_
      refine lv_i2l (v := (mcF v st j k 8).toInt64) hx hb dX1_mix_303 rfl ?_
      refine vp_callSi (W.runS (As := [.long ((mcF v st j k 8).toInt64)]) (rest := [.int ((mdL v j)), .int (nI (8 * j + k)), .ref (ad 5)]) ⟨hx, hb, hml, hown, hts⟩ (metX1_held l ((mcF v st j k 8).toInt64)) (va_cwS 1 hts gX1_mix_X1_held rfl rfl rfl (by decide +kernel) ⟨(Nat.le_of_ble_eq_true rfl), (Nat.le_of_ble_eq_true rfl)⟩) ⟨fun a U g mk q => q, fun U hU hW => ⟨rfl, trivial⟩⟩ rfl rfl hl.1 rfl (lv_room (Nat.le_of_ble_eq_true rfl)) dX1_mix_304 ⟨(Nat.zero_le _), (Nat.zero_le _)⟩) (fun r_3 er_3 => ?_)
      subst er_3
      refine vp_callSi (W.runS (As := [.int ((mdL v j)), .int ((fnX1_held ((mcF v st j k 8).toInt64)))]) (rest := [.int (nI (8 * j + k)), .ref (ad 5)]) ⟨hx, hb, hml, hown, hts⟩ (metX1_codeOf l (mdL v j) (fnX1_held ((mcF v st j k 8).toInt64)) (hL _ hj) (md_held_lo _) (md_held_hi _)) (va_cwS 2 hts gX1_mix_X1_codeOf rfl rfl rfl (by decide +kernel) ⟨(Nat.le_of_ble_eq_true rfl), (Nat.le_of_ble_eq_true rfl)⟩) ⟨fun a U g mk q => q, fun U hU hW => ⟨rfl, trivial⟩⟩ rfl rfl hl.1 rfl (lv_room (Nat.le_of_ble_eq_true rfl)) dX1_mix_307 ⟨(Nat.zero_le _), (Nat.zero_le _)⟩) (fun r_4 er_4 => ?_)
      subst er_4
      refine cb_iast hx hb hK hP hD hS 5 0 (f := mcO v st j O0 k) rfl rfl (show 8 * j + k < 64 by have h8 := hj; have h9 := hk; omega) (by decide) (ws1 := md_w ct ad ((md_sO v (upd (mcO v st j O0 k) ((8 * j + k)) (fnX1_codeOf (mdL v j) (fnX1_held ((mcF v st j k 8).toInt64))))))) rfl dX1_mix_310 (fun H locs hP hD hS => ?_)
      have hP : va_P (dC, dI) vwCl (md_w ct ad ((md_sO v (upd (mcO v st j O0 k) ((8 * j + k)) (fnX1_codeOf (mdL v j) (fnX1_held ((mcF v st j k 8).toInt64))))))) H := hP
      have hD : va_D A (md_w ct ad ((md_sO v (upd (mcO v st j O0 k) ((8 * j + k)) (fnX1_codeOf (mdL v j) (fnX1_held ((mcF v st j k 8).toInt64))))))) := hD
      refine lv_iinc (v := ((nI k) + (1 : Int32))) (lv' := [(3, .int (((nI k) + (1 : Int32)))), (0, .ref (ad 0)), (1, .int (st)), (2, .int (nI j)), (4, .int (mcF v st j k 8)), (5, .int (nI 8))]) hx hb dX1_mix_311 hl (k := 3) rfl rfl (by decide) rfl (fun ls hl => ?_)
      refine lv_goto (tgt := 223) hx hb dX1_mix_314 (by decide) ?_
      exact ih (k + 1) (by omega) (by omega) H locs ls hP hD hS (by rw [← nI_1]; exact lv_sub hl [1, 2, 3, 0] rfl)

set_option maxHeartbeats 4000000 in
set_option maxRecDepth 100000 in
theorem lpX1_mix_215 {p : Program} {l : Launch} {e : Env} {s : State} {m : MethodId} {args : Array Value} {below : List Frame} {meth : Method} {c : Code} {Q : State → Prop} {A : Nat → Prop} {dC : Nat → ClassId} {dI : Nat → Nat → Nat} {ct : Nat → ClassId} {ad : Nat → Nat} (hx : p.tables.exec = Jvm.exec) (hb : c.code = cX1_mix) (hml : c.maxLocals = 6) (hown : s.vm.findClass RX1 = some m.cls) (hts : ∀ w ∈ wsX1_mix, w.before args s = true) (hin0 : ∀ w ∈ u_ws RX1 TX1 9, w ∈ wsX1_mix) (hK : va_K (dC, dI) vwCl (cb_ty ct) s) (hA : ∀ q : Nat, s.heap.size ≤ q → A q) (v : md_U) (hL : ∀ i, i < 8 → mdL v i = 0 ∨ mdL v i = 1) (st : Int32)
    (kk : ∀ (H : Heap) (locs : List Loc) (ls : Array Slot), va_P (dC, dI) vwCl (md_w ct ad ((md_sO v (mcP v st 8)))) H → va_D A (md_w ct ad ((md_sO v (mcP v st 8)))) → va_S A s.heap H locs → lv_has ls 6 [(0, .ref (ad 0)), (1, .int (st)), (2, .int (nI 8))] → W p l e ({ frames := 2, cells := 0, slots := 0, locals := 43 }) s m args below meth c H locs 0 0 Q (F0 m 323 ls [])) :
    ∀ (n j : Nat), j ≤ 8 → 9 ≤ j + n → ∀ (H : Heap) (locs : List Loc) (ls : Array Slot), va_P (dC, dI) vwCl (md_w ct ad ((md_sO v (mcP v st j)))) H → va_D A (md_w ct ad ((md_sO v (mcP v st j)))) → va_S A s.heap H locs → lv_has ls 6 [(0, .ref (ad 0)), (1, .int (st)), (2, .int (nI j))] → W p l e ({ frames := 2, cells := 0, slots := 0, locals := 43 }) s m args below meth c H locs 0 0 Q (F0 m 215 ls []) := by
  intro n
  induction n with
  | zero => intro j h1 h2; exact absurd h2 (by omega)
  | succ n ih =>
    intro j h1 h2 H locs ls hP hD hS hl
    refine lv_iload_n hx hb dX1_mix_215 rfl (lv_at hl 2 rfl) ?_
    refine lv_bipush (v := 8) hx hb dX1_mix_216 (by decide) ?_
    refine lv_icmp_ge (tgt := 323) hx hb dX1_mix_218 (by decide) (fun c_1 => ?_) (fun c_1 => ?_)
    · have hk8 : j = 8 := Nat.le_antisymm h1 ((nI_leI (a := 8) (by decide) (by omega)).mp c_1)
      subst hk8
      exact kk H locs ls hP hD hS (lv_sub hl [0, 1, 2] rfl)
    · have hj : j < 8 := Nat.lt_of_not_le (fun q => c_1 (nI_le (a := 8) q (by omega)))
      refine lv_iconst (v := 0) hx hb dX1_mix_221 (by decide) ?_
      refine lv_istore_n (lv' := [(3, .int (0)), (0, .ref (ad 0)), (1, .int (st)), (2, .int (nI j))]) hx hb dX1_mix_222 rfl hl (by decide) rfl (fun ls hl => ?_)
      refine lpX1_mix_223 hx hb hml hown hts hin0 hK hA v hL st j hj (mcP v st j) (fun H locs ls hP hD hS hl => ?_) 9 0 (by decide) (by decide) _ _ ls hP hD hS (lv_sub hl [1, 2, 3, 0] rfl)
      refine lv_iinc (v := ((nI j) + (1 : Int32))) (lv' := [(2, .int (((nI j) + (1 : Int32)))), (0, .ref (ad 0)), (1, .int (st)), (3, .int (nI 8))]) hx hb dX1_mix_317 hl (k := 2) rfl rfl (by decide) rfl (fun ls hl => ?_)
      refine lv_goto (tgt := 215) hx hb dX1_mix_320 (by decide) ?_
      exact ih (j + 1) (by omega) (by omega) H locs ls hP hD hS (by rw [← nI_1]; exact lv_sub hl [1, 2, 0] rfl)

set_option maxHeartbeats 4000000 in
set_option maxRecDepth 100000 in
theorem metX1_mix (l : Launch) (dC : Nat → ClassId) (dI : Nat → Nat → Nat) (ct : Nat → ClassId) (ad : Nat → Nat) (sz : Nat) (v : md_U) (hL : ∀ i, i < 8 → mdL v i = 0 ∨ mdL v i = 1) (hI : ∀ i, i < 64 → vp_in (mdI v i) 256) (M : Nat) (hM : M ≤ 8) (eM : mdM v = nI M) : Met l yX1_mix wsX1_mix ({ frames := 2, cells := 0, slots := 0, locals := 43 }) (va_Pc [.ref (ad 0)] (fun U => U.heap.size = sz ∧ md_B dC dI ct ad (fun _ => True) v U)) (va_Qi (fun r (_ : Unit) => r = anX1_mix v M) (fun _ => md_B dC dI ct ad (va_A (md_w ct ad v) sz) (stX1_mix v M)) (va_A (md_w ct ad v) sz)) 0 0 (va_A (md_w ct ad v) sz) := by
  refine Met.ofW (cc := cX1_mix) (maxL := 6) (ret := (some .int)) (by decide) rfl ?_
  intro p e s m args below meth c s₁ B hml hv
  obtain ⟨rfl, hsz, hP, hK, hD0⟩ := hv
  have hx := B.exec
  have hb := B.bytes
  have hr := B.returns
  have hts := atoms_spec (ws := wsX1_mix) B.pre
  have hown : s.vm.findClass RX1 = some m.cls := findClass_of_methodNamed B.named
  have hlocks := B.notSynchronized
  have hin0 : ∀ w ∈ u_ws RX1 TX1 9, w ∈ wsX1_mix := by decide +kernel
  subst hsz
  have hD := hD0.self (sz := s.heap.size)
  generalize hAe : va_A (md_w ct ad v) s.heap.size = A at hD ⊢
  have hA : ∀ q : Nat, s.heap.size ≤ q → A q := fun q h => by rw [← hAe]; exact Or.inr h
  have hS : va_S A s.heap s.heap [] := va_S.rf
  have hl := lv_entry ([.ref (ad 0)]) (n := 6) (Nat.le_of_ble_eq_true rfl)
  rw [lg_entry_eq]
  generalize (lg_sl ([.ref (ad 0)]) ++ List.replicate (6 - (lg_sl ([.ref (ad 0)])).length) Slot.unset).toArray = ls at hl ⊢
  have hl : lv_has ls 6 [(0, .ref (ad 0))] := hl
  refine lv_aload_n hx hb dX1_mix_0 rfl (lv_at hl 0 rfl) ?_
  refine lv_iconst (v := 0) hx hb dX1_mix_1 (by decide) ?_
  refine md_putT hx hb hts hin0 hown hK hP hD hS (hts (.fieldLink RX1 7 "ConferenceBridgeModel" "thrownCode" "I") (by decide +kernel)) dX1_mix_2 (fun H locs hP hD hS => ?_)
  have hP : va_P (dC, dI) vwCl (md_w ct ad ((md_sT v (0)))) H := hP
  have hD : va_D A (md_w ct ad ((md_sT v (0)))) := hD
  refine lv_iconst (v := 0) hx hb dX1_mix_5 (by decide) ?_
  refine lv_istore_n (lv' := [(1, .int (0)), (0, .ref (ad 0))]) hx hb dX1_mix_6 rfl hl (by decide) rfl (fun ls hl => ?_)
  refine lpX1_mix_7 hx hb hml hown hts hin0 hK hA v hL hI (fun H locs ls hP hD hS hl => ?_) 9 0 (by decide) (by decide) _ _ ls hP hD hS (lv_sub hl [1, 0] rfl)
  have hP : va_P (dC, dI) vwCl (md_w ct ad (mdHear v)) H := hP
  have hD : va_D A (md_w ct ad (mdHear v)) := hD
  refine lv_iconst (v := 0) hx hb dX1_mix_100 (by decide) ?_
  refine lv_istore_n (lv' := [(1, .int (0)), (0, .ref (ad 0))]) hx hb dX1_mix_101 rfl hl (by decide) rfl (fun ls hl => ?_)
  refine lv_iconst (v := 0) hx hb dX1_mix_102 (by decide) ?_
  refine lv_istore_n (lv' := [(2, .int (0)), (1, .int (0)), (0, .ref (ad 0))]) hx hb dX1_mix_103 rfl hl (by decide) rfl (fun ls hl => ?_)
  refine lpX1_mix_104 hx hb hml hown hts hin0 hK hA (mdHear v) M hM eM (msF (mdHear v) M 0) (fun i H locs ls hP hD hS hl => ?_) (M + 1) 0 0 (by omega) (by omega) rfl _ _ ls hP hD hS (lv_sub hl [2, 1, 0] rfl)
  refine lv_iconst (v := 0) hx hb dX1_mix_213 (by decide) ?_
  refine lv_istore_n (lv' := [(2, .int (0)), (0, .ref (ad 0)), (1, .int (msF (mdHear v) M 0))]) hx hb dX1_mix_214 rfl hl (by decide) rfl (fun ls hl => ?_)
  refine lpX1_mix_215 hx hb hml hown hts hin0 hK hA (mdHear v) hL (msF (mdHear v) M 0) (fun H locs ls hP hD hS hl => ?_) 9 0 (by decide) (by decide) _ _ ls hP hD hS (lv_sub hl [1, 2, 0] rfl)
  refine lv_iload_n hx hb dX1_mix_323 rfl (lv_at hl 1 rfl) ?_
  have e9 : stX1_mix v M = (md_sO (mdHear v) (mcP (mdHear v) (msF (mdHear v) M 0) 8)) := rfl
  exact W.iret (v := msF (mdHear v) M 0) hx hb hr (fun t ht hW => ⟨⟨msF (mdHear v) M 0, (), rfl, rfl, by rw [ht, e9]; exact hP, va_K.moved hW.alike hK, by rw [e9]; exact hD⟩, hS.F ht⟩) hS.2.2 dX1_mix_324
