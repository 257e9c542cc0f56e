/-! the class's methods with loops: what each does to the values -/
def cbVoice (a b g : Int32) : Int32 := fnX0_saturated (fnJ9_floorDiv_7cf53 ((fnX0_sampleOf a b) * g) (256 : Int32)).toInt64
def hrV (u : cb_U) (j : Nat) : Nat → Nat → Nat → Int32
  | 0 => cbV u
  | k + 1 => va_up (hrV u j k) j (upd (hrV u j k j) k (cbVoice (cbL u j) (cbC u j k) (cbG u j)))
def hrE (u : cb_U) (j : Nat) : Nat → Int64
  | 0 => 0
  | k + 1 => hrE u j k + (cbVoice (cbL u j) (cbC u j k) (cbG u j)).toInt64 * (cbVoice (cbL u j) (cbC u j k) (cbG u j)).toInt64
def cbHear (u : cb_U) (j : Nat) : cb_U := cb_sE (cb_sV u (hrV u j 8)) (vp_updL (cbE u) j (hrE u j 8))
def rpC (u : cb_U) (j : Nat) (a2 a3 : Int32) : Nat → Nat → Nat → Int32
  | 0 => cbC u
  | k + 1 => va_up (rpC u j a2 a3 k) j (upd (rpC u j a2 a3 k j) k (fnX0_codeOf (cbL u j) (fnX0_saturated (a2.toInt64 + (nI k).toInt64 * a3.toInt64))))
def anX0_ramp (a1 : Int32) : Int32 := if fnX0_isParty a1 = 0 then 0 else 1
def stX0_ramp (u : cb_U) (a1 a2 a3 : Int32) : cb_U := if fnX0_isParty a1 = 0 then u else cb_sC u (rpC u a1.toNatClampNeg a2 a3 8)
def lbF (u : cb_U) (ch : Int32) : Nat → Int32 × Int64
  | 0 => (-1, 0)
  | k + 1 => if cbS u k = 0 then (if fnX0_speaks ch (nI k) = 0 then (if lg_cmp (cbE u k) (lbF u ch k).2 ≤ 0 then lbF u ch k else (nI k, cbE u k)) else lbF u ch k) else lbF u ch k
def chF (u : cb_U) : Nat → Int32 → Int32
  | 0, ch => ch
  | r + 1, ch => if (lbF u ch 8).1 = -1 then ch else chF u r (ch ||| ((1 : Int32) <<< ((lbF u ch 8).1 &&& 31)))
def suF (u : cb_U) (ch : Int32) (k : Nat) : Nat → Int32
  | 0 => 0
  | q + 1 => if fnX0_speaks ch (nI q) = 0 then suF u ch k q else suF u ch k q + cbV u q k
def suZ (u : cb_U) (ch : Int32) : Nat → Nat → Int32
  | 0 => cbZ u
  | k + 1 => upd (suZ u ch k) k (suF u ch k 8)
def cbSumUp (u : cb_U) (ch : Int32) : cb_U := cb_sZ u (suZ u ch 8)
def cbAns (u : cb_U) (j : Nat) (sp : Int32) (k : Nat) : Int32 := if sp = 0 then cbZ u k else cbZ u k - cbV u j k
def anO (u : cb_U) (j : Nat) (sp : Int32) : Nat → Nat → Nat → Int32
  | 0 => cbO u
  | k + 1 => va_up (anO u j sp k) j (upd (anO u j sp k j) k (fnX0_codeOf (cbL u j) (fnX0_saturated (cbAns u j sp k).toInt64)))
def cbAnswer (u : cb_U) (j : Nat) (sp : Int32) : cb_U := cb_sO u (anO u j sp 8)
def mxH (u : cb_U) : Nat → cb_U
  | 0 => u
  | k + 1 => cbHear (mxH u k) k
def mxA (u : cb_U) (ch : Int32) : Nat → cb_U
  | 0 => u
  | k + 1 => cbAnswer (mxA u ch k) k (fnX0_speaks ch (nI k))
theorem mxH_M (u : cb_U) : ∀ k, cbM (mxH u k) = cbM u
  | 0 => rfl
  | k + 1 => mxH_M u k
def anX0_mix (u : cb_U) (M : Nat) : Int32 := chF (mxH u 8) M 0
def stX0_mix (u : cb_U) (M : Nat) : cb_U := mxA (cbSumUp (mxH u 8) (anX0_mix u M)) (anX0_mix u M) 8

set_option maxHeartbeats 4000000 in
set_option maxRecDepth 100000 in
theorem lpX0_hear_5 {p : Program} {l : Launch} {e : Env} {s : State} {m : MethodId} {args : Array Value} {below : List Frame} {meth : Method} {c : Code} {Q : State → Prop} {A : Nat → Prop} {dC : Nat → ClassId} {dI : Nat → Nat → Nat} {ct : Nat → ClassId} {ad : Nat → Nat} (hx : p.tables.exec = Jvm.exec) (hb : c.code = cX0_hear) (hml : c.maxLocals = 7) (hown : s.vm.findClass RX0 = some m.cls) (hts : ∀ w ∈ wsX0_hear, w.before args s = true) (hin0 : ∀ w ∈ u_ws RX0 TX0 9, w ∈ wsX0_hear) (hK : va_K (dC, dI) vwCl (cb_ty ct) s) (hA : ∀ q : Nat, s.heap.size ≤ q → A q) (u : cb_U) (j : Nat) (hj : j < 8)
    (kk : ∀ (H : Heap) (locs : List Loc) (ls : Array Slot), va_P (dC, dI) vwCl (cb_w ct ad ((cb_sV u (hrV u j 8)))) H → va_D A (cb_w ct ad ((cb_sV u (hrV u j 8)))) → va_S A s.heap H locs → lv_has ls 7 [(0, .ref (ad 0)), (1, .int (nI j)), (2, .long (hrE u j 8)), (4, .int (nI 8))] → W p l e ({ frames := 3, cells := 0, slots := 0, locals := 65 }) s m args below meth c H locs 0 0 Q (F0 m 80 ls [])) :
    ∀ (n k : Nat), k ≤ 8 → 9 ≤ k + n → ∀ (H : Heap) (locs : List Loc) (ls : Array Slot), va_P (dC, dI) vwCl (cb_w ct ad ((cb_sV u (hrV u j k)))) H → va_D A (cb_w ct ad ((cb_sV u (hrV u j k)))) → va_S A s.heap H locs → lv_has ls 7 [(0, .ref (ad 0)), (1, .int (nI j)), (2, .long (hrE u j k)), (4, .int (nI k))] → W p l e ({ frames := 3, cells := 0, slots := 0, locals := 65 }) s m args below meth c H locs 0 0 Q (F0 m 5 ls []) := by
  intro n
  induction n with
  | zero => intro k h1 h2; exact absurd h2 (by omega)
  | succ n ih =>
    intro k h1 h2 H locs ls hP hD hS hl
    refine lv_iload hx hb dX0_hear_5 (lv_at hl 3 rfl) ?_
    refine lv_bipush (v := 8) hx hb dX0_hear_7 (by decide) ?_
    refine lv_icmp_ge (tgt := 80) hx hb dX0_hear_9 (by decide) (fun c_1 => ?_) (fun c_1 => ?_)
    · have hk8 : k = 8 := Nat.le_antisymm h1 ((nI_leI (a := 8) (by decide) (by omega)).mp c_1)
      subst hk8
      exact kk H locs ls hP hD hS (lv_sub hl [0, 1, 2, 3] rfl)
    · have hk : k < 8 := Nat.lt_of_not_le (fun q => c_1 (nI_le (a := 8) q (by omega)))
      refine lv_aload_n hx hb dX0_hear_12 rfl (lv_at hl 0 rfl) ?_
      refine cb_get hx hb hts hin0 hown hK hP 0 (by decide) (hts (.fieldLink RX0 9 "ConferenceBridge" "laws" "[I") (by decide +kernel)) (z := .ref (ad 1)) rfl dX0_hear_13 ?_
      refine lv_iload_n hx hb dX0_hear_16 rfl (lv_at hl 1 rfl) ?_
      refine cb_iald hx hb hK hP 1 0 (f := cbL u) rfl rfl hj (by decide) dX0_hear_17 ?_
      refine lv_aload_n hx hb dX0_hear_18 rfl (lv_at hl 0 rfl) ?_
      refine cb_get hx hb hts hin0 hown hK hP 3 (by decide) (hts (.fieldLink RX0 22 "ConferenceBridge" "coming" "[[I") (by decide +kernel)) (z := .ref (ad 4)) rfl dX0_hear_19 ?_
      refine lv_iload_n hx hb dX0_hear_22 rfl (lv_at hl 1 rfl) ?_
      refine cb_aaldN hx hb hK hP 4 2 rfl rfl hj (by decide) (b := ad (9 + j)) (cb_o_at hj) dX0_hear_23 ?_
      refine lv_iload hx hb dX0_hear_24 (lv_at hl 3 rfl) ?_
      refine cb_iald hx hb hK hP (9 + j) 0 (f := cbC u j) (cb_atC ct ad ((cb_sV u (hrV u j k))) j hj) rfl hk (by decide) dX0_hear_26 ?_
      refine vp_callSi (W.runS (As := [.int ((cbL u j)), .int ((cbC u j k))]) (rest := []) ⟨hx, hb, hml, hown, hts⟩ (metX0_sampleOf l (cbL u j) (cbC u j k)) (va_cwS 2 hts gX0_hear_X0_sampleOf rfl rfl rfl (by decide +kernel) ⟨(Nat.le_of_ble_eq_true rfl), (Nat.le_of_ble_eq_true rfl)⟩) ⟨fun a U g mk q => q, fun U hU hW => ⟨rfl, trivial⟩⟩ rfl rfl hl.1 rfl (lv_room (Nat.le_of_ble_eq_true rfl)) dX0_hear_27 ⟨(Nat.zero_le _), (Nat.zero_le _)⟩) (fun r_2 er_2 => ?_)
      subst er_2
      refine lv_istore (lv' := [(5, .int ((fnX0_sampleOf (cbL u j) (cbC u j k)))), (0, .ref (ad 0)), (1, .int (nI j)), (2, .long (hrE u j k)), (4, .int (nI k))]) hx hb dX0_hear_30 hl (by decide) rfl (fun ls hl => ?_)
      refine lv_iload hx hb dX0_hear_32 (lv_at hl 0 rfl) ?_
      refine lv_aload_n hx hb dX0_hear_34 rfl (lv_at hl 1 rfl) ?_
      refine cb_get hx hb hts hin0 hown hK hP 1 (by decide) (hts (.fieldLink RX0 13 "ConferenceBridge" "gains" "[I") (by decide +kernel)) (z := .ref (ad 2)) rfl dX0_hear_35 ?_
      refine lv_iload_n hx hb dX0_hear_38 rfl (lv_at hl 2 rfl) ?_
      refine cb_iald hx hb hK hP 2 0 (f := cbG u) rfl rfl hj (by decide) dX0_hear_39 ?_
      refine lv_imul hx hb dX0_hear_40 ?_
      refine lv_sipush (v := 256) hx hb dX0_hear_41 (by decide) ?_
      refine vp_callSi (W.runS (As := [.int (((fnX0_sampleOf (cbL u j) (cbC u j k)) * (cbG u j))), .int (256)]) (rest := []) ⟨hx, hb, hml, hown, hts⟩ (metJ9_floorDiv_7cf53 l ((fnX0_sampleOf (cbL u j) (cbC u j k)) * (cbG u j)) (256 : Int32) (by decide)) (va_cwS 2 hts gX0_hear_J9_floorDiv_7cf53 rfl rfl rfl (by decide +kernel) ⟨(Nat.le_of_ble_eq_true rfl), (Nat.le_of_ble_eq_true rfl)⟩) ⟨fun a U g mk q => q, fun U hU hW => ⟨rfl, trivial⟩⟩ rfl rfl hl.1 rfl (lv_room (Nat.le_of_ble_eq_true rfl)) dX0_hear_44 ⟨(Nat.zero_le _), (Nat.zero_le _)⟩) (fun r_3 er_3 => ?_)
      subst er_3
      refine lv_i2l (v := (fnJ9_floorDiv_7cf53 ((fnX0_sampleOf (cbL u j) (cbC u j k)) * (cbG u j)) (256 : Int32)).toInt64) hx hb dX0_hear_47 rfl ?_
      refine vp_callSi (W.runS (As := [.long ((fnJ9_floorDiv_7cf53 ((fnX0_sampleOf (cbL u j) (cbC u j k)) * (cbG u j)) (256 : Int32)).toInt64)]) (rest := []) ⟨hx, hb, hml, hown, hts⟩ (metX0_saturated l ((fnJ9_floorDiv_7cf53 ((fnX0_sampleOf (cbL u j) (cbC u j k)) * (cbG u j)) (256 : Int32)).toInt64)) (va_cwS 1 hts gX0_hear_X0_saturated rfl rfl rfl (by decide +kernel) ⟨(Nat.le_of_ble_eq_true rfl), (Nat.le_of_ble_eq_true rfl)⟩) ⟨fun a U g mk q => q, fun U hU hW => ⟨rfl, trivial⟩⟩ rfl rfl hl.1 rfl (lv_room (Nat.le_of_ble_eq_true rfl)) dX0_hear_48 ⟨(Nat.zero_le _), (Nat.zero_le _)⟩) (fun r_4 er_4 => ?_)
      subst er_4
      refine lv_istore (lv' := [(6, .int ((fnX0_saturated ((fnJ9_floorDiv_7cf53 ((fnX0_sampleOf (cbL u j) (cbC u j k)) * (cbG u j)) (256 : Int32)).toInt64)))), (5, .int ((fnX0_sampleOf (cbL u j) (cbC u j k)))), (0, .ref (ad 0)), (1, .int (nI j)), (2, .long (hrE u j k)), (4, .int (nI k))]) hx hb dX0_hear_51 hl (by decide) rfl (fun ls hl => ?_)
      refine lv_aload_n hx hb dX0_hear_53 rfl (lv_at hl 2 rfl) ?_
      refine cb_get hx hb hts hin0 hown hK hP 6 (by decide) (hts (.fieldLink RX0 32 "ConferenceBridge" "voices" "[[I") (by decide +kernel)) (z := .ref (ad 6)) rfl dX0_hear_54 ?_
      refine lv_iload_n hx hb dX0_hear_57 rfl (lv_at hl 3 rfl) ?_
      refine cb_aaldN hx hb hK hP 6 2 rfl rfl hj (by decide) (b := ad (25 + j)) (cb_o_at hj) dX0_hear_58 ?_
      refine lv_iload hx hb dX0_hear_59 (lv_at hl 5 rfl) ?_
      refine lv_iload hx hb dX0_hear_61 (lv_at hl 0 rfl) ?_
      refine cb_iast hx hb hK hP hD hS (25 + j) 0 (f := (hrV u j k) j) (cb_atV ct ad ((cb_sV u (hrV u j k))) j hj) rfl hk (by decide) (cb_putV ct ad ((cb_sV u (hrV u j k))) _ j hj) dX0_hear_63 (fun H locs hP hD hS => ?_)
      have hP : va_P (dC, dI) vwCl (cb_w ct ad ((cb_sV u (va_up (hrV u j k) j (upd ((hrV u j k) j) k (fnX0_saturated ((fnJ9_floorDiv_7cf53 ((fnX0_sampleOf (cbL u j) (cbC u j k)) * (cbG u j)) (256 : Int32)).toInt64))))))) H := hP
      have hD : va_D A (cb_w ct ad ((cb_sV u (va_up (hrV u j k) j (upd ((hrV u j k) j) k (fnX0_saturated ((fnJ9_floorDiv_7cf53 ((fnX0_sampleOf (cbL u j) (cbC u j k)) * (cbG u j)) (256 : Int32)).toInt64))))))) := hD
      refine lv_lload_n hx hb dX0_hear_64 rfl (lv_at hl 4 rfl) ?_
      refine lv_iload hx hb dX0_hear_65 (lv_at hl 0 rfl) ?_
      refine lv_i2l (v := (fnX0_saturated ((fnJ9_floorDiv_7cf53 ((fnX0_sampleOf (cbL u j) (cbC u j k)) * (cbG u j)) (256 : Int32)).toInt64)).toInt64) hx hb dX0_hear_67 rfl ?_
      refine lv_iload hx hb dX0_hear_68 (lv_at hl 0 rfl) ?_
      refine lv_i2l (v := (fnX0_saturated ((fnJ9_floorDiv_7cf53 ((fnX0_sampleOf (cbL u j) (cbC u j k)) * (cbG u j)) (256 : Int32)).toInt64)).toInt64) hx hb dX0_hear_70 rfl ?_
      refine lv_lmul hx hb dX0_hear_71 ?_
      refine lv_ladd hx hb dX0_hear_72 ?_
      refine lv_lstore_n (lv' := [(2, .long (((hrE u j k) + (((fnX0_saturated ((fnJ9_floorDiv_7cf53 ((fnX0_sampleOf (cbL u j) (cbC u j k)) * (cbG u j)) (256 : Int32)).toInt64)).toInt64) * ((fnX0_saturated ((fnJ9_floorDiv_7cf53 ((fnX0_sampleOf (cbL u j) (cbC u j k)) * (cbG u j)) (256 : Int32)).toInt64)).toInt64))))), (6, .int ((fnX0_saturated ((fnJ9_floorDiv_7cf53 ((fnX0_sampleOf (cbL u j) (cbC u j k)) * (cbG u j)) (256 : Int32)).toInt64)))), (5, .int ((fnX0_sampleOf (cbL u j) (cbC u j k)))), (0, .ref (ad 0)), (1, .int (nI j)), (4, .int (nI k))]) hx hb dX0_hear_73 rfl hl (by decide) rfl (fun ls hl => ?_)
      refine lv_iinc (v := ((nI k) + (1 : Int32))) (lv' := [(4, .int (((nI k) + (1 : Int32)))), (2, .long (((hrE u j k) + (((fnX0_saturated ((fnJ9_floorDiv_7cf53 ((fnX0_sampleOf (cbL u j) (cbC u j k)) * (cbG u j)) (256 : Int32)).toInt64)).toInt64) * ((fnX0_saturated ((fnJ9_floorDiv_7cf53 ((fnX0_sampleOf (cbL u j) (cbC u j k)) * (cbG u j)) (256 : Int32)).toInt64)).toInt64))))), (6, .int ((fnX0_saturated ((fnJ9_floorDiv_7cf53 ((fnX0_sampleOf (cbL u j) (cbC u j k)) * (cbG u j)) (256 : Int32)).toInt64)))), (5, .int ((fnX0_sampleOf (cbL u j) (cbC u j k)))), (0, .ref (ad 0)), (1, .int (nI j))]) hx hb dX0_hear_74 hl (k := 5) rfl rfl (by decide) rfl (fun ls hl => ?_)
      refine lv_goto (tgt := 5) hx hb dX0_hear_77 (by decide) ?_
      exact ih (k + 1) (by omega) (by omega) H locs ls hP hD hS (by rw [← nI_1]; exact lv_sub hl [4, 5, 1, 0] rfl)

set_option maxHeartbeats 4000000 in
set_option maxRecDepth 100000 in
theorem metX0_hear (l : Launch) (dC : Nat → ClassId) (dI : Nat → Nat → Nat) (ct : Nat → ClassId) (ad : Nat → Nat) (sz : Nat) (u : cb_U) (j : Nat) (hj : j < 8) : Met l yX0_hear wsX0_hear ({ frames := 3, cells := 0, slots := 0, locals := 65 }) (va_Pc [.ref (ad 0), .int (nI j)] (fun U => U.heap.size = sz ∧ cb_B dC dI ct ad (fun _ => True) u U)) (va_Qv (fun (_ : Unit) => True) (fun _ => cb_B dC dI ct ad (va_A (cb_w ct ad u) sz) (cbHear u j)) (va_A (cb_w ct ad u) sz)) 0 0 (va_A (cb_w ct ad u) sz) := by
  refine Met.ofW (cc := cX0_hear) (maxL := 7) (ret := none) (by decide) rfl ?_
  intro p e s m args below meth c s₁ B hml hv
  obtain ⟨rfl, hsz, hP, hK, hD0⟩ := hv
  have hx := B.exec
  have hb := B.bytes
  have hr := B.returns
  have hts := atoms_spec (ws := wsX0_hear) B.pre
  have hown : s.vm.findClass RX0 = some m.cls := findClass_of_methodNamed B.named
  have hlocks := B.notSynchronized
  have hin0 : ∀ w ∈ u_ws RX0 TX0 9, w ∈ wsX0_hear := by decide +kernel
  subst hsz
  have hD := hD0.self (sz := s.heap.size)
  generalize hAe : va_A (cb_w ct ad u) s.heap.size = A at hD ⊢
  have hA : ∀ q : Nat, s.heap.size ≤ q → A q := fun q h => by rw [← hAe]; exact Or.inr h
  have hS : va_S A s.heap s.heap [] := va_S.rf
  have hl := lv_entry ([.ref (ad 0), .int (nI j)]) (n := 7) (Nat.le_of_ble_eq_true rfl)
  rw [lg_entry_eq]
  generalize (lg_sl ([.ref (ad 0), .int (nI j)]) ++ List.replicate (7 - (lg_sl ([.ref (ad 0), .int (nI j)])).length) Slot.unset).toArray = ls at hl ⊢
  have hl : lv_has ls 7 [(0, .ref (ad 0)), (1, .int (nI j))] := hl
  refine lv_lconst (v := 0) hx hb dX0_hear_0 (by decide) ?_
  refine lv_lstore_n (lv' := [(2, .long (0)), (0, .ref (ad 0)), (1, .int (nI j))]) hx hb dX0_hear_1 rfl hl (by decide) rfl (fun ls hl => ?_)
  refine lv_iconst (v := 0) hx hb dX0_hear_2 (by decide) ?_
  refine lv_istore (lv' := [(4, .int (0)), (2, .long (0)), (0, .ref (ad 0)), (1, .int (nI j))]) hx hb dX0_hear_3 hl (by decide) rfl (fun ls hl => ?_)
  refine lpX0_hear_5 hx hb hml hown hts hin0 hK hA u j hj (fun H locs ls hP hD hS hl => ?_) 9 0 (by decide) (by decide) _ _ ls hP hD hS (lv_sub hl [2, 3, 1, 0] rfl)
  refine lv_aload_n hx hb dX0_hear_80 rfl (lv_at hl 0 rfl) ?_
  refine cb_get hx hb hts hin0 hown hK hP 7 (by decide) (hts (.fieldLink RX0 35 "ConferenceBridge" "energies" "[J") (by decide +kernel)) (z := .ref (ad 7)) rfl dX0_hear_81 ?_
  refine lv_iload_n hx hb dX0_hear_84 rfl (lv_at hl 1 rfl) ?_
  refine lv_lload_n hx hb dX0_hear_85 rfl (lv_at hl 2 rfl) ?_
  refine cb_last hx hb hK hP hD hS 7 3 (f := cbE u) rfl rfl hj (by decide) (ws1 := cb_w ct ad ((cb_sE (cb_sV u (hrV u j 8)) (vp_updL (cbE u) j (hrE u j 8))))) rfl dX0_hear_86 (fun H locs hP hD hS => ?_)
  have hP : va_P (dC, dI) vwCl (cb_w ct ad ((cb_sE (cb_sV u (hrV u j 8)) (vp_updL (cbE u) j (hrE u j 8))))) H := hP
  have hD : va_D A (cb_w ct ad ((cb_sE (cb_sV u (hrV u j 8)) (vp_updL (cbE u) j (hrE u j 8))))) := hD
  have e9 : cbHear u j = (cb_sE (cb_sV u (hrV u j 8)) (vp_updL (cbE u) j (hrE u j 8))) := rfl
  exact W.vret hx hb hr (fun t ht hW => ⟨⟨(), rfl, trivial, by rw [ht, e9]; exact hP, va_K.moved hW.alike hK, by rw [e9]; exact hD⟩, hS.F ht⟩) hS.2.2 dX0_hear_87

set_option maxHeartbeats 4000000 in
set_option maxRecDepth 100000 in
theorem lpX0_ramp_12 {p : Program} {l : Launch} {e : Env} {s : State} {m : MethodId} {args : Array Value} {below : List Frame} {meth : Method} {c : Code} {Q : State → Prop} {A : Nat → Prop} {dC : Nat → ClassId} {dI : Nat → Nat → Nat} {ct : Nat → ClassId} {ad : Nat → Nat} (hx : p.tables.exec = Jvm.exec) (hb : c.code = cX0_ramp) (hml : c.maxLocals = 7) (hown : s.vm.findClass RX0 = some m.cls) (hts : ∀ w ∈ wsX0_ramp, w.before args s = true) (hin0 : ∀ w ∈ u_ws RX0 TX0 9, w ∈ wsX0_ramp) (hK : va_K (dC, dI) vwCl (cb_ty ct) s) (hA : ∀ q : Nat, s.heap.size ≤ q → A q) (u : cb_U) (j : Nat) (hj : j < 8) (a2 a3 : Int32)
    (kk : ∀ (H : Heap) (locs : List Loc) (ls : Array Slot), va_P (dC, dI) vwCl (cb_w ct ad ((cb_sC u (rpC u j a2 a3 8)))) H → va_D A (cb_w ct ad ((cb_sC u (rpC u j a2 a3 8)))) → va_S A s.heap H locs → lv_has ls 7 [(0, .ref (ad 0)), (1, .int (nI j)), (2, .int (a2)), (3, .int (a3)), (4, .int (nI 8))] → W p l e ({ frames := 4, cells := 0, slots := 0, locals := 86 }) s m args below meth c H locs 0 0 Q (F0 m 59 ls [])) :
    ∀ (n k : Nat), k ≤ 8 → 9 ≤ k + n → ∀ (H : Heap) (locs : List Loc) (ls : Array Slot), va_P (dC, dI) vwCl (cb_w ct ad ((cb_sC u (rpC u j a2 a3 k)))) H → va_D A (cb_w ct ad ((cb_sC u (rpC u j a2 a3 k)))) → va_S A s.heap H locs → lv_has ls 7 [(0, .ref (ad 0)), (1, .int (nI j)), (2, .int (a2)), (3, .int (a3)), (4, .int (nI k))] → W p l e ({ frames := 4, cells := 0, slots := 0, locals := 86 }) s m args below meth c H locs 0 0 Q (F0 m 12 ls []) := by
  intro n
  induction n with
  | zero => intro k h1 h2; exact absurd h2 (by omega)
  | succ n ih =>
    intro k h1 h2 H locs ls hP hD hS hl
    refine lv_iload hx hb dX0_ramp_12 (lv_at hl 4 rfl) ?_
    refine lv_bipush (v := 8) hx hb dX0_ramp_14 (by decide) ?_
    refine lv_icmp_ge (tgt := 59) hx hb dX0_ramp_16 (by decide) (fun c_1 => ?_) (fun c_1 => ?_)
    · have hk8 : k = 8 := Nat.le_antisymm h1 ((nI_leI (a := 8) (by decide) (by omega)).mp c_1)
      subst hk8
      exact kk H locs ls hP hD hS (lv_sub hl [0, 1, 2, 3, 4] rfl)
    · have hk : k < 8 := Nat.lt_of_not_le (fun q => c_1 (nI_le (a := 8) q (by omega)))
      refine lv_iload_n hx hb dX0_ramp_19 rfl (lv_at hl 2 rfl) ?_
      refine lv_i2l (v := a2.toInt64) hx hb dX0_ramp_20 rfl ?_
      refine lv_iload hx hb dX0_ramp_21 (lv_at hl 4 rfl) ?_
      refine lv_i2l (v := (nI k).toInt64) hx hb dX0_ramp_23 rfl ?_
      refine lv_iload_n hx hb dX0_ramp_24 rfl (lv_at hl 3 rfl) ?_
      refine lv_i2l (v := a3.toInt64) hx hb dX0_ramp_25 rfl ?_
      refine lv_lmul hx hb dX0_ramp_26 ?_
      refine lv_ladd hx hb dX0_ramp_27 ?_
      refine lv_lstore (lv' := [(5, .long (((a2.toInt64) + (((nI k).toInt64) * (a3.toInt64))))), (0, .ref (ad 0)), (1, .int (nI j)), (2, .int (a2)), (3, .int (a3)), (4, .int (nI k))]) hx hb dX0_ramp_28 hl (by decide) rfl (fun ls hl => ?_)
      refine lv_aload_n hx hb dX0_ramp_30 rfl (lv_at hl 1 rfl) ?_
      refine cb_get hx hb hts hin0 hown hK hP 3 (by decide) (hts (.fieldLink RX0 22 "ConferenceBridge" "coming" "[[I") (by decide +kernel)) (z := .ref (ad 4)) rfl dX0_ramp_31 ?_
      refine lv_iload_n hx hb dX0_ramp_34 rfl (lv_at hl 2 rfl) ?_
      refine cb_aaldN hx hb hK hP 4 2 rfl rfl hj (by decide) (b := ad (9 + j)) (cb_o_at hj) dX0_ramp_35 ?_
      refine lv_iload hx hb dX0_ramp_36 (lv_at hl 5 rfl) ?_
      refine lv_aload_n hx hb dX0_ramp_38 rfl (lv_at hl 1 rfl) ?_
      refine cb_get hx hb hts hin0 hown hK hP 0 (by decide) (hts (.fieldLink RX0 9 "ConferenceBridge" "laws" "[I") (by decide +kernel)) (z := .ref (ad 1)) rfl dX0_ramp_39 ?_
      refine lv_iload_n hx hb dX0_ramp_42 rfl (lv_at hl 2 rfl) ?_
      refine cb_iald hx hb hK hP 1 0 (f := cbL u) rfl rfl hj (by decide) dX0_ramp_43 ?_
      refine lv_lload hx hb dX0_ramp_44 (lv_at hl 0 rfl) ?_
      refine vp_callSi (W.runS (As := [.long (((a2.toInt64) + (((nI k).toInt64) * (a3.toInt64))))]) (rest := [.int ((cbL u j)), .int (nI k), .ref (ad (9 + j))]) ⟨hx, hb, hml, hown, hts⟩ (metX0_saturated l ((a2.toInt64) + (((nI k).toInt64) * (a3.toInt64)))) (va_cwS 1 hts gX0_ramp_X0_saturated rfl rfl rfl (by decide +kernel) ⟨(Nat.le_of_ble_eq_true rfl), (Nat.le_of_ble_eq_true rfl)⟩) ⟨fun a U g mk q => q, fun U hU hW => ⟨rfl, trivial⟩⟩ rfl rfl hl.1 rfl (lv_room (Nat.le_of_ble_eq_true rfl)) dX0_ramp_46 ⟨(Nat.zero_le _), (Nat.zero_le _)⟩) (fun r_2 er_2 => ?_)
      subst er_2
      refine vp_callSi (W.runS (As := [.int ((cbL u j)), .int ((fnX0_saturated ((a2.toInt64) + (((nI k).toInt64) * (a3.toInt64)))))]) (rest := [.int (nI k), .ref (ad (9 + j))]) ⟨hx, hb, hml, hown, hts⟩ (metX0_codeOf l (cbL u j) (fnX0_saturated ((a2.toInt64) + (((nI k).toInt64) * (a3.toInt64))))) (va_cwS 2 hts gX0_ramp_X0_codeOf rfl rfl rfl (by decide +kernel) ⟨(Nat.le_of_ble_eq_true rfl), (Nat.le_of_ble_eq_true rfl)⟩) ⟨fun a U g mk q => q, fun U hU hW => ⟨rfl, trivial⟩⟩ rfl rfl hl.1 rfl (lv_room (Nat.le_of_ble_eq_true rfl)) dX0_ramp_49 ⟨(Nat.zero_le _), (Nat.zero_le _)⟩) (fun r_3 er_3 => ?_)
      subst er_3
      refine cb_iast hx hb hK hP hD hS (9 + j) 0 (f := (rpC u j a2 a3 k) j) (cb_atC ct ad ((cb_sC u (rpC u j a2 a3 k))) j hj) rfl hk (by decide) (cb_putC ct ad ((cb_sC u (rpC u j a2 a3 k))) _ j hj) dX0_ramp_52 (fun H locs hP hD hS => ?_)
      have hP : va_P (dC, dI) vwCl (cb_w ct ad ((cb_sC u (va_up (rpC u j a2 a3 k) j (upd ((rpC u j a2 a3 k) j) k (fnX0_codeOf (cbL u j) (fnX0_saturated ((a2.toInt64) + (((nI k).toInt64) * (a3.toInt64)))))))))) H := hP
      have hD : va_D A (cb_w ct ad ((cb_sC u (va_up (rpC u j a2 a3 k) j (upd ((rpC u j a2 a3 k) j) k (fnX0_codeOf (cbL u j) (fnX0_saturated ((a2.toInt64) + (((nI k).toInt64) * (a3.toInt64)))))))))) := hD
      refine lv_iinc (v := ((nI k) + (1 : Int32))) (lv' := [(4, .int (((nI k) + (1 : Int32)))), (5, .long (((a2.toInt64) + (((nI k).toInt64) * (a3.toInt64))))), (0, .ref (ad 0)), (1, .int (nI j)), (2, .int (a2)), (3, .int (a3))]) hx hb dX0_ramp_53 hl (k := 5) rfl rfl (by decide) rfl (fun ls hl => ?_)
      refine lv_goto (tgt := 12) hx hb dX0_ramp_56 (by decide) ?_
      exact ih (k + 1) (by omega) (by omega) H locs ls hP hD hS (by rw [← nI_1]; exact lv_sub hl [2, 3, 4, 5, 0] rfl)

set_option maxHeartbeats 4000000 in
set_option maxRecDepth 100000 in
theorem metX0_ramp (l : Launch) (dC : Nat → ClassId) (dI : Nat → Nat → Nat) (ct : Nat → ClassId) (ad : Nat → Nat) (sz : Nat) (u : cb_U) (a1 a2 a3 : Int32) : Met l yX0_ramp wsX0_ramp ({ frames := 4, cells := 0, slots := 0, locals := 86 }) (va_Pc [.ref (ad 0), .int (a1), .int (a2), .int (a3)] (fun U => U.heap.size = sz ∧ cb_B dC dI ct ad (fun _ => True) u U)) (va_Qi (fun r (_ : Unit) => r = anX0_ramp a1) (fun _ => cb_B dC dI ct ad (va_A (cb_w ct ad u) sz) (stX0_ramp u a1 a2 a3)) (va_A (cb_w ct ad u) sz)) 0 0 (va_A (cb_w ct ad u) sz) := by
  refine Met.ofW (cc := cX0_ramp) (maxL := 7) (ret := (some .boolean)) (by decide) rfl ?_
  intro p e s m args below meth c s₁ B hml hv
  obtain ⟨rfl, hsz, hP, hK, hD0⟩ := hv
  have hx := B.exec
  have hb := B.bytes
  have hr := B.returns
  have hts := atoms_spec (ws := wsX0_ramp) B.pre
  have hown : s.vm.findClass RX0 = some m.cls := findClass_of_methodNamed B.named
  have hlocks := B.notSynchronized
  have hin0 : ∀ w ∈ u_ws RX0 TX0 9, w ∈ wsX0_ramp := by decide +kernel
  subst hsz
  have hD := hD0.self (sz := s.heap.size)
  generalize hAe : va_A (cb_w ct ad u) s.heap.size = A at hD ⊢
  have hA : ∀ q : Nat, s.heap.size ≤ q → A q := fun q h => by rw [← hAe]; exact Or.inr h
  have hS : va_S A s.heap s.heap [] := va_S.rf
  have hl := lv_entry ([.ref (ad 0), .int (a1), .int (a2), .int (a3)]) (n := 7) (Nat.le_of_ble_eq_true rfl)
  rw [lg_entry_eq]
  generalize (lg_sl ([.ref (ad 0), .int (a1), .int (a2), .int (a3)]) ++ List.replicate (7 - (lg_sl ([.ref (ad 0), .int (a1), .int (a2), .int (a3)])).length) Slot.unset).toArray = ls at hl ⊢
  have hl : lv_has ls 7 [(0, .ref (ad 0)), (1, .int (a1)), (2, .int (a2)), (3, .int (a3))] := hl
  refine lv_iload_n hx hb dX0_ramp_0 rfl (lv_at hl 1 rfl) ?_
  refine vp_callSi (W.runS (As := [.int (a1)]) (rest := []) ⟨hx, hb, hml, hown, hts⟩ (metX0_isParty l a1) (va_cwS 1 hts gX0_ramp_X0_isParty rfl rfl rfl (by decide +kernel) ⟨(Nat.le_of_ble_eq_true rfl), (Nat.le_of_ble_eq_true rfl)⟩) ⟨fun a U g mk q => q, fun U hU hW => ⟨rfl, trivial⟩⟩ rfl rfl hl.1 rfl (lv_room (Nat.le_of_ble_eq_true rfl)) dX0_ramp_1 ⟨(Nat.zero_le _), (Nat.zero_le _)⟩) (fun r_1 er_1 => ?_)
  subst er_1
  refine lv_if_ne (tgt := 9) hx hb dX0_ramp_4 (by decide) (fun c_2 => ?_) (fun c_2 => ?_)
  · obtain ⟨j, hj, rfl⟩ := vp_in_of (cb_party c_2) (by decide)
    refine lv_iconst (v := 0) hx hb dX0_ramp_9 (by decide) ?_
    refine lv_istore (lv' := [(4, .int (0)), (0, .ref (ad 0)), (1, .int (nI j)), (2, .int (a2)), (3, .int (a3))]) hx hb dX0_ramp_10 hl (by decide) rfl (fun ls hl => ?_)
    refine lpX0_ramp_12 hx hb hml hown hts hin0 hK hA u j hj a2 a3 (fun H locs ls hP hD hS hl => ?_) 9 0 (by decide) (by decide) _ _ ls hP hD hS (lv_sub hl [1, 2, 3, 4, 0] rfl)
    refine lv_iconst (v := 1) hx hb dX0_ramp_59 (by decide) ?_
    have e9 : stX0_ramp u (nI j) a2 a3 = (cb_sC u (rpC u j a2 a3 8)) := by unfold stX0_ramp; rw [if_neg c_2, nI_clamp (by omega)]
    exact W.zret (v := 1) hx hb hr (by decide) (fun t ht hW => ⟨⟨1, (), rfl, by unfold anX0_ramp; rw [if_neg c_2], by rw [ht, e9]; exact hP, va_K.moved hW.alike hK, by rw [e9]; exact hD⟩, hS.F ht⟩) hS.2.2 dX0_ramp_60
  · refine lv_iconst (v := 0) hx hb dX0_ramp_7 (by decide) ?_
    have e9 : stX0_ramp u a1 a2 a3 = u := by unfold stX0_ramp; rw [if_pos c_2]
    exact W.zret (v := 0) hx hb hr (by decide) (fun t ht hW => ⟨⟨0, (), rfl, by unfold anX0_ramp; rw [if_pos c_2], by rw [ht, e9]; exact hP, va_K.moved hW.alike hK, by rw [e9]; exact hD⟩, hS.F ht⟩) hS.2.2 dX0_ramp_8

set_option maxHeartbeats 4000000 in
set_option maxRecDepth 100000 in
theorem lpX0_loudestBeside_7 {p : Program} {l : Launch} {e : Env} {s : State} {m : MethodId} {args : Array Value} {below : List Frame} {meth : Method} {c : Code} {Q : State → Prop} {A : Nat → Prop} {dC : Nat → ClassId} {dI : Nat → Nat → Nat} {ct : Nat → ClassId} {ad : Nat → Nat} (hx : p.tables.exec = Jvm.exec) (hb : c.code = cX0_loudestBeside) (hml : c.maxLocals = 6) (hown : s.vm.findClass RX0 = some m.cls) (hts : ∀ w ∈ wsX0_loudestBeside, w.before args s = true) (hin0 : ∀ w ∈ u_ws RX0 TX0 9, w ∈ wsX0_loudestBeside) (hK : va_K (dC, dI) vwCl (cb_ty ct) s) (hA : ∀ q : Nat, s.heap.size ≤ q → A q) (u : cb_U) (a1 : Int32)
    (kk : ∀ (H : Heap) (locs : List Loc) (ls : Array Slot), va_P (dC, dI) vwCl (cb_w ct ad u) H → va_D A (cb_w ct ad u) → va_S A s.heap H locs → lv_has ls 6 [(0, .ref (ad 0)), (1, .int (a1)), (2, .int ((lbF u a1 8).1)), (3, .long ((lbF u a1 8).2)), (5, .int (nI 8))] → W p l e ({ frames := 1, cells := 0, slots := 0, locals := 21 }) s m args below meth c H locs 0 0 Q (F0 m 62 ls [])) :
    ∀ (n k : Nat), k ≤ 8 → 9 ≤ k + n → ∀ (H : Heap) (locs : List Loc) (ls : Array Slot), va_P (dC, dI) vwCl (cb_w ct ad u) H → va_D A (cb_w ct ad u) → va_S A s.heap H locs → lv_has ls 6 [(0, .ref (ad 0)), (1, .int (a1)), (2, .int ((lbF u a1 k).1)), (3, .long ((lbF u a1 k).2)), (5, .int (nI k))] → W p l e ({ frames := 1, cells := 0, slots := 0, locals := 21 }) s m args below meth c H locs 0 0 Q (F0 m 7 ls []) := by
  intro n
  induction n with
  | zero => intro k h1 h2; exact absurd h2 (by omega)
  | succ n ih =>
    intro k h1 h2 H locs ls hP hD hS hl
    refine lv_iload hx hb dX0_loudestBeside_7 (lv_at hl 4 rfl) ?_
    refine lv_bipush (v := 8) hx hb dX0_loudestBeside_9 (by decide) ?_
    refine lv_icmp_ge (tgt := 62) hx hb dX0_loudestBeside_11 (by decide) (fun c_1 => ?_) (fun c_1 => ?_)
    · have hk8 : k = 8 := Nat.le_antisymm h1 ((nI_leI (a := 8) (by decide) (by omega)).mp c_1)
      subst hk8
      exact kk H locs ls hP hD hS (lv_sub hl [0, 1, 2, 3, 4] rfl)
    · have hk : k < 8 := Nat.lt_of_not_le (fun q => c_1 (nI_le (a := 8) q (by omega)))
      refine lv_aload_n hx hb dX0_loudestBeside_14 rfl (lv_at hl 0 rfl) ?_
      refine cb_get hx hb hts hin0 hown hK hP 2 (by decide) (hts (.fieldLink RX0 16 "ConferenceBridge" "silenced" "[Z") (by decide +kernel)) (z := .ref (ad 3)) rfl dX0_loudestBeside_15 ?_
      refine lv_iload hx hb dX0_loudestBeside_18 (lv_at hl 4 rfl) ?_
      refine cb_zald hx hb hK hP 3 1 (f := cbS u) rfl rfl hk (by decide) dX0_loudestBeside_20 ?_
      refine lv_if_ne (tgt := 56) hx hb dX0_loudestBeside_21 (by decide) (fun c_2 => ?_) (fun c_2 => ?_)
      · refine lv_iinc (v := ((nI k) + (1 : Int32))) (lv' := [(5, .int (((nI k) + (1 : Int32)))), (0, .ref (ad 0)), (1, .int (a1)), (2, .int ((lbF u a1 k).1)), (3, .long ((lbF u a1 k).2))]) hx hb dX0_loudestBeside_56 hl (k := 4) rfl rfl (by decide) rfl (fun ls hl => ?_)
        refine lv_goto (tgt := 7) hx hb dX0_loudestBeside_59 (by decide) ?_
        have e9 : lbF u a1 (k + 1) = lbF u a1 k := by rw [lbF, if_neg c_2]
        exact ih (k + 1) (by omega) (by omega) H locs ls hP hD hS (by rw [← nI_1, e9]; exact lv_sub hl [1, 2, 3, 4, 0] rfl)
      · refine lv_iload_n hx hb dX0_loudestBeside_24 rfl (lv_at hl 1 rfl) ?_
        refine lv_iload hx hb dX0_loudestBeside_25 (lv_at hl 4 rfl) ?_
        refine vp_callSi (W.runS (As := [.int (a1), .int (nI k)]) (rest := []) ⟨hx, hb, hml, hown, hts⟩ (metX0_speaks l a1 (nI k)) (va_cwS 2 hts gX0_loudestBeside_X0_speaks rfl rfl rfl (by decide +kernel) ⟨(Nat.le_of_ble_eq_true rfl), (Nat.le_of_ble_eq_true rfl)⟩) ⟨fun a U g mk q => q, fun U hU hW => ⟨rfl, trivial⟩⟩ rfl rfl hl.1 rfl (lv_room (Nat.le_of_ble_eq_true rfl)) dX0_loudestBeside_27 ⟨(Nat.zero_le _), (Nat.zero_le _)⟩) (fun r_3 er_3 => ?_)
        subst er_3
        refine lv_if_ne (tgt := 56) hx hb dX0_loudestBeside_30 (by decide) (fun c_4 => ?_) (fun c_4 => ?_)
        · refine lv_iinc (v := ((nI k) + (1 : Int32))) (lv' := [(5, .int (((nI k) + (1 : Int32)))), (0, .ref (ad 0)), (1, .int (a1)), (2, .int ((lbF u a1 k).1)), (3, .long ((lbF u a1 k).2))]) hx hb dX0_loudestBeside_56 hl (k := 4) rfl rfl (by decide) rfl (fun ls hl => ?_)
          refine lv_goto (tgt := 7) hx hb dX0_loudestBeside_59 (by decide) ?_
          have e9 : lbF u a1 (k + 1) = lbF u a1 k := by rw [lbF, if_pos c_2, if_neg c_4]
          exact ih (k + 1) (by omega) (by omega) H locs ls hP hD hS (by rw [← nI_1, e9]; exact lv_sub hl [1, 2, 3, 4, 0] rfl)
        · refine lv_aload_n hx hb dX0_loudestBeside_33 rfl (lv_at hl 0 rfl) ?_
          refine cb_get hx hb hts hin0 hown hK hP 7 (by decide) (hts (.fieldLink RX0 35 "ConferenceBridge" "energies" "[J") (by decide +kernel)) (z := .ref (ad 7)) rfl dX0_loudestBeside_34 ?_
          refine lv_iload hx hb dX0_loudestBeside_37 (lv_at hl 4 rfl) ?_
          refine cb_lald hx hb hK hP 7 3 (f := cbE u) rfl rfl hk (by decide) dX0_loudestBeside_39 ?_
          refine lv_lload_n hx hb dX0_loudestBeside_40 rfl (lv_at hl 3 rfl) ?_
          refine W.lcmp hx hb dX0_loudestBeside_41 ?_
          refine lv_if_le (tgt := 56) hx hb dX0_loudestBeside_42 (by decide) (fun c_5 => ?_) (fun c_5 => ?_)
          · refine lv_iinc (v := ((nI k) + (1 : Int32))) (lv' := [(5, .int (((nI k) + (1 : Int32)))), (0, .ref (ad 0)), (1, .int (a1)), (2, .int ((lbF u a1 k).1)), (3, .long ((lbF u a1 k).2))]) hx hb dX0_loudestBeside_56 hl (k := 4) rfl rfl (by decide) rfl (fun ls hl => ?_)
            refine lv_goto (tgt := 7) hx hb dX0_loudestBeside_59 (by decide) ?_
            have e9 : lbF u a1 (k + 1) = lbF u a1 k := by rw [lbF, if_pos c_2, if_pos c_4, if_pos c_5]
            exact ih (k + 1) (by omega) (by omega) H locs ls hP hD hS (by rw [← nI_1, e9]; exact lv_sub hl [1, 2, 3, 4, 0] rfl)
          · refine lv_iload hx hb dX0_loudestBeside_45 (lv_at hl 4 rfl) ?_
            refine lv_istore_n (lv' := [(2, .int (nI k)), (0, .ref (ad 0)), (1, .int (a1)), (3, .long ((lbF u a1 k).2)), (5, .int (nI k))]) hx hb dX0_loudestBeside_47 rfl hl (by decide) rfl (fun ls hl => ?_)
            refine lv_aload_n hx hb dX0_loudestBeside_48 rfl (lv_at hl 1 rfl) ?_
            refine cb_get hx hb hts hin0 hown hK hP 7 (by decide) (hts (.fieldLink RX0 35 "ConferenceBridge" "energies" "[J") (by decide +kernel)) (z := .ref (ad 7)) rfl dX0_loudestBeside_49 ?_
            refine lv_iload hx hb dX0_loudestBeside_52 (lv_at hl 4 rfl) ?_
            refine cb_lald hx hb hK hP 7 3 (f := cbE u) rfl rfl hk (by decide) dX0_loudestBeside_54 ?_
            refine lv_lstore_n (lv' := [(3, .long ((cbE u k))), (2, .int (nI k)), (0, .ref (ad 0)), (1, .int (a1)), (5, .int (nI k))]) hx hb dX0_loudestBeside_55 rfl hl (by decide) rfl (fun ls hl => ?_)
            refine lv_iinc (v := ((nI k) + (1 : Int32))) (lv' := [(5, .int (((nI k) + (1 : Int32)))), (3, .long ((cbE u k))), (2, .int (nI k)), (0, .ref (ad 0)), (1, .int (a1))]) hx hb dX0_loudestBeside_56 hl (k := 4) rfl rfl (by decide) rfl (fun ls hl => ?_)
            refine lv_goto (tgt := 7) hx hb dX0_loudestBeside_59 (by decide) ?_
            have e9 : lbF u a1 (k + 1) = (nI k, cbE u k) := by rw [lbF, if_pos c_2, if_pos c_4, if_neg c_5]
            exact ih (k + 1) (by omega) (by omega) H locs ls hP hD hS (by rw [← nI_1, e9]; exact lv_sub hl [3, 4, 2, 1, 0] rfl)

set_option maxHeartbeats 4000000 in
set_option maxRecDepth 100000 in
theorem metX0_loudestBeside (l : Launch) (dC : Nat → ClassId) (dI : Nat → Nat → Nat) (ct : Nat → ClassId) (ad : Nat → Nat) (sz : Nat) (u : cb_U) (a1 : Int32) : Met l yX0_loudestBeside wsX0_loudestBeside ({ frames := 1, cells := 0, slots := 0, locals := 21 }) (va_Pc [.ref (ad 0), .int (a1)] (fun U => U.heap.size = sz ∧ cb_B dC dI ct ad (fun _ => True) u U)) (va_Qi (fun r (_ : Unit) => r = (lbF u a1 8).1) (fun _ => cb_B dC dI ct ad (va_A (cb_w ct ad u) sz) u) (va_A (cb_w ct ad u) sz)) 0 0 (va_A (cb_w ct ad u) sz) := by
  refine Met.ofW (cc := cX0_loudestBeside) (maxL := 6) (ret := (some .int)) (by decide) rfl ?_
  intro p e s m args below meth c s₁ B hml hv
  obtain ⟨rfl, hsz, hP, hK, hD0⟩ := hv
  have hx := B.exec
  have hb := B.bytes
  have hr := B.returns
  have hts := atoms_spec (ws := wsX0_loudestBeside) B.pre
  have hown : s.vm.findClass RX0 = some m.cls := findClass_of_methodNamed B.named
  have hlocks := B.notSynchronized
  have hin0 : ∀ w ∈ u_ws RX0 TX0 9, w ∈ wsX0_loudestBeside := by decide +kernel
  subst hsz
  have hD := hD0.self (sz := s.heap.size)
  generalize hAe : va_A (cb_w ct ad u) s.heap.size = A at hD ⊢
  have hA : ∀ q : Nat, s.heap.size ≤ q → A q := fun q h => by rw [← hAe]; exact Or.inr h
  have hS : va_S A s.heap s.heap [] := va_S.rf
  have hl := lv_entry ([.ref (ad 0), .int (a1)]) (n := 6) (Nat.le_of_ble_eq_true rfl)
  rw [lg_entry_eq]
  generalize (lg_sl ([.ref (ad 0), .int (a1)]) ++ List.replicate (6 - (lg_sl ([.ref (ad 0), .int (a1)])).length) Slot.unset).toArray = ls at hl ⊢
  have hl : lv_has ls 6 [(0, .ref (ad 0)), (1, .int (a1))] := hl
  refine lv_iconst (v := (-1)) hx hb dX0_loudestBeside_0 (by decide) ?_
  refine lv_istore_n (lv' := [(2, .int ((-1))), (0, .ref (ad 0)), (1, .int (a1))]) hx hb dX0_loudestBeside_1 rfl hl (by decide) rfl (fun ls hl => ?_)
  refine lv_lconst (v := 0) hx hb dX0_loudestBeside_2 (by decide) ?_
  refine lv_lstore_n (lv' := [(3, .long (0)), (2, .int ((-1))), (0, .ref (ad 0)), (1, .int (a1))]) hx hb dX0_loudestBeside_3 rfl hl (by decide) rfl (fun ls hl => ?_)
  refine lv_iconst (v := 0) hx hb dX0_loudestBeside_4 (by decide) ?_
  refine lv_istore (lv' := [(5, .int (0)), (3, .long (0)), (2, .int ((-1))), (0, .ref (ad 0)), (1, .int (a1))]) hx hb dX0_loudestBeside_5 hl (by decide) rfl (fun ls hl => ?_)
  refine lpX0_loudestBeside_7 hx hb hml hown hts hin0 hK hA u a1 (fun H locs ls hP hD hS hl => ?_) 9 0 (by decide) (by decide) _ _ ls hP hD hS (lv_sub hl [3, 4, 2, 1, 0] rfl)
  refine lv_iload_n hx hb dX0_loudestBeside_62 rfl (lv_at hl 2 rfl) ?_
  have e9 : u = u := rfl
  exact W.iret (v := (lbF u a1 8).1) hx hb hr (fun t ht hW => ⟨⟨(lbF u a1 8).1, (), rfl, rfl, by rw [ht, e9]; exact hP, va_K.moved hW.alike hK, by rw [e9]; exact hD⟩, hS.F ht⟩) hS.2.2 dX0_loudestBeside_63

set_option maxHeartbeats 4000000 in
set_option maxRecDepth 100000 in
theorem lpX0_chooseSpeakers_4 {p : Program} {l : Launch} {e : Env} {s : State} {m : MethodId} {args : Array Value} {below : List Frame} {meth : Method} {c : Code} {Q : State → Prop} {A : Nat → Prop} {dC : Nat → ClassId} {dI : Nat → Nat → Nat} {ct : Nat → ClassId} {ad : Nat → Nat} (hx : p.tables.exec = Jvm.exec) (hb : c.code = cX0_chooseSpeakers) (hml : c.maxLocals = 4) (hown : s.vm.findClass RX0 = some m.cls) (hts : ∀ w ∈ wsX0_chooseSpeakers, w.before args s = true) (hin0 : ∀ w ∈ u_ws RX0 TX0 9, w ∈ wsX0_chooseSpeakers) (hK : va_K (dC, dI) vwCl (cb_ty ct) s) (hA : ∀ q : Nat, s.heap.size ≤ q → A q) (u : cb_U) (M : Nat) (hM : M ≤ 8) (eM : cbM u = nI M) (F : Int32)
    (kk : ∀ (i : Nat) (H : Heap) (locs : List Loc) (ls : Array Slot), va_P (dC, dI) vwCl (cb_w ct ad u) H → va_D A (cb_w ct ad u) → va_S A s.heap H locs → lv_has ls 4 [(0, .ref (ad 0)), (1, .int (F)), (2, .int (nI i))] → W p l e ({ frames := 2, cells := 0, slots := 0, locals := 46 }) s m args below meth c H locs 0 0 Q (F0 m 38 ls [])) :
    ∀ (n i : Nat) (ch : Int32), i ≤ M → M + 1 ≤ i + n → chF u (M - i) ch = F → ∀ (H : Heap) (locs : List Loc) (ls : Array Slot), va_P (dC, dI) vwCl (cb_w ct ad u) H → va_D A (cb_w ct ad u) → va_S A s.heap H locs → lv_has ls 4 [(0, .ref (ad 0)), (1, .int (ch)), (2, .int (nI i))] → W p l e ({ frames := 2, cells := 0, slots := 0, locals := 46 }) s m args below meth c H locs 0 0 Q (F0 m 4 ls []) := by
  intro n
  induction n with
  | zero => intro i ch h1 h2; exact absurd h2 (by omega)
  | succ n ih =>
    intro i ch h1 h2 hF H locs ls hP hD hS hl
    refine lv_iload_n hx hb dX0_chooseSpeakers_4 rfl (lv_at hl 2 rfl) ?_
    refine lv_aload_n hx hb dX0_chooseSpeakers_5 rfl (lv_at hl 0 rfl) ?_
    refine cb_get hx hb hts hin0 hown hK hP 5 (by decide) (hts (.fieldLink RX0 28 "ConferenceBridge" "mostSpeakers" "I") (by decide +kernel)) (z := .int (cbM u)) rfl dX0_chooseSpeakers_6 ?_
    refine lv_topi (fun y9 ey9 => ?_)
    obtain rfl : y9 = nI M := ey9.trans eM
    refine lv_icmp_ge (tgt := 38) hx hb dX0_chooseSpeakers_9 (by decide) (fun c_1 => ?_) (fun c_1 => ?_)
    · have hi : M = i := Nat.le_antisymm ((nI_leI (by omega) (by omega)).mp c_1) h1
      subst hi
      have e9 : ch = F := by rw [← hF, Nat.sub_self]; rfl
      subst e9
      exact kk _ H locs ls hP hD hS (lv_sub hl [0, 1, 2] rfl)
    · refine lv_aload_n hx hb dX0_chooseSpeakers_12 rfl (lv_at hl 0 rfl) ?_
      refine lv_iload_n hx hb dX0_chooseSpeakers_13 rfl (lv_at hl 1 rfl) ?_
      have hFc := cb_free hD hS hA
      refine va_calli (va_runV (As := [.int (ch)]) (rest := []) ⟨hx, hb, hml, hown, hts⟩ (metX0_loudestBeside l dC dI ct ad H.size u ch) (cwV 1 hts gX0_chooseSpeakers_X0_loudestBeside rfl rfl rfl (by decide +kernel) ⟨(Nat.le_of_ble_eq_true rfl), (Nat.le_of_ble_eq_true rfl)⟩) ⟨fun a U g mk q => by obtain ⟨q0, q1, qP, qK, qD⟩ := q; exact ⟨q0, q1, qP, va_K.moved (u := U) (U := U.calling g mk a) (Vm.Alike.refl U.vm) qK, qD⟩, va_recv hK hP (ci := 0) (q0 := 0) rfl rfl, fun U hU hW => ⟨rfl, by rw [hU], by rw [hU]; exact hP, va_K.moved hW.alike hK, hD.weaken (fun _ _ _ _ => trivial)⟩⟩ rfl rfl hl.1 rfl (lv_room (Nat.le_of_ble_eq_true rfl)) dX0_chooseSpeakers_14 ⟨(Nat.zero_le _), (Nat.zero_le _)⟩) hS (fun q _ h => hFc q h) hFc (fun r_2 u9 t9 H1 locs ht9 hvm hw9 hB hz1 hk1 hS => ?_)
      obtain ⟨hP1, -, hD1⟩ := hB
      rw [ht9] at hP1
      subst hw9
      generalize H1 = H at hP1 hS ⊢
      have hP : va_P (dC, dI) vwCl (cb_w ct ad u) H := hP1
      have hD : va_D A (cb_w ct ad u) := hD1.weaken (fun _ _ _ h => hFc _ h)
      refine lv_istore_n (lv' := [(3, .int ((lbF u ch 8).1)), (0, .ref (ad 0)), (1, .int (ch)), (2, .int (nI i))]) hx hb dX0_chooseSpeakers_17 rfl hl (by decide) rfl (fun ls hl => ?_)
      refine lv_iload_n hx hb dX0_chooseSpeakers_18 rfl (lv_at hl 0 rfl) ?_
      refine lv_iconst (v := (-1)) hx hb dX0_chooseSpeakers_19 (by decide) ?_
      refine lv_icmp_ne (tgt := 26) hx hb dX0_chooseSpeakers_20 (by decide) (fun c_3 => ?_) (fun c_3 => ?_)
      · refine lv_iload_n hx hb dX0_chooseSpeakers_26 rfl (lv_at hl 2 rfl) ?_
        refine lv_iconst (v := 1) hx hb dX0_chooseSpeakers_27 (by decide) ?_
        refine lv_iload_n hx hb dX0_chooseSpeakers_28 rfl (lv_at hl 0 rfl) ?_
        refine lv_ishl hx hb dX0_chooseSpeakers_29 ?_
        refine lv_ior hx hb dX0_chooseSpeakers_30 ?_
        refine lv_istore_n (lv' := [(1, .int ((ch ||| ((1 : Int32) <<< (((lbF u ch 8).1) &&& 31))))), (3, .int ((lbF u ch 8).1)), (0, .ref (ad 0)), (2, .int (nI i))]) hx hb dX0_chooseSpeakers_31 rfl hl (by decide) rfl (fun ls hl => ?_)
        refine lv_iinc (v := ((nI i) + (1 : Int32))) (lv' := [(2, .int (((nI i) + (1 : Int32)))), (1, .int ((ch ||| ((1 : Int32) <<< (((lbF u ch 8).1) &&& 31))))), (3, .int ((lbF u ch 8).1)), (0, .ref (ad 0))]) hx hb dX0_chooseSpeakers_32 hl (k := 3) rfl rfl (by decide) rfl (fun ls hl => ?_)
        refine lv_goto (tgt := 4) hx hb dX0_chooseSpeakers_35 (by decide) ?_
        have hi : i < M := Nat.lt_of_not_le (fun q => c_1 (nI_le q (by omega)))
        have e9 : chF u (M - (i + 1)) (ch ||| ((1 : Int32) <<< ((lbF u ch 8).1 &&& 31))) = F := by
          rw [← hF, show M - i = (M - (i + 1)) + 1 by omega, chF, if_neg c_3]
        exact ih (i + 1) _ (by omega) (by omega) e9 H locs ls hP hD hS (by rw [← nI_1]; exact lv_sub hl [3, 1, 0] rfl)
      · refine lv_goto (tgt := 38) hx hb dX0_chooseSpeakers_23 (by decide) ?_
        have hi : i < M := Nat.lt_of_not_le (fun q => c_1 (nI_le q (by omega)))
        have e9 : ch = F := by
          rw [← hF, show M - i = (M - (i + 1)) + 1 by omega, chF, if_pos c_3]
        subst e9
        exact kk _ H locs ls hP hD hS (lv_sub hl [1, 2, 3] rfl)

set_option maxHeartbeats 4000000 in
set_option maxRecDepth 100000 in
theorem metX0_chooseSpeakers (l : Launch) (dC : Nat → ClassId) (dI : Nat → Nat → Nat) (ct : Nat → ClassId) (ad : Nat → Nat) (sz : Nat) (u : cb_U) (M : Nat) (hM : M ≤ 8) (eM : cbM u = nI M) : Met l yX0_chooseSpeakers wsX0_chooseSpeakers ({ frames := 2, cells := 0, slots := 0, locals := 46 }) (va_Pc [.ref (ad 0)] (fun U => U.heap.size = sz ∧ cb_B dC dI ct ad (fun _ => True) u U)) (va_Qi (fun r (_ : Unit) => r = chF u M 0) (fun _ => cb_B dC dI ct ad (va_A (cb_w ct ad u) sz) u) (va_A (cb_w ct ad u) sz)) 0 0 (va_A (cb_w ct ad u) sz) := by
  refine Met.ofW (cc := cX0_chooseSpeakers) (maxL := 4) (ret := (some .int)) (by decide) rfl ?_
  intro p e s m args below meth c s₁ B hml hv
  obtain ⟨rfl, hsz, hP, hK, hD0⟩ := hv
  have hx := B.exec
  have hb := B.bytes
  have hr := B.returns
  have hts := atoms_spec (ws := wsX0_chooseSpeakers) B.pre
  have hown : s.vm.findClass RX0 = some m.cls := findClass_of_methodNamed B.named
  have hlocks := B.notSynchronized
  have hin0 : ∀ w ∈ u_ws RX0 TX0 9, w ∈ wsX0_chooseSpeakers := by decide +kernel
  subst hsz
  have hD := hD0.self (sz := s.heap.size)
  generalize hAe : va_A (cb_w ct ad u) s.heap.size = A at hD ⊢
  have hA : ∀ q : Nat, s.heap.size ≤ q → A q := fun q h => by rw [← hAe]; exact Or.inr h
  have hS : va_S A s.heap s.heap [] := va_S.rf
  have hl := lv_entry ([.ref (ad 0)]) (n := 4) (Nat.le_of_ble_eq_true rfl)
  rw [lg_entry_eq]
  generalize (lg_sl ([.ref (ad 0)]) ++ List.replicate (4 - (lg_sl ([.ref (ad 0)])).length) Slot.unset).toArray = ls at hl ⊢
  have hl : lv_has ls 4 [(0, .ref (ad 0))] := hl
  refine lv_iconst (v := 0) hx hb dX0_chooseSpeakers_0 (by decide) ?_
  refine lv_istore_n (lv' := [(1, .int (0)), (0, .ref (ad 0))]) hx hb dX0_chooseSpeakers_1 rfl hl (by decide) rfl (fun ls hl => ?_)
  refine lv_iconst (v := 0) hx hb dX0_chooseSpeakers_2 (by decide) ?_
  refine lv_istore_n (lv' := [(2, .int (0)), (1, .int (0)), (0, .ref (ad 0))]) hx hb dX0_chooseSpeakers_3 rfl hl (by decide) rfl (fun ls hl => ?_)
  refine lpX0_chooseSpeakers_4 hx hb hml hown hts hin0 hK hA u M hM eM (chF u M 0) (fun i H locs ls hP hD hS hl => ?_) (M + 1) 0 0 (by omega) (by omega) rfl _ _ ls hP hD hS (lv_sub hl [2, 1, 0] rfl)
  refine lv_iload_n hx hb dX0_chooseSpeakers_38 rfl (lv_at hl 1 rfl) ?_
  have e9 : u = u := rfl
  exact W.iret (v := chF u M 0) hx hb hr (fun t ht hW => ⟨⟨chF u M 0, (), rfl, rfl, by rw [ht, e9]; exact hP, va_K.moved hW.alike hK, by rw [e9]; exact hD⟩, hS.F ht⟩) hS.2.2 dX0_chooseSpeakers_39

set_option maxHeartbeats 4000000 in
set_option maxRecDepth 100000 in
theorem lpX0_sumUp_13 {p : Program} {l : Launch} {e : Env} {s : State} {m : MethodId} {args : Array Value} {below : List Frame} {meth : Method} {c : Code} {Q : State → Prop} {A : Nat → Prop} {dC : Nat → ClassId} {dI : Nat → Nat → Nat} {ct : Nat → ClassId} {ad : Nat → Nat} (hx : p.tables.exec = Jvm.exec) (hb : c.code = cX0_sumUp) (hml : c.maxLocals = 5) (hown : s.vm.findClass RX0 = some m.cls) (hts : ∀ w ∈ wsX0_sumUp, w.before args s = true) (hin0 : ∀ w ∈ u_ws RX0 TX0 9, w ∈ wsX0_sumUp) (hK : va_K (dC, dI) vwCl (cb_ty ct) s) (hA : ∀ q : Nat, s.heap.size ≤ q → A q) (u : cb_U) (a1 : Int32) (k : Nat) (hk : k < 8)
    (kk : ∀ (H : Heap) (locs : List Loc) (ls : Array Slot), va_P (dC, dI) vwCl (cb_w ct ad ((cb_sZ u (suZ u a1 k)))) H → va_D A (cb_w ct ad ((cb_sZ u (suZ u a1 k)))) → va_S A s.heap H locs → lv_has ls 5 [(0, .ref (ad 0)), (1, .int (a1)), (2, .int (nI k)), (3, .int (suF u a1 k 8)), (4, .int (nI 8))] → W p l e ({ frames := 1, cells := 0, slots := 0, locals := 21 }) s m args below meth c H locs 0 0 Q (F0 m 47 ls [])) :
    ∀ (n q : Nat), q ≤ 8 → 9 ≤ q + n → ∀ (H : Heap) (locs : List Loc) (ls : Array Slot), va_P (dC, dI) vwCl (cb_w ct ad ((cb_sZ u (suZ u a1 k)))) H → va_D A (cb_w ct ad ((cb_sZ u (suZ u a1 k)))) → va_S A s.heap H locs → lv_has ls 5 [(0, .ref (ad 0)), (1, .int (a1)), (2, .int (nI k)), (3, .int (suF u a1 k q)), (4, .int (nI q))] → W p l e ({ frames := 1, cells := 0, slots := 0, locals := 21 }) s m args below meth c H locs 0 0 Q (F0 m 13 ls []) := by
  intro n
  induction n with
  | zero => intro q h1 h2; exact absurd h2 (by omega)
  | succ n ih =>
    intro q h1 h2 H locs ls hP hD hS hl
    refine lv_iload hx hb dX0_sumUp_13 (lv_at hl 4 rfl) ?_
    refine lv_bipush (v := 8) hx hb dX0_sumUp_15 (by decide) ?_
    refine lv_icmp_ge (tgt := 47) hx hb dX0_sumUp_17 (by decide) (fun c_1 => ?_) (fun c_1 => ?_)
    · have hk8 : q = 8 := Nat.le_antisymm h1 ((nI_leI (a := 8) (by decide) (by omega)).mp c_1)
      subst hk8
      exact kk H locs ls hP hD hS (lv_sub hl [0, 1, 2, 3, 4] rfl)
    · have hq : q < 8 := Nat.lt_of_not_le (fun q => c_1 (nI_le (a := 8) q (by omega)))
      refine lv_iload_n hx hb dX0_sumUp_20 rfl (lv_at hl 1 rfl) ?_
      refine lv_iload hx hb dX0_sumUp_21 (lv_at hl 4 rfl) ?_
      refine vp_callSi (W.runS (As := [.int (a1), .int (nI q)]) (rest := []) ⟨hx, hb, hml, hown, hts⟩ (metX0_speaks l a1 (nI q)) (va_cwS 2 hts gX0_sumUp_X0_speaks rfl rfl rfl (by decide +kernel) ⟨(Nat.le_of_ble_eq_true rfl), (Nat.le_of_ble_eq_true rfl)⟩) ⟨fun a U g mk q => q, fun U hU hW => ⟨rfl, trivial⟩⟩ rfl rfl hl.1 rfl (lv_room (Nat.le_of_ble_eq_true rfl)) dX0_sumUp_23 ⟨(Nat.zero_le _), (Nat.zero_le _)⟩) (fun r_2 er_2 => ?_)
      subst er_2
      refine lv_if_eq (tgt := 41) hx hb dX0_sumUp_26 (by decide) (fun c_3 => ?_) (fun c_3 => ?_)
      · refine lv_iinc (v := ((nI q) + (1 : Int32))) (lv' := [(4, .int (((nI q) + (1 : Int32)))), (0, .ref (ad 0)), (1, .int (a1)), (2, .int (nI k)), (3, .int (suF u a1 k q))]) hx hb dX0_sumUp_41 hl (k := 4) rfl rfl (by decide) rfl (fun ls hl => ?_)
        refine lv_goto (tgt := 13) hx hb dX0_sumUp_44 (by decide) ?_
        have e9 : suF u a1 k (q + 1) = suF u a1 k q := by rw [suF, if_pos c_3]
        exact ih (q + 1) (by omega) (by omega) H locs ls hP hD hS (by rw [← nI_1, e9]; exact lv_sub hl [1, 2, 3, 4, 0] rfl)
      · refine lv_iload_n hx hb dX0_sumUp_29 rfl (lv_at hl 3 rfl) ?_
        refine lv_aload_n hx hb dX0_sumUp_30 rfl (lv_at hl 0 rfl) ?_
        refine cb_get hx hb hts hin0 hown hK hP 6 (by decide) (hts (.fieldLink RX0 32 "ConferenceBridge" "voices" "[[I") (by decide +kernel)) (z := .ref (ad 6)) rfl dX0_sumUp_31 ?_
        refine lv_iload hx hb dX0_sumUp_34 (lv_at hl 4 rfl) ?_
        refine cb_aaldN hx hb hK hP 6 2 rfl rfl hq (by decide) (b := ad (25 + q)) (cb_o_at hq) dX0_sumUp_36 ?_
        refine lv_iload_n hx hb dX0_sumUp_37 rfl (lv_at hl 2 rfl) ?_
        refine cb_iald hx hb hK hP (25 + q) 0 (f := cbV u q) (cb_atV ct ad ((cb_sZ u (suZ u a1 k))) q hq) rfl hk (by decide) dX0_sumUp_38 ?_
        refine lv_iadd hx hb dX0_sumUp_39 ?_
        refine lv_istore_n (lv' := [(3, .int (((suF u a1 k q) + (cbV u q k)))), (0, .ref (ad 0)), (1, .int (a1)), (2, .int (nI k)), (4, .int (nI q))]) hx hb dX0_sumUp_40 rfl hl (by decide) rfl (fun ls hl => ?_)
        refine lv_iinc (v := ((nI q) + (1 : Int32))) (lv' := [(4, .int (((nI q) + (1 : Int32)))), (3, .int (((suF u a1 k q) + (cbV u q k)))), (0, .ref (ad 0)), (1, .int (a1)), (2, .int (nI k))]) hx hb dX0_sumUp_41 hl (k := 4) rfl rfl (by decide) rfl (fun ls hl => ?_)
        refine lv_goto (tgt := 13) hx hb dX0_sumUp_44 (by decide) ?_
        have e9 : suF u a1 k (q + 1) = ((suF u a1 k q) + (cbV u q k)) := by rw [suF, if_neg c_3]
        exact ih (q + 1) (by omega) (by omega) H locs ls hP hD hS (by rw [← nI_1, e9]; exact lv_sub hl [2, 3, 4, 1, 0] rfl)

set_option maxHeartbeats 4000000 in
set_option maxRecDepth 100000 in
theorem lpX0_sumUp_2 {p : Program} {l : Launch} {e : Env} {s : State} {m : MethodId} {args : Array Value} {below : List Frame} {meth : Method} {c : Code} {Q : State → Prop} {A : Nat → Prop} {dC : Nat → ClassId} {dI : Nat → Nat → Nat} {ct : Nat → ClassId} {ad : Nat → Nat} (hx : p.tables.exec = Jvm.exec) (hb : c.code = cX0_sumUp) (hml : c.maxLocals = 5) (hown : s.vm.findClass RX0 = some m.cls) (hts : ∀ w ∈ wsX0_sumUp, w.before args s = true) (hin0 : ∀ w ∈ u_ws RX0 TX0 9, w ∈ wsX0_sumUp) (hK : va_K (dC, dI) vwCl (cb_ty ct) s) (hA : ∀ q : Nat, s.heap.size ≤ q → A q) (u : cb_U) (a1 : Int32)
    (kk : ∀ (H : Heap) (locs : List Loc) (ls : Array Slot), va_P (dC, dI) vwCl (cb_w ct ad ((cb_sZ u (suZ u a1 8)))) H → va_D A (cb_w ct ad ((cb_sZ u (suZ u a1 8)))) → va_S A s.heap H locs → lv_has ls 5 [(0, .ref (ad 0)), (1, .int (a1)), (2, .int (nI 8))] → W p l e ({ frames := 1, cells := 0, slots := 0, locals := 21 }) s m args below meth c H locs 0 0 Q (F0 m 60 ls [])) :
    ∀ (n k : Nat), k ≤ 8 → 9 ≤ k + n → ∀ (H : Heap) (locs : List Loc) (ls : Array Slot), va_P (dC, dI) vwCl (cb_w ct ad ((cb_sZ u (suZ u a1 k)))) H → va_D A (cb_w ct ad ((cb_sZ u (suZ u a1 k)))) → va_S A s.heap H locs → lv_has ls 5 [(0, .ref (ad 0)), (1, .int (a1)), (2, .int (nI k))] → W p l e ({ frames := 1, cells := 0, slots := 0, locals := 21 }) s m args below meth c H locs 0 0 Q (F0 m 2 ls []) := by
  intro n
  induction n with
  | zero => intro k h1 h2; exact absurd h2 (by omega)
  | succ n ih =>
    intro k h1 h2 H locs ls hP hD hS hl
    refine lv_iload_n hx hb dX0_sumUp_2 rfl (lv_at hl 2 rfl) ?_
    refine lv_bipush (v := 8) hx hb dX0_sumUp_3 (by decide) ?_
    refine lv_icmp_ge (tgt := 60) hx hb dX0_sumUp_5 (by decide) (fun c_1 => ?_) (fun c_1 => ?_)
    · have hk8 : k = 8 := Nat.le_antisymm h1 ((nI_leI (a := 8) (by decide) (by omega)).mp c_1)
      subst hk8
      exact kk H locs ls hP hD hS (lv_sub hl [0, 1, 2] rfl)
    · have hk : k < 8 := Nat.lt_of_not_le (fun q => c_1 (nI_le (a := 8) q (by omega)))
      refine lv_iconst (v := 0) hx hb dX0_sumUp_8 (by decide) ?_
      refine lv_istore_n (lv' := [(3, .int (0)), (0, .ref (ad 0)), (1, .int (a1)), (2, .int (nI k))]) hx hb dX0_sumUp_9 rfl hl (by decide) rfl (fun ls hl => ?_)
      refine lv_iconst (v := 0) hx hb dX0_sumUp_10 (by decide) ?_
      refine lv_istore (lv' := [(4, .int (0)), (3, .int (0)), (0, .ref (ad 0)), (1, .int (a1)), (2, .int (nI k))]) hx hb dX0_sumUp_11 hl (by decide) rfl (fun ls hl => ?_)
      refine lpX0_sumUp_13 hx hb hml hown hts hin0 hK hA u a1 k hk (fun H locs ls hP hD hS hl => ?_) 9 0 (by decide) (by decide) _ _ ls hP hD hS (lv_sub hl [2, 3, 4, 1, 0] rfl)
      refine lv_aload_n hx hb dX0_sumUp_47 rfl (lv_at hl 0 rfl) ?_
      refine cb_get hx hb hts hin0 hown hK hP 8 (by decide) (hts (.fieldLink RX0 39 "ConferenceBridge" "sums" "[I") (by decide +kernel)) (z := .ref (ad 8)) rfl dX0_sumUp_48 ?_
      refine lv_iload_n hx hb dX0_sumUp_51 rfl (lv_at hl 2 rfl) ?_
      refine lv_iload_n hx hb dX0_sumUp_52 rfl (lv_at hl 3 rfl) ?_
      refine cb_iast hx hb hK hP hD hS 8 0 (f := suZ u a1 k) rfl rfl hk (by decide) (ws1 := cb_w ct ad ((cb_sZ u (upd (suZ u a1 k) k (suF u a1 k 8))))) rfl dX0_sumUp_53 (fun H locs hP hD hS => ?_)
      have hP : va_P (dC, dI) vwCl (cb_w ct ad ((cb_sZ u (upd (suZ u a1 k) k (suF u a1 k 8))))) H := hP
      have hD : va_D A (cb_w ct ad ((cb_sZ u (upd (suZ u a1 k) k (suF u a1 k 8))))) := hD
      refine lv_iinc (v := ((nI k) + (1 : Int32))) (lv' := [(2, .int (((nI k) + (1 : Int32)))), (0, .ref (ad 0)), (1, .int (a1)), (3, .int (suF u a1 k 8)), (4, .int (nI 8))]) hx hb dX0_sumUp_54 hl (k := 2) rfl rfl (by decide) rfl (fun ls hl => ?_)
      refine lv_goto (tgt := 2) hx hb dX0_sumUp_57 (by decide) ?_
      exact ih (k + 1) (by omega) (by omega) H locs ls hP hD hS (by rw [← nI_1]; exact lv_sub hl [1, 2, 0] rfl)

set_option maxHeartbeats 4000000 in
set_option maxRecDepth 100000 in
theorem metX0_sumUp (l : Launch) (dC : Nat → ClassId) (dI : Nat → Nat → Nat) (ct : Nat → ClassId) (ad : Nat → Nat) (sz : Nat) (u : cb_U) (a1 : Int32) : Met l yX0_sumUp wsX0_sumUp ({ frames := 1, cells := 0, slots := 0, locals := 21 }) (va_Pc [.ref (ad 0), .int (a1)] (fun U => U.heap.size = sz ∧ cb_B dC dI ct ad (fun _ => True) u U)) (va_Qv (fun (_ : Unit) => True) (fun _ => cb_B dC dI ct ad (va_A (cb_w ct ad u) sz) (cbSumUp u a1)) (va_A (cb_w ct ad u) sz)) 0 0 (va_A (cb_w ct ad u) sz) := by
  refine Met.ofW (cc := cX0_sumUp) (maxL := 5) (ret := none) (by decide) rfl ?_
  intro p e s m args below meth c s₁ B hml hv
  obtain ⟨rfl, hsz, hP, hK, hD0⟩ := hv
  have hx := B.exec
  have hb := B.bytes
  have hr := B.returns
  have hts := atoms_spec (ws := wsX0_sumUp) B.pre
  have hown : s.vm.findClass RX0 = some m.cls := findClass_of_methodNamed B.named
  have hlocks := B.notSynchronized
  have hin0 : ∀ w ∈ u_ws RX0 TX0 9, w ∈ wsX0_sumUp := by decide +kernel
  subst hsz
  have hD := hD0.self (sz := s.heap.size)
  generalize hAe : va_A (cb_w ct ad u) s.heap.size = A at hD ⊢
  have hA : ∀ q : Nat, s.heap.size ≤ q → A q := fun q h => by rw [← hAe]; exact Or.inr h
  have hS : va_S A s.heap s.heap [] := va_S.rf
  have hl := lv_entry ([.ref (ad 0), .int (a1)]) (n := 5) (Nat.le_of_ble_eq_true rfl)
  rw [lg_entry_eq]
  generalize (lg_sl ([.ref (ad 0), .int (a1)]) ++ List.replicate (5 - (lg_sl ([.ref (ad 0), .int (a1)])).length) Slot.unset).toArray = ls at hl ⊢
  have hl : lv_has ls 5 [(0, .ref (ad 0)), (1, .int (a1))] := hl
  refine lv_iconst (v := 0) hx hb dX0_sumUp_0 (by decide) ?_
  refine lv_istore_n (lv' := [(2, .int (0)), (0, .ref (ad 0)), (1, .int (a1))]) hx hb dX0_sumUp_1 rfl hl (by decide) rfl (fun ls hl => ?_)
  refine lpX0_sumUp_2 hx hb hml hown hts hin0 hK hA u a1 (fun H locs ls hP hD hS hl => ?_) 9 0 (by decide) (by decide) _ _ ls hP hD hS (lv_sub hl [1, 2, 0] rfl)
  have e9 : cbSumUp u a1 = (cb_sZ u (suZ u a1 8)) := rfl
  exact W.vret hx hb hr (fun t ht hW => ⟨⟨(), rfl, trivial, by rw [ht, e9]; exact hP, va_K.moved hW.alike hK, by rw [e9]; exact hD⟩, hS.F ht⟩) hS.2.2 dX0_sumUp_60

set_option maxHeartbeats 4000000 in
set_option maxRecDepth 100000 in
theorem lpX0_answer_2 {p : Program} {l : Launch} {e : Env} {s : State} {m : MethodId} {args : Array Value} {below : List Frame} {meth : Method} {c : Code} {Q : State → Prop} {A : Nat → Prop} {dC : Nat → ClassId} {dI : Nat → Nat → Nat} {ct : Nat → ClassId} {ad : Nat → Nat} (hx : p.tables.exec = Jvm.exec) (hb : c.code = cX0_answer) (hml : c.maxLocals = 5) (hown : s.vm.findClass RX0 = some m.cls) (hts : ∀ w ∈ wsX0_answer, w.before args s = true) (hin0 : ∀ w ∈ u_ws RX0 TX0 9, w ∈ wsX0_answer) (hK : va_K (dC, dI) vwCl (cb_ty ct) s) (hA : ∀ q : Nat, s.heap.size ≤ q → A q) (u : cb_U) (j : Nat) (hj : j < 8) (a2 : Int32)
    (kk : ∀ (H : Heap) (locs : List Loc) (ls : Array Slot), va_P (dC, dI) vwCl (cb_w ct ad ((cb_sO u (anO u j a2 8)))) H → va_D A (cb_w ct ad ((cb_sO u (anO u j a2 8)))) → va_S A s.heap H locs → lv_has ls 5 [(0, .ref (ad 0)), (1, .int (nI j)), (2, .int (a2)), (3, .int (nI 8))] → W p l e ({ frames := 4, cells := 0, slots := 0, locals := 86 }) s m args below meth c H locs 0 0 Q (F0 m 67 ls [])) :
    ∀ (n k : Nat), k ≤ 8 → 9 ≤ k + n → ∀ (H : Heap) (locs : List Loc) (ls : Array Slot), va_P (dC, dI) vwCl (cb_w ct ad ((cb_sO u (anO u j a2 k)))) H → va_D A (cb_w ct ad ((cb_sO u (anO u j a2 k)))) → va_S A s.heap H locs → lv_has ls 5 [(0, .ref (ad 0)), (1, .int (nI j)), (2, .int (a2)), (3, .int (nI k))] → W p l e ({ frames := 4, cells := 0, slots := 0, locals := 86 }) s m args below meth c H locs 0 0 Q (F0 m 2 ls []) := by
  intro n
  induction n with
  | zero => intro k h1 h2; exact absurd h2 (by omega)
  | succ n ih =>
    intro k h1 h2 H locs ls hP hD hS hl
    refine lv_iload_n hx hb dX0_answer_2 rfl (lv_at hl 3 rfl) ?_
    refine lv_bipush (v := 8) hx hb dX0_answer_3 (by decide) ?_
    refine lv_icmp_ge (tgt := 67) hx hb dX0_answer_5 (by decide) (fun c_1 => ?_) (fun c_1 => ?_)
    · have hk8 : k = 8 := Nat.le_antisymm h1 ((nI_leI (a := 8) (by decide) (by omega)).mp c_1)
      subst hk8
      exact kk H locs ls hP hD hS (lv_sub hl [0, 1, 2, 3] rfl)
    · have hk : k < 8 := Nat.lt_of_not_le (fun q => c_1 (nI_le (a := 8) q (by omega)))
      refine lv_iload_n hx hb dX0_answer_8 rfl (lv_at hl 2 rfl) ?_
      refine lv_if_eq (tgt := 30) hx hb dX0_answer_9 (by decide) (fun c_2 => ?_) (fun c_2 => ?_)
      · refine lv_aload_n hx hb dX0_answer_30 rfl (lv_at hl 0 rfl) ?_
        refine cb_get hx hb hts hin0 hown hK hP 8 (by decide) (hts (.fieldLink RX0 39 "ConferenceBridge" "sums" "[I") (by decide +kernel)) (z := .ref (ad 8)) rfl dX0_answer_31 ?_
        refine lv_iload_n hx hb dX0_answer_34 rfl (lv_at hl 3 rfl) ?_
        refine cb_iald hx hb hK hP 8 0 (f := cbZ u) rfl rfl hk (by decide) dX0_answer_35 ?_
        refine lv_istore (lv' := [(4, .int ((cbZ u k))), (0, .ref (ad 0)), (1, .int (nI j)), (2, .int (a2)), (3, .int (nI k))]) hx hb dX0_answer_36 hl (by decide) rfl (fun ls hl => ?_)
        refine lv_aload_n hx hb dX0_answer_38 rfl (lv_at hl 1 rfl) ?_
        refine cb_get hx hb hts hin0 hown hK hP 4 (by decide) (hts (.fieldLink RX0 25 "ConferenceBridge" "going" "[[I") (by decide +kernel)) (z := .ref (ad 5)) rfl dX0_answer_39 ?_
        refine lv_iload_n hx hb dX0_answer_42 rfl (lv_at hl 2 rfl) ?_
        refine cb_aaldN hx hb hK hP 5 2 rfl rfl hj (by decide) (b := ad (17 + j)) (cb_o_at hj) dX0_answer_43 ?_
        refine lv_iload_n hx hb dX0_answer_44 rfl (lv_at hl 4 rfl) ?_
        refine lv_aload_n hx hb dX0_answer_45 rfl (lv_at hl 1 rfl) ?_
        refine cb_get hx hb hts hin0 hown hK hP 0 (by decide) (hts (.fieldLink RX0 9 "ConferenceBridge" "laws" "[I") (by decide +kernel)) (z := .ref (ad 1)) rfl dX0_answer_46 ?_
        refine lv_iload_n hx hb dX0_answer_49 rfl (lv_at hl 2 rfl) ?_
        refine cb_iald hx hb hK hP 1 0 (f := cbL u) rfl rfl hj (by decide) dX0_answer_50 ?_
        refine lv_iload hx hb dX0_answer_51 (lv_at hl 0 rfl) ?_
        refine lv_i2l (v := (cbZ u k).toInt64) hx hb dX0_answer_53 rfl ?_
        refine vp_callSi (W.runS (As := [.long ((cbZ u k).toInt64)]) (rest := [.int ((cbL u j)), .int (nI k), .ref (ad (17 + j))]) ⟨hx, hb, hml, hown, hts⟩ (metX0_saturated l ((cbZ u k).toInt64)) (va_cwS 1 hts gX0_answer_X0_saturated rfl rfl rfl (by decide +kernel) ⟨(Nat.le_of_ble_eq_true rfl), (Nat.le_of_ble_eq_true rfl)⟩) ⟨fun a U g mk q => q, fun U hU hW => ⟨rfl, trivial⟩⟩ rfl rfl hl.1 rfl (lv_room (Nat.le_of_ble_eq_true rfl)) dX0_answer_54 ⟨(Nat.zero_le _), (Nat.zero_le _)⟩) (fun r_3 er_3 => ?_)
        subst er_3
        refine vp_callSi (W.runS (As := [.int ((cbL u j)), .int ((fnX0_saturated ((cbZ u k).toInt64)))]) (rest := [.int (nI k), .ref (ad (17 + j))]) ⟨hx, hb, hml, hown, hts⟩ (metX0_codeOf l (cbL u j) (fnX0_saturated ((cbZ u k).toInt64))) (va_cwS 2 hts gX0_answer_X0_codeOf rfl rfl rfl (by decide +kernel) ⟨(Nat.le_of_ble_eq_true rfl), (Nat.le_of_ble_eq_true rfl)⟩) ⟨fun a U g mk q => q, fun U hU hW => ⟨rfl, trivial⟩⟩ rfl rfl hl.1 rfl (lv_room (Nat.le_of_ble_eq_true rfl)) dX0_answer_57 ⟨(Nat.zero_le _), (Nat.zero_le _)⟩) (fun r_4 er_4 => ?_)
        subst er_4
        refine cb_iast hx hb hK hP hD hS (17 + j) 0 (f := (anO u j a2 k) j) (cb_atO ct ad ((cb_sO u (anO u j a2 k))) j hj) rfl hk (by decide) (cb_putO ct ad ((cb_sO u (anO u j a2 k))) _ j hj) dX0_answer_60 (fun H locs hP hD hS => ?_)
        have hP : va_P (dC, dI) vwCl (cb_w ct ad ((cb_sO u (va_up (anO u j a2 k) j (upd ((anO u j a2 k) j) k (fnX0_codeOf (cbL u j) (fnX0_saturated ((cbZ u k).toInt64)))))))) H := hP
        have hD : va_D A (cb_w ct ad ((cb_sO u (va_up (anO u j a2 k) j (upd ((anO u j a2 k) j) k (fnX0_codeOf (cbL u j) (fnX0_saturated ((cbZ u k).toInt64)))))))) := hD
        refine lv_iinc (v := ((nI k) + (1 : Int32))) (lv' := [(3, .int (((nI k) + (1 : Int32)))), (4, .int ((cbZ u k))), (0, .ref (ad 0)), (1, .int (nI j)), (2, .int (a2))]) hx hb dX0_answer_61 hl (k := 4) rfl rfl (by decide) rfl (fun ls hl => ?_)
        refine lv_goto (tgt := 2) hx hb dX0_answer_64 (by decide) ?_
        have e8 : anO u j a2 (k + 1) = va_up (anO u j a2 k) j (upd ((anO u j a2 k) j) k (fnX0_codeOf (cbL u j) (fnX0_saturated ((cbZ u k).toInt64)))) := by rw [anO, cbAns, if_pos c_2]
        have hP : va_P (dC, dI) vwCl (cb_w ct ad ((cb_sO u (anO u j a2 (k + 1))))) H := by rw [e8]; exact hP
        have hD : va_D A (cb_w ct ad ((cb_sO u (anO u j a2 (k + 1))))) := by rw [e8]; exact hD
        exact ih (k + 1) (by omega) (by omega) H locs ls hP hD hS (by rw [← nI_1]; exact lv_sub hl [2, 3, 4, 0] rfl)
      · refine lv_aload_n hx hb dX0_answer_12 rfl (lv_at hl 0 rfl) ?_
        refine cb_get hx hb hts hin0 hown hK hP 8 (by decide) (hts (.fieldLink RX0 39 "ConferenceBridge" "sums" "[I") (by decide +kernel)) (z := .ref (ad 8)) rfl dX0_answer_13 ?_
        refine lv_iload_n hx hb dX0_answer_16 rfl (lv_at hl 3 rfl) ?_
        refine cb_iald hx hb hK hP 8 0 (f := cbZ u) rfl rfl hk (by decide) dX0_answer_17 ?_
        refine lv_aload_n hx hb dX0_answer_18 rfl (lv_at hl 0 rfl) ?_
        refine cb_get hx hb hts hin0 hown hK hP 6 (by decide) (hts (.fieldLink RX0 32 "ConferenceBridge" "voices" "[[I") (by decide +kernel)) (z := .ref (ad 6)) rfl dX0_answer_19 ?_
        refine lv_iload_n hx hb dX0_answer_22 rfl (lv_at hl 1 rfl) ?_
        refine cb_aaldN hx hb hK hP 6 2 rfl rfl hj (by decide) (b := ad (25 + j)) (cb_o_at hj) dX0_answer_23 ?_
        refine lv_iload_n hx hb dX0_answer_24 rfl (lv_at hl 3 rfl) ?_
        refine cb_iald hx hb hK hP (25 + j) 0 (f := cbV u j) (cb_atV ct ad ((cb_sO u (anO u j a2 k))) j hj) rfl hk (by decide) dX0_answer_25 ?_
        refine lv_isub hx hb dX0_answer_26 ?_
        refine lv_goto (tgt := 36) hx hb dX0_answer_27 (by decide) ?_
        refine lv_istore (lv' := [(4, .int (((cbZ u k) - (cbV u j k)))), (0, .ref (ad 0)), (1, .int (nI j)), (2, .int (a2)), (3, .int (nI k))]) hx hb dX0_answer_36 hl (by decide) rfl (fun ls hl => ?_)
        refine lv_aload_n hx hb dX0_answer_38 rfl (lv_at hl 1 rfl) ?_
        refine cb_get hx hb hts hin0 hown hK hP 4 (by decide) (hts (.fieldLink RX0 25 "ConferenceBridge" "going" "[[I") (by decide +kernel)) (z := .ref (ad 5)) rfl dX0_answer_39 ?_
        refine lv_iload_n hx hb dX0_answer_42 rfl (lv_at hl 2 rfl) ?_
        refine cb_aaldN hx hb hK hP 5 2 rfl rfl hj (by decide) (b := ad (17 + j)) (cb_o_at hj) dX0_answer_43 ?_
        refine lv_iload_n hx hb dX0_answer_44 rfl (lv_at hl 4 rfl) ?_
        refine lv_aload_n hx hb dX0_answer_45 rfl (lv_at hl 1 rfl) ?_
        refine cb_get hx hb hts hin0 hown hK hP 0 (by decide) (hts (.fieldLink RX0 9 "ConferenceBridge" "laws" "[I") (by decide +kernel)) (z := .ref (ad 1)) rfl dX0_answer_46 ?_
        refine lv_iload_n hx hb dX0_answer_49 rfl (lv_at hl 2 rfl) ?_
        refine cb_iald hx hb hK hP 1 0 (f := cbL u) rfl rfl hj (by decide) dX0_answer_50 ?_
        refine lv_iload hx hb dX0_answer_51 (lv_at hl 0 rfl) ?_
        refine lv_i2l (v := ((cbZ u k) - (cbV u j k)).toInt64) hx hb dX0_answer_53 rfl ?_
        refine vp_callSi (W.runS (As := [.long (((cbZ u k) - (cbV u j k)).toInt64)]) (rest := [.int ((cbL u j)), .int (nI k), .ref (ad (17 + j))]) ⟨hx, hb, hml, hown, hts⟩ (metX0_saturated l (((cbZ u k) - (cbV u j k)).toInt64)) (va_cwS 1 hts gX0_answer_X0_saturated rfl rfl rfl (by decide +kernel) ⟨(Nat.le_of_ble_eq_true rfl), (Nat.le_of_ble_eq_true rfl)⟩) ⟨fun a U g mk q => q, fun U hU hW => ⟨rfl, trivial⟩⟩ rfl rfl hl.1 rfl (lv_room (Nat.le_of_ble_eq_true rfl)) dX0_answer_54 ⟨(Nat.zero_le _), (Nat.zero_le _)⟩) (fun r_5 er_5 => ?_)
        subst er_5
        refine vp_callSi (W.runS (As := [.int ((cbL u j)), .int ((fnX0_saturated (((cbZ u k) - (cbV u j k)).toInt64)))]) (rest := [.int (nI k), .ref (ad (17 + j))]) ⟨hx, hb, hml, hown, hts⟩ (metX0_codeOf l (cbL u j) (fnX0_saturated (((cbZ u k) - (cbV u j k)).toInt64))) (va_cwS 2 hts gX0_answer_X0_codeOf rfl rfl rfl (by decide +kernel) ⟨(Nat.le_of_ble_eq_true rfl), (Nat.le_of_ble_eq_true rfl)⟩) ⟨fun a U g mk q => q, fun U hU hW => ⟨rfl, trivial⟩⟩ rfl rfl hl.1 rfl (lv_room (Nat.le_of_ble_eq_true rfl)) dX0_answer_57 ⟨(Nat.zero_le _), (Nat.zero_le _)⟩) (fun r_6 er_6 => ?_)
        subst er_6
        refine cb_iast hx hb hK hP hD hS (17 + j) 0 (f := (anO u j a2 k) j) (cb_atO ct ad ((cb_sO u (anO u j a2 k))) j hj) rfl hk (by decide) (cb_putO ct ad ((cb_sO u (anO u j a2 k))) _ j hj) dX0_answer_60 (fun H locs hP hD hS => ?_)
        have hP : va_P (dC, dI) vwCl (cb_w ct ad ((cb_sO u (va_up (anO u j a2 k) j (upd ((anO u j a2 k) j) k (fnX0_codeOf (cbL u j) (fnX0_saturated (((cbZ u k) - (cbV u j k)).toInt64)))))))) H := hP
        have hD : va_D A (cb_w ct ad ((cb_sO u (va_up (anO u j a2 k) j (upd ((anO u j a2 k) j) k (fnX0_codeOf (cbL u j) (fnX0_saturated (((cbZ u k) - (cbV u j k)).toInt64)))))))) := hD
        refine lv_iinc (v := ((nI k) + (1 : Int32))) (lv' := [(3, .int (((nI k) + (1 : Int32)))), (4, .int (((cbZ u k) - (cbV u j k)))), (0, .ref (ad 0)), (1, .int (nI j)), (2, .int (a2))]) hx hb dX0_answer_61 hl (k := 4) rfl rfl (by decide) rfl (fun ls hl => ?_)
        refine lv_goto (tgt := 2) hx hb dX0_answer_64 (by decide) ?_
        have e8 : anO u j a2 (k + 1) = va_up (anO u j a2 k) j (upd ((anO u j a2 k) j) k (fnX0_codeOf (cbL u j) (fnX0_saturated (((cbZ u k) - (cbV u j k)).toInt64)))) := by rw [anO, cbAns, if_neg c_2]
        have hP : va_P (dC, dI) vwCl (cb_w ct ad ((cb_sO u (anO u j a2 (k + 1))))) H := by rw [e8]; exact hP
        have hD : va_D A (cb_w ct ad ((cb_sO u (anO u j a2 (k + 1))))) := by rw [e8]; exact hD
        exact ih (k + 1) (by omega) (by omega) H locs ls hP hD hS (by rw [← nI_1]; exact lv_sub hl [2, 3, 4, 0] rfl)

set_option maxHeartbeats 4000000 in
set_option maxRecDepth 100000 in
theorem metX0_answer (l : Launch) (dC : Nat → ClassId) (dI : Nat → Nat → Nat) (ct : Nat → ClassId) (ad : Nat → Nat) (sz : Nat) (u : cb_U) (j : Nat) (hj : j < 8) (a2 : Int32) : Met l yX0_answer wsX0_answer ({ frames := 4, cells := 0, slots := 0, locals := 86 }) (va_Pc [.ref (ad 0), .int (nI j), .int (a2)] (fun U => U.heap.size = sz ∧ cb_B dC dI ct ad (fun _ => True) u U)) (va_Qv (fun (_ : Unit) => True) (fun _ => cb_B dC dI ct ad (va_A (cb_w ct ad u) sz) (cbAnswer u j a2)) (va_A (cb_w ct ad u) sz)) 0 0 (va_A (cb_w ct ad u) sz) := by
  refine Met.ofW (cc := cX0_answer) (maxL := 5) (ret := none) (by decide) rfl ?_
  intro p e s m args below meth c s₁ B hml hv
  obtain ⟨rfl, hsz, hP, hK, hD0⟩ := hv
  have hx := B.exec
  have hb := B.bytes
  have hr := B.returns
  have hts := atoms_spec (ws := wsX0_answer) B.pre
  have hown : s.vm.findClass RX0 = some m.cls := findClass_of_methodNamed B.named
  have hlocks := B.notSynchronized
  have hin0 : ∀ w ∈ u_ws RX0 TX0 9, w ∈ wsX0_answer := by decide +kernel
  subst hsz
  have hD := hD0.self (sz := s.heap.size)
  generalize hAe : va_A (cb_w ct ad u) s.heap.size = A at hD ⊢
  have hA : ∀ q : Nat, s.heap.size ≤ q → A q := fun q h => by rw [← hAe]; exact Or.inr h
  have hS : va_S A s.heap s.heap [] := va_S.rf
  have hl := lv_entry ([.ref (ad 0), .int (nI j), .int (a2)]) (n := 5) (Nat.le_of_ble_eq_true rfl)
  rw [lg_entry_eq]
  generalize (lg_sl ([.ref (ad 0), .int (nI j), .int (a2)]) ++ List.replicate (5 - (lg_sl ([.ref (ad 0), .int (nI j), .int (a2)])).length) Slot.unset).toArray = ls at hl ⊢
  have hl : lv_has ls 5 [(0, .ref (ad 0)), (1, .int (nI j)), (2, .int (a2))] := hl
  refine lv_iconst (v := 0) hx hb dX0_answer_0 (by decide) ?_
  refine lv_istore_n (lv' := [(3, .int (0)), (0, .ref (ad 0)), (1, .int (nI j)), (2, .int (a2))]) hx hb dX0_answer_1 rfl hl (by decide) rfl (fun ls hl => ?_)
  refine lpX0_answer_2 hx hb hml hown hts hin0 hK hA u j hj a2 (fun H locs ls hP hD hS hl => ?_) 9 0 (by decide) (by decide) _ _ ls hP hD hS (lv_sub hl [1, 2, 3, 0] rfl)
  have e9 : cbAnswer u j a2 = (cb_sO u (anO u j a2 8)) := rfl
  exact W.vret hx hb hr (fun t ht hW => ⟨⟨(), rfl, trivial, by rw [ht, e9]; exact hP, va_K.moved hW.alike hK, by rw [e9]; exact hD⟩, hS.F ht⟩) hS.2.2 dX0_answer_67

set_option maxHeartbeats 4000000 in
set_option maxRecDepth 100000 in
theorem lpX0_mix_2 {p : Program} {l : Launch} {e : Env} {s : State} {m : MethodId} {args : Array Value} {below : List Frame} {meth : Method} {c : Code} {Q : State → Prop} {A : Nat → Prop} {dC : Nat → ClassId} {dI : Nat → Nat → Nat} {ct : Nat → ClassId} {ad : Nat → Nat} (hx : p.tables.exec = Jvm.exec) (hb : c.code = cX0_mix) (hml : c.maxLocals = 3) (hown : s.vm.findClass RX0 = some m.cls) (hts : ∀ w ∈ wsX0_mix, w.before args s = true) (hin0 : ∀ w ∈ u_ws RX0 TX0 9, w ∈ wsX0_mix) (hK : va_K (dC, dI) vwCl (cb_ty ct) s) (hA : ∀ q : Nat, s.heap.size ≤ q → A q) (u : cb_U)
    (kk : ∀ (H : Heap) (locs : List Loc) (ls : Array Slot), va_P (dC, dI) vwCl (cb_w ct ad ((mxH u 8))) H → va_D A (cb_w ct ad ((mxH u 8))) → va_S A s.heap H locs → lv_has ls 3 [(0, .ref (ad 0)), (1, .int (nI 8))] → W p l e ({ frames := 5, cells := 0, slots := 0, locals := 110 }) s m args below meth c H locs 0 0 Q (F0 m 19 ls [])) :
    ∀ (n k : Nat), k ≤ 8 → 9 ≤ k + n → ∀ (H : Heap) (locs : List Loc) (ls : Array Slot), va_P (dC, dI) vwCl (cb_w ct ad ((mxH u k))) H → va_D A (cb_w ct ad ((mxH u k))) → va_S A s.heap H locs → lv_has ls 3 [(0, .ref (ad 0)), (1, .int (nI k))] → W p l e ({ frames := 5, cells := 0, slots := 0, locals := 110 }) s m args below meth c H locs 0 0 Q (F0 m 2 ls []) := by
  intro n
  induction n with
  | zero => intro k h1 h2; exact absurd h2 (by omega)
  | succ n ih =>
    intro k h1 h2 H locs ls hP hD hS hl
    refine lv_iload_n hx hb dX0_mix_2 rfl (lv_at hl 1 rfl) ?_
    refine lv_bipush (v := 8) hx hb dX0_mix_3 (by decide) ?_
    refine lv_icmp_ge (tgt := 19) hx hb dX0_mix_5 (by decide) (fun c_1 => ?_) (fun c_1 => ?_)
    · have hk8 : k = 8 := Nat.le_antisymm h1 ((nI_leI (a := 8) (by decide) (by omega)).mp c_1)
      subst hk8
      exact kk H locs ls hP hD hS (lv_sub hl [0, 1] rfl)
    · have hk : k < 8 := Nat.lt_of_not_le (fun q => c_1 (nI_le (a := 8) q (by omega)))
      refine lv_aload_n hx hb dX0_mix_8 rfl (lv_at hl 0 rfl) ?_
      refine lv_iload_n hx hb dX0_mix_9 rfl (lv_at hl 1 rfl) ?_
      have hFc := cb_free hD hS hA
      refine va_callv (va_runV (As := [.int (nI k)]) (rest := []) ⟨hx, hb, hml, hown, hts⟩ (metX0_hear l dC dI ct ad H.size ((mxH u k)) k hk) (cwV 1 hts gX0_mix_X0_hear rfl rfl rfl (by decide +kernel) ⟨(Nat.le_of_ble_eq_true rfl), (Nat.le_of_ble_eq_true rfl)⟩) ⟨fun a U g mk q => by obtain ⟨q0, q1, qP, qK, qD⟩ := q; exact ⟨q0, q1, qP, va_K.moved (u := U) (U := U.calling g mk a) (Vm.Alike.refl U.vm) qK, qD⟩, va_recv hK hP (ci := 0) (q0 := 0) rfl rfl, fun U hU hW => ⟨rfl, by rw [hU], by rw [hU]; exact hP, va_K.moved hW.alike hK, hD.weaken (fun _ _ _ _ => trivial)⟩⟩ rfl rfl hl.1 rfl (lv_room (Nat.le_of_ble_eq_true rfl)) dX0_mix_10 ⟨(Nat.zero_le _), (Nat.zero_le _)⟩) hS (fun q _ h => hFc q h) hFc (fun u9 t9 H1 locs ht9 hvm hw9 hB hz1 hk1 hS => ?_)
      obtain ⟨hP1, -, hD1⟩ := hB
      rw [ht9] at hP1
      generalize H1 = H at hP1 hS ⊢
      have hP : va_P (dC, dI) vwCl (cb_w ct ad ((cbHear ((mxH u k)) k))) H := hP1
      have hD : va_D A (cb_w ct ad ((cbHear ((mxH u k)) k))) := hD1.weaken (fun _ _ _ h => hFc _ h)
      refine lv_iinc (v := ((nI k) + (1 : Int32))) (lv' := [(1, .int (((nI k) + (1 : Int32)))), (0, .ref (ad 0))]) hx hb dX0_mix_13 hl (k := 1) rfl rfl (by decide) rfl (fun ls hl => ?_)
      refine lv_goto (tgt := 2) hx hb dX0_mix_16 (by decide) ?_
      exact ih (k + 1) (by omega) (by omega) H locs ls hP hD hS (by rw [← nI_1]; exact lv_sub hl [1, 0] rfl)

set_option maxHeartbeats 4000000 in
set_option maxRecDepth 100000 in
theorem lpX0_mix_31 {p : Program} {l : Launch} {e : Env} {s : State} {m : MethodId} {args : Array Value} {below : List Frame} {meth : Method} {c : Code} {Q : State → Prop} {A : Nat → Prop} {dC : Nat → ClassId} {dI : Nat → Nat → Nat} {ct : Nat → ClassId} {ad : Nat → Nat} (hx : p.tables.exec = Jvm.exec) (hb : c.code = cX0_mix) (hml : c.maxLocals = 3) (hown : s.vm.findClass RX0 = some m.cls) (hts : ∀ w ∈ wsX0_mix, w.before args s = true) (hin0 : ∀ w ∈ u_ws RX0 TX0 9, w ∈ wsX0_mix) (hK : va_K (dC, dI) vwCl (cb_ty ct) s) (hA : ∀ q : Nat, s.heap.size ≤ q → A q) (u : cb_U) (a1 : Int32)
    (kk : ∀ (H : Heap) (locs : List Loc) (ls : Array Slot), va_P (dC, dI) vwCl (cb_w ct ad ((mxA u a1 8))) H → va_D A (cb_w ct ad ((mxA u a1 8))) → va_S A s.heap H locs → lv_has ls 3 [(0, .ref (ad 0)), (1, .int (a1)), (2, .int (nI 8))] → W p l e ({ frames := 5, cells := 0, slots := 0, locals := 110 }) s m args below meth c H locs 0 0 Q (F0 m 53 ls [])) :
    ∀ (n k : Nat), k ≤ 8 → 9 ≤ k + n → ∀ (H : Heap) (locs : List Loc) (ls : Array Slot), va_P (dC, dI) vwCl (cb_w ct ad ((mxA u a1 k))) H → va_D A (cb_w ct ad ((mxA u a1 k))) → va_S A s.heap H locs → lv_has ls 3 [(0, .ref (ad 0)), (1, .int (a1)), (2, .int (nI k))] → W p l e ({ frames := 5, cells := 0, slots := 0, locals := 110 }) s m args below meth c H locs 0 0 Q (F0 m 31 ls []) := by
  intro n
  induction n with
  | zero => intro k h1 h2; exact absurd h2 (by omega)
  | succ n ih =>
    intro k h1 h2 H locs ls hP hD hS hl
    refine lv_iload_n hx hb dX0_mix_31 rfl (lv_at hl 2 rfl) ?_
    refine lv_bipush (v := 8) hx hb dX0_mix_32 (by decide) ?_
    refine lv_icmp_ge (tgt := 53) hx hb dX0_mix_34 (by decide) (fun c_1 => ?_) (fun c_1 => ?_)
    · have hk8 : k = 8 := Nat.le_antisymm h1 ((nI_leI (a := 8) (by decide) (by omega)).mp c_1)
      subst hk8
      exact kk H locs ls hP hD hS (lv_sub hl [0, 1, 2] rfl)
    · have hk : k < 8 := Nat.lt_of_not_le (fun q => c_1 (nI_le (a := 8) q (by omega)))
      refine lv_aload_n hx hb dX0_mix_37 rfl (lv_at hl 0 rfl) ?_
      refine lv_iload_n hx hb dX0_mix_38 rfl (lv_at hl 2 rfl) ?_
      refine lv_iload_n hx hb dX0_mix_39 rfl (lv_at hl 1 rfl) ?_
      refine lv_iload_n hx hb dX0_mix_40 rfl (lv_at hl 2 rfl) ?_
      refine vp_callSi (W.runS (As := [.int (a1), .int (nI k)]) (rest := [.int (nI k), .ref (ad 0)]) ⟨hx, hb, hml, hown, hts⟩ (metX0_speaks l a1 (nI k)) (va_cwS 2 hts gX0_mix_X0_speaks rfl rfl rfl (by decide +kernel) ⟨(Nat.le_of_ble_eq_true rfl), (Nat.le_of_ble_eq_true rfl)⟩) ⟨fun a U g mk q => q, fun U hU hW => ⟨rfl, trivial⟩⟩ rfl rfl hl.1 rfl (lv_room (Nat.le_of_ble_eq_true rfl)) dX0_mix_41 ⟨(Nat.zero_le _), (Nat.zero_le _)⟩) (fun r_2 er_2 => ?_)
      subst er_2
      have hFc := cb_free hD hS hA
      refine va_callv (va_runV (As := [.int (nI k), .int ((fnX0_speaks a1 (nI k)))]) (rest := []) ⟨hx, hb, hml, hown, hts⟩ (metX0_answer l dC dI ct ad H.size ((mxA u a1 k)) k hk (fnX0_speaks a1 (nI k))) (cwV 2 hts gX0_mix_X0_answer rfl rfl rfl (by decide +kernel) ⟨(Nat.le_of_ble_eq_true rfl), (Nat.le_of_ble_eq_true rfl)⟩) ⟨fun a U g mk q => by obtain ⟨q0, q1, qP, qK, qD⟩ := q; exact ⟨q0, q1, qP, va_K.moved (u := U) (U := U.calling g mk a) (Vm.Alike.refl U.vm) qK, qD⟩, va_recv hK hP (ci := 0) (q0 := 0) rfl rfl, fun U hU hW => ⟨rfl, by rw [hU], by rw [hU]; exact hP, va_K.moved hW.alike hK, hD.weaken (fun _ _ _ _ => trivial)⟩⟩ rfl rfl hl.1 rfl (lv_room (Nat.le_of_ble_eq_true rfl)) dX0_mix_44 ⟨(Nat.zero_le _), (Nat.zero_le _)⟩) hS (fun q _ h => hFc q h) hFc (fun u9 t9 H1 locs ht9 hvm hw9 hB hz1 hk1 hS => ?_)
      obtain ⟨hP1, -, hD1⟩ := hB
      rw [ht9] at hP1
      generalize H1 = H at hP1 hS ⊢
      have hP : va_P (dC, dI) vwCl (cb_w ct ad ((cbAnswer ((mxA u a1 k)) k (fnX0_speaks a1 (nI k))))) H := hP1
      have hD : va_D A (cb_w ct ad ((cbAnswer ((mxA u a1 k)) k (fnX0_speaks a1 (nI k))))) := hD1.weaken (fun _ _ _ h => hFc _ h)
      refine lv_iinc (v := ((nI k) + (1 : Int32))) (lv' := [(2, .int (((nI k) + (1 : Int32)))), (0, .ref (ad 0)), (1, .int (a1))]) hx hb dX0_mix_47 hl (k := 2) rfl rfl (by decide) rfl (fun ls hl => ?_)
      refine lv_goto (tgt := 31) hx hb dX0_mix_50 (by decide) ?_
      exact ih (k + 1) (by omega) (by omega) H locs ls hP hD hS (by rw [← nI_1]; exact lv_sub hl [1, 2, 0] rfl)

set_option maxHeartbeats 4000000 in
set_option maxRecDepth 100000 in
theorem metX0_mix (l : Launch) (dC : Nat → ClassId) (dI : Nat → Nat → Nat) (ct : Nat → ClassId) (ad : Nat → Nat) (sz : Nat) (u : cb_U) (M : Nat) (hM : M ≤ 8) (eM : cbM u = nI M) : Met l yX0_mix wsX0_mix ({ frames := 5, cells := 0, slots := 0, locals := 110 }) (va_Pc [.ref (ad 0)] (fun U => U.heap.size = sz ∧ cb_B dC dI ct ad (fun _ => True) u U)) (va_Qi (fun r (_ : Unit) => r = anX0_mix u M) (fun _ => cb_B dC dI ct ad (va_A (cb_w ct ad u) sz) (stX0_mix u M)) (va_A (cb_w ct ad u) sz)) 0 0 (va_A (cb_w ct ad u) sz) := by
  refine Met.ofW (cc := cX0_mix) (maxL := 3) (ret := (some .int)) (by decide) rfl ?_
  intro p e s m args below meth c s₁ B hml hv
  obtain ⟨rfl, hsz, hP, hK, hD0⟩ := hv
  have hx := B.exec
  have hb := B.bytes
  have hr := B.returns
  have hts := atoms_spec (ws := wsX0_mix) B.pre
  have hown : s.vm.findClass RX0 = some m.cls := findClass_of_methodNamed B.named
  have hlocks := B.notSynchronized
  have hin0 : ∀ w ∈ u_ws RX0 TX0 9, w ∈ wsX0_mix := by decide +kernel
  subst hsz
  have hD := hD0.self (sz := s.heap.size)
  generalize hAe : va_A (cb_w ct ad u) s.heap.size = A at hD ⊢
  have hA : ∀ q : Nat, s.heap.size ≤ q → A q := fun q h => by rw [← hAe]; exact Or.inr h
  have hS : va_S A s.heap s.heap [] := va_S.rf
  have hl := lv_entry ([.ref (ad 0)]) (n := 3) (Nat.le_of_ble_eq_true rfl)
  rw [lg_entry_eq]
  generalize (lg_sl ([.ref (ad 0)]) ++ List.replicate (3 - (lg_sl ([.ref (ad 0)])).length) Slot.unset).toArray = ls at hl ⊢
  have hl : lv_has ls 3 [(0, .ref (ad 0))] := hl
  refine lv_iconst (v := 0) hx hb dX0_mix_0 (by decide) ?_
  refine lv_istore_n (lv' := [(1, .int (0)), (0, .ref (ad 0))]) hx hb dX0_mix_1 rfl hl (by decide) rfl (fun ls hl => ?_)
  refine lpX0_mix_2 hx hb hml hown hts hin0 hK hA u (fun H locs ls hP hD hS hl => ?_) 9 0 (by decide) (by decide) _ _ ls hP hD hS (lv_sub hl [1, 0] rfl)
  refine lv_aload_n hx hb dX0_mix_19 rfl (lv_at hl 0 rfl) ?_
  have hFc := cb_free hD hS hA
  refine va_calli (va_runV (As := []) (rest := []) ⟨hx, hb, hml, hown, hts⟩ (metX0_chooseSpeakers l dC dI ct ad H.size ((mxH u 8)) M hM ((mxH_M u 8).trans eM)) (cwV 0 hts gX0_mix_X0_chooseSpeakers rfl rfl rfl (by decide +kernel) ⟨(Nat.le_of_ble_eq_true rfl), (Nat.le_of_ble_eq_true rfl)⟩) ⟨fun a U g mk q => by obtain ⟨q0, q1, qP, qK, qD⟩ := q; exact ⟨q0, q1, qP, va_K.moved (u := U) (U := U.calling g mk a) (Vm.Alike.refl U.vm) qK, qD⟩, va_recv hK hP (ci := 0) (q0 := 0) rfl rfl, fun U hU hW => ⟨rfl, by rw [hU], by rw [hU]; exact hP, va_K.moved hW.alike hK, hD.weaken (fun _ _ _ _ => trivial)⟩⟩ rfl rfl hl.1 rfl (lv_room (Nat.le_of_ble_eq_true rfl)) dX0_mix_20 ⟨(Nat.zero_le _), (Nat.zero_le _)⟩) hS (fun q _ h => hFc q h) hFc (fun r_1 u9 t9 H1 locs ht9 hvm hw9 hB hz1 hk1 hS => ?_)
  obtain ⟨hP1, -, hD1⟩ := hB
  rw [ht9] at hP1
  subst hw9
  generalize H1 = H at hP1 hS ⊢
  have hP : va_P (dC, dI) vwCl (cb_w ct ad ((mxH u 8))) H := hP1
  have hD : va_D A (cb_w ct ad ((mxH u 8))) := hD1.weaken (fun _ _ _ h => hFc _ h)
  refine lv_istore_n (lv' := [(1, .int ((chF ((mxH u 8)) M 0))), (0, .ref (ad 0))]) hx hb dX0_mix_23 rfl hl (by decide) rfl (fun ls hl => ?_)
  refine lv_aload_n hx hb dX0_mix_24 rfl (lv_at hl 1 rfl) ?_
  refine lv_iload_n hx hb dX0_mix_25 rfl (lv_at hl 0 rfl) ?_
  have hFc := cb_free hD hS hA
  refine va_callv (va_runV (As := [.int ((chF ((mxH u 8)) M 0))]) (rest := []) ⟨hx, hb, hml, hown, hts⟩ (metX0_sumUp l dC dI ct ad H.size ((mxH u 8)) (chF ((mxH u 8)) M 0)) (cwV 1 hts gX0_mix_X0_sumUp rfl rfl rfl (by decide +kernel) ⟨(Nat.le_of_ble_eq_true rfl), (Nat.le_of_ble_eq_true rfl)⟩) ⟨fun a U g mk q => by obtain ⟨q0, q1, qP, qK, qD⟩ := q; exact ⟨q0, q1, qP, va_K.moved (u := U) (U := U.calling g mk a) (Vm.Alike.refl U.vm) qK, qD⟩, va_recv hK hP (ci := 0) (q0 := 0) rfl rfl, fun U hU hW => ⟨rfl, by rw [hU], by rw [hU]; exact hP, va_K.moved hW.alike hK, hD.weaken (fun _ _ _ _ => trivial)⟩⟩ rfl rfl hl.1 rfl (lv_room (Nat.le_of_ble_eq_true rfl)) dX0_mix_26 ⟨(Nat.zero_le _), (Nat.zero_le _)⟩) hS (fun q _ h => hFc q h) hFc (fun u9 t9 H1 locs ht9 hvm hw9 hB hz1 hk1 hS => ?_)
  obtain ⟨hP1, -, hD1⟩ := hB
  rw [ht9] at hP1
  generalize H1 = H at hP1 hS ⊢
  have hP : va_P (dC, dI) vwCl (cb_w ct ad ((cbSumUp ((mxH u 8)) (chF ((mxH u 8)) M 0)))) H := hP1
  have hD : va_D A (cb_w ct ad ((cbSumUp ((mxH u 8)) (chF ((mxH u 8)) M 0)))) := hD1.weaken (fun _ _ _ h => hFc _ h)
  refine lv_iconst (v := 0) hx hb dX0_mix_29 (by decide) ?_
  refine lv_istore_n (lv' := [(2, .int (0)), (1, .int ((chF ((mxH u 8)) M 0))), (0, .ref (ad 0))]) hx hb dX0_mix_30 rfl hl (by decide) rfl (fun ls hl => ?_)
  refine lpX0_mix_31 hx hb hml hown hts hin0 hK hA ((cbSumUp ((mxH u 8)) (chF ((mxH u 8)) M 0))) (chF ((mxH u 8)) M 0) (fun H locs ls hP hD hS hl => ?_) 9 0 (by decide) (by decide) H locs ls hP hD hS (lv_sub hl [2, 1, 0] rfl)
  refine lv_iload_n hx hb dX0_mix_53 rfl (lv_at hl 1 rfl) ?_
  have e9 : stX0_mix u M = (mxA ((cbSumUp ((mxH u 8)) (chF ((mxH u 8)) M 0))) (chF ((mxH u 8)) M 0) 8) := rfl
  exact W.iret (v := (chF ((mxH u 8)) M 0)) hx hb hr (fun t ht hW => ⟨⟨(chF ((mxH u 8)) M 0), (), rfl, rfl, by rw [ht, e9]; exact hP, va_K.moved hW.alike hK, by rw [e9]; exact hD⟩, hS.F ht⟩) hS.2.2 dX0_mix_54
