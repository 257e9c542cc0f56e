/-! the reference's constructor -/
def inL (f : Nat → Int32) : Nat → Nat → Int32
  | 0 => f
  | j + 1 => upd (inL f j) j ((nI j) - (nI j) / (2 : Int32) * (2 : Int32))
def inG (f : Nat → Int32) : Nat → Nat → Int32
  | 0 => f
  | j + 1 => upd (inG f j) j (256 : Int32)
def inI (j : Nat) (c : Int32) (f : Nat → Int32) : Nat → Nat → Int32
  | 0 => f
  | k + 1 => upd (inI j c f k) (8 * j + k) c
def inO (j : Nat) (c : Int32) (f g : Nat → Int32) : Nat → Nat → Int32
  | 0 => g
  | k + 1 => upd (inO j c f g k) (8 * j + k) (upd (inI j c f k) (8 * j + k) c (8 * j + k))
def inC (v : md_U) (j : Nat) : Int32 := fnX1_codeOf (inL (mdL v) (j + 1) j) (0 : Int32)
def inIo (v : md_U) : Nat → Nat → Int32
  | 0 => mdI v
  | j + 1 => inI j (inC v j) (inIo v j) 8
def inOo (v : md_U) : Nat → Nat → Int32
  | 0 => mdO v
  | j + 1 => inO j (inC v j) (inIo v j) (inOo v j) 8
theorem in_par (j : Nat) (hj : j < 8) : ((nI j) - (nI j) / (2 : Int32) * (2 : Int32)) = nI (j % 2) := pk_rem (d := 2) (by omega) (by decide) (by decide)
theorem in_law01 (f : Nat → Int32) {j : Nat} (hj : j < 8) : inL f (j + 1) j = 0 ∨ inL f (j + 1) j = 1 := by
  have e : inL f (j + 1) j = nI (j % 2) := by
    show upd (inL f j) j ((nI j) - (nI j) / (2 : Int32) * (2 : Int32)) j = _
    rw [pk_us, in_par j hj]
  rw [e]
  rcases Nat.mod_two_eq_zero_or_one j with h | h
  · rw [h]; exact Or.inl rfl
  · rw [h]; exact Or.inr rfl
def md_0 : md_U := (0, fun _ => 0, fun _ => 0, fun _ => 0, fun _ => 0, fun _ => 0, fun _ => 0, fun _ => 0, 3)
def md_1 : md_U := md_sO (md_sI (md_sG (md_sL md_0 (inL (mdL md_0) 8)) (inG (mdG md_0) 8)) (inIo md_0 8)) (inOo md_0 8)

set_option maxHeartbeats 4000000 in
set_option maxRecDepth 100000 in
theorem lpX1_init_98 {p : Program} {l : Launch} {e : Env} {s : State} {m : MethodId} {args : Array Value} {below : List Frame} {meth : Method} {c : Code} {Q : State → Prop} {A : Nat → Prop} {dC : Nat → ClassId} {dI : Nat → Nat → Nat} {ct : Nat → ClassId} {ad : Nat → Nat} (hx : p.tables.exec = Jvm.exec) (hb : c.code = cX1_init) (hml : c.maxLocals = 3) (hown : s.vm.findClass RX1 = some m.cls) (hts : ∀ w ∈ wsX1_init, w.before args s = true) (hin0 : ∀ w ∈ u_ws RX1 TX1 9, w ∈ wsX1_init) (hK : va_K (dC, dI) vwCl (cb_ty ct) s) (hA : ∀ q : Nat, s.heap.size ≤ q → A q) (v : md_U) (j : Nat) (hj : j < 8) (I0 O0 : Nat → Int32)
    (kk : ∀ (H : Heap) (locs : List Loc) (ls : Array Slot), va_P (dC, dI) vwCl (md_w ct ad ((md_sO (md_sI (md_sG (md_sL v (inL (mdL v) (j + 1))) (inG (mdG v) (j + 1))) (inI j (inC v j) I0 8)) (inO j (inC v j) I0 O0 8)))) H → va_D A (md_w ct ad ((md_sO (md_sI (md_sG (md_sL v (inL (mdL v) (j + 1))) (inG (mdG v) (j + 1))) (inI j (inC v j) I0 8)) (inO j (inC v j) I0 O0 8)))) → va_S A s.heap H locs → lv_has ls 3 [(0, .ref (ad 0)), (1, .int (nI j)), (2, .int (nI 8))] → W p l e ({ frames := 1, cells := 7, slots := 224, locals := 23 }) s m args below meth c H locs 7 224 Q (F0 m 153 ls [])) :
    ∀ (n k : Nat), k ≤ 8 → 9 ≤ k + n → ∀ (H : Heap) (locs : List Loc) (ls : Array Slot), va_P (dC, dI) vwCl (md_w ct ad ((md_sO (md_sI (md_sG (md_sL v (inL (mdL v) (j + 1))) (inG (mdG v) (j + 1))) (inI j (inC v j) I0 k)) (inO j (inC v j) I0 O0 k)))) H → va_D A (md_w ct ad ((md_sO (md_sI (md_sG (md_sL v (inL (mdL v) (j + 1))) (inG (mdG v) (j + 1))) (inI j (inC v j) I0 k)) (inO j (inC v j) I0 O0 k)))) → va_S A s.heap H locs → lv_has ls 3 [(0, .ref (ad 0)), (1, .int (nI j)), (2, .int (nI k))] → W p l e ({ frames := 1, cells := 7, slots := 224, locals := 23 }) s m args below meth c H locs 7 224 Q (F0 m 98 ls []) := by
  intro n
  induction n with
  | zero => intro k h1 h2; exact absurd h2 (by omega)
  | succ n ih =>
    intro k h1 h2 H locs ls hP hD hS hl
    refine lv_iload_n hx hb dX1_init_98 rfl (lv_at hl 2 rfl) ?_
    refine lv_bipush (v := 8) hx hb dX1_init_99 (by decide) ?_
    refine lv_icmp_ge (tgt := 153) hx hb dX1_init_101 (by decide) (fun c_1 => ?_) (fun c_1 => ?_)
    · have hk8 : k = 8 := Nat.le_antisymm h1 ((nI_leI (a := 8) (by decide) (by omega)).mp c_1)
      subst hk8
      exact kk H locs ls hP hD hS (lv_sub hl [0, 1, 2] rfl)
    · have hk : k < 8 := Nat.lt_of_not_le (fun q => c_1 (nI_le (a := 8) q (by omega)))
      refine lv_aload_n hx hb dX1_init_104 rfl (lv_at hl 0 rfl) ?_
      refine md_get hx hb hts hin0 hown hK hP 4 (by decide) (hts (.fieldLink RX1 24 "ConferenceBridgeModel" "in" "[I") (by decide +kernel)) (z := .ref (ad 4)) rfl dX1_init_105 ?_
      refine lv_bipush (v := 8) hx hb dX1_init_108 (by decide) ?_
      refine lv_iload_n hx hb dX1_init_110 rfl (lv_at hl 1 rfl) ?_
      refine lv_imul hx hb dX1_init_111 ?_
      refine lv_iload_n hx hb dX1_init_112 rfl (lv_at hl 2 rfl) ?_
      refine lv_iadd hx hb dX1_init_113 ?_
      refine lv_topi (fun x_2 ex_2 => ?_)
      obtain rfl : x_2 = nI (8 * j + k) := ex_2.trans md_ixN
      refine lv_aload_n hx hb dX1_init_114 rfl (lv_at hl 0 rfl) ?_
      refine md_get hx hb hts hin0 hown hK hP 1 (by decide) (hts (.fieldLink RX1 13 "ConferenceBridgeModel" "law" "[I") (by decide +kernel)) (z := .ref (ad 1)) rfl dX1_init_115 ?_
      refine lv_iload_n hx hb dX1_init_118 rfl (lv_at hl 1 rfl) ?_
      refine cb_iald hx hb hK hP 1 0 (f := inL (mdL v) (j + 1)) rfl rfl hj (by decide) dX1_init_119 ?_
      refine lv_iconst (v := 0) hx hb dX1_init_120 (by decide) ?_
      refine vp_callSi (W.runS (As := [.int (((inL (mdL v) (j + 1)) j)), .int (0)]) (rest := [.int (nI (8 * j + k)), .ref (ad 4)]) ⟨hx, hb, hml, hown, hts⟩ (metX1_codeOf l ((inL (mdL v) (j + 1)) j) (0 : Int32) (in_law01 _ hj) (by decide) (by decide)) (va_cwS 2 hts gX1_init_X1_codeOf rfl rfl rfl (by decide +kernel) ⟨(Nat.le_of_ble_eq_true rfl), (Nat.le_of_ble_eq_true rfl)⟩) ⟨fun a U g mk q => q, fun U hU hW => ⟨rfl, trivial⟩⟩ rfl rfl hl.1 rfl (lv_room (Nat.le_of_ble_eq_true rfl)) dX1_init_121 ⟨(Nat.le_of_ble_eq_true rfl), (Nat.le_of_ble_eq_true rfl)⟩) (fun r_3 er_3 => ?_)
      subst er_3
      refine cb_iast hx hb hK hP hD hS 4 0 (f := inI j (inC v j) I0 k) rfl rfl (show 8 * j + k < 64 by have h8 := hj; have h9 := hk; omega) (by decide) (ws1 := md_w ct ad ((md_sO (md_sI (md_sG (md_sL v (inL (mdL v) (j + 1))) (inG (mdG v) (j + 1))) (upd (inI j (inC v j) I0 k) ((8 * j + k)) (fnX1_codeOf ((inL (mdL v) (j + 1)) j) (0 : Int32)))) (inO j (inC v j) I0 O0 k)))) rfl dX1_init_124 (fun H locs hP hD hS => ?_)
      have hP : va_P (dC, dI) vwCl (md_w ct ad ((md_sO (md_sI (md_sG (md_sL v (inL (mdL v) (j + 1))) (inG (mdG v) (j + 1))) (upd (inI j (inC v j) I0 k) ((8 * j + k)) (fnX1_codeOf ((inL (mdL v) (j + 1)) j) (0 : Int32)))) (inO j (inC v j) I0 O0 k)))) H := hP
      have hD : va_D A (md_w ct ad ((md_sO (md_sI (md_sG (md_sL v (inL (mdL v) (j + 1))) (inG (mdG v) (j + 1))) (upd (inI j (inC v j) I0 k) ((8 * j + k)) (fnX1_codeOf ((inL (mdL v) (j + 1)) j) (0 : Int32)))) (inO j (inC v j) I0 O0 k)))) := hD
      refine lv_aload_n hx hb dX1_init_125 rfl (lv_at hl 0 rfl) ?_
      refine md_get hx hb hts hin0 hown hK hP 5 (by decide) (hts (.fieldLink RX1 27 "ConferenceBridgeModel" "out" "[I") (by decide +kernel)) (z := .ref (ad 5)) rfl dX1_init_126 ?_
      refine lv_bipush (v := 8) hx hb dX1_init_129 (by decide) ?_
      refine lv_iload_n hx hb dX1_init_131 rfl (lv_at hl 1 rfl) ?_
      refine lv_imul hx hb dX1_init_132 ?_
      refine lv_iload_n hx hb dX1_init_133 rfl (lv_at hl 2 rfl) ?_
      refine lv_iadd hx hb dX1_init_134 ?_
      refine lv_topi (fun x_4 ex_4 => ?_)
      obtain rfl : x_4 = nI (8 * j + k) := ex_4.trans md_ixN
      refine lv_aload_n hx hb dX1_init_135 rfl (lv_at hl 0 rfl) ?_
      refine md_get hx hb hts hin0 hown hK hP 4 (by decide) (hts (.fieldLink RX1 24 "ConferenceBridgeModel" "in" "[I") (by decide +kernel)) (z := .ref (ad 4)) rfl dX1_init_136 ?_
      refine lv_bipush (v := 8) hx hb dX1_init_139 (by decide) ?_
      refine lv_iload_n hx hb dX1_init_141 rfl (lv_at hl 1 rfl) ?_
      refine lv_imul hx hb dX1_init_142 ?_
      refine lv_iload_n hx hb dX1_init_143 rfl (lv_at hl 2 rfl) ?_
      refine lv_iadd hx hb dX1_init_144 ?_
      refine lv_topi (fun x_5 ex_5 => ?_)
      obtain rfl : x_5 = nI (8 * j + k) := ex_5.trans md_ixN
      refine cb_iald hx hb hK hP 4 0 (f := upd (inI j (inC v j) I0 k) ((8 * j + k)) (fnX1_codeOf ((inL (mdL v) (j + 1)) j) (0 : Int32))) rfl rfl (show 8 * j + k < 64 by have h8 := hj; have h9 := hk; omega) (by decide) dX1_init_145 ?_
      refine cb_iast hx hb hK hP hD hS 5 0 (f := inO j (inC v j) I0 O0 k) rfl rfl (show 8 * j + k < 64 by have h8 := hj; have h9 := hk; omega) (by decide) (ws1 := md_w ct ad ((md_sO (md_sI (md_sG (md_sL v (inL (mdL v) (j + 1))) (inG (mdG v) (j + 1))) (upd (inI j (inC v j) I0 k) ((8 * j + k)) (fnX1_codeOf ((inL (mdL v) (j + 1)) j) (0 : Int32)))) (upd (inO j (inC v j) I0 O0 k) ((8 * j + k)) ((upd (inI j (inC v j) I0 k) ((8 * j + k)) (fnX1_codeOf ((inL (mdL v) (j + 1)) j) (0 : Int32))) ((8 * j + k))))))) rfl dX1_init_146 (fun H locs hP hD hS => ?_)
      have hP : va_P (dC, dI) vwCl (md_w ct ad ((md_sO (md_sI (md_sG (md_sL v (inL (mdL v) (j + 1))) (inG (mdG v) (j + 1))) (upd (inI j (inC v j) I0 k) ((8 * j + k)) (fnX1_codeOf ((inL (mdL v) (j + 1)) j) (0 : Int32)))) (upd (inO j (inC v j) I0 O0 k) ((8 * j + k)) ((upd (inI j (inC v j) I0 k) ((8 * j + k)) (fnX1_codeOf ((inL (mdL v) (j + 1)) j) (0 : Int32))) ((8 * j + k))))))) H := hP
      have hD : va_D A (md_w ct ad ((md_sO (md_sI (md_sG (md_sL v (inL (mdL v) (j + 1))) (inG (mdG v) (j + 1))) (upd (inI j (inC v j) I0 k) ((8 * j + k)) (fnX1_codeOf ((inL (mdL v) (j + 1)) j) (0 : Int32)))) (upd (inO j (inC v j) I0 O0 k) ((8 * j + k)) ((upd (inI j (inC v j) I0 k) ((8 * j + k)) (fnX1_codeOf ((inL (mdL v) (j + 1)) j) (0 : Int32))) ((8 * j + k))))))) := hD
      refine lv_iinc (v := ((nI k) + (1 : Int32))) (lv' := [(2, .int (((nI k) + (1 : Int32)))), (0, .ref (ad 0)), (1, .int (nI j))]) hx hb dX1_init_147 hl (k := 2) rfl rfl (by decide) rfl (fun ls hl => ?_)
      refine lv_goto (tgt := 98) hx hb dX1_init_150 (by decide) ?_
      exact ih (k + 1) (by omega) (by omega) H locs ls hP hD hS (by rw [← nI_1]; exact lv_sub hl [1, 2, 0] rfl)

set_option maxHeartbeats 4000000 in
set_option maxRecDepth 100000 in
theorem lpX1_init_72 {p : Program} {l : Launch} {e : Env} {s : State} {m : MethodId} {args : Array Value} {below : List Frame} {meth : Method} {c : Code} {Q : State → Prop} {A : Nat → Prop} {dC : Nat → ClassId} {dI : Nat → Nat → Nat} {ct : Nat → ClassId} {ad : Nat → Nat} (hx : p.tables.exec = Jvm.exec) (hb : c.code = cX1_init) (hml : c.maxLocals = 3) (hown : s.vm.findClass RX1 = some m.cls) (hts : ∀ w ∈ wsX1_init, w.before args s = true) (hin0 : ∀ w ∈ u_ws RX1 TX1 9, w ∈ wsX1_init) (hK : va_K (dC, dI) vwCl (cb_ty ct) s) (hA : ∀ q : Nat, s.heap.size ≤ q → A q) (v : md_U)
    (kk : ∀ (H : Heap) (locs : List Loc) (ls : Array Slot), va_P (dC, dI) vwCl (md_w ct ad ((md_sO (md_sI (md_sG (md_sL v (inL (mdL v) 8)) (inG (mdG v) 8)) (inIo v 8)) (inOo v 8)))) H → va_D A (md_w ct ad ((md_sO (md_sI (md_sG (md_sL v (inL (mdL v) 8)) (inG (mdG v) 8)) (inIo v 8)) (inOo v 8)))) → va_S A s.heap H locs → lv_has ls 3 [(0, .ref (ad 0)), (1, .int (nI 8))] → W p l e ({ frames := 1, cells := 7, slots := 224, locals := 23 }) s m args below meth c H locs 7 224 Q (F0 m 159 ls [])) :
    ∀ (n j : Nat), j ≤ 8 → 9 ≤ j + n → ∀ (H : Heap) (locs : List Loc) (ls : Array Slot), va_P (dC, dI) vwCl (md_w ct ad ((md_sO (md_sI (md_sG (md_sL v (inL (mdL v) j)) (inG (mdG v) j)) (inIo v j)) (inOo v j)))) H → va_D A (md_w ct ad ((md_sO (md_sI (md_sG (md_sL v (inL (mdL v) j)) (inG (mdG v) j)) (inIo v j)) (inOo v j)))) → va_S A s.heap H locs → lv_has ls 3 [(0, .ref (ad 0)), (1, .int (nI j))] → W p l e ({ frames := 1, cells := 7, slots := 224, locals := 23 }) s m args below meth c H locs 7 224 Q (F0 m 72 ls []) := by
  intro n
  induction n with
  | zero => intro j h1 h2; exact absurd h2 (by omega)
  | succ n ih =>
    intro j h1 h2 H locs ls hP hD hS hl
    refine lv_iload_n hx hb dX1_init_72 rfl (lv_at hl 1 rfl) ?_
    refine lv_bipush (v := 8) hx hb dX1_init_73 (by decide) ?_
    refine lv_icmp_ge (tgt := 159) hx hb dX1_init_75 (by decide) (fun c_1 => ?_) (fun c_1 => ?_)
    · have hk8 : j = 8 := Nat.le_antisymm h1 ((nI_leI (a := 8) (by decide) (by omega)).mp c_1)
      subst hk8
      exact kk H locs ls hP hD hS (lv_sub hl [0, 1] rfl)
    · have hj : j < 8 := Nat.lt_of_not_le (fun q => c_1 (nI_le (a := 8) q (by omega)))
      refine lv_aload_n hx hb dX1_init_78 rfl (lv_at hl 0 rfl) ?_
      refine md_get hx hb hts hin0 hown hK hP 1 (by decide) (hts (.fieldLink RX1 13 "ConferenceBridgeModel" "law" "[I") (by decide +kernel)) (z := .ref (ad 1)) rfl dX1_init_79 ?_
      refine lv_iload_n hx hb dX1_init_82 rfl (lv_at hl 1 rfl) ?_
      refine lv_iload_n hx hb dX1_init_83 rfl (lv_at hl 1 rfl) ?_
      refine lv_iconst (v := 2) hx hb dX1_init_84 (by decide) ?_
      refine lv_irem hx hb dX1_init_85 (by decide) ?_
      refine cb_iast hx hb hK hP hD hS 1 0 (f := inL (mdL v) j) rfl rfl hj (by decide) (ws1 := md_w ct ad ((md_sO (md_sI (md_sG (md_sL v (upd (inL (mdL v) j) j ((nI j) - (nI j) / (2 : Int32) * (2 : Int32)))) (inG (mdG v) j)) (inIo v j)) (inOo v j)))) rfl dX1_init_86 (fun H locs hP hD hS => ?_)
      have hP : va_P (dC, dI) vwCl (md_w ct ad ((md_sO (md_sI (md_sG (md_sL v (upd (inL (mdL v) j) j ((nI j) - (nI j) / (2 : Int32) * (2 : Int32)))) (inG (mdG v) j)) (inIo v j)) (inOo v j)))) H := hP
      have hD : va_D A (md_w ct ad ((md_sO (md_sI (md_sG (md_sL v (upd (inL (mdL v) j) j ((nI j) - (nI j) / (2 : Int32) * (2 : Int32)))) (inG (mdG v) j)) (inIo v j)) (inOo v j)))) := hD
      refine lv_aload_n hx hb dX1_init_87 rfl (lv_at hl 0 rfl) ?_
      refine md_get hx hb hts hin0 hown hK hP 2 (by decide) (hts (.fieldLink RX1 17 "ConferenceBridgeModel" "gain" "[I") (by decide +kernel)) (z := .ref (ad 2)) rfl dX1_init_88 ?_
      refine lv_iload_n hx hb dX1_init_91 rfl (lv_at hl 1 rfl) ?_
      refine lv_sipush (v := 256) hx hb dX1_init_92 (by decide) ?_
      refine cb_iast hx hb hK hP hD hS 2 0 (f := inG (mdG v) j) rfl rfl hj (by decide) (ws1 := md_w ct ad ((md_sO (md_sI (md_sG (md_sL v (upd (inL (mdL v) j) j ((nI j) - (nI j) / (2 : Int32) * (2 : Int32)))) (upd (inG (mdG v) j) j (256 : Int32))) (inIo v j)) (inOo v j)))) rfl dX1_init_95 (fun H locs hP hD hS => ?_)
      have hP : va_P (dC, dI) vwCl (md_w ct ad ((md_sO (md_sI (md_sG (md_sL v (upd (inL (mdL v) j) j ((nI j) - (nI j) / (2 : Int32) * (2 : Int32)))) (upd (inG (mdG v) j) j (256 : Int32))) (inIo v j)) (inOo v j)))) H := hP
      have hD : va_D A (md_w ct ad ((md_sO (md_sI (md_sG (md_sL v (upd (inL (mdL v) j) j ((nI j) - (nI j) / (2 : Int32) * (2 : Int32)))) (upd (inG (mdG v) j) j (256 : Int32))) (inIo v j)) (inOo v j)))) := hD
      refine lv_iconst (v := 0) hx hb dX1_init_96 (by decide) ?_
      refine lv_istore_n (lv' := [(2, .int (0)), (0, .ref (ad 0)), (1, .int (nI j))]) hx hb dX1_init_97 rfl hl (by decide) rfl (fun ls hl => ?_)
      refine lpX1_init_98 hx hb hml hown hts hin0 hK hA v j hj (inIo v j) (inOo v j) (fun H locs ls hP hD hS hl => ?_) 9 0 (by decide) (by decide) _ _ ls hP hD hS (lv_sub hl [1, 2, 0] rfl)
      refine lv_iinc (v := ((nI j) + (1 : Int32))) (lv' := [(1, .int (((nI j) + (1 : Int32)))), (0, .ref (ad 0)), (2, .int (nI 8))]) hx hb dX1_init_153 hl (k := 1) rfl rfl (by decide) rfl (fun ls hl => ?_)
      refine lv_goto (tgt := 72) hx hb dX1_init_156 (by decide) ?_
      exact ih (j + 1) (by omega) (by omega) H locs ls hP hD hS (by rw [← nI_1]; exact lv_sub hl [1, 0] rfl)

set_option maxHeartbeats 4000000 in
set_option maxRecDepth 100000 in
theorem metX1_init (l : Launch) (dC : Nat → ClassId) (dI : Nat → Nat → Nat) (ct : Nat → ClassId) (h0 : Nat) (sz : Nat) : Met l yX1_init wsX1_init ({ frames := 1, cells := 7, slots := 224, locals := 23 }) (va_Pc [.ref h0] (fun U => U.heap.size = sz ∧ va_P (dC, dI) vwCl [(h0, .inr (1, [.int 0, .null, .null, .null, .null, .null, .null, .null, .int 0]))] U.heap ∧ va_K (dC, dI) vwCl (cb_ty ct) U ∧ va_D (fun _ => True) [(h0, .inr (1, [.int 0, .null, .null, .null, .null, .null, .null, .null, .int 0]))])) (va_Qv (fun ad : Nat → Nat => ad 0 = h0) (fun ad => md_B dC dI ct ad (va_A [(h0, .inr (1, [.int 0, .null, .null, .null, .null, .null, .null, .null, .int 0]))] sz) md_1) (va_A [(h0, .inr (1, [.int 0, .null, .null, .null, .null, .null, .null, .null, .int 0]))] sz)) 7 224 (va_A [(h0, .inr (1, [.int 0, .null, .null, .null, .null, .null, .null, .null, .int 0]))] sz) := by
  refine Met.ofW (cc := cX1_init) (maxL := 3) (ret := none) (by decide) rfl ?_
  intro p e s m args below meth c s₁ B hml hv
  obtain ⟨rfl, hsz, hP, hK, hD0⟩ := hv
  have hx := B.exec
  have hb := B.bytes
  have hr := B.returns
  have hts := atoms_spec (ws := wsX1_init) B.pre
  have hown : s.vm.findClass RX1 = some m.cls := findClass_of_methodNamed B.named
  have hlocks := B.notSynchronized
  have hin : meth.name = "<init>" := (name_of_methodNamed B.named B.method).1
  have hin0 : ∀ w ∈ u_ws RX1 TX1 9, w ∈ wsX1_init := by decide +kernel
  subst hsz
  have hD := hD0.self (sz := s.heap.size)
  generalize hAe : va_A [(h0, .inr (1, [.int 0, .null, .null, .null, .null, .null, .null, .null, .int 0]))] s.heap.size = A at hD ⊢
  have hA : ∀ q : Nat, s.heap.size ≤ q → A q := fun q h => by rw [← hAe]; exact Or.inr h
  have hS : va_S A s.heap s.heap [] := va_S.rf
  have hP : va_P (dC, dI) vwCl [(h0, .inr (1, [.int 0, .null, .null, .null, .null, .null, .null, .null, .int 0]))] s.heap := hP
  have hl := lv_entry ([.ref h0]) (n := 3) (Nat.le_of_ble_eq_true rfl)
  rw [lg_entry_eq]
  generalize (lg_sl ([.ref h0]) ++ List.replicate (3 - (lg_sl ([.ref h0])).length) Slot.unset).toArray = ls at hl ⊢
  have hl : lv_has ls 3 [(0, .ref h0)] := hl
  refine lv_aload_n hx hb dX1_init_0 rfl (lv_at hl 0 rfl) ?_
  refine W.objInit hx hb hown (hts (.methodLink RX1 1 objectInit) (by decide +kernel)) (hts (.instanceMethod objectInit) (by decide +kernel)) (hts (.code objectInit ⟨#[0xb1]⟩ 1 none) (by decide +kernel)) rfl (by rw [hml]; exact hl.1) rfl dX1_init_1 (Nat.le_of_ble_eq_true rfl) (Nat.le_of_ble_eq_true rfl) ?_
  refine W.eq (g2 := F0 m 4 ls []) rfl ?_
  refine lv_aload_n hx hb dX1_init_4 rfl (lv_at hl 0 rfl) ?_
  refine lv_iconst (v := 0) hx hb dX1_init_5 (by decide) ?_
  refine va_put (D := (dC, dI)) (ci := 1) (v := .int (0)) (ty := .int) (C := RX1) (T := TX1) (N := 9) hx hb hts hin0 tyX1 tyX1_ok nmX1 hown hK hP hD hS 0 rfl rfl 0 (by decide) (hts (.fieldLink RX1 7 "ConferenceBridgeModel" "thrownCode" "I") (by decide +kernel)) (fun _ h9 => h9) rfl (by decide +kernel) rfl rfl (Nat.le_of_ble_eq_true rfl) dX1_init_6 (fun H locs hP hD hS => ?_)
  have hP : va_P (dC, dI) vwCl [(h0, .inr (1, [.int (0), .null, .null, .null, .null, .null, .null, .null, .int 0]))] H := hP
  have hD : va_D A [(h0, .inr (1, [.int (0), .null, .null, .null, .null, .null, .null, .null, .int 0]))] := hD
  refine lv_aload_n hx hb dX1_init_9 rfl (lv_at hl 0 rfl) ?_
  refine lv_bipush (v := 8) hx hb dX1_init_10 (by decide) ?_
  refine cb_newa (atype := .int) hx hb (hts (.arrayClass .int) (by decide +kernel)) (ty := .int) rfl hK hP hD hS hA 0 rfl (fun _ h9 => h9) (a0 := (8, .inl (fun _ => 0))) (fun _ => rfl) (by decide) (N' := 8) (by decide) (Nat.le_of_ble_eq_true rfl) (Nat.le_of_ble_eq_true rfl) (Nat.le_of_ble_eq_true rfl) dX1_init_12 (fun q12 H hP hD hS => ?_)
  have hP : va_P (dC, dI) vwCl [(h0, .inr (1, [.int (0), .null, .null, .null, .null, .null, .null, .null, .int 0])), (q12, .inl (ct 0, (8, .inl (fun _ => 0))))] H := hP
  have hD : va_D A [(h0, .inr (1, [.int (0), .null, .null, .null, .null, .null, .null, .null, .int 0])), (q12, .inl (ct 0, (8, .inl (fun _ => 0))))] := hD
  refine W.widen (k := 1) (n := 8) (Nat.le_of_ble_eq_true rfl) (Nat.le_of_ble_eq_true rfl) ?_
  refine va_putF (D := (dC, dI)) (ci := 1) (v := .ref q12) (ty := .array .int) (C := RX1) (T := TX1) (N := 9) hx hb hts hin0 tyX1 tyX1_ok nmX1 hown hK hP hD hS 0 rfl rfl 1 (by decide) (hts (.fieldLink RX1 13 "ConferenceBridgeModel" "law" "[I") (by decide +kernel)) (fun _ h9 => h9) rfl hin rfl (by decide +kernel) rfl rfl (Nat.le_of_ble_eq_true rfl) dX1_init_14 (fun H locs hP hD hS => ?_)
  have hP : va_P (dC, dI) vwCl [(h0, .inr (1, [.int (0), .ref q12, .null, .null, .null, .null, .null, .null, .int 0])), (q12, .inl (ct 0, (8, .inl (fun _ => 0))))] H := hP
  have hD : va_D A [(h0, .inr (1, [.int (0), .ref q12, .null, .null, .null, .null, .null, .null, .int 0])), (q12, .inl (ct 0, (8, .inl (fun _ => 0))))] := hD
  refine lv_aload_n hx hb dX1_init_17 rfl (lv_at hl 0 rfl) ?_
  refine lv_bipush (v := 8) hx hb dX1_init_18 (by decide) ?_
  refine cb_newa (atype := .int) hx hb (hts (.arrayClass .int) (by decide +kernel)) (ty := .int) rfl hK hP hD hS hA 0 rfl (fun _ h9 => h9) (a0 := (8, .inl (fun _ => 0))) (fun _ => rfl) (by decide) (N' := 8) (by decide) (Nat.le_of_ble_eq_true rfl) (Nat.le_of_ble_eq_true rfl) (Nat.le_of_ble_eq_true rfl) dX1_init_20 (fun q20 H hP hD hS => ?_)
  have hP : va_P (dC, dI) vwCl [(h0, .inr (1, [.int (0), .ref q12, .null, .null, .null, .null, .null, .null, .int 0])), (q12, .inl (ct 0, (8, .inl (fun _ => 0)))), (q20, .inl (ct 0, (8, .inl (fun _ => 0))))] H := hP
  have hD : va_D A [(h0, .inr (1, [.int (0), .ref q12, .null, .null, .null, .null, .null, .null, .int 0])), (q12, .inl (ct 0, (8, .inl (fun _ => 0)))), (q20, .inl (ct 0, (8, .inl (fun _ => 0))))] := hD
  refine W.widen (k := 2) (n := 16) (Nat.le_of_ble_eq_true rfl) (Nat.le_of_ble_eq_true rfl) ?_
  refine va_putF (D := (dC, dI)) (ci := 1) (v := .ref q20) (ty := .array .int) (C := RX1) (T := TX1) (N := 9) hx hb hts hin0 tyX1 tyX1_ok nmX1 hown hK hP hD hS 0 rfl rfl 2 (by decide) (hts (.fieldLink RX1 17 "ConferenceBridgeModel" "gain" "[I") (by decide +kernel)) (fun _ h9 => h9) rfl hin rfl (by decide +kernel) rfl rfl (Nat.le_of_ble_eq_true rfl) dX1_init_22 (fun H locs hP hD hS => ?_)
  have hP : va_P (dC, dI) vwCl [(h0, .inr (1, [.int (0), .ref q12, .ref q20, .null, .null, .null, .null, .null, .int 0])), (q12, .inl (ct 0, (8, .inl (fun _ => 0)))), (q20, .inl (ct 0, (8, .inl (fun _ => 0))))] H := hP
  have hD : va_D A [(h0, .inr (1, [.int (0), .ref q12, .ref q20, .null, .null, .null, .null, .null, .int 0])), (q12, .inl (ct 0, (8, .inl (fun _ => 0)))), (q20, .inl (ct 0, (8, .inl (fun _ => 0))))] := hD
  refine lv_aload_n hx hb dX1_init_25 rfl (lv_at hl 0 rfl) ?_
  refine lv_bipush (v := 8) hx hb dX1_init_26 (by decide) ?_
  refine cb_newa (atype := .boolean) hx hb (hts (.arrayClass .boolean) (by decide +kernel)) (ty := .boolean) rfl hK hP hD hS hA 1 rfl (fun _ h9 => h9) (a0 := (8, .inl (fun _ => 0))) (fun _ => rfl) (by decide) (N' := 8) (by decide) (Nat.le_of_ble_eq_true rfl) (Nat.le_of_ble_eq_true rfl) (Nat.le_of_ble_eq_true rfl) dX1_init_28 (fun q28 H hP hD hS => ?_)
  have hP : va_P (dC, dI) vwCl [(h0, .inr (1, [.int (0), .ref q12, .ref q20, .null, .null, .null, .null, .null, .int 0])), (q12, .inl (ct 0, (8, .inl (fun _ => 0)))), (q20, .inl (ct 0, (8, .inl (fun _ => 0)))), (q28, .inl (ct 1, (8, .inl (fun _ => 0))))] H := hP
  have hD : va_D A [(h0, .inr (1, [.int (0), .ref q12, .ref q20, .null, .null, .null, .null, .null, .int 0])), (q12, .inl (ct 0, (8, .inl (fun _ => 0)))), (q20, .inl (ct 0, (8, .inl (fun _ => 0)))), (q28, .inl (ct 1, (8, .inl (fun _ => 0))))] := hD
  refine W.widen (k := 3) (n := 24) (Nat.le_of_ble_eq_true rfl) (Nat.le_of_ble_eq_true rfl) ?_
  refine va_putF (D := (dC, dI)) (ci := 1) (v := .ref q28) (ty := .array .boolean) (C := RX1) (T := TX1) (N := 9) hx hb hts hin0 tyX1 tyX1_ok nmX1 hown hK hP hD hS 0 rfl rfl 3 (by decide) (hts (.fieldLink RX1 20 "ConferenceBridgeModel" "muted" "[Z") (by decide +kernel)) (fun _ h9 => h9) rfl hin rfl (by decide +kernel) rfl rfl (Nat.le_of_ble_eq_true rfl) dX1_init_30 (fun H locs hP hD hS => ?_)
  have hP : va_P (dC, dI) vwCl [(h0, .inr (1, [.int (0), .ref q12, .ref q20, .ref q28, .null, .null, .null, .null, .int 0])), (q12, .inl (ct 0, (8, .inl (fun _ => 0)))), (q20, .inl (ct 0, (8, .inl (fun _ => 0)))), (q28, .inl (ct 1, (8, .inl (fun _ => 0))))] H := hP
  have hD : va_D A [(h0, .inr (1, [.int (0), .ref q12, .ref q20, .ref q28, .null, .null, .null, .null, .int 0])), (q12, .inl (ct 0, (8, .inl (fun _ => 0)))), (q20, .inl (ct 0, (8, .inl (fun _ => 0)))), (q28, .inl (ct 1, (8, .inl (fun _ => 0))))] := hD
  refine lv_aload_n hx hb dX1_init_33 rfl (lv_at hl 0 rfl) ?_
  refine lv_bipush (v := 64) hx hb dX1_init_34 (by decide) ?_
  refine cb_newa (atype := .int) hx hb (hts (.arrayClass .int) (by decide +kernel)) (ty := .int) rfl hK hP hD hS hA 0 rfl (fun _ h9 => h9) (a0 := (64, .inl (fun _ => 0))) (fun _ => rfl) (by decide) (N' := 64) (by decide) (Nat.le_of_ble_eq_true rfl) (Nat.le_of_ble_eq_true rfl) (Nat.le_of_ble_eq_true rfl) dX1_init_36 (fun q36 H hP hD hS => ?_)
  have hP : va_P (dC, dI) vwCl [(h0, .inr (1, [.int (0), .ref q12, .ref q20, .ref q28, .null, .null, .null, .null, .int 0])), (q12, .inl (ct 0, (8, .inl (fun _ => 0)))), (q20, .inl (ct 0, (8, .inl (fun _ => 0)))), (q28, .inl (ct 1, (8, .inl (fun _ => 0)))), (q36, .inl (ct 0, (64, .inl (fun _ => 0))))] H := hP
  have hD : va_D A [(h0, .inr (1, [.int (0), .ref q12, .ref q20, .ref q28, .null, .null, .null, .null, .int 0])), (q12, .inl (ct 0, (8, .inl (fun _ => 0)))), (q20, .inl (ct 0, (8, .inl (fun _ => 0)))), (q28, .inl (ct 1, (8, .inl (fun _ => 0)))), (q36, .inl (ct 0, (64, .inl (fun _ => 0))))] := hD
  refine W.widen (k := 4) (n := 88) (Nat.le_of_ble_eq_true rfl) (Nat.le_of_ble_eq_true rfl) ?_
  refine va_putF (D := (dC, dI)) (ci := 1) (v := .ref q36) (ty := .array .int) (C := RX1) (T := TX1) (N := 9) hx hb hts hin0 tyX1 tyX1_ok nmX1 hown hK hP hD hS 0 rfl rfl 4 (by decide) (hts (.fieldLink RX1 24 "ConferenceBridgeModel" "in" "[I") (by decide +kernel)) (fun _ h9 => h9) rfl hin rfl (by decide +kernel) rfl rfl (Nat.le_of_ble_eq_true rfl) dX1_init_38 (fun H locs hP hD hS => ?_)
  have hP : va_P (dC, dI) vwCl [(h0, .inr (1, [.int (0), .ref q12, .ref q20, .ref q28, .ref q36, .null, .null, .null, .int 0])), (q12, .inl (ct 0, (8, .inl (fun _ => 0)))), (q20, .inl (ct 0, (8, .inl (fun _ => 0)))), (q28, .inl (ct 1, (8, .inl (fun _ => 0)))), (q36, .inl (ct 0, (64, .inl (fun _ => 0))))] H := hP
  have hD : va_D A [(h0, .inr (1, [.int (0), .ref q12, .ref q20, .ref q28, .ref q36, .null, .null, .null, .int 0])), (q12, .inl (ct 0, (8, .inl (fun _ => 0)))), (q20, .inl (ct 0, (8, .inl (fun _ => 0)))), (q28, .inl (ct 1, (8, .inl (fun _ => 0)))), (q36, .inl (ct 0, (64, .inl (fun _ => 0))))] := hD
  refine lv_aload_n hx hb dX1_init_41 rfl (lv_at hl 0 rfl) ?_
  refine lv_bipush (v := 64) hx hb dX1_init_42 (by decide) ?_
  refine cb_newa (atype := .int) hx hb (hts (.arrayClass .int) (by decide +kernel)) (ty := .int) rfl hK hP hD hS hA 0 rfl (fun _ h9 => h9) (a0 := (64, .inl (fun _ => 0))) (fun _ => rfl) (by decide) (N' := 64) (by decide) (Nat.le_of_ble_eq_true rfl) (Nat.le_of_ble_eq_true rfl) (Nat.le_of_ble_eq_true rfl) dX1_init_44 (fun q44 H hP hD hS => ?_)
  have hP : va_P (dC, dI) vwCl [(h0, .inr (1, [.int (0), .ref q12, .ref q20, .ref q28, .ref q36, .null, .null, .null, .int 0])), (q12, .inl (ct 0, (8, .inl (fun _ => 0)))), (q20, .inl (ct 0, (8, .inl (fun _ => 0)))), (q28, .inl (ct 1, (8, .inl (fun _ => 0)))), (q36, .inl (ct 0, (64, .inl (fun _ => 0)))), (q44, .inl (ct 0, (64, .inl (fun _ => 0))))] H := hP
  have hD : va_D A [(h0, .inr (1, [.int (0), .ref q12, .ref q20, .ref q28, .ref q36, .null, .null, .null, .int 0])), (q12, .inl (ct 0, (8, .inl (fun _ => 0)))), (q20, .inl (ct 0, (8, .inl (fun _ => 0)))), (q28, .inl (ct 1, (8, .inl (fun _ => 0)))), (q36, .inl (ct 0, (64, .inl (fun _ => 0)))), (q44, .inl (ct 0, (64, .inl (fun _ => 0))))] := hD
  refine W.widen (k := 5) (n := 152) (Nat.le_of_ble_eq_true rfl) (Nat.le_of_ble_eq_true rfl) ?_
  refine va_putF (D := (dC, dI)) (ci := 1) (v := .ref q44) (ty := .array .int) (C := RX1) (T := TX1) (N := 9) hx hb hts hin0 tyX1 tyX1_ok nmX1 hown hK hP hD hS 0 rfl rfl 5 (by decide) (hts (.fieldLink RX1 27 "ConferenceBridgeModel" "out" "[I") (by decide +kernel)) (fun _ h9 => h9) rfl hin rfl (by decide +kernel) rfl rfl (Nat.le_of_ble_eq_true rfl) dX1_init_46 (fun H locs hP hD hS => ?_)
  have hP : va_P (dC, dI) vwCl [(h0, .inr (1, [.int (0), .ref q12, .ref q20, .ref q28, .ref q36, .ref q44, .null, .null, .int 0])), (q12, .inl (ct 0, (8, .inl (fun _ => 0)))), (q20, .inl (ct 0, (8, .inl (fun _ => 0)))), (q28, .inl (ct 1, (8, .inl (fun _ => 0)))), (q36, .inl (ct 0, (64, .inl (fun _ => 0)))), (q44, .inl (ct 0, (64, .inl (fun _ => 0))))] H := hP
  have hD : va_D A [(h0, .inr (1, [.int (0), .ref q12, .ref q20, .ref q28, .ref q36, .ref q44, .null, .null, .int 0])), (q12, .inl (ct 0, (8, .inl (fun _ => 0)))), (q20, .inl (ct 0, (8, .inl (fun _ => 0)))), (q28, .inl (ct 1, (8, .inl (fun _ => 0)))), (q36, .inl (ct 0, (64, .inl (fun _ => 0)))), (q44, .inl (ct 0, (64, .inl (fun _ => 0))))] := hD
  refine lv_aload_n hx hb dX1_init_49 rfl (lv_at hl 0 rfl) ?_
  refine lv_bipush (v := 64) hx hb dX1_init_50 (by decide) ?_
  refine cb_newa (atype := .int) hx hb (hts (.arrayClass .int) (by decide +kernel)) (ty := .int) rfl hK hP hD hS hA 0 rfl (fun _ h9 => h9) (a0 := (64, .inl (fun _ => 0))) (fun _ => rfl) (by decide) (N' := 64) (by decide) (Nat.le_of_ble_eq_true rfl) (Nat.le_of_ble_eq_true rfl) (Nat.le_of_ble_eq_true rfl) dX1_init_52 (fun q52 H hP hD hS => ?_)
  have hP : va_P (dC, dI) vwCl [(h0, .inr (1, [.int (0), .ref q12, .ref q20, .ref q28, .ref q36, .ref q44, .null, .null, .int 0])), (q12, .inl (ct 0, (8, .inl (fun _ => 0)))), (q20, .inl (ct 0, (8, .inl (fun _ => 0)))), (q28, .inl (ct 1, (8, .inl (fun _ => 0)))), (q36, .inl (ct 0, (64, .inl (fun _ => 0)))), (q44, .inl (ct 0, (64, .inl (fun _ => 0)))), (q52, .inl (ct 0, (64, .inl (fun _ => 0))))] H := hP
  have hD : va_D A [(h0, .inr (1, [.int (0), .ref q12, .ref q20, .ref q28, .ref q36, .ref q44, .null, .null, .int 0])), (q12, .inl (ct 0, (8, .inl (fun _ => 0)))), (q20, .inl (ct 0, (8, .inl (fun _ => 0)))), (q28, .inl (ct 1, (8, .inl (fun _ => 0)))), (q36, .inl (ct 0, (64, .inl (fun _ => 0)))), (q44, .inl (ct 0, (64, .inl (fun _ => 0)))), (q52, .inl (ct 0, (64, .inl (fun _ => 0))))] := hD
  refine W.widen (k := 6) (n := 216) (Nat.le_of_ble_eq_true rfl) (Nat.le_of_ble_eq_true rfl) ?_
  refine va_putF (D := (dC, dI)) (ci := 1) (v := .ref q52) (ty := .array .int) (C := RX1) (T := TX1) (N := 9) hx hb hts hin0 tyX1 tyX1_ok nmX1 hown hK hP hD hS 0 rfl rfl 6 (by decide) (hts (.fieldLink RX1 30 "ConferenceBridgeModel" "sample" "[I") (by decide +kernel)) (fun _ h9 => h9) rfl hin rfl (by decide +kernel) rfl rfl (Nat.le_of_ble_eq_true rfl) dX1_init_54 (fun H locs hP hD hS => ?_)
  have hP : va_P (dC, dI) vwCl [(h0, .inr (1, [.int (0), .ref q12, .ref q20, .ref q28, .ref q36, .ref q44, .ref q52, .null, .int 0])), (q12, .inl (ct 0, (8, .inl (fun _ => 0)))), (q20, .inl (ct 0, (8, .inl (fun _ => 0)))), (q28, .inl (ct 1, (8, .inl (fun _ => 0)))), (q36, .inl (ct 0, (64, .inl (fun _ => 0)))), (q44, .inl (ct 0, (64, .inl (fun _ => 0)))), (q52, .inl (ct 0, (64, .inl (fun _ => 0))))] H := hP
  have hD : va_D A [(h0, .inr (1, [.int (0), .ref q12, .ref q20, .ref q28, .ref q36, .ref q44, .ref q52, .null, .int 0])), (q12, .inl (ct 0, (8, .inl (fun _ => 0)))), (q20, .inl (ct 0, (8, .inl (fun _ => 0)))), (q28, .inl (ct 1, (8, .inl (fun _ => 0)))), (q36, .inl (ct 0, (64, .inl (fun _ => 0)))), (q44, .inl (ct 0, (64, .inl (fun _ => 0)))), (q52, .inl (ct 0, (64, .inl (fun _ => 0))))] := hD
  refine lv_aload_n hx hb dX1_init_57 rfl (lv_at hl 0 rfl) ?_
  refine lv_bipush (v := 8) hx hb dX1_init_58 (by decide) ?_
  refine cb_newa (atype := .long) hx hb (hts (.arrayClass .long) (by decide +kernel)) (ty := .long) rfl hK hP hD hS hA 3 rfl (fun _ h9 => h9) (a0 := (8, .inr (.inl (fun _ => 0)))) (fun _ => rfl) (by decide) (N' := 8) (by decide) (Nat.le_of_ble_eq_true rfl) (Nat.le_of_ble_eq_true rfl) (Nat.le_of_ble_eq_true rfl) dX1_init_60 (fun q60 H hP hD hS => ?_)
  have hP : va_P (dC, dI) vwCl [(h0, .inr (1, [.int (0), .ref q12, .ref q20, .ref q28, .ref q36, .ref q44, .ref q52, .null, .int 0])), (q12, .inl (ct 0, (8, .inl (fun _ => 0)))), (q20, .inl (ct 0, (8, .inl (fun _ => 0)))), (q28, .inl (ct 1, (8, .inl (fun _ => 0)))), (q36, .inl (ct 0, (64, .inl (fun _ => 0)))), (q44, .inl (ct 0, (64, .inl (fun _ => 0)))), (q52, .inl (ct 0, (64, .inl (fun _ => 0)))), (q60, .inl (ct 3, (8, .inr (.inl (fun _ => 0)))))] H := hP
  have hD : va_D A [(h0, .inr (1, [.int (0), .ref q12, .ref q20, .ref q28, .ref q36, .ref q44, .ref q52, .null, .int 0])), (q12, .inl (ct 0, (8, .inl (fun _ => 0)))), (q20, .inl (ct 0, (8, .inl (fun _ => 0)))), (q28, .inl (ct 1, (8, .inl (fun _ => 0)))), (q36, .inl (ct 0, (64, .inl (fun _ => 0)))), (q44, .inl (ct 0, (64, .inl (fun _ => 0)))), (q52, .inl (ct 0, (64, .inl (fun _ => 0)))), (q60, .inl (ct 3, (8, .inr (.inl (fun _ => 0)))))] := hD
  refine W.widen (k := 7) (n := 224) (Nat.le_of_ble_eq_true rfl) (Nat.le_of_ble_eq_true rfl) ?_
  refine va_putF (D := (dC, dI)) (ci := 1) (v := .ref q60) (ty := .array .long) (C := RX1) (T := TX1) (N := 9) hx hb hts hin0 tyX1 tyX1_ok nmX1 hown hK hP hD hS 0 rfl rfl 7 (by decide) (hts (.fieldLink RX1 33 "ConferenceBridgeModel" "energy" "[J") (by decide +kernel)) (fun _ h9 => h9) rfl hin rfl (by decide +kernel) rfl rfl (Nat.le_of_ble_eq_true rfl) dX1_init_62 (fun H locs hP hD hS => ?_)
  have hP : va_P (dC, dI) vwCl [(h0, .inr (1, [.int (0), .ref q12, .ref q20, .ref q28, .ref q36, .ref q44, .ref q52, .ref q60, .int 0])), (q12, .inl (ct 0, (8, .inl (fun _ => 0)))), (q20, .inl (ct 0, (8, .inl (fun _ => 0)))), (q28, .inl (ct 1, (8, .inl (fun _ => 0)))), (q36, .inl (ct 0, (64, .inl (fun _ => 0)))), (q44, .inl (ct 0, (64, .inl (fun _ => 0)))), (q52, .inl (ct 0, (64, .inl (fun _ => 0)))), (q60, .inl (ct 3, (8, .inr (.inl (fun _ => 0)))))] H := hP
  have hD : va_D A [(h0, .inr (1, [.int (0), .ref q12, .ref q20, .ref q28, .ref q36, .ref q44, .ref q52, .ref q60, .int 0])), (q12, .inl (ct 0, (8, .inl (fun _ => 0)))), (q20, .inl (ct 0, (8, .inl (fun _ => 0)))), (q28, .inl (ct 1, (8, .inl (fun _ => 0)))), (q36, .inl (ct 0, (64, .inl (fun _ => 0)))), (q44, .inl (ct 0, (64, .inl (fun _ => 0)))), (q52, .inl (ct 0, (64, .inl (fun _ => 0)))), (q60, .inl (ct 3, (8, .inr (.inl (fun _ => 0)))))] := hD
  refine lv_aload_n hx hb dX1_init_65 rfl (lv_at hl 0 rfl) ?_
  refine lv_iconst (v := 3) hx hb dX1_init_66 (by decide) ?_
  refine va_put (D := (dC, dI)) (ci := 1) (v := .int (3)) (ty := .int) (C := RX1) (T := TX1) (N := 9) hx hb hts hin0 tyX1 tyX1_ok nmX1 hown hK hP hD hS 0 rfl rfl 8 (by decide) (hts (.fieldLink RX1 37 "ConferenceBridgeModel" "most" "I") (by decide +kernel)) (fun _ h9 => h9) rfl (by decide +kernel) rfl rfl (Nat.le_of_ble_eq_true rfl) dX1_init_67 (fun H locs hP hD hS => ?_)
  have hP : va_P (dC, dI) vwCl [(h0, .inr (1, [.int (0), .ref q12, .ref q20, .ref q28, .ref q36, .ref q44, .ref q52, .ref q60, .int (3)])), (q12, .inl (ct 0, (8, .inl (fun _ => 0)))), (q20, .inl (ct 0, (8, .inl (fun _ => 0)))), (q28, .inl (ct 1, (8, .inl (fun _ => 0)))), (q36, .inl (ct 0, (64, .inl (fun _ => 0)))), (q44, .inl (ct 0, (64, .inl (fun _ => 0)))), (q52, .inl (ct 0, (64, .inl (fun _ => 0)))), (q60, .inl (ct 3, (8, .inr (.inl (fun _ => 0)))))] H := hP
  have hD : va_D A [(h0, .inr (1, [.int (0), .ref q12, .ref q20, .ref q28, .ref q36, .ref q44, .ref q52, .ref q60, .int (3)])), (q12, .inl (ct 0, (8, .inl (fun _ => 0)))), (q20, .inl (ct 0, (8, .inl (fun _ => 0)))), (q28, .inl (ct 1, (8, .inl (fun _ => 0)))), (q36, .inl (ct 0, (64, .inl (fun _ => 0)))), (q44, .inl (ct 0, (64, .inl (fun _ => 0)))), (q52, .inl (ct 0, (64, .inl (fun _ => 0)))), (q60, .inl (ct 3, (8, .inr (.inl (fun _ => 0)))))] := hD
  refine lv_iconst (v := 0) hx hb dX1_init_70 (by decide) ?_
  refine lv_istore_n (lv' := [(1, .int (0)), (0, .ref h0)]) hx hb dX1_init_71 rfl hl (by decide) rfl (fun ls hl => ?_)
  obtain ⟨ad, had⟩ : ∃ ad : Nat → Nat, ad = fun n => ([h0, q12, q20, q28, q36, q44, q52, q60] : List Nat).getD n 0 := ⟨_, rfl⟩
  have ha0 : ad 0 = h0 := by rw [had]; rfl
  have hP : va_P (dC, dI) vwCl (md_w ct ad md_0) H := by rw [had]; exact hP
  have hD : va_D A (md_w ct ad md_0) := by rw [had]; exact hD
  have hl : lv_has ls 3 [(0, .ref (ad 0)), (1, .int 0)] := by rw [ha0]; exact lv_sub hl [1, 0] rfl
  refine lpX1_init_72 hx hb hml hown hts hin0 hK hA md_0 (fun H locs ls hP hD hS hl => ?_) 9 0 (by decide) (by decide) _ _ ls hP hD hS hl
  exact W.vret hx hb hr (fun t ht hW => ⟨⟨ad, rfl, ha0, by rw [ht]; exact hP, va_K.moved hW.alike hK, hD⟩, hS.F ht⟩) hS.2.2 dX1_init_159
