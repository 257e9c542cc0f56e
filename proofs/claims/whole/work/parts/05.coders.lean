/-! the reference's two coders: their loops, their contracts -/
def mdDbl : Nat → Int32 → Int32
  | 0, z => z
  | n + 1, z => mdDbl n (2 * z)
def mdHalf (lim : Nat) : Nat → Nat → Nat → Nat × Nat
  | 0, v, j => (v, j)
  | f + 1, v, j => if v < lim then (v, j) else mdHalf lim f (v / 2) (j + 1)
theorem md_xor (a b : Nat) : nI a ^^^ nI b = nI (a ^^^ b) := by
  apply Int32.toBitVec_inj.1
  show BitVec.ofNat 32 a ^^^ BitVec.ofNat 32 b = BitVec.ofNat 32 (a ^^^ b)
  apply BitVec.eq_of_getLsbD_eq
  intro i hi
  simp [hi]
theorem md_dbl_step {i j : Nat} {z Z : Int32} (h : i < j) (e : mdDbl (j - i) z = Z) : mdDbl (j - (i + 1)) (2 * z) = Z := by
  rw [← e, show j - i = (j - (i + 1)) + 1 by omega]
  rfl
theorem md_dbl_end {i j : Nat} {z Z : Int32} (h : j ≤ i) (e : mdDbl (j - i) z = Z) : z = Z := by
  rw [← e, show j - i = 0 by omega]
  rfl
theorem md_half_end {lim f v j : Nat} (h : v < lim) : mdHalf lim f v j = (v, j) := by
  cases f with
  | zero => rfl
  | succ f => unfold mdHalf; rw [if_pos h]
theorem md_half_step {lim f v j : Nat} (h : ¬ v < lim) : mdHalf lim (f + 1) v j = mdHalf lim f (v / 2) (j + 1) := by
  conv => lhs; unfold mdHalf
  rw [if_neg h]
theorem md_le {a b : Nat} (ha : a < 2 ^ 31) (hb : b < 2 ^ 31) {c : Nat} (e : Int32.ofNat c = nI b) : nI a ≤ nI b ↔ a ≤ b := nI_leI ha hb
set_option maxHeartbeats 4000000 in
set_option maxRecDepth 100000 in
theorem lpX1_meaning_63 {p : Program} {l : Launch} {e : Env} {R : Room} {s : State} {m : MethodId} {args : Array Value} {below : List Frame} {meth : Method} {c : Code} {H : Heap} {locs : List Loc} {cells slots : Nat} {Q : State → Prop} (hx : p.tables.exec = Jvm.exec) (hb : c.code = cX1_meaning) (j : Nat) (hj : j < 8) (x1 x2 x4 Z : Int32) (kk : ∀ (i : Nat) (ls : Array Slot), lv_has ls 7 [(0, .int (0)), (1, .int (x1)), (2, .int (x2)), (3, .int (nI j)), (4, .int (x4)), (5, .int (Z)), (6, .int (nI i))] → W p l e R s m args below meth c H locs cells slots Q (F0 m 85 ls [])) :
    ∀ (n : Nat) (i : Nat) (z : Int32) (ls : Array Slot), i ≤ j + 1 → j + 2 ≤ i + n → mdDbl (j - i) z = Z → lv_has ls 7 [(0, .int (0)), (1, .int (x1)), (2, .int (x2)), (3, .int (nI j)), (4, .int (x4)), (5, .int (z)), (6, .int (nI i))] → W p l e R s m args below meth c H locs cells slots Q (F0 m 63 ls []) := by
  intro n
  induction n with
  | zero => intro i z ls h1 h2; exact absurd h2 (by omega)
  | succ n ih =>
    intro i z ls h1 h2 hz hl
    refine lv_iload hx hb dX1_meaning_63 (lv_at hl 6 rfl) ?_
    refine lv_iload_n hx hb dX1_meaning_65 rfl (lv_at hl 3 rfl) ?_
    refine lv_icmp_ge (tgt := 85) hx hb dX1_meaning_66 (by decide) (fun c_1 => ?_) (fun c_1 => ?_)
    · obtain rfl := md_dbl_end ((nI_leI (by omega) (by omega)).mp c_1) hz
      exact kk i ls (lv_sub hl [0, 1, 2, 3, 4, 5, 6] rfl)
    · refine lv_iload_n hx hb dX1_meaning_69 rfl (lv_at hl 0 rfl) ?_
      refine lv_if_ne (tgt := 85) hx hb dX1_meaning_70 (by decide) (fun c9 => absurd (by decide) c9) (fun _ => ?_)
      refine lv_iconst (v := 2) hx hb dX1_meaning_73 (by decide) ?_
      refine lv_iload hx hb dX1_meaning_74 (lv_at hl 5 rfl) ?_
      refine lv_imul hx hb dX1_meaning_76 ?_
      refine lv_istore (lv' := [(5, .int (((2 : Int32) * z))), (0, .int (0)), (1, .int (x1)), (2, .int (x2)), (3, .int (nI j)), (4, .int (x4)), (6, .int (nI i))]) hx hb dX1_meaning_77 hl (by decide) rfl (fun ls hl => ?_)
      refine lv_iinc (v := ((nI i) + (1 : Int32))) (lv' := [(6, .int (((nI i) + (1 : Int32)))), (5, .int (((2 : Int32) * z))), (0, .int (0)), (1, .int (x1)), (2, .int (x2)), (3, .int (nI j)), (4, .int (x4))]) hx hb dX1_meaning_79 hl (k := 6) rfl rfl (by decide) rfl (fun ls hl => ?_)
      refine lv_goto (tgt := 63) hx hb dX1_meaning_82 (by decide) ?_
      have hij : i < j := Nat.lt_of_not_le (fun q => c_1 ((nI_leI (by omega) (by omega)).mpr q))
      exact ih (i + 1) (2 * z) ls (by omega) (by omega) (md_dbl_step hij hz) (by rw [← nI_1]; exact lv_sub hl [2, 3, 4, 5, 6, 1, 0] rfl)

set_option maxHeartbeats 4000000 in
set_option maxRecDepth 100000 in
theorem lpX1_meaning_104 {p : Program} {l : Launch} {e : Env} {R : Room} {s : State} {m : MethodId} {args : Array Value} {below : List Frame} {meth : Method} {c : Code} {H : Heap} {locs : List Loc} {cells slots : Nat} {Q : State → Prop} (hx : p.tables.exec = Jvm.exec) (hb : c.code = cX1_meaning) (j : Nat) (hj : j < 8) (x1 x2 x4 Z : Int32) (kk : ∀ (i : Nat) (ls : Array Slot), lv_has ls 7 [(0, .int (1)), (1, .int (x1)), (2, .int (x2)), (3, .int (nI j)), (4, .int (x4)), (5, .int (Z)), (6, .int (nI i))] → W p l e R s m args below meth c H locs cells slots Q (F0 m 122 ls [])) :
    ∀ (n : Nat) (i : Nat) (z : Int32) (ls : Array Slot), i ≤ j + 1 → j + 2 ≤ i + n → mdDbl (j - i) z = Z → lv_has ls 7 [(0, .int (1)), (1, .int (x1)), (2, .int (x2)), (3, .int (nI j)), (4, .int (x4)), (5, .int (z)), (6, .int (nI i))] → W p l e R s m args below meth c H locs cells slots Q (F0 m 104 ls []) := by
  intro n
  induction n with
  | zero => intro i z ls h1 h2; exact absurd h2 (by omega)
  | succ n ih =>
    intro i z ls h1 h2 hz hl
    refine lv_iload hx hb dX1_meaning_104 (lv_at hl 6 rfl) ?_
    refine lv_iload_n hx hb dX1_meaning_106 rfl (lv_at hl 3 rfl) ?_
    refine lv_icmp_ge (tgt := 122) hx hb dX1_meaning_107 (by decide) (fun c_1 => ?_) (fun c_1 => ?_)
    · obtain rfl := md_dbl_end ((nI_leI (by omega) (by omega)).mp c_1) hz
      exact kk i ls (lv_sub hl [0, 1, 2, 3, 4, 5, 6] rfl)
    · refine lv_iconst (v := 2) hx hb dX1_meaning_110 (by decide) ?_
      refine lv_iload hx hb dX1_meaning_111 (lv_at hl 5 rfl) ?_
      refine lv_imul hx hb dX1_meaning_113 ?_
      refine lv_istore (lv' := [(5, .int (((2 : Int32) * z))), (0, .int (1)), (1, .int (x1)), (2, .int (x2)), (3, .int (nI j)), (4, .int (x4)), (6, .int (nI i))]) hx hb dX1_meaning_114 hl (by decide) rfl (fun ls hl => ?_)
      refine lv_iinc (v := ((nI i) + (1 : Int32))) (lv' := [(6, .int (((nI i) + (1 : Int32)))), (5, .int (((2 : Int32) * z))), (0, .int (1)), (1, .int (x1)), (2, .int (x2)), (3, .int (nI j)), (4, .int (x4))]) hx hb dX1_meaning_116 hl (k := 6) rfl rfl (by decide) rfl (fun ls hl => ?_)
      refine lv_goto (tgt := 104) hx hb dX1_meaning_119 (by decide) ?_
      have hij : i < j := Nat.lt_of_not_le (fun q => c_1 ((nI_leI (by omega) (by omega)).mpr q))
      exact ih (i + 1) (2 * z) ls (by omega) (by omega) (md_dbl_step hij hz) (by rw [← nI_1]; exact lv_sub hl [2, 3, 4, 5, 6, 1, 0] rfl)

set_option maxHeartbeats 4000000 in
set_option maxRecDepth 100000 in
theorem lpX1_codeOf_24 {p : Program} {l : Launch} {e : Env} {R : Room} {s : State} {m : MethodId} {args : Array Value} {below : List Frame} {meth : Method} {c : Code} {H : Heap} {locs : List Loc} {cells slots : Nat} {Q : State → Prop} (hx : p.tables.exec = Jvm.exec) (hb : c.code = cX1_codeOf) (x1 : Int32) (F : Nat × Nat) (kk : ∀ (ls : Array Slot), lv_has ls 4 [(0, .int (0)), (1, .int (x1)), (2, .int (nI F.1)), (3, .int (nI F.2))] → W p l e R s m args below meth c H locs cells slots Q (F0 m 40 ls [])) :
    ∀ (n : Nat) (v j : Nat) (ls : Array Slot), 1 ≤ n → v < 32 * 2 ^ (n - 1) → v < 65536 → mdHalf 32 (n - 1) v j = F → lv_has ls 4 [(0, .int (0)), (1, .int (x1)), (2, .int (nI v)), (3, .int (nI j))] → W p l e R s m args below meth c H locs cells slots Q (F0 m 24 ls []) := by
  intro n
  induction n with
  | zero => intro v j ls h1; exact absurd h1 (by omega)
  | succ n ih =>
    intro v j ls h1 hn hv9 hz hl
    refine lv_iload_n hx hb dX1_codeOf_24 rfl (lv_at hl 2 rfl) ?_
    refine lv_bipush (v := 32) hx hb dX1_codeOf_25 (by decide) ?_
    refine lv_icmp_lt (tgt := 40) hx hb dX1_codeOf_27 (by decide) (fun c_1 => ?_) (fun c_1 => ?_)
    · have hv : v < 32 := (nI_ltI (by omega) (by decide)).mp c_1
      obtain rfl : F = (v, j) := hz.symm.trans (md_half_end hv)
      exact kk ls (lv_sub hl [0, 1, 2, 3] rfl)
    · refine lv_iload_n hx hb dX1_codeOf_30 rfl (lv_at hl 2 rfl) ?_
      refine lv_iconst (v := 2) hx hb dX1_codeOf_31 (by decide) ?_
      refine lv_idiv hx hb dX1_codeOf_32 (by decide) ?_
      refine lv_istore_n (lv' := [(2, .int (((nI v) / (2 : Int32)))), (0, .int (0)), (1, .int (x1)), (3, .int (nI j))]) hx hb dX1_codeOf_33 rfl hl (by decide) rfl (fun ls hl => ?_)
      refine lv_iinc (v := ((nI j) + (1 : Int32))) (lv' := [(3, .int (((nI j) + (1 : Int32)))), (2, .int (((nI v) / (2 : Int32)))), (0, .int (0)), (1, .int (x1))]) hx hb dX1_codeOf_34 hl (k := 3) rfl rfl (by decide) rfl (fun ls hl => ?_)
      refine lv_goto (tgt := 24) hx hb dX1_codeOf_37 (by decide) ?_
      have hv : ¬ v < 32 := fun q => c_1 ((nI_ltI (by omega) (by decide)).mpr q)
      have e2 : nI v / 2 = nI (v / 2) := pk_div (d := 2) (by omega) (by decide) (by decide)
      rw [e2] at hl
      rcases n with _ | n
      · have hn0 : v < 32 * 2 ^ 0 := hn
        exact absurd hn0 (by rw [Nat.pow_zero]; omega)
      · have hn1 : v < 32 * 2 ^ (n + 1) := hn
        rw [Nat.pow_succ] at hn1
        have hz1 : mdHalf 32 (n + 1) v j = F := hz
        rw [md_half_step hv] at hz1
        exact ih (v / 2) (j + 1) ls (by omega) (show v / 2 < 32 * 2 ^ n by omega) (by omega) hz1 (by rw [← nI_1]; exact lv_sub hl [2, 3, 1, 0] rfl)

set_option maxHeartbeats 4000000 in
set_option maxRecDepth 100000 in
theorem lpX1_codeOf_104 {p : Program} {l : Launch} {e : Env} {R : Room} {s : State} {m : MethodId} {args : Array Value} {below : List Frame} {meth : Method} {c : Code} {H : Heap} {locs : List Loc} {cells slots : Nat} {Q : State → Prop} (hx : p.tables.exec = Jvm.exec) (hb : c.code = cX1_codeOf) (x1 : Int32) (F : Nat × Nat) (kk : ∀ (ls : Array Slot), lv_has ls 4 [(0, .int (1)), (1, .int (x1)), (2, .int (nI F.1)), (3, .int (nI F.2))] → W p l e R s m args below meth c H locs cells slots Q (F0 m 121 ls [])) :
    ∀ (n : Nat) (v j : Nat) (ls : Array Slot), 1 ≤ n → v < 256 * 2 ^ (n - 1) → v < 65536 → mdHalf 256 (n - 1) v j = F → lv_has ls 4 [(0, .int (1)), (1, .int (x1)), (2, .int (nI v)), (3, .int (nI j))] → W p l e R s m args below meth c H locs cells slots Q (F0 m 104 ls []) := by
  intro n
  induction n with
  | zero => intro v j ls h1; exact absurd h1 (by omega)
  | succ n ih =>
    intro v j ls h1 hn hv9 hz hl
    refine lv_iload_n hx hb dX1_codeOf_104 rfl (lv_at hl 2 rfl) ?_
    refine lv_sipush (v := 256) hx hb dX1_codeOf_105 (by decide) ?_
    refine lv_icmp_lt (tgt := 121) hx hb dX1_codeOf_108 (by decide) (fun c_1 => ?_) (fun c_1 => ?_)
    · have hv : v < 256 := (nI_ltI (by omega) (by decide)).mp c_1
      obtain rfl : F = (v, j) := hz.symm.trans (md_half_end hv)
      exact kk ls (lv_sub hl [0, 1, 2, 3] rfl)
    · refine lv_iload_n hx hb dX1_codeOf_111 rfl (lv_at hl 2 rfl) ?_
      refine lv_iconst (v := 2) hx hb dX1_codeOf_112 (by decide) ?_
      refine lv_idiv hx hb dX1_codeOf_113 (by decide) ?_
      refine lv_istore_n (lv' := [(2, .int (((nI v) / (2 : Int32)))), (0, .int (1)), (1, .int (x1)), (3, .int (nI j))]) hx hb dX1_codeOf_114 rfl hl (by decide) rfl (fun ls hl => ?_)
      refine lv_iinc (v := ((nI j) + (1 : Int32))) (lv' := [(3, .int (((nI j) + (1 : Int32)))), (2, .int (((nI v) / (2 : Int32)))), (0, .int (1)), (1, .int (x1))]) hx hb dX1_codeOf_115 hl (k := 3) rfl rfl (by decide) rfl (fun ls hl => ?_)
      refine lv_goto (tgt := 104) hx hb dX1_codeOf_118 (by decide) ?_
      have hv : ¬ v < 256 := fun q => c_1 ((nI_ltI (by omega) (by decide)).mpr q)
      have e2 : nI v / 2 = nI (v / 2) := pk_div (d := 2) (by omega) (by decide) (by decide)
      rw [e2] at hl
      rcases n with _ | n
      · have hn0 : v < 256 * 2 ^ 0 := hn
        exact absurd hn0 (by rw [Nat.pow_zero]; omega)
      · have hn1 : v < 256 * 2 ^ (n + 1) := hn
        rw [Nat.pow_succ] at hn1
        have hz1 : mdHalf 256 (n + 1) v j = F := hz
        rw [md_half_step hv] at hz1
        exact ih (v / 2) (j + 1) ls (by omega) (show v / 2 < 256 * 2 ^ n by omega) (by omega) hz1 (by rw [← nI_1]; exact lv_sub hl [2, 3, 1, 0] rfl)

def fnX1_meaning_0 (n : Nat) : Int32 := if nI ((n ^^^ 85) / 16 % 8) ≤ 0 then (if 128 ≤ nI (n ^^^ 85) then (mdDbl ((n ^^^ 85) / 16 % 8 - 1) ((((16 : Int32) * (nI ((n ^^^ 85) % 16))) + (8 : Int32)))) else ((-(mdDbl ((n ^^^ 85) / 16 % 8 - 1) ((((16 : Int32) * (nI ((n ^^^ 85) % 16))) + (8 : Int32))))))) else (if 128 ≤ nI (n ^^^ 85) then (mdDbl ((n ^^^ 85) / 16 % 8 - 1) ((((16 : Int32) * (nI ((n ^^^ 85) % 16))) + (264 : Int32)))) else ((-(mdDbl ((n ^^^ 85) / 16 % 8 - 1) ((((16 : Int32) * (nI ((n ^^^ 85) % 16))) + (264 : Int32)))))))
set_option maxHeartbeats 4000000 in
set_option maxRecDepth 100000 in
theorem metX1_meaning_0 (l : Launch) (n : Nat) (hn : n < 256) : Met l yX1_meaning wsX1_meaning ({ frames := 0, cells := 0, slots := 0, locals := 0 }) (va_Pc [.int (0), .int (nI n)] (fun _ => True)) (vp_Si (fun r => r = fnX1_meaning_0 n)) 0 0 (fun _ => False) := by
  refine Met.ofW (cc := cX1_meaning) (maxL := 7) (ret := (some .int)) (by decide) rfl ?_
  intro p e s m args below meth c s₁ B hml hv
  obtain ⟨rfl, -⟩ := hv
  have hx := B.exec
  have hb := B.bytes
  have hr := B.returns
  have hts := atoms_spec (ws := wsX1_meaning) B.pre
  have hown : s.vm.findClass RX1 = some m.cls := findClass_of_methodNamed B.named
  have hlocks := B.notSynchronized
  have hl := lv_entry ([.int (0), .int (nI n)]) (n := 7) (Nat.le_of_ble_eq_true rfl)
  rw [lg_entry_eq]
  generalize (lg_sl ([.int (0), .int (nI n)]) ++ List.replicate (7 - (lg_sl ([.int (0), .int (nI n)])).length) Slot.unset).toArray = ls at hl ⊢
  have hl : lv_has ls 7 [(0, .int (0)), (1, .int (nI n))] := hl
  refine lv_iload_n hx hb dX1_meaning_0 rfl (lv_at hl 0 rfl) ?_
  refine lv_if_ne (tgt := 11) hx hb dX1_meaning_1 (by decide) (fun c9 => absurd (by decide) c9) (fun _ => ?_)
  refine lv_iload_n hx hb dX1_meaning_4 rfl (lv_at hl 1 rfl) ?_
  refine lv_bipush (v := 85) hx hb dX1_meaning_5 (by decide) ?_
  refine lv_ixor hx hb dX1_meaning_7 ?_
  refine lv_goto (tgt := 16) hx hb dX1_meaning_8 (by decide) ?_
  refine lv_topi (fun x_2 ex_2 => ?_)
  obtain rfl : x_2 = nI (n ^^^ 85) := ex_2.trans (md_xor n 85)
  have hq : (n ^^^ 85) < 256 := Nat.xor_lt_two_pow (n := 8) hn (by decide)
  refine lv_istore_n (lv' := [(2, .int (nI (n ^^^ 85))), (0, .int (0)), (1, .int (nI n))]) hx hb dX1_meaning_16 rfl hl (by decide) rfl (fun ls hl => ?_)
  refine lv_iload_n hx hb dX1_meaning_17 rfl (lv_at hl 0 rfl) ?_
  refine lv_bipush (v := 16) hx hb dX1_meaning_18 (by decide) ?_
  refine lv_idiv hx hb dX1_meaning_20 (by decide) ?_
  refine lv_bipush (v := 8) hx hb dX1_meaning_21 (by decide) ?_
  refine lv_irem hx hb dX1_meaning_23 (by decide) ?_
  refine lv_topi (fun x_3 ex_3 => ?_)
  obtain rfl : x_3 = nI ((n ^^^ 85) / 16 % 8) := ex_3.trans (by have e1 : nI (n ^^^ 85) / 16 = nI ((n ^^^ 85) / 16) := pk_div (d := 16) (by omega) (by decide) (by decide); rw [e1]; exact pk_rem (d := 8) (by omega) (by decide) (by decide))
  refine lv_istore_n (lv' := [(3, .int (nI ((n ^^^ 85) / 16 % 8))), (2, .int (nI (n ^^^ 85))), (0, .int (0)), (1, .int (nI n))]) hx hb dX1_meaning_24 rfl hl (by decide) rfl (fun ls hl => ?_)
  refine lv_iload_n hx hb dX1_meaning_25 rfl (lv_at hl 1 rfl) ?_
  refine lv_bipush (v := 16) hx hb dX1_meaning_26 (by decide) ?_
  refine lv_irem hx hb dX1_meaning_28 (by decide) ?_
  refine lv_topi (fun x_4 ex_4 => ?_)
  obtain rfl : x_4 = nI ((n ^^^ 85) % 16) := ex_4.trans (pk_rem (d := 16) (by omega) (by decide) (by decide))
  refine lv_istore (lv' := [(4, .int (nI ((n ^^^ 85) % 16))), (3, .int (nI ((n ^^^ 85) / 16 % 8))), (2, .int (nI (n ^^^ 85))), (0, .int (0)), (1, .int (nI n))]) hx hb dX1_meaning_29 hl (by decide) rfl (fun ls hl => ?_)
  refine lv_bipush (v := 16) hx hb dX1_meaning_31 (by decide) ?_
  refine lv_iload hx hb dX1_meaning_33 (lv_at hl 0 rfl) ?_
  refine lv_imul hx hb dX1_meaning_35 ?_
  refine lv_bipush (v := 8) hx hb dX1_meaning_36 (by decide) ?_
  refine lv_iadd hx hb dX1_meaning_38 ?_
  refine lv_istore (lv' := [(5, .int ((((16 : Int32) * (nI ((n ^^^ 85) % 16))) + (8 : Int32)))), (4, .int (nI ((n ^^^ 85) % 16))), (3, .int (nI ((n ^^^ 85) / 16 % 8))), (2, .int (nI (n ^^^ 85))), (0, .int (0)), (1, .int (nI n))]) hx hb dX1_meaning_39 hl (by decide) rfl (fun ls hl => ?_)
  refine lv_iload_n hx hb dX1_meaning_41 rfl (lv_at hl 4 rfl) ?_
  refine lv_if_ne (tgt := 60) hx hb dX1_meaning_42 (by decide) (fun c9 => absurd (by decide) c9) (fun _ => ?_)
  refine lv_iload_n hx hb dX1_meaning_45 rfl (lv_at hl 2 rfl) ?_
  refine lv_if_le (tgt := 60) hx hb dX1_meaning_46 (by decide) (fun c_6 => ?_) (fun c_6 => ?_)
  · refine lv_iconst (v := 1) hx hb dX1_meaning_60 (by decide) ?_
    refine lv_istore (lv' := [(6, .int (1)), (5, .int ((((16 : Int32) * (nI ((n ^^^ 85) % 16))) + (8 : Int32)))), (4, .int (nI ((n ^^^ 85) % 16))), (3, .int (nI ((n ^^^ 85) / 16 % 8))), (2, .int (nI (n ^^^ 85))), (0, .int (0)), (1, .int (nI n))]) hx hb dX1_meaning_61 hl (by decide) rfl (fun ls hl => ?_)
    refine lpX1_meaning_63 hx hb ((n ^^^ 85) / 16 % 8) (by omega) _ _ _ (mdDbl ((n ^^^ 85) / 16 % 8 - 1) ((((16 : Int32) * (nI ((n ^^^ 85) % 16))) + (8 : Int32)))) (fun i ls hl => ?_) ((n ^^^ 85) / 16 % 8 + 1) 1 ((((16 : Int32) * (nI ((n ^^^ 85) % 16))) + (8 : Int32))) ls (by omega) (by omega) rfl (lv_sub hl [5, 6, 4, 3, 2, 1, 0] rfl)
    refine lv_iload_n hx hb dX1_meaning_85 rfl (lv_at hl 0 rfl) ?_
    refine lv_iconst (v := 1) hx hb dX1_meaning_86 (by decide) ?_
    refine lv_icmp_ne (tgt := 128) hx hb dX1_meaning_87 (by decide) (fun _ => ?_) (fun c9 => absurd c9 (by decide))
    refine lv_iload_n hx hb dX1_meaning_128 rfl (lv_at hl 0 rfl) ?_
    refine lv_if_ne (tgt := 147) hx hb dX1_meaning_129 (by decide) (fun c9 => absurd (by decide) c9) (fun _ => ?_)
    refine lv_iload_n hx hb dX1_meaning_132 rfl (lv_at hl 2 rfl) ?_
    refine lv_sipush (v := 128) hx hb dX1_meaning_133 (by decide) ?_
    refine lv_icmp_ge (tgt := 143) hx hb dX1_meaning_136 (by decide) (fun c_9 => ?_) (fun c_9 => ?_)
    · refine lv_iconst (v := 0) hx hb dX1_meaning_143 (by decide) ?_
      refine lv_goto (tgt := 158) hx hb dX1_meaning_144 (by decide) ?_
      refine lv_istore (lv' := [(6, .int (0)), (0, .int (0)), (1, .int (nI n)), (2, .int (nI (n ^^^ 85))), (3, .int (nI ((n ^^^ 85) / 16 % 8))), (4, .int (nI ((n ^^^ 85) % 16))), (5, .int (mdDbl ((n ^^^ 85) / 16 % 8 - 1) ((((16 : Int32) * (nI ((n ^^^ 85) % 16))) + (8 : Int32)))))]) hx hb dX1_meaning_158 hl (by decide) rfl (fun ls hl => ?_)
      refine lv_iload hx hb dX1_meaning_160 (lv_at hl 0 rfl) ?_
      refine lv_if_eq (tgt := 171) hx hb dX1_meaning_162 (by decide) (fun _ => ?_) (fun c9 => absurd (by decide) c9)
      refine lv_iload hx hb dX1_meaning_171 (lv_at hl 6 rfl) ?_
      exact W.iret (v := mdDbl ((n ^^^ 85) / 16 % 8 - 1) ((((16 : Int32) * (nI ((n ^^^ 85) % 16))) + (8 : Int32)))) hx hb hr (fun t ht _ => ⟨mdDbl ((n ^^^ 85) / 16 % 8 - 1) ((((16 : Int32) * (nI ((n ^^^ 85) % 16))) + (8 : Int32))), rfl, by unfold fnX1_meaning_0; rw [if_pos c_6, if_pos c_9], ht⟩) (fun q h => absurd h List.not_mem_nil) dX1_meaning_173
    · refine lv_iconst (v := 1) hx hb dX1_meaning_139 (by decide) ?_
      refine lv_goto (tgt := 158) hx hb dX1_meaning_140 (by decide) ?_
      refine lv_istore (lv' := [(6, .int (1)), (0, .int (0)), (1, .int (nI n)), (2, .int (nI (n ^^^ 85))), (3, .int (nI ((n ^^^ 85) / 16 % 8))), (4, .int (nI ((n ^^^ 85) % 16))), (5, .int (mdDbl ((n ^^^ 85) / 16 % 8 - 1) ((((16 : Int32) * (nI ((n ^^^ 85) % 16))) + (8 : Int32)))))]) hx hb dX1_meaning_158 hl (by decide) rfl (fun ls hl => ?_)
      refine lv_iload hx hb dX1_meaning_160 (lv_at hl 0 rfl) ?_
      refine lv_if_eq (tgt := 171) hx hb dX1_meaning_162 (by decide) (fun c9 => absurd c9 (by decide)) (fun _ => ?_)
      refine lv_iload hx hb dX1_meaning_165 (lv_at hl 6 rfl) ?_
      refine lv_ineg hx hb dX1_meaning_167 ?_
      refine lv_goto (tgt := 173) hx hb dX1_meaning_168 (by decide) ?_
      exact W.iret (v := (-(mdDbl ((n ^^^ 85) / 16 % 8 - 1) ((((16 : Int32) * (nI ((n ^^^ 85) % 16))) + (8 : Int32)))))) hx hb hr (fun t ht _ => ⟨(-(mdDbl ((n ^^^ 85) / 16 % 8 - 1) ((((16 : Int32) * (nI ((n ^^^ 85) % 16))) + (8 : Int32))))), rfl, by unfold fnX1_meaning_0; rw [if_pos c_6, if_neg c_9], ht⟩) (fun q h => absurd h List.not_mem_nil) dX1_meaning_173
  · refine lv_bipush (v := 16) hx hb dX1_meaning_49 (by decide) ?_
    refine lv_iload hx hb dX1_meaning_51 (lv_at hl 1 rfl) ?_
    refine lv_imul hx hb dX1_meaning_53 ?_
    refine lv_sipush (v := 264) hx hb dX1_meaning_54 (by decide) ?_
    refine lv_iadd hx hb dX1_meaning_57 ?_
    refine lv_istore (lv' := [(5, .int ((((16 : Int32) * (nI ((n ^^^ 85) % 16))) + (264 : Int32)))), (4, .int (nI ((n ^^^ 85) % 16))), (3, .int (nI ((n ^^^ 85) / 16 % 8))), (2, .int (nI (n ^^^ 85))), (0, .int (0)), (1, .int (nI n))]) hx hb dX1_meaning_58 hl (by decide) rfl (fun ls hl => ?_)
    refine lv_iconst (v := 1) hx hb dX1_meaning_60 (by decide) ?_
    refine lv_istore (lv' := [(6, .int (1)), (5, .int ((((16 : Int32) * (nI ((n ^^^ 85) % 16))) + (264 : Int32)))), (4, .int (nI ((n ^^^ 85) % 16))), (3, .int (nI ((n ^^^ 85) / 16 % 8))), (2, .int (nI (n ^^^ 85))), (0, .int (0)), (1, .int (nI n))]) hx hb dX1_meaning_61 hl (by decide) rfl (fun ls hl => ?_)
    refine lpX1_meaning_63 hx hb ((n ^^^ 85) / 16 % 8) (by omega) _ _ _ (mdDbl ((n ^^^ 85) / 16 % 8 - 1) ((((16 : Int32) * (nI ((n ^^^ 85) % 16))) + (264 : Int32)))) (fun i ls hl => ?_) ((n ^^^ 85) / 16 % 8 + 1) 1 ((((16 : Int32) * (nI ((n ^^^ 85) % 16))) + (264 : Int32))) ls (by omega) (by omega) rfl (lv_sub hl [5, 6, 4, 3, 2, 1, 0] rfl)
    refine lv_iload_n hx hb dX1_meaning_85 rfl (lv_at hl 0 rfl) ?_
    refine lv_iconst (v := 1) hx hb dX1_meaning_86 (by decide) ?_
    refine lv_icmp_ne (tgt := 128) hx hb dX1_meaning_87 (by decide) (fun _ => ?_) (fun c9 => absurd c9 (by decide))
    refine lv_iload_n hx hb dX1_meaning_128 rfl (lv_at hl 0 rfl) ?_
    refine lv_if_ne (tgt := 147) hx hb dX1_meaning_129 (by decide) (fun c9 => absurd (by decide) c9) (fun _ => ?_)
    refine lv_iload_n hx hb dX1_meaning_132 rfl (lv_at hl 2 rfl) ?_
    refine lv_sipush (v := 128) hx hb dX1_meaning_133 (by decide) ?_
    refine lv_icmp_ge (tgt := 143) hx hb dX1_meaning_136 (by decide) (fun c_14 => ?_) (fun c_14 => ?_)
    · refine lv_iconst (v := 0) hx hb dX1_meaning_143 (by decide) ?_
      refine lv_goto (tgt := 158) hx hb dX1_meaning_144 (by decide) ?_
      refine lv_istore (lv' := [(6, .int (0)), (0, .int (0)), (1, .int (nI n)), (2, .int (nI (n ^^^ 85))), (3, .int (nI ((n ^^^ 85) / 16 % 8))), (4, .int (nI ((n ^^^ 85) % 16))), (5, .int (mdDbl ((n ^^^ 85) / 16 % 8 - 1) ((((16 : Int32) * (nI ((n ^^^ 85) % 16))) + (264 : Int32)))))]) hx hb dX1_meaning_158 hl (by decide) rfl (fun ls hl => ?_)
      refine lv_iload hx hb dX1_meaning_160 (lv_at hl 0 rfl) ?_
      refine lv_if_eq (tgt := 171) hx hb dX1_meaning_162 (by decide) (fun _ => ?_) (fun c9 => absurd (by decide) c9)
      refine lv_iload hx hb dX1_meaning_171 (lv_at hl 6 rfl) ?_
      exact W.iret (v := mdDbl ((n ^^^ 85) / 16 % 8 - 1) ((((16 : Int32) * (nI ((n ^^^ 85) % 16))) + (264 : Int32)))) hx hb hr (fun t ht _ => ⟨mdDbl ((n ^^^ 85) / 16 % 8 - 1) ((((16 : Int32) * (nI ((n ^^^ 85) % 16))) + (264 : Int32))), rfl, by unfold fnX1_meaning_0; rw [if_neg c_6, if_pos c_14], ht⟩) (fun q h => absurd h List.not_mem_nil) dX1_meaning_173
    · refine lv_iconst (v := 1) hx hb dX1_meaning_139 (by decide) ?_
      refine lv_goto (tgt := 158) hx hb dX1_meaning_140 (by decide) ?_
      refine lv_istore (lv' := [(6, .int (1)), (0, .int (0)), (1, .int (nI n)), (2, .int (nI (n ^^^ 85))), (3, .int (nI ((n ^^^ 85) / 16 % 8))), (4, .int (nI ((n ^^^ 85) % 16))), (5, .int (mdDbl ((n ^^^ 85) / 16 % 8 - 1) ((((16 : Int32) * (nI ((n ^^^ 85) % 16))) + (264 : Int32)))))]) hx hb dX1_meaning_158 hl (by decide) rfl (fun ls hl => ?_)
      refine lv_iload hx hb dX1_meaning_160 (lv_at hl 0 rfl) ?_
      refine lv_if_eq (tgt := 171) hx hb dX1_meaning_162 (by decide) (fun c9 => absurd c9 (by decide)) (fun _ => ?_)
      refine lv_iload hx hb dX1_meaning_165 (lv_at hl 6 rfl) ?_
      refine lv_ineg hx hb dX1_meaning_167 ?_
      refine lv_goto (tgt := 173) hx hb dX1_meaning_168 (by decide) ?_
      exact W.iret (v := (-(mdDbl ((n ^^^ 85) / 16 % 8 - 1) ((((16 : Int32) * (nI ((n ^^^ 85) % 16))) + (264 : Int32)))))) hx hb hr (fun t ht _ => ⟨(-(mdDbl ((n ^^^ 85) / 16 % 8 - 1) ((((16 : Int32) * (nI ((n ^^^ 85) % 16))) + (264 : Int32))))), rfl, by unfold fnX1_meaning_0; rw [if_neg c_6, if_neg c_14], ht⟩) (fun q h => absurd h List.not_mem_nil) dX1_meaning_173

def fnX1_meaning_1 (n : Nat) : Int32 := if nI ((255 - n) / 16 % 8) ≤ 1 then (if nI (255 - n) ≤ 127 then (((mdDbl ((255 - n) / 16 % 8 - 0) ((((8 : Int32) * (nI ((255 - n) % 16))) + (132 : Int32)))) + (-132 : Int32))) else ((-((mdDbl ((255 - n) / 16 % 8 - 0) ((((8 : Int32) * (nI ((255 - n) % 16))) + (132 : Int32)))) + (-132 : Int32))))) else (if nI (255 - n) ≤ 127 then (((mdDbl ((255 - n) / 16 % 8 - 0) ((((8 : Int32) * (nI ((255 - n) % 16))) + (132 : Int32)))) + (-132 : Int32))) else ((-((mdDbl ((255 - n) / 16 % 8 - 0) ((((8 : Int32) * (nI ((255 - n) % 16))) + (132 : Int32)))) + (-132 : Int32)))))
set_option maxHeartbeats 4000000 in
set_option maxRecDepth 100000 in
theorem metX1_meaning_1 (l : Launch) (n : Nat) (hn : n < 256) : Met l yX1_meaning wsX1_meaning ({ frames := 0, cells := 0, slots := 0, locals := 0 }) (va_Pc [.int (1), .int (nI n)] (fun _ => True)) (vp_Si (fun r => r = fnX1_meaning_1 n)) 0 0 (fun _ => False) := by
  refine Met.ofW (cc := cX1_meaning) (maxL := 7) (ret := (some .int)) (by decide) rfl ?_
  intro p e s m args below meth c s₁ B hml hv
  obtain ⟨rfl, -⟩ := hv
  have hx := B.exec
  have hb := B.bytes
  have hr := B.returns
  have hts := atoms_spec (ws := wsX1_meaning) B.pre
  have hown : s.vm.findClass RX1 = some m.cls := findClass_of_methodNamed B.named
  have hlocks := B.notSynchronized
  have hl := lv_entry ([.int (1), .int (nI n)]) (n := 7) (Nat.le_of_ble_eq_true rfl)
  rw [lg_entry_eq]
  generalize (lg_sl ([.int (1), .int (nI n)]) ++ List.replicate (7 - (lg_sl ([.int (1), .int (nI n)])).length) Slot.unset).toArray = ls at hl ⊢
  have hl : lv_has ls 7 [(0, .int (1)), (1, .int (nI n))] := hl
  refine lv_iload_n hx hb dX1_meaning_0 rfl (lv_at hl 0 rfl) ?_
  refine lv_if_ne (tgt := 11) hx hb dX1_meaning_1 (by decide) (fun _ => ?_) (fun c9 => absurd c9 (by decide))
  refine lv_sipush (v := 255) hx hb dX1_meaning_11 (by decide) ?_
  refine lv_iload_n hx hb dX1_meaning_14 rfl (lv_at hl 1 rfl) ?_
  refine lv_isub hx hb dX1_meaning_15 ?_
  refine lv_topi (fun x_2 ex_2 => ?_)
  obtain rfl : x_2 = nI (255 - n) := ex_2.trans (pk_sub (a := 255) (by omega))
  have hq : (255 - n) < 256 := by omega
  refine lv_istore_n (lv' := [(2, .int (nI (255 - n))), (0, .int (1)), (1, .int (nI n))]) hx hb dX1_meaning_16 rfl hl (by decide) rfl (fun ls hl => ?_)
  refine lv_iload_n hx hb dX1_meaning_17 rfl (lv_at hl 0 rfl) ?_
  refine lv_bipush (v := 16) hx hb dX1_meaning_18 (by decide) ?_
  refine lv_idiv hx hb dX1_meaning_20 (by decide) ?_
  refine lv_bipush (v := 8) hx hb dX1_meaning_21 (by decide) ?_
  refine lv_irem hx hb dX1_meaning_23 (by decide) ?_
  refine lv_topi (fun x_3 ex_3 => ?_)
  obtain rfl : x_3 = nI ((255 - n) / 16 % 8) := ex_3.trans (by have e1 : nI (255 - n) / 16 = nI ((255 - n) / 16) := pk_div (d := 16) (by omega) (by decide) (by decide); rw [e1]; exact pk_rem (d := 8) (by omega) (by decide) (by decide))
  refine lv_istore_n (lv' := [(3, .int (nI ((255 - n) / 16 % 8))), (2, .int (nI (255 - n))), (0, .int (1)), (1, .int (nI n))]) hx hb dX1_meaning_24 rfl hl (by decide) rfl (fun ls hl => ?_)
  refine lv_iload_n hx hb dX1_meaning_25 rfl (lv_at hl 1 rfl) ?_
  refine lv_bipush (v := 16) hx hb dX1_meaning_26 (by decide) ?_
  refine lv_irem hx hb dX1_meaning_28 (by decide) ?_
  refine lv_topi (fun x_4 ex_4 => ?_)
  obtain rfl : x_4 = nI ((255 - n) % 16) := ex_4.trans (pk_rem (d := 16) (by omega) (by decide) (by decide))
  refine lv_istore (lv' := [(4, .int (nI ((255 - n) % 16))), (3, .int (nI ((255 - n) / 16 % 8))), (2, .int (nI (255 - n))), (0, .int (1)), (1, .int (nI n))]) hx hb dX1_meaning_29 hl (by decide) rfl (fun ls hl => ?_)
  refine lv_bipush (v := 16) hx hb dX1_meaning_31 (by decide) ?_
  refine lv_iload hx hb dX1_meaning_33 (lv_at hl 0 rfl) ?_
  refine lv_imul hx hb dX1_meaning_35 ?_
  refine lv_bipush (v := 8) hx hb dX1_meaning_36 (by decide) ?_
  refine lv_iadd hx hb dX1_meaning_38 ?_
  refine lv_istore (lv' := [(5, .int ((((16 : Int32) * (nI ((255 - n) % 16))) + (8 : Int32)))), (4, .int (nI ((255 - n) % 16))), (3, .int (nI ((255 - n) / 16 % 8))), (2, .int (nI (255 - n))), (0, .int (1)), (1, .int (nI n))]) hx hb dX1_meaning_39 hl (by decide) rfl (fun ls hl => ?_)
  refine lv_iload_n hx hb dX1_meaning_41 rfl (lv_at hl 4 rfl) ?_
  refine lv_if_ne (tgt := 60) hx hb dX1_meaning_42 (by decide) (fun _ => ?_) (fun c9 => absurd c9 (by decide))
  refine lv_iconst (v := 1) hx hb dX1_meaning_60 (by decide) ?_
  refine lv_istore (lv' := [(6, .int (1)), (5, .int ((((16 : Int32) * (nI ((255 - n) % 16))) + (8 : Int32)))), (4, .int (nI ((255 - n) % 16))), (3, .int (nI ((255 - n) / 16 % 8))), (2, .int (nI (255 - n))), (0, .int (1)), (1, .int (nI n))]) hx hb dX1_meaning_61 hl (by decide) rfl (fun ls hl => ?_)
  refine lv_iload hx hb dX1_meaning_63 (lv_at hl 0 rfl) ?_
  refine lv_iload_n hx hb dX1_meaning_65 rfl (lv_at hl 3 rfl) ?_
  refine lv_icmp_ge (tgt := 85) hx hb dX1_meaning_66 (by decide) (fun c_6 => ?_) (fun c_6 => ?_)
  · refine lv_iload_n hx hb dX1_meaning_85 rfl (lv_at hl 5 rfl) ?_
    refine lv_iconst (v := 1) hx hb dX1_meaning_86 (by decide) ?_
    refine lv_icmp_ne (tgt := 128) hx hb dX1_meaning_87 (by decide) (fun c9 => absurd (by decide) c9) (fun _ => ?_)
    refine lv_bipush (v := 8) hx hb dX1_meaning_90 (by decide) ?_
    refine lv_iload hx hb dX1_meaning_92 (lv_at hl 2 rfl) ?_
    refine lv_imul hx hb dX1_meaning_94 ?_
    refine lv_sipush (v := 132) hx hb dX1_meaning_95 (by decide) ?_
    refine lv_iadd hx hb dX1_meaning_98 ?_
    refine lv_istore (lv' := [(5, .int ((((8 : Int32) * (nI ((255 - n) % 16))) + (132 : Int32)))), (6, .int (1)), (4, .int (nI ((255 - n) % 16))), (3, .int (nI ((255 - n) / 16 % 8))), (2, .int (nI (255 - n))), (0, .int (1)), (1, .int (nI n))]) hx hb dX1_meaning_99 hl (by decide) rfl (fun ls hl => ?_)
    refine lv_iconst (v := 0) hx hb dX1_meaning_101 (by decide) ?_
    refine lv_istore (lv' := [(6, .int (0)), (5, .int ((((8 : Int32) * (nI ((255 - n) % 16))) + (132 : Int32)))), (4, .int (nI ((255 - n) % 16))), (3, .int (nI ((255 - n) / 16 % 8))), (2, .int (nI (255 - n))), (0, .int (1)), (1, .int (nI n))]) hx hb dX1_meaning_102 hl (by decide) rfl (fun ls hl => ?_)
    refine lpX1_meaning_104 hx hb ((255 - n) / 16 % 8) (by omega) _ _ _ (mdDbl ((255 - n) / 16 % 8 - 0) ((((8 : Int32) * (nI ((255 - n) % 16))) + (132 : Int32)))) (fun i ls hl => ?_) ((255 - n) / 16 % 8 + 2) 0 ((((8 : Int32) * (nI ((255 - n) % 16))) + (132 : Int32))) ls (by omega) (by omega) rfl (lv_sub hl [5, 6, 4, 3, 2, 1, 0] rfl)
    refine lv_iincW (v := ((mdDbl ((255 - n) / 16 % 8 - 0) ((((8 : Int32) * (nI ((255 - n) % 16))) + (132 : Int32)))) + (-132 : Int32))) (lv' := [(5, .int (((mdDbl ((255 - n) / 16 % 8 - 0) ((((8 : Int32) * (nI ((255 - n) % 16))) + (132 : Int32)))) + (-132 : Int32)))), (0, .int (1)), (1, .int (nI n)), (2, .int (nI (255 - n))), (3, .int (nI ((255 - n) / 16 % 8))), (4, .int (nI ((255 - n) % 16))), (6, .int (nI i))]) hx hb dX1_meaning_122 hl (k := 5) rfl rfl (by decide) rfl (fun ls hl => ?_)
    refine lv_iload_n hx hb dX1_meaning_128 rfl (lv_at hl 1 rfl) ?_
    refine lv_if_ne (tgt := 147) hx hb dX1_meaning_129 (by decide) (fun _ => ?_) (fun c9 => absurd c9 (by decide))
    refine lv_iload_n hx hb dX1_meaning_147 rfl (lv_at hl 3 rfl) ?_
    refine lv_bipush (v := 127) hx hb dX1_meaning_148 (by decide) ?_
    refine lv_icmp_le (tgt := 157) hx hb dX1_meaning_150 (by decide) (fun c_9 => ?_) (fun c_9 => ?_)
    · refine lv_iconst (v := 0) hx hb dX1_meaning_157 (by decide) ?_
      refine lv_istore (lv' := [(6, .int (0)), (5, .int (((mdDbl ((255 - n) / 16 % 8 - 0) ((((8 : Int32) * (nI ((255 - n) % 16))) + (132 : Int32)))) + (-132 : Int32)))), (0, .int (1)), (1, .int (nI n)), (2, .int (nI (255 - n))), (3, .int (nI ((255 - n) / 16 % 8))), (4, .int (nI ((255 - n) % 16)))]) hx hb dX1_meaning_158 hl (by decide) rfl (fun ls hl => ?_)
      refine lv_iload hx hb dX1_meaning_160 (lv_at hl 0 rfl) ?_
      refine lv_if_eq (tgt := 171) hx hb dX1_meaning_162 (by decide) (fun _ => ?_) (fun c9 => absurd (by decide) c9)
      refine lv_iload hx hb dX1_meaning_171 (lv_at hl 1 rfl) ?_
      exact W.iret (v := ((mdDbl ((255 - n) / 16 % 8 - 0) ((((8 : Int32) * (nI ((255 - n) % 16))) + (132 : Int32)))) + (-132 : Int32))) hx hb hr (fun t ht _ => ⟨((mdDbl ((255 - n) / 16 % 8 - 0) ((((8 : Int32) * (nI ((255 - n) % 16))) + (132 : Int32)))) + (-132 : Int32)), rfl, by unfold fnX1_meaning_1; rw [if_pos c_6, if_pos c_9], ht⟩) (fun q h => absurd h List.not_mem_nil) dX1_meaning_173
    · refine lv_iconst (v := 1) hx hb dX1_meaning_153 (by decide) ?_
      refine lv_goto (tgt := 158) hx hb dX1_meaning_154 (by decide) ?_
      refine lv_istore (lv' := [(6, .int (1)), (5, .int (((mdDbl ((255 - n) / 16 % 8 - 0) ((((8 : Int32) * (nI ((255 - n) % 16))) + (132 : Int32)))) + (-132 : Int32)))), (0, .int (1)), (1, .int (nI n)), (2, .int (nI (255 - n))), (3, .int (nI ((255 - n) / 16 % 8))), (4, .int (nI ((255 - n) % 16)))]) hx hb dX1_meaning_158 hl (by decide) rfl (fun ls hl => ?_)
      refine lv_iload hx hb dX1_meaning_160 (lv_at hl 0 rfl) ?_
      refine lv_if_eq (tgt := 171) hx hb dX1_meaning_162 (by decide) (fun c9 => absurd c9 (by decide)) (fun _ => ?_)
      refine lv_iload hx hb dX1_meaning_165 (lv_at hl 1 rfl) ?_
      refine lv_ineg hx hb dX1_meaning_167 ?_
      refine lv_goto (tgt := 173) hx hb dX1_meaning_168 (by decide) ?_
      exact W.iret (v := (-((mdDbl ((255 - n) / 16 % 8 - 0) ((((8 : Int32) * (nI ((255 - n) % 16))) + (132 : Int32)))) + (-132 : Int32)))) hx hb hr (fun t ht _ => ⟨(-((mdDbl ((255 - n) / 16 % 8 - 0) ((((8 : Int32) * (nI ((255 - n) % 16))) + (132 : Int32)))) + (-132 : Int32))), rfl, by unfold fnX1_meaning_1; rw [if_pos c_6, if_neg c_9], ht⟩) (fun q h => absurd h List.not_mem_nil) dX1_meaning_173
  · refine lv_iload_n hx hb dX1_meaning_69 rfl (lv_at hl 5 rfl) ?_
    refine lv_if_ne (tgt := 85) hx hb dX1_meaning_70 (by decide) (fun _ => ?_) (fun c9 => absurd c9 (by decide))
    refine lv_iload_n hx hb dX1_meaning_85 rfl (lv_at hl 5 rfl) ?_
    refine lv_iconst (v := 1) hx hb dX1_meaning_86 (by decide) ?_
    refine lv_icmp_ne (tgt := 128) hx hb dX1_meaning_87 (by decide) (fun c9 => absurd (by decide) c9) (fun _ => ?_)
    refine lv_bipush (v := 8) hx hb dX1_meaning_90 (by decide) ?_
    refine lv_iload hx hb dX1_meaning_92 (lv_at hl 2 rfl) ?_
    refine lv_imul hx hb dX1_meaning_94 ?_
    refine lv_sipush (v := 132) hx hb dX1_meaning_95 (by decide) ?_
    refine lv_iadd hx hb dX1_meaning_98 ?_
    refine lv_istore (lv' := [(5, .int ((((8 : Int32) * (nI ((255 - n) % 16))) + (132 : Int32)))), (6, .int (1)), (4, .int (nI ((255 - n) % 16))), (3, .int (nI ((255 - n) / 16 % 8))), (2, .int (nI (255 - n))), (0, .int (1)), (1, .int (nI n))]) hx hb dX1_meaning_99 hl (by decide) rfl (fun ls hl => ?_)
    refine lv_iconst (v := 0) hx hb dX1_meaning_101 (by decide) ?_
    refine lv_istore (lv' := [(6, .int (0)), (5, .int ((((8 : Int32) * (nI ((255 - n) % 16))) + (132 : Int32)))), (4, .int (nI ((255 - n) % 16))), (3, .int (nI ((255 - n) / 16 % 8))), (2, .int (nI (255 - n))), (0, .int (1)), (1, .int (nI n))]) hx hb dX1_meaning_102 hl (by decide) rfl (fun ls hl => ?_)
    refine lpX1_meaning_104 hx hb ((255 - n) / 16 % 8) (by omega) _ _ _ (mdDbl ((255 - n) / 16 % 8 - 0) ((((8 : Int32) * (nI ((255 - n) % 16))) + (132 : Int32)))) (fun i ls hl => ?_) ((255 - n) / 16 % 8 + 2) 0 ((((8 : Int32) * (nI ((255 - n) % 16))) + (132 : Int32))) ls (by omega) (by omega) rfl (lv_sub hl [5, 6, 4, 3, 2, 1, 0] rfl)
    refine lv_iincW (v := ((mdDbl ((255 - n) / 16 % 8 - 0) ((((8 : Int32) * (nI ((255 - n) % 16))) + (132 : Int32)))) + (-132 : Int32))) (lv' := [(5, .int (((mdDbl ((255 - n) / 16 % 8 - 0) ((((8 : Int32) * (nI ((255 - n) % 16))) + (132 : Int32)))) + (-132 : Int32)))), (0, .int (1)), (1, .int (nI n)), (2, .int (nI (255 - n))), (3, .int (nI ((255 - n) / 16 % 8))), (4, .int (nI ((255 - n) % 16))), (6, .int (nI i))]) hx hb dX1_meaning_122 hl (k := 5) rfl rfl (by decide) rfl (fun ls hl => ?_)
    refine lv_iload_n hx hb dX1_meaning_128 rfl (lv_at hl 1 rfl) ?_
    refine lv_if_ne (tgt := 147) hx hb dX1_meaning_129 (by decide) (fun _ => ?_) (fun c9 => absurd c9 (by decide))
    refine lv_iload_n hx hb dX1_meaning_147 rfl (lv_at hl 3 rfl) ?_
    refine lv_bipush (v := 127) hx hb dX1_meaning_148 (by decide) ?_
    refine lv_icmp_le (tgt := 157) hx hb dX1_meaning_150 (by decide) (fun c_15 => ?_) (fun c_15 => ?_)
    · refine lv_iconst (v := 0) hx hb dX1_meaning_157 (by decide) ?_
      refine lv_istore (lv' := [(6, .int (0)), (5, .int (((mdDbl ((255 - n) / 16 % 8 - 0) ((((8 : Int32) * (nI ((255 - n) % 16))) + (132 : Int32)))) + (-132 : Int32)))), (0, .int (1)), (1, .int (nI n)), (2, .int (nI (255 - n))), (3, .int (nI ((255 - n) / 16 % 8))), (4, .int (nI ((255 - n) % 16)))]) hx hb dX1_meaning_158 hl (by decide) rfl (fun ls hl => ?_)
      refine lv_iload hx hb dX1_meaning_160 (lv_at hl 0 rfl) ?_
      refine lv_if_eq (tgt := 171) hx hb dX1_meaning_162 (by decide) (fun _ => ?_) (fun c9 => absurd (by decide) c9)
      refine lv_iload hx hb dX1_meaning_171 (lv_at hl 1 rfl) ?_
      exact W.iret (v := ((mdDbl ((255 - n) / 16 % 8 - 0) ((((8 : Int32) * (nI ((255 - n) % 16))) + (132 : Int32)))) + (-132 : Int32))) hx hb hr (fun t ht _ => ⟨((mdDbl ((255 - n) / 16 % 8 - 0) ((((8 : Int32) * (nI ((255 - n) % 16))) + (132 : Int32)))) + (-132 : Int32)), rfl, by unfold fnX1_meaning_1; rw [if_neg c_6, if_pos c_15], ht⟩) (fun q h => absurd h List.not_mem_nil) dX1_meaning_173
    · refine lv_iconst (v := 1) hx hb dX1_meaning_153 (by decide) ?_
      refine lv_goto (tgt := 158) hx hb dX1_meaning_154 (by decide) ?_
      refine lv_istore (lv' := [(6, .int (1)), (5, .int (((mdDbl ((255 - n) / 16 % 8 - 0) ((((8 : Int32) * (nI ((255 - n) % 16))) + (132 : Int32)))) + (-132 : Int32)))), (0, .int (1)), (1, .int (nI n)), (2, .int (nI (255 - n))), (3, .int (nI ((255 - n) / 16 % 8))), (4, .int (nI ((255 - n) % 16)))]) hx hb dX1_meaning_158 hl (by decide) rfl (fun ls hl => ?_)
      refine lv_iload hx hb dX1_meaning_160 (lv_at hl 0 rfl) ?_
      refine lv_if_eq (tgt := 171) hx hb dX1_meaning_162 (by decide) (fun c9 => absurd c9 (by decide)) (fun _ => ?_)
      refine lv_iload hx hb dX1_meaning_165 (lv_at hl 1 rfl) ?_
      refine lv_ineg hx hb dX1_meaning_167 ?_
      refine lv_goto (tgt := 173) hx hb dX1_meaning_168 (by decide) ?_
      exact W.iret (v := (-((mdDbl ((255 - n) / 16 % 8 - 0) ((((8 : Int32) * (nI ((255 - n) % 16))) + (132 : Int32)))) + (-132 : Int32)))) hx hb hr (fun t ht _ => ⟨(-((mdDbl ((255 - n) / 16 % 8 - 0) ((((8 : Int32) * (nI ((255 - n) % 16))) + (132 : Int32)))) + (-132 : Int32))), rfl, by unfold fnX1_meaning_1; rw [if_neg c_6, if_neg c_15], ht⟩) (fun q h => absurd h List.not_mem_nil) dX1_meaning_173

theorem md_pos {x : Int32} (h : 0 ≤ x) (h2 : x.toInt ≤ 32767) : x = nI x.toInt.toNat ∧ x.toInt.toNat ≤ 32767 := by
  have h0 : 0 ≤ x.toInt := by rw [Int32.le_iff_toInt_le] at h; exact h
  refine ⟨Int32.toInt_inj.mp ?_, by omega⟩
  rw [nI_toInt (by omega)]
  omega
theorem md_neg {x : Int32} (h : ¬ 0 ≤ x) (h2 : -32768 ≤ x.toInt) : (-1) - x = nI (-1 - x.toInt).toNat ∧ (-1 - x.toInt).toNat ≤ 32767 := by
  have h0 : ¬ 0 ≤ x.toInt := by rw [Int32.le_iff_toInt_le] at h; exact h
  refine ⟨Int32.toInt_inj.mp ?_, by omega⟩
  rw [nI_toInt (by omega), Int32.toInt_sub]
  show ((-1 : Int) - x.toInt).bmod (2 ^ 32) = _
  rw [Int.bmod_eq_of_le (by omega) (by omega)]
  omega
theorem md_neg0 {x : Int32} (h : ¬ 0 ≤ x) (h2 : -32768 ≤ x.toInt) : -x = nI (-x.toInt).toNat ∧ (-x.toInt).toNat ≤ 32768 := by
  have h0 : ¬ 0 ≤ x.toInt := by rw [Int32.le_iff_toInt_le] at h; exact h
  refine ⟨Int32.toInt_inj.mp ?_, by omega⟩
  rw [nI_toInt (by omega), Int32.toInt_neg]
  rw [Int.bmod_eq_of_le (by omega) (by omega)]
  omega
def fnX1_codeOf_0 (a1 : Int32) : Int32 := if 0 ≤ a1 then (if nI (mdHalf 32 6 (a1.toInt.toNat / 16) 0).1 < 16 then (((((128 : Int32) + ((16 : Int32) * (nI (mdHalf 32 6 (a1.toInt.toNat / 16) 0).2))) + ((nI (mdHalf 32 6 (a1.toInt.toNat / 16) 0).1) - (nI (mdHalf 32 6 (a1.toInt.toNat / 16) 0).1) / (16 : Int32) * (16 : Int32))) ^^^ (85 : Int32))) else (((((128 : Int32) + ((16 : Int32) * ((nI (mdHalf 32 6 (a1.toInt.toNat / 16) 0).2) + (1 : Int32)))) + ((nI (mdHalf 32 6 (a1.toInt.toNat / 16) 0).1) - (nI (mdHalf 32 6 (a1.toInt.toNat / 16) 0).1) / (16 : Int32) * (16 : Int32))) ^^^ (85 : Int32)))) else (if nI (mdHalf 32 6 ((-1 - a1.toInt).toNat / 16) 0).1 < 16 then (((((0 : Int32) + ((16 : Int32) * (nI (mdHalf 32 6 ((-1 - a1.toInt).toNat / 16) 0).2))) + ((nI (mdHalf 32 6 ((-1 - a1.toInt).toNat / 16) 0).1) - (nI (mdHalf 32 6 ((-1 - a1.toInt).toNat / 16) 0).1) / (16 : Int32) * (16 : Int32))) ^^^ (85 : Int32))) else (((((0 : Int32) + ((16 : Int32) * ((nI (mdHalf 32 6 ((-1 - a1.toInt).toNat / 16) 0).2) + (1 : Int32)))) + ((nI (mdHalf 32 6 ((-1 - a1.toInt).toNat / 16) 0).1) - (nI (mdHalf 32 6 ((-1 - a1.toInt).toNat / 16) 0).1) / (16 : Int32) * (16 : Int32))) ^^^ (85 : Int32))))
set_option maxHeartbeats 4000000 in
set_option maxRecDepth 100000 in
theorem metX1_codeOf_0 (l : Launch) (a1 : Int32) (hx1 : -32768 ≤ a1.toInt) (hx2 : a1.toInt ≤ 32767) : Met l yX1_codeOf wsX1_codeOf ({ frames := 0, cells := 0, slots := 0, locals := 0 }) (va_Pc [.int (0), .int (a1)] (fun _ => True)) (vp_Si (fun r => r = fnX1_codeOf_0 a1)) 0 0 (fun _ => False) := by
  refine Met.ofW (cc := cX1_codeOf) (maxL := 4) (ret := (some .int)) (by decide) rfl ?_
  intro p e s m args below meth c s₁ B hml hv
  obtain ⟨rfl, -⟩ := hv
  have hx := B.exec
  have hb := B.bytes
  have hr := B.returns
  have hts := atoms_spec (ws := wsX1_codeOf) B.pre
  have hown : s.vm.findClass RX1 = some m.cls := findClass_of_methodNamed B.named
  have hlocks := B.notSynchronized
  have hl := lv_entry ([.int (0), .int (a1)]) (n := 4) (Nat.le_of_ble_eq_true rfl)
  rw [lg_entry_eq]
  generalize (lg_sl ([.int (0), .int (a1)]) ++ List.replicate (4 - (lg_sl ([.int (0), .int (a1)])).length) Slot.unset).toArray = ls at hl ⊢
  have hl : lv_has ls 4 [(0, .int (0)), (1, .int (a1))] := hl
  refine lv_iload_n hx hb dX1_codeOf_0 rfl (lv_at hl 0 rfl) ?_
  refine lv_if_ne (tgt := 74) hx hb dX1_codeOf_1 (by decide) (fun c9 => absurd (by decide) c9) (fun _ => ?_)
  refine lv_iload_n hx hb dX1_codeOf_4 rfl (lv_at hl 1 rfl) ?_
  refine lv_if_ge (tgt := 17) hx hb dX1_codeOf_5 (by decide) (fun c_2 => ?_) (fun c_2 => ?_)
  · refine lv_iload_n hx hb dX1_codeOf_17 rfl (lv_at hl 1 rfl) ?_
    refine lv_bipush (v := 16) hx hb dX1_codeOf_18 (by decide) ?_
    refine lv_idiv hx hb dX1_codeOf_20 (by decide) ?_
    obtain ⟨ev, lv9⟩ := md_pos c_2 hx2
    refine lv_topi (fun x_3 ex_3 => ?_)
    obtain rfl : x_3 = nI (a1.toInt.toNat / 16) := ex_3.trans ((congrArg (fun z : Int32 => z / 16) ev).trans (pk_div (d := 16) (by omega) (by decide) (by decide)))
    refine lv_istore_n (lv' := [(2, .int (nI (a1.toInt.toNat / 16))), (0, .int (0)), (1, .int (a1))]) hx hb dX1_codeOf_21 rfl hl (by decide) rfl (fun ls hl => ?_)
    refine lv_iconst (v := 0) hx hb dX1_codeOf_22 (by decide) ?_
    refine lv_istore_n (lv' := [(3, .int (0)), (2, .int (nI (a1.toInt.toNat / 16))), (0, .int (0)), (1, .int (a1))]) hx hb dX1_codeOf_23 rfl hl (by decide) rfl (fun ls hl => ?_)
    refine lpX1_codeOf_24 hx hb _ (mdHalf 32 6 (a1.toInt.toNat / 16) 0) (fun ls hl => ?_) 7 (a1.toInt.toNat / 16) 0 ls (by decide) (by omega) (by omega) rfl (lv_sub hl [2, 3, 1, 0] rfl)
    refine lv_iload_n hx hb dX1_codeOf_40 rfl (lv_at hl 2 rfl) ?_
    refine lv_bipush (v := 16) hx hb dX1_codeOf_41 (by decide) ?_
    refine lv_icmp_lt (tgt := 49) hx hb dX1_codeOf_43 (by decide) (fun c_4 => ?_) (fun c_4 => ?_)
    · refine lv_iload_n hx hb dX1_codeOf_49 rfl (lv_at hl 1 rfl) ?_
      refine lv_if_ge (tgt := 57) hx hb dX1_codeOf_50 (by decide) (fun _ => ?_) (fun c9 => absurd c_2 c9)
      refine lv_sipush (v := 128) hx hb dX1_codeOf_57 (by decide) ?_
      refine lv_bipush (v := 16) hx hb dX1_codeOf_60 (by decide) ?_
      refine lv_iload_n hx hb dX1_codeOf_62 rfl (lv_at hl 3 rfl) ?_
      refine lv_imul hx hb dX1_codeOf_63 ?_
      refine lv_iadd hx hb dX1_codeOf_64 ?_
      refine lv_iload_n hx hb dX1_codeOf_65 rfl (lv_at hl 2 rfl) ?_
      refine lv_bipush (v := 16) hx hb dX1_codeOf_66 (by decide) ?_
      refine lv_irem hx hb dX1_codeOf_68 (by decide) ?_
      refine lv_iadd hx hb dX1_codeOf_69 ?_
      refine lv_bipush (v := 85) hx hb dX1_codeOf_70 (by decide) ?_
      refine lv_ixor hx hb dX1_codeOf_72 ?_
      exact W.iret (v := ((((128 : Int32) + ((16 : Int32) * (nI (mdHalf 32 6 (a1.toInt.toNat / 16) 0).2))) + ((nI (mdHalf 32 6 (a1.toInt.toNat / 16) 0).1) - (nI (mdHalf 32 6 (a1.toInt.toNat / 16) 0).1) / (16 : Int32) * (16 : Int32))) ^^^ (85 : Int32))) hx hb hr (fun t ht _ => ⟨((((128 : Int32) + ((16 : Int32) * (nI (mdHalf 32 6 (a1.toInt.toNat / 16) 0).2))) + ((nI (mdHalf 32 6 (a1.toInt.toNat / 16) 0).1) - (nI (mdHalf 32 6 (a1.toInt.toNat / 16) 0).1) / (16 : Int32) * (16 : Int32))) ^^^ (85 : Int32)), rfl, by unfold fnX1_codeOf_0; rw [if_pos c_2, if_pos c_4], ht⟩) (fun q h => absurd h List.not_mem_nil) dX1_codeOf_73
    · refine lv_iinc (v := ((nI (mdHalf 32 6 (a1.toInt.toNat / 16) 0).2) + (1 : Int32))) (lv' := [(3, .int (((nI (mdHalf 32 6 (a1.toInt.toNat / 16) 0).2) + (1 : Int32)))), (0, .int (0)), (1, .int (a1)), (2, .int (nI (mdHalf 32 6 (a1.toInt.toNat / 16) 0).1))]) hx hb dX1_codeOf_46 hl (k := 3) rfl rfl (by decide) rfl (fun ls hl => ?_)
      refine lv_iload_n hx hb dX1_codeOf_49 rfl (lv_at hl 2 rfl) ?_
      refine lv_if_ge (tgt := 57) hx hb dX1_codeOf_50 (by decide) (fun _ => ?_) (fun c9 => absurd c_2 c9)
      refine lv_sipush (v := 128) hx hb dX1_codeOf_57 (by decide) ?_
      refine lv_bipush (v := 16) hx hb dX1_codeOf_60 (by decide) ?_
      refine lv_iload_n hx hb dX1_codeOf_62 rfl (lv_at hl 0 rfl) ?_
      refine lv_imul hx hb dX1_codeOf_63 ?_
      refine lv_iadd hx hb dX1_codeOf_64 ?_
      refine lv_iload_n hx hb dX1_codeOf_65 rfl (lv_at hl 3 rfl) ?_
      refine lv_bipush (v := 16) hx hb dX1_codeOf_66 (by decide) ?_
      refine lv_irem hx hb dX1_codeOf_68 (by decide) ?_
      refine lv_iadd hx hb dX1_codeOf_69 ?_
      refine lv_bipush (v := 85) hx hb dX1_codeOf_70 (by decide) ?_
      refine lv_ixor hx hb dX1_codeOf_72 ?_
      exact W.iret (v := ((((128 : Int32) + ((16 : Int32) * ((nI (mdHalf 32 6 (a1.toInt.toNat / 16) 0).2) + (1 : Int32)))) + ((nI (mdHalf 32 6 (a1.toInt.toNat / 16) 0).1) - (nI (mdHalf 32 6 (a1.toInt.toNat / 16) 0).1) / (16 : Int32) * (16 : Int32))) ^^^ (85 : Int32))) hx hb hr (fun t ht _ => ⟨((((128 : Int32) + ((16 : Int32) * ((nI (mdHalf 32 6 (a1.toInt.toNat / 16) 0).2) + (1 : Int32)))) + ((nI (mdHalf 32 6 (a1.toInt.toNat / 16) 0).1) - (nI (mdHalf 32 6 (a1.toInt.toNat / 16) 0).1) / (16 : Int32) * (16 : Int32))) ^^^ (85 : Int32)), rfl, by unfold fnX1_codeOf_0; rw [if_pos c_2, if_neg c_4], ht⟩) (fun q h => absurd h List.not_mem_nil) dX1_codeOf_73
  · refine lv_iconst (v := (-1)) hx hb dX1_codeOf_8 (by decide) ?_
    refine lv_iload_n hx hb dX1_codeOf_9 rfl (lv_at hl 1 rfl) ?_
    refine lv_isub hx hb dX1_codeOf_10 ?_
    refine lv_bipush (v := 16) hx hb dX1_codeOf_11 (by decide) ?_
    refine lv_idiv hx hb dX1_codeOf_13 (by decide) ?_
    refine lv_goto (tgt := 21) hx hb dX1_codeOf_14 (by decide) ?_
    obtain ⟨ev, lv9⟩ := md_neg c_2 hx1
    refine lv_topi (fun x_7 ex_7 => ?_)
    obtain rfl : x_7 = nI ((-1 - a1.toInt).toNat / 16) := ex_7.trans ((congrArg (fun z : Int32 => z / 16) ev).trans (pk_div (d := 16) (by omega) (by decide) (by decide)))
    refine lv_istore_n (lv' := [(2, .int (nI ((-1 - a1.toInt).toNat / 16))), (0, .int (0)), (1, .int (a1))]) hx hb dX1_codeOf_21 rfl hl (by decide) rfl (fun ls hl => ?_)
    refine lv_iconst (v := 0) hx hb dX1_codeOf_22 (by decide) ?_
    refine lv_istore_n (lv' := [(3, .int (0)), (2, .int (nI ((-1 - a1.toInt).toNat / 16))), (0, .int (0)), (1, .int (a1))]) hx hb dX1_codeOf_23 rfl hl (by decide) rfl (fun ls hl => ?_)
    refine lpX1_codeOf_24 hx hb _ (mdHalf 32 6 ((-1 - a1.toInt).toNat / 16) 0) (fun ls hl => ?_) 7 ((-1 - a1.toInt).toNat / 16) 0 ls (by decide) (by omega) (by omega) rfl (lv_sub hl [2, 3, 1, 0] rfl)
    refine lv_iload_n hx hb dX1_codeOf_40 rfl (lv_at hl 2 rfl) ?_
    refine lv_bipush (v := 16) hx hb dX1_codeOf_41 (by decide) ?_
    refine lv_icmp_lt (tgt := 49) hx hb dX1_codeOf_43 (by decide) (fun c_8 => ?_) (fun c_8 => ?_)
    · refine lv_iload_n hx hb dX1_codeOf_49 rfl (lv_at hl 1 rfl) ?_
      refine lv_if_ge (tgt := 57) hx hb dX1_codeOf_50 (by decide) (fun c9 => absurd c9 c_2) (fun _ => ?_)
      refine lv_iconst (v := 0) hx hb dX1_codeOf_53 (by decide) ?_
      refine lv_goto (tgt := 60) hx hb dX1_codeOf_54 (by decide) ?_
      refine lv_bipush (v := 16) hx hb dX1_codeOf_60 (by decide) ?_
      refine lv_iload_n hx hb dX1_codeOf_62 rfl (lv_at hl 3 rfl) ?_
      refine lv_imul hx hb dX1_codeOf_63 ?_
      refine lv_iadd hx hb dX1_codeOf_64 ?_
      refine lv_iload_n hx hb dX1_codeOf_65 rfl (lv_at hl 2 rfl) ?_
      refine lv_bipush (v := 16) hx hb dX1_codeOf_66 (by decide) ?_
      refine lv_irem hx hb dX1_codeOf_68 (by decide) ?_
      refine lv_iadd hx hb dX1_codeOf_69 ?_
      refine lv_bipush (v := 85) hx hb dX1_codeOf_70 (by decide) ?_
      refine lv_ixor hx hb dX1_codeOf_72 ?_
      exact W.iret (v := ((((0 : Int32) + ((16 : Int32) * (nI (mdHalf 32 6 ((-1 - a1.toInt).toNat / 16) 0).2))) + ((nI (mdHalf 32 6 ((-1 - a1.toInt).toNat / 16) 0).1) - (nI (mdHalf 32 6 ((-1 - a1.toInt).toNat / 16) 0).1) / (16 : Int32) * (16 : Int32))) ^^^ (85 : Int32))) hx hb hr (fun t ht _ => ⟨((((0 : Int32) + ((16 : Int32) * (nI (mdHalf 32 6 ((-1 - a1.toInt).toNat / 16) 0).2))) + ((nI (mdHalf 32 6 ((-1 - a1.toInt).toNat / 16) 0).1) - (nI (mdHalf 32 6 ((-1 - a1.toInt).toNat / 16) 0).1) / (16 : Int32) * (16 : Int32))) ^^^ (85 : Int32)), rfl, by unfold fnX1_codeOf_0; rw [if_neg c_2, if_pos c_8], ht⟩) (fun q h => absurd h List.not_mem_nil) dX1_codeOf_73
    · refine lv_iinc (v := ((nI (mdHalf 32 6 ((-1 - a1.toInt).toNat / 16) 0).2) + (1 : Int32))) (lv' := [(3, .int (((nI (mdHalf 32 6 ((-1 - a1.toInt).toNat / 16) 0).2) + (1 : Int32)))), (0, .int (0)), (1, .int (a1)), (2, .int (nI (mdHalf 32 6 ((-1 - a1.toInt).toNat / 16) 0).1))]) hx hb dX1_codeOf_46 hl (k := 3) rfl rfl (by decide) rfl (fun ls hl => ?_)
      refine lv_iload_n hx hb dX1_codeOf_49 rfl (lv_at hl 2 rfl) ?_
      refine lv_if_ge (tgt := 57) hx hb dX1_codeOf_50 (by decide) (fun c9 => absurd c9 c_2) (fun _ => ?_)
      refine lv_iconst (v := 0) hx hb dX1_codeOf_53 (by decide) ?_
      refine lv_goto (tgt := 60) hx hb dX1_codeOf_54 (by decide) ?_
      refine lv_bipush (v := 16) hx hb dX1_codeOf_60 (by decide) ?_
      refine lv_iload_n hx hb dX1_codeOf_62 rfl (lv_at hl 0 rfl) ?_
      refine lv_imul hx hb dX1_codeOf_63 ?_
      refine lv_iadd hx hb dX1_codeOf_64 ?_
      refine lv_iload_n hx hb dX1_codeOf_65 rfl (lv_at hl 3 rfl) ?_
      refine lv_bipush (v := 16) hx hb dX1_codeOf_66 (by decide) ?_
      refine lv_irem hx hb dX1_codeOf_68 (by decide) ?_
      refine lv_iadd hx hb dX1_codeOf_69 ?_
      refine lv_bipush (v := 85) hx hb dX1_codeOf_70 (by decide) ?_
      refine lv_ixor hx hb dX1_codeOf_72 ?_
      exact W.iret (v := ((((0 : Int32) + ((16 : Int32) * ((nI (mdHalf 32 6 ((-1 - a1.toInt).toNat / 16) 0).2) + (1 : Int32)))) + ((nI (mdHalf 32 6 ((-1 - a1.toInt).toNat / 16) 0).1) - (nI (mdHalf 32 6 ((-1 - a1.toInt).toNat / 16) 0).1) / (16 : Int32) * (16 : Int32))) ^^^ (85 : Int32))) hx hb hr (fun t ht _ => ⟨((((0 : Int32) + ((16 : Int32) * ((nI (mdHalf 32 6 ((-1 - a1.toInt).toNat / 16) 0).2) + (1 : Int32)))) + ((nI (mdHalf 32 6 ((-1 - a1.toInt).toNat / 16) 0).1) - (nI (mdHalf 32 6 ((-1 - a1.toInt).toNat / 16) 0).1) / (16 : Int32) * (16 : Int32))) ^^^ (85 : Int32)), rfl, by unfold fnX1_codeOf_0; rw [if_neg c_2, if_neg c_8], ht⟩) (fun q h => absurd h List.not_mem_nil) dX1_codeOf_73

def fnX1_codeOf_1 (a1 : Int32) : Int32 := if 0 ≤ a1 then (if nI (a1.toInt.toNat) ≤ 32635 then (((255 : Int32) - (((0 : Int32) + ((16 : Int32) * (nI (mdHalf 256 8 (a1.toInt.toNat + 132) 0).2))) + (((nI (mdHalf 256 8 (a1.toInt.toNat + 132) 0).1) / (8 : Int32)) - ((nI (mdHalf 256 8 (a1.toInt.toNat + 132) 0).1) / (8 : Int32)) / (16 : Int32) * (16 : Int32))))) else (((255 : Int32) - (((0 : Int32) + ((16 : Int32) * (nI (mdHalf 256 8 32767 0).2))) + (((nI (mdHalf 256 8 32767 0).1) / (8 : Int32)) - ((nI (mdHalf 256 8 32767 0).1) / (8 : Int32)) / (16 : Int32) * (16 : Int32)))))) else (if nI ((-a1.toInt).toNat) ≤ 32635 then (((255 : Int32) - (((128 : Int32) + ((16 : Int32) * (nI (mdHalf 256 8 ((-a1.toInt).toNat + 132) 0).2))) + (((nI (mdHalf 256 8 ((-a1.toInt).toNat + 132) 0).1) / (8 : Int32)) - ((nI (mdHalf 256 8 ((-a1.toInt).toNat + 132) 0).1) / (8 : Int32)) / (16 : Int32) * (16 : Int32))))) else (((255 : Int32) - (((128 : Int32) + ((16 : Int32) * (nI (mdHalf 256 8 32767 0).2))) + (((nI (mdHalf 256 8 32767 0).1) / (8 : Int32)) - ((nI (mdHalf 256 8 32767 0).1) / (8 : Int32)) / (16 : Int32) * (16 : Int32))))))
set_option maxHeartbeats 4000000 in
set_option maxRecDepth 100000 in
theorem metX1_codeOf_1 (l : Launch) (a1 : Int32) (hx1 : -32768 ≤ a1.toInt) (hx2 : a1.toInt ≤ 32767) : Met l yX1_codeOf wsX1_codeOf ({ frames := 0, cells := 0, slots := 0, locals := 0 }) (va_Pc [.int (1), .int (a1)] (fun _ => True)) (vp_Si (fun r => r = fnX1_codeOf_1 a1)) 0 0 (fun _ => False) := by
  refine Met.ofW (cc := cX1_codeOf) (maxL := 4) (ret := (some .int)) (by decide) rfl ?_
  intro p e s m args below meth c s₁ B hml hv
  obtain ⟨rfl, -⟩ := hv
  have hx := B.exec
  have hb := B.bytes
  have hr := B.returns
  have hts := atoms_spec (ws := wsX1_codeOf) B.pre
  have hown : s.vm.findClass RX1 = some m.cls := findClass_of_methodNamed B.named
  have hlocks := B.notSynchronized
  have hl := lv_entry ([.int (1), .int (a1)]) (n := 4) (Nat.le_of_ble_eq_true rfl)
  rw [lg_entry_eq]
  generalize (lg_sl ([.int (1), .int (a1)]) ++ List.replicate (4 - (lg_sl ([.int (1), .int (a1)])).length) Slot.unset).toArray = ls at hl ⊢
  have hl : lv_has ls 4 [(0, .int (1)), (1, .int (a1))] := hl
  refine lv_iload_n hx hb dX1_codeOf_0 rfl (lv_at hl 0 rfl) ?_
  refine lv_if_ne (tgt := 74) hx hb dX1_codeOf_1 (by decide) (fun _ => ?_) (fun c9 => absurd c9 (by decide))
  refine lv_iload_n hx hb dX1_codeOf_74 rfl (lv_at hl 1 rfl) ?_
  refine lv_if_ge (tgt := 83) hx hb dX1_codeOf_75 (by decide) (fun c_2 => ?_) (fun c_2 => ?_)
  · refine lv_iload_n hx hb dX1_codeOf_83 rfl (lv_at hl 1 rfl) ?_
    obtain ⟨ev, lv9⟩ := md_pos c_2 hx2
    refine lv_topi (fun x_3 ex_3 => ?_)
    obtain rfl : x_3 = nI (a1.toInt.toNat) := ex_3.trans (ev)
    refine lv_istore_n (lv' := [(2, .int (nI (a1.toInt.toNat))), (0, .int (1)), (1, .int (a1))]) hx hb dX1_codeOf_84 rfl hl (by decide) rfl (fun ls hl => ?_)
    refine lv_iload_n hx hb dX1_codeOf_85 rfl (lv_at hl 0 rfl) ?_
    refine lv_sipush (v := 32635) hx hb dX1_codeOf_86 (by decide) ?_
    refine lv_icmp_le (tgt := 96) hx hb dX1_codeOf_89 (by decide) (fun c_4 => ?_) (fun c_4 => ?_)
    · refine lv_iincW (v := ((nI (a1.toInt.toNat)) + (132 : Int32))) (lv' := [(2, .int (((nI (a1.toInt.toNat)) + (132 : Int32)))), (0, .int (1)), (1, .int (a1))]) hx hb dX1_codeOf_96 hl (k := 0) rfl rfl (by decide) rfl (fun ls hl => ?_)
      refine lv_iconst (v := 0) hx hb dX1_codeOf_102 (by decide) ?_
      refine lv_istore_n (lv' := [(3, .int (0)), (2, .int (((nI (a1.toInt.toNat)) + (132 : Int32)))), (0, .int (1)), (1, .int (a1))]) hx hb dX1_codeOf_103 rfl hl (by decide) rfl (fun ls hl => ?_)
      have hv5 : a1.toInt.toNat ≤ 32635 := (nI_leI (by omega) (by decide)).mp c_4
      refine lpX1_codeOf_104 hx hb _ (mdHalf 256 8 (a1.toInt.toNat + 132) 0) (fun ls hl => ?_) 9 (a1.toInt.toNat + 132) 0 ls (by decide) (by omega) (by omega) rfl (by have e9 : ((nI (a1.toInt.toNat)) + (132 : Int32)) = nI ((a1.toInt.toNat + 132)) := nI_add a1.toInt.toNat 132; rw [← e9]; exact lv_sub hl [2, 3, 1, 0] rfl)
      refine lv_sipush (v := 255) hx hb dX1_codeOf_121 (by decide) ?_
      refine lv_iload_n hx hb dX1_codeOf_124 rfl (lv_at hl 1 rfl) ?_
      refine lv_if_ge (tgt := 134) hx hb dX1_codeOf_125 (by decide) (fun _ => ?_) (fun c9 => absurd c_2 c9)
      refine lv_iconst (v := 0) hx hb dX1_codeOf_134 (by decide) ?_
      refine lv_bipush (v := 16) hx hb dX1_codeOf_135 (by decide) ?_
      refine lv_iload_n hx hb dX1_codeOf_137 rfl (lv_at hl 3 rfl) ?_
      refine lv_imul hx hb dX1_codeOf_138 ?_
      refine lv_iadd hx hb dX1_codeOf_139 ?_
      refine lv_iload_n hx hb dX1_codeOf_140 rfl (lv_at hl 2 rfl) ?_
      refine lv_bipush (v := 8) hx hb dX1_codeOf_141 (by decide) ?_
      refine lv_idiv hx hb dX1_codeOf_143 (by decide) ?_
      refine lv_bipush (v := 16) hx hb dX1_codeOf_144 (by decide) ?_
      refine lv_irem hx hb dX1_codeOf_146 (by decide) ?_
      refine lv_iadd hx hb dX1_codeOf_147 ?_
      refine lv_isub hx hb dX1_codeOf_148 ?_
      exact W.iret (v := ((255 : Int32) - (((0 : Int32) + ((16 : Int32) * (nI (mdHalf 256 8 (a1.toInt.toNat + 132) 0).2))) + (((nI (mdHalf 256 8 (a1.toInt.toNat + 132) 0).1) / (8 : Int32)) - ((nI (mdHalf 256 8 (a1.toInt.toNat + 132) 0).1) / (8 : Int32)) / (16 : Int32) * (16 : Int32))))) hx hb hr (fun t ht _ => ⟨((255 : Int32) - (((0 : Int32) + ((16 : Int32) * (nI (mdHalf 256 8 (a1.toInt.toNat + 132) 0).2))) + (((nI (mdHalf 256 8 (a1.toInt.toNat + 132) 0).1) / (8 : Int32)) - ((nI (mdHalf 256 8 (a1.toInt.toNat + 132) 0).1) / (8 : Int32)) / (16 : Int32) * (16 : Int32)))), rfl, by unfold fnX1_codeOf_1; rw [if_pos c_2, if_pos c_4], ht⟩) (fun q h => absurd h List.not_mem_nil) dX1_codeOf_149
    · refine lv_sipush (v := 32635) hx hb dX1_codeOf_92 (by decide) ?_
      refine lv_istore_n (lv' := [(2, .int (32635)), (0, .int (1)), (1, .int (a1))]) hx hb dX1_codeOf_95 rfl hl (by decide) rfl (fun ls hl => ?_)
      refine lv_iincW (v := ((32635 : Int32) + (132 : Int32))) (lv' := [(2, .int (((32635 : Int32) + (132 : Int32)))), (0, .int (1)), (1, .int (a1))]) hx hb dX1_codeOf_96 hl (k := 0) rfl rfl (by decide) rfl (fun ls hl => ?_)
      refine lv_iconst (v := 0) hx hb dX1_codeOf_102 (by decide) ?_
      refine lv_istore_n (lv' := [(3, .int (0)), (2, .int (((32635 : Int32) + (132 : Int32)))), (0, .int (1)), (1, .int (a1))]) hx hb dX1_codeOf_103 rfl hl (by decide) rfl (fun ls hl => ?_)
      refine lpX1_codeOf_104 hx hb _ (mdHalf 256 8 32767 0) (fun ls hl => ?_) 9 32767 0 ls (by decide) (by omega) (by omega) rfl (by have e9 : ((32635 : Int32) + (132 : Int32)) = nI (32767) := rfl; rw [← e9]; exact lv_sub hl [2, 3, 1, 0] rfl)
      refine lv_sipush (v := 255) hx hb dX1_codeOf_121 (by decide) ?_
      refine lv_iload_n hx hb dX1_codeOf_124 rfl (lv_at hl 1 rfl) ?_
      refine lv_if_ge (tgt := 134) hx hb dX1_codeOf_125 (by decide) (fun _ => ?_) (fun c9 => absurd c_2 c9)
      refine lv_iconst (v := 0) hx hb dX1_codeOf_134 (by decide) ?_
      refine lv_bipush (v := 16) hx hb dX1_codeOf_135 (by decide) ?_
      refine lv_iload_n hx hb dX1_codeOf_137 rfl (lv_at hl 3 rfl) ?_
      refine lv_imul hx hb dX1_codeOf_138 ?_
      refine lv_iadd hx hb dX1_codeOf_139 ?_
      refine lv_iload_n hx hb dX1_codeOf_140 rfl (lv_at hl 2 rfl) ?_
      refine lv_bipush (v := 8) hx hb dX1_codeOf_141 (by decide) ?_
      refine lv_idiv hx hb dX1_codeOf_143 (by decide) ?_
      refine lv_bipush (v := 16) hx hb dX1_codeOf_144 (by decide) ?_
      refine lv_irem hx hb dX1_codeOf_146 (by decide) ?_
      refine lv_iadd hx hb dX1_codeOf_147 ?_
      refine lv_isub hx hb dX1_codeOf_148 ?_
      exact W.iret (v := ((255 : Int32) - (((0 : Int32) + ((16 : Int32) * (nI (mdHalf 256 8 32767 0).2))) + (((nI (mdHalf 256 8 32767 0).1) / (8 : Int32)) - ((nI (mdHalf 256 8 32767 0).1) / (8 : Int32)) / (16 : Int32) * (16 : Int32))))) hx hb hr (fun t ht _ => ⟨((255 : Int32) - (((0 : Int32) + ((16 : Int32) * (nI (mdHalf 256 8 32767 0).2))) + (((nI (mdHalf 256 8 32767 0).1) / (8 : Int32)) - ((nI (mdHalf 256 8 32767 0).1) / (8 : Int32)) / (16 : Int32) * (16 : Int32)))), rfl, by unfold fnX1_codeOf_1; rw [if_pos c_2, if_neg c_4], ht⟩) (fun q h => absurd h List.not_mem_nil) dX1_codeOf_149
  · refine lv_iload_n hx hb dX1_codeOf_78 rfl (lv_at hl 1 rfl) ?_
    refine lv_ineg hx hb dX1_codeOf_79 ?_
    refine lv_goto (tgt := 84) hx hb dX1_codeOf_80 (by decide) ?_
    obtain ⟨ev, lv9⟩ := md_neg0 c_2 hx1
    refine lv_topi (fun x_7 ex_7 => ?_)
    obtain rfl : x_7 = nI ((-a1.toInt).toNat) := ex_7.trans (ev)
    refine lv_istore_n (lv' := [(2, .int (nI ((-a1.toInt).toNat))), (0, .int (1)), (1, .int (a1))]) hx hb dX1_codeOf_84 rfl hl (by decide) rfl (fun ls hl => ?_)
    refine lv_iload_n hx hb dX1_codeOf_85 rfl (lv_at hl 0 rfl) ?_
    refine lv_sipush (v := 32635) hx hb dX1_codeOf_86 (by decide) ?_
    refine lv_icmp_le (tgt := 96) hx hb dX1_codeOf_89 (by decide) (fun c_8 => ?_) (fun c_8 => ?_)
    · refine lv_iincW (v := ((nI ((-a1.toInt).toNat)) + (132 : Int32))) (lv' := [(2, .int (((nI ((-a1.toInt).toNat)) + (132 : Int32)))), (0, .int (1)), (1, .int (a1))]) hx hb dX1_codeOf_96 hl (k := 0) rfl rfl (by decide) rfl (fun ls hl => ?_)
      refine lv_iconst (v := 0) hx hb dX1_codeOf_102 (by decide) ?_
      refine lv_istore_n (lv' := [(3, .int (0)), (2, .int (((nI ((-a1.toInt).toNat)) + (132 : Int32)))), (0, .int (1)), (1, .int (a1))]) hx hb dX1_codeOf_103 rfl hl (by decide) rfl (fun ls hl => ?_)
      have hv5 : (-a1.toInt).toNat ≤ 32635 := (nI_leI (by omega) (by decide)).mp c_8
      refine lpX1_codeOf_104 hx hb _ (mdHalf 256 8 ((-a1.toInt).toNat + 132) 0) (fun ls hl => ?_) 9 ((-a1.toInt).toNat + 132) 0 ls (by decide) (by omega) (by omega) rfl (by have e9 : ((nI ((-a1.toInt).toNat)) + (132 : Int32)) = nI (((-a1.toInt).toNat + 132)) := nI_add (-a1.toInt).toNat 132; rw [← e9]; exact lv_sub hl [2, 3, 1, 0] rfl)
      refine lv_sipush (v := 255) hx hb dX1_codeOf_121 (by decide) ?_
      refine lv_iload_n hx hb dX1_codeOf_124 rfl (lv_at hl 1 rfl) ?_
      refine lv_if_ge (tgt := 134) hx hb dX1_codeOf_125 (by decide) (fun c9 => absurd c9 c_2) (fun _ => ?_)
      refine lv_sipush (v := 128) hx hb dX1_codeOf_128 (by decide) ?_
      refine lv_goto (tgt := 135) hx hb dX1_codeOf_131 (by decide) ?_
      refine lv_bipush (v := 16) hx hb dX1_codeOf_135 (by decide) ?_
      refine lv_iload_n hx hb dX1_codeOf_137 rfl (lv_at hl 3 rfl) ?_
      refine lv_imul hx hb dX1_codeOf_138 ?_
      refine lv_iadd hx hb dX1_codeOf_139 ?_
      refine lv_iload_n hx hb dX1_codeOf_140 rfl (lv_at hl 2 rfl) ?_
      refine lv_bipush (v := 8) hx hb dX1_codeOf_141 (by decide) ?_
      refine lv_idiv hx hb dX1_codeOf_143 (by decide) ?_
      refine lv_bipush (v := 16) hx hb dX1_codeOf_144 (by decide) ?_
      refine lv_irem hx hb dX1_codeOf_146 (by decide) ?_
      refine lv_iadd hx hb dX1_codeOf_147 ?_
      refine lv_isub hx hb dX1_codeOf_148 ?_
      exact W.iret (v := ((255 : Int32) - (((128 : Int32) + ((16 : Int32) * (nI (mdHalf 256 8 ((-a1.toInt).toNat + 132) 0).2))) + (((nI (mdHalf 256 8 ((-a1.toInt).toNat + 132) 0).1) / (8 : Int32)) - ((nI (mdHalf 256 8 ((-a1.toInt).toNat + 132) 0).1) / (8 : Int32)) / (16 : Int32) * (16 : Int32))))) hx hb hr (fun t ht _ => ⟨((255 : Int32) - (((128 : Int32) + ((16 : Int32) * (nI (mdHalf 256 8 ((-a1.toInt).toNat + 132) 0).2))) + (((nI (mdHalf 256 8 ((-a1.toInt).toNat + 132) 0).1) / (8 : Int32)) - ((nI (mdHalf 256 8 ((-a1.toInt).toNat + 132) 0).1) / (8 : Int32)) / (16 : Int32) * (16 : Int32)))), rfl, by unfold fnX1_codeOf_1; rw [if_neg c_2, if_pos c_8], ht⟩) (fun q h => absurd h List.not_mem_nil) dX1_codeOf_149
    · refine lv_sipush (v := 32635) hx hb dX1_codeOf_92 (by decide) ?_
      refine lv_istore_n (lv' := [(2, .int (32635)), (0, .int (1)), (1, .int (a1))]) hx hb dX1_codeOf_95 rfl hl (by decide) rfl (fun ls hl => ?_)
      refine lv_iincW (v := ((32635 : Int32) + (132 : Int32))) (lv' := [(2, .int (((32635 : Int32) + (132 : Int32)))), (0, .int (1)), (1, .int (a1))]) hx hb dX1_codeOf_96 hl (k := 0) rfl rfl (by decide) rfl (fun ls hl => ?_)
      refine lv_iconst (v := 0) hx hb dX1_codeOf_102 (by decide) ?_
      refine lv_istore_n (lv' := [(3, .int (0)), (2, .int (((32635 : Int32) + (132 : Int32)))), (0, .int (1)), (1, .int (a1))]) hx hb dX1_codeOf_103 rfl hl (by decide) rfl (fun ls hl => ?_)
      refine lpX1_codeOf_104 hx hb _ (mdHalf 256 8 32767 0) (fun ls hl => ?_) 9 32767 0 ls (by decide) (by omega) (by omega) rfl (by have e9 : ((32635 : Int32) + (132 : Int32)) = nI (32767) := rfl; rw [← e9]; exact lv_sub hl [2, 3, 1, 0] rfl)
      refine lv_sipush (v := 255) hx hb dX1_codeOf_121 (by decide) ?_
      refine lv_iload_n hx hb dX1_codeOf_124 rfl (lv_at hl 1 rfl) ?_
      refine lv_if_ge (tgt := 134) hx hb dX1_codeOf_125 (by decide) (fun c9 => absurd c9 c_2) (fun _ => ?_)
      refine lv_sipush (v := 128) hx hb dX1_codeOf_128 (by decide) ?_
      refine lv_goto (tgt := 135) hx hb dX1_codeOf_131 (by decide) ?_
      refine lv_bipush (v := 16) hx hb dX1_codeOf_135 (by decide) ?_
      refine lv_iload_n hx hb dX1_codeOf_137 rfl (lv_at hl 3 rfl) ?_
      refine lv_imul hx hb dX1_codeOf_138 ?_
      refine lv_iadd hx hb dX1_codeOf_139 ?_
      refine lv_iload_n hx hb dX1_codeOf_140 rfl (lv_at hl 2 rfl) ?_
      refine lv_bipush (v := 8) hx hb dX1_codeOf_141 (by decide) ?_
      refine lv_idiv hx hb dX1_codeOf_143 (by decide) ?_
      refine lv_bipush (v := 16) hx hb dX1_codeOf_144 (by decide) ?_
      refine lv_irem hx hb dX1_codeOf_146 (by decide) ?_
      refine lv_iadd hx hb dX1_codeOf_147 ?_
      refine lv_isub hx hb dX1_codeOf_148 ?_
      exact W.iret (v := ((255 : Int32) - (((128 : Int32) + ((16 : Int32) * (nI (mdHalf 256 8 32767 0).2))) + (((nI (mdHalf 256 8 32767 0).1) / (8 : Int32)) - ((nI (mdHalf 256 8 32767 0).1) / (8 : Int32)) / (16 : Int32) * (16 : Int32))))) hx hb hr (fun t ht _ => ⟨((255 : Int32) - (((128 : Int32) + ((16 : Int32) * (nI (mdHalf 256 8 32767 0).2))) + (((nI (mdHalf 256 8 32767 0).1) / (8 : Int32)) - ((nI (mdHalf 256 8 32767 0).1) / (8 : Int32)) / (16 : Int32) * (16 : Int32)))), rfl, by unfold fnX1_codeOf_1; rw [if_neg c_2, if_neg c_8], ht⟩) (fun q h => absurd h List.not_mem_nil) dX1_codeOf_149
