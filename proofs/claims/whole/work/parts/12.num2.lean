/-! mu-law: the segment by its place; gains; the two coders over any law -/
theorem pr_hp0 {v : Nat} (h1 : 128 ≤ v) (h2 : v < 256) : fnX0_highestPlace (nI v) = 7 := by
  unfold fnX0_highestPlace fnJ6_numberOfLeadingZeros_0f7a4
  have c0 : (0 : Int32) < nI v := (nI_ltI (a := 0) (by decide) (by omega)).mpr (by omega)
  have c1 : nI (v) < (65536 : Int32) := (nI_ltI (b := 65536) (by omega) (by decide)).mpr (by omega)
  have c2 : nI (v) < (256 : Int32) := (nI_ltI (b := 256) (by omega) (by decide)).mpr (by omega)
  have c3 : ¬ nI (v) < (16 : Int32) := fun q => absurd ((nI_ltI (b := 16) (by omega) (by decide)).mp q) (by omega)
  have w0 : ((nI (v)).toUInt32 >>> ((4 : Int32).toUInt32 &&& Int32.toUInt32 31)).toInt32 = nI (v / 16) := pk_ushrN (by omega) 4 4 (by decide)
  have c4 : ¬ nI (v / 16) < (4 : Int32) := fun q => absurd ((nI_ltI (b := 4) (by omega) (by decide)).mp q) (by omega)
  have w1 : ((nI (v / 16)).toUInt32 >>> ((2 : Int32).toUInt32 &&& Int32.toUInt32 31)).toInt32 = nI (v / 16 / 4) := pk_ushrN (by omega) 2 2 (by decide)
  have w2 : ((nI (v / 16 / 4)).toUInt32 >>> ((1 : Int32).toUInt32 &&& Int32.toUInt32 31)).toInt32 = nI (v / 16 / 4 / 2) := pk_ushrN (by omega) 1 1 (by decide)
  simp only [w0, w1, w2]
  rw [if_pos c0, if_pos c1, if_pos c2, if_neg c3, if_neg c4]
  have e9 : v / 16 / 4 / 2 = 1 := by omega
  rw [e9]
  rfl
theorem pr_hp1 {v : Nat} (h1 : 256 ≤ v) (h2 : v < 512) : fnX0_highestPlace (nI v) = 8 := by
  unfold fnX0_highestPlace fnJ6_numberOfLeadingZeros_0f7a4
  have c0 : (0 : Int32) < nI v := (nI_ltI (a := 0) (by decide) (by omega)).mpr (by omega)
  have c1 : nI (v) < (65536 : Int32) := (nI_ltI (b := 65536) (by omega) (by decide)).mpr (by omega)
  have c2 : ¬ nI (v) < (256 : Int32) := fun q => absurd ((nI_ltI (b := 256) (by omega) (by decide)).mp q) (by omega)
  have w0 : ((nI (v)).toUInt32 >>> ((8 : Int32).toUInt32 &&& Int32.toUInt32 31)).toInt32 = nI (v / 256) := pk_ushrN (by omega) 8 8 (by decide)
  have c3 : nI (v / 256) < (16 : Int32) := (nI_ltI (b := 16) (by omega) (by decide)).mpr (by omega)
  have c4 : nI (v / 256) < (4 : Int32) := (nI_ltI (b := 4) (by omega) (by decide)).mpr (by omega)
  have w1 : ((nI (v / 256)).toUInt32 >>> ((1 : Int32).toUInt32 &&& Int32.toUInt32 31)).toInt32 = nI (v / 256 / 2) := pk_ushrN (by omega) 1 1 (by decide)
  simp only [w0, w1]
  rw [if_pos c0, if_pos c1, if_neg c2, if_pos c3, if_pos c4]
  have e9 : v / 256 / 2 = 0 := by omega
  rw [e9]
  rfl
theorem pr_hp2 {v : Nat} (h1 : 512 ≤ v) (h2 : v < 1024) : fnX0_highestPlace (nI v) = 9 := by
  unfold fnX0_highestPlace fnJ6_numberOfLeadingZeros_0f7a4
  have c0 : (0 : Int32) < nI v := (nI_ltI (a := 0) (by decide) (by omega)).mpr (by omega)
  have c1 : nI (v) < (65536 : Int32) := (nI_ltI (b := 65536) (by omega) (by decide)).mpr (by omega)
  have c2 : ¬ nI (v) < (256 : Int32) := fun q => absurd ((nI_ltI (b := 256) (by omega) (by decide)).mp q) (by omega)
  have w0 : ((nI (v)).toUInt32 >>> ((8 : Int32).toUInt32 &&& Int32.toUInt32 31)).toInt32 = nI (v / 256) := pk_ushrN (by omega) 8 8 (by decide)
  have c3 : nI (v / 256) < (16 : Int32) := (nI_ltI (b := 16) (by omega) (by decide)).mpr (by omega)
  have c4 : nI (v / 256) < (4 : Int32) := (nI_ltI (b := 4) (by omega) (by decide)).mpr (by omega)
  have w1 : ((nI (v / 256)).toUInt32 >>> ((1 : Int32).toUInt32 &&& Int32.toUInt32 31)).toInt32 = nI (v / 256 / 2) := pk_ushrN (by omega) 1 1 (by decide)
  simp only [w0, w1]
  rw [if_pos c0, if_pos c1, if_neg c2, if_pos c3, if_pos c4]
  have e9 : v / 256 / 2 = 1 := by omega
  rw [e9]
  rfl
theorem pr_hp3 {v : Nat} (h1 : 1024 ≤ v) (h2 : v < 2048) : fnX0_highestPlace (nI v) = 10 := by
  unfold fnX0_highestPlace fnJ6_numberOfLeadingZeros_0f7a4
  have c0 : (0 : Int32) < nI v := (nI_ltI (a := 0) (by decide) (by omega)).mpr (by omega)
  have c1 : nI (v) < (65536 : Int32) := (nI_ltI (b := 65536) (by omega) (by decide)).mpr (by omega)
  have c2 : ¬ nI (v) < (256 : Int32) := fun q => absurd ((nI_ltI (b := 256) (by omega) (by decide)).mp q) (by omega)
  have w0 : ((nI (v)).toUInt32 >>> ((8 : Int32).toUInt32 &&& Int32.toUInt32 31)).toInt32 = nI (v / 256) := pk_ushrN (by omega) 8 8 (by decide)
  have c3 : nI (v / 256) < (16 : Int32) := (nI_ltI (b := 16) (by omega) (by decide)).mpr (by omega)
  have c4 : ¬ nI (v / 256) < (4 : Int32) := fun q => absurd ((nI_ltI (b := 4) (by omega) (by decide)).mp q) (by omega)
  have w1 : ((nI (v / 256)).toUInt32 >>> ((2 : Int32).toUInt32 &&& Int32.toUInt32 31)).toInt32 = nI (v / 256 / 4) := pk_ushrN (by omega) 2 2 (by decide)
  have w2 : ((nI (v / 256 / 4)).toUInt32 >>> ((1 : Int32).toUInt32 &&& Int32.toUInt32 31)).toInt32 = nI (v / 256 / 4 / 2) := pk_ushrN (by omega) 1 1 (by decide)
  simp only [w0, w1, w2]
  rw [if_pos c0, if_pos c1, if_neg c2, if_pos c3, if_neg c4]
  have e9 : v / 256 / 4 / 2 = 0 := by omega
  rw [e9]
  rfl
theorem pr_hp4 {v : Nat} (h1 : 2048 ≤ v) (h2 : v < 4096) : fnX0_highestPlace (nI v) = 11 := by
  unfold fnX0_highestPlace fnJ6_numberOfLeadingZeros_0f7a4
  have c0 : (0 : Int32) < nI v := (nI_ltI (a := 0) (by decide) (by omega)).mpr (by omega)
  have c1 : nI (v) < (65536 : Int32) := (nI_ltI (b := 65536) (by omega) (by decide)).mpr (by omega)
  have c2 : ¬ nI (v) < (256 : Int32) := fun q => absurd ((nI_ltI (b := 256) (by omega) (by decide)).mp q) (by omega)
  have w0 : ((nI (v)).toUInt32 >>> ((8 : Int32).toUInt32 &&& Int32.toUInt32 31)).toInt32 = nI (v / 256) := pk_ushrN (by omega) 8 8 (by decide)
  have c3 : nI (v / 256) < (16 : Int32) := (nI_ltI (b := 16) (by omega) (by decide)).mpr (by omega)
  have c4 : ¬ nI (v / 256) < (4 : Int32) := fun q => absurd ((nI_ltI (b := 4) (by omega) (by decide)).mp q) (by omega)
  have w1 : ((nI (v / 256)).toUInt32 >>> ((2 : Int32).toUInt32 &&& Int32.toUInt32 31)).toInt32 = nI (v / 256 / 4) := pk_ushrN (by omega) 2 2 (by decide)
  have w2 : ((nI (v / 256 / 4)).toUInt32 >>> ((1 : Int32).toUInt32 &&& Int32.toUInt32 31)).toInt32 = nI (v / 256 / 4 / 2) := pk_ushrN (by omega) 1 1 (by decide)
  simp only [w0, w1, w2]
  rw [if_pos c0, if_pos c1, if_neg c2, if_pos c3, if_neg c4]
  have e9 : v / 256 / 4 / 2 = 1 := by omega
  rw [e9]
  rfl
theorem pr_hp5 {v : Nat} (h1 : 4096 ≤ v) (h2 : v < 8192) : fnX0_highestPlace (nI v) = 12 := by
  unfold fnX0_highestPlace fnJ6_numberOfLeadingZeros_0f7a4
  have c0 : (0 : Int32) < nI v := (nI_ltI (a := 0) (by decide) (by omega)).mpr (by omega)
  have c1 : nI (v) < (65536 : Int32) := (nI_ltI (b := 65536) (by omega) (by decide)).mpr (by omega)
  have c2 : ¬ nI (v) < (256 : Int32) := fun q => absurd ((nI_ltI (b := 256) (by omega) (by decide)).mp q) (by omega)
  have w0 : ((nI (v)).toUInt32 >>> ((8 : Int32).toUInt32 &&& Int32.toUInt32 31)).toInt32 = nI (v / 256) := pk_ushrN (by omega) 8 8 (by decide)
  have c3 : ¬ nI (v / 256) < (16 : Int32) := fun q => absurd ((nI_ltI (b := 16) (by omega) (by decide)).mp q) (by omega)
  have w1 : ((nI (v / 256)).toUInt32 >>> ((4 : Int32).toUInt32 &&& Int32.toUInt32 31)).toInt32 = nI (v / 256 / 16) := pk_ushrN (by omega) 4 4 (by decide)
  have c4 : nI (v / 256 / 16) < (4 : Int32) := (nI_ltI (b := 4) (by omega) (by decide)).mpr (by omega)
  have w2 : ((nI (v / 256 / 16)).toUInt32 >>> ((1 : Int32).toUInt32 &&& Int32.toUInt32 31)).toInt32 = nI (v / 256 / 16 / 2) := pk_ushrN (by omega) 1 1 (by decide)
  simp only [w0, w1, w2]
  rw [if_pos c0, if_pos c1, if_neg c2, if_neg c3, if_pos c4]
  have e9 : v / 256 / 16 / 2 = 0 := by omega
  rw [e9]
  rfl
theorem pr_hp6 {v : Nat} (h1 : 8192 ≤ v) (h2 : v < 16384) : fnX0_highestPlace (nI v) = 13 := by
  unfold fnX0_highestPlace fnJ6_numberOfLeadingZeros_0f7a4
  have c0 : (0 : Int32) < nI v := (nI_ltI (a := 0) (by decide) (by omega)).mpr (by omega)
  have c1 : nI (v) < (65536 : Int32) := (nI_ltI (b := 65536) (by omega) (by decide)).mpr (by omega)
  have c2 : ¬ nI (v) < (256 : Int32) := fun q => absurd ((nI_ltI (b := 256) (by omega) (by decide)).mp q) (by omega)
  have w0 : ((nI (v)).toUInt32 >>> ((8 : Int32).toUInt32 &&& Int32.toUInt32 31)).toInt32 = nI (v / 256) := pk_ushrN (by omega) 8 8 (by decide)
  have c3 : ¬ nI (v / 256) < (16 : Int32) := fun q => absurd ((nI_ltI (b := 16) (by omega) (by decide)).mp q) (by omega)
  have w1 : ((nI (v / 256)).toUInt32 >>> ((4 : Int32).toUInt32 &&& Int32.toUInt32 31)).toInt32 = nI (v / 256 / 16) := pk_ushrN (by omega) 4 4 (by decide)
  have c4 : nI (v / 256 / 16) < (4 : Int32) := (nI_ltI (b := 4) (by omega) (by decide)).mpr (by omega)
  have w2 : ((nI (v / 256 / 16)).toUInt32 >>> ((1 : Int32).toUInt32 &&& Int32.toUInt32 31)).toInt32 = nI (v / 256 / 16 / 2) := pk_ushrN (by omega) 1 1 (by decide)
  simp only [w0, w1, w2]
  rw [if_pos c0, if_pos c1, if_neg c2, if_neg c3, if_pos c4]
  have e9 : v / 256 / 16 / 2 = 1 := by omega
  rw [e9]
  rfl
theorem pr_hp7 {v : Nat} (h1 : 16384 ≤ v) (h2 : v < 32768) : fnX0_highestPlace (nI v) = 14 := by
  unfold fnX0_highestPlace fnJ6_numberOfLeadingZeros_0f7a4
  have c0 : (0 : Int32) < nI v := (nI_ltI (a := 0) (by decide) (by omega)).mpr (by omega)
  have c1 : nI (v) < (65536 : Int32) := (nI_ltI (b := 65536) (by omega) (by decide)).mpr (by omega)
  have c2 : ¬ nI (v) < (256 : Int32) := fun q => absurd ((nI_ltI (b := 256) (by omega) (by decide)).mp q) (by omega)
  have w0 : ((nI (v)).toUInt32 >>> ((8 : Int32).toUInt32 &&& Int32.toUInt32 31)).toInt32 = nI (v / 256) := pk_ushrN (by omega) 8 8 (by decide)
  have c3 : ¬ nI (v / 256) < (16 : Int32) := fun q => absurd ((nI_ltI (b := 16) (by omega) (by decide)).mp q) (by omega)
  have w1 : ((nI (v / 256)).toUInt32 >>> ((4 : Int32).toUInt32 &&& Int32.toUInt32 31)).toInt32 = nI (v / 256 / 16) := pk_ushrN (by omega) 4 4 (by decide)
  have c4 : ¬ nI (v / 256 / 16) < (4 : Int32) := fun q => absurd ((nI_ltI (b := 4) (by omega) (by decide)).mp q) (by omega)
  have w2 : ((nI (v / 256 / 16)).toUInt32 >>> ((2 : Int32).toUInt32 &&& Int32.toUInt32 31)).toInt32 = nI (v / 256 / 16 / 4) := pk_ushrN (by omega) 2 2 (by decide)
  have w3 : ((nI (v / 256 / 16 / 4)).toUInt32 >>> ((1 : Int32).toUInt32 &&& Int32.toUInt32 31)).toInt32 = nI (v / 256 / 16 / 4 / 2) := pk_ushrN (by omega) 1 1 (by decide)
  simp only [w0, w1, w2, w3]
  rw [if_pos c0, if_pos c1, if_neg c2, if_neg c3, if_neg c4]
  have e9 : v / 256 / 16 / 4 / 2 = 0 := by omega
  rw [e9]
  rfl
def pcM (top w : Int32) : Int32 := ((((top ||| (((fnX0_highestPlace w) - (7 : Int32)) <<< ((4 : Int32) &&& 31))) ||| ((w >>> ((((fnX0_highestPlace w) - (7 : Int32)) + (3 : Int32)) &&& 31)) &&& (15 : Int32))) ^^^ (255 : Int32)))
def pcW (x : Int32) : Int32 := (if (32635 : Int32) < (if 0 ≤ x then x else 0 - x) then (32635 : Int32) else (if 0 ≤ x then x else 0 - x)) + (132 : Int32)
theorem pcM_is (x : Int32) : fnX0_codeByMu x = if 0 ≤ x then pcM 0 (pcW x) else pcM 128 (pcW x) := rfl
def pmM (top : Int32) (v : Nat) : Int32 := (255 : Int32) - ((top + ((16 : Int32) * (nI (mdHalf 256 8 v 0).2))) + (((nI (mdHalf 256 8 v 0).1) / (8 : Int32)) - ((nI (mdHalf 256 8 v 0).1) / (8 : Int32)) / (16 : Int32) * (16 : Int32)))
theorem pmM_is (x : Int32) : fnX1_codeOf_1 x = if 0 ≤ x then (if nI (x.toInt.toNat) ≤ 32635 then pmM 0 (x.toInt.toNat + 132) else pmM 0 32767) else (if nI ((-x.toInt).toNat) ≤ 32635 then pmM 128 ((-x.toInt).toNat + 132) else pmM 128 32767) := rfl
theorem pr_Mtab : ∀ s, s < 8 → ∀ m, m < 16 → ∀ t, t < 2 → ((((nI (128 * t) ||| ((nI (7 + s) - (7 : Int32)) <<< ((4 : Int32) &&& 31))) ||| nI m) ^^^ (255 : Int32)) = (255 : Int32) - ((nI (128 * t) + ((16 : Int32) * nI s)) + nI m)) ∧ 0 ≤ ((255 : Int32) - ((nI (128 * t) + ((16 : Int32) * nI s)) + nI m)).toInt ∧ ((255 : Int32) - ((nI (128 * t) + ((16 : Int32) * nI s)) + nI m)).toInt < 256 := by decide +kernel
theorem pr_half : ∀ (s f v j : Nat), s ≤ f → 2 ^ (7 + s) ≤ v → v < 2 ^ (8 + s) → mdHalf 256 f v j = (v / 2 ^ s, j + s)
  | 0, f, v, j, _, _, h2 => by rw [md_half_end (by simpa using h2)]; simp
  | s + 1, f, v, j, h, h1, h2 => by
    have e1 : 2 ^ (7 + (s + 1)) = 2 * 2 ^ (7 + s) := by rw [show 7 + (s + 1) = (7 + s) + 1 by omega, Nat.pow_succ]; omega
    have e2 : 2 ^ (8 + (s + 1)) = 2 * 2 ^ (8 + s) := by rw [show 8 + (s + 1) = (8 + s) + 1 by omega, Nat.pow_succ]; omega
    have p1 : 2 ^ 7 ≤ 2 ^ (7 + s) := Nat.pow_le_pow_right (by decide) (by omega)
    rw [e1] at h1; rw [e2] at h2
    match f, h with
    | f + 1, h =>
      rw [md_half_step (by omega), pr_half s f (v / 2) (j + 1) (by omega) (by omega) (by omega)]
      rw [Nat.div_div_eq_div_mul, show 2 * 2 ^ s = 2 ^ (s + 1) by rw [Nat.pow_succ]; omega, show j + 1 + s = j + (s + 1) by omega]
theorem pr_hpN : ∀ s, s < 8 → ∀ v, 2 ^ (7 + s) ≤ v → v < 2 ^ (8 + s) → fnX0_highestPlace (nI v) = nI (7 + s) := by
  intro s hs v h1 h2
  match s, hs, h1, h2 with
  | 0, _, h1, h2 => exact pr_hp0 h1 h2
  | 1, _, h1, h2 => exact pr_hp1 h1 h2
  | 2, _, h1, h2 => exact pr_hp2 h1 h2
  | 3, _, h1, h2 => exact pr_hp3 h1 h2
  | 4, _, h1, h2 => exact pr_hp4 h1 h2
  | 5, _, h1, h2 => exact pr_hp5 h1 h2
  | 6, _, h1, h2 => exact pr_hp6 h1 h2
  | 7, _, h1, h2 => exact pr_hp7 h1 h2
theorem pr_seg {v : Nat} (h1 : 132 ≤ v) (h2 : v < 32768) : ∃ s, s < 8 ∧ 2 ^ (7 + s) ≤ v ∧ v < 2 ^ (8 + s) := by
  by_cases a0 : v < 256
  · exact ⟨0, by omega, by omega, by omega⟩
  by_cases a1 : v < 512
  · exact ⟨1, by omega, by omega, by omega⟩
  by_cases a2 : v < 1024
  · exact ⟨2, by omega, by omega, by omega⟩
  by_cases a3 : v < 2048
  · exact ⟨3, by omega, by omega, by omega⟩
  by_cases a4 : v < 4096
  · exact ⟨4, by omega, by omega, by omega⟩
  by_cases a5 : v < 8192
  · exact ⟨5, by omega, by omega, by omega⟩
  by_cases a6 : v < 16384
  · exact ⟨6, by omega, by omega, by omega⟩
  · exact ⟨7, by omega, by omega, by omega⟩
theorem pr_sh : ∀ s, s < 8 → (((nI (7 + s) - (7 : Int32)) + (3 : Int32)) &&& 31).toBitVec.smod 32 = BitVec.ofNat 32 (s + 3) := by decide +kernel
theorem pr_M {v : Nat} (h1 : 132 ≤ v) (h2 : v < 32768) (t : Nat) (ht : t < 2) : pcM (nI (128 * t)) (nI v) = pmM (nI (128 * t)) v ∧ 0 ≤ (pmM (nI (128 * t)) v).toInt ∧ (pmM (nI (128 * t)) v).toInt < 256 := by
  obtain ⟨s, hs, a1, a2⟩ := pr_seg h1 h2
  have e1 : fnX0_highestPlace (nI v) = nI (7 + s) := pr_hpN s hs v a1 a2
  have e2 : mdHalf 256 8 v 0 = (v / 2 ^ s, 0 + s) := pr_half s 8 v 0 (by omega) a1 a2
  have hp : 0 < 2 ^ s := Nat.pow_pos (by decide)
  have hle : v / 2 ^ s ≤ v := Nat.div_le_self _ _
  have e3 : nI v >>> (((nI (7 + s) - (7 : Int32)) + (3 : Int32)) &&& 31) = nI (v / 2 ^ (s + 3)) := pk_shrN (by omega) _ (s + 3) (by rw [pr_sh s hs, BitVec.toNat_ofNat]; exact Nat.mod_eq_of_lt (by omega))
  have hle2 : v / 2 ^ (s + 3) ≤ v := Nat.div_le_self _ _
  have e4 : nI (v / 2 ^ (s + 3)) &&& (15 : Int32) = nI (v / 2 ^ (s + 3) % 16) := pk_andN (by omega) 4 (by decide)
  have e5 : nI (v / 2 ^ s) / (8 : Int32) = nI (v / 2 ^ s / 8) := pk_div (d := 8) (by omega) (by decide) (by decide)
  have e6 : nI (v / 2 ^ s / 8) - nI (v / 2 ^ s / 8) / (16 : Int32) * (16 : Int32) = nI (v / 2 ^ s / 8 % 16) := pk_rem (d := 16) (by omega) (by decide) (by decide)
  have e7 : v / 2 ^ s / 8 = v / 2 ^ (s + 3) := by rw [Nat.div_div_eq_div_mul, show 2 ^ s * 8 = 2 ^ (s + 3) by rw [Nat.pow_add]]
  obtain ⟨t1, t2, t3⟩ := pr_Mtab s hs (v / 2 ^ (s + 3) % 16) (Nat.mod_lt _ (by decide)) t ht
  have em : pmM (nI (128 * t)) v = (255 : Int32) - ((nI (128 * t) + ((16 : Int32) * nI s)) + nI (v / 2 ^ (s + 3) % 16)) := by
    unfold pmM
    rw [e2]
    show (255 : Int32) - ((nI (128 * t) + ((16 : Int32) * nI (0 + s))) + (nI (v / 2 ^ s) / (8 : Int32) - nI (v / 2 ^ s) / (8 : Int32) / (16 : Int32) * (16 : Int32))) = _
    rw [Nat.zero_add, e5, e6, e7]
  refine ⟨?_, by rw [em]; exact t2, by rw [em]; exact t3⟩
  rw [em, ← t1]
  unfold pcM
  rw [e1, e3, e4]
theorem pr_M0 {v : Nat} (h1 : 132 ≤ v) (h2 : v < 32768) : pcM 0 (nI v) = pmM 0 v ∧ 0 ≤ (pmM 0 v).toInt ∧ (pmM 0 v).toInt < 256 := by
  have h := pr_M h1 h2 0 (by decide)
  rw [show nI (128 * 0) = 0 by decide] at h
  exact h
theorem pr_M1 {v : Nat} (h1 : 132 ≤ v) (h2 : v < 32768) : pcM 128 (nI v) = pmM 128 v ∧ 0 ≤ (pmM 128 v).toInt ∧ (pmM 128 v).toInt < 256 := by
  have h := pr_M h1 h2 1 (by decide)
  rw [show nI (128 * 1) = 128 by decide] at h
  exact h
theorem pr_top : (32635 : Int32) + (132 : Int32) = nI 32767 := by decide
theorem pr_c0 (x : Int32) : fnX0_codeOf 0 x = fnX0_codeByA x := by unfold fnX0_codeOf; rw [if_pos rfl]
theorem pr_c1 (x : Int32) : fnX0_codeOf 1 x = fnX0_codeByMu x := by unfold fnX0_codeOf; rw [if_neg (by decide)]
theorem pr_d0 (x : Int32) : fnX1_codeOf 0 x = fnX1_codeOf_0 x := by unfold fnX1_codeOf; rw [if_pos rfl]
theorem pr_d1 (x : Int32) : fnX1_codeOf 1 x = fnX1_codeOf_1 x := by unfold fnX1_codeOf; rw [if_neg (by decide)]
theorem pr_nI0 (x : Int32) (h : 0 ≤ x.toInt) (h2 : x.toInt < 256) : vp_in x 256 := vp_in_iff.mpr ⟨h, h2⟩
theorem pr_code {a x : Int32} (ha : a = 0 ∨ a = 1) (hx1 : -32768 ≤ x.toInt) (hx2 : x.toInt ≤ 32767) : fnX0_codeOf a x = fnX1_codeOf a x ∧ vp_in (fnX1_codeOf a x) 256 := by
  rcases ha with rfl | rfl
  · rw [pr_c0, pr_d0, pcA_is, pmA_is]
    by_cases h : 0 ≤ x
    · rw [if_pos h, if_pos h]
      obtain ⟨ev, lv9⟩ := md_pos h hx2
      have e3 : x / 16 = nI (x.toInt.toNat / 16) := (congrArg (fun z : Int32 => z / 16) ev).trans (pk_div (d := 16) (by omega) (by decide) (by decide))
      obtain ⟨⟨q1, q2, q3⟩, -⟩ := pr_A (x.toInt.toNat / 16) (by omega)
      rw [e3]
      exact ⟨q1, pr_nI0 _ q2 q3⟩
    · rw [if_neg h, if_neg h]
      obtain ⟨ev, lv9⟩ := md_neg h hx1
      have e3 : ((-1) - x) / 16 = nI ((-1 - x.toInt).toNat / 16) := (congrArg (fun z : Int32 => z / 16) ev).trans (pk_div (d := 16) (by omega) (by decide) (by decide))
      obtain ⟨-, q1, q2, q3⟩ := pr_A ((-1 - x.toInt).toNat / 16) (by omega)
      rw [e3]
      exact ⟨q1, pr_nI0 _ q2 q3⟩
  · rw [pr_c1, pr_d1, pcM_is, pmM_is]
    by_cases h : 0 ≤ x
    · rw [if_pos h, if_pos h]
      obtain ⟨ev, lv9⟩ := md_pos h hx2
      unfold pcW
      rw [if_pos h]
      by_cases h3 : nI (x.toInt.toNat) ≤ 32635
      · rw [if_pos h3]
        have h3n : x.toInt.toNat ≤ 32635 := (nI_leI (b := 32635) (by omega) (by decide)).mp h3
        have h4 : ¬ (32635 : Int32) < x := by rw [ev]; exact fun q => absurd ((nI_ltI (a := 32635) (by decide) (by omega)).mp q) (by omega)
        have e5 : x + (132 : Int32) = nI (x.toInt.toNat + 132) := (congrArg (fun z : Int32 => z + 132) ev).trans (nI_add _ 132)
        rw [if_neg h4, e5]
        obtain ⟨q1, q2, q3⟩ := pr_M0 (v := x.toInt.toNat + 132) (by omega) (by omega)
        exact ⟨q1, pr_nI0 _ q2 q3⟩
      · rw [if_neg h3]
        have h3n : ¬ x.toInt.toNat ≤ 32635 := fun q => h3 ((nI_leI (b := 32635) (by omega) (by decide)).mpr q)
        have h4 : (32635 : Int32) < x := by rw [ev]; exact (nI_ltI (a := 32635) (by decide) (by omega)).mpr (by omega)
        rw [if_pos h4, pr_top]
        obtain ⟨q1, q2, q3⟩ := pr_M0 (v := 32767) (by omega) (by omega)
        exact ⟨q1, pr_nI0 _ q2 q3⟩
    · rw [if_neg h, if_neg h]
      obtain ⟨ev0, lv9⟩ := md_neg0 h hx1
      have ev : 0 - x = nI ((-x.toInt).toNat) := by rw [← ev0]; exact Int32.zero_sub x
      unfold pcW
      rw [if_neg h]
      by_cases h3 : nI ((-x.toInt).toNat) ≤ 32635
      · rw [if_pos h3]
        have h3n : (-x.toInt).toNat ≤ 32635 := (nI_leI (b := 32635) (by omega) (by decide)).mp h3
        have h4 : ¬ (32635 : Int32) < 0 - x := by rw [ev]; exact fun q => absurd ((nI_ltI (a := 32635) (by decide) (by omega)).mp q) (by omega)
        have e5 : 0 - x + (132 : Int32) = nI ((-x.toInt).toNat + 132) := (congrArg (fun z : Int32 => z + 132) ev).trans (nI_add _ 132)
        rw [if_neg h4, e5]
        obtain ⟨q1, q2, q3⟩ := pr_M1 (v := (-x.toInt).toNat + 132) (by omega) (by omega)
        exact ⟨q1, pr_nI0 _ q2 q3⟩
      · rw [if_neg h3]
        have h3n : ¬ (-x.toInt).toNat ≤ 32635 := fun q => h3 ((nI_leI (b := 32635) (by omega) (by decide)).mpr q)
        have h4 : (32635 : Int32) < 0 - x := by rw [ev]; exact (nI_ltI (a := 32635) (by decide) (by omega)).mpr (by omega)
        rw [if_pos h4, pr_top]
        obtain ⟨q1, q2, q3⟩ := pr_M1 (v := 32767) (by omega) (by omega)
        exact ⟨q1, pr_nI0 _ q2 q3⟩
theorem pr_mean {a b : Int32} (ha : a = 0 ∨ a = 1) (hb : vp_in b 256) : fnX0_sampleOf a b = fnX1_meaning a b ∧ -32768 ≤ (fnX1_meaning a b).toInt ∧ (fnX1_meaning a b).toInt ≤ 32767 := by
  obtain ⟨n, hn, rfl⟩ := vp_in_of hb (by decide)
  rcases ha with rfl | rfl
  · obtain ⟨q1, q2, q3⟩ := pr_mean0 n hn
    have e1 : fnX0_sampleOf 0 (nI n) = fnX0_sampleByA (nI n) := rfl
    have e2 : fnX1_meaning 0 (nI n) = fnX1_meaning_0 n := by unfold fnX1_meaning; rw [if_pos rfl, nI_clamp (by omega)]
    rw [e1, e2, ← q1]
    exact ⟨rfl, q2, q3⟩
  · obtain ⟨q1, q2, q3⟩ := pr_mean1 n hn
    have e1 : fnX0_sampleOf 1 (nI n) = fnX0_sampleByMu (nI n) := rfl
    have e2 : fnX1_meaning 1 (nI n) = fnX1_meaning_1 n := by unfold fnX1_meaning; rw [if_neg (by decide), nI_clamp (by omega)]
    rw [e1, e2, ← q1]
    exact ⟨rfl, q2, q3⟩
theorem pr_sat (x : Int64) : fnX0_saturated x = fnX1_held x := by
  unfold fnX0_saturated
  rcases md_held_cases x with ⟨h, e⟩ | ⟨h, e⟩ | ⟨h1, h2, e⟩
  · rw [e]
    have h1 : ¬ x < 32767 := by rw [Int64.lt_iff_toInt_lt]; show ¬ x.toInt < 32767; omega
    rw [if_neg h1]
    rfl
  · rw [e]
    have h1 : x < 32767 := by rw [Int64.lt_iff_toInt_lt]; show x.toInt < 32767; omega
    have h2 : x < -32768 := by rw [Int64.lt_iff_toInt_lt]; show x.toInt < -32768; omega
    rw [if_pos h1, if_pos h2]
    rfl
  · rw [e]
    by_cases h3 : x < 32767
    · have h4 : ¬ x < -32768 := by rw [Int64.lt_iff_toInt_lt]; show ¬ x.toInt < -32768; omega
      rw [if_pos h3, if_neg h4]
    · have h5 : x = 32767 := Int64.toInt_inj.mp (by rw [Int64.lt_iff_toInt_lt] at h3; have h3' : ¬ x.toInt < 32767 := h3; show x.toInt = 32767; omega)
      rw [if_neg h3, h5]
      rfl
theorem pr_xor (x : Int32) : 0 ≤ (x ^^^ (256 : Int32)) ↔ 0 ≤ x := by
  rw [Int32.le_iff_toInt_le, Int32.le_iff_toInt_le]
  show 0 ≤ (x.toBitVec ^^^ 256#32).toInt ↔ 0 ≤ x.toBitVec.toInt
  have h (b : BitVec 32) : 0 ≤ b.toInt ↔ b.msb = false := by
    rw [BitVec.toInt_eq_msb_cond]
    have := b.isLt
    cases hb : b.msb
    · simp
    · simp; omega
  rw [h, h, BitVec.msb_xor]
  have : (256#32).msb = false := by decide
  rw [this, Bool.xor_false]
theorem pr_tdiv {x : Int32} (h1 : -1073741824 < x.toInt) (h2 : x.toInt < 1073741824) : (x / (256 : Int32)).toInt = x.toInt.tdiv 256 := by
  rw [Int32.toInt_div]
  show (x.toInt.tdiv 256).bmod (2 ^ 32) = _
  have ha : (x.toInt.tdiv 256).natAbs ≤ x.toInt.natAbs := Int.natAbs_tdiv_le_natAbs _ _
  exact Int.bmod_eq_of_le (by omega) (by omega)
theorem pr_fdiv {x : Int32} (h1 : -1000000000 < x.toInt) (h2 : x.toInt < 1000000000) : fnJ9_floorDiv_7cf53 x 256 = if 0 ≤ x then x / 256 else -(((255 : Int32) - x) / 256) := by
  unfold fnJ9_floorDiv_7cf53
  by_cases h : 0 ≤ x
  · rw [if_pos ((pr_xor x).mpr h), if_pos h]
  · rw [if_neg (fun q => h ((pr_xor x).mp q)), if_neg h]
    have h0 : ¬ 0 ≤ x.toInt := by rw [Int32.le_iff_toInt_le] at h; exact h
    have hq := pr_tdiv (x := x) (by omega) (by omega)
    have hs : ((255 : Int32) - x).toInt = 255 - x.toInt := by
      rw [Int32.toInt_sub]
      show (255 - x.toInt).bmod (2 ^ 32) = _
      exact Int.bmod_eq_of_le (by omega) (by omega)
    have hq2 : (((255 : Int32) - x) / (256 : Int32)).toInt = (255 - x.toInt).tdiv 256 := by
      rw [pr_tdiv (by rw [hs]; omega) (by rw [hs]; omega), hs]
    have t1 : x.toInt.tdiv 256 = -((-x.toInt) / 256) := by
      rw [← Int.neg_neg x.toInt, Int.neg_tdiv, Int.tdiv_eq_ediv_of_nonneg (by omega), Int.neg_neg]
    have t2 : (255 - x.toInt).tdiv 256 = (255 - x.toInt) / 256 := Int.tdiv_eq_ediv_of_nonneg (by omega)
    have hm : (x / (256 : Int32) * (256 : Int32)).toInt = x.toInt.tdiv 256 * 256 := by
      rw [Int32.toInt_mul, hq]
      show (x.toInt.tdiv 256 * 256).bmod (2 ^ 32) = _
      exact Int.bmod_eq_of_le (by omega) (by omega)
    have hn : (-(((255 : Int32) - x) / (256 : Int32))).toInt = -((255 - x.toInt) / 256) := by
      rw [Int32.toInt_neg, hq2, t2]
      exact Int.bmod_eq_of_le (by omega) (by omega)
    by_cases h3 : x / (256 : Int32) * (256 : Int32) = x
    · rw [if_pos h3]
      have h3' := congrArg Int32.toInt h3
      rw [hm] at h3'
      apply Int32.toInt_inj.mp
      rw [hq, hn, t1]
      omega
    · rw [if_neg h3]
      have h3' : ¬ x.toInt.tdiv 256 * 256 = x.toInt := fun q => h3 (Int32.toInt_inj.mp (by rw [hm]; exact q))
      have hd : (x / (256 : Int32) - (1 : Int32)).toInt = x.toInt.tdiv 256 - 1 := by
        rw [Int32.toInt_sub, hq]
        show (x.toInt.tdiv 256 - 1).bmod (2 ^ 32) = _
        exact Int.bmod_eq_of_le (by omega) (by omega)
      apply Int32.toInt_inj.mp
      rw [hd, hn, t1]
      omega
theorem pr_voice {a b g : Int32} (ha : a = 0 ∨ a = 1) (hb : vp_in b 256) (hg : vp_in g 1025) : cbVoice a b g = mdVoice a b g := by
  obtain ⟨e1, s1, s2⟩ := pr_mean ha hb
  unfold cbVoice mdVoice fnX1_scaled
  rw [e1]
  obtain ⟨g0, g1⟩ := vp_in_iff.mp hg
  generalize fnX1_meaning a b = x at s1 s2 ⊢
  have hm : (x * g).toInt = x.toInt * g.toInt := by
    rw [Int32.toInt_mul]
    have q1 : x.toInt * g.toInt ≤ 32767 * 1024 := by
      rcases Int.le_total 0 x.toInt with h | h
      · exact Int.mul_le_mul s2 (by omega) g0 (by omega)
      · have := Int.mul_nonpos_of_nonpos_of_nonneg h g0; omega
    have q2 : -(32768 * 1024) ≤ x.toInt * g.toInt := by
      rcases Int.le_total 0 x.toInt with h | h
      · have := Int.mul_nonneg h g0; omega
      · have h5 : (-x.toInt) * g.toInt ≤ 32768 * 1024 := Int.mul_le_mul (by omega) (by omega) g0 (by omega)
        rw [Int.neg_mul] at h5; omega
    exact Int.bmod_eq_of_le (by omega) (by omega)
  have q1 : (x * g).toInt ≤ 32767 * 1024 := by
    rw [hm]
    rcases Int.le_total 0 x.toInt with h | h
    · exact Int.mul_le_mul s2 (by omega) g0 (by omega)
    · have := Int.mul_nonpos_of_nonpos_of_nonneg h g0; omega
  have q2 : -(32768 * 1024) ≤ (x * g).toInt := by
    rw [hm]
    rcases Int.le_total 0 x.toInt with h | h
    · have := Int.mul_nonneg h g0; omega
    · have h5 : (-x.toInt) * g.toInt ≤ 32768 * 1024 := Int.mul_le_mul (by omega) (by omega) g0 (by omega)
      rw [Int.neg_mul] at h5; omega
  rw [pr_fdiv (by omega) (by omega), pr_sat]
  by_cases h : 0 ≤ x * g
  · rw [if_pos h, if_pos h]
  · rw [if_neg h, if_neg h]
theorem pr_party (x : Int32) : fnX0_isParty x = 0 ↔ ¬ fnX1_not x (8 : Int32) = 0 := by
  unfold fnX0_isParty fnX1_not
  by_cases h1 : x < 0
  · rw [if_pos h1, if_pos h1]; decide
  · rw [if_neg h1, if_neg h1]
    by_cases h2 : x < 8
    · rw [if_pos h2, if_neg (Int32.not_le.mpr h2)]; decide
    · rw [if_neg h2, if_pos (Int32.not_lt.mp h2)]; decide
theorem pr_place (x : Int32) : fnX0_isPlace x = 0 ↔ ¬ fnX1_not x (8 : Int32) = 0 := pr_party x
theorem pr_law (x : Int32) : fnX0_isLaw x = 0 ↔ ¬ fnX1_not x (2 : Int32) = 0 := by
  constructor
  · intro h q
    rcases md_law01 q with rfl | rfl
    · exact absurd h (by decide)
    · exact absurd h (by decide)
  · intro h
    unfold fnX0_isLaw
    by_cases h1 : x = 0
    · exact absurd (by rw [h1]; decide) h
    · rw [if_neg h1]
      by_cases h2 : x = 1
      · exact absurd (by rw [h2]; decide) h
      · rw [if_neg h2]
