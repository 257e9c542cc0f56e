/-! a mixing keeps what belongs together -/
theorem hrV_at (u : cb_U) (j : Nat) : ∀ n i k, hrV u j n i k = if i = j ∧ k < n then cbVoice (cbL u j) (cbC u j k) (cbG u j) else cbV u i k
  | 0, i, k => by rw [if_neg (by omega)]; rfl
  | n + 1, i, k => by
    show va_up (hrV u j n) j (upd (hrV u j n j) n (cbVoice (cbL u j) (cbC u j n) (cbG u j))) i k = _
    unfold va_up
    by_cases e : i = j
    · rw [if_pos e]
      by_cases f : k = n
      · subst f; rw [pk_us, if_pos ⟨e, by omega⟩]
      · rw [pk_un f, hrV_at u j n j k]
        by_cases g : k < n
        · rw [if_pos ⟨rfl, g⟩, if_pos ⟨e, by omega⟩]
        · rw [if_neg (by omega), if_neg (by omega), e]
    · rw [if_neg e, hrV_at u j n i k, if_neg (by omega), if_neg (by omega)]
theorem mxH_L (u : cb_U) : ∀ n, cbL (mxH u n) = cbL u
  | 0 => rfl
  | n + 1 => mxH_L u n
theorem mxH_G (u : cb_U) : ∀ n, cbG (mxH u n) = cbG u
  | 0 => rfl
  | n + 1 => mxH_G u n
theorem mxH_S (u : cb_U) : ∀ n, cbS (mxH u n) = cbS u
  | 0 => rfl
  | n + 1 => mxH_S u n
theorem mxH_C (u : cb_U) : ∀ n, cbC (mxH u n) = cbC u
  | 0 => rfl
  | n + 1 => mxH_C u n
theorem mxH_O (u : cb_U) : ∀ n, cbO (mxH u n) = cbO u
  | 0 => rfl
  | n + 1 => mxH_O u n
theorem mxH_V (u : cb_U) : ∀ n i k, cbV (mxH u n) i k = if i < n ∧ k < 8 then cbVoice (cbL u i) (cbC u i k) (cbG u i) else cbV u i k
  | 0, i, k => by rw [if_neg (by omega)]; rfl
  | n + 1, i, k => by
    show hrV (mxH u n) n 8 i k = _
    rw [hrV_at, mxH_L, mxH_C, mxH_G, mxH_V u n i k]
    by_cases e : i = n
    · subst e
      by_cases f : k < 8
      · rw [if_pos ⟨rfl, f⟩, if_pos ⟨by omega, f⟩]
      · rw [if_neg (by omega), if_neg (by omega), if_neg (by omega)]
    · rw [if_neg (by omega)]
      by_cases f : i < n ∧ k < 8
      · rw [if_pos f, if_pos (by omega)]
      · rw [if_neg f, if_neg (by omega)]
theorem hrE_congr {u w : cb_U} (h1 : cbL u = cbL w) (h2 : cbC u = cbC w) (h3 : cbG u = cbG w) (j : Nat) : ∀ k, hrE u j k = hrE w j k
  | 0 => rfl
  | k + 1 => by rw [hrE, hrE, hrE_congr h1 h2 h3 j k, h1, h2, h3]
theorem mxH_E (u : cb_U) : ∀ n i, cbE (mxH u n) i = if i < n then hrE u i 8 else cbE u i
  | 0, i => by rw [if_neg (by omega)]; rfl
  | n + 1, i => by
    show vp_updL (cbE (mxH u n)) n (hrE (mxH u n) n 8) i = _
    rw [hrE_congr (mxH_L u n) (mxH_C u n) (mxH_G u n)]
    by_cases e : i = n
    · subst e; rw [pk_uLs, if_pos (by omega)]
    · rw [pk_uLn e, mxH_E u n i]
      by_cases f : i < n
      · rw [if_pos f, if_pos (by omega)]
      · rw [if_neg f, if_neg (by omega)]
theorem miV_at (v : md_U) (j : Nat) (V0 : Nat → Int32) : ∀ n x, miV v j V0 n x = if 8 * j ≤ x ∧ x < 8 * j + n then mdVoice (mdL v j) (mdI v x) (mdG v j) else V0 x
  | 0, x => by rw [if_neg (by omega)]; rfl
  | n + 1, x => by
    show upd (miV v j V0 n) (8 * j + n) (mdVoice (mdL v j) (mdI v (8 * j + n)) (mdG v j)) x = _
    by_cases e : x = 8 * j + n
    · subst e; rw [pk_us, if_pos (by omega)]
    · rw [pk_un e, miV_at v j V0 n x]
      by_cases g : 8 * j ≤ x ∧ x < 8 * j + n
      · rw [if_pos g, if_pos (by omega)]
      · rw [if_neg g, if_neg (by omega)]
theorem moV_at (v : md_U) : ∀ n i k, k < 8 → moV v n (8 * i + k) = if i < n then mdVoice (mdL v i) (mdI v (8 * i + k)) (mdG v i) else mdV v (8 * i + k)
  | 0, i, k, _ => by rw [if_neg (by omega)]; rfl
  | n + 1, i, k, hk => by
    show miV v n (moV v n) 8 (8 * i + k) = _
    rw [miV_at, moV_at v n i k hk]
    by_cases e : i = n
    · subst e; rw [if_pos (by omega), if_pos (by omega)]
    · rw [if_neg (by omega)]
      by_cases f : i < n
      · rw [if_pos f, if_pos (by omega)]
      · rw [if_neg f, if_neg (by omega)]
def mSum (v : md_U) (j : Nat) (e0 : Int64) : Nat → Int64
  | 0 => e0
  | k + 1 => mSum v j e0 k + (mdVoice (mdL v j) (mdI v (8 * j + k)) (mdG v j)).toInt64 * (mdVoice (mdL v j) (mdI v (8 * j + k)) (mdG v j)).toInt64
theorem miE_at (v : md_U) (j : Nat) (E0 : Nat → Int64) : ∀ n i, miE v j E0 n i = if i = j then mSum v j (E0 j) n else E0 i
  | 0, i => by
    by_cases e : i = j
    · rw [if_pos e, e]; rfl
    · rw [if_neg e]; rfl
  | n + 1, i => by
    show vp_updL (miE v j E0 n) j (miE v j E0 n j + (mdVoice (mdL v j) (mdI v (8 * j + n)) (mdG v j)).toInt64 * (mdVoice (mdL v j) (mdI v (8 * j + n)) (mdG v j)).toInt64) i = _
    by_cases e : i = j
    · subst e
      rw [pk_uLs, if_pos rfl, miE_at v i E0 n i, if_pos rfl]
      rfl
    · rw [pk_uLn e, if_neg e, miE_at v j E0 n i, if_neg e]
theorem moE_at (v : md_U) : ∀ n i, moE v n i = if i < n then mSum v i 0 8 else mdE v i
  | 0, i => by rw [if_neg (by omega)]; rfl
  | n + 1, i => by
    show miE v n (vp_updL (moE v n) n 0) 8 i = _
    rw [miE_at]
    by_cases e : i = n
    · subst e; rw [if_pos rfl, if_pos (by omega), pk_uLs]
    · rw [if_neg e, pk_uLn e, moE_at v n i]
      by_cases f : i < n
      · rw [if_pos f, if_pos (by omega)]
      · rw [if_neg f, if_neg (by omega)]
theorem pr_v {u : cb_U} {v : md_U} (R : pr_R u v) {i k : Nat} (hi : i < 8) (hk : k < 8) : cbVoice (cbL u i) (cbC u i k) (cbG u i) = mdVoice (mdL v i) (mdI v (8 * i + k)) (mdG v i) := by
  rw [(R.1 i hi).1, (R.2.2.2.1 i hi k hk).1, (R.2.1 i hi).1]
  exact pr_voice (R.1 i hi).2 (R.2.2.2.1 i hi k hk).2 (R.2.1 i hi).2
theorem pr_e {u : cb_U} {v : md_U} (R : pr_R u v) {i : Nat} (hi : i < 8) : ∀ k, k ≤ 8 → hrE u i k = mSum v i 0 k
  | 0, _ => rfl
  | k + 1, h => by rw [hrE, mSum, pr_e R hi k (by omega), pr_v R hi (by omega)]
theorem pr_sp (ch x : Int32) : fnX0_speaks ch x = 0 ↔ ((ch >>> (x &&& 31)) &&& (1 : Int32)) = 0 := by
  unfold fnX0_speaks
  by_cases h : ((ch >>> (x &&& 31)) &&& (1 : Int32)) = 0
  · rw [if_pos h]; exact ⟨fun _ => h, fun _ => rfl⟩
  · rw [if_neg h]; exact ⟨fun q => absurd q (by decide), fun q => absurd q h⟩
theorem lb_mb {u : cb_U} {v : md_U} (hS : ∀ i, i < 8 → cbS u i = mdS v i) (hE : ∀ i, i < 8 → cbE u i = mdE v i) (ch : Int32) : ∀ k, k ≤ 8 →
    (lbF u ch k = (-1, 0) ∧ mbF v ch k = -1) ∨ ∃ b, b < k ∧ lbF u ch k = (nI b, mdE v b) ∧ mbF v ch k = nI b ∧ 0 < mdE v b
  | 0, _ => Or.inl ⟨rfl, rfl⟩
  | k + 1, hk => by
    have ih := lb_mb hS hE ch k (by omega)
    rw [lbF, mbF, hS k (by omega), hE k (by omega)]
    have keep : (lbF u ch k = (-1, 0) ∧ mbF v ch k = -1) ∨ ∃ b, b < k + 1 ∧ lbF u ch k = (nI b, mdE v b) ∧ mbF v ch k = nI b ∧ 0 < mdE v b := by
      rcases ih with h | ⟨b, hb, h⟩
      · exact Or.inl h
      · exact Or.inr ⟨b, by omega, h⟩
    by_cases s0 : mdS v k = 0
    · by_cases x0 : ((ch >>> ((nI k) &&& 31)) &&& (1 : Int32)) = 0
      · simp only [if_pos s0, if_pos x0, if_pos ((pr_sp ch (nI k)).mpr x0)]
        rcases ih with ⟨h1, h2⟩ | ⟨b, hb, h1, h2, h3⟩
        · rw [h1, h2]
          by_cases c : lg_cmp (mdE v k) 0 ≤ 0
          · rw [if_pos c, if_pos c]; exact Or.inl ⟨rfl, rfl⟩
          · rw [if_neg c, if_neg c, if_pos (by decide)]
            refine Or.inr ⟨k, by omega, rfl, rfl, ?_⟩
            rw [lg_cmp_le] at c
            exact Int64.not_le.mp c
        · rw [h1, h2, if_neg (nI_pos (by omega) : ¬ nI b < 0), nI_clamp (by omega)]
          by_cases c : lg_cmp (mdE v k) (mdE v b) ≤ 0
          · rw [if_pos c, if_pos c, ite_self]; exact Or.inr ⟨b, by omega, rfl, rfl, h3⟩
          · have c0 : ¬ lg_cmp (mdE v k) 0 ≤ 0 := by
              rw [lg_cmp_le] at c ⊢
              exact fun q => c (Int64.le_trans q (Int64.le_of_lt h3))
            rw [if_neg c, if_neg c0, if_neg c]
            refine Or.inr ⟨k, by omega, rfl, rfl, ?_⟩
            rw [lg_cmp_le] at c0
            exact Int64.not_le.mp c0
      · simp only [if_pos s0, if_neg x0, if_neg (fun q => x0 ((pr_sp ch (nI k)).mp q))]
        exact keep
    · simp only [if_neg s0, ite_self]
      exact keep
theorem ms_fix {v : md_U} {ch : Int32} (h : mbF v ch 8 = -1) : ∀ r, msF v r ch = ch
  | 0 => rfl
  | r + 1 => by rw [msF, h, if_pos (by decide)]; exact ms_fix h r
theorem ch_ms {u : cb_U} {v : md_U} (hS : ∀ i, i < 8 → cbS u i = mdS v i) (hE : ∀ i, i < 8 → cbE u i = mdE v i) : ∀ r ch, chF u r ch = msF v r ch
  | 0, ch => rfl
  | r + 1, ch => by
    rcases lb_mb hS hE ch 8 (by omega) with ⟨h1, h2⟩ | ⟨b, hb, h1, h2, h3⟩
    · rw [chF, h1, if_pos rfl, ms_fix h2]
    · rw [chF, msF, h1, h2, if_neg (nI_pos (by omega) : ¬ nI b < 0)]
      have hn : ¬ nI b = -1 := by
        intro q
        exact absurd (show nI b < 0 by rw [q]; decide) (nI_pos (by omega))
      rw [if_neg hn]
      exact ch_ms hS hE r _
theorem pr_bit (x : Int32) : (x &&& (1 : Int32)) = 1 ↔ ¬ (x &&& (1 : Int32)) = 0 := by
  obtain ⟨j, hj, e⟩ := pk_andE x (m := 1) 1 (by decide)
  rw [e]
  match j, hj with
  | 0, _ => decide
  | 1, _ => decide
theorem pr_i1 (a b c : Int32) : a - b + c = a + c - b := by
  rw [Int32.sub_eq_add_neg, Int32.sub_eq_add_neg, Int32.add_assoc, Int32.add_comm (-b) c, ← Int32.add_assoc]
theorem pr_i2 (a b : Int32) : a + b - b = a := by
  rw [Int32.sub_eq_add_neg, Int32.add_assoc, Int32.add_right_neg, Int32.add_zero]
theorem su_mc {u : cb_U} {v : md_U} {k : Nat} (hV : ∀ o, o < 8 → cbV u o k = mdV v (8 * o + k)) (ch : Int32) {j : Nat} (hj : j < 8) : ∀ n, n ≤ 8 →
    mcF v ch j k n = if j < n ∧ ¬ fnX0_speaks ch (nI j) = 0 then suF u ch k n - cbV u j k else suF u ch k n
  | 0, _ => by rw [if_neg (by omega)]; rfl
  | n + 1, hn => by
    have ih := su_mc hV ch hj n (by omega)
    rw [mcF, suF]
    by_cases e : n = j
    · subst e
      rw [if_pos rfl, Int32.add_zero, ih, if_neg (by omega)]
      by_cases s : fnX0_speaks ch (nI n) = 0
      · rw [if_pos s, if_neg (fun q => q.2 s)]
      · rw [if_neg s, if_pos ⟨by omega, s⟩, pr_i2]
    · rw [if_neg (fun q => e ((nI_eq (by omega) (by omega)).mp q)), ih, ← hV n (by omega)]
      by_cases s : fnX0_speaks ch (nI n) = 0
      · have hb : ¬ ((ch >>> ((nI n) &&& 31)) &&& (1 : Int32)) = 1 := fun q => (pr_bit _).mp q ((pr_sp ch (nI n)).mp s)
        rw [if_neg hb, if_pos s, Int32.add_zero]
        by_cases g : j < n ∧ ¬ fnX0_speaks ch (nI j) = 0
        · rw [if_pos g, if_pos ⟨by omega, g.2⟩]
        · rw [if_neg g, if_neg (fun q => g ⟨by omega, q.2⟩)]
      · have hb : ((ch >>> ((nI n) &&& 31)) &&& (1 : Int32)) = 1 := (pr_bit _).mpr (fun q => s ((pr_sp ch (nI n)).mpr q))
        rw [if_pos hb, if_neg s]
        by_cases g : j < n ∧ ¬ fnX0_speaks ch (nI j) = 0
        · rw [if_pos g, if_pos ⟨by omega, g.2⟩, pr_i1]
        · rw [if_neg g, if_neg (fun q => g ⟨by omega, q.2⟩)]
theorem suZ_at (u : cb_U) (ch : Int32) : ∀ n k, suZ u ch n k = if k < n then suF u ch k 8 else cbZ u k
  | 0, k => by rw [if_neg (by omega)]; rfl
  | n + 1, k => by
    show upd (suZ u ch n) n (suF u ch n 8) k = _
    by_cases e : k = n
    · subst e; rw [pk_us, if_pos (by omega)]
    · rw [pk_un e, suZ_at u ch n k]
      by_cases f : k < n
      · rw [if_pos f, if_pos (by omega)]
      · rw [if_neg f, if_neg (by omega)]
theorem anO_at (u : cb_U) (j : Nat) (sp : Int32) : ∀ n i k, anO u j sp n i k = if i = j ∧ k < n then fnX0_codeOf (cbL u j) (fnX0_saturated (cbAns u j sp k).toInt64) else cbO u i k
  | 0, i, k => by rw [if_neg (by omega)]; rfl
  | n + 1, i, k => by
    show va_up (anO u j sp n) j (upd (anO u j sp n j) n (fnX0_codeOf (cbL u j) (fnX0_saturated (cbAns u j sp n).toInt64))) i k = _
    unfold va_up
    by_cases e : i = j
    · rw [if_pos e]
      by_cases f : k = n
      · subst f; rw [pk_us, if_pos ⟨e, by omega⟩]
      · rw [pk_un f, anO_at u j sp n j k]
        by_cases g : k < n
        · rw [if_pos ⟨rfl, g⟩, if_pos ⟨e, by omega⟩]
        · rw [if_neg (by omega), if_neg (by omega), e]
    · rw [if_neg e, anO_at u j sp n i k, if_neg (by omega), if_neg (by omega)]
theorem mxA_keep (u : cb_U) (ch : Int32) : ∀ n, cbL (mxA u ch n) = cbL u ∧ cbG (mxA u ch n) = cbG u ∧ cbS (mxA u ch n) = cbS u ∧ cbC (mxA u ch n) = cbC u ∧ cbM (mxA u ch n) = cbM u ∧ cbV (mxA u ch n) = cbV u ∧ cbE (mxA u ch n) = cbE u ∧ cbZ (mxA u ch n) = cbZ u
  | 0 => ⟨rfl, rfl, rfl, rfl, rfl, rfl, rfl, rfl⟩
  | n + 1 => mxA_keep u ch n
theorem cbAns_congr {u w : cb_U} (h1 : cbZ u = cbZ w) (h2 : cbV u = cbV w) (j : Nat) (sp : Int32) (k : Nat) : cbAns u j sp k = cbAns w j sp k := by unfold cbAns; rw [h1, h2]
theorem mxA_O (u : cb_U) (ch : Int32) : ∀ n i k, cbO (mxA u ch n) i k = if i < n ∧ k < 8 then fnX0_codeOf (cbL u i) (fnX0_saturated (cbAns u i (fnX0_speaks ch (nI i)) k).toInt64) else cbO u i k
  | 0, i, k => by rw [if_neg (by omega)]; rfl
  | n + 1, i, k => by
    show anO (mxA u ch n) n (fnX0_speaks ch (nI n)) 8 i k = _
    obtain ⟨kL, -, -, -, -, kV, -, kZ⟩ := mxA_keep u ch n
    rw [anO_at, kL, cbAns_congr kZ kV, mxA_O u ch n i k]
    by_cases e : i = n
    · subst e
      by_cases f : k < 8
      · rw [if_pos ⟨rfl, f⟩, if_pos ⟨by omega, f⟩]
      · rw [if_neg (by omega), if_neg (by omega), if_neg (by omega)]
    · rw [if_neg (by omega)]
      by_cases f : i < n ∧ k < 8
      · rw [if_pos f, if_pos (by omega)]
      · rw [if_neg f, if_neg (by omega)]
theorem mcO_at (v : md_U) (st : Int32) (j : Nat) (O0 : Nat → Int32) : ∀ n x, mcO v st j O0 n x = if 8 * j ≤ x ∧ x < 8 * j + n then fnX1_codeOf (mdL v j) (fnX1_held (mcF v st j (x - 8 * j) 8).toInt64) else O0 x
  | 0, x => by rw [if_neg (by omega)]; rfl
  | n + 1, x => by
    show upd (mcO v st j O0 n) (8 * j + n) (fnX1_codeOf (mdL v j) (fnX1_held (mcF v st j n 8).toInt64)) x = _
    by_cases e : x = 8 * j + n
    · subst e; rw [pk_us, if_pos (by omega), show 8 * j + n - 8 * j = n by omega]
    · rw [pk_un e, mcO_at v st j O0 n x]
      by_cases g : 8 * j ≤ x ∧ x < 8 * j + n
      · rw [if_pos g, if_pos (by omega)]
      · rw [if_neg g, if_neg (by omega)]
theorem mcP_at (v : md_U) (st : Int32) : ∀ n i k, k < 8 → mcP v st n (8 * i + k) = if i < n then fnX1_codeOf (mdL v i) (fnX1_held (mcF v st i k 8).toInt64) else mdO v (8 * i + k)
  | 0, i, k, _ => by rw [if_neg (by omega)]; rfl
  | n + 1, i, k, hk => by
    show mcO v st n (mcP v st n) 8 (8 * i + k) = _
    rw [mcO_at, mcP_at v st n i k hk]
    by_cases e : i = n
    · subst e; rw [if_pos (by omega), if_pos (by omega), show 8 * i + k - 8 * i = k by omega]
    · rw [if_neg (by omega)]
      by_cases f : i < n
      · rw [if_pos f, if_pos (by omega)]
      · rw [if_neg f, if_neg (by omega)]
theorem pr_hear {u : cb_U} {v : md_U} (R : pr_R u v) : pr_R (mxH u 8) (mdHear v) ∧ ∀ i, i < 8 → ∀ k, k < 8 → cbV (mxH u 8) i k = mdV (mdHear v) (8 * i + k) := by
  refine ⟨⟨fun i hi => ?_, fun i hi => ?_, fun i hi => ?_, fun i hi k hk => ?_, fun i hi k hk => ?_, ?_, fun i hi => ?_⟩, fun i hi k hk => ?_⟩
  · rw [mxH_L]; exact R.1 i hi
  · rw [mxH_G]; exact R.2.1 i hi
  · rw [mxH_S]; exact R.2.2.1 i hi
  · rw [mxH_C]; exact R.2.2.2.1 i hi k hk
  · rw [mxH_O]; exact R.2.2.2.2.1 i hi k hk
  · rw [mxH_M]; exact R.2.2.2.2.2.1
  · rw [mxH_E, if_pos hi]
    show hrE u i 8 = moE v 8 i
    rw [moE_at, if_pos hi]
    exact pr_e R hi 8 (by omega)
  · rw [mxH_V, if_pos ⟨hi, hk⟩]
    show _ = moV v 8 (8 * i + k)
    rw [moV_at v 8 i k hk, if_pos hi]
    exact pr_v R hi hk
theorem pr_mixD {x : cb_U} {y : md_U} (R1 : pr_R x y) (hV : ∀ i, i < 8 → ∀ k, k < 8 → cbV x i k = mdV y (8 * i + k)) (ch : Int32) : pr_R (mxA (cbSumUp x ch) ch 8) (md_sO y (mcP y ch 8)) := by
  generalize hw : cbSumUp x ch = w
  have wL : cbL w = cbL x := by rw [← hw]; rfl
  have wG : cbG w = cbG x := by rw [← hw]; rfl
  have wS : cbS w = cbS x := by rw [← hw]; rfl
  have wC : cbC w = cbC x := by rw [← hw]; rfl
  have wM : cbM w = cbM x := by rw [← hw]; rfl
  have wV : cbV w = cbV x := by rw [← hw]; rfl
  have wE : cbE w = cbE x := by rw [← hw]; rfl
  have wZ : cbZ w = suZ x ch 8 := by rw [← hw]; rfl
  obtain ⟨kL, kG, kS, kC, kM, kV, kE, kZ⟩ := mxA_keep w ch 8
  refine ⟨fun i hi => ?_, fun i hi => ?_, fun i hi => ?_, fun i hi k hk => ?_, fun i hi k hk => ?_, ?_, fun i hi => ?_⟩
  · rw [kL, wL]; exact R1.1 i hi
  · rw [kG, wG]; exact R1.2.1 i hi
  · rw [kS, wS]; exact R1.2.2.1 i hi
  · rw [kC, wC]; exact R1.2.2.2.1 i hi k hk
  · rw [mxA_O, if_pos ⟨hi, hk⟩, wL]
    show _ = mcP y ch 8 (8 * i + k)
    rw [mcP_at y ch 8 i k hk, if_pos hi, (R1.1 i hi).1, pr_sat]
    have e1 : cbAns w i (fnX0_speaks ch (nI i)) k = mcF y ch i k 8 := by
      rw [su_mc (u := x) (fun o ho => hV o ho k hk) ch hi 8 (by omega)]
      unfold cbAns
      rw [wZ, wV, suZ_at, if_pos hk]
      by_cases s : fnX0_speaks ch (nI i) = 0
      · rw [if_pos s, if_neg (fun q => q.2 s)]
      · rw [if_neg s, if_pos ⟨hi, s⟩]
    rw [e1]
    exact (pr_code (R1.1 i hi).2 (md_held_lo _) (md_held_hi _)).1
  · rw [kM, wM]; exact R1.2.2.2.2.2.1
  · rw [kE, wE]; exact R1.2.2.2.2.2.2 i hi
theorem pr_mixC {u : cb_U} {v : md_U} (R : pr_R u v) (M : Nat) : anX0_mix u M = anX1_mix v M ∧ pr_R (stX0_mix u M) (stX1_mix v M) := by
  obtain ⟨R1, hV⟩ := pr_hear R
  have ea : anX0_mix u M = anX1_mix v M := by
    unfold anX0_mix anX1_mix
    exact ch_ms R1.2.2.1 R1.2.2.2.2.2.2 M 0
  refine ⟨ea, ?_⟩
  unfold stX0_mix stX1_mix
  rw [ea]
  exact pr_mixD R1 hV _
