/-! the class's values u and the reference's v belong together -/
def pr_R (u : cb_U) (v : md_U) : Prop :=
  (∀ i, i < 8 → cbL u i = mdL v i ∧ (mdL v i = 0 ∨ mdL v i = 1)) ∧ (∀ i, i < 8 → cbG u i = mdG v i ∧ vp_in (mdG v i) 1025) ∧ (∀ i, i < 8 → cbS u i = mdS v i) ∧
  (∀ i, i < 8 → ∀ k, k < 8 → cbC u i k = mdI v (8 * i + k) ∧ vp_in (mdI v (8 * i + k)) 256) ∧ (∀ i, i < 8 → ∀ k, k < 8 → cbO u i k = mdO v (8 * i + k)) ∧
  (∃ M, M ≤ 8 ∧ cbM u = nI M ∧ mdM v = nI M) ∧ (∀ i, i < 8 → cbE u i = mdE v i)
theorem pr_hL {u : cb_U} {v : md_U} (h : pr_R u v) : ∀ i, i < 8 → mdL v i = 0 ∨ mdL v i = 1 := fun i hi => (h.1 i hi).2
theorem pr_hI {u : cb_U} {v : md_U} (h : pr_R u v) : ∀ i, i < 64 → vp_in (mdI v i) 256 := fun i hi => by
  have q := (h.2.2.2.1 (i / 8) (by omega) (i % 8) (by omega)).2
  rw [show 8 * (i / 8) + i % 8 = i by omega] at q
  exact q
theorem pr_T {u : cb_U} {v : md_U} (x : Int32) (h : pr_R u v) : pr_R u (md_sT v x) := h
theorem pr_upd {f g : Nat → Int32} {j i : Nat} {x : Int32} (h : f i = g i) : upd f j x i = upd g j x i := by
  by_cases e : i = j
  · subst e; rw [pk_us, pk_us]
  · rw [pk_un e, pk_un e]; exact h
theorem pr_ixc {x y : Int32} (h : vp_in x 8) (h2 : vp_in y 8) : ((8 : Int32) * x + y).toNatClampNeg = 8 * x.toNatClampNeg + y.toNatClampNeg := by
  obtain ⟨a, ha, rfl⟩ := vp_in_of h (by decide)
  obtain ⟨b, hb, rfl⟩ := vp_in_of h2 (by decide)
  rw [md_ixN, nI_clamp (by omega), nI_clamp (by omega), nI_clamp (by omega)]
theorem pr_no {a : Int32} (h : fnX1_not a (8 : Int32) = 0) : ¬ fnX0_isParty a = 0 := fun q => (pr_party a).mp q h
theorem pr_yes {a : Int32} (h : ¬ fnX1_not a (8 : Int32) = 0) : fnX0_isParty a = 0 := (pr_party a).mpr h
theorem pr_noP {a : Int32} (h : fnX1_not a (8 : Int32) = 0) : ¬ fnX0_isPlace a = 0 := fun q => (pr_place a).mp q h
theorem pr_yesP {a : Int32} (h : ¬ fnX1_not a (8 : Int32) = 0) : fnX0_isPlace a = 0 := (pr_place a).mpr h
theorem pr_noL {a : Int32} (h : fnX1_not a (2 : Int32) = 0) : ¬ fnX0_isLaw a = 0 := fun q => (pr_law a).mp q h
theorem pr_yesL {a : Int32} (h : ¬ fnX1_not a (2 : Int32) = 0) : fnX0_isLaw a = 0 := (pr_law a).mpr h
theorem pr_encode {u : cb_U} {v : md_U} (R : pr_R u v) (a1 a2 : Int32) : anX0_encode u a1 a2 = anX1_encode v a1 a2 ∧ pr_R (stX0_encode u a1 a2) (stX1_encode v a1 a2) := by
  unfold anX0_encode anX1_encode stX0_encode stX1_encode
  by_cases h : fnX1_not a1 (2 : Int32) = 0
  · have h' := pr_noL h
    simp only [if_neg h', if_pos h]
    rw [pr_sat]
    exact ⟨(pr_code (md_law01 h) (md_held_lo _) (md_held_hi _)).1, R⟩
  · have h' := pr_yesL h
    simp only [if_pos h', if_neg h]
    exact ⟨by trivial, R⟩
theorem pr_lawC {u : cb_U} {v : md_U} (R : pr_R u v) (a1 a2 : Int32) : anX0_law u a1 a2 = anX1_law v a1 a2 ∧ pr_R (stX0_law u a1 a2) (stX1_law v a1 a2) := by
  unfold anX0_law anX1_law stX0_law stX1_law
  by_cases h : fnX1_not a1 (8 : Int32) = 0
  · have h' := pr_no h
    by_cases g : fnX1_not a2 (2 : Int32) = 0
    · have g' := pr_noL g
      simp only [if_neg h', if_pos h, if_neg g', if_pos g]
      refine ⟨by trivial, fun i hi => ⟨pr_upd (R.1 i hi).1, ?_⟩, R.2⟩
      show upd (mdL v) a1.toNatClampNeg a2 i = 0 ∨ upd (mdL v) a1.toNatClampNeg a2 i = 1
      by_cases e : i = a1.toNatClampNeg
      · subst e; rw [pk_us]; exact md_law01 g
      · rw [pk_un e]; exact (R.1 i hi).2
    · have g' := pr_yesL g
      simp only [if_neg h', if_pos h, if_pos g', if_neg g]
      exact ⟨by trivial, R⟩
  · have h' := pr_yes h
    simp only [if_pos h', if_neg h]
    exact ⟨by trivial, R⟩
theorem pr_gain1 (a2 : Int32) : fnX1_not a2 (1025 : Int32) = 0 ↔ (¬ a2 < 0 ∧ a2 ≤ 1024) := by
  constructor
  · intro h
    obtain ⟨j, hj, rfl⟩ := vp_in_of (md_not (n := 1025) h (by decide)) (by decide)
    exact ⟨nI_pos (by omega), nI_le (b := 1024) (by omega) (by decide)⟩
  · intro ⟨h1, h2⟩
    obtain ⟨j, hj, rfl⟩ := nI_of h1
    have h3 : j ≤ 1024 := (nI_leI (b := 1024) hj (by decide)).mp h2
    unfold fnX1_not
    rw [if_neg h1, if_pos (show nI j < (1025 : Int32) from (nI_ltI (b := 1025) hj (by decide)).mpr (by omega))]
theorem pr_gainC {u : cb_U} {v : md_U} (R : pr_R u v) (a1 a2 : Int32) : anX0_gain u a1 a2 = anX1_gain v a1 a2 ∧ pr_R (stX0_gain u a1 a2) (stX1_gain v a1 a2) := by
  unfold anX0_gain anX1_gain stX0_gain stX1_gain
  by_cases h : fnX1_not a1 (8 : Int32) = 0
  · have h' := pr_no h
    by_cases g : fnX1_not a2 (1025 : Int32) = 0
    · obtain ⟨g1, g2⟩ := (pr_gain1 a2).mp g
      simp only [if_neg h', if_pos h, if_neg g1, if_pos g2, if_pos g]
      refine ⟨by trivial, R.1, fun i hi => ⟨pr_upd (R.2.1 i hi).1, ?_⟩, R.2.2⟩
      show vp_in (upd (mdG v) a1.toNatClampNeg a2 i) 1025
      by_cases e : i = a1.toNatClampNeg
      · subst e; rw [pk_us]; exact md_not (n := 1025) g (by decide)
      · rw [pk_un e]; exact (R.2.1 i hi).2
    · simp only [if_neg h', if_pos h, if_neg g]
      by_cases g1 : a2 < 0
      · simp only [if_pos g1]; exact ⟨by trivial, R⟩
      · by_cases g2 : a2 ≤ 1024
        · exact absurd ((pr_gain1 a2).mpr ⟨g1, g2⟩) g
        · simp only [if_neg g1, if_neg g2]; exact ⟨by trivial, R⟩
  · have h' := pr_yes h
    simp only [if_pos h', if_neg h]
    exact ⟨by trivial, R⟩
theorem pr_muteC {u : cb_U} {v : md_U} (R : pr_R u v) (a1 a2 : Int32) : anX0_mute u a1 a2 = anX1_mute v a1 a2 ∧ pr_R (stX0_mute u a1 a2) (stX1_mute v a1 a2) := by
  unfold anX0_mute anX1_mute stX0_mute stX1_mute
  by_cases h : fnX1_not a1 (8 : Int32) = 0
  · have h' := pr_no h
    simp only [if_neg h', if_pos h]
    exact ⟨by trivial, R.1, R.2.1, fun i hi => pr_upd (R.2.2.1 i hi), R.2.2.2⟩
  · have h' := pr_yes h
    simp only [if_pos h', if_neg h]
    exact ⟨by trivial, R⟩
theorem pr_speakersC {u : cb_U} {v : md_U} (R : pr_R u v) (a1 : Int32) : anX0_speakers u a1 = anX1_speakers v a1 ∧ pr_R (stX0_speakers u a1) (stX1_speakers v a1) := by
  unfold anX0_speakers anX1_speakers stX0_speakers stX1_speakers
  by_cases h : a1 < 1
  · simp only [if_pos h]; exact ⟨by trivial, R⟩
  · by_cases g : a1 ≤ 8
    · simp only [if_neg h, if_pos g]
      have h0 : ¬ a1 < 0 := fun q => h (by rw [Int32.lt_iff_toInt_lt] at q ⊢; have q' : a1.toInt < 0 := q; show a1.toInt < 1; omega)
      obtain ⟨j, hj, rfl⟩ := nI_of h0
      exact ⟨by trivial, R.1, R.2.1, R.2.2.1, R.2.2.2.1, R.2.2.2.2.1, ⟨j, (nI_leI (b := 8) hj (by decide)).mp g, rfl, rfl⟩, R.2.2.2.2.2.2⟩
    · simp only [if_neg h, if_neg g]; exact ⟨by trivial, R⟩
theorem pr_putC {u : cb_U} {v : md_U} (R : pr_R u v) (a1 a2 a3 : Int32) : anX0_put u a1 a2 a3 = anX1_put v a1 a2 a3 ∧ pr_R (stX0_put u a1 a2 a3) (stX1_put v a1 a2 a3) := by
  unfold anX0_put anX1_put stX0_put stX1_put
  by_cases h : fnX1_not a1 (8 : Int32) = 0
  · have h' := pr_no h
    by_cases g : fnX1_not a2 (8 : Int32) = 0
    · have g' := pr_noP g
      simp only [if_neg h', if_pos h, if_neg g', if_pos g]
      have v1 := md_not (n := 8) h (by decide)
      have v2 := md_not (n := 8) g (by decide)
      have l1 := cb_vin v1
      have l2 := cb_vin v2
      refine ⟨by trivial, R.1, R.2.1, R.2.2.1, fun i hi k hk => ?_, R.2.2.2.2⟩
      show va_up (cbC u) a1.toNatClampNeg (upd (cbC u a1.toNatClampNeg) a2.toNatClampNeg (a3 &&& (255 : Int32))) i k = upd (mdI v) ((8 : Int32) * a1 + a2).toNatClampNeg (a3 &&& (255 : Int32)) (8 * i + k) ∧ vp_in (upd (mdI v) ((8 : Int32) * a1 + a2).toNatClampNeg (a3 &&& (255 : Int32)) (8 * i + k)) 256
      rw [pr_ixc v1 v2]
      generalize a1.toNatClampNeg = x at l1 ⊢
      generalize a2.toNatClampNeg = y at l2 ⊢
      by_cases e : 8 * i + k = 8 * x + y
      · obtain ⟨rfl, rfl⟩ : i = x ∧ k = y := by omega
        rw [pk_us]
        refine ⟨?_, md_255 a3⟩
        unfold va_up
        rw [if_pos rfl, pk_us]
      · rw [pk_un e]
        refine ⟨?_, (R.2.2.2.1 i hi k hk).2⟩
        rw [← (R.2.2.2.1 i hi k hk).1]
        unfold va_up
        by_cases ei : i = x
        · subst ei
          rw [if_pos rfl, pk_un (by omega)]
        · rw [if_neg ei]
    · have g' := pr_yesP g
      simp only [if_neg h', if_pos h, if_pos g', if_neg g]
      exact ⟨by trivial, R⟩
  · have h' := pr_yes h
    simp only [if_pos h', if_neg h]
    exact ⟨by trivial, R⟩
theorem pr_outC {u : cb_U} {v : md_U} (R : pr_R u v) (a1 a2 : Int32) : anX0_out u a1 a2 = anX1_out v a1 a2 ∧ pr_R (stX0_out u a1 a2) (stX1_out v a1 a2) := by
  unfold anX0_out anX1_out stX0_out stX1_out
  by_cases h : fnX1_not a1 (8 : Int32) = 0
  · have h' := pr_no h
    by_cases g : fnX1_not a2 (8 : Int32) = 0
    · have g' := pr_noP g
      simp only [if_neg h', if_pos h, if_neg g', if_pos g]
      have v1 := md_not (n := 8) h (by decide)
      have v2 := md_not (n := 8) g (by decide)
      refine ⟨?_, R⟩
      rw [pr_ixc v1 v2]
      exact R.2.2.2.2.1 _ (cb_vin v1) _ (cb_vin v2)
    · have g' := pr_yesP g
      simp only [if_neg h', if_pos h, if_pos g', if_neg g]
      exact ⟨by trivial, R⟩
  · have h' := pr_yes h
    simp only [if_pos h', if_neg h]
    exact ⟨by trivial, R⟩
theorem rpC_at (u : cb_U) (j : Nat) (a2 a3 : Int32) : ∀ n i k, rpC u j a2 a3 n i k = if i = j ∧ k < n then fnX0_codeOf (cbL u j) (fnX0_saturated (a2.toInt64 + (nI k).toInt64 * a3.toInt64)) else cbC u i k
  | 0, i, k => by rw [if_neg (by omega)]; rfl
  | n + 1, i, k => by
    show va_up (rpC u j a2 a3 n) j (upd (rpC u j a2 a3 n j) n (fnX0_codeOf (cbL u j) (fnX0_saturated (a2.toInt64 + (nI n).toInt64 * a3.toInt64)))) i k = _
    unfold va_up
    by_cases e : i = j
    · rw [if_pos e]
      by_cases f : k = n
      · subst f; rw [pk_us, if_pos ⟨e, by omega⟩]
      · rw [pk_un f, rpC_at u j a2 a3 n j k]
        by_cases g : k < n
        · rw [if_pos ⟨rfl, g⟩, if_pos ⟨e, by omega⟩]
        · rw [if_neg (by omega), if_neg (by omega), e]
    · rw [if_neg e, rpC_at u j a2 a3 n i k, if_neg (by omega), if_neg (by omega)]
theorem rmI_at (v : md_U) (j : Nat) (a2 a3 : Int32) : ∀ n x, rmI v j a2 a3 n x = if 8 * j ≤ x ∧ x < 8 * j + n then fnX1_codeOf (mdL v j) (fnX1_held (a2.toInt64 + (nI (x - 8 * j)).toInt64 * a3.toInt64)) else mdI v x
  | 0, x => by rw [if_neg (by omega)]; rfl
  | n + 1, x => by
    show upd (rmI v j a2 a3 n) (8 * j + n) (fnX1_codeOf (mdL v j) (fnX1_held (a2.toInt64 + (nI n).toInt64 * a3.toInt64))) x = _
    by_cases e : x = 8 * j + n
    · subst e; rw [pk_us, if_pos (by omega), show 8 * j + n - 8 * j = n by omega]
    · rw [pk_un e, rmI_at v j a2 a3 n x]
      by_cases g : 8 * j ≤ x ∧ x < 8 * j + n
      · rw [if_pos g, if_pos (by omega)]
      · rw [if_neg g, if_neg (by omega)]
theorem pr_rampC {u : cb_U} {v : md_U} (R : pr_R u v) (a1 a2 a3 : Int32) : anX0_ramp a1 = anX1_ramp a1 ∧ pr_R (stX0_ramp u a1 a2 a3) (stX1_ramp v a1 a2 a3) := by
  unfold anX0_ramp anX1_ramp stX0_ramp stX1_ramp
  by_cases h : fnX1_not a1 (8 : Int32) = 0
  · have h' := pr_no h
    simp only [if_neg h', if_pos h]
    have l1 := cb_vin (md_not (n := 8) h (by decide))
    refine ⟨by trivial, R.1, R.2.1, R.2.2.1, fun i hi k hk => ?_, R.2.2.2.2⟩
    show rpC u a1.toNatClampNeg a2 a3 8 i k = rmI v a1.toNatClampNeg a2 a3 8 (8 * i + k) ∧ vp_in (rmI v a1.toNatClampNeg a2 a3 8 (8 * i + k)) 256
    generalize a1.toNatClampNeg = j at l1 ⊢
    rw [rpC_at, rmI_at]
    by_cases e : i = j
    · subst e
      rw [if_pos ⟨rfl, hk⟩, if_pos (by omega), show 8 * i + k - 8 * i = k by omega, pr_sat, (R.1 i hi).1]
      exact pr_code (R.1 i hi).2 (md_held_lo _) (md_held_hi _)
    · rw [if_neg (by omega), if_neg (by omega)]
      exact R.2.2.2.1 i hi k hk
  · have h' := pr_yes h
    simp only [if_pos h', if_neg h]
    exact ⟨by trivial, R⟩
