/-! the state of a ConferenceBridge (cb_): its values u, its cells at the addresses ad, classes of arrays ct (0 int, 1 boolean, 2 int rows, 3 long); of the reference (md_) likewise -/
abbrev cb_U : Type := (Nat → Int32) × (Nat → Int32) × (Nat → Int32) × (Nat → Nat → Int32) × (Nat → Nat → Int32) × Int32 × (Nat → Nat → Int32) × (Nat → Int64) × (Nat → Int32)
abbrev cbL (u : cb_U) : Nat → Int32 := u.1
abbrev cbG (u : cb_U) : Nat → Int32 := u.2.1
abbrev cbS (u : cb_U) : Nat → Int32 := u.2.2.1
abbrev cbC (u : cb_U) : Nat → Nat → Int32 := u.2.2.2.1
abbrev cbO (u : cb_U) : Nat → Nat → Int32 := u.2.2.2.2.1
abbrev cbM (u : cb_U) : Int32 := u.2.2.2.2.2.1
abbrev cbV (u : cb_U) : Nat → Nat → Int32 := u.2.2.2.2.2.2.1
abbrev cbE (u : cb_U) : Nat → Int64 := u.2.2.2.2.2.2.2.1
abbrev cbZ (u : cb_U) : Nat → Int32 := u.2.2.2.2.2.2.2.2
abbrev cb_sL (u : cb_U) (x : Nat → Int32) : cb_U := (x, cbG u, cbS u, cbC u, cbO u, cbM u, cbV u, cbE u, cbZ u)
abbrev cb_sG (u : cb_U) (x : Nat → Int32) : cb_U := (cbL u, x, cbS u, cbC u, cbO u, cbM u, cbV u, cbE u, cbZ u)
abbrev cb_sS (u : cb_U) (x : Nat → Int32) : cb_U := (cbL u, cbG u, x, cbC u, cbO u, cbM u, cbV u, cbE u, cbZ u)
abbrev cb_sC (u : cb_U) (x : Nat → Nat → Int32) : cb_U := (cbL u, cbG u, cbS u, x, cbO u, cbM u, cbV u, cbE u, cbZ u)
abbrev cb_sO (u : cb_U) (x : Nat → Nat → Int32) : cb_U := (cbL u, cbG u, cbS u, cbC u, x, cbM u, cbV u, cbE u, cbZ u)
abbrev cb_sM (u : cb_U) (x : Int32) : cb_U := (cbL u, cbG u, cbS u, cbC u, cbO u, x, cbV u, cbE u, cbZ u)
abbrev cb_sV (u : cb_U) (x : Nat → Nat → Int32) : cb_U := (cbL u, cbG u, cbS u, cbC u, cbO u, cbM u, x, cbE u, cbZ u)
abbrev cb_sE (u : cb_U) (x : Nat → Int64) : cb_U := (cbL u, cbG u, cbS u, cbC u, cbO u, cbM u, cbV u, x, cbZ u)
abbrev cb_sZ (u : cb_U) (x : Nat → Int32) : cb_U := (cbL u, cbG u, cbS u, cbC u, cbO u, cbM u, cbV u, cbE u, x)
abbrev cb_fs (ad : Nat → Nat) (u : cb_U) : List Value := [.ref (ad 1), .ref (ad 2), .ref (ad 3), .ref (ad 4), .ref (ad 5), .int (cbM u), .ref (ad 6), .ref (ad 7), .ref (ad 8)]
def cb_o (f : Nat → Nat) : Nat → Option Nat := fun i => if i < 8 then some (f i) else none
theorem cb_o_at {f : Nat → Nat} {i : Nat} (h : i < 8) : cb_o f i = some (f i) := if_pos h
def cb_rows (ct : Nat → ClassId) (r : Nat → Nat) (M : Nat → Nat → Int32) : va_W := [(r 0, .inl (ct 0, 8, .inl (M 0))), (r 1, .inl (ct 0, 8, .inl (M 1))), (r 2, .inl (ct 0, 8, .inl (M 2))), (r 3, .inl (ct 0, 8, .inl (M 3))), (r 4, .inl (ct 0, 8, .inl (M 4))), (r 5, .inl (ct 0, 8, .inl (M 5))), (r 6, .inl (ct 0, 8, .inl (M 6))), (r 7, .inl (ct 0, 8, .inl (M 7)))]
def cb_w (ct : Nat → ClassId) (ad : Nat → Nat) (u : cb_U) : va_W := [(ad 0, .inr (0, cb_fs ad u)), (ad 1, .inl (ct 0, 8, .inl (cbL u))), (ad 2, .inl (ct 0, 8, .inl (cbG u))), (ad 3, .inl (ct 1, 8, .inl (cbS u))), (ad 4, .inl (ct 2, 8, .inr (.inr (.inr (.inr (cb_o (fun i => ad (9 + i)))))))), (ad 5, .inl (ct 2, 8, .inr (.inr (.inr (.inr (cb_o (fun i => ad (17 + i)))))))), (ad 6, .inl (ct 2, 8, .inr (.inr (.inr (.inr (cb_o (fun i => ad (25 + i)))))))), (ad 7, .inl (ct 3, 8, .inr (.inl (cbE u)))), (ad 8, .inl (ct 0, 8, .inl (cbZ u)))] ++ (cb_rows ct (fun i => ad (9 + i)) (cbC u) ++ (cb_rows ct (fun i => ad (17 + i)) (cbO u) ++ cb_rows ct (fun i => ad (25 + i)) (cbV u)))
abbrev cb_ty (ct : Nat → ClassId) : List (ClassId × FieldType) := [(ct 0, .int), (ct 1, .boolean), (ct 2, .array .int), (ct 3, .long)]
abbrev cb_B (dC : Nat → ClassId) (dI : Nat → Nat → Nat) (ct : Nat → ClassId) (ad : Nat → Nat) (A : Nat → Prop) (u : cb_U) (t : State) : Prop := va_P (dC, dI) vwCl (cb_w ct ad u) t.heap ∧ va_K (dC, dI) vwCl (cb_ty ct) t ∧ va_D A (cb_w ct ad u)
theorem cb_atC (ct : Nat → ClassId) (ad : Nat → Nat) (u : cb_U) : ∀ i, i < 8 → (cb_w ct ad u)[9 + i]? = some (ad (9 + i), .inl (ct 0, 8, .inl (cbC u i))) := by
  intro i hi
  match i, hi with
  | 0, _ => rfl
  | 1, _ => rfl
  | 2, _ => rfl
  | 3, _ => rfl
  | 4, _ => rfl
  | 5, _ => rfl
  | 6, _ => rfl
  | 7, _ => rfl
theorem cb_putC (ct : Nat → ClassId) (ad : Nat → Nat) (u : cb_U) (f : Nat → Int32) : ∀ i, i < 8 → (cb_w ct ad u).set (9 + i) (ad (9 + i), .inl (ct 0, 8, .inl f)) = cb_w ct ad (cb_sC u (va_up (cbC u) i f)) := by
  intro i hi
  match i, hi with
  | 0, _ => rfl
  | 1, _ => rfl
  | 2, _ => rfl
  | 3, _ => rfl
  | 4, _ => rfl
  | 5, _ => rfl
  | 6, _ => rfl
  | 7, _ => rfl
theorem cb_atO (ct : Nat → ClassId) (ad : Nat → Nat) (u : cb_U) : ∀ i, i < 8 → (cb_w ct ad u)[17 + i]? = some (ad (17 + i), .inl (ct 0, 8, .inl (cbO u i))) := by
  intro i hi
  match i, hi with
  | 0, _ => rfl
  | 1, _ => rfl
  | 2, _ => rfl
  | 3, _ => rfl
  | 4, _ => rfl
  | 5, _ => rfl
  | 6, _ => rfl
  | 7, _ => rfl
theorem cb_putO (ct : Nat → ClassId) (ad : Nat → Nat) (u : cb_U) (f : Nat → Int32) : ∀ i, i < 8 → (cb_w ct ad u).set (17 + i) (ad (17 + i), .inl (ct 0, 8, .inl f)) = cb_w ct ad (cb_sO u (va_up (cbO u) i f)) := by
  intro i hi
  match i, hi with
  | 0, _ => rfl
  | 1, _ => rfl
  | 2, _ => rfl
  | 3, _ => rfl
  | 4, _ => rfl
  | 5, _ => rfl
  | 6, _ => rfl
  | 7, _ => rfl
theorem cb_atV (ct : Nat → ClassId) (ad : Nat → Nat) (u : cb_U) : ∀ i, i < 8 → (cb_w ct ad u)[25 + i]? = some (ad (25 + i), .inl (ct 0, 8, .inl (cbV u i))) := by
  intro i hi
  match i, hi with
  | 0, _ => rfl
  | 1, _ => rfl
  | 2, _ => rfl
  | 3, _ => rfl
  | 4, _ => rfl
  | 5, _ => rfl
  | 6, _ => rfl
  | 7, _ => rfl
theorem cb_putV (ct : Nat → ClassId) (ad : Nat → Nat) (u : cb_U) (f : Nat → Int32) : ∀ i, i < 8 → (cb_w ct ad u).set (25 + i) (ad (25 + i), .inl (ct 0, 8, .inl f)) = cb_w ct ad (cb_sV u (va_up (cbV u) i f)) := by
  intro i hi
  match i, hi with
  | 0, _ => rfl
  | 1, _ => rfl
  | 2, _ => rfl
  | 3, _ => rfl
  | 4, _ => rfl
  | 5, _ => rfl
  | 6, _ => rfl
  | 7, _ => rfl
abbrev md_U : Type := Int32 × (Nat → Int32) × (Nat → Int32) × (Nat → Int32) × (Nat → Int32) × (Nat → Int32) × (Nat → Int32) × (Nat → Int64) × Int32
abbrev mdT (v : md_U) : Int32 := v.1
abbrev mdL (v : md_U) : Nat → Int32 := v.2.1
abbrev mdG (v : md_U) : Nat → Int32 := v.2.2.1
abbrev mdS (v : md_U) : Nat → Int32 := v.2.2.2.1
abbrev mdI (v : md_U) : Nat → Int32 := v.2.2.2.2.1
abbrev mdO (v : md_U) : Nat → Int32 := v.2.2.2.2.2.1
abbrev mdV (v : md_U) : Nat → Int32 := v.2.2.2.2.2.2.1
abbrev mdE (v : md_U) : Nat → Int64 := v.2.2.2.2.2.2.2.1
abbrev mdM (v : md_U) : Int32 := v.2.2.2.2.2.2.2.2
abbrev md_sT (v : md_U) (x : Int32) : md_U := (x, mdL v, mdG v, mdS v, mdI v, mdO v, mdV v, mdE v, mdM v)
abbrev md_sL (v : md_U) (x : Nat → Int32) : md_U := (mdT v, x, mdG v, mdS v, mdI v, mdO v, mdV v, mdE v, mdM v)
abbrev md_sG (v : md_U) (x : Nat → Int32) : md_U := (mdT v, mdL v, x, mdS v, mdI v, mdO v, mdV v, mdE v, mdM v)
abbrev md_sS (v : md_U) (x : Nat → Int32) : md_U := (mdT v, mdL v, mdG v, x, mdI v, mdO v, mdV v, mdE v, mdM v)
abbrev md_sI (v : md_U) (x : Nat → Int32) : md_U := (mdT v, mdL v, mdG v, mdS v, x, mdO v, mdV v, mdE v, mdM v)
abbrev md_sO (v : md_U) (x : Nat → Int32) : md_U := (mdT v, mdL v, mdG v, mdS v, mdI v, x, mdV v, mdE v, mdM v)
abbrev md_sV (v : md_U) (x : Nat → Int32) : md_U := (mdT v, mdL v, mdG v, mdS v, mdI v, mdO v, x, mdE v, mdM v)
abbrev md_sE (v : md_U) (x : Nat → Int64) : md_U := (mdT v, mdL v, mdG v, mdS v, mdI v, mdO v, mdV v, x, mdM v)
abbrev md_sM (v : md_U) (x : Int32) : md_U := (mdT v, mdL v, mdG v, mdS v, mdI v, mdO v, mdV v, mdE v, x)
abbrev md_fs (ad : Nat → Nat) (v : md_U) : List Value := [.int (mdT v), .ref (ad 1), .ref (ad 2), .ref (ad 3), .ref (ad 4), .ref (ad 5), .ref (ad 6), .ref (ad 7), .int (mdM v)]
def md_w (ct : Nat → ClassId) (ad : Nat → Nat) (v : md_U) : va_W := [(ad 0, .inr (1, md_fs ad v)), (ad 1, .inl (ct 0, 8, .inl (mdL v))), (ad 2, .inl (ct 0, 8, .inl (mdG v))), (ad 3, .inl (ct 1, 8, .inl (mdS v))), (ad 4, .inl (ct 0, 64, .inl (mdI v))), (ad 5, .inl (ct 0, 64, .inl (mdO v))), (ad 6, .inl (ct 0, 64, .inl (mdV v))), (ad 7, .inl (ct 3, 8, .inr (.inl (mdE v))))]
abbrev md_B (dC : Nat → ClassId) (dI : Nat → Nat → Nat) (ct : Nat → ClassId) (ad : Nat → Nat) (A : Nat → Prop) (v : md_U) (t : State) : Prop := va_P (dC, dI) vwCl (md_w ct ad v) t.heap ∧ va_K (dC, dI) vwCl (cb_ty ct) t ∧ va_D A (md_w ct ad v)
theorem cb_free {A0 : Nat → Prop} {ws : va_W} {H0 H : Heap} {locs : List Loc} (hD : va_D A0 ws) (hS : va_S A0 H0 H locs) (hA : ∀ q, H0.size ≤ q → A0 q) : ∀ q, va_A ws H.size q → A0 q := by
  intro q h
  rcases h with ⟨k, e, hk⟩ | h
  · exact hD.2 k (q, e) hk
  · exact hA q (Nat.le_trans hS.1 h)
theorem cb_vin {p : Int32} {n : Nat} (h : vp_in p n) : p.toNatClampNeg < n := Nat.not_le.mp fun q => h (Or.inr q)
section CBR
variable {p : Program} {l : Launch} {e : Env} {R : Room} {s : State} {m : MethodId} {args : Array Value} {below : List Frame} {meth : Method} {c : Code} {H : Heap} {locs : List Loc} {cells slots : Nat} {Q : State → Prop}
variable {cc : ByteArray} {pc : Nat} {ls : Array Slot} {rest : List Value} {D : va_G} {cl : List vw_C} {A : Nat → Prop} {a : Nat} {tys : List (ClassId × FieldType)} {ws : va_W} {H0 : Heap}
theorem cb_iald (hexec : p.tables.exec = Jvm.exec) (hb : c.code = cc) (hK : va_K D cl tys s) (hP : va_P D cl ws H) (q0 t0 : Nat) {cA : ClassId} {n : Nat} {f : Nat → Int32} (ha : ws[q0]? = some (a, .inl (cA, n, .inl f))) (ht : tys[t0]? = some (cA, .int)) {j : Nat} (hj : j < n) (hn : n < 2 ^ 31) (hdg : decode cc pc = .ok (.iaload, 1))
    (kk : W p l e R s m args below meth c H locs cells slots Q (F0 m (pc + 1) ls (.int (f j) :: rest))) : W p l e R s m args below meth c H locs cells slots Q (F0 m pc ls (.int (nI j) :: .ref a :: rest)) := by
  refine va_iald hexec hb hK hP q0 t0 ha ht (vp_in_nI hj hn) hdg ?_
  rw [nI_clamp (Nat.lt_trans hj hn)]; exact kk
theorem cb_zald (hexec : p.tables.exec = Jvm.exec) (hb : c.code = cc) (hK : va_K D cl tys s) (hP : va_P D cl ws H) (q0 t0 : Nat) {cA : ClassId} {n : Nat} {f : Nat → Int32} (ha : ws[q0]? = some (a, .inl (cA, n, .inl f))) (ht : tys[t0]? = some (cA, .boolean)) {j : Nat} (hj : j < n) (hn : n < 2 ^ 31) (hdg : decode cc pc = .ok (.baload, 1))
    (kk : W p l e R s m args below meth c H locs cells slots Q (F0 m (pc + 1) ls (.int (f j) :: rest))) : W p l e R s m args below meth c H locs cells slots Q (F0 m pc ls (.int (nI j) :: .ref a :: rest)) := by
  refine va_zald hexec hb hK hP q0 t0 ha ht (vp_in_nI hj hn) hdg ?_
  rw [nI_clamp (Nat.lt_trans hj hn)]; exact kk
theorem cb_lald (hexec : p.tables.exec = Jvm.exec) (hb : c.code = cc) (hK : va_K D cl tys s) (hP : va_P D cl ws H) (q0 t0 : Nat) {cA : ClassId} {n : Nat} {f : Nat → Int64} (ha : ws[q0]? = some (a, .inl (cA, n, .inr (.inl f)))) (ht : tys[t0]? = some (cA, .long)) {j : Nat} (hj : j < n) (hn : n < 2 ^ 31) (hdg : decode cc pc = .ok (.laload, 1))
    (kk : W p l e R s m args below meth c H locs cells slots Q (F0 m (pc + 1) ls (.long (f j) :: rest))) : W p l e R s m args below meth c H locs cells slots Q (F0 m pc ls (.int (nI j) :: .ref a :: rest)) := by
  refine va_lald hexec hb hK hP q0 t0 ha ht (vp_in_nI hj hn) hdg ?_
  rw [nI_clamp (Nat.lt_trans hj hn)]; exact kk
theorem cb_aaldN (hexec : p.tables.exec = Jvm.exec) (hb : c.code = cc) (hK : va_K D cl tys s) (hP : va_P D cl ws H) (q0 t0 : Nat) {cA : ClassId} {ty : FieldType} {n : Nat} {f : Nat → Option Nat} (ha : ws[q0]? = some (a, .inl (cA, n, .inr (.inr (.inr (.inr f)))))) (ht : tys[t0]? = some (cA, .array ty)) {j : Nat} (hj : j < n) (hn : n < 2 ^ 31) {b : Nat} (hv : f j = some b) (hdg : decode cc pc = .ok (.aaload, 1))
    (kk : W p l e R s m args below meth c H locs cells slots Q (F0 m (pc + 1) ls (.ref b :: rest))) : W p l e R s m args below meth c H locs cells slots Q (F0 m pc ls (.int (nI j) :: .ref a :: rest)) :=
  cb_aald hexec hb hK hP q0 t0 ha ht (vp_in_nI hj hn) (by rw [nI_clamp (Nat.lt_trans hj hn)]; exact hv) hdg kk
theorem cb_iast (hexec : p.tables.exec = Jvm.exec) (hb : c.code = cc) (hK : va_K D cl tys s) (hP : va_P D cl ws H) (hD : va_D A ws) (hS : va_S A H0 H locs) (q0 t0 : Nat) {cA : ClassId} {n : Nat} {f : Nat → Int32} (ha : ws[q0]? = some (a, .inl (cA, n, .inl f))) (ht : tys[t0]? = some (cA, .int)) {j : Nat} {x : Int32} (hj : j < n) (hn : n < 2 ^ 31) {ws1 : va_W} (hw : ws.set q0 (a, .inl (cA, n, .inl (upd f j x))) = ws1) (hdg : decode cc pc = .ok (.iastore, 1))
    (kk : ∀ (H1 : Heap) (locs1 : List Loc), va_P D cl ws1 H1 → va_D A ws1 → va_S A H0 H1 locs1 → W p l e R s m args below meth c H1 locs1 cells slots Q (F0 m (pc + 1) ls rest)) : W p l e R s m args below meth c H locs cells slots Q (F0 m pc ls (.int x :: .int (nI j) :: .ref a :: rest)) := by
  subst hw
  refine va_iast hexec hb hK hP hD hS q0 t0 ha ht (vp_in_nI hj hn) hdg ?_
  rw [nI_clamp (Nat.lt_trans hj hn)]; exact kk
theorem cb_last (hexec : p.tables.exec = Jvm.exec) (hb : c.code = cc) (hK : va_K D cl tys s) (hP : va_P D cl ws H) (hD : va_D A ws) (hS : va_S A H0 H locs) (q0 t0 : Nat) {cA : ClassId} {n : Nat} {f : Nat → Int64} (ha : ws[q0]? = some (a, .inl (cA, n, .inr (.inl f)))) (ht : tys[t0]? = some (cA, .long)) {j : Nat} {x : Int64} (hj : j < n) (hn : n < 2 ^ 31) {ws1 : va_W} (hw : ws.set q0 (a, .inl (cA, n, .inr (.inl (vp_updL f j x)))) = ws1) (hdg : decode cc pc = .ok (.lastore, 1))
    (kk : ∀ (H1 : Heap) (locs1 : List Loc), va_P D cl ws1 H1 → va_D A ws1 → va_S A H0 H1 locs1 → W p l e R s m args below meth c H1 locs1 cells slots Q (F0 m (pc + 1) ls rest)) : W p l e R s m args below meth c H locs cells slots Q (F0 m pc ls (.long x :: .int (nI j) :: .ref a :: rest)) := by
  subst hw
  refine va_last hexec hb hK hP hD hS q0 t0 ha ht (vp_in_nI hj hn) hdg ?_
  rw [nI_clamp (Nat.lt_trans hj hn)]; exact kk
theorem cb_iastR (hexec : p.tables.exec = Jvm.exec) (hb : c.code = cc) (hK : va_K D cl tys s) (hP : va_P D cl ws H) (hD : va_D A ws) (hS : va_S A H0 H locs) (q0 t0 : Nat) {cA : ClassId} {n : Nat} {f : Nat → Int32} (ha : ws[q0]? = some (a, .inl (cA, n, .inl f))) (ht : tys[t0]? = some (cA, .int)) {i : Int32} {x : Int32} (hin : vp_in i n) {ws1 : va_W} (hw : ws.set q0 (a, .inl (cA, n, .inl (upd f i.toNatClampNeg x))) = ws1) (hdg : decode cc pc = .ok (.iastore, 1))
    (kk : ∀ (H1 : Heap) (locs1 : List Loc), va_P D cl ws1 H1 → va_D A ws1 → va_S A H0 H1 locs1 → W p l e R s m args below meth c H1 locs1 cells slots Q (F0 m (pc + 1) ls rest)) : W p l e R s m args below meth c H locs cells slots Q (F0 m pc ls (.int x :: .int i :: .ref a :: rest)) := by
  subst hw
  exact va_iast hexec hb hK hP hD hS q0 t0 ha ht hin hdg kk
theorem cb_zastR (hexec : p.tables.exec = Jvm.exec) (hb : c.code = cc) (hK : va_K D cl tys s) (hP : va_P D cl ws H) (hD : va_D A ws) (hS : va_S A H0 H locs) (q0 t0 : Nat) {cA : ClassId} {n : Nat} {f : Nat → Int32} (ha : ws[q0]? = some (a, .inl (cA, n, .inl f))) (ht : tys[t0]? = some (cA, .boolean)) {i : Int32} {x : Int32} (hin : vp_in i n) {ws1 : va_W} (hw : ws.set q0 (a, .inl (cA, n, .inl (upd f i.toNatClampNeg (vp_nar .boolean x)))) = ws1) (hdg : decode cc pc = .ok (.bastore, 1))
    (kk : ∀ (H1 : Heap) (locs1 : List Loc), va_P D cl ws1 H1 → va_D A ws1 → va_S A H0 H1 locs1 → W p l e R s m args below meth c H1 locs1 cells slots Q (F0 m (pc + 1) ls rest)) : W p l e R s m args below meth c H locs cells slots Q (F0 m pc ls (.int x :: .int i :: .ref a :: rest)) := by
  subst hw
  exact va_zast hexec hb hK hP hD hS q0 t0 ha ht hin hdg kk
variable {Ts : List Cond} {dC : Nat → ClassId} {dI : Nat → Nat → Nat} {ct : Nat → ClassId} {ad : Nat → Nat} {u : cb_U} {v : md_U} {index : Nat}
theorem cb_get (hexec : p.tables.exec = Jvm.exec) (hb : c.code = cc) (hts : ∀ w ∈ Ts, w.before args s = true) (hin0 : ∀ w ∈ u_ws RX0 TX0 9, w ∈ Ts) (hown : s.vm.findClass RX0 = some m.cls) (hK : va_K (dC, dI) vwCl (cb_ty ct) s) (hP : va_P (dC, dI) vwCl (cb_w ct ad u) H) (k : Nat) (hk : k < 9) (hlink : (Cond.fieldLink RX0 index (TX0 k).1 (TX0 k).2.1 (TX0 k).2.2.1).before args s = true) {z : Value} (hv : (cb_fs ad u)[k]? = some z) (hdg : decode cc pc = .ok (.getfield index, 3))
    (kk : W p l e R s m args below meth c H locs cells slots Q (F0 m (pc + 3) ls (z :: rest))) : W p l e R s m args below meth c H locs cells slots Q (F0 m pc ls (.ref (ad 0) :: rest)) :=
  va_get (D := (dC, dI)) (ci := 0) (v := z) (C := RX0) (T := TX0) (N := 9) hexec hb hts hin0 hown hK hP 0 rfl rfl k hk hlink (fun _ h9 => h9) hv hdg kk
theorem md_get (hexec : p.tables.exec = Jvm.exec) (hb : c.code = cc) (hts : ∀ w ∈ Ts, w.before args s = true) (hin0 : ∀ w ∈ u_ws RX1 TX1 9, w ∈ Ts) (hown : s.vm.findClass RX1 = some m.cls) (hK : va_K (dC, dI) vwCl (cb_ty ct) s) (hP : va_P (dC, dI) vwCl (md_w ct ad v) H) (k : Nat) (hk : k < 9) (hlink : (Cond.fieldLink RX1 index (TX1 k).1 (TX1 k).2.1 (TX1 k).2.2.1).before args s = true) {z : Value} (hv : (md_fs ad v)[k]? = some z) (hdg : decode cc pc = .ok (.getfield index, 3))
    (kk : W p l e R s m args below meth c H locs cells slots Q (F0 m (pc + 3) ls (z :: rest))) : W p l e R s m args below meth c H locs cells slots Q (F0 m pc ls (.ref (ad 0) :: rest)) :=
  va_get (D := (dC, dI)) (ci := 1) (v := z) (C := RX1) (T := TX1) (N := 9) hexec hb hts hin0 hown hK hP 0 rfl rfl k hk hlink (fun _ h9 => h9) hv hdg kk
theorem cb_putM {x : Int32} (hexec : p.tables.exec = Jvm.exec) (hb : c.code = cc) (hts : ∀ w ∈ Ts, w.before args s = true) (hin0 : ∀ w ∈ u_ws RX0 TX0 9, w ∈ Ts) (hown : s.vm.findClass RX0 = some m.cls) (hK : va_K (dC, dI) vwCl (cb_ty ct) s) (hP : va_P (dC, dI) vwCl (cb_w ct ad u) H) (hD : va_D A (cb_w ct ad u)) (hS : va_S A H0 H locs) (hlink : (Cond.fieldLink RX0 index (TX0 5).1 (TX0 5).2.1 (TX0 5).2.2.1).before args s = true) (hdg : decode cc pc = .ok (.putfield index, 3))
    (kk : ∀ (H1 : Heap) (locs1 : List Loc), va_P (dC, dI) vwCl (cb_w ct ad (cb_sM u x)) H1 → va_D A (cb_w ct ad (cb_sM u x)) → va_S A H0 H1 locs1 → W p l e R s m args below meth c H1 locs1 cells slots Q (F0 m (pc + 3) ls rest)) : W p l e R s m args below meth c H locs cells slots Q (F0 m pc ls (.int x :: .ref (ad 0) :: rest)) :=
  va_put (D := (dC, dI)) (ci := 0) (v := .int x) (ty := .int) (C := RX0) (T := TX0) (N := 9) hexec hb hts hin0 tyX0 tyX0_ok nmX0 hown hK hP hD hS 0 rfl rfl 5 (by decide) hlink (fun _ h9 => h9) rfl (by decide +kernel) rfl rfl (Nat.le_of_ble_eq_true rfl) hdg kk
theorem md_putT {x : Int32} (hexec : p.tables.exec = Jvm.exec) (hb : c.code = cc) (hts : ∀ w ∈ Ts, w.before args s = true) (hin0 : ∀ w ∈ u_ws RX1 TX1 9, w ∈ Ts) (hown : s.vm.findClass RX1 = some m.cls) (hK : va_K (dC, dI) vwCl (cb_ty ct) s) (hP : va_P (dC, dI) vwCl (md_w ct ad v) H) (hD : va_D A (md_w ct ad v)) (hS : va_S A H0 H locs) (hlink : (Cond.fieldLink RX1 index (TX1 0).1 (TX1 0).2.1 (TX1 0).2.2.1).before args s = true) (hdg : decode cc pc = .ok (.putfield index, 3))
    (kk : ∀ (H1 : Heap) (locs1 : List Loc), va_P (dC, dI) vwCl (md_w ct ad (md_sT v x)) H1 → va_D A (md_w ct ad (md_sT v x)) → va_S A H0 H1 locs1 → W p l e R s m args below meth c H1 locs1 cells slots Q (F0 m (pc + 3) ls rest)) : W p l e R s m args below meth c H locs cells slots Q (F0 m pc ls (.int x :: .ref (ad 0) :: rest)) :=
  va_put (D := (dC, dI)) (ci := 1) (v := .int x) (ty := .int) (C := RX1) (T := TX1) (N := 9) hexec hb hts hin0 tyX1 tyX1_ok nmX1 hown hK hP hD hS 0 rfl rfl 0 (by decide) hlink (fun _ h9 => h9) rfl (by decide +kernel) rfl rfl (Nat.le_of_ble_eq_true rfl) hdg kk
theorem md_putM {x : Int32} (hexec : p.tables.exec = Jvm.exec) (hb : c.code = cc) (hts : ∀ w ∈ Ts, w.before args s = true) (hin0 : ∀ w ∈ u_ws RX1 TX1 9, w ∈ Ts) (hown : s.vm.findClass RX1 = some m.cls) (hK : va_K (dC, dI) vwCl (cb_ty ct) s) (hP : va_P (dC, dI) vwCl (md_w ct ad v) H) (hD : va_D A (md_w ct ad v)) (hS : va_S A H0 H locs) (hlink : (Cond.fieldLink RX1 index (TX1 8).1 (TX1 8).2.1 (TX1 8).2.2.1).before args s = true) (hdg : decode cc pc = .ok (.putfield index, 3))
    (kk : ∀ (H1 : Heap) (locs1 : List Loc), va_P (dC, dI) vwCl (md_w ct ad (md_sM v x)) H1 → va_D A (md_w ct ad (md_sM v x)) → va_S A H0 H1 locs1 → W p l e R s m args below meth c H1 locs1 cells slots Q (F0 m (pc + 3) ls rest)) : W p l e R s m args below meth c H locs cells slots Q (F0 m pc ls (.int x :: .ref (ad 0) :: rest)) :=
  va_put (D := (dC, dI)) (ci := 1) (v := .int x) (ty := .int) (C := RX1) (T := TX1) (N := 9) hexec hb hts hin0 tyX1 tyX1_ok nmX1 hown hK hP hD hS 0 rfl rfl 8 (by decide) hlink (fun _ h9 => h9) rfl (by decide +kernel) rfl rfl (Nat.le_of_ble_eq_true rfl) hdg kk
end CBR
