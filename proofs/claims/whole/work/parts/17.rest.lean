/-! the catching of an exception; new int[8][8] -/
section CBX
variable {p : Program} {l : Launch} {e : Env} {R : Room} {s : State} {m : MethodId} {args : Array Value} {below : List Frame} {meth : Method} {c : Code} {H : Heap} {locs : List Loc} {cells slots : Nat} {Q : State → Prop}
variable {pc : Nat} {ls : Array Slot} {rest : List Value}
theorem vx_catch {own name : String} {E : String} {ce : Cell} {q : Addr} (hown : s.vm.findClass own = some m.cls) (pre : List ExceptionTableEntry) (x : ExceptionTableEntry) (suf : List ExceptionTableEntry) (hsplit : c.exceptionTable.toList = pre ++ x :: suf)
    (hpass : ∀ z ∈ pre, covers z pc = false ∨ (z.catchType ≠ 0 ∧ ∃ nm : String, (Cond.classLink own z.catchType nm).before args s = true ∧ va_Nc E nm s)) (hx : covers x pc = true) (h0 : x.catchType ≠ 0)
    (hlink : (Cond.classLink own x.catchType name).before args s = true) (hcast : (Cond.castable E name).before args s = true) (hcell : H[q]? = some ce) (hv : ce.vm = .none) (hcl : s.vm.findClass E = some ce.cls)
    (kk : W p l e R s m args below meth c H locs cells slots Q (F0 m x.handlerPc ls [.ref q])) : vx_W p l e R s m args below meth c H locs cells slots Q (F0 m pc ls rest) q := by
  intro T hT X
  have hpl : e.platform.magicAccessors = ({} : Platform).magicAccessors := by rw [X.admits.platform]
  obtain ⟨c3, c4, hc3, hc4, hasg⟩ := Cond.castable_spec hcast
  cases Option.some.inj (hc3.symm.trans hcl)
  obtain ⟨c5, hc5, hcl5⟩ := Cond.classLink_spec hown hlink e.platform hpl
  cases Option.some.inj (hc4.symm.trans hc5)
  obtain ⟨vm', X', st⟩ := X.thenCaughtThrough q (g := F0 m pc ls rest) rfl (Steps.refl _) (by rw [hT]; exact hcell) (by rw [hv]; rfl) (by obtain ⟨k9, h9, -⟩ := Vm.findClass_spec hcl; exact ⟨k9, h9⟩) pre x suf hsplit
    (fun z hz => by
      rcases hpass z hz with h | ⟨hz0, nm, hl1, hn1⟩
      · exact Or.inl h
      · obtain ⟨c6, hc6, hcl6⟩ := Cond.classLink_spec hown hl1 e.platform hpl
        obtain ⟨a8, b8, h1, h2, h3⟩ := hn1
        cases Option.some.inj (h1.symm.trans hcl)
        cases Option.some.inj (h2.symm.trans hc6)
        exact Or.inr ⟨hz0, _, hcl6, h3⟩) hx (Or.inr ⟨h0, c4, hcl5, hasg⟩)
  obtain ⟨t, a1, b1⟩ := kk (T.setVm vm') hT X'
  exact ⟨t, st.trans a1, b1⟩
end CBX
theorem cb_outerG (c : ClassId) (h0 : Nat) : ∀ i : Nat, Jvm.Free.Multi.outerC c 8 h0 i = arrV c 8 (fun j => va_rf (if j < i then some (h0 + 1 + j) else none))
  | 0 => by
    show ({ cls := c, slots := Array.replicate 8 .null, vm := .none } : Cell) = _
    rw [arrV_new]
    refine congrArg (arrV c 8) (funext fun j => ?_)
    simp [va_rf]
  | i + 1 => by
    show (Jvm.Free.Multi.outerC c 8 h0 i).setSlot i (.ref (h0 + 1 + i)) = _
    rw [cb_outerG c h0 i, arrV_store]
    refine congrArg (arrV c 8) (funext fun j => ?_)
    by_cases e : j = i
    · subst e
      simp [updV, va_rf]
    · by_cases h : j < i
      · simp [updV, e, h, Nat.lt_succ_of_lt h]
      · simp [updV, e, h, show ¬ j < i + 1 by omega]
theorem cb_outer (c : ClassId) (h0 : Nat) : Jvm.Free.Multi.outerC c 8 h0 8 = arrV c 8 (fun j => va_rf (cb_o (fun i => h0 + 1 + i) j)) := cb_outerG c h0 8
section CBY
variable {p : Program} {l : Launch} {e : Env} {R : Room} {s : State} {m : MethodId} {args : Array Value} {below : List Frame} {meth : Method} {c : Code} {H : Heap} {locs : List Loc} {cells slots : Nat} {Q : State → Prop}
variable {cc : ByteArray} {pc : Nat} {ls : Array Slot} {rest : List Value} {D : va_G} {cl : List vw_C} {A : Nat → Prop} {tys : List (ClassId × FieldType)} {ws : va_W} {H0 : Heap}
theorem cb_mna (hexec : p.tables.exec = Jvm.exec) (hb : c.code = cc) {own : String} {index : Nat} (hown : s.vm.findClass own = some m.cls) (hclink : (Cond.classLink own index "[[I").before args s = true) (hAO : cb_AO s) (harr : (Cond.arrayClass .int).before args s = true)
    (hK : va_K D cl tys s) (hP : va_P D cl ws H) (hD : va_D A ws) (hS : va_S A H0 H locs) (hA : ∀ q, H0.size ≤ q → A q) (t0 t2 : Nat) {cI cO : ClassId} (ht0 : tys[t0]? = some (cI, .int)) (ht2 : tys[t2]? = some (cO, .array .int))
    (hcells : cells + 9 ≤ R.cells) (hslots : slots + 72 ≤ R.slots) (hdg : decode cc pc = .ok (.multianewarray index 2, 4))
    (kk : ∀ (q : Nat) (r : Nat → Nat) (H1 : Heap), va_P D cl (ws ++ ((q, .inl (cO, 8, .inr (.inr (.inr (.inr (cb_o r)))))) :: [(r 0, .inl (cI, 8, .inl (fun _ => 0))), (r 1, .inl (cI, 8, .inl (fun _ => 0))), (r 2, .inl (cI, 8, .inl (fun _ => 0))), (r 3, .inl (cI, 8, .inl (fun _ => 0))), (r 4, .inl (cI, 8, .inl (fun _ => 0))), (r 5, .inl (cI, 8, .inl (fun _ => 0))), (r 6, .inl (cI, 8, .inl (fun _ => 0))), (r 7, .inl (cI, 8, .inl (fun _ => 0)))])) H1 → va_D A (ws ++ ((q, .inl (cO, 8, .inr (.inr (.inr (.inr (cb_o r)))))) :: [(r 0, .inl (cI, 8, .inl (fun _ => 0))), (r 1, .inl (cI, 8, .inl (fun _ => 0))), (r 2, .inl (cI, 8, .inl (fun _ => 0))), (r 3, .inl (cI, 8, .inl (fun _ => 0))), (r 4, .inl (cI, 8, .inl (fun _ => 0))), (r 5, .inl (cI, 8, .inl (fun _ => 0))), (r 6, .inl (cI, 8, .inl (fun _ => 0))), (r 7, .inl (cI, 8, .inl (fun _ => 0)))])) → va_S A H0 H1 locs →
      W p l e R s m args below meth c H1 locs (cells + 9) (slots + 72) Q (F0 m (pc + 4) ls (.ref q :: rest))) : W p l e R s m args below meth c H locs cells slots Q (F0 m pc ls (.int 8 :: .int 8 :: rest)) := by
  intro T hT Xs
  obtain ⟨vm₁, cA, comp, -, fA, fC, hO, -, X', step⟩ := Xs.multianewarray2F hexec (ty := .int) hown hclink hAO.use harr (g := F0 m pc ls (.int 8 :: .int 8 :: rest)) rfl (by rw [hb]; exact hdg) (n := 8) (k := 8) (rest := rest) rfl (by decide) (by decide) (by decide) (by decide) (by decide) rfl rfl hcells hslots
  obtain rfl : comp = cI := Option.some.inj (fC.symm.trans (hK.2 t0 _ ht0).2)
  obtain rfl : cA = cO := Option.some.inj (fA.symm.trans (hK.2 t2 _ ht2).2)
  have e8 : (8 : Int32).toNatClampNeg = 8 := by decide
  rw [e8] at X' step
  generalize hF : Jvm.Free.Multi.fill (T.setVm vm₁) cA comp 8 8 (defaultValue .int) 8 = F at X' step
  have hTh : (T.setVm vm₁).heap = H := hT
  obtain ⟨f1, f2, -, -⟩ := Jvm.Free.Multi.fill_facts (T.setVm vm₁) cA comp 8 8 (defaultValue .int) 8
  rw [hF, hTh] at f1 f2
  have hold : ∀ x : Nat, x < H.size → F.heap[x]? = H[x]? := fun x hx => by
    have := Jvm.Free.Multi.fill_old (T.setVm vm₁) cA comp 8 8 (defaultValue .int) (a := x) (by rw [hTh]; exact hx) 8
    rw [hF, hTh] at this
    exact this
  have hrow : ∀ j : Nat, j < 8 → F.heap[H.size + 1 + j]? = some (vp_cell comp (8, .inl (fun _ => 0))) := fun j hj => by
    have := Jvm.Free.Multi.fill_inner (T.setVm vm₁) cA comp 8 8 (defaultValue .int) 8 j hj
    rw [hF, hTh] at this
    rw [this]
    congr 1
  have hout : F.heap[H.size]? = some (vp_cell cA (8, .inr (.inr (.inr (.inr (cb_o (fun i => H.size + 1 + i))))))) := by
    rw [f2, vp_cell_q]
    exact congrArg some (cb_outer cA H.size)
  have hlt : ∀ (k9 : Nat) (x : Nat × va_E), ws[k9]? = some x → x.1 < H.size := fun k9 x hx => (hP k9 x hx).lt
  refine (fun z => ?_) (kk H.size (fun i => H.size + 1 + i) F.heap ?_ ?_ ⟨Nat.le_trans hS.1 (by omega), fun x h1 h2 => (hold x (Nat.lt_of_lt_of_le h1 hS.1)).trans (hS.2.1 x h1 h2), hS.2.2⟩ F rfl X')
  · obtain ⟨t, a1, b1⟩ := z
    refine ⟨t, step t ?_, b1⟩
    have e : T.heap.size = H.size := by rw [hT]
    rw [e]
    exact a1
  · refine va_P.app (hP.kept (fun k9 x hx => hold x.1 (hlt k9 x hx))) (fun k9 x hx => ?_)
    match k9, hx with
    | 0, hx => cases hx; exact hout
    | 1, hx => cases hx; exact hrow 0 (by decide)
    | 2, hx => cases hx; exact hrow 1 (by decide)
    | 3, hx => cases hx; exact hrow 2 (by decide)
    | 4, hx => cases hx; exact hrow 3 (by decide)
    | 5, hx => cases hx; exact hrow 4 (by decide)
    | 6, hx => cases hx; exact hrow 5 (by decide)
    | 7, hx => cases hx; exact hrow 6 (by decide)
    | 8, hx => cases hx; exact hrow 7 (by decide)
    | n9 + 9, hx => simp at hx
  · have hr : ∀ (k9 : Nat) (x : Nat × va_E), (((H.size, .inl (cA, 8, .inr (.inr (.inr (.inr (cb_o (fun i => H.size + 1 + i))))))) :: [(H.size + 1 + 0, .inl (comp, 8, .inl (fun _ => 0))), (H.size + 1 + 1, .inl (comp, 8, .inl (fun _ => 0))), (H.size + 1 + 2, .inl (comp, 8, .inl (fun _ => 0))), (H.size + 1 + 3, .inl (comp, 8, .inl (fun _ => 0))), (H.size + 1 + 4, .inl (comp, 8, .inl (fun _ => 0))), (H.size + 1 + 5, .inl (comp, 8, .inl (fun _ => 0))), (H.size + 1 + 6, .inl (comp, 8, .inl (fun _ => 0))), (H.size + 1 + 7, .inl (comp, 8, .inl (fun _ => 0)))]) : va_W)[k9]? = some x → x.1 = H.size + k9 := fun k9 x hx => by
      match k9, hx with
      | 0, hx => cases hx; rfl
      | 1, hx => cases hx; rfl
      | 2, hx => cases hx; rfl
      | 3, hx => cases hx; rfl
      | 4, hx => cases hx; rfl
      | 5, hx => cases hx; rfl
      | 6, hx => cases hx; rfl
      | 7, hx => cases hx; rfl
      | 8, hx => cases hx; rfl
      | n9 + 9, hx => simp at hx
    refine ⟨fun i j x y hi hj hxy => ?_, fun k9 x hx => ?_⟩
    · by_cases h1 : i < ws.length <;> by_cases h2 : j < ws.length
      · rw [List.getElem?_append_left h1] at hi
        rw [List.getElem?_append_left h2] at hj
        exact hD.1 i j x y hi hj hxy
      · rw [List.getElem?_append_left h1] at hi
        rw [List.getElem?_append_right (by omega)] at hj
        have := hlt _ _ hi
        have := hr _ _ hj
        omega
      · rw [List.getElem?_append_right (by omega)] at hi
        rw [List.getElem?_append_left h2] at hj
        have := hlt _ _ hj
        have := hr _ _ hi
        omega
      · rw [List.getElem?_append_right (by omega)] at hi hj
        have := hr _ _ hi
        have := hr _ _ hj
        omega
    · by_cases h1 : k9 < ws.length
      · rw [List.getElem?_append_left h1] at hx
        exact hD.2 k9 x hx
      · rw [List.getElem?_append_right (by omega)] at hx
        have := hr _ _ hx
        exact hA _ (by have := hS.1; omega)
end CBY
