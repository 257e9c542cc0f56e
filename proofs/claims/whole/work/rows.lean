section
-- ===== PART A: goes FIRST, ahead of the names: the tables' words, and 'selects' of the private methods out of them =====
/-- a private method of a class that the tables say can be made, by its rows of tables_1 -/
def lw_okq (q : MethodName × Nat) : Prop := (q.1.cls ≠ "java/lang/invoke/MethodHandle" ∧ q.1.cls ≠ "java/lang/invoke/VarHandle") ∧ Cond.instantiable q.1.cls q.2 ∈ tables_1 ∧ Cond.privateMethod q.1 ∈ tables_1 ∧ Cond.instanceMethod q.1 ∈ tables_1
theorem lw_p0 : lw_okq (⟨"ConferenceBridge", "hear", "(I)V"⟩, 9) := ⟨⟨by decide +kernel, by decide +kernel⟩, List.mem_of_getElem? (i := 10) (by decide +kernel), List.mem_of_getElem? (i := 125) (by decide +kernel), List.mem_of_getElem? (i := 126) (by decide +kernel)⟩
theorem lw_p1 : lw_okq (⟨"ConferenceBridge", "chooseSpeakers", "()I"⟩, 9) := ⟨⟨by decide +kernel, by decide +kernel⟩, List.mem_of_getElem? (i := 10) (by decide +kernel), List.mem_of_getElem? (i := 147) (by decide +kernel), List.mem_of_getElem? (i := 148) (by decide +kernel)⟩
theorem lw_p2 : lw_okq (⟨"ConferenceBridge", "loudestBeside", "(I)I"⟩, 9) := ⟨⟨by decide +kernel, by decide +kernel⟩, List.mem_of_getElem? (i := 10) (by decide +kernel), List.mem_of_getElem? (i := 151) (by decide +kernel), List.mem_of_getElem? (i := 152) (by decide +kernel)⟩
theorem lw_p3 : lw_okq (⟨"ConferenceBridge", "sumUp", "(I)V"⟩, 9) := ⟨⟨by decide +kernel, by decide +kernel⟩, List.mem_of_getElem? (i := 10) (by decide +kernel), List.mem_of_getElem? (i := 158) (by decide +kernel), List.mem_of_getElem? (i := 159) (by decide +kernel)⟩
theorem lw_p4 : lw_okq (⟨"ConferenceBridge", "answer", "(IZ)V"⟩, 9) := ⟨⟨by decide +kernel, by decide +kernel⟩, List.mem_of_getElem? (i := 10) (by decide +kernel), List.mem_of_getElem? (i := 162) (by decide +kernel), List.mem_of_getElem? (i := 163) (by decide +kernel)⟩
theorem lw_p5 : lw_okq (⟨"java/lang/Throwable", "fillInStackTrace", "(I)Ljava/lang/Throwable;"⟩, 6) := ⟨⟨by decide +kernel, by decide +kernel⟩, List.mem_of_getElem? (i := 214) (by decide +kernel), List.mem_of_getElem? (i := 212) (by decide +kernel), List.mem_of_getElem? (i := 213) (by decide +kernel)⟩
def lw_privs_1 : List (MethodName × Nat) := [(⟨"ConferenceBridge", "hear", "(I)V"⟩, 9), (⟨"ConferenceBridge", "chooseSpeakers", "()I"⟩, 9), (⟨"ConferenceBridge", "loudestBeside", "(I)I"⟩, 9), (⟨"ConferenceBridge", "sumUp", "(I)V"⟩, 9), (⟨"ConferenceBridge", "answer", "(IZ)V"⟩, 9), (⟨"java/lang/Throwable", "fillInStackTrace", "(I)Ljava/lang/Throwable;"⟩, 6)]
theorem lw_r1 : ∀ q ∈ lw_privs_1, lw_okq q := List.forall_mem_cons.mpr ⟨lw_p0, List.forall_mem_cons.mpr ⟨lw_p1, List.forall_mem_cons.mpr ⟨lw_p2, List.forall_mem_cons.mpr ⟨lw_p3, List.forall_mem_cons.mpr ⟨lw_p4, List.forall_mem_cons.mpr ⟨lw_p5, fun _ h => absurd h List.not_mem_nil⟩⟩⟩⟩⟩⟩
def lw_privs : List (MethodName × Nat) := lw_privs_1
def lw_tbl : List Cond := k2_sels lw_privs ++ tables_1
theorem lw_privs_ok : ∀ q ∈ lw_privs, lw_okq q := lw_r1
end
section
/-! ===== BEGIN words of one list among another's, by their places ===== -/
theorem goodIn_r {big : List Cond} (ws : List Cond) (ps : List Nat) (hp : ws = ps.filterMap (fun i => big[i]?)) (h : ws.all goodWord = true) : GoodIn big ws := by
  intro w hw
  have h1 := List.all_eq_true.mp h w hw
  rw [hp] at hw
  obtain ⟨i, -, hi⟩ := List.mem_filterMap.mp hw
  have hm : w ∈ big := by first | exact List.mem_of_getElem? hi | exact List.getElem?_mem hi
  exact ⟨hm, good_of_word h1⟩
theorem goodIn_app {big a b : List Cond} (ha : GoodIn big a) (hb : GoodIn big b) : GoodIn big (a ++ b) := fun w h => (List.mem_append.mp h).elim (ha w) (hb w)
theorem goodIn_ca {big a b : List Cond} {c : Cond} (ha : GoodIn big (c :: a)) (hb : GoodIn big b) : GoodIn big (c :: (a ++ b)) := fun w h => (List.mem_cons.mp h).elim (fun e => ha w (List.mem_cons.mpr (Or.inl e))) (fun h => (List.mem_append.mp h).elim (fun h => ha w (List.mem_cons.mpr (Or.inr h))) (hb w))
theorem goodIn_sub {big ws : List Cond} (hm : ∀ w ∈ ws, w ∈ big) (h : ws.all goodWord = true) : GoodIn big ws := fun w hw => ⟨hm w hw, good_of_word (List.all_eq_true.mp h w hw)⟩
/-! ===== END ===== -/

/-! ===== BEGIN new T[n][m]: the outer array a place, the inner ones among the pooled ===== -/
/-- f, but v at every address of l -/
def vr_up {α : Type} (f : Nat → α) (l : List Nat) (v : α) : Nat → α := fun a => if a ∈ l then v else f a
theorem vr_up_in {α : Type} {f : Nat → α} {l : List Nat} {v : α} {a : Nat} (h : a ∈ l) : vr_up f l v a = v := if_pos h
theorem vr_up_ne {α : Type} {f : Nat → α} {l : List Nat} {v : α} {a : Nat} (h : a ∉ l) : vr_up f l v a = f a := if_neg h
theorem vr_rows {L l : List Nat} {f : Nat → va_E} {e : va_E} (h : ∀ a, a ∈ l → a ∉ L) : va_pl L f ++ l.map (fun a => (a, e)) = va_pl (L ++ l) (vr_up f l e) := by
  unfold va_pl
  rw [List.map_append]
  congr 1
  · apply List.map_congr_left
    intro a ha
    rw [vr_up_ne (fun q => h a q ha)]
  · apply List.map_congr_left
    intro a ha
    rw [vr_up_in ha]
theorem vr_lay {X rows : va_W} {x : Nat × va_E} {pl : va_W} {D : va_G} {cl : List vw_C} {H : Heap} (hP : va_P D cl (((X ++ pl) ++ [x]) ++ rows) H) : va_P D cl ((X ++ [x]) ++ (pl ++ rows)) H := by
  rw [List.append_assoc (X ++ pl)] at hP
  have h := va_P.swap hP
  rw [← List.append_assoc X] at h
  have h2 := va_P.swap h
  rw [List.append_assoc (X ++ [x])] at h2
  exact h2
theorem vr_layD {X rows : va_W} {x : Nat × va_E} {pl : va_W} {A : Nat → Prop} (hD : va_D A (((X ++ pl) ++ [x]) ++ rows)) : va_D A ((X ++ [x]) ++ (pl ++ rows)) := by
  rw [List.append_assoc (X ++ pl)] at hD
  have h := va_D.swap hD
  rw [← List.append_assoc X] at h
  have h2 := va_D.swap h
  rw [List.append_assoc (X ++ [x])] at h2
  exact h2
section VGM
variable {p : Program} {l : Launch} {e : Env} {R : Room} {s : State} {m : MethodId} {args : Array Value} {below : List Frame} {meth : Method} {c : Code} {H : Heap} {locs : List Loc} {cells slots : Nat} {Q : State → Prop}
variable {cc : ByteArray} {pc : Nat} {ls : Array Slot} {rest : List Value} {D : va_G} {cl : List vw_C} {A : Nat → Prop} {a : Nat} {tys : List (ClassId × FieldType)} {ws : va_W} {H0 : Heap}
end VGM
/-! ===== END ===== -/

/-! ===== BEGIN exceptions that leave a method, and their catching by the caller (launches without stack traces) ===== -/
section VXA
/-! The laws vx_back, vx_callV, vx_callS, vx_callSW, vx_throw0, vx_throwS follow proofs of the library, with one case more: JvmDerived/Free/Laws.lean (Back.of_free), Shelf42/LK1.lean (callV, callS), Shelf/KitTraced.lean (throwNew0V, throwNewS). -/
/-- where a method has thrown q: the class by its name, the cell, what was written, the world -/
def vx_T (XC : String → State → State → Prop) (st : State) (q : Addr) (t : State) (mc ms : Nat) (free : Addr → Prop) : Prop :=
  ∃ (E : String) (ce : Cell) (L : List Loc), XC E st t ∧ t.heap[q]? = some ce ∧ ce.vm = .none ∧ st.vm.findClass E = some ce.cls ∧ st.WarmedH t.vm ∧ st.sameButNew ({ t with vm := st.vm } : State) L mc ms ∧ ∀ z ∈ L, free z.base
def vx_Q (Qc : Array Value → State → Outcome → State → Prop) (XC : String → State → State → Prop) (mc ms : Nat) (free : Addr → Prop) : Array Value → State → Outcome → State → Prop := fun a st o t =>
  (Qc a st o t ∧ ∃ L, FrameEnd st o t L mc ms ∧ ∀ q ∈ L, free q.base) ∨ ∃ q, o = .threw q ∧ vx_T XC st q t mc ms free
/-- a callee that returns or throws -/
def vx_Met (l : Launch) (y : MethodName) (ws : List Cond) (rm : Room) (Pc : Array Value → State → Prop) (Qc : Array Value → State → Outcome → State → Prop) (XC : String → State → State → Prop) (mc ms : Nat) (free : Addr → Prop) : Prop :=
  MetFree l y (headSpec ws rm) Pc (fun _ _ _ _ _ => True) (vx_Q Qc XC mc ms free)
def vx_Post (XC : String → State → State → Prop) (mc ms : Nat) (free : Addr → Prop) : Pt → Array Value → Addr → Pt → Prop := fun A a q B =>
  ∃ (g : JFrame) (mk : MethodId) (t : State) (L : List Loc) (E : String) (ce : Cell), B.U.heap = t.heap ∧ B.U.vm = t.vm ∧ XC E (A.U.calling g mk a) t ∧ t.heap[q]? = some ce ∧ ce.vm = .none ∧ A.U.vm.findClass E = some ce.cls ∧ B.locs = A.locs ++ L ∧ (∀ z ∈ L, free z.base) ∧ B.cells = A.cells + mc ∧ B.slots = A.slots + ms
def vx_Back (l : Launch) (R : Room) (p : Program) (e : Env) (below : List Frame) (s : State) (sargs : Array Value) (y : MethodName) (len W9 : Nat)
    (Pre : Pt → Array Value → Prop) (Post : Pt → Array Value → Option Value → Pt → Prop) (PostX : Pt → Array Value → Addr → Pt → Prop) : Prop :=
  ∀ (m : MethodId) (meth : Method) (c : Code) (A : Pt) (g : JFrame) (ig : Instr) (mk : MethodId) (a : Array Value),
    Stand p l e R s m sargs below meth c A.U A.locs A.cells A.slots → g.method = m → g.locals.size = c.maxLocals → decode c.code g.pc = .ok (ig, len) →
    2 * g.monitorRoom + (g.stack.map fun v => v.category).sum ≤ W9 → A.U.methodNamed? y = some mk → Pre A a →
    (∃ (v : Option Value) (B : Pt), Stand p l e R s m sargs below meth c B.U B.locs B.cells B.slots ∧ Post A a v B ∧
      Steps p.tables e below (doInvoke e (A.U.setTop g) [] mk a).1 (B.U.setTop { g with pc := g.pc + len, stack := v.toList ++ g.stack })) ∨
    (∃ (q : Addr) (B : Pt), Stand p l e R s m sargs below meth c B.U B.locs B.cells B.slots ∧ PostX A a q B ∧
      Steps p.tables e below (doInvoke e (A.U.setTop g) [] mk a).1 ((B.U.setTop g).pushFrame (.throwing q)))
section Payer
variable {l : Launch} {R : Room} {p : Program} {e : Env} {below : List Frame} {s : State} {sargs : Array Value} {y : MethodName} {len W9 : Nat}
theorem vx_back {ws : List Cond} {rm : Room} {Pc : Array Value → State → Prop} {Qc : Array Value → State → Outcome → State → Prop} {XC : String → State → State → Prop} {mc ms : Nat} {free : Addr → Prop} {bytes : ByteArray} {maxL : Nat} {ret : Option FieldType}
    (hM : vx_Met l y ws rm Pc Qc XC mc ms free) (hblind : FrameBlind Pc) (hrc : rm.cells = mc) (hrs : rm.slots = ms)
    (hframes : rm.frames + 1 ≤ R.frames) (hlocals : W9 + (maxL + 11) + rm.locals ≤ R.locals)
    (hws : ∀ w ∈ ws, ∀ a' U, s.WarmedH U.vm → w.before a' U = true) (hcode : Cond.code y bytes maxL ret ∈ ws) (hinit : ∀ a' U, s.WarmedH U.vm → (Cond.initialized y.cls).before a' U = true) :
    vx_Back l R p e below s sargs y len W9 (PreOf R mc ms Pc) (PostOf Qc mc ms free) (vx_Post XC mc ms free) := by
  intro m meth c A g ig mk a X hg hsize hdg hW hn hp
  have h1 : (headSpec ws rm).pre.before a A.U = true := atoms_intro fun w hw => hws w hw _ _ X.warmed
  have h2 : (Cond.code y bytes maxL ret).before a A.U = true := hws _ hcode _ _ X.warmed
  have h3 : (Cond.initialized y.cls).before a A.U = true := hinit _ _ X.warmed
  have h4 : A.cells + (headSpec ws rm).room.cells ≤ R.cells := by rw [show (headSpec ws rm).room.cells = mc from hrc]; exact hp.1
  have h5 : A.slots + (headSpec ws rm).room.slots ≤ R.slots := by rw [show (headSpec ws rm).room.slots = ms from hrs]; exact hp.2.1
  have hPc : Pc a (A.U.calling g mk a) := hblind _ _ _ _ hp.2.2
  obtain ⟨U, Ls, c0, s0⟩ := A
  dsimp only [Pt.U, Pt.locs, Pt.cells, Pt.slots] at h1 h2 h3 h4 h5 X hn hPc ⊢
  obtain ⟨methY, cY, hmY, hcY, -, hlY, -, -, -, -⟩ := Cond.code_spec hn h2
  obtain ⟨kY, hkY, -⟩ := className_of_methodNamed hn
  have hinitY : kY.init = .initialized := Cond.initialized_spec (findClass_of_methodNamed hn) hkY h3
  have h : At U g.method c below := by rw [hg]; exact X.here
  have hlocals9 : W9 + (maxL + 11) + (headSpec ws rm).room.locals ≤ R.locals := hlocals
  have happ : (headSpec ws rm).appliesLoose y e.platform (U.calling g mk a) = true :=
    Spec.appliesLoose_calling (g := g) h hdg hn hkY hinitY
      (X.room_calling (g := g) (R' := (headSpec ws rm).room) hsize hmY hcY hframes (by rw [hlY]; omega) h4 h5) h1
  obtain ⟨mid, hmid⟩ := h.above
  have hfr : (U.setTop g).frames = (.java g :: mid) ++ below := by rw [State.frames_setTop' g h.top, hmid]; rfl
  obtain ⟨o, s₂, hsteps, -, hend, hq⟩ := Steps.callFree hM p X.admits X.cas X.clock (acts := []) hfr happ hPc trivial
  have hq' : vx_Q Qc XC mc ms free a (U.calling g mk a) o s₂ := hq
  rw [State.frames_setTop' g h.top] at hend
  obtain ⟨g₀, hg0⟩ := Option.isSome_iff_exists.mp h.top
  obtain ⟨r, hr⟩ := State.topJava?_eq_some.mp hg0
  have hr' : (({ U with heap := s₂.heap, slotsUsed := s₂.slotsUsed } : State).setVm s₂.vm).frames = .java g₀ :: r := hr
  rcases hq' with ⟨hqc, L, hfe, hL⟩ | ⟨q, rfl, E, ce, L, hx, hce, hcv, hcl, hW₂, hsm, hL⟩
  · obtain ⟨⟨v, rfl⟩, hW₂, e2, q2, q3, q4, q5, q6⟩ := id hfe
    have e3 : s₂ = ({ (U.calling g mk a).setFrames s₂.frames with heap := s₂.heap, slotsUsed := s₂.slotsUsed } : State).setVm s₂.vm := by
      have : s₂ = ({ s₂ with vm := (U.calling g mk a).vm } : State).setVm s₂.vm := rfl
      rw [e2] at this
      exact this
    obtain ⟨c₂, i₂, len₂, hc₂, hd₂, hf₂⟩ := hend
    have hW' : U.WarmedH s₂.vm := hW₂
    have hcc : c₂ = c := by
      have h1 : s₂.code? g.method = U.code? g.method := by
        rw [State.code?_eq, State.code?_eq, hW'.alike.method?]
      exact Option.some.inj (hc₂.symm.trans (h1.trans h.code))
    subst hcc
    have hlen : len₂ = len := by rw [hdg] at hd₂; cases hd₂; rfl
    subst hlen
    have hs₂ : s₂ = (({ U with heap := s₂.heap, slotsUsed := s₂.slotsUsed } : State).setVm s₂.vm).setTop { g with pc := g.pc + len₂, stack := v.toList ++ g.stack } := by
      refine e3.trans ?_
      rw [hf₂, State.calling_eq h.top, State.setFrames_setFrames, State.setTop_of_frames _ hr', hr]
      rfl
    have hsame : U.sameButNew ({ U with heap := s₂.heap, slotsUsed := s₂.slotsUsed } : State) L mc ms := by
      refine ⟨?_, q2, q3, q4, q5, q6⟩
      obtain ⟨t, ht, -⟩ := State.frames_cons hr
      show ({ U with heap := s₂.heap, slotsUsed := s₂.slotsUsed } : State) = { U.setFrames U.frames with heap := s₂.heap, slotsUsed := s₂.slotsUsed }
      rw [State.setFrames_self ht]
    subst hg
    refine Or.inl ⟨v, ⟨(({ U with heap := s₂.heap, slotsUsed := s₂.slotsUsed } : State).setVm s₂.vm), Ls ++ L, c0 + mc, s0 + ms⟩,
      ⟨X.admits, X.cas, X.clock, X.frames, X.room, X.hears, X.method, X.code, (X.here.setHeapUsed s₂.heap s₂.slotsUsed).setVm hW'.alike, X.tail, State.WarmedH.trans X.warmed hW', X.limits, X.bytes, X.same.trans (hsame.setVm s.vm)⟩,
      ⟨g, mk, s₂, L, rfl, rfl, hqc, rfl, hL, rfl, rfl⟩, ?_⟩
    show Steps p.tables e below _ ((({ U with heap := s₂.heap, slotsUsed := s₂.slotsUsed } : State).setVm s₂.vm).setTop { g with pc := g.pc + len₂, stack := v.toList ++ g.stack })
    rw [← hs₂]
    exact hsteps
  · obtain ⟨e2, q2, q3, q4, q5, q6⟩ := id hsm
    have e3 : s₂ = ({ (U.calling g mk a).setFrames s₂.frames with heap := s₂.heap, slotsUsed := s₂.slotsUsed } : State).setVm s₂.vm := by
      have : s₂ = ({ s₂ with vm := (U.calling g mk a).vm } : State).setVm s₂.vm := rfl
      rw [e2] at this
      exact this
    have hf₂ : s₂.frames = .throwing q :: .java g :: U.frames.tail := hend
    have hW' : U.WarmedH s₂.vm := hW₂
    have hs₂ : s₂ = ((({ U with heap := s₂.heap, slotsUsed := s₂.slotsUsed } : State).setVm s₂.vm).setTop g).pushFrame (.throwing q) := by
      refine e3.trans ?_
      rw [hf₂, State.calling_eq h.top, State.setFrames_setFrames, State.pushFrame, State.frames_setTop _ hr', State.setTop_of_frames _ hr', State.setFrames_setFrames, hr]
      rfl
    have hsame : U.sameButNew ({ U with heap := s₂.heap, slotsUsed := s₂.slotsUsed } : State) L mc ms := by
      refine ⟨?_, q2, q3, q4, q5, q6⟩
      obtain ⟨t, ht, -⟩ := State.frames_cons hr
      show ({ U with heap := s₂.heap, slotsUsed := s₂.slotsUsed } : State) = { U.setFrames U.frames with heap := s₂.heap, slotsUsed := s₂.slotsUsed }
      rw [State.setFrames_self ht]
    subst hg
    refine Or.inr ⟨q, ⟨(({ U with heap := s₂.heap, slotsUsed := s₂.slotsUsed } : State).setVm s₂.vm), Ls ++ L, c0 + mc, s0 + ms⟩,
      ⟨X.admits, X.cas, X.clock, X.frames, X.room, X.hears, X.method, X.code, (X.here.setHeapUsed s₂.heap s₂.slotsUsed).setVm hW'.alike, X.tail, State.WarmedH.trans X.warmed hW', X.limits, X.bytes, X.same.trans (hsame.setVm s.vm)⟩,
      ⟨g, mk, s₂, L, E, ce, rfl, rfl, hx, hce, hcv, hcl, rfl, hL, rfl, rfl⟩, ?_⟩
    show Steps p.tables e below _ (((({ U with heap := s₂.heap, slotsUsed := s₂.slotsUsed } : State).setVm s₂.vm).setTop g).pushFrame (.throwing q))
    rw [← hs₂]
    exact hsteps
end Payer
section Calls
variable {p : Program} {l : Launch} {e : Env} {R : Room} {s : State} {m : MethodId} {args : Array Value} {below : List Frame} {meth : Method} {c : Code} {T : State} {locs : List Loc} {cells slots : Nat}
theorem vx_callV (X : Stand p l e R s m args below meth c T locs cells slots) (hexec : p.tables.exec = Jvm.exec) {own C : String} {index : Nat} {y : MethodName} {bytes : ByteArray} {maxL : Nat} {ret : Option FieldType}
    (hown : s.vm.findClass own = some m.cls) (hlink : (Cond.methodLink own index y).before args s = true) (hinst : (Cond.instanceMethod y).before args s = true) (hsel : (Cond.selects C y y).before args s = true)
    (hcode : (Cond.code y bytes maxL ret).before args s = true) (hy : y.cls ≠ "java/lang/invoke/MethodHandle" ∧ y.cls ≠ "java/lang/invoke/VarHandle")
    {W9 : Nat} {Pre : Pt → Array Value → Prop} {Post : Pt → Array Value → Option Value → Pt → Prop} {PostX : Pt → Array Value → Addr → Pt → Prop} (hK : vx_Back l R p e below s args y 3 W9 Pre Post PostX)
    {b : Addr} {cellB : Cell} (hcell : T.heap[b]? = some cellB) (hobj : cellB.vm.isStatics = false) (hcls : s.vm.findClass C = some cellB.cls)
    {g : JFrame} (hg : g.method = m) (hsize : g.locals.size = c.maxLocals) {argsL rest : List Value} (hlen : ∀ sig, parseMethodDescriptor y.desc = some sig → argsL.length = sig.parameters.length)
    (hstack : g.stack = argsL.reverse ++ .ref b :: rest) (hW : 2 * g.monitorRoom + (rest.map fun v => v.category).sum ≤ W9) (hdg : decode c.code g.pc = .ok (.invokevirtual index, 3))
    (hpre : ∀ vm₁, s.WarmedH vm₁ → Pre ⟨T.setVm vm₁, locs, cells, slots⟩ (Value.ref b :: argsL).toArray) :
    (∃ (v : Option Value) (vm₁ : Vm) (B : Pt), s.WarmedH vm₁ ∧ Stand p l e R s m args below meth c B.U B.locs B.cells B.slots ∧ Post ⟨T.setVm vm₁, locs, cells, slots⟩ (Value.ref b :: argsL).toArray v B ∧
      ∀ target, Steps p.tables e below (B.U.setTop { g with pc := g.pc + 3, stack := v.toList ++ rest }) target → Steps p.tables e below (T.setTop g) target) ∨
    (∃ (q : Addr) (vm₁ : Vm) (B : Pt), s.WarmedH vm₁ ∧ Stand p l e R s m args below meth c B.U B.locs B.cells B.slots ∧ PostX ⟨T.setVm vm₁, locs, cells, slots⟩ (Value.ref b :: argsL).toArray q B ∧
      Steps p.tables e below (T.setTop g) ((B.U.setTop { g with stack := rest }).pushFrame (.throwing q))) := by
  obtain ⟨mk, methM, hnamed, hmethM, hstM, habM⟩ := Cond.instanceMethod_spec hinst
  obtain ⟨methM', cM, hmethM', -, -, -, -, -, -, hsigM⟩ := Cond.code_spec hnamed hcode
  cases hmethM.symm.trans hmethM'
  obtain ⟨c2, r2, m2, q1, q2, q3, q4, kP, hkP, hkPi⟩ := Cond.selects_spec hsel
  cases hcls.symm.trans q1
  cases (State.methodFound?_of_named hnamed hy).symm.trans q2
  cases hnamed.symm.trans q3
  have hselP : selectMethod e.platform s.vm cellB.cls mk = .method mk := by rw [Launch.admits_selectMethod X.admits]; exact q4
  obtain ⟨vm₁, X₁, hstep₁⟩ := X.invokevirtual hexec hown hlink hnamed hmethM hstM hkP hkPi hy (a := b) (cell := cellB) hcell
    (fun z h => by rw [h] at hobj; cases hobj) hselP hmethM habM hkP hkPi (g := g) hg (argsL := argsL) (rest := rest) (hlen _ hsigM) hstack hdg
  rcases hK m meth c ⟨T.setVm vm₁, locs, cells, slots⟩ { g with stack := rest } (.invokevirtual index) mk (Value.ref b :: argsL).toArray X₁ hg hsize hdg hW (X₁.named hnamed) (hpre vm₁ X₁.warmed) with ⟨v, B, X', hpost, hsteps⟩ | ⟨q, B, X', hpost, hsteps⟩
  · exact Or.inl ⟨v, vm₁, B, X₁.warmed, X', hpost, fun target h => hstep₁ _ fun acts => by rw [doInvoke_state]; exact hsteps.trans h⟩
  · exact Or.inr ⟨q, vm₁, B, X₁.warmed, X', hpost, hstep₁ _ fun acts => by rw [doInvoke_state]; exact hsteps⟩
theorem vx_callS (X : Stand p l e R s m args below meth c T locs cells slots) (hexec : p.tables.exec = Jvm.exec) {own : String} {index : Nat} {y : MethodName} {bytes : ByteArray} {maxL : Nat} {ret : Option FieldType}
    (hown : s.vm.findClass own = some m.cls) (hlink : (Cond.methodLink own index y).before args s = true) (hstat : (Cond.static y).before args s = true) (hinit : (Cond.initialized y.cls).before args s = true)
    (hcode : (Cond.code y bytes maxL ret).before args s = true) (hy : y.cls ≠ "java/lang/invoke/MethodHandle" ∧ y.cls ≠ "java/lang/invoke/VarHandle")
    {W9 : Nat} {Pre : Pt → Array Value → Prop} {Post : Pt → Array Value → Option Value → Pt → Prop} {PostX : Pt → Array Value → Addr → Pt → Prop} (hK : vx_Back l R p e below s args y 3 W9 Pre Post PostX)
    {g : JFrame} (hg : g.method = m) (hsize : g.locals.size = c.maxLocals) {argsL rest : List Value} (hlen : ∀ sig, parseMethodDescriptor y.desc = some sig → argsL.length = sig.parameters.length)
    (hstack : g.stack = argsL.reverse ++ rest) (hW : 2 * g.monitorRoom + (rest.map fun v => v.category).sum ≤ W9) (hdg : decode c.code g.pc = .ok (.invokestatic index, 3))
    (hpre : ∀ vm₁, s.WarmedH vm₁ → Pre ⟨T.setVm vm₁, locs, cells, slots⟩ argsL.toArray) :
    (∃ (v : Option Value) (vm₁ : Vm) (B : Pt), s.WarmedH vm₁ ∧ Stand p l e R s m args below meth c B.U B.locs B.cells B.slots ∧ Post ⟨T.setVm vm₁, locs, cells, slots⟩ argsL.toArray v B ∧
      ∀ target, Steps p.tables e below (B.U.setTop { g with pc := g.pc + 3, stack := v.toList ++ rest }) target → Steps p.tables e below (T.setTop g) target) ∨
    (∃ (q : Addr) (vm₁ : Vm) (B : Pt), s.WarmedH vm₁ ∧ Stand p l e R s m args below meth c B.U B.locs B.cells B.slots ∧ PostX ⟨T.setVm vm₁, locs, cells, slots⟩ argsL.toArray q B ∧
      Steps p.tables e below (T.setTop g) ((B.U.setTop { g with stack := rest }).pushFrame (.throwing q))) := by
  obtain ⟨mk, hnamed⟩ := Cond.code_named hcode
  obtain ⟨methM, cM, hmethM, -, -, -, -, -, -, hsigM⟩ := Cond.code_spec hnamed hcode
  have hstatic : methM.isStatic = true := Cond.static_spec hnamed hmethM hstat
  obtain ⟨kP, hkP, -⟩ := className_of_methodNamed hnamed
  have hinitP : kP.init = .initialized := Cond.initialized_spec (findClass_of_methodNamed hnamed) hkP hinit
  obtain ⟨vm₁, X₁, hstep₁⟩ := X.invokestatic hexec hown hlink hnamed hmethM hstatic hkP hinitP hy (g := g) hg (argsL := argsL) (rest := rest) (hlen _ hsigM) hstack hdg
  rcases hK m meth c ⟨T.setVm vm₁, locs, cells, slots⟩ { g with stack := rest } (.invokestatic index) mk argsL.toArray X₁ hg hsize hdg hW (X₁.named hnamed) (hpre vm₁ X₁.warmed) with ⟨v, B, X', hpost, hsteps⟩ | ⟨q, B, X', hpost, hsteps⟩
  · exact Or.inl ⟨v, vm₁, B, X₁.warmed, X', hpost, fun target h => hstep₁ _ fun acts => by rw [doInvoke_state]; exact hsteps.trans h⟩
  · exact Or.inr ⟨q, vm₁, B, X₁.warmed, X', hpost, hstep₁ _ fun acts => by rw [doInvoke_state]; exact hsteps⟩
end Calls
theorem vx_cls {s : State} {T : State} {vm₁ : Vm} {E : String} {k : ClassId} (hW : s.WarmedH vm₁) (h : (T.setVm vm₁).vm.findClass E = some k) : s.vm.findClass E = some k := by
  have h1 : vm₁.findClass E = some k := h
  rw [hW.alike.findClass] at h1
  exact h1
/-- the method's frame g, with q thrown over it -/
def vx_W (p : Program) (l : Launch) (e : Env) (R : Room) (s : State) (m : MethodId) (args : Array Value) (below : List Frame) (meth : Method) (c : Code) (H : Heap) (locs : List Loc) (cells slots : Nat) (Q : State → Prop) (g : JFrame) (q : Addr) : Prop :=
  ∀ T : State, T.heap = H → Stand p l e R s m args below meth c T locs cells slots → ∃ t, Steps p.tables e below ((T.setTop g).pushFrame (.throwing q)) t ∧ Q t
def vx_Run (p : Program) (l : Launch) (e : Env) (R : Room) (s : State) (m : MethodId) (args : Array Value) (below : List Frame) (meth : Method) (c : Code) (H : Heap) (locs : List Loc) (cells slots mc ms : Nat) (g : JFrame) (rest : List Value) (Qa : State → Outcome → State → Prop) (XC : String → State → State → Prop) (free : Addr → Prop) : Prop :=
  ∀ T : State, T.heap = H → Stand p l e R s m args below meth c T locs cells slots →
    (∃ (v : Option Value) (st₀ t T' : State) (L : List Loc), st₀.heap = H ∧ Stand p l e R s m args below meth c T' (locs ++ L) (cells + mc) (slots + ms) ∧ (∀ q ∈ L, free q.base) ∧ T'.heap = t.heap ∧ T'.vm = t.vm ∧ Qa st₀ (.returned v) t ∧
      Goes p e below T g T' { g with pc := g.pc + 3, stack := v.toList ++ rest }) ∨
    (∃ (q : Addr) (st₀ t T' : State) (L : List Loc) (E : String) (ce : Cell), st₀.heap = H ∧ Stand p l e R s m args below meth c T' (locs ++ L) (cells + mc) (slots + ms) ∧ (∀ z ∈ L, free z.base) ∧ T'.heap = t.heap ∧ T'.vm = t.vm ∧ XC E st₀ t ∧ t.heap[q]? = some ce ∧ ce.vm = .none ∧ s.vm.findClass E = some ce.cls ∧
      Steps p.tables e below (T.setTop g) ((T'.setTop { g with stack := rest }).pushFrame (.throwing q)))
def vx_X {S : Type} (px : S → Prop) (B : String → S → State → Prop) (A : Nat → Prop) : String → State → State → Prop := fun E st t => ∃ u : S, px u ∧ B E u t ∧ va_F A st t
section Runs
variable {p : Program} {l : Launch} {e : Env} {R : Room} {s : State} {m : MethodId} {args : Array Value} {below : List Frame} {meth : Method} {c : Code} {H : Heap} {locs : List Loc} {cells slots : Nat}
variable {y : MethodName} {bytes cc : ByteArray} {maxL nL mc ms n index : Nat} {ret : Option FieldType} {ws : List Cond} {rm : Room} {Pc : Array Value → State → Prop} {Qc : Array Value → State → Outcome → State → Prop} {XC : String → State → State → Prop} {free : Addr → Prop} {Ts : List Cond} {own C : String} {b : Addr} {As rest : List Value} {g : JFrame}
theorem vx_callBack (cb : CallB R s args own index y bytes maxL ret ws rm mc ms n) (hM : vx_Met l y ws rm Pc Qc XC mc ms free) (hbl : FrameBlind Pc) : vx_Back l R p e below s args y 3 8 (PreOf R mc ms Pc) (PostOf Qc mc ms free) (vx_Post XC mc ms free) := by
  obtain ⟨hrc, hrs, hfr, hlo, hws, hcw, -, hini, -⟩ := cb
  exact vx_back (bytes := bytes) (maxL := maxL) (ret := ret) hM hbl hrc hrs hfr hlo hws hcw (fun a' U hW => word_at hW (Or.inl (by first | rfl | simp [Cond.onTables, Cond.keeps, Cond.steady])) hini)
theorem vx_runV (S : CallFix p m c cc nL s args Ts own) (hM : vx_Met l y ws rm Pc Qc XC mc ms free) (cw : CallW R s args own C index y bytes maxL ret ws rm mc ms n) (hp : PreV s H C b Pc As)
    (hg : g.method = m) (hn : As.length = n) (hsize : g.locals.size = nL) (hstack : g.stack = As.reverse ++ .ref b :: rest) (hW : 2 * g.monitorRoom + (rest.map fun v => v.category).sum ≤ 8) (hdg : decode cc g.pc = .ok (.invokevirtual index, 3)) (hf : cells + mc ≤ R.cells ∧ slots + ms ≤ R.slots) :
    vx_Run p l e R s m args below meth c H locs cells slots mc ms g rest (Qc (Value.ref b :: As).toArray) XC free := by
  have hK : vx_Back l R p e below s args y 3 8 (PreOf R mc ms Pc) (PostOf Qc mc ms free) (vx_Post XC mc ms free) := vx_callBack cw.1 hM hp.1
  obtain ⟨⟨-, -, -, -, -, -, hcode, -, hy, hlen, hl⟩, hin, hse⟩ := cw
  obtain ⟨hx, hb, hml, ho, -⟩ := S
  obtain ⟨-, ⟨cellB, hcB, hoB, hclB⟩, hPc⟩ := hp
  intro T hT X
  rcases vx_callV X hx (C := C) (bytes := bytes) (maxL := maxL) (ret := ret) ho hl hin hse hcode hy hK (by rw [hT]; exact hcB) hoB hclB hg (hsize.trans hml.symm) (argsL := As) (rest := rest) (fun sig h => hn.trans (hlen sig h)) hstack hW (by rw [hb]; exact hdg)
    (fun vm₁ hW₁ => ⟨hf.1, hf.2, hPc (T.setVm vm₁) hT hW₁⟩) with ⟨v, vm₁, ⟨U', l2, c2, s2⟩, hW₁, X', ⟨g', mk, t, L, e1, e2, hq, h1, hL, h2, h3⟩, st⟩ | ⟨q, vm₁, ⟨U', l2, c2, s2⟩, hW₁, X', ⟨g', mk, t, L, E, ce, e1, e2, hq, hce, hcv, hcl, h1, hL, h2, h3⟩, st⟩
  · dsimp only [Pt.U, Pt.locs, Pt.cells, Pt.slots] at X' e1 e2 h1 h2 h3 st
    subst h1; subst h2; subst h3
    exact Or.inl ⟨v, (T.setVm vm₁).calling g' mk (Value.ref b :: As).toArray, t, U', L, hT, X', hL, e1, e2, hq, st⟩
  · dsimp only [Pt.U, Pt.locs, Pt.cells, Pt.slots] at X' e1 e2 h1 h2 h3 st hcl
    subst h1; subst h2; subst h3
    exact Or.inr ⟨q, (T.setVm vm₁).calling g' mk (Value.ref b :: As).toArray, t, U', L, E, ce, hT, X', hL, e1, e2, hq, hce, hcv, vx_cls hW₁ hcl, st⟩
theorem vx_runS (S : CallFix p m c cc nL s args Ts own) (hM : vx_Met l y ws rm Pc Qc XC mc ms free) (cw : CallB R s args own index y bytes maxL ret ws rm mc ms n ∧ (Cond.static y).before args s = true) (hp : PreS s H Pc As)
    (hg : g.method = m) (hn : As.length = n) (hsize : g.locals.size = nL) (hstack : g.stack = As.reverse ++ rest) (hW : 2 * g.monitorRoom + (rest.map fun v => v.category).sum ≤ 8) (hdg : decode cc g.pc = .ok (.invokestatic index, 3)) (hf : cells + mc ≤ R.cells ∧ slots + ms ≤ R.slots) :
    vx_Run p l e R s m args below meth c H locs cells slots mc ms g rest (Qc As.toArray) XC free := by
  have hK : vx_Back l R p e below s args y 3 8 (PreOf R mc ms Pc) (PostOf Qc mc ms free) (vx_Post XC mc ms free) := vx_callBack cw.1 hM hp.1
  obtain ⟨⟨-, -, -, -, -, -, hcode, hini, hy, hlen, hl⟩, hstt⟩ := cw
  obtain ⟨hx, hb, hml, ho, -⟩ := S
  intro T hT X
  rcases vx_callS X hx (bytes := bytes) (maxL := maxL) (ret := ret) ho hl hstt hini hcode hy hK hg (hsize.trans hml.symm) (argsL := As) (rest := rest) (fun sig h => hn.trans (hlen sig h)) hstack hW (by rw [hb]; exact hdg)
    (fun vm₁ hW₁ => ⟨hf.1, hf.2, hp.2 (T.setVm vm₁) hT hW₁⟩) with ⟨v, vm₁, ⟨U', l2, c2, s2⟩, hW₁, X', ⟨g', mk, t, L, e1, e2, hq, h1, hL, h2, h3⟩, st⟩ | ⟨q, vm₁, ⟨U', l2, c2, s2⟩, hW₁, X', ⟨g', mk, t, L, E, ce, e1, e2, hq, hce, hcv, hcl, h1, hL, h2, h3⟩, st⟩
  · dsimp only [Pt.U, Pt.locs, Pt.cells, Pt.slots] at X' e1 e2 h1 h2 h3 st
    subst h1; subst h2; subst h3
    exact Or.inl ⟨v, (T.setVm vm₁).calling g' mk As.toArray, t, U', L, hT, X', hL, e1, e2, hq, st⟩
  · dsimp only [Pt.U, Pt.locs, Pt.cells, Pt.slots] at X' e1 e2 h1 h2 h3 st hcl
    subst h1; subst h2; subst h3
    exact Or.inr ⟨q, (T.setVm vm₁).calling g' mk As.toArray, t, U', L, E, ce, hT, X', hL, e1, e2, hq, hce, hcv, vx_cls hW₁ hcl, st⟩
end Runs
section Rows
variable {p : Program} {l : Launch} {e : Env} {R : Room} {s : State} {m : MethodId} {args : Array Value} {below : List Frame} {meth : Method} {c : Code} {H : Heap} {locs : List Loc} {cells slots : Nat} {Q : State → Prop}
variable {mc ms : Nat} {free : Addr → Prop} {A0 A1 : Nat → Prop} {H0 : Heap} {a : Array Value} {pc : Nat} {ls : Array Slot} {st0 rest : List Value}
theorem vx_keep {st₀ t T' : State} {L : List Loc} (h0 : st₀.heap = H) (e1 : T'.heap = t.heap) (hS : va_S A0 H0 H locs) (hA : ∀ q, q < H.size → A1 q → A0 q) (hf : ∀ q, free q → A0 q) (hL : ∀ q ∈ L, free q.base) (hF : va_F A1 st₀ t) :
    H.size ≤ T'.heap.size ∧ (∀ q : Nat, q < H.size → ¬ A1 q → T'.heap[q]? = H[q]?) ∧ va_S A0 H0 T'.heap (locs ++ L) := by
  obtain ⟨hz, hk⟩ := hF
  rw [h0] at hz hk
  exact ⟨by rw [e1]; exact hz, fun q h1 h2 => by rw [e1]; exact hk q h1 h2,
    ⟨Nat.le_trans hS.1 (by rw [e1]; exact hz), fun q h1 h2 => by rw [e1, hk q (Nat.lt_of_lt_of_le h1 hS.1) (fun z => h2 (hA q (Nat.lt_of_lt_of_le h1 hS.1) z))]; exact hS.2.1 q h1 h2, fun q hq => by
      rcases List.mem_append.mp hq with h | h
      · exact hS.2.2 q h
      · exact hf _ (hL q h)⟩⟩
theorem vx_calli {S SX : Type} {post : Int32 → S → Prop} {px : SX → Prop} {B : S → State → Prop} {BX : String → SX → State → Prop} {AX : Nat → Prop} (hr : vx_Run p l e R s m args below meth c H locs cells slots mc ms (F0 m pc ls st0) rest (va_Qi post B A1 a) (vx_X px BX AX) free) (hS : va_S A0 H0 H locs) (hA : ∀ q, q < H.size → A1 q → A0 q) (hf : ∀ q, free q → A0 q) (hAX : ∀ q, q < H.size → AX q → A0 q)
    (kx : ∀ (E : String) (ce : Cell) (q9 : Addr) (u : SX) (t : State) (H1 : Heap) (locs1 : List Loc), t.heap = H1 → s.vm.Alike t.vm → px u → BX E u t → H.size ≤ H1.size → (∀ q : Nat, q < H.size → ¬ AX q → H1[q]? = H[q]?) → va_S A0 H0 H1 locs1 → H1[q9]? = some ce → ce.vm = .none → s.vm.findClass E = some ce.cls → vx_W p l e R s m args below meth c H1 locs1 (cells + mc) (slots + ms) Q (F0 m pc ls rest) q9)
    (kk : ∀ (r : Int32) (u : S) (t : State) (H1 : Heap) (locs1 : List Loc), t.heap = H1 → s.vm.Alike t.vm → post r u → B u t → H.size ≤ H1.size → (∀ q : Nat, q < H.size → ¬ A1 q → H1[q]? = H[q]?) → va_S A0 H0 H1 locs1 → W p l e R s m args below meth c H1 locs1 (cells + mc) (slots + ms) Q (F0 m (pc + 3) ls (.int r :: rest))) : W p l e R s m args below meth c H locs cells slots Q (F0 m pc ls st0) := by
  intro T hT X
  rcases hr T hT X with ⟨v, st₀, t, T', L, h0, X', hL, e1, e2, ⟨⟨r, u, hv, hp, hb⟩, hF⟩, st⟩ | ⟨q, st₀, t, T', L, E, ce, h0, X', hL, e1, e2, ⟨u, hp, hb, hF⟩, hce, hcv, hcl, st⟩
  · cases hv
    obtain ⟨k1, k2, k3⟩ := vx_keep h0 e1 hS hA hf hL hF
    obtain ⟨t2, a1, b1⟩ := kk r u t T'.heap (locs ++ L) e1.symm (by rw [← e2]; exact X'.warmed.alike) hp hb k1 k2 k3 T' rfl X'
    exact ⟨t2, st t2 a1, b1⟩
  · obtain ⟨k1, k2, k3⟩ := vx_keep h0 e1 hS hAX hf hL hF
    obtain ⟨t2, a1, b1⟩ := kx E ce q u t T'.heap (locs ++ L) e1.symm (by rw [← e2]; exact X'.warmed.alike) hp hb k1 k2 k3 (by rw [e1]; exact hce) hcv hcl T' rfl X'
    exact ⟨t2, st.trans a1, b1⟩
theorem vx_calll {S SX : Type} {post : Int64 → S → Prop} {px : SX → Prop} {B : S → State → Prop} {BX : String → SX → State → Prop} {AX : Nat → Prop} (hr : vx_Run p l e R s m args below meth c H locs cells slots mc ms (F0 m pc ls st0) rest (va_Ql post B A1 a) (vx_X px BX AX) free) (hS : va_S A0 H0 H locs) (hA : ∀ q, q < H.size → A1 q → A0 q) (hf : ∀ q, free q → A0 q) (hAX : ∀ q, q < H.size → AX q → A0 q)
    (kx : ∀ (E : String) (ce : Cell) (q9 : Addr) (u : SX) (t : State) (H1 : Heap) (locs1 : List Loc), t.heap = H1 → s.vm.Alike t.vm → px u → BX E u t → H.size ≤ H1.size → (∀ q : Nat, q < H.size → ¬ AX q → H1[q]? = H[q]?) → va_S A0 H0 H1 locs1 → H1[q9]? = some ce → ce.vm = .none → s.vm.findClass E = some ce.cls → vx_W p l e R s m args below meth c H1 locs1 (cells + mc) (slots + ms) Q (F0 m pc ls rest) q9)
    (kk : ∀ (r : Int64) (u : S) (t : State) (H1 : Heap) (locs1 : List Loc), t.heap = H1 → s.vm.Alike t.vm → post r u → B u t → H.size ≤ H1.size → (∀ q : Nat, q < H.size → ¬ A1 q → H1[q]? = H[q]?) → va_S A0 H0 H1 locs1 → W p l e R s m args below meth c H1 locs1 (cells + mc) (slots + ms) Q (F0 m (pc + 3) ls (.long r :: rest))) : W p l e R s m args below meth c H locs cells slots Q (F0 m pc ls st0) := by
  intro T hT X
  rcases hr T hT X with ⟨v, st₀, t, T', L, h0, X', hL, e1, e2, ⟨⟨r, u, hv, hp, hb⟩, hF⟩, st⟩ | ⟨q, st₀, t, T', L, E, ce, h0, X', hL, e1, e2, ⟨u, hp, hb, hF⟩, hce, hcv, hcl, st⟩
  · cases hv
    obtain ⟨k1, k2, k3⟩ := vx_keep h0 e1 hS hA hf hL hF
    obtain ⟨t2, a1, b1⟩ := kk r u t T'.heap (locs ++ L) e1.symm (by rw [← e2]; exact X'.warmed.alike) hp hb k1 k2 k3 T' rfl X'
    exact ⟨t2, st t2 a1, b1⟩
  · obtain ⟨k1, k2, k3⟩ := vx_keep h0 e1 hS hAX hf hL hF
    obtain ⟨t2, a1, b1⟩ := kx E ce q u t T'.heap (locs ++ L) e1.symm (by rw [← e2]; exact X'.warmed.alike) hp hb k1 k2 k3 (by rw [e1]; exact hce) hcv hcl T' rfl X'
    exact ⟨t2, st.trans a1, b1⟩
theorem vx_callf {S SX : Type} {post : UInt32 → S → Prop} {px : SX → Prop} {B : S → State → Prop} {BX : String → SX → State → Prop} {AX : Nat → Prop} (hr : vx_Run p l e R s m args below meth c H locs cells slots mc ms (F0 m pc ls st0) rest (va_Qf post B A1 a) (vx_X px BX AX) free) (hS : va_S A0 H0 H locs) (hA : ∀ q, q < H.size → A1 q → A0 q) (hf : ∀ q, free q → A0 q) (hAX : ∀ q, q < H.size → AX q → A0 q)
    (kx : ∀ (E : String) (ce : Cell) (q9 : Addr) (u : SX) (t : State) (H1 : Heap) (locs1 : List Loc), t.heap = H1 → s.vm.Alike t.vm → px u → BX E u t → H.size ≤ H1.size → (∀ q : Nat, q < H.size → ¬ AX q → H1[q]? = H[q]?) → va_S A0 H0 H1 locs1 → H1[q9]? = some ce → ce.vm = .none → s.vm.findClass E = some ce.cls → vx_W p l e R s m args below meth c H1 locs1 (cells + mc) (slots + ms) Q (F0 m pc ls rest) q9)
    (kk : ∀ (r : UInt32) (u : S) (t : State) (H1 : Heap) (locs1 : List Loc), t.heap = H1 → s.vm.Alike t.vm → post r u → B u t → H.size ≤ H1.size → (∀ q : Nat, q < H.size → ¬ A1 q → H1[q]? = H[q]?) → va_S A0 H0 H1 locs1 → W p l e R s m args below meth c H1 locs1 (cells + mc) (slots + ms) Q (F0 m (pc + 3) ls (.float r :: rest))) : W p l e R s m args below meth c H locs cells slots Q (F0 m pc ls st0) := by
  intro T hT X
  rcases hr T hT X with ⟨v, st₀, t, T', L, h0, X', hL, e1, e2, ⟨⟨r, u, hv, hp, hb⟩, hF⟩, st⟩ | ⟨q, st₀, t, T', L, E, ce, h0, X', hL, e1, e2, ⟨u, hp, hb, hF⟩, hce, hcv, hcl, st⟩
  · cases hv
    obtain ⟨k1, k2, k3⟩ := vx_keep h0 e1 hS hA hf hL hF
    obtain ⟨t2, a1, b1⟩ := kk r u t T'.heap (locs ++ L) e1.symm (by rw [← e2]; exact X'.warmed.alike) hp hb k1 k2 k3 T' rfl X'
    exact ⟨t2, st t2 a1, b1⟩
  · obtain ⟨k1, k2, k3⟩ := vx_keep h0 e1 hS hAX hf hL hF
    obtain ⟨t2, a1, b1⟩ := kx E ce q u t T'.heap (locs ++ L) e1.symm (by rw [← e2]; exact X'.warmed.alike) hp hb k1 k2 k3 (by rw [e1]; exact hce) hcv hcl T' rfl X'
    exact ⟨t2, st.trans a1, b1⟩
theorem vx_calld {S SX : Type} {post : UInt64 → S → Prop} {px : SX → Prop} {B : S → State → Prop} {BX : String → SX → State → Prop} {AX : Nat → Prop} (hr : vx_Run p l e R s m args below meth c H locs cells slots mc ms (F0 m pc ls st0) rest (va_Qd post B A1 a) (vx_X px BX AX) free) (hS : va_S A0 H0 H locs) (hA : ∀ q, q < H.size → A1 q → A0 q) (hf : ∀ q, free q → A0 q) (hAX : ∀ q, q < H.size → AX q → A0 q)
    (kx : ∀ (E : String) (ce : Cell) (q9 : Addr) (u : SX) (t : State) (H1 : Heap) (locs1 : List Loc), t.heap = H1 → s.vm.Alike t.vm → px u → BX E u t → H.size ≤ H1.size → (∀ q : Nat, q < H.size → ¬ AX q → H1[q]? = H[q]?) → va_S A0 H0 H1 locs1 → H1[q9]? = some ce → ce.vm = .none → s.vm.findClass E = some ce.cls → vx_W p l e R s m args below meth c H1 locs1 (cells + mc) (slots + ms) Q (F0 m pc ls rest) q9)
    (kk : ∀ (r : UInt64) (u : S) (t : State) (H1 : Heap) (locs1 : List Loc), t.heap = H1 → s.vm.Alike t.vm → post r u → B u t → H.size ≤ H1.size → (∀ q : Nat, q < H.size → ¬ A1 q → H1[q]? = H[q]?) → va_S A0 H0 H1 locs1 → W p l e R s m args below meth c H1 locs1 (cells + mc) (slots + ms) Q (F0 m (pc + 3) ls (.double r :: rest))) : W p l e R s m args below meth c H locs cells slots Q (F0 m pc ls st0) := by
  intro T hT X
  rcases hr T hT X with ⟨v, st₀, t, T', L, h0, X', hL, e1, e2, ⟨⟨r, u, hv, hp, hb⟩, hF⟩, st⟩ | ⟨q, st₀, t, T', L, E, ce, h0, X', hL, e1, e2, ⟨u, hp, hb, hF⟩, hce, hcv, hcl, st⟩
  · cases hv
    obtain ⟨k1, k2, k3⟩ := vx_keep h0 e1 hS hA hf hL hF
    obtain ⟨t2, a1, b1⟩ := kk r u t T'.heap (locs ++ L) e1.symm (by rw [← e2]; exact X'.warmed.alike) hp hb k1 k2 k3 T' rfl X'
    exact ⟨t2, st t2 a1, b1⟩
  · obtain ⟨k1, k2, k3⟩ := vx_keep h0 e1 hS hAX hf hL hF
    obtain ⟨t2, a1, b1⟩ := kx E ce q u t T'.heap (locs ++ L) e1.symm (by rw [← e2]; exact X'.warmed.alike) hp hb k1 k2 k3 (by rw [e1]; exact hce) hcv hcl T' rfl X'
    exact ⟨t2, st.trans a1, b1⟩
theorem vx_callv {S SX : Type} {post : S → Prop} {px : SX → Prop} {B : S → State → Prop} {BX : String → SX → State → Prop} {AX : Nat → Prop} (hr : vx_Run p l e R s m args below meth c H locs cells slots mc ms (F0 m pc ls st0) rest (va_Qv post B A1 a) (vx_X px BX AX) free) (hS : va_S A0 H0 H locs) (hA : ∀ q, q < H.size → A1 q → A0 q) (hf : ∀ q, free q → A0 q) (hAX : ∀ q, q < H.size → AX q → A0 q)
    (kx : ∀ (E : String) (ce : Cell) (q9 : Addr) (u : SX) (t : State) (H1 : Heap) (locs1 : List Loc), t.heap = H1 → s.vm.Alike t.vm → px u → BX E u t → H.size ≤ H1.size → (∀ q : Nat, q < H.size → ¬ AX q → H1[q]? = H[q]?) → va_S A0 H0 H1 locs1 → H1[q9]? = some ce → ce.vm = .none → s.vm.findClass E = some ce.cls → vx_W p l e R s m args below meth c H1 locs1 (cells + mc) (slots + ms) Q (F0 m pc ls rest) q9)
    (kk : ∀ (u : S) (t : State) (H1 : Heap) (locs1 : List Loc), t.heap = H1 → s.vm.Alike t.vm → post u → B u t → H.size ≤ H1.size → (∀ q : Nat, q < H.size → ¬ A1 q → H1[q]? = H[q]?) → va_S A0 H0 H1 locs1 → W p l e R s m args below meth c H1 locs1 (cells + mc) (slots + ms) Q (F0 m (pc + 3) ls (rest))) : W p l e R s m args below meth c H locs cells slots Q (F0 m pc ls st0) := by
  intro T hT X
  rcases hr T hT X with ⟨v, st₀, t, T', L, h0, X', hL, e1, e2, ⟨⟨u, hv, hp, hb⟩, hF⟩, st⟩ | ⟨q, st₀, t, T', L, E, ce, h0, X', hL, e1, e2, ⟨u, hp, hb, hF⟩, hce, hcv, hcl, st⟩
  · cases hv
    obtain ⟨k1, k2, k3⟩ := vx_keep h0 e1 hS hA hf hL hF
    obtain ⟨t2, a1, b1⟩ := kk u t T'.heap (locs ++ L) e1.symm (by rw [← e2]; exact X'.warmed.alike) hp hb k1 k2 k3 T' rfl X'
    exact ⟨t2, st t2 a1, b1⟩
  · obtain ⟨k1, k2, k3⟩ := vx_keep h0 e1 hS hAX hf hL hF
    obtain ⟨t2, a1, b1⟩ := kx E ce q u t T'.heap (locs ++ L) e1.symm (by rw [← e2]; exact X'.warmed.alike) hp hb k1 k2 k3 (by rw [e1]; exact hce) hcv hcl T' rfl X'
    exact ⟨t2, st.trans a1, b1⟩
end Rows
section Ends
variable {p : Program} {l : Launch} {e : Env} {R : Room} {s : State} {m : MethodId} {args : Array Value} {below : List Frame} {meth : Method} {c : Code} {H : Heap} {locs : List Loc} {cells slots : Nat} {Q : State → Prop}
variable {mc ms : Nat} {free : Addr → Prop} {A0 A1 : Nat → Prop} {H0 : Heap} {a : Array Value} {ls : Array Slot} {st0 rest : List Value}
variable {Qc : Array Value → State → Outcome → State → Prop} {XC : String → State → State → Prop}
/-- what a body that may throw owes at its end -/
def vx_MQ (below : List Frame) (Qc : Array Value → State → Outcome → State → Prop) (XC : String → State → State → Prop) (a : Array Value) (s : State) (mc ms : Nat) (free : Addr → Prop) : State → Prop := fun t =>
  ∃ o, t.status = .running ∧ Ended t below o ∧ vx_Q Qc XC mc ms free a s o t
theorem vx_ret {g : JFrame} {mc ms : Nat} (k : W p l e R s m args below meth c H locs cells slots (MQ below Qc args s mc ms free) g) : W p l e R s m args below meth c H locs cells slots (vx_MQ below Qc XC args s mc ms free) g := by
  intro T hT X
  obtain ⟨t, a1, o, b1, b2, b3, b4⟩ := k T hT X
  exact ⟨t, a1, o, b1, b2, Or.inl ⟨b3, b4⟩⟩
/-- not caught here: it goes on to the caller -/
theorem vx_widen {g : JFrame} {q : Addr} {k n : Nat} (h1 : cells ≤ k) (h2 : slots ≤ n) (kk : vx_W p l e R s m args below meth c H locs k n Q g q) : vx_W p l e R s m args below meth c H locs cells slots Q g q := fun T hT X => kk T hT (stand_widen X h1 h2)
theorem vx_out {pc : Nat} {E : String} {ce : Cell} {q : Addr} {mc ms : Nat} (hout : ∀ x ∈ c.exceptionTable.toList, covers x pc = false) (hlocks : meth.locks = false) (hcell : H[q]? = some ce) (hv : ce.vm = .none) (hcl : s.vm.findClass E = some ce.cls)
    (hx : ∀ t : State, t.heap = H → s.vm.Alike t.vm → XC E s t) (hf : ∀ z ∈ locs, free z.base) (hc : cells ≤ mc) (hs : slots ≤ ms) :
    vx_W p l e R s m args below meth c H locs cells slots (vx_MQ below Qc XC args s mc ms free) (F0 m pc ls rest) q := by
  intro T hT X
  obtain ⟨st1, hrun, hend, hW, hsm⟩ := X.leaveThrown q (g := F0 m pc ls rest) rfl rfl rfl hout hlocks
  have hcell9 : (T.setFrames (.throwing q :: below)).heap[q]? = some ce := by
    show T.heap[q]? = some ce
    rw [hT]; exact hcell
  exact ⟨_, st1, .threw q, hrun, hend, Or.inr ⟨q, rfl, E, ce, locs, hx _ hT hW.alike, hcell9, hv, hcl, hW, hsm.mono hc hs, hf⟩⟩
theorem vx_frame {U : State} {k n : Nat} (h : s.sameButNew ({ U with vm := s.vm } : State) locs k n) : s.heap.size ≤ U.heap.size ∧ ∀ q : Nat, q < s.heap.size → (∀ z ∈ locs, z.base ≠ q) → U.heap[q]? = s.heap[q]? := by
  obtain ⟨-, h2, -, -, -, h6⟩ := h
  refine ⟨h2, fun q hq hz => ?_⟩
  obtain ⟨c9, e1, e2, e3, e4⟩ := h6 q _ (Array.getElem?_eq_getElem hq)
  have hs : c9.slots = (s.heap[q]).slots := Array.ext_getElem? fun i => e4 i fun hm => hz _ hm rfl
  have h9 : c9 = s.heap[q] := by
    rw [hs] at e2
    exact e2
  have e5 : U.heap[q]? = some c9 := e1
  rw [e5, h9, Array.getElem?_eq_getElem hq]
/-- the words of a throw but the four that speak of the heap -/
def vx_no (w : Cond) : Bool := decide (w ≠ .isRef (.static Bundle.tN "UNASSIGNED_STACK" Bundle.steD)) && decide (w ≠ .isRef (.static Bundle.tN "SUPPRESSED_SENTINEL" Bundle.listD)) && decide (w ≠ .laysStatic Bundle.tN "UNASSIGNED_STACK" Bundle.steD) && decide (w ≠ .laysStatic Bundle.tN "SUPPRESSED_SENTINEL" Bundle.listD)
def vx_at0 (own : String) (ic : Nat) (X : String) (names : List String) : List Cond := (Bundle.ownAtoms0 own ic X names).filter vx_no
def vx_atS (own : String) (ic : Nat) (X : String) (names : List String) : List Cond := (Bundle.ownAtoms own ic X names).filter vx_no
/-- a word that the tables alone decide, or a good one -/
def vx_ot (w : Cond) : Bool := w.onTables || goodWord w
theorem vx_ot_at {args a' : Array Value} {s U : State} {w : Cond} (hW : s.WarmedH U.vm) (hvm : s.vm = U.vm) (hg : vx_ot w = true) (h : w.before args s = true) : w.before a' U = true := by
  simp only [vx_ot, Bool.or_eq_true] at hg
  rcases hg with hg | hg
  · exact va_tabs hg hvm h
  · exact word_at hW (good_of_word hg) h
/-- a list's words: the good ones out of the method's own list, the others by premises of their own -/
theorem vx_hat {args : Array Value} {s : State} {L B : List Cond} (h1 : ∀ w ∈ L.filter goodWord, w.before args s = true) (h2 : ∀ w ∈ L.filter (fun w => !goodWord w), w ∈ B) (h3 : ∀ w ∈ B, w.before args s = true) : ∀ w ∈ L, w.before args s = true := by
  intro w hw
  by_cases g : goodWord w = true
  · exact h1 w (List.mem_filter.mpr ⟨hw, g⟩)
  · refine h3 w (h2 w (List.mem_filter.mpr ⟨hw, ?_⟩))
    show (!goodWord w) = true
    cases hgw : goodWord w
    · rfl
    · exact absurd hgw g
theorem vx_c {args : Array Value} {s : State} {w : Cond} {B : List Cond} (h : w.before args s = true) (t : ∀ w ∈ B, w.before args s = true) : ∀ w' ∈ w :: B, w'.before args s = true := fun w' h' => (List.mem_cons.mp h').elim (fun e => by rw [e]; exact h) (t w')
theorem vx_n {args : Array Value} {s : State} : ∀ w ∈ ([] : List Cond), w.before args s = true := fun _ h => nomatch h
theorem vx_own {args : Array Value} {s : State} {L : List Cond} (h1 : ∀ w ∈ L.filter vx_no, w.before args s = true)
    (hU : (Cond.isRef (.static Bundle.tN "UNASSIGNED_STACK" Bundle.steD)).before args s = true) (hN : (Cond.isRef (.static Bundle.tN "SUPPRESSED_SENTINEL" Bundle.listD)).before args s = true)
    (lU : (Cond.laysStatic Bundle.tN "UNASSIGNED_STACK" Bundle.steD).before args s = true) (lN : (Cond.laysStatic Bundle.tN "SUPPRESSED_SENTINEL" Bundle.listD).before args s = true) : ∀ w ∈ L, w.before args s = true := by
  intro w hw
  by_cases e1 : w = .isRef (.static Bundle.tN "UNASSIGNED_STACK" Bundle.steD)
  · rw [e1]; exact hU
  · by_cases e2 : w = .isRef (.static Bundle.tN "SUPPRESSED_SENTINEL" Bundle.listD)
    · rw [e2]; exact hN
    · by_cases e3 : w = .laysStatic Bundle.tN "UNASSIGNED_STACK" Bundle.steD
      · rw [e3]; exact lU
      · by_cases e4 : w = .laysStatic Bundle.tN "SUPPRESSED_SENTINEL" Bundle.listD
        · rw [e4]; exact lN
        · exact h1 w (List.mem_filter.mpr ⟨hw, by unfold vx_no; rw [decide_eq_true e1, decide_eq_true e2, decide_eq_true e3, decide_eq_true e4]; rfl⟩)
/-- where a static field lies, its class's statics cell in H -/
def vx_L (C n d : String) (A : Nat → Prop) (U : State) (H : Heap) : Prop := ∃ (c : ClassId) (k : Class) (i : Nat) (f : Field) (a : Nat) (cell : Cell), U.vm.findClass C = some c ∧ U.fieldFound? C n d = some (c, k, i, f) ∧ f.isStatic = true ∧ k.statics = some a ∧ H[a]? = some cell ∧ cell.vm.isStatics = true ∧ cell.cls = c ∧ f.slot < cell.slots.size ∧ k.staticTypes[f.slot]? = some f.type ∧ ¬ A a
theorem vx_L.moved {C n d : String} {A : Nat → Prop} {u U : State} {H : Heap} (hvm : u.vm.Alike U.vm) (h : vx_L C n d A u H) : vx_L C n d A U H := by
  obtain ⟨c, k, i, f, a, cell, h1, h2, h3, h4, h5, h6, h7, h8, h9, h10⟩ := h
  obtain ⟨k', hi', he⟩ := State.fieldFound?_setVm hvm h2
  exact ⟨c, k', i, f, a, cell, by rw [hvm.findClass]; exact h1, hi', h3, by rw [he]; exact h4, h5, h6, h7, h8, by rw [he]; exact h9, h10⟩
theorem vx_L.kept {C n d : String} {A : Nat → Prop} {U : State} {H H1 : Heap} (h : vx_L C n d A U H) (hq : ∀ a : Nat, a < H.size → ¬ A a → H1[a]? = H[a]?) : vx_L C n d A U H1 := by
  obtain ⟨c, k, i, f, a, cell, h1, h2, h3, h4, h5, h6, h7, h8, h9, h10⟩ := h
  exact ⟨c, k, i, f, a, cell, h1, h2, h3, h4, by rw [hq a (Array.getElem?_eq_some_iff.mp h5).1 h10]; exact h5, h6, h7, h8, h9, h10⟩
theorem vx_L.narrow {C n d : String} {A B : Nat → Prop} {U : State} {H : Heap} (h : vx_L C n d A U H) (hAB : ∀ q, B q → A q) : vx_L C n d B U H := by
  obtain ⟨c, k, i, f, a, cell, h1, h2, h3, h4, h5, h6, h7, h8, h9, h10⟩ := h
  exact ⟨c, k, i, f, a, cell, h1, h2, h3, h4, h5, h6, h7, h8, h9, fun z => h10 (hAB _ z)⟩
theorem vx_L.word {C n d : String} {A : Nat → Prop} {s : State} {args : Array Value} (h : vx_L C n d A s s.heap) : (Cond.laysStatic C n d).before args s = true := by
  obtain ⟨c, k, i, f, a, cell, h1, h2, h3, h4, h5, h6, h7, h8, h9, -⟩ := h
  show (Cond.laysStatic C n d).holds args s none s [] = true
  exact Cond.laysStatic_of h1 h2 h3 h4 h5 h6 h7 h8 h9
/-- .. and what it holds: null or some reference -/
def vx_Zq (C n d : String) (A : Nat → Prop) (U : State) (H : Heap) : Prop := va_Zq C n d A U H ∧ vx_L C n d A U H
theorem vx_Zq.moved {C n d : String} {A : Nat → Prop} {u U : State} {H : Heap} (hvm : u.vm.Alike U.vm) (h : vx_Zq C n d A u H) : vx_Zq C n d A U H := ⟨va_Zq.moved hvm h.1, vx_L.moved hvm h.2⟩
theorem vx_Zq.kept {C n d : String} {A : Nat → Prop} {U : State} {H H1 : Heap} (h : vx_Zq C n d A U H) (hq : ∀ a : Nat, a < H.size → ¬ A a → H1[a]? = H[a]?) : vx_Zq C n d A U H1 := ⟨va_Zq.kept h.1 hq, vx_L.kept h.2 hq⟩
theorem vx_Zq.narrow {C n d : String} {A B : Nat → Prop} {U : State} {H : Heap} (h : vx_Zq C n d A U H) (hAB : ∀ q, B q → A q) : vx_Zq C n d B U H := ⟨va_Zq.narrow h.1 hAB, vx_L.narrow h.2 hAB⟩
theorem vx_Zqof {args : Array Value} {s : State} {C n d : String} {A : Nat → Prop} (hl : (Cond.laysStatic C n d).before args s = true) (hini : (Cond.initialized C).before args s = true) (h : (Cond.isRef (.static C n d)).before args s = true) (hA : ∀ a : Nat, a < s.heap.size → ¬ A a) : vx_Zq C n d A s s.heap := by
  refine ⟨va_Zqof hl hini h hA, ?_⟩
  obtain ⟨c, k, i, f, a, cell, h1, h2, h3, h4, h5, h6, h7, h8, h9⟩ := Cond.laysStatic_spec hl
  exact ⟨c, k, i, f, a, cell, h1, h2, h3, h4, h5, h6, h7, h8, h9, hA a (Array.getElem?_eq_some_iff.mp h5).1⟩
theorem vx_isRef {C n d : String} {v : Value} {A : Nat → Prop} {s : State} {args : Array Value} (h : va_Z C n d v A s s.heap) (hv : v.isRef = true) : (Cond.isRef (.static C n d)).before args s = true := by
  obtain ⟨cf, kf, fi, f, a, cell, h1, h2, h3, h4, h5, h6, h7, -⟩ := h
  have he : (Term.static C n d).eval args s none [] s = some v := by
    simp [Term.eval, State.fieldNamed?, h1, h2, h4, h5, h6, h7]
  simp only [Cond.before, Cond.holds, Cond.value, he]
  cases v <;> simp_all [Value.isRef]
theorem vx_isRefq {C n d : String} {A : Nat → Prop} {s : State} {args : Array Value} (h : va_Zq C n d A s s.heap) : (Cond.isRef (.static C n d)).before args s = true := by
  rcases h with h | ⟨t, h⟩
  · exact vx_isRef h rfl
  · exact vx_isRef h rfl
/-- the same frame, seen from here: as if the method were called anew in this heap -/
theorem vx_rebase {T : State} (X : Stand p l e R s m args below meth c T locs cells slots) {R' : Room} (hf : R'.frames ≤ R.frames) (hl : R'.locals ≤ R.locals) (hc : cells + R'.cells ≤ R.cells) (hs : slots + R'.slots ≤ R.slots) :
    Stand p l e R' ((T.setVm s.vm).setFrames (.invoking m args :: below)) m args below meth c T [] 0 0 := by
  have htop : (T.setVm s.vm).topJava?.isSome := X.here.top
  have hF : ((T.setVm s.vm).setFrames (.invoking m args :: below)).frames = .invoking m args :: below := State.frames_setFrames _ (State.cur_lt_of_top htop)
  obtain ⟨g₀, hg0⟩ := Option.isSome_iff_exists.mp htop
  obtain ⟨r, hr⟩ := State.topJava?_eq_some.mp hg0
  have hl9 : e.platform.stackLimits (T.setVm s.vm).me = e.platform.stackLimits s.me := X.limits
  have hb9 : (T.setVm s.vm).me.stackBytes = s.me.stackBytes := X.bytes
  refine ⟨X.admits, X.cas, X.clock, hF, ?_, X.hears, X.method, X.code, X.here, X.tail, X.warmed, ?_, ?_, ?_⟩
  · have h := X.room
    have hU : ((T.setVm s.vm).setFrames (.invoking m args :: below)).localsInUse = s.localsInUse := by
      rw [State.localsInUse_invoking hF (meth := meth) (c := c) X.method X.code, State.localsInUse_invoking X.frames X.method X.code]
    simp only [State.hasRoom, Bool.and_eq_true, decide_eq_true_eq] at h ⊢
    obtain ⟨⟨⟨⟨h1, h2, h3, h4, h5, h6⟩, h7⟩, h8⟩, h9⟩ := h
    rw [X.frames, List.length_cons] at h2 h3
    have q1 := X.heapSize
    have q2 := X.used
    simp only [hF, hU, List.length_cons, State.stackLimits_setFrames, State.stackBytes_setFrames, hl9, hb9]
    refine ⟨⟨⟨⟨by omega, by omega, by omega, by omega, by omega, h6⟩, ?_⟩, ?_⟩, X.book⟩
    · show T.heap.size + R'.cells ≤ e.platform.maxCells
      omega
    · show T.slotsUsed + R'.slots ≤ e.platform.maxSlots
      omega
  · rw [State.stackLimits_setFrames]; rfl
  · rw [State.stackBytes_setFrames]; rfl
  · refine ⟨?_, Nat.le_refl _, Nat.le_refl _, ?_, ?_, fun a c9 h9 => ⟨c9, h9, rfl, rfl, fun _ _ => rfl⟩⟩
    · obtain ⟨t, ht, -⟩ := State.frames_cons hr
      show T.setVm s.vm = { ((T.setVm s.vm).setFrames (.invoking m args :: below)).setFrames (T.setVm s.vm).frames with heap := T.heap, slotsUsed := T.slotsUsed }
      rw [State.setFrames_setFrames, State.setFrames_self ht]
      rfl
    · show T.slotsUsed = T.slotsUsed + ((T.heap.toList.drop T.heap.size).map (·.slots.size)).sum
      rw [List.drop_eq_nil_of_le (Nat.le_of_eq Array.length_toList)]
      rfl
    · show ((T.heap.toList.drop T.heap.size).map (·.slots.size)).sum ≤ 0
      rw [List.drop_eq_nil_of_le (Nat.le_of_eq Array.length_toList)]
      exact Nat.le_refl _
/-- 'throw new E()': new; dup; invokespecial; athrow -/
theorem vx_throw0 {cc : ByteArray} {pc : Nat} (hexec : p.tables.exec = Jvm.exec) (hb : c.code = cc) (hl : l.stackTraces = false) {own cls : String} {names : List String} {ik ic mc ms : Nat} {A : Nat → Prop}
    (hown : s.vm.findClass own = some m.cls) (hcls : Bundle.fit cls = true) (hnames : ∀ n ∈ names, Bundle.fit n = true)
    (hk : (Cond.classLink own ik cls).before args s = true) (hini : (Cond.initialized cls).before args s = true) (hat : ∀ w ∈ vx_at0 own ic cls names, w.before args s = true)
    (hgood : ∀ w ∈ Cond.classLink own ik cls :: Cond.initialized cls :: vx_at0 own ic cls names, vx_ot w = true)
    (hU : vx_Zq Bundle.tN "UNASSIGNED_STACK" Bundle.steD A s s.heap) (hN : vx_Zq Bundle.tN "SUPPRESSED_SENTINEL" Bundle.listD A s s.heap) (hS : va_S A s.heap H locs) (hsize : ls.size = c.maxLocals)
    (d0 : decode cc pc = .ok (.new ik, 3)) (d3 : decode cc (pc + 3) = .ok (.dup, 1)) (d4 : decode cc (pc + 4) = .ok (.invokespecial ic, 3)) (d7 : decode cc (pc + 7) = .ok (.athrow, 1))
    (hout : ∀ x ∈ c.exceptionTable.toList, covers x (pc + 7) = false)
    (hRframes : names.length + 3 < R.frames) (hRlocals : (rest.map fun v => v.category).sum + (13 * (names.length + 1) + 42) ≤ R.locals) (hRcells : cells + 1 ≤ R.cells) (hRslots : slots + 6 ≤ R.slots) (hlocks : meth.locks = false)
    (hx : ∀ t : State, s.vm.Alike t.vm → H.size ≤ t.heap.size → (∀ q : Nat, q < H.size → t.heap[q]? = H[q]?) → XC cls s t)
    (hf : ∀ z ∈ locs, free z.base) (hc : cells + 1 ≤ mc) (hs : slots + 6 ≤ ms) :
    W p l e R s m args below meth c H locs cells slots (vx_MQ below Qc XC args s mc ms free) (F0 m pc ls rest) := by
  intro T hT X
  have htr : e.platform.stackTraces = false := (show e.platform.stackTraces = l.stackTraces by rw [X.admits.platform]).trans hl
  have Y := vx_rebase X (R' := { frames := R.frames, locals := R.locals, cells := 1, slots := 6 }) (Nat.le_refl _) (Nat.le_refl _) hRcells hRslots
  obtain ⟨s', hA⟩ : ∃ z, z = (T.setVm s.vm).setFrames (.invoking m args :: below) := ⟨_, rfl⟩
  rw [← hA] at Y
  have hvm : s'.vm = s.vm := by rw [hA]; rfl
  have hhp : s'.heap = H := by rw [hA]; exact hT
  have hW0 : s.WarmedH s'.vm := by rw [hvm]; exact State.WarmedH.refl s
  have hat' : ∀ w ∈ vx_at0 own ic cls names, w.before args s' = true := fun w hw => vx_ot_at hW0 hvm.symm (hgood w (List.mem_cons_of_mem _ (List.mem_cons_of_mem _ hw))) (hat w hw)
  have hk' : (Cond.classLink own ik cls).before args s' = true := vx_ot_at hW0 hvm.symm (hgood _ List.mem_cons_self) hk
  have hini' : (Cond.initialized cls).before args s' = true := vx_ot_at hW0 hvm.symm (hgood _ (List.mem_cons_of_mem _ List.mem_cons_self)) hini
  have hU' : vx_Zq Bundle.tN "UNASSIGNED_STACK" Bundle.steD A s' s'.heap := by rw [hhp]; exact vx_Zq.moved hW0.alike (hU.kept hS.2.1)
  have hN' : vx_Zq Bundle.tN "SUPPRESSED_SENTINEL" Bundle.listD A s' s'.heap := by rw [hhp]; exact vx_Zq.moved hW0.alike (hN.kept hS.2.1)
  have h : ∀ w ∈ Bundle.ownAtoms0 own ic cls names, w.before args s' = true := vx_own hat' (vx_isRefq hU'.1) (vx_isRefq hN'.1) hU'.2.word hN'.2.word
  have hown' : s'.vm.findClass own = some m.cls := by rw [hvm]; exact hown
  have hins : (Cond.instantiable cls 6).before args s' = true := h _ (by simp [Bundle.ownAtoms0])
  obtain ⟨vm₁, cX, kX, hfX, hkX, -, -, X₁, st1⟩ := Y.newCold hexec (own := own) (C := cls) (index := ik) (n := 6) hown' hk' hins hini'
    (g := F0 m pc ls rest) rfl (by rw [hb]; exact d0) (Nat.le_refl _) (Nat.le_refl _)
  generalize hT1 : (T.setVm vm₁).pushCell { cls := cX, slots := kX.instanceTypes.map defaultValue, vm := .none } = T1 at X₁ st1
  have hcat : (Value.ref T.heap.size).category = 1 := rfl
  have hcellA : T1.heap[T.heap.size]? = some (freshCell cX kX) := by rw [← hT1]; exact State.heap_pushCell_size _ _
  have d3' : decode c.code (pc + 3) = .ok (.dup, 1) := by rw [hb]; exact d3
  obtain ⟨U, hsteps, hrun, hend, hW, hsame, ce, hce, hO⟩ := X₁.ctorThrow0 hexec htr (own := own) (cls := cls) (names := names) (ic := ic) hown' hcls hnames h (fun x hx => nomatch hx) hfX hkX hcellA (by rw [hhp, hT]; exact Nat.le_refl _)
    (g := { method := m, pc := pc + 4, locals := ls, stack := .ref T.heap.size :: .ref T.heap.size :: rest, locked := none }) rfl hsize rfl rfl (rest := rest) rfl
    (by rw [hb]; exact d4) (by rw [hb]; exact d7) hout hRframes (by simp only [List.map_cons, List.sum_cons, hcat]; omega) hlocks
  obtain ⟨f1, f2⟩ := vx_frame hsame
  rw [hhp] at f1 f2
  have hWs : s.WarmedH U.vm := State.WarmedH.trans hW0 hW
  have hcl : s.vm.findClass cls = some ce.cls := by
    have h9 := hO.cls
    rw [hvm] at h9
    exact h9
  have hall : s.sameButNew ({ U with vm := s.vm } : State) locs mc ms := by
    subst hA
    obtain ⟨e1, e2⟩ := hsame
    rw [State.setFrames_setFrames] at e1
    have h2 : (T.setVm s.vm).sameButNew ({ U with vm := s.vm } : State) [] (0 + 1) (0 + 6) := ⟨e1, e2⟩
    have h3 := X.same.trans h2
    rw [List.append_nil] at h3
    exact h3.mono hc hs
  refine ⟨U, ?_, .threw T.heap.size, hrun, hend, Or.inr ⟨T.heap.size, rfl, cls, ce, locs, hx U hWs.alike f1 (fun q hq => f2 q hq (fun z hz => nomatch hz)), hce, hO.vm, hcl, hWs, hall, hf⟩⟩
  refine st1 _ ?_
  show Steps p.tables e below (T1.setTop { method := m, pc := pc + 3, locals := ls, stack := .ref T.heap.size :: rest, locked := none }) _
  jvm_step X₁.here [X₁.here.top, hexec, d3', Value.category]
  exact hsteps
/-- 'throw new E("text")': new; dup; ldc; invokespecial; athrow -/
theorem vx_throwS {cc : ByteArray} {pc : Nat} (hexec : p.tables.exec = Jvm.exec) (hb : c.code = cc) (hl : l.stackTraces = false) {own cls text : String} {names : List String} {ik is ic mc ms sa : Nat} {A : Nat → Prop}
    (hown : s.vm.findClass own = some m.cls) (hcls : Bundle.fit cls = true) (hnames : ∀ n ∈ names, Bundle.fit n = true)
    (hk : (Cond.classLink own ik cls).before args s = true) (hini : (Cond.initialized cls).before args s = true) (hstr : vk_R own is text sa s) (hat : ∀ w ∈ vx_atS own ic cls names, w.before args s = true)
    (hgood : ∀ w ∈ Cond.classLink own ik cls :: Cond.initialized cls :: vx_atS own ic cls names, vx_ot w = true)
    (hU : vx_Zq Bundle.tN "UNASSIGNED_STACK" Bundle.steD A s s.heap) (hN : vx_Zq Bundle.tN "SUPPRESSED_SENTINEL" Bundle.listD A s s.heap) (hS : va_S A s.heap H locs) (hsize : ls.size = c.maxLocals)
    (d0 : decode cc pc = .ok (.new ik, 3)) (d3 : decode cc (pc + 3) = .ok (.dup, 1)) (d4 : decode cc (pc + 4) = .ok (.ldc is, 2)) (d6 : decode cc (pc + 6) = .ok (.invokespecial ic, 3)) (d9 : decode cc (pc + 9) = .ok (.athrow, 1))
    (hout : ∀ x ∈ c.exceptionTable.toList, covers x (pc + 9) = false)
    (hRframes : names.length + 3 < R.frames) (hRlocals : (rest.map fun v => v.category).sum + (13 * (names.length + 1) + 43) ≤ R.locals) (hRcells : cells + 1 ≤ R.cells) (hRslots : slots + 6 ≤ R.slots) (hlocks : meth.locks = false)
    (hx : ∀ t : State, s.vm.Alike t.vm → H.size ≤ t.heap.size → (∀ q : Nat, q < H.size → t.heap[q]? = H[q]?) → XC cls s t)
    (hf : ∀ z ∈ locs, free z.base) (hc : cells + 1 ≤ mc) (hs : slots + 6 ≤ ms) :
    W p l e R s m args below meth c H locs cells slots (vx_MQ below Qc XC args s mc ms free) (F0 m pc ls rest) := by
  intro T hT X
  have htr : e.platform.stackTraces = false := (show e.platform.stackTraces = l.stackTraces by rw [X.admits.platform]).trans hl
  have Y := vx_rebase X (R' := { frames := R.frames, locals := R.locals, cells := 1, slots := 6 }) (Nat.le_refl _) (Nat.le_refl _) hRcells hRslots
  obtain ⟨s', hA⟩ : ∃ z, z = (T.setVm s.vm).setFrames (.invoking m args :: below) := ⟨_, rfl⟩
  rw [← hA] at Y
  have hvm : s'.vm = s.vm := by rw [hA]; rfl
  have hhp : s'.heap = H := by rw [hA]; exact hT
  have hW0 : s.WarmedH s'.vm := by rw [hvm]; exact State.WarmedH.refl s
  have hat' : ∀ w ∈ vx_atS own ic cls names, w.before args s' = true := fun w hw => vx_ot_at hW0 hvm.symm (hgood w (List.mem_cons_of_mem _ (List.mem_cons_of_mem _ hw))) (hat w hw)
  have hk' : (Cond.classLink own ik cls).before args s' = true := vx_ot_at hW0 hvm.symm (hgood _ List.mem_cons_self) hk
  have hini' : (Cond.initialized cls).before args s' = true := vx_ot_at hW0 hvm.symm (hgood _ (List.mem_cons_of_mem _ List.mem_cons_self)) hini
  have hU' : vx_Zq Bundle.tN "UNASSIGNED_STACK" Bundle.steD A s' s'.heap := by rw [hhp]; exact vx_Zq.moved hW0.alike (hU.kept hS.2.1)
  have hN' : vx_Zq Bundle.tN "SUPPRESSED_SENTINEL" Bundle.listD A s' s'.heap := by rw [hhp]; exact vx_Zq.moved hW0.alike (hN.kept hS.2.1)
  have h : ∀ w ∈ Bundle.ownAtoms own ic cls names, w.before args s' = true := vx_own hat' (vx_isRefq hU'.1) (vx_isRefq hN'.1) hU'.2.word hN'.2.word
  have hown' : s'.vm.findClass own = some m.cls := by rw [hvm]; exact hown
  have hins : (Cond.instantiable cls 6).before args s' = true := h _ (by simp [Bundle.ownAtoms])
  obtain ⟨vm₁, cX, kX, hfX, hkX, -, -, X₁, st1⟩ := Y.newCold hexec (own := own) (C := cls) (index := ik) (n := 6) hown' hk' hins hini'
    (g := F0 m pc ls rest) rfl (by rw [hb]; exact d0) (Nat.le_refl _) (Nat.le_refl _)
  generalize hT1 : (T.setVm vm₁).pushCell { cls := cX, slots := kX.instanceTypes.map defaultValue, vm := .none } = T1 at X₁ st1
  have hcat : (Value.ref T.heap.size).category = 1 := rfl
  have hcellA : T1.heap[T.heap.size]? = some (freshCell cX kX) := by rw [← hT1]; exact State.heap_pushCell_size _ _
  have d3' : decode c.code (pc + 3) = .ok (.dup, 1) := by rw [hb]; exact d3
  have d4' : decode c.code (pc + 4) = .ok (.ldc is, 2) := by rw [hb]; exact d4
  have hstr' : vk_R own is text sa s' := vk_R.warm hW0 hstr
  obtain ⟨U, hsteps, hrun, hend, hW, hsame, ce, hce, hO⟩ := X₁.ctorThrowS hexec htr (own := own) (cls := cls) (names := names) (ic := ic) hown' hcls hnames h (fun x hx => nomatch hx) hfX hkX hcellA (by rw [hhp, hT]; exact Nat.le_refl _) (msg := .ref sa) rfl
    (g := { method := m, pc := pc + 6, locals := ls, stack := .ref sa :: .ref T.heap.size :: .ref T.heap.size :: rest, locked := none }) rfl hsize rfl rfl (rest := rest) rfl
    (by rw [hb]; exact d6) (by rw [hb]; exact d9) hout hRframes (by simp only [List.map_cons, List.sum_cons, hcat]; omega) hlocks
  obtain ⟨f1, f2⟩ := vx_frame hsame
  rw [hhp] at f1 f2
  have hWs : s.WarmedH U.vm := State.WarmedH.trans hW0 hW
  have hcl : s.vm.findClass cls = some ce.cls := by
    have h9 := hO.cls
    rw [hvm] at h9
    exact h9
  have hall : s.sameButNew ({ U with vm := s.vm } : State) locs mc ms := by
    subst hA
    obtain ⟨e1, e2⟩ := hsame
    rw [State.setFrames_setFrames] at e1
    have h2 : (T.setVm s.vm).sameButNew ({ U with vm := s.vm } : State) [] (0 + 1) (0 + 6) := ⟨e1, e2⟩
    have h3 := X.same.trans h2
    rw [List.append_nil] at h3
    exact h3.mono hc hs
  refine ⟨U, ?_, .threw T.heap.size, hrun, hend, Or.inr ⟨T.heap.size, rfl, cls, ce, locs, hx U hWs.alike f1 (fun q hq => f2 q hq (fun z hz => nomatch hz)), hce, hO.vm, hcl, hWs, hall, hf⟩⟩
  refine st1 _ ?_
  show Steps p.tables e below (T1.setTop { method := m, pc := pc + 3, locals := ls, stack := .ref T.heap.size :: rest, locked := none }) _
  jvm_step X₁.here [X₁.here.top, hexec, d3', Value.category]
  exact X₁.ldcString hexec (own := own) (text := text) (index := is) (a := sa) hown' hstr'.1 hstr'.2
    (g := { method := m, pc := pc + 4, locals := ls, stack := .ref T.heap.size :: .ref T.heap.size :: rest, locked := none }) rfl d4' _ hsteps
/-- 'throw new E("text")', the text by a wide index -/
theorem vx_throwSW {cc : ByteArray} {pc : Nat} (hexec : p.tables.exec = Jvm.exec) (hb : c.code = cc) (hl : l.stackTraces = false) {own cls text : String} {names : List String} {ik is ic mc ms sa : Nat} {A : Nat → Prop}
    (hown : s.vm.findClass own = some m.cls) (hcls : Bundle.fit cls = true) (hnames : ∀ n ∈ names, Bundle.fit n = true)
    (hk : (Cond.classLink own ik cls).before args s = true) (hini : (Cond.initialized cls).before args s = true) (hstr : vk_R own is text sa s) (hat : ∀ w ∈ vx_atS own ic cls names, w.before args s = true)
    (hgood : ∀ w ∈ Cond.classLink own ik cls :: Cond.initialized cls :: vx_atS own ic cls names, vx_ot w = true)
    (hU : vx_Zq Bundle.tN "UNASSIGNED_STACK" Bundle.steD A s s.heap) (hN : vx_Zq Bundle.tN "SUPPRESSED_SENTINEL" Bundle.listD A s s.heap) (hS : va_S A s.heap H locs) (hsize : ls.size = c.maxLocals)
    (d0 : decode cc pc = .ok (.new ik, 3)) (d3 : decode cc (pc + 3) = .ok (.dup, 1)) (d4 : decode cc (pc + 4) = .ok (.ldc_w is, 3)) (d7 : decode cc (pc + 7) = .ok (.invokespecial ic, 3)) (d10 : decode cc (pc + 10) = .ok (.athrow, 1))
    (hout : ∀ x ∈ c.exceptionTable.toList, covers x (pc + 10) = false)
    (hRframes : names.length + 3 < R.frames) (hRlocals : (rest.map fun v => v.category).sum + (13 * (names.length + 1) + 43) ≤ R.locals) (hRcells : cells + 1 ≤ R.cells) (hRslots : slots + 6 ≤ R.slots) (hlocks : meth.locks = false)
    (hx : ∀ t : State, s.vm.Alike t.vm → H.size ≤ t.heap.size → (∀ q : Nat, q < H.size → t.heap[q]? = H[q]?) → XC cls s t)
    (hf : ∀ z ∈ locs, free z.base) (hc : cells + 1 ≤ mc) (hs : slots + 6 ≤ ms) :
    W p l e R s m args below meth c H locs cells slots (vx_MQ below Qc XC args s mc ms free) (F0 m pc ls rest) := by
  intro T hT X
  have htr : e.platform.stackTraces = false := (show e.platform.stackTraces = l.stackTraces by rw [X.admits.platform]).trans hl
  have Y := vx_rebase X (R' := { frames := R.frames, locals := R.locals, cells := 1, slots := 6 }) (Nat.le_refl _) (Nat.le_refl _) hRcells hRslots
  obtain ⟨s', hA⟩ : ∃ z, z = (T.setVm s.vm).setFrames (.invoking m args :: below) := ⟨_, rfl⟩
  rw [← hA] at Y
  have hvm : s'.vm = s.vm := by rw [hA]; rfl
  have hhp : s'.heap = H := by rw [hA]; exact hT
  have hW0 : s.WarmedH s'.vm := by rw [hvm]; exact State.WarmedH.refl s
  have hat' : ∀ w ∈ vx_atS own ic cls names, w.before args s' = true := fun w hw => vx_ot_at hW0 hvm.symm (hgood w (List.mem_cons_of_mem _ (List.mem_cons_of_mem _ hw))) (hat w hw)
  have hk' : (Cond.classLink own ik cls).before args s' = true := vx_ot_at hW0 hvm.symm (hgood _ List.mem_cons_self) hk
  have hini' : (Cond.initialized cls).before args s' = true := vx_ot_at hW0 hvm.symm (hgood _ (List.mem_cons_of_mem _ List.mem_cons_self)) hini
  have hU' : vx_Zq Bundle.tN "UNASSIGNED_STACK" Bundle.steD A s' s'.heap := by rw [hhp]; exact vx_Zq.moved hW0.alike (hU.kept hS.2.1)
  have hN' : vx_Zq Bundle.tN "SUPPRESSED_SENTINEL" Bundle.listD A s' s'.heap := by rw [hhp]; exact vx_Zq.moved hW0.alike (hN.kept hS.2.1)
  have h : ∀ w ∈ Bundle.ownAtoms own ic cls names, w.before args s' = true := vx_own hat' (vx_isRefq hU'.1) (vx_isRefq hN'.1) hU'.2.word hN'.2.word
  have hown' : s'.vm.findClass own = some m.cls := by rw [hvm]; exact hown
  have hins : (Cond.instantiable cls 6).before args s' = true := h _ (by simp [Bundle.ownAtoms])
  obtain ⟨vm₁, cX, kX, hfX, hkX, -, -, X₁, st1⟩ := Y.newCold hexec (own := own) (C := cls) (index := ik) (n := 6) hown' hk' hins hini'
    (g := F0 m pc ls rest) rfl (by rw [hb]; exact d0) (Nat.le_refl _) (Nat.le_refl _)
  generalize hT1 : (T.setVm vm₁).pushCell { cls := cX, slots := kX.instanceTypes.map defaultValue, vm := .none } = T1 at X₁ st1
  have hcat : (Value.ref T.heap.size).category = 1 := rfl
  have hcellA : T1.heap[T.heap.size]? = some (freshCell cX kX) := by rw [← hT1]; exact State.heap_pushCell_size _ _
  have d3' : decode c.code (pc + 3) = .ok (.dup, 1) := by rw [hb]; exact d3
  have d4' : decode c.code (pc + 4) = .ok (.ldc_w is, 3) := by rw [hb]; exact d4
  have hstr' : vk_R own is text sa s' := vk_R.warm hW0 hstr
  obtain ⟨U, hsteps, hrun, hend, hW, hsame, ce, hce, hO⟩ := X₁.ctorThrowS hexec htr (own := own) (cls := cls) (names := names) (ic := ic) hown' hcls hnames h (fun x hx => nomatch hx) hfX hkX hcellA (by rw [hhp, hT]; exact Nat.le_refl _) (msg := .ref sa) rfl
    (g := { method := m, pc := pc + 7, locals := ls, stack := .ref sa :: .ref T.heap.size :: .ref T.heap.size :: rest, locked := none }) rfl hsize rfl rfl (rest := rest) rfl
    (by rw [hb]; exact d7) (by rw [hb]; exact d10) hout hRframes (by simp only [List.map_cons, List.sum_cons, hcat]; omega) hlocks
  obtain ⟨f1, f2⟩ := vx_frame hsame
  rw [hhp] at f1 f2
  have hWs : s.WarmedH U.vm := State.WarmedH.trans hW0 hW
  have hcl : s.vm.findClass cls = some ce.cls := by
    have h9 := hO.cls
    rw [hvm] at h9
    exact h9
  have hall : s.sameButNew ({ U with vm := s.vm } : State) locs mc ms := by
    subst hA
    obtain ⟨e1, e2⟩ := hsame
    rw [State.setFrames_setFrames] at e1
    have h2 : (T.setVm s.vm).sameButNew ({ U with vm := s.vm } : State) [] (0 + 1) (0 + 6) := ⟨e1, e2⟩
    have h3 := X.same.trans h2
    rw [List.append_nil] at h3
    exact h3.mono hc hs
  refine ⟨U, ?_, .threw T.heap.size, hrun, hend, Or.inr ⟨T.heap.size, rfl, cls, ce, locs, hx U hWs.alike f1 (fun q hq => f2 q hq (fun z hz => nomatch hz)), hce, hO.vm, hcl, hWs, hall, hf⟩⟩
  refine st1 _ ?_
  show Steps p.tables e below (T1.setTop { method := m, pc := pc + 3, locals := ls, stack := .ref T.heap.size :: rest, locked := none }) _
  jvm_step X₁.here [X₁.here.top, hexec, d3', Value.category]
  exact X₁.ldcStringW hexec (own := own) (text := text) (index := is) (a := sa) hown' hstr'.1 hstr'.2
    (g := { method := m, pc := pc + 4, locals := ls, stack := .ref T.heap.size :: .ref T.heap.size :: rest, locked := none }) rfl d4' _ hsteps
end Ends
section Bodies
variable {l : Launch}
theorem vx_ofW {y : MethodName} {ws ws' : List Cond} {rm : Room} {Pc : Array Value → State → Prop} {Qc : Array Value → State → Outcome → State → Prop} {XC : String → State → State → Prop} {mc ms : Nat} {free : Addr → Prop} {cc : ByteArray} {maxL : Nat} {ret : Option FieldType}
    (hy : plainName y.cls = true) (hw : ws = Cond.code y cc maxL ret :: ws')
    (body : ∀ p e s m args below meth c s₁, BodyLoose p l y (headSpec ws rm) cc maxL ret e s m args below meth c s₁ → c.maxLocals = maxL → (∀ x ∈ c.exceptionTable.toList, False) → Pc args s →
      W p l e (headSpec ws rm).room s m args below meth c s.heap [] 0 0 (vx_MQ below Qc XC args s mc ms free) (entryFrame m args maxL)) : vx_Met l y ws rm Pc Qc XC mc ms free := by
  refine MetFree.of_bodyS (code := cc) (maxLocals := maxL) (ret := ret) hy ?_ ?_
  · intro args s m h hn
    obtain ⟨meth, c, h1, h2, h3, h4, h5, h6, -, -⟩ := Cond.code_spec hn (atoms_spec (ws := ws) h _ (by rw [hw]; exact List.mem_cons_self))
    exact ⟨meth, c, h1, h2, h3, h4, h5, h6⟩
  · intro p e s m args below meth c s₁ B hml hP _
    have hh0 : s₁.heap = s.heap := by rw [B.state]; rfl
    have ht : ∀ x ∈ c.exceptionTable.toList, False := by
      obtain ⟨meth9, c9, h1, h2, -, -, -, -, h7, -⟩ := Cond.code_spec B.named (atoms_spec (ws := ws) B.pre _ (by rw [hw]; exact List.mem_cons_self))
      cases Option.some.inj (h1.symm.trans B.method)
      cases Option.some.inj (h2.symm.trans (Stand.of_body B).code)
      intro x hx
      rw [Array.isEmpty_iff.mp h7] at hx
      cases hx
    obtain ⟨t, a1, o, b1, b2, b3⟩ := body p e s m args below meth c s₁ B hml ht hP s₁ hh0 (Stand.of_body B)
    exact ⟨t, o, a1, b1, b2, b3⟩
/-- the table of a body with handlers -/
theorem vx_table {p : Program} {x y : MethodName} {S : Spec} {cc bytes : ByteArray} {maxL maxL' : Nat} {ret ret' : Option FieldType} {e : Env} {s s₁ : State} {m : MethodId} {args : Array Value} {below : List Frame} {meth : Method} {c : Code} {hh : List (Nat × Nat × Nat × Nat)}
    (B : BodyLoose p l y S cc maxL ret e s m args below meth c s₁) (h : (Cond.codeWith y bytes maxL' ret' hh).before args s = true) : c.exceptionTable.toList = tableOf hh := by
  obtain ⟨m9, meth9, c9, hn9, h1, h2, -, -, h6, -⟩ := Cond.codeWith_spec h
  cases Option.some.inj (hn9.symm.trans B.named)
  cases Option.some.inj (h1.symm.trans B.method)
  cases Option.some.inj (h2.symm.trans (Stand.of_body B).code)
  rw [← h6, table_eq]
end Bodies
end VXA
/-! ===== END ===== -/
/-! ===== BEGIN a static call of a method with an exception table ===== -/
section VXS
variable {p : Program} {l : Launch} {e : Env} {R : Room} {s : State} {m : MethodId} {args : Array Value} {below : List Frame} {meth : Method} {c : Code} {T : State} {H : Heap} {locs : List Loc} {cells slots : Nat}
abbrev vx_CSW (R : Room) (s : State) (args : Array Value) (own : String) (index : Nat) (y : MethodName) (bytes : ByteArray) (maxL : Nat) (ret : Option FieldType) (hh : List (Nat × Nat × Nat × Nat)) (ws : List Cond) (rm : Room) (mc ms n : Nat) : Prop :=
  (rm.cells = mc ∧ rm.slots = ms ∧ rm.frames + 1 ≤ R.frames ∧ 8 + (maxL + 11) + rm.locals ≤ R.locals ∧ (∀ w ∈ ws, ∀ (a' : Array Value) (U : State), s.WarmedH U.vm → w.before a' U = true) ∧ Cond.codeWith y bytes maxL ret hh ∈ ws) ∧
  (Cond.codeWith y bytes maxL ret hh).before args s = true ∧ (Cond.initialized y.cls).before args s = true ∧ (y.cls ≠ "java/lang/invoke/MethodHandle" ∧ y.cls ≠ "java/lang/invoke/VarHandle") ∧
  (∀ sig, parseMethodDescriptor y.desc = some sig → n = sig.parameters.length) ∧ (Cond.methodLink own index y).before args s = true ∧ (Cond.static y).before args s = true
theorem vx_cwSW {own : String} {index maxL mc ms : Nat} {y : MethodName} {bytes : ByteArray} {ret : Option FieldType} {hh : List (Nat × Nat × Nat × Nat)} {Ts ws ws' : List Cond} {rm : Room} (n : Nat) (ht : ∀ w ∈ Ts, w.before args s = true) (hT : GoodIn Ts (va_wsS own index y ws)) (hw : ws = Cond.codeWith y bytes maxL ret hh :: ws') (hrc : rm.cells = mc) (hrs : rm.slots = ms)
    (hd : y.cls ≠ "java/lang/invoke/MethodHandle" ∧ y.cls ≠ "java/lang/invoke/VarHandle" ∧ (parseMethodDescriptor y.desc).map (fun d => d.parameters.length) = some n) (hR : rm.frames + 1 ≤ R.frames ∧ 8 + (maxL + 11) + rm.locals ≤ R.locals) :
    vx_CSW R s args own index y bytes maxL ret hh ws rm mc ms n := by
  have ok : ∀ w ∈ va_wsS own index y ws, w.before args s = true := fun w h => ht w (hT w h).1
  have hG : GoodIn Ts ws := fun w h => hT w (by unfold va_wsS; exact List.mem_append_right _ h)
  have hc : Cond.codeWith y bytes maxL ret hh ∈ ws := by rw [hw]; exact List.mem_cons_self
  refine ⟨⟨hrc, hrs, hR.1, hR.2, pay_in ht hG, hc⟩, ht _ (hG _ hc).1, ok _ (by simp [va_wsS]), ⟨hd.1, hd.2.1⟩, fun sig h => ?_, ok _ (by simp [va_wsS]), ok _ (by simp [va_wsS])⟩
  have h2 := hd.2.2
  rw [h] at h2
  exact (Option.some.inj h2).symm
theorem vx_callSW (X : Stand p l e R s m args below meth c T locs cells slots) (hexec : p.tables.exec = Jvm.exec) {own : String} {index : Nat} {y : MethodName} {bytes : ByteArray} {maxL : Nat} {ret : Option FieldType} {hh : List (Nat × Nat × Nat × Nat)}
    (hown : s.vm.findClass own = some m.cls) (hlink : (Cond.methodLink own index y).before args s = true) (hstat : (Cond.static y).before args s = true) (hinit : (Cond.initialized y.cls).before args s = true)
    (hcode : (Cond.codeWith y bytes maxL ret hh).before args s = true) (hy : y.cls ≠ "java/lang/invoke/MethodHandle" ∧ y.cls ≠ "java/lang/invoke/VarHandle")
    {W9 : Nat} {Pre : Pt → Array Value → Prop} {Post : Pt → Array Value → Option Value → Pt → Prop} (hK : Back l R p e below s args y 3 W9 Pre Post)
    {g : JFrame} (hg : g.method = m) (hsize : g.locals.size = c.maxLocals) {argsL rest : List Value} (hlen : ∀ sig, parseMethodDescriptor y.desc = some sig → argsL.length = sig.parameters.length)
    (hstack : g.stack = argsL.reverse ++ rest) (hW : 2 * g.monitorRoom + (rest.map fun v => v.category).sum ≤ W9) (hdg : decode c.code g.pc = .ok (.invokestatic index, 3))
    (hpre : ∀ vm₁, s.WarmedH vm₁ → Pre ⟨T.setVm vm₁, locs, cells, slots⟩ argsL.toArray) :
    ∃ (v : Option Value) (vm₁ : Vm) (B : Pt), s.WarmedH vm₁ ∧ Stand p l e R s m args below meth c B.U B.locs B.cells B.slots ∧ Post ⟨T.setVm vm₁, locs, cells, slots⟩ argsL.toArray v B ∧
      ∀ target, Steps p.tables e below (B.U.setTop { g with pc := g.pc + 3, stack := v.toList ++ rest }) target → Steps p.tables e below (T.setTop g) target := by
  obtain ⟨mk, methM, cM, hnamed, hmethM, -, -, -, -, -, -, hsigM⟩ := Cond.codeWith_spec hcode
  have hstatic : methM.isStatic = true := Cond.static_spec hnamed hmethM hstat
  obtain ⟨kP, hkP, -⟩ := className_of_methodNamed hnamed
  have hinitP : kP.init = .initialized := Cond.initialized_spec (findClass_of_methodNamed hnamed) hkP hinit
  obtain ⟨vm₁, X₁, hstep₁⟩ := X.invokestatic hexec hown hlink hnamed hmethM hstatic hkP hinitP hy (g := g) hg (argsL := argsL) (rest := rest) (hlen _ hsigM) hstack hdg
  obtain ⟨v, B, X', hpost, hsteps⟩ := hK m meth c ⟨T.setVm vm₁, locs, cells, slots⟩ { g with stack := rest } (.invokestatic index) mk argsL.toArray X₁ hg hsize hdg hW (X₁.named hnamed) (hpre vm₁ X₁.warmed)
  exact ⟨v, vm₁, B, X₁.warmed, X', hpost, fun target h => hstep₁ _ fun acts => by rw [doInvoke_state]; exact hsteps.trans h⟩
theorem vx_runSW {y : MethodName} {bytes cc : ByteArray} {maxL nL mc ms n index : Nat} {ret : Option FieldType} {hh : List (Nat × Nat × Nat × Nat)} {ws : List Cond} {rm : Room} {Pc : Array Value → State → Prop} {Qc : Array Value → State → Outcome → State → Prop} {free : Addr → Prop} {Ts : List Cond} {own : String} {As rest : List Value} {g : JFrame}
    (S : CallFix p m c cc nL s args Ts own) (hM : Met l y ws rm Pc Qc mc ms free) (cw : vx_CSW R s args own index y bytes maxL ret hh ws rm mc ms n) (hp : PreS s H Pc As)
    (hg : g.method = m) (hn : As.length = n) (hsize : g.locals.size = nL) (hstack : g.stack = As.reverse ++ rest) (hW : 2 * g.monitorRoom + (rest.map fun v => v.category).sum ≤ 8) (hdg : decode cc g.pc = .ok (.invokestatic index, 3)) (hf : cells + mc ≤ R.cells ∧ slots + ms ≤ R.slots) :
    va_Run p l e R s m args below meth c H locs cells slots mc ms g rest (Qc As.toArray) (free) := by
  obtain ⟨⟨hrc, hrs, hfr, hlo, hws, hcw⟩, hcode, hini, hy, hlen, hl, hstt⟩ := cw
  have hK : Back l R p e below s args y 3 8 (PreOf R mc ms Pc) (PostOf Qc mc ms free) := va_backW (hh := hh) (bytes := bytes) (maxL := maxL) (ret := ret) hM hp.1 hrc hrs hfr hlo hws hcw (fun a' U hW => word_at hW (Or.inl (by first | rfl | simp [Cond.onTables, Cond.keeps, Cond.steady])) hini)
  obtain ⟨hx, hb, hml, ho, -⟩ := S
  intro T hT X
  obtain ⟨v, vm₁, ⟨U', l2, c2, s2⟩, hW₁, X', ⟨g', mk, t, L, e1, e2, hq, h1, hL, h2, h3⟩, st⟩ := vx_callSW X hx (hh := hh) (bytes := bytes) (maxL := maxL) (ret := ret) ho hl hstt hini hcode hy hK hg (hsize.trans hml.symm) (argsL := As) (rest := rest) (fun sig h => hn.trans (hlen sig h)) hstack hW (by rw [hb]; exact hdg)
    (fun vm₁ hW₁ => ⟨hf.1, hf.2, hp.2 (T.setVm vm₁) hT hW₁⟩)
  dsimp only [Pt.U, Pt.locs, Pt.cells, Pt.slots] at X' e1 e2 h1 h2 h3 st
  subst h1; subst h2; subst h3
  exact ⟨v, (T.setVm vm₁).calling g' mk As.toArray, t, U', L, hT, X', hL, e1, e2, hq, st⟩
/-- a thing of a world lies in the heap -/
theorem vx_lt {D : va_G} {cl : List vw_C} {ws : va_W} {H1 : Heap} (h : va_P D cl ws H1) {k : Nat} {q : Nat × va_E} (hk : ws[k]? = some q) : q.1 < H1.size := (h k q hk).lt
end VXS
/-! ===== END ===== -/
/-! ===== BEGIN methods with a table of their own: called by a name, returning or throwing ===== -/
section VXH
/-! vx_backW, vx_callVX, vx_callSX, vx_callVW, vx_runVW, vx_runVX, vx_runSX, vx_ofWH follow the same proofs as their sisters above (Free/Laws.lean, Shelf42/LK1.lean); vx_outP calls Shelf42/NT130.lean (outThrough). -/
section
variable {l : Launch} {R : Room} {p : Program} {e : Env} {below : List Frame} {s : State} {sargs : Array Value} {y : MethodName} {len W9 : Nat}
theorem vx_backW {ws : List Cond} {rm : Room} {Pc : Array Value → State → Prop} {Qc : Array Value → State → Outcome → State → Prop} {XC : String → State → State → Prop} {mc ms : Nat} {free : Addr → Prop} {bytes : ByteArray} {maxL : Nat} {ret : Option FieldType} {hh : List (Nat × Nat × Nat × Nat)}
    (hM : vx_Met l y ws rm Pc Qc XC mc ms free) (hblind : FrameBlind Pc) (hrc : rm.cells = mc) (hrs : rm.slots = ms)
    (hframes : rm.frames + 1 ≤ R.frames) (hlocals : W9 + (maxL + 11) + rm.locals ≤ R.locals)
    (hws : ∀ w ∈ ws, ∀ a' U, s.WarmedH U.vm → w.before a' U = true) (hcode : Cond.codeWith y bytes maxL ret hh ∈ ws) (hinit : ∀ a' U, s.WarmedH U.vm → (Cond.initialized y.cls).before a' U = true) :
    vx_Back l R p e below s sargs y len W9 (PreOf R mc ms Pc) (PostOf Qc mc ms free) (vx_Post XC mc ms free) := by
  intro m meth c A g ig mk a X hg hsize hdg hW hn hp
  have h1 : (headSpec ws rm).pre.before a A.U = true := atoms_intro fun w hw => hws w hw _ _ X.warmed
  have h2 : (Cond.codeWith y bytes maxL ret hh).before a A.U = true := hws _ hcode _ _ X.warmed
  have h3 : (Cond.initialized y.cls).before a A.U = true := hinit _ _ X.warmed
  have h4 : A.cells + (headSpec ws rm).room.cells ≤ R.cells := by rw [show (headSpec ws rm).room.cells = mc from hrc]; exact hp.1
  have h5 : A.slots + (headSpec ws rm).room.slots ≤ R.slots := by rw [show (headSpec ws rm).room.slots = ms from hrs]; exact hp.2.1
  have hPc : Pc a (A.U.calling g mk a) := hblind _ _ _ _ hp.2.2
  obtain ⟨U, Ls, c0, s0⟩ := A
  dsimp only [Pt.U, Pt.locs, Pt.cells, Pt.slots] at h1 h2 h3 h4 h5 X hn hPc ⊢
  obtain ⟨m9, methY, cY, hn9, hmY, hcY, -, hlY, -⟩ := Cond.codeWith_spec h2
  cases Option.some.inj (hn9.symm.trans hn)
  obtain ⟨kY, hkY, -⟩ := className_of_methodNamed hn
  have hinitY : kY.init = .initialized := Cond.initialized_spec (findClass_of_methodNamed hn) hkY h3
  have h : At U g.method c below := by rw [hg]; exact X.here
  have hlocals9 : W9 + (maxL + 11) + (headSpec ws rm).room.locals ≤ R.locals := hlocals
  have happ : (headSpec ws rm).appliesLoose y e.platform (U.calling g mk a) = true :=
    Spec.appliesLoose_calling (g := g) h hdg hn hkY hinitY
      (X.room_calling (g := g) (R' := (headSpec ws rm).room) hsize hmY hcY hframes (by rw [hlY]; omega) h4 h5) h1
  obtain ⟨mid, hmid⟩ := h.above
  have hfr : (U.setTop g).frames = (.java g :: mid) ++ below := by rw [State.frames_setTop' g h.top, hmid]; rfl
  obtain ⟨o, s₂, hsteps, -, hend, hq⟩ := Steps.callFree hM p X.admits X.cas X.clock (acts := []) hfr happ hPc trivial
  have hq' : vx_Q Qc XC mc ms free a (U.calling g mk a) o s₂ := hq
  rw [State.frames_setTop' g h.top] at hend
  obtain ⟨g₀, hg0⟩ := Option.isSome_iff_exists.mp h.top
  obtain ⟨r, hr⟩ := State.topJava?_eq_some.mp hg0
  have hr' : (({ U with heap := s₂.heap, slotsUsed := s₂.slotsUsed } : State).setVm s₂.vm).frames = .java g₀ :: r := hr
  rcases hq' with ⟨hqc, L, hfe, hL⟩ | ⟨q, rfl, E, ce, L, hx, hce, hcv, hcl, hW₂, hsm, hL⟩
  · obtain ⟨⟨v, rfl⟩, hW₂, e2, q2, q3, q4, q5, q6⟩ := id hfe
    have e3 : s₂ = ({ (U.calling g mk a).setFrames s₂.frames with heap := s₂.heap, slotsUsed := s₂.slotsUsed } : State).setVm s₂.vm := by
      have : s₂ = ({ s₂ with vm := (U.calling g mk a).vm } : State).setVm s₂.vm := rfl
      rw [e2] at this
      exact this
    obtain ⟨c₂, i₂, len₂, hc₂, hd₂, hf₂⟩ := hend
    have hW' : U.WarmedH s₂.vm := hW₂
    have hcc : c₂ = c := by
      have h1 : s₂.code? g.method = U.code? g.method := by
        rw [State.code?_eq, State.code?_eq, hW'.alike.method?]
      exact Option.some.inj (hc₂.symm.trans (h1.trans h.code))
    subst hcc
    have hlen : len₂ = len := by rw [hdg] at hd₂; cases hd₂; rfl
    subst hlen
    have hs₂ : s₂ = (({ U with heap := s₂.heap, slotsUsed := s₂.slotsUsed } : State).setVm s₂.vm).setTop { g with pc := g.pc + len₂, stack := v.toList ++ g.stack } := by
      refine e3.trans ?_
      rw [hf₂, State.calling_eq h.top, State.setFrames_setFrames, State.setTop_of_frames _ hr', hr]
      rfl
    have hsame : U.sameButNew ({ U with heap := s₂.heap, slotsUsed := s₂.slotsUsed } : State) L mc ms := by
      refine ⟨?_, q2, q3, q4, q5, q6⟩
      obtain ⟨t, ht, -⟩ := State.frames_cons hr
      show ({ U with heap := s₂.heap, slotsUsed := s₂.slotsUsed } : State) = { U.setFrames U.frames with heap := s₂.heap, slotsUsed := s₂.slotsUsed }
      rw [State.setFrames_self ht]
    subst hg
    refine Or.inl ⟨v, ⟨(({ U with heap := s₂.heap, slotsUsed := s₂.slotsUsed } : State).setVm s₂.vm), Ls ++ L, c0 + mc, s0 + ms⟩,
      ⟨X.admits, X.cas, X.clock, X.frames, X.room, X.hears, X.method, X.code, (X.here.setHeapUsed s₂.heap s₂.slotsUsed).setVm hW'.alike, X.tail, State.WarmedH.trans X.warmed hW', X.limits, X.bytes, X.same.trans (hsame.setVm s.vm)⟩,
      ⟨g, mk, s₂, L, rfl, rfl, hqc, rfl, hL, rfl, rfl⟩, ?_⟩
    show Steps p.tables e below _ ((({ U with heap := s₂.heap, slotsUsed := s₂.slotsUsed } : State).setVm s₂.vm).setTop { g with pc := g.pc + len₂, stack := v.toList ++ g.stack })
    rw [← hs₂]
    exact hsteps
  · obtain ⟨e2, q2, q3, q4, q5, q6⟩ := id hsm
    have e3 : s₂ = ({ (U.calling g mk a).setFrames s₂.frames with heap := s₂.heap, slotsUsed := s₂.slotsUsed } : State).setVm s₂.vm := by
      have : s₂ = ({ s₂ with vm := (U.calling g mk a).vm } : State).setVm s₂.vm := rfl
      rw [e2] at this
      exact this
    have hf₂ : s₂.frames = .throwing q :: .java g :: U.frames.tail := hend
    have hW' : U.WarmedH s₂.vm := hW₂
    have hs₂ : s₂ = ((({ U with heap := s₂.heap, slotsUsed := s₂.slotsUsed } : State).setVm s₂.vm).setTop g).pushFrame (.throwing q) := by
      refine e3.trans ?_
      rw [hf₂, State.calling_eq h.top, State.setFrames_setFrames, State.pushFrame, State.frames_setTop _ hr', State.setTop_of_frames _ hr', State.setFrames_setFrames, hr]
      rfl
    have hsame : U.sameButNew ({ U with heap := s₂.heap, slotsUsed := s₂.slotsUsed } : State) L mc ms := by
      refine ⟨?_, q2, q3, q4, q5, q6⟩
      obtain ⟨t, ht, -⟩ := State.frames_cons hr
      show ({ U with heap := s₂.heap, slotsUsed := s₂.slotsUsed } : State) = { U.setFrames U.frames with heap := s₂.heap, slotsUsed := s₂.slotsUsed }
      rw [State.setFrames_self ht]
    subst hg
    refine Or.inr ⟨q, ⟨(({ U with heap := s₂.heap, slotsUsed := s₂.slotsUsed } : State).setVm s₂.vm), Ls ++ L, c0 + mc, s0 + ms⟩,
      ⟨X.admits, X.cas, X.clock, X.frames, X.room, X.hears, X.method, X.code, (X.here.setHeapUsed s₂.heap s₂.slotsUsed).setVm hW'.alike, X.tail, State.WarmedH.trans X.warmed hW', X.limits, X.bytes, X.same.trans (hsame.setVm s.vm)⟩,
      ⟨g, mk, s₂, L, E, ce, rfl, rfl, hx, hce, hcv, hcl, rfl, hL, rfl, rfl⟩, ?_⟩
    show Steps p.tables e below _ (((({ U with heap := s₂.heap, slotsUsed := s₂.slotsUsed } : State).setVm s₂.vm).setTop g).pushFrame (.throwing q))
    rw [← hs₂]
    exact hsteps
end
variable {p : Program} {l : Launch} {e : Env} {R : Room} {s : State} {m : MethodId} {args : Array Value} {below : List Frame} {meth : Method} {c : Code} {T : State} {H : Heap} {locs : List Loc} {cells slots : Nat}
theorem vx_callVX (X : Stand p l e R s m args below meth c T locs cells slots) (hexec : p.tables.exec = Jvm.exec) {own C : String} {index : Nat} {y : MethodName} {bytes : ByteArray} {maxL : Nat} {ret : Option FieldType} {hh : List (Nat × Nat × Nat × Nat)}
    (hown : s.vm.findClass own = some m.cls) (hlink : (Cond.methodLink own index y).before args s = true) (hinst : (Cond.instanceMethod y).before args s = true) (hsel : (Cond.selects C y y).before args s = true)
    (hcode : (Cond.codeWith y bytes maxL ret hh).before args s = true) (hy : y.cls ≠ "java/lang/invoke/MethodHandle" ∧ y.cls ≠ "java/lang/invoke/VarHandle")
    {W9 : Nat} {Pre : Pt → Array Value → Prop} {Post : Pt → Array Value → Option Value → Pt → Prop} {PostX : Pt → Array Value → Addr → Pt → Prop} (hK : vx_Back l R p e below s args y 3 W9 Pre Post PostX)
    {b : Addr} {cellB : Cell} (hcell : T.heap[b]? = some cellB) (hobj : cellB.vm.isStatics = false) (hcls : s.vm.findClass C = some cellB.cls)
    {g : JFrame} (hg : g.method = m) (hsize : g.locals.size = c.maxLocals) {argsL rest : List Value} (hlen : ∀ sig, parseMethodDescriptor y.desc = some sig → argsL.length = sig.parameters.length)
    (hstack : g.stack = argsL.reverse ++ .ref b :: rest) (hW : 2 * g.monitorRoom + (rest.map fun v => v.category).sum ≤ W9) (hdg : decode c.code g.pc = .ok (.invokevirtual index, 3))
    (hpre : ∀ vm₁, s.WarmedH vm₁ → Pre ⟨T.setVm vm₁, locs, cells, slots⟩ (Value.ref b :: argsL).toArray) :
    (∃ (v : Option Value) (vm₁ : Vm) (B : Pt), s.WarmedH vm₁ ∧ Stand p l e R s m args below meth c B.U B.locs B.cells B.slots ∧ Post ⟨T.setVm vm₁, locs, cells, slots⟩ (Value.ref b :: argsL).toArray v B ∧
      ∀ target, Steps p.tables e below (B.U.setTop { g with pc := g.pc + 3, stack := v.toList ++ rest }) target → Steps p.tables e below (T.setTop g) target) ∨
    (∃ (q : Addr) (vm₁ : Vm) (B : Pt), s.WarmedH vm₁ ∧ Stand p l e R s m args below meth c B.U B.locs B.cells B.slots ∧ PostX ⟨T.setVm vm₁, locs, cells, slots⟩ (Value.ref b :: argsL).toArray q B ∧
      Steps p.tables e below (T.setTop g) ((B.U.setTop { g with stack := rest }).pushFrame (.throwing q))) := by
  obtain ⟨mk, methM, hnamed, hmethM, hstM, habM⟩ := Cond.instanceMethod_spec hinst
  obtain ⟨m8, methM', cM, hn8, hmethM', -, -, -, -, -, -, hsigM⟩ := Cond.codeWith_spec hcode
  cases Option.some.inj (hn8.symm.trans hnamed)
  cases hmethM.symm.trans hmethM'
  obtain ⟨c2, r2, m2, q1, q2, q3, q4, kP, hkP, hkPi⟩ := Cond.selects_spec hsel
  cases hcls.symm.trans q1
  cases (State.methodFound?_of_named hnamed hy).symm.trans q2
  cases hnamed.symm.trans q3
  have hselP : selectMethod e.platform s.vm cellB.cls mk = .method mk := by rw [Launch.admits_selectMethod X.admits]; exact q4
  obtain ⟨vm₁, X₁, hstep₁⟩ := X.invokevirtual hexec hown hlink hnamed hmethM hstM hkP hkPi hy (a := b) (cell := cellB) hcell
    (fun z h => by rw [h] at hobj; cases hobj) hselP hmethM habM hkP hkPi (g := g) hg (argsL := argsL) (rest := rest) (hlen _ hsigM) hstack hdg
  rcases hK m meth c ⟨T.setVm vm₁, locs, cells, slots⟩ { g with stack := rest } (.invokevirtual index) mk (Value.ref b :: argsL).toArray X₁ hg hsize hdg hW (X₁.named hnamed) (hpre vm₁ X₁.warmed) with ⟨v, B, X', hpost, hsteps⟩ | ⟨q, B, X', hpost, hsteps⟩
  · exact Or.inl ⟨v, vm₁, B, X₁.warmed, X', hpost, fun target h => hstep₁ _ fun acts => by rw [doInvoke_state]; exact hsteps.trans h⟩
  · exact Or.inr ⟨q, vm₁, B, X₁.warmed, X', hpost, hstep₁ _ fun acts => by rw [doInvoke_state]; exact hsteps⟩
theorem vx_callSX (X : Stand p l e R s m args below meth c T locs cells slots) (hexec : p.tables.exec = Jvm.exec) {own : String} {index : Nat} {y : MethodName} {bytes : ByteArray} {maxL : Nat} {ret : Option FieldType} {hh : List (Nat × Nat × Nat × Nat)}
    (hown : s.vm.findClass own = some m.cls) (hlink : (Cond.methodLink own index y).before args s = true) (hstat : (Cond.static y).before args s = true) (hinit : (Cond.initialized y.cls).before args s = true)
    (hcode : (Cond.codeWith y bytes maxL ret hh).before args s = true) (hy : y.cls ≠ "java/lang/invoke/MethodHandle" ∧ y.cls ≠ "java/lang/invoke/VarHandle")
    {W9 : Nat} {Pre : Pt → Array Value → Prop} {Post : Pt → Array Value → Option Value → Pt → Prop} {PostX : Pt → Array Value → Addr → Pt → Prop} (hK : vx_Back l R p e below s args y 3 W9 Pre Post PostX)
    {g : JFrame} (hg : g.method = m) (hsize : g.locals.size = c.maxLocals) {argsL rest : List Value} (hlen : ∀ sig, parseMethodDescriptor y.desc = some sig → argsL.length = sig.parameters.length)
    (hstack : g.stack = argsL.reverse ++ rest) (hW : 2 * g.monitorRoom + (rest.map fun v => v.category).sum ≤ W9) (hdg : decode c.code g.pc = .ok (.invokestatic index, 3))
    (hpre : ∀ vm₁, s.WarmedH vm₁ → Pre ⟨T.setVm vm₁, locs, cells, slots⟩ argsL.toArray) :
    (∃ (v : Option Value) (vm₁ : Vm) (B : Pt), s.WarmedH vm₁ ∧ Stand p l e R s m args below meth c B.U B.locs B.cells B.slots ∧ Post ⟨T.setVm vm₁, locs, cells, slots⟩ argsL.toArray v B ∧
      ∀ target, Steps p.tables e below (B.U.setTop { g with pc := g.pc + 3, stack := v.toList ++ rest }) target → Steps p.tables e below (T.setTop g) target) ∨
    (∃ (q : Addr) (vm₁ : Vm) (B : Pt), s.WarmedH vm₁ ∧ Stand p l e R s m args below meth c B.U B.locs B.cells B.slots ∧ PostX ⟨T.setVm vm₁, locs, cells, slots⟩ argsL.toArray q B ∧
      Steps p.tables e below (T.setTop g) ((B.U.setTop { g with stack := rest }).pushFrame (.throwing q))) := by
  obtain ⟨mk, methM, cM, hnamed, hmethM, -, -, -, -, -, -, hsigM⟩ := Cond.codeWith_spec hcode
  have hstatic : methM.isStatic = true := Cond.static_spec hnamed hmethM hstat
  obtain ⟨kP, hkP, -⟩ := className_of_methodNamed hnamed
  have hinitP : kP.init = .initialized := Cond.initialized_spec (findClass_of_methodNamed hnamed) hkP hinit
  obtain ⟨vm₁, X₁, hstep₁⟩ := X.invokestatic hexec hown hlink hnamed hmethM hstatic hkP hinitP hy (g := g) hg (argsL := argsL) (rest := rest) (hlen _ hsigM) hstack hdg
  rcases hK m meth c ⟨T.setVm vm₁, locs, cells, slots⟩ { g with stack := rest } (.invokestatic index) mk argsL.toArray X₁ hg hsize hdg hW (X₁.named hnamed) (hpre vm₁ X₁.warmed) with ⟨v, B, X', hpost, hsteps⟩ | ⟨q, B, X', hpost, hsteps⟩
  · exact Or.inl ⟨v, vm₁, B, X₁.warmed, X', hpost, fun target h => hstep₁ _ fun acts => by rw [doInvoke_state]; exact hsteps.trans h⟩
  · exact Or.inr ⟨q, vm₁, B, X₁.warmed, X', hpost, hstep₁ _ fun acts => by rw [doInvoke_state]; exact hsteps⟩
theorem vx_callVW (X : Stand p l e R s m args below meth c T locs cells slots) (hexec : p.tables.exec = Jvm.exec) {own C : String} {index : Nat} {y : MethodName} {bytes : ByteArray} {maxL : Nat} {ret : Option FieldType} {hh : List (Nat × Nat × Nat × Nat)}
    (hown : s.vm.findClass own = some m.cls) (hlink : (Cond.methodLink own index y).before args s = true) (hinst : (Cond.instanceMethod y).before args s = true) (hsel : (Cond.selects C y y).before args s = true)
    (hcode : (Cond.codeWith y bytes maxL ret hh).before args s = true) (hy : y.cls ≠ "java/lang/invoke/MethodHandle" ∧ y.cls ≠ "java/lang/invoke/VarHandle")
    {W9 : Nat} {Pre : Pt → Array Value → Prop} {Post : Pt → Array Value → Option Value → Pt → Prop} (hK : Back l R p e below s args y 3 W9 Pre Post)
    {b : Addr} {cellB : Cell} (hcell : T.heap[b]? = some cellB) (hobj : cellB.vm.isStatics = false) (hcls : s.vm.findClass C = some cellB.cls)
    {g : JFrame} (hg : g.method = m) (hsize : g.locals.size = c.maxLocals) {argsL rest : List Value} (hlen : ∀ sig, parseMethodDescriptor y.desc = some sig → argsL.length = sig.parameters.length)
    (hstack : g.stack = argsL.reverse ++ .ref b :: rest) (hW : 2 * g.monitorRoom + (rest.map fun v => v.category).sum ≤ W9) (hdg : decode c.code g.pc = .ok (.invokevirtual index, 3))
    (hpre : ∀ vm₁, s.WarmedH vm₁ → Pre ⟨T.setVm vm₁, locs, cells, slots⟩ (Value.ref b :: argsL).toArray) :
    ∃ (v : Option Value) (vm₁ : Vm) (B : Pt), s.WarmedH vm₁ ∧ Stand p l e R s m args below meth c B.U B.locs B.cells B.slots ∧ Post ⟨T.setVm vm₁, locs, cells, slots⟩ (Value.ref b :: argsL).toArray v B ∧
      ∀ target, Steps p.tables e below (B.U.setTop { g with pc := g.pc + 3, stack := v.toList ++ rest }) target → Steps p.tables e below (T.setTop g) target := by
  obtain ⟨mk, methM, hnamed, hmethM, hstM, habM⟩ := Cond.instanceMethod_spec hinst
  obtain ⟨m8, methM', cM, hn8, hmethM', -, -, -, -, -, -, hsigM⟩ := Cond.codeWith_spec hcode
  cases Option.some.inj (hn8.symm.trans hnamed)
  cases hmethM.symm.trans hmethM'
  obtain ⟨c2, r2, m2, q1, q2, q3, q4, kP, hkP, hkPi⟩ := Cond.selects_spec hsel
  cases hcls.symm.trans q1
  cases (State.methodFound?_of_named hnamed hy).symm.trans q2
  cases hnamed.symm.trans q3
  have hselP : selectMethod e.platform s.vm cellB.cls mk = .method mk := by rw [Launch.admits_selectMethod X.admits]; exact q4
  obtain ⟨vm₁, X₁, hstep₁⟩ := X.invokevirtual hexec hown hlink hnamed hmethM hstM hkP hkPi hy (a := b) (cell := cellB) hcell
    (fun z h => by rw [h] at hobj; cases hobj) hselP hmethM habM hkP hkPi (g := g) hg (argsL := argsL) (rest := rest) (hlen _ hsigM) hstack hdg
  obtain ⟨v, B, X', hpost, hsteps⟩ := hK m meth c ⟨T.setVm vm₁, locs, cells, slots⟩ { g with stack := rest } (.invokevirtual index) mk (Value.ref b :: argsL).toArray X₁ hg hsize hdg hW (X₁.named hnamed) (hpre vm₁ X₁.warmed)
  exact ⟨v, vm₁, B, X₁.warmed, X', hpost, fun target h => hstep₁ _ fun acts => by rw [doInvoke_state]; exact hsteps.trans h⟩
abbrev vx_CVW (R : Room) (s : State) (args : Array Value) (own C : String) (index : Nat) (y : MethodName) (bytes : ByteArray) (maxL : Nat) (ret : Option FieldType) (hh : List (Nat × Nat × Nat × Nat)) (ws : List Cond) (rm : Room) (mc ms n : Nat) : Prop :=
  (rm.cells = mc ∧ rm.slots = ms ∧ rm.frames + 1 ≤ R.frames ∧ 8 + (maxL + 11) + rm.locals ≤ R.locals ∧ (∀ w ∈ ws, ∀ (a' : Array Value) (U : State), s.WarmedH U.vm → w.before a' U = true) ∧ Cond.codeWith y bytes maxL ret hh ∈ ws) ∧
  (Cond.codeWith y bytes maxL ret hh).before args s = true ∧ (Cond.initialized y.cls).before args s = true ∧ (y.cls ≠ "java/lang/invoke/MethodHandle" ∧ y.cls ≠ "java/lang/invoke/VarHandle") ∧
  (∀ sig, parseMethodDescriptor y.desc = some sig → n = sig.parameters.length) ∧ (Cond.methodLink own index y).before args s = true ∧ (Cond.instanceMethod y).before args s = true ∧ (Cond.selects C y y).before args s = true
theorem vx_cwVW {own C : String} {index maxL mc ms : Nat} {y : MethodName} {bytes : ByteArray} {ret : Option FieldType} {hh : List (Nat × Nat × Nat × Nat)} {Ts ws ws' : List Cond} {rm : Room} (n : Nat) (ht : ∀ w ∈ Ts, w.before args s = true) (hT : GoodIn Ts (wsV own index C y ws)) (hw : ws = Cond.codeWith y bytes maxL ret hh :: ws') (hrc : rm.cells = mc) (hrs : rm.slots = ms)
    (hd : y.cls = C ∧ y.cls ≠ "java/lang/invoke/MethodHandle" ∧ y.cls ≠ "java/lang/invoke/VarHandle" ∧ (parseMethodDescriptor y.desc).map (fun d => d.parameters.length) = some n) (hR : rm.frames + 1 ≤ R.frames ∧ 8 + (maxL + 11) + rm.locals ≤ R.locals) :
    vx_CVW R s args own C index y bytes maxL ret hh ws rm mc ms n := by
  obtain ⟨hC, hd⟩ := hd
  subst hC
  have ok : ∀ w ∈ wsV own index y.cls y ws, w.before args s = true := fun w h => ht w (hT w h).1
  have hG : GoodIn Ts ws := fun w h => hT w (by unfold wsV; exact List.mem_append_right _ h)
  have hc : Cond.codeWith y bytes maxL ret hh ∈ ws := by rw [hw]; exact List.mem_cons_self
  refine ⟨⟨hrc, hrs, hR.1, hR.2, pay_in ht hG, hc⟩, ht _ (hG _ hc).1, ok _ (by simp [wsV]), ⟨hd.1, hd.2.1⟩, fun sig h => ?_, ok _ (by simp [wsV]), ok _ (by simp [wsV]), ok _ (by simp [wsV])⟩
  have h2 := hd.2.2
  rw [h] at h2
  exact (Option.some.inj h2).symm
theorem vx_runVW {y : MethodName} {bytes cc : ByteArray} {maxL nL mc ms n index : Nat} {ret : Option FieldType} {hh : List (Nat × Nat × Nat × Nat)} {ws : List Cond} {rm : Room} {Pc : Array Value → State → Prop} {Qc : Array Value → State → Outcome → State → Prop} {free : Addr → Prop} {Ts : List Cond} {own C : String} {b : Addr} {As rest : List Value} {g : JFrame}
    (S : CallFix p m c cc nL s args Ts own) (hM : Met l y ws rm Pc Qc mc ms free) (cw : vx_CVW R s args own C index y bytes maxL ret hh ws rm mc ms n) (hp : PreV s H C b Pc As)
    (hg : g.method = m) (hn : As.length = n) (hsize : g.locals.size = nL) (hstack : g.stack = As.reverse ++ .ref b :: rest) (hW : 2 * g.monitorRoom + (rest.map fun v => v.category).sum ≤ 8) (hdg : decode cc g.pc = .ok (.invokevirtual index, 3)) (hf : cells + mc ≤ R.cells ∧ slots + ms ≤ R.slots) :
    va_Run p l e R s m args below meth c H locs cells slots mc ms g rest (Qc (Value.ref b :: As).toArray) free := by
  obtain ⟨⟨hrc, hrs, hfr, hlo, hws, hcw⟩, hcode, hini, hy, hlen, hl, hin, hse⟩ := cw
  have hK : Back l R p e below s args y 3 8 (PreOf R mc ms Pc) (PostOf Qc mc ms free) := va_backW (hh := hh) (bytes := bytes) (maxL := maxL) (ret := ret) hM hp.1 hrc hrs hfr hlo hws hcw (fun a' U hW => word_at hW (Or.inl (by first | rfl | simp [Cond.onTables, Cond.keeps, Cond.steady])) hini)
  obtain ⟨hx, hb, hml, ho, -⟩ := S
  obtain ⟨-, ⟨cellB, hcB, hoB, hclB⟩, hPc⟩ := hp
  intro T hT X
  obtain ⟨v, vm₁, ⟨U', l2, c2, s2⟩, hW₁, X', ⟨g', mk, t, L, e1, e2, hq, h1, hL, h2, h3⟩, st⟩ := vx_callVW X hx (C := C) (hh := hh) (bytes := bytes) (maxL := maxL) (ret := ret) ho hl hin hse hcode hy hK (by rw [hT]; exact hcB) hoB hclB hg (hsize.trans hml.symm) (argsL := As) (rest := rest) (fun sig h => hn.trans (hlen sig h)) hstack hW (by rw [hb]; exact hdg)
    (fun vm₁ hW₁ => ⟨hf.1, hf.2, hPc (T.setVm vm₁) hT hW₁⟩)
  dsimp only [Pt.U, Pt.locs, Pt.cells, Pt.slots] at X' e1 e2 h1 h2 h3 st
  subst h1; subst h2; subst h3
  exact ⟨v, (T.setVm vm₁).calling g' mk (Value.ref b :: As).toArray, t, U', L, hT, X', hL, e1, e2, hq, st⟩
section
variable {y : MethodName} {bytes cc : ByteArray} {maxL nL mc ms n index : Nat} {ret : Option FieldType} {ws : List Cond} {rm : Room} {Pc : Array Value → State → Prop} {Qc : Array Value → State → Outcome → State → Prop} {XC : String → State → State → Prop} {free : Addr → Prop} {Ts : List Cond} {own C : String} {b : Addr} {As rest : List Value} {g : JFrame}
theorem vx_runVX {hh : List (Nat × Nat × Nat × Nat)} (S : CallFix p m c cc nL s args Ts own) (hM : vx_Met l y ws rm Pc Qc XC mc ms free) (cw : vx_CVW R s args own C index y bytes maxL ret hh ws rm mc ms n) (hp : PreV s H C b Pc As)
    (hg : g.method = m) (hn : As.length = n) (hsize : g.locals.size = nL) (hstack : g.stack = As.reverse ++ .ref b :: rest) (hW : 2 * g.monitorRoom + (rest.map fun v => v.category).sum ≤ 8) (hdg : decode cc g.pc = .ok (.invokevirtual index, 3)) (hf : cells + mc ≤ R.cells ∧ slots + ms ≤ R.slots) :
    vx_Run p l e R s m args below meth c H locs cells slots mc ms g rest (Qc (Value.ref b :: As).toArray) XC free := by
  obtain ⟨⟨hrc, hrs, hfr, hlo, hws, hcw⟩, hcode, hini, hy, hlen, hl, hin, hse⟩ := cw
  have hK : vx_Back l R p e below s args y 3 8 (PreOf R mc ms Pc) (PostOf Qc mc ms free) (vx_Post XC mc ms free) := vx_backW (hh := hh) (bytes := bytes) (maxL := maxL) (ret := ret) hM hp.1 hrc hrs hfr hlo hws hcw (fun a' U hW => word_at hW (Or.inl (by first | rfl | simp [Cond.onTables, Cond.keeps, Cond.steady])) hini)
  obtain ⟨hx, hb, hml, ho, -⟩ := S
  obtain ⟨-, ⟨cellB, hcB, hoB, hclB⟩, hPc⟩ := hp
  intro T hT X
  rcases vx_callVX X hx (C := C) (hh := hh) (bytes := bytes) (maxL := maxL) (ret := ret) ho hl hin hse hcode hy hK (by rw [hT]; exact hcB) hoB hclB hg (hsize.trans hml.symm) (argsL := As) (rest := rest) (fun sig h => hn.trans (hlen sig h)) hstack hW (by rw [hb]; exact hdg)
    (fun vm₁ hW₁ => ⟨hf.1, hf.2, hPc (T.setVm vm₁) hT hW₁⟩) with ⟨v, vm₁, ⟨U', l2, c2, s2⟩, hW₁, X', ⟨g', mk, t, L, e1, e2, hq, h1, hL, h2, h3⟩, st⟩ | ⟨q, vm₁, ⟨U', l2, c2, s2⟩, hW₁, X', ⟨g', mk, t, L, E, ce, e1, e2, hq, hce, hcv, hcl, h1, hL, h2, h3⟩, st⟩
  · dsimp only [Pt.U, Pt.locs, Pt.cells, Pt.slots] at X' e1 e2 h1 h2 h3 st
    subst h1; subst h2; subst h3
    exact Or.inl ⟨v, (T.setVm vm₁).calling g' mk (Value.ref b :: As).toArray, t, U', L, hT, X', hL, e1, e2, hq, st⟩
  · dsimp only [Pt.U, Pt.locs, Pt.cells, Pt.slots] at X' e1 e2 h1 h2 h3 st hcl
    subst h1; subst h2; subst h3
    exact Or.inr ⟨q, (T.setVm vm₁).calling g' mk (Value.ref b :: As).toArray, t, U', L, E, ce, hT, X', hL, e1, e2, hq, hce, hcv, vx_cls hW₁ hcl, st⟩
theorem vx_runSX {hh : List (Nat × Nat × Nat × Nat)} (S : CallFix p m c cc nL s args Ts own) (hM : vx_Met l y ws rm Pc Qc XC mc ms free) (cw : vx_CSW R s args own index y bytes maxL ret hh ws rm mc ms n) (hp : PreS s H Pc As)
    (hg : g.method = m) (hn : As.length = n) (hsize : g.locals.size = nL) (hstack : g.stack = As.reverse ++ rest) (hW : 2 * g.monitorRoom + (rest.map fun v => v.category).sum ≤ 8) (hdg : decode cc g.pc = .ok (.invokestatic index, 3)) (hf : cells + mc ≤ R.cells ∧ slots + ms ≤ R.slots) :
    vx_Run p l e R s m args below meth c H locs cells slots mc ms g rest (Qc As.toArray) XC free := by
  obtain ⟨⟨hrc, hrs, hfr, hlo, hws, hcw⟩, hcode, hini, hy, hlen, hl, hstt⟩ := cw
  have hK : vx_Back l R p e below s args y 3 8 (PreOf R mc ms Pc) (PostOf Qc mc ms free) (vx_Post XC mc ms free) := vx_backW (hh := hh) (bytes := bytes) (maxL := maxL) (ret := ret) hM hp.1 hrc hrs hfr hlo hws hcw (fun a' U hW => word_at hW (Or.inl (by first | rfl | simp [Cond.onTables, Cond.keeps, Cond.steady])) hini)
  obtain ⟨hx, hb, hml, ho, -⟩ := S
  intro T hT X
  rcases vx_callSX X hx (hh := hh) (bytes := bytes) (maxL := maxL) (ret := ret) ho hl hstt hini hcode hy hK hg (hsize.trans hml.symm) (argsL := As) (rest := rest) (fun sig h => hn.trans (hlen sig h)) hstack hW (by rw [hb]; exact hdg)
    (fun vm₁ hW₁ => ⟨hf.1, hf.2, hp.2 (T.setVm vm₁) hT hW₁⟩) with ⟨v, vm₁, ⟨U', l2, c2, s2⟩, hW₁, X', ⟨g', mk, t, L, e1, e2, hq, h1, hL, h2, h3⟩, st⟩ | ⟨q, vm₁, ⟨U', l2, c2, s2⟩, hW₁, X', ⟨g', mk, t, L, E, ce, e1, e2, hq, hce, hcv, hcl, h1, hL, h2, h3⟩, st⟩
  · dsimp only [Pt.U, Pt.locs, Pt.cells, Pt.slots] at X' e1 e2 h1 h2 h3 st
    subst h1; subst h2; subst h3
    exact Or.inl ⟨v, (T.setVm vm₁).calling g' mk As.toArray, t, U', L, hT, X', hL, e1, e2, hq, st⟩
  · dsimp only [Pt.U, Pt.locs, Pt.cells, Pt.slots] at X' e1 e2 h1 h2 h3 st hcl
    subst h1; subst h2; subst h3
    exact Or.inr ⟨q, (T.setVm vm₁).calling g' mk As.toArray, t, U', L, E, ce, hT, X', hL, e1, e2, hq, hce, hcv, vx_cls hW₁ hcl, st⟩
end
end VXH
theorem vx_ofWH {l : Launch} {y : MethodName} {ws ws' : List Cond} {rm : Room} {Pc : Array Value → State → Prop} {Qc : Array Value → State → Outcome → State → Prop} {XC : String → State → State → Prop} {mc ms : Nat} {free : Addr → Prop} {cc : ByteArray} {maxL : Nat} {ret : Option FieldType} {hh : List (Nat × Nat × Nat × Nat)}
    (hy : plainName y.cls = true) (hw : ws = Cond.codeWith y cc maxL ret hh :: ws')
    (body : ∀ p e s m args below meth c s₁, BodyLoose p l y (headSpec ws rm) cc maxL ret e s m args below meth c s₁ → c.maxLocals = maxL → Pc args s →
      W p l e (headSpec ws rm).room s m args below meth c s.heap [] 0 0 (vx_MQ below Qc XC args s mc ms free) (entryFrame m args maxL)) : vx_Met l y ws rm Pc Qc XC mc ms free := by
  refine MetFree.of_bodyS (code := cc) (maxLocals := maxL) (ret := ret) hy ?_ ?_
  · intro args s m h hn
    obtain ⟨m9, meth, c, hn9, h1, h2, h3, h4, -, h5, h6, -⟩ := Cond.codeWith_spec (atoms_spec (ws := ws) h _ (by rw [hw]; exact List.mem_cons_self))
    cases hn.symm.trans hn9
    exact ⟨meth, c, h1, h2, h3, h4, h5, h6⟩
  · intro p e s m args below meth c s₁ B hml hP _
    have hh0 : s₁.heap = s.heap := by rw [B.state]; rfl
    obtain ⟨t, a1, o, b1, b2, b3⟩ := body p e s m args below meth c s₁ B hml hP s₁ hh0 (Stand.of_body B)
    exact ⟨t, o, a1, b1, b2, b3⟩
/-! ===== END ===== -/
end
section
/-! ===== BEGIN printed: names, fields, word lists, decode rows ===== -/
def RX0 : String := "ConferenceBridge"
def TX0 : u_T := fun k => match k with
  | 0 => ("ConferenceBridge", "laws", "[I", true)
  | 1 => ("ConferenceBridge", "gains", "[I", true)
  | 2 => ("ConferenceBridge", "silenced", "[Z", true)
  | 3 => ("ConferenceBridge", "coming", "[[I", true)
  | 4 => ("ConferenceBridge", "going", "[[I", true)
  | 5 => ("ConferenceBridge", "mostSpeakers", "I", false)
  | 6 => ("ConferenceBridge", "voices", "[[I", true)
  | 7 => ("ConferenceBridge", "energies", "[J", true)
  | _ => ("ConferenceBridge", "sums", "[I", true)
def tyX0 : Nat → FieldType := fun k => match k with
  | 0 => .array .int
  | 1 => .array .int
  | 2 => .array .boolean
  | 3 => .array (.array .int)
  | 4 => .array (.array .int)
  | 5 => .int
  | 6 => .array (.array .int)
  | 7 => .array .long
  | _ => .array .int
abbrev wsX00 : List Cond := u_ws RX0 TX0 9
theorem nmX0 : ∀ a, a < 9 → ∀ b, b < 9 → a ≠ b → (TX0 a).2.1 ≠ (TX0 b).2.1 := by decide +kernel
theorem tyX0_ok : ∀ k, k < 9 → parseFieldDescriptor (TX0 k).2.2.1 = some (tyX0 k) := by decide +kernel
abbrev cX0_init : ByteArray := prog_1_method_1_code
def yX0_init : MethodName := ⟨RX0, "<init>", "()V"⟩
abbrev cX0_decode : ByteArray := prog_1_method_2_code
def yX0_decode : MethodName := ⟨RX0, "decode", "(II)I"⟩
abbrev cX0_encode : ByteArray := prog_1_method_3_code
def yX0_encode : MethodName := ⟨RX0, "encode", "(II)I"⟩
abbrev cX0_law : ByteArray := prog_1_method_4_code
def yX0_law : MethodName := ⟨RX0, "law", "(II)Z"⟩
abbrev cX0_gain : ByteArray := prog_1_method_5_code
def yX0_gain : MethodName := ⟨RX0, "gain", "(II)Z"⟩
abbrev cX0_mute : ByteArray := prog_1_method_6_code
def yX0_mute : MethodName := ⟨RX0, "mute", "(IZ)Z"⟩
abbrev cX0_speakers : ByteArray := prog_1_method_7_code
def yX0_speakers : MethodName := ⟨RX0, "speakers", "(I)Z"⟩
abbrev cX0_put : ByteArray := prog_1_method_8_code
def yX0_put : MethodName := ⟨RX0, "put", "(III)Z"⟩
abbrev cX0_ramp : ByteArray := prog_1_method_9_code
def yX0_ramp : MethodName := ⟨RX0, "ramp", "(III)Z"⟩
abbrev cX0_mix : ByteArray := prog_1_method_10_code
def yX0_mix : MethodName := ⟨RX0, "mix", "()I"⟩
abbrev cX0_out : ByteArray := prog_1_method_11_code
def yX0_out : MethodName := ⟨RX0, "out", "(II)I"⟩
abbrev cX0_energy : ByteArray := prog_1_method_12_code
def yX0_energy : MethodName := ⟨RX0, "energy", "(I)J"⟩
abbrev cX0_hear : ByteArray := prog_1_method_13_code
def yX0_hear : MethodName := ⟨RX0, "hear", "(I)V"⟩
abbrev cX0_chooseSpeakers : ByteArray := prog_1_method_14_code
def yX0_chooseSpeakers : MethodName := ⟨RX0, "chooseSpeakers", "()I"⟩
abbrev cX0_loudestBeside : ByteArray := prog_1_method_15_code
def yX0_loudestBeside : MethodName := ⟨RX0, "loudestBeside", "(I)I"⟩
abbrev cX0_sumUp : ByteArray := prog_1_method_16_code
def yX0_sumUp : MethodName := ⟨RX0, "sumUp", "(I)V"⟩
abbrev cX0_answer : ByteArray := prog_1_method_17_code
def yX0_answer : MethodName := ⟨RX0, "answer", "(IZ)V"⟩
abbrev cX0_speaks : ByteArray := prog_1_method_18_code
def yX0_speaks : MethodName := ⟨RX0, "speaks", "(II)Z"⟩
abbrev cX0_isLaw : ByteArray := prog_1_method_19_code
def yX0_isLaw : MethodName := ⟨RX0, "isLaw", "(I)Z"⟩
abbrev cX0_isParty : ByteArray := prog_1_method_20_code
def yX0_isParty : MethodName := ⟨RX0, "isParty", "(I)Z"⟩
abbrev cX0_isPlace : ByteArray := prog_1_method_21_code
def yX0_isPlace : MethodName := ⟨RX0, "isPlace", "(I)Z"⟩
abbrev cX0_saturated : ByteArray := prog_1_method_22_code
def yX0_saturated : MethodName := ⟨RX0, "saturated", "(J)I"⟩
abbrev cX0_sampleOf : ByteArray := prog_1_method_23_code
def yX0_sampleOf : MethodName := ⟨RX0, "sampleOf", "(II)I"⟩
abbrev cX0_codeOf : ByteArray := prog_1_method_24_code
def yX0_codeOf : MethodName := ⟨RX0, "codeOf", "(II)I"⟩
abbrev cX0_sampleByA : ByteArray := prog_1_method_25_code
def yX0_sampleByA : MethodName := ⟨RX0, "sampleByA", "(I)I"⟩
abbrev cX0_codeByA : ByteArray := prog_1_method_26_code
def yX0_codeByA : MethodName := ⟨RX0, "codeByA", "(I)I"⟩
abbrev cX0_sampleByMu : ByteArray := prog_1_method_27_code
def yX0_sampleByMu : MethodName := ⟨RX0, "sampleByMu", "(I)I"⟩
abbrev cX0_codeByMu : ByteArray := prog_1_method_28_code
def yX0_codeByMu : MethodName := ⟨RX0, "codeByMu", "(I)I"⟩
abbrev cX0_segmentIn : ByteArray := prog_1_method_29_code
def yX0_segmentIn : MethodName := ⟨RX0, "segmentIn", "(I)I"⟩
abbrev cX0_stepIn : ByteArray := prog_1_method_30_code
def yX0_stepIn : MethodName := ⟨RX0, "stepIn", "(I)I"⟩
abbrev cX0_highestPlace : ByteArray := prog_1_method_31_code
def yX0_highestPlace : MethodName := ⟨RX0, "highestPlace", "(I)I"⟩
def RX1 : String := "ConferenceBridgeModel"
def TX1 : u_T := fun k => match k with
  | 0 => ("ConferenceBridgeModel", "thrownCode", "I", false)
  | 1 => ("ConferenceBridgeModel", "law", "[I", true)
  | 2 => ("ConferenceBridgeModel", "gain", "[I", true)
  | 3 => ("ConferenceBridgeModel", "muted", "[Z", true)
  | 4 => ("ConferenceBridgeModel", "in", "[I", true)
  | 5 => ("ConferenceBridgeModel", "out", "[I", true)
  | 6 => ("ConferenceBridgeModel", "sample", "[I", true)
  | 7 => ("ConferenceBridgeModel", "energy", "[J", true)
  | _ => ("ConferenceBridgeModel", "most", "I", false)
def tyX1 : Nat → FieldType := fun k => match k with
  | 0 => .int
  | 1 => .array .int
  | 2 => .array .int
  | 3 => .array .boolean
  | 4 => .array .int
  | 5 => .array .int
  | 6 => .array .int
  | 7 => .array .long
  | _ => .int
abbrev wsX10 : List Cond := u_ws RX1 TX1 9
theorem nmX1 : ∀ a, a < 9 → ∀ b, b < 9 → a ≠ b → (TX1 a).2.1 ≠ (TX1 b).2.1 := by decide +kernel
theorem tyX1_ok : ∀ k, k < 9 → parseFieldDescriptor (TX1 k).2.2.1 = some (tyX1 k) := by decide +kernel
abbrev cX1_init : ByteArray := prog_3_method_1_code
def yX1_init : MethodName := ⟨RX1, "<init>", "()V"⟩
abbrev cX1_meaning : ByteArray := prog_3_method_2_code
def yX1_meaning : MethodName := ⟨RX1, "meaning", "(II)I"⟩
abbrev cX1_held : ByteArray := prog_3_method_3_code
def yX1_held : MethodName := ⟨RX1, "held", "(J)I"⟩
abbrev cX1_codeOf : ByteArray := prog_3_method_4_code
def yX1_codeOf : MethodName := ⟨RX1, "codeOf", "(II)I"⟩
abbrev cX1_scaled : ByteArray := prog_3_method_5_code
def yX1_scaled : MethodName := ⟨RX1, "scaled", "(II)I"⟩
abbrev cX1_thrown : ByteArray := prog_3_method_6_code
def yX1_thrown : MethodName := ⟨RX1, "thrown", "()I"⟩
abbrev cX1_not : ByteArray := prog_3_method_7_code
def yX1_not : MethodName := ⟨RX1, "not", "(II)Z"⟩
abbrev cX1_decode : ByteArray := prog_3_method_8_code
def yX1_decode : MethodName := ⟨RX1, "decode", "(II)I"⟩
abbrev cX1_encode : ByteArray := prog_3_method_9_code
def yX1_encode : MethodName := ⟨RX1, "encode", "(II)I"⟩
abbrev cX1_law : ByteArray := prog_3_method_10_code
def yX1_law : MethodName := ⟨RX1, "law", "(II)Z"⟩
abbrev cX1_gain : ByteArray := prog_3_method_11_code
def yX1_gain : MethodName := ⟨RX1, "gain", "(II)Z"⟩
abbrev cX1_mute : ByteArray := prog_3_method_12_code
def yX1_mute : MethodName := ⟨RX1, "mute", "(IZ)Z"⟩
abbrev cX1_speakers : ByteArray := prog_3_method_13_code
def yX1_speakers : MethodName := ⟨RX1, "speakers", "(I)Z"⟩
abbrev cX1_put : ByteArray := prog_3_method_14_code
def yX1_put : MethodName := ⟨RX1, "put", "(III)Z"⟩
abbrev cX1_ramp : ByteArray := prog_3_method_15_code
def yX1_ramp : MethodName := ⟨RX1, "ramp", "(III)Z"⟩
abbrev cX1_mix : ByteArray := prog_3_method_16_code
def yX1_mix : MethodName := ⟨RX1, "mix", "()I"⟩
abbrev cX1_out : ByteArray := prog_3_method_17_code
def yX1_out : MethodName := ⟨RX1, "out", "(II)I"⟩
abbrev cX1_energy : ByteArray := prog_3_method_18_code
def yX1_energy : MethodName := ⟨RX1, "energy", "(I)J"⟩
def RJ6 : String := "java/lang/Integer"
def TJ6 : u_T := fun k => match k with
  | _ => ("", "", "", false)
def tyJ6 : Nat → FieldType := fun k => match k with
  | _ => .int
abbrev wsJ60 : List Cond := u_ws RJ6 TJ6 0
theorem nmJ6 : ∀ a, a < 0 → ∀ b, b < 0 → a ≠ b → (TJ6 a).2.1 ≠ (TJ6 b).2.1 := by decide +kernel
theorem tyJ6_ok : ∀ k, k < 0 → parseFieldDescriptor (TJ6 k).2.2.1 = some (tyJ6 k) := by decide +kernel
abbrev cJ6_numberOfLeadingZeros_0f7a4 : ByteArray := prog_5_method_47_code
def yJ6_numberOfLeadingZeros_0f7a4 : MethodName := ⟨RJ6, "numberOfLeadingZeros", "(I)I"⟩
def RJ9 : String := "java/lang/Math"
def TJ9 : u_T := fun k => match k with
  | _ => ("", "", "", false)
def tyJ9 : Nat → FieldType := fun k => match k with
  | _ => .int
abbrev wsJ90 : List Cond := u_ws RJ9 TJ9 0
theorem nmJ9 : ∀ a, a < 0 → ∀ b, b < 0 → a ≠ b → (TJ9 a).2.1 ≠ (TJ9 b).2.1 := by decide +kernel
theorem tyJ9_ok : ∀ k, k < 0 → parseFieldDescriptor (TJ9 k).2.2.1 = some (tyJ9 k) := by decide +kernel
abbrev cJ9_floorDiv_7cf53 : ByteArray := prog_6_method_47_code
def yJ9_floorDiv_7cf53 : MethodName := ⟨RJ9, "floorDiv", "(II)I"⟩
abbrev cJ9_abs_0f7a4 : ByteArray := prog_6_method_59_code
def yJ9_abs_0f7a4 : MethodName := ⟨RJ9, "abs", "(I)I"⟩
abbrev cJ9_max_f86c9 : ByteArray := prog_6_method_66_code
def yJ9_max_f86c9 : MethodName := ⟨RJ9, "max", "(JJ)J"⟩
abbrev cJ9_min_7cf53 : ByteArray := prog_6_method_69_code
def yJ9_min_7cf53 : MethodName := ⟨RJ9, "min", "(II)I"⟩
abbrev cJ9_min_f86c9 : ByteArray := prog_6_method_70_code
def yJ9_min_f86c9 : MethodName := ⟨RJ9, "min", "(JJ)J"⟩
def RL : String := "ConferenceBridgeLaw"
abbrev cL_decode : ByteArray := method_3_code
def yL_decode : MethodName := ⟨RL, "decode", "(LConferenceBridge;II[J)I"⟩
abbrev cL_energy : ByteArray := method_4_code
def yL_energy : MethodName := ⟨RL, "energy", "(LConferenceBridge;I[J)I"⟩
abbrev cL_law : ByteArray := code
def yL_law : MethodName := ⟨RL, "law", "([I)Z"⟩
def wsJ6_numberOfLeadingZeros_0f7a4 : List Cond := .code yJ6_numberOfLeadingZeros_0f7a4 cJ6_numberOfLeadingZeros_0f7a4 2 (some .int) :: ([.constant RJ6 264 (65536)])
def wsX0_highestPlace : List Cond := .code yX0_highestPlace cX0_highestPlace 1 (some .int) :: ([.methodLink RX0 131 yJ6_numberOfLeadingZeros_0f7a4, .static yJ6_numberOfLeadingZeros_0f7a4, .initialized RJ6, .code yJ6_numberOfLeadingZeros_0f7a4 cJ6_numberOfLeadingZeros_0f7a4 2 (some .int), .constant RJ6 264 (65536)])
def wsX0_codeByA : List Cond := .code yX0_codeByA cX0_codeByA 5 (some .int) :: ([.methodLink RX0 123 yX0_highestPlace, .static yX0_highestPlace, .initialized RX0, .code yX0_highestPlace cX0_highestPlace 1 (some .int), .methodLink RX0 131 yJ6_numberOfLeadingZeros_0f7a4, .static yJ6_numberOfLeadingZeros_0f7a4, .initialized RJ6, .code yJ6_numberOfLeadingZeros_0f7a4 cJ6_numberOfLeadingZeros_0f7a4 2 (some .int), .constant RJ6 264 (65536)])
def wsX0_codeByMu : List Cond := .code yX0_codeByMu cX0_codeByMu 5 (some .int) :: ([.methodLink RX0 126 Lib.Math.abs.name, .static Lib.Math.abs.name, .initialized "java/lang/Math", .code Lib.Math.abs.name Lib.Math.abs.code 1 (some .int), .methodLink RX0 129 Lib.Math.min.name, .static Lib.Math.min.name, .code Lib.Math.min.name Lib.Math.min.code 2 (some .int), .methodLink RX0 123 yX0_highestPlace, .static yX0_highestPlace, .initialized RX0, .code yX0_highestPlace cX0_highestPlace 1 (some .int), .methodLink RX0 131 yJ6_numberOfLeadingZeros_0f7a4, .static yJ6_numberOfLeadingZeros_0f7a4, .initialized RJ6, .code yJ6_numberOfLeadingZeros_0f7a4 cJ6_numberOfLeadingZeros_0f7a4 2 (some .int), .constant RJ6 264 (65536)])
def wsX0_codeOf : List Cond := .code yX0_codeOf cX0_codeOf 2 (some .int) :: ([.methodLink RX0 111 yX0_codeByA, .static yX0_codeByA, .initialized RX0, .code yX0_codeByA cX0_codeByA 5 (some .int), .methodLink RX0 123 yX0_highestPlace, .static yX0_highestPlace, .code yX0_highestPlace cX0_highestPlace 1 (some .int), .methodLink RX0 131 yJ6_numberOfLeadingZeros_0f7a4, .static yJ6_numberOfLeadingZeros_0f7a4, .initialized RJ6, .code yJ6_numberOfLeadingZeros_0f7a4 cJ6_numberOfLeadingZeros_0f7a4 2 (some .int), .constant RJ6 264 (65536), .methodLink RX0 114 yX0_codeByMu, .static yX0_codeByMu, .code yX0_codeByMu cX0_codeByMu 5 (some .int), .methodLink RX0 126 Lib.Math.abs.name, .static Lib.Math.abs.name, .initialized "java/lang/Math", .code Lib.Math.abs.name Lib.Math.abs.code 1 (some .int), .methodLink RX0 129 Lib.Math.min.name, .static Lib.Math.min.name, .code Lib.Math.min.name Lib.Math.min.code 2 (some .int)])
def wsX0_init_r1 : List Cond := [Cond.methodLink RX0 1 objectInit, Cond.instanceMethod objectInit, Cond.code objectInit ⟨#[0xb1]⟩ 1 none, Cond.arrayClass .int, Cond.fieldLink RX0 9 "ConferenceBridge" "laws" "[I", Cond.fieldLink RX0 13 "ConferenceBridge" "gains" "[I", Cond.arrayClass .boolean, Cond.fieldLink RX0 16 "ConferenceBridge" "silenced" "[Z", Cond.classLink RX0 20 "[[I", Cond.fieldLink RX0 22 "ConferenceBridge" "coming" "[[I", Cond.fieldLink RX0 25 "ConferenceBridge" "going" "[[I", Cond.fieldLink RX0 28 "ConferenceBridge" "mostSpeakers" "I", Cond.fieldLink RX0 32 "ConferenceBridge" "voices" "[[I", Cond.arrayClass .long, Cond.fieldLink RX0 35 "ConferenceBridge" "energies" "[J", Cond.fieldLink RX0 39 "ConferenceBridge" "sums" "[I", Cond.methodLink RX0 42 yX0_codeOf, Cond.static yX0_codeOf, Cond.initialized RX0, Cond.code yX0_codeOf cX0_codeOf 2 (some .int), Cond.methodLink RX0 111 yX0_codeByA, Cond.static yX0_codeByA, Cond.code yX0_codeByA cX0_codeByA 5 (some .int), Cond.methodLink RX0 123 yX0_highestPlace]
def wsX0_init_r2 : List Cond := [Cond.static yX0_highestPlace, Cond.code yX0_highestPlace cX0_highestPlace 1 (some .int), Cond.methodLink RX0 131 yJ6_numberOfLeadingZeros_0f7a4, Cond.static yJ6_numberOfLeadingZeros_0f7a4, Cond.initialized RJ6, Cond.code yJ6_numberOfLeadingZeros_0f7a4 cJ6_numberOfLeadingZeros_0f7a4 2 (some .int), Cond.constant RJ6 264 (65536), Cond.methodLink RX0 114 yX0_codeByMu, Cond.static yX0_codeByMu, Cond.code yX0_codeByMu cX0_codeByMu 5 (some .int), Cond.methodLink RX0 126 Lib.Math.abs.name, Cond.static Lib.Math.abs.name, Cond.initialized "java/lang/Math", Cond.code Lib.Math.abs.name Lib.Math.abs.code 1 (some .int), Cond.methodLink RX0 129 Lib.Math.min.name, Cond.static Lib.Math.min.name, Cond.code Lib.Math.min.name Lib.Math.min.code 2 (some .int)]
def wsX0_init : List Cond := .code yX0_init cX0_init 4 none :: ((wsX0_init_r1 ++ wsX0_init_r2) ++ wsX00)
def wsX0_isLaw : List Cond := .code yX0_isLaw cX0_isLaw 1 (some .boolean) :: ([])
def wsX0_segmentIn : List Cond := .code yX0_segmentIn cX0_segmentIn 1 (some .int) :: ([])
def wsX0_stepIn : List Cond := .code yX0_stepIn cX0_stepIn 1 (some .int) :: ([])
def wsX0_sampleByA : List Cond := .code yX0_sampleByA cX0_sampleByA 5 (some .int) :: ([.methodLink RX0 117 yX0_segmentIn, .static yX0_segmentIn, .initialized RX0, .code yX0_segmentIn cX0_segmentIn 1 (some .int), .methodLink RX0 120 yX0_stepIn, .static yX0_stepIn, .code yX0_stepIn cX0_stepIn 1 (some .int)])
def wsX0_sampleByMu : List Cond := .code yX0_sampleByMu cX0_sampleByMu 3 (some .int) :: ([.methodLink RX0 120 yX0_stepIn, .static yX0_stepIn, .initialized RX0, .code yX0_stepIn cX0_stepIn 1 (some .int), .methodLink RX0 117 yX0_segmentIn, .static yX0_segmentIn, .code yX0_segmentIn cX0_segmentIn 1 (some .int)])
def wsX0_sampleOf : List Cond := .code yX0_sampleOf cX0_sampleOf 2 (some .int) :: ([.methodLink RX0 105 yX0_sampleByA, .static yX0_sampleByA, .initialized RX0, .code yX0_sampleByA cX0_sampleByA 5 (some .int), .methodLink RX0 117 yX0_segmentIn, .static yX0_segmentIn, .code yX0_segmentIn cX0_segmentIn 1 (some .int), .methodLink RX0 120 yX0_stepIn, .static yX0_stepIn, .code yX0_stepIn cX0_stepIn 1 (some .int), .methodLink RX0 108 yX0_sampleByMu, .static yX0_sampleByMu, .code yX0_sampleByMu cX0_sampleByMu 3 (some .int)])
def wsX0_decode : List Cond := .code yX0_decode cX0_decode 3 (some .int) :: ([.classLink RX0 50 "java/util/NoSuchElementException", .initialized "java/util/NoSuchElementException", .methodLink RX0 46 yX0_isLaw, .static yX0_isLaw, .initialized RX0, .code yX0_isLaw cX0_isLaw 1 (some .boolean), .methodLink RX0 53 yX0_sampleOf, .static yX0_sampleOf, .code yX0_sampleOf cX0_sampleOf 2 (some .int), .methodLink RX0 105 yX0_sampleByA, .static yX0_sampleByA, .code yX0_sampleByA cX0_sampleByA 5 (some .int), .methodLink RX0 117 yX0_segmentIn, .static yX0_segmentIn, .code yX0_segmentIn cX0_segmentIn 1 (some .int), .methodLink RX0 120 yX0_stepIn, .static yX0_stepIn, .code yX0_stepIn cX0_stepIn 1 (some .int), .methodLink RX0 108 yX0_sampleByMu, .static yX0_sampleByMu, .code yX0_sampleByMu cX0_sampleByMu 3 (some .int)] ++ (vx_at0 RX0 52 "java/util/NoSuchElementException" ["java/lang/RuntimeException", "java/lang/Exception"]).filter goodWord)
def wsX0_saturated : List Cond := .code yX0_saturated cX0_saturated 2 (some .int) :: ([.constantLong RX0 94 (-32768), .constantLong RX0 96 (32767), .methodLink RX0 98 Lib.MathLoose.min_long.x, .static Lib.MathLoose.min_long.x, .initialized "java/lang/Math", .code Lib.MathLoose.min_long.x Lib.MathLoose.min_long.code 4 (some .long), .methodLink RX0 102 Lib.MathLoose.max_long.x, .static Lib.MathLoose.max_long.x, .code Lib.MathLoose.max_long.x Lib.MathLoose.max_long.code 4 (some .long)])
def wsX0_encode_r1 : List Cond := [Cond.methodLink RX0 46 yX0_isLaw, Cond.static yX0_isLaw, Cond.initialized RX0, Cond.code yX0_isLaw cX0_isLaw 1 (some .boolean), Cond.methodLink RX0 56 yX0_saturated, Cond.static yX0_saturated, Cond.code yX0_saturated cX0_saturated 2 (some .int), Cond.constantLong RX0 94 (-32768), Cond.constantLong RX0 96 (32767), Cond.methodLink RX0 98 Lib.MathLoose.min_long.x, Cond.static Lib.MathLoose.min_long.x, Cond.initialized "java/lang/Math", Cond.code Lib.MathLoose.min_long.x Lib.MathLoose.min_long.code 4 (some .long), Cond.methodLink RX0 102 Lib.MathLoose.max_long.x, Cond.static Lib.MathLoose.max_long.x, Cond.code Lib.MathLoose.max_long.x Lib.MathLoose.max_long.code 4 (some .long), Cond.methodLink RX0 42 yX0_codeOf, Cond.static yX0_codeOf, Cond.code yX0_codeOf cX0_codeOf 2 (some .int), Cond.methodLink RX0 111 yX0_codeByA, Cond.static yX0_codeByA, Cond.code yX0_codeByA cX0_codeByA 5 (some .int), Cond.methodLink RX0 123 yX0_highestPlace, Cond.static yX0_highestPlace]
def wsX0_encode_r2 : List Cond := [Cond.code yX0_highestPlace cX0_highestPlace 1 (some .int), Cond.methodLink RX0 131 yJ6_numberOfLeadingZeros_0f7a4, Cond.static yJ6_numberOfLeadingZeros_0f7a4, Cond.initialized RJ6, Cond.code yJ6_numberOfLeadingZeros_0f7a4 cJ6_numberOfLeadingZeros_0f7a4 2 (some .int), Cond.constant RJ6 264 (65536), Cond.methodLink RX0 114 yX0_codeByMu, Cond.static yX0_codeByMu, Cond.code yX0_codeByMu cX0_codeByMu 5 (some .int), Cond.methodLink RX0 126 Lib.Math.abs.name, Cond.static Lib.Math.abs.name, Cond.code Lib.Math.abs.name Lib.Math.abs.code 1 (some .int), Cond.methodLink RX0 129 Lib.Math.min.name, Cond.static Lib.Math.min.name, Cond.code Lib.Math.min.name Lib.Math.min.code 2 (some .int)]
def wsX0_encode : List Cond := .code yX0_encode cX0_encode 3 (some .int) :: ((wsX0_encode_r1 ++ wsX0_encode_r2))
def wsX0_isParty : List Cond := .code yX0_isParty cX0_isParty 1 (some .boolean) :: ([])
def wsX0_law : List Cond := .code yX0_law cX0_law 3 (some .boolean) :: ([.fieldLink RX0 9 "ConferenceBridge" "laws" "[I", .methodLink RX0 60 yX0_isParty, .static yX0_isParty, .initialized RX0, .code yX0_isParty cX0_isParty 1 (some .boolean), .methodLink RX0 46 yX0_isLaw, .static yX0_isLaw, .code yX0_isLaw cX0_isLaw 1 (some .boolean)] ++ wsX00)
def wsX0_gain : List Cond := .code yX0_gain cX0_gain 3 (some .boolean) :: ([.fieldLink RX0 13 "ConferenceBridge" "gains" "[I", .methodLink RX0 60 yX0_isParty, .static yX0_isParty, .initialized RX0, .code yX0_isParty cX0_isParty 1 (some .boolean)] ++ wsX00)
def wsX0_mute : List Cond := .code yX0_mute cX0_mute 3 (some .boolean) :: ([.fieldLink RX0 16 "ConferenceBridge" "silenced" "[Z", .methodLink RX0 60 yX0_isParty, .static yX0_isParty, .initialized RX0, .code yX0_isParty cX0_isParty 1 (some .boolean)] ++ wsX00)
def wsX0_speakers : List Cond := .code yX0_speakers cX0_speakers 2 (some .boolean) :: ([.fieldLink RX0 28 "ConferenceBridge" "mostSpeakers" "I"] ++ wsX00)
def wsX0_isPlace : List Cond := .code yX0_isPlace cX0_isPlace 1 (some .boolean) :: ([])
def wsX0_put : List Cond := .code yX0_put cX0_put 4 (some .boolean) :: ([.fieldLink RX0 22 "ConferenceBridge" "coming" "[[I", .methodLink RX0 60 yX0_isParty, .static yX0_isParty, .initialized RX0, .code yX0_isParty cX0_isParty 1 (some .boolean), .methodLink RX0 63 yX0_isPlace, .static yX0_isPlace, .code yX0_isPlace cX0_isPlace 1 (some .boolean)] ++ wsX00)
def wsX0_ramp_r1 : List Cond := [Cond.fieldLink RX0 22 "ConferenceBridge" "coming" "[[I", Cond.fieldLink RX0 9 "ConferenceBridge" "laws" "[I", Cond.methodLink RX0 60 yX0_isParty, Cond.static yX0_isParty, Cond.initialized RX0, Cond.code yX0_isParty cX0_isParty 1 (some .boolean), Cond.methodLink RX0 56 yX0_saturated, Cond.static yX0_saturated, Cond.code yX0_saturated cX0_saturated 2 (some .int), Cond.constantLong RX0 94 (-32768), Cond.constantLong RX0 96 (32767), Cond.methodLink RX0 98 Lib.MathLoose.min_long.x, Cond.static Lib.MathLoose.min_long.x, Cond.initialized "java/lang/Math", Cond.code Lib.MathLoose.min_long.x Lib.MathLoose.min_long.code 4 (some .long), Cond.methodLink RX0 102 Lib.MathLoose.max_long.x, Cond.static Lib.MathLoose.max_long.x, Cond.code Lib.MathLoose.max_long.x Lib.MathLoose.max_long.code 4 (some .long), Cond.methodLink RX0 42 yX0_codeOf, Cond.static yX0_codeOf, Cond.code yX0_codeOf cX0_codeOf 2 (some .int), Cond.methodLink RX0 111 yX0_codeByA, Cond.static yX0_codeByA, Cond.code yX0_codeByA cX0_codeByA 5 (some .int)]
def wsX0_ramp_r2 : List Cond := [Cond.methodLink RX0 123 yX0_highestPlace, Cond.static yX0_highestPlace, Cond.code yX0_highestPlace cX0_highestPlace 1 (some .int), Cond.methodLink RX0 131 yJ6_numberOfLeadingZeros_0f7a4, Cond.static yJ6_numberOfLeadingZeros_0f7a4, Cond.initialized RJ6, Cond.code yJ6_numberOfLeadingZeros_0f7a4 cJ6_numberOfLeadingZeros_0f7a4 2 (some .int), Cond.constant RJ6 264 (65536), Cond.methodLink RX0 114 yX0_codeByMu, Cond.static yX0_codeByMu, Cond.code yX0_codeByMu cX0_codeByMu 5 (some .int), Cond.methodLink RX0 126 Lib.Math.abs.name, Cond.static Lib.Math.abs.name, Cond.code Lib.Math.abs.name Lib.Math.abs.code 1 (some .int), Cond.methodLink RX0 129 Lib.Math.min.name, Cond.static Lib.Math.min.name, Cond.code Lib.Math.min.name Lib.Math.min.code 2 (some .int)]
def wsX0_ramp : List Cond := .code yX0_ramp cX0_ramp 7 (some .boolean) :: ((wsX0_ramp_r1 ++ wsX0_ramp_r2) ++ wsX00)
def wsJ9_floorDiv_7cf53 : List Cond := .code yJ9_floorDiv_7cf53 cJ9_floorDiv_7cf53 3 (some .int) :: ([])
def wsX0_hear_r1 : List Cond := [Cond.fieldLink RX0 9 "ConferenceBridge" "laws" "[I", Cond.fieldLink RX0 22 "ConferenceBridge" "coming" "[[I", Cond.fieldLink RX0 13 "ConferenceBridge" "gains" "[I", Cond.fieldLink RX0 32 "ConferenceBridge" "voices" "[[I", Cond.fieldLink RX0 35 "ConferenceBridge" "energies" "[J", Cond.methodLink RX0 53 yX0_sampleOf, Cond.static yX0_sampleOf, Cond.initialized RX0, Cond.code yX0_sampleOf cX0_sampleOf 2 (some .int), Cond.methodLink RX0 105 yX0_sampleByA, Cond.static yX0_sampleByA, Cond.code yX0_sampleByA cX0_sampleByA 5 (some .int), Cond.methodLink RX0 117 yX0_segmentIn, Cond.static yX0_segmentIn, Cond.code yX0_segmentIn cX0_segmentIn 1 (some .int), Cond.methodLink RX0 120 yX0_stepIn, Cond.static yX0_stepIn, Cond.code yX0_stepIn cX0_stepIn 1 (some .int), Cond.methodLink RX0 108 yX0_sampleByMu, Cond.static yX0_sampleByMu, Cond.code yX0_sampleByMu cX0_sampleByMu 3 (some .int), Cond.methodLink RX0 85 yJ9_floorDiv_7cf53, Cond.static yJ9_floorDiv_7cf53, Cond.initialized RJ9]
def wsX0_hear_r2 : List Cond := [Cond.code yJ9_floorDiv_7cf53 cJ9_floorDiv_7cf53 3 (some .int), Cond.methodLink RX0 56 yX0_saturated, Cond.static yX0_saturated, Cond.code yX0_saturated cX0_saturated 2 (some .int), Cond.constantLong RX0 94 (-32768), Cond.constantLong RX0 96 (32767), Cond.methodLink RX0 98 Lib.MathLoose.min_long.x, Cond.static Lib.MathLoose.min_long.x, Cond.initialized "java/lang/Math", Cond.code Lib.MathLoose.min_long.x Lib.MathLoose.min_long.code 4 (some .long), Cond.methodLink RX0 102 Lib.MathLoose.max_long.x, Cond.static Lib.MathLoose.max_long.x, Cond.code Lib.MathLoose.max_long.x Lib.MathLoose.max_long.code 4 (some .long)]
def wsX0_hear : List Cond := .code yX0_hear cX0_hear 7 none :: ((wsX0_hear_r1 ++ wsX0_hear_r2) ++ wsX00)
def wsX0_speaks : List Cond := .code yX0_speaks cX0_speaks 2 (some .boolean) :: ([])
def wsX0_loudestBeside : List Cond := .code yX0_loudestBeside cX0_loudestBeside 6 (some .int) :: ([.fieldLink RX0 16 "ConferenceBridge" "silenced" "[Z", .fieldLink RX0 35 "ConferenceBridge" "energies" "[J", .methodLink RX0 77 yX0_speaks, .static yX0_speaks, .initialized RX0, .code yX0_speaks cX0_speaks 2 (some .boolean)] ++ wsX00)
def wsX0_chooseSpeakers : List Cond := .code yX0_chooseSpeakers cX0_chooseSpeakers 4 (some .int) :: ([.fieldLink RX0 28 "ConferenceBridge" "mostSpeakers" "I", .methodLink RX0 90 yX0_loudestBeside, .instanceMethod yX0_loudestBeside, .selects RX0 yX0_loudestBeside yX0_loudestBeside, .initialized RX0, .code yX0_loudestBeside cX0_loudestBeside 6 (some .int), .fieldLink RX0 16 "ConferenceBridge" "silenced" "[Z", .fieldLink RX0 35 "ConferenceBridge" "energies" "[J", .methodLink RX0 77 yX0_speaks, .static yX0_speaks, .code yX0_speaks cX0_speaks 2 (some .boolean)] ++ wsX00)
def wsX0_sumUp : List Cond := .code yX0_sumUp cX0_sumUp 5 none :: ([.fieldLink RX0 32 "ConferenceBridge" "voices" "[[I", .fieldLink RX0 39 "ConferenceBridge" "sums" "[I", .methodLink RX0 77 yX0_speaks, .static yX0_speaks, .initialized RX0, .code yX0_speaks cX0_speaks 2 (some .boolean)] ++ wsX00)
def wsX0_answer_r1 : List Cond := [Cond.fieldLink RX0 39 "ConferenceBridge" "sums" "[I", Cond.fieldLink RX0 32 "ConferenceBridge" "voices" "[[I", Cond.fieldLink RX0 25 "ConferenceBridge" "going" "[[I", Cond.fieldLink RX0 9 "ConferenceBridge" "laws" "[I", Cond.methodLink RX0 56 yX0_saturated, Cond.static yX0_saturated, Cond.initialized RX0, Cond.code yX0_saturated cX0_saturated 2 (some .int), Cond.constantLong RX0 94 (-32768), Cond.constantLong RX0 96 (32767), Cond.methodLink RX0 98 Lib.MathLoose.min_long.x, Cond.static Lib.MathLoose.min_long.x, Cond.initialized "java/lang/Math", Cond.code Lib.MathLoose.min_long.x Lib.MathLoose.min_long.code 4 (some .long), Cond.methodLink RX0 102 Lib.MathLoose.max_long.x, Cond.static Lib.MathLoose.max_long.x, Cond.code Lib.MathLoose.max_long.x Lib.MathLoose.max_long.code 4 (some .long), Cond.methodLink RX0 42 yX0_codeOf, Cond.static yX0_codeOf, Cond.code yX0_codeOf cX0_codeOf 2 (some .int), Cond.methodLink RX0 111 yX0_codeByA, Cond.static yX0_codeByA, Cond.code yX0_codeByA cX0_codeByA 5 (some .int), Cond.methodLink RX0 123 yX0_highestPlace]
def wsX0_answer_r2 : List Cond := [Cond.static yX0_highestPlace, Cond.code yX0_highestPlace cX0_highestPlace 1 (some .int), Cond.methodLink RX0 131 yJ6_numberOfLeadingZeros_0f7a4, Cond.static yJ6_numberOfLeadingZeros_0f7a4, Cond.initialized RJ6, Cond.code yJ6_numberOfLeadingZeros_0f7a4 cJ6_numberOfLeadingZeros_0f7a4 2 (some .int), Cond.constant RJ6 264 (65536), Cond.methodLink RX0 114 yX0_codeByMu, Cond.static yX0_codeByMu, Cond.code yX0_codeByMu cX0_codeByMu 5 (some .int), Cond.methodLink RX0 126 Lib.Math.abs.name, Cond.static Lib.Math.abs.name, Cond.code Lib.Math.abs.name Lib.Math.abs.code 1 (some .int), Cond.methodLink RX0 129 Lib.Math.min.name, Cond.static Lib.Math.min.name, Cond.code Lib.Math.min.name Lib.Math.min.code 2 (some .int)]
def wsX0_answer : List Cond := .code yX0_answer cX0_answer 5 none :: ((wsX0_answer_r1 ++ wsX0_answer_r2) ++ wsX00)
def wsX0_mix_r1 : List Cond := [Cond.methodLink RX0 66 yX0_hear, Cond.instanceMethod yX0_hear, Cond.selects RX0 yX0_hear yX0_hear, Cond.initialized RX0, Cond.code yX0_hear cX0_hear 7 none, Cond.fieldLink RX0 9 "ConferenceBridge" "laws" "[I", Cond.fieldLink RX0 22 "ConferenceBridge" "coming" "[[I", Cond.fieldLink RX0 13 "ConferenceBridge" "gains" "[I", Cond.fieldLink RX0 32 "ConferenceBridge" "voices" "[[I", Cond.fieldLink RX0 35 "ConferenceBridge" "energies" "[J", Cond.methodLink RX0 53 yX0_sampleOf, Cond.static yX0_sampleOf, Cond.code yX0_sampleOf cX0_sampleOf 2 (some .int), Cond.methodLink RX0 105 yX0_sampleByA, Cond.static yX0_sampleByA, Cond.code yX0_sampleByA cX0_sampleByA 5 (some .int), Cond.methodLink RX0 117 yX0_segmentIn, Cond.static yX0_segmentIn, Cond.code yX0_segmentIn cX0_segmentIn 1 (some .int), Cond.methodLink RX0 120 yX0_stepIn, Cond.static yX0_stepIn, Cond.code yX0_stepIn cX0_stepIn 1 (some .int), Cond.methodLink RX0 108 yX0_sampleByMu, Cond.static yX0_sampleByMu]
def wsX0_mix_r2 : List Cond := [Cond.code yX0_sampleByMu cX0_sampleByMu 3 (some .int), Cond.methodLink RX0 85 yJ9_floorDiv_7cf53, Cond.static yJ9_floorDiv_7cf53, Cond.initialized RJ9, Cond.code yJ9_floorDiv_7cf53 cJ9_floorDiv_7cf53 3 (some .int), Cond.methodLink RX0 56 yX0_saturated, Cond.static yX0_saturated, Cond.code yX0_saturated cX0_saturated 2 (some .int), Cond.constantLong RX0 94 (-32768), Cond.constantLong RX0 96 (32767), Cond.methodLink RX0 98 Lib.MathLoose.min_long.x, Cond.static Lib.MathLoose.min_long.x, Cond.initialized "java/lang/Math", Cond.code Lib.MathLoose.min_long.x Lib.MathLoose.min_long.code 4 (some .long), Cond.methodLink RX0 102 Lib.MathLoose.max_long.x, Cond.static Lib.MathLoose.max_long.x, Cond.code Lib.MathLoose.max_long.x Lib.MathLoose.max_long.code 4 (some .long), Cond.methodLink RX0 70 yX0_chooseSpeakers, Cond.instanceMethod yX0_chooseSpeakers, Cond.selects RX0 yX0_chooseSpeakers yX0_chooseSpeakers, Cond.code yX0_chooseSpeakers cX0_chooseSpeakers 4 (some .int), Cond.fieldLink RX0 28 "ConferenceBridge" "mostSpeakers" "I", Cond.methodLink RX0 90 yX0_loudestBeside, Cond.instanceMethod yX0_loudestBeside]
def wsX0_mix_r3 : List Cond := [Cond.selects RX0 yX0_loudestBeside yX0_loudestBeside, Cond.code yX0_loudestBeside cX0_loudestBeside 6 (some .int), Cond.fieldLink RX0 16 "ConferenceBridge" "silenced" "[Z", Cond.methodLink RX0 77 yX0_speaks, Cond.static yX0_speaks, Cond.code yX0_speaks cX0_speaks 2 (some .boolean), Cond.methodLink RX0 74 yX0_sumUp, Cond.instanceMethod yX0_sumUp, Cond.selects RX0 yX0_sumUp yX0_sumUp, Cond.code yX0_sumUp cX0_sumUp 5 none, Cond.fieldLink RX0 39 "ConferenceBridge" "sums" "[I", Cond.methodLink RX0 81 yX0_answer, Cond.instanceMethod yX0_answer, Cond.selects RX0 yX0_answer yX0_answer, Cond.code yX0_answer cX0_answer 5 none, Cond.fieldLink RX0 25 "ConferenceBridge" "going" "[[I", Cond.methodLink RX0 42 yX0_codeOf, Cond.static yX0_codeOf, Cond.code yX0_codeOf cX0_codeOf 2 (some .int), Cond.methodLink RX0 111 yX0_codeByA, Cond.static yX0_codeByA, Cond.code yX0_codeByA cX0_codeByA 5 (some .int), Cond.methodLink RX0 123 yX0_highestPlace, Cond.static yX0_highestPlace]
def wsX0_mix_r4 : List Cond := [Cond.code yX0_highestPlace cX0_highestPlace 1 (some .int), Cond.methodLink RX0 131 yJ6_numberOfLeadingZeros_0f7a4, Cond.static yJ6_numberOfLeadingZeros_0f7a4, Cond.initialized RJ6, Cond.code yJ6_numberOfLeadingZeros_0f7a4 cJ6_numberOfLeadingZeros_0f7a4 2 (some .int), Cond.constant RJ6 264 (65536), Cond.methodLink RX0 114 yX0_codeByMu, Cond.static yX0_codeByMu, Cond.code yX0_codeByMu cX0_codeByMu 5 (some .int), Cond.methodLink RX0 126 Lib.Math.abs.name, Cond.static Lib.Math.abs.name, Cond.code Lib.Math.abs.name Lib.Math.abs.code 1 (some .int), Cond.methodLink RX0 129 Lib.Math.min.name, Cond.static Lib.Math.min.name, Cond.code Lib.Math.min.name Lib.Math.min.code 2 (some .int)]
def wsX0_mix : List Cond := .code yX0_mix cX0_mix 3 (some .int) :: ((wsX0_mix_r1 ++ (wsX0_mix_r2 ++ (wsX0_mix_r3 ++ wsX0_mix_r4))) ++ wsX00)
def wsX0_out : List Cond := .code yX0_out cX0_out 3 (some .int) :: ([.fieldLink RX0 25 "ConferenceBridge" "going" "[[I", .methodLink RX0 60 yX0_isParty, .static yX0_isParty, .initialized RX0, .code yX0_isParty cX0_isParty 1 (some .boolean), .methodLink RX0 63 yX0_isPlace, .static yX0_isPlace, .code yX0_isPlace cX0_isPlace 1 (some .boolean)] ++ wsX00)
def wsX0_energy : List Cond := .code yX0_energy cX0_energy 2 (some .long) :: ([.classLink RX0 50 "java/util/NoSuchElementException", .initialized "java/util/NoSuchElementException", .fieldLink RX0 35 "ConferenceBridge" "energies" "[J", .methodLink RX0 60 yX0_isParty, .static yX0_isParty, .initialized RX0, .code yX0_isParty cX0_isParty 1 (some .boolean)] ++ wsX00 ++ (vx_at0 RX0 52 "java/util/NoSuchElementException" ["java/lang/RuntimeException", "java/lang/Exception"]).filter goodWord)
def wsX1_codeOf : List Cond := .code yX1_codeOf cX1_codeOf 4 (some .int) :: ([])
def wsX1_init : List Cond := .code yX1_init cX1_init 3 none :: ([.methodLink RX1 1 objectInit, .instanceMethod objectInit, .code objectInit ⟨#[0xb1]⟩ 1 none, .fieldLink RX1 7 "ConferenceBridgeModel" "thrownCode" "I", .arrayClass .int, .fieldLink RX1 13 "ConferenceBridgeModel" "law" "[I", .fieldLink RX1 17 "ConferenceBridgeModel" "gain" "[I", .arrayClass .boolean, .fieldLink RX1 20 "ConferenceBridgeModel" "muted" "[Z", .fieldLink RX1 24 "ConferenceBridgeModel" "in" "[I", .fieldLink RX1 27 "ConferenceBridgeModel" "out" "[I", .fieldLink RX1 30 "ConferenceBridgeModel" "sample" "[I", .arrayClass .long, .fieldLink RX1 33 "ConferenceBridgeModel" "energy" "[J", .fieldLink RX1 37 "ConferenceBridgeModel" "most" "I", .methodLink RX1 40 yX1_codeOf, .static yX1_codeOf, .initialized RX1, .code yX1_codeOf cX1_codeOf 4 (some .int)] ++ wsX10)
def wsX1_meaning : List Cond := .code yX1_meaning cX1_meaning 7 (some .int) :: ([])
def wsX1_held : List Cond := .code yX1_held cX1_held 2 (some .int) :: ([.constantLong RX1 44 (32767), .constantLong RX1 46 (-32768)])
def wsX1_scaled : List Cond := .code yX1_scaled cX1_scaled 3 (some .int) :: ([.methodLink RX1 48 yX1_held, .static yX1_held, .initialized RX1, .code yX1_held cX1_held 2 (some .int), .constantLong RX1 44 (32767), .constantLong RX1 46 (-32768)])
def wsX1_thrown : List Cond := .code yX1_thrown cX1_thrown 1 (some .int) :: ([.fieldLink RX1 7 "ConferenceBridgeModel" "thrownCode" "I"] ++ wsX10)
def wsX1_not : List Cond := .code yX1_not cX1_not 2 (some .boolean) :: ([])
def wsX1_decode : List Cond := .code yX1_decode cX1_decode 3 (some .int) :: ([.fieldLink RX1 7 "ConferenceBridgeModel" "thrownCode" "I", .methodLink RX1 52 yX1_not, .static yX1_not, .initialized RX1, .code yX1_not cX1_not 2 (some .boolean), .methodLink RX1 56 yX1_meaning, .static yX1_meaning, .code yX1_meaning cX1_meaning 7 (some .int)] ++ wsX10)
def wsX1_encode : List Cond := .code yX1_encode cX1_encode 3 (some .int) :: ([.fieldLink RX1 7 "ConferenceBridgeModel" "thrownCode" "I", .methodLink RX1 52 yX1_not, .static yX1_not, .initialized RX1, .code yX1_not cX1_not 2 (some .boolean), .methodLink RX1 48 yX1_held, .static yX1_held, .code yX1_held cX1_held 2 (some .int), .constantLong RX1 44 (32767), .constantLong RX1 46 (-32768), .methodLink RX1 40 yX1_codeOf, .static yX1_codeOf, .code yX1_codeOf cX1_codeOf 4 (some .int)] ++ wsX10)
def wsX1_law : List Cond := .code yX1_law cX1_law 3 (some .boolean) :: ([.fieldLink RX1 7 "ConferenceBridgeModel" "thrownCode" "I", .fieldLink RX1 13 "ConferenceBridgeModel" "law" "[I", .methodLink RX1 52 yX1_not, .static yX1_not, .initialized RX1, .code yX1_not cX1_not 2 (some .boolean)] ++ wsX10)
def wsX1_gain : List Cond := .code yX1_gain cX1_gain 3 (some .boolean) :: ([.fieldLink RX1 7 "ConferenceBridgeModel" "thrownCode" "I", .fieldLink RX1 17 "ConferenceBridgeModel" "gain" "[I", .methodLink RX1 52 yX1_not, .static yX1_not, .initialized RX1, .code yX1_not cX1_not 2 (some .boolean)] ++ wsX10)
def wsX1_mute : List Cond := .code yX1_mute cX1_mute 3 (some .boolean) :: ([.fieldLink RX1 7 "ConferenceBridgeModel" "thrownCode" "I", .fieldLink RX1 20 "ConferenceBridgeModel" "muted" "[Z", .methodLink RX1 52 yX1_not, .static yX1_not, .initialized RX1, .code yX1_not cX1_not 2 (some .boolean)] ++ wsX10)
def wsX1_speakers : List Cond := .code yX1_speakers cX1_speakers 2 (some .boolean) :: ([.fieldLink RX1 7 "ConferenceBridgeModel" "thrownCode" "I", .fieldLink RX1 37 "ConferenceBridgeModel" "most" "I"] ++ wsX10)
def wsX1_put : List Cond := .code yX1_put cX1_put 4 (some .boolean) :: ([.fieldLink RX1 7 "ConferenceBridgeModel" "thrownCode" "I", .fieldLink RX1 24 "ConferenceBridgeModel" "in" "[I", .methodLink RX1 52 yX1_not, .static yX1_not, .initialized RX1, .code yX1_not cX1_not 2 (some .boolean)] ++ wsX10)
def wsX1_ramp : List Cond := .code yX1_ramp cX1_ramp 5 (some .boolean) :: ([.fieldLink RX1 7 "ConferenceBridgeModel" "thrownCode" "I", .fieldLink RX1 24 "ConferenceBridgeModel" "in" "[I", .fieldLink RX1 13 "ConferenceBridgeModel" "law" "[I", .methodLink RX1 52 yX1_not, .static yX1_not, .initialized RX1, .code yX1_not cX1_not 2 (some .boolean), .methodLink RX1 48 yX1_held, .static yX1_held, .code yX1_held cX1_held 2 (some .int), .constantLong RX1 44 (32767), .constantLong RX1 46 (-32768), .methodLink RX1 40 yX1_codeOf, .static yX1_codeOf, .code yX1_codeOf cX1_codeOf 4 (some .int)] ++ wsX10)
def wsX1_mix : List Cond := .code yX1_mix cX1_mix 6 (some .int) :: ([.fieldLink RX1 7 "ConferenceBridgeModel" "thrownCode" "I", .fieldLink RX1 33 "ConferenceBridgeModel" "energy" "[J", .fieldLink RX1 13 "ConferenceBridgeModel" "law" "[I", .fieldLink RX1 24 "ConferenceBridgeModel" "in" "[I", .fieldLink RX1 17 "ConferenceBridgeModel" "gain" "[I", .fieldLink RX1 30 "ConferenceBridgeModel" "sample" "[I", .fieldLink RX1 37 "ConferenceBridgeModel" "most" "I", .fieldLink RX1 20 "ConferenceBridgeModel" "muted" "[Z", .fieldLink RX1 27 "ConferenceBridgeModel" "out" "[I", .methodLink RX1 56 yX1_meaning, .static yX1_meaning, .initialized RX1, .code yX1_meaning cX1_meaning 7 (some .int), .methodLink RX1 59 yX1_scaled, .static yX1_scaled, .code yX1_scaled cX1_scaled 3 (some .int), .methodLink RX1 48 yX1_held, .static yX1_held, .code yX1_held cX1_held 2 (some .int), .constantLong RX1 44 (32767), .constantLong RX1 46 (-32768), .methodLink RX1 40 yX1_codeOf, .static yX1_codeOf, .code yX1_codeOf cX1_codeOf 4 (some .int)] ++ wsX10)
def wsX1_out : List Cond := .code yX1_out cX1_out 3 (some .int) :: ([.fieldLink RX1 7 "ConferenceBridgeModel" "thrownCode" "I", .fieldLink RX1 27 "ConferenceBridgeModel" "out" "[I", .methodLink RX1 52 yX1_not, .static yX1_not, .initialized RX1, .code yX1_not cX1_not 2 (some .boolean)] ++ wsX10)
def wsX1_energy : List Cond := .code yX1_energy cX1_energy 2 (some .long) :: ([.fieldLink RX1 7 "ConferenceBridgeModel" "thrownCode" "I", .fieldLink RX1 33 "ConferenceBridgeModel" "energy" "[J", .methodLink RX1 52 yX1_not, .static yX1_not, .initialized RX1, .code yX1_not cX1_not 2 (some .boolean)] ++ wsX10)
def wsJ9_abs_0f7a4 : List Cond := .code yJ9_abs_0f7a4 cJ9_abs_0f7a4 1 (some .int) :: ([])
def wsJ9_max_f86c9 : List Cond := .code yJ9_max_f86c9 cJ9_max_f86c9 4 (some .long) :: ([])
def wsJ9_min_7cf53 : List Cond := .code yJ9_min_7cf53 cJ9_min_7cf53 2 (some .int) :: ([])
def wsJ9_min_f86c9 : List Cond := .code yJ9_min_f86c9 cJ9_min_f86c9 4 (some .long) :: ([])
def wsL_decode_r1 : List Cond := [Cond.classLink RL 13 "java/util/NoSuchElementException", Cond.methodLink RL 7 yX0_decode, Cond.instanceMethod yX0_decode, Cond.selects RX0 yX0_decode yX0_decode, Cond.initialized RX0, Cond.code yX0_decode cX0_decode 3 (some .int), Cond.classLink RX0 50 "java/util/NoSuchElementException", Cond.initialized "java/util/NoSuchElementException", Cond.methodLink RX0 46 yX0_isLaw, Cond.static yX0_isLaw, Cond.code yX0_isLaw cX0_isLaw 1 (some .boolean), Cond.methodLink RX0 53 yX0_sampleOf, Cond.static yX0_sampleOf, Cond.code yX0_sampleOf cX0_sampleOf 2 (some .int), Cond.methodLink RX0 105 yX0_sampleByA, Cond.static yX0_sampleByA, Cond.code yX0_sampleByA cX0_sampleByA 5 (some .int), Cond.methodLink RX0 117 yX0_segmentIn, Cond.static yX0_segmentIn, Cond.code yX0_segmentIn cX0_segmentIn 1 (some .int), Cond.methodLink RX0 120 yX0_stepIn, Cond.static yX0_stepIn, Cond.code yX0_stepIn cX0_stepIn 1 (some .int), Cond.methodLink RX0 108 yX0_sampleByMu]
def wsL_decode_r2 : List Cond := [Cond.static yX0_sampleByMu, Cond.code yX0_sampleByMu cX0_sampleByMu 3 (some .int)]
def wsL_decode : List Cond := .codeWith yL_decode cL_decode 5 (some .int) [(0, 10, 13, 13)] :: ((wsL_decode_r1 ++ wsL_decode_r2) ++ (vx_at0 RX0 52 "java/util/NoSuchElementException" ["java/lang/RuntimeException", "java/lang/Exception"]).filter goodWord)
def wsL_energy : List Cond := .codeWith yL_energy cL_energy 4 (some .int) [(0, 8, 11, 13)] :: ([.classLink RL 13 "java/util/NoSuchElementException", .methodLink RL 15 yX0_energy, .instanceMethod yX0_energy, .selects RX0 yX0_energy yX0_energy, .initialized RX0, .code yX0_energy cX0_energy 2 (some .long), .classLink RX0 50 "java/util/NoSuchElementException", .initialized "java/util/NoSuchElementException", .fieldLink RX0 35 "ConferenceBridge" "energies" "[J", .methodLink RX0 60 yX0_isParty, .static yX0_isParty, .code yX0_isParty cX0_isParty 1 (some .boolean)] ++ wsX00 ++ (vx_at0 RX0 52 "java/util/NoSuchElementException" ["java/lang/RuntimeException", "java/lang/Exception"]).filter goodWord)
def wsL_law0_r1 : List Cond := [Cond.classLink RL 8 RX0, Cond.instantiable RX0 9, Cond.initialized RX0, Cond.classLink RL 20 RX1, Cond.instantiable RX1 9, Cond.initialized RX1, Cond.arrayClass .long, Cond.methodLink RL 19 yX0_init, Cond.instanceMethod yX0_init, Cond.code yX0_init cX0_init 4 none, Cond.methodLink RX0 1 objectInit, Cond.instanceMethod objectInit, Cond.code objectInit ⟨#[0xb1]⟩ 1 none, Cond.arrayClass .int, Cond.fieldLink RX0 9 "ConferenceBridge" "laws" "[I", Cond.fieldLink RX0 13 "ConferenceBridge" "gains" "[I", Cond.arrayClass .boolean, Cond.fieldLink RX0 16 "ConferenceBridge" "silenced" "[Z", Cond.classLink RX0 20 "[[I", Cond.fieldLink RX0 22 "ConferenceBridge" "coming" "[[I", Cond.fieldLink RX0 25 "ConferenceBridge" "going" "[[I", Cond.fieldLink RX0 28 "ConferenceBridge" "mostSpeakers" "I", Cond.fieldLink RX0 32 "ConferenceBridge" "voices" "[[I", Cond.fieldLink RX0 35 "ConferenceBridge" "energies" "[J"]
def wsL_law0_r2 : List Cond := [Cond.fieldLink RX0 39 "ConferenceBridge" "sums" "[I", Cond.methodLink RX0 42 yX0_codeOf, Cond.static yX0_codeOf, Cond.code yX0_codeOf cX0_codeOf 2 (some .int), Cond.methodLink RX0 111 yX0_codeByA, Cond.static yX0_codeByA, Cond.code yX0_codeByA cX0_codeByA 5 (some .int), Cond.methodLink RX0 123 yX0_highestPlace, Cond.static yX0_highestPlace, Cond.code yX0_highestPlace cX0_highestPlace 1 (some .int), Cond.methodLink RX0 131 yJ6_numberOfLeadingZeros_0f7a4, Cond.static yJ6_numberOfLeadingZeros_0f7a4, Cond.initialized RJ6, Cond.code yJ6_numberOfLeadingZeros_0f7a4 cJ6_numberOfLeadingZeros_0f7a4 2 (some .int), Cond.constant RJ6 264 (65536), Cond.methodLink RX0 114 yX0_codeByMu, Cond.static yX0_codeByMu, Cond.code yX0_codeByMu cX0_codeByMu 5 (some .int), Cond.methodLink RX0 126 Lib.Math.abs.name, Cond.static Lib.Math.abs.name, Cond.initialized "java/lang/Math", Cond.code Lib.Math.abs.name Lib.Math.abs.code 1 (some .int), Cond.methodLink RX0 129 Lib.Math.min.name, Cond.static Lib.Math.min.name]
def wsL_law0_r3 : List Cond := [Cond.code Lib.Math.min.name Lib.Math.min.code 2 (some .int), Cond.methodLink RL 22 yX1_init, Cond.instanceMethod yX1_init, Cond.code yX1_init cX1_init 3 none, Cond.methodLink RX1 1 objectInit, Cond.fieldLink RX1 7 "ConferenceBridgeModel" "thrownCode" "I", Cond.fieldLink RX1 13 "ConferenceBridgeModel" "law" "[I", Cond.fieldLink RX1 17 "ConferenceBridgeModel" "gain" "[I", Cond.fieldLink RX1 20 "ConferenceBridgeModel" "muted" "[Z", Cond.fieldLink RX1 24 "ConferenceBridgeModel" "in" "[I", Cond.fieldLink RX1 27 "ConferenceBridgeModel" "out" "[I", Cond.fieldLink RX1 30 "ConferenceBridgeModel" "sample" "[I", Cond.fieldLink RX1 33 "ConferenceBridgeModel" "energy" "[J", Cond.fieldLink RX1 37 "ConferenceBridgeModel" "most" "I", Cond.methodLink RX1 40 yX1_codeOf, Cond.static yX1_codeOf, Cond.code yX1_codeOf cX1_codeOf 4 (some .int), Cond.methodLink RL 23 yL_decode, Cond.static yL_decode, Cond.initialized RL, Cond.codeWith yL_decode cL_decode 5 (some .int) [(0, 10, 13, 13)], Cond.classLink RL 13 "java/util/NoSuchElementException", Cond.methodLink RL 7 yX0_decode, Cond.instanceMethod yX0_decode]
def wsL_law0_r4 : List Cond := [Cond.selects RX0 yX0_decode yX0_decode, Cond.code yX0_decode cX0_decode 3 (some .int), Cond.classLink RX0 50 "java/util/NoSuchElementException", Cond.initialized "java/util/NoSuchElementException", Cond.methodLink RX0 46 yX0_isLaw, Cond.static yX0_isLaw, Cond.code yX0_isLaw cX0_isLaw 1 (some .boolean), Cond.methodLink RX0 53 yX0_sampleOf, Cond.static yX0_sampleOf, Cond.code yX0_sampleOf cX0_sampleOf 2 (some .int), Cond.methodLink RX0 105 yX0_sampleByA, Cond.static yX0_sampleByA, Cond.code yX0_sampleByA cX0_sampleByA 5 (some .int), Cond.methodLink RX0 117 yX0_segmentIn, Cond.static yX0_segmentIn, Cond.code yX0_segmentIn cX0_segmentIn 1 (some .int), Cond.methodLink RX0 120 yX0_stepIn, Cond.static yX0_stepIn, Cond.code yX0_stepIn cX0_stepIn 1 (some .int), Cond.methodLink RX0 108 yX0_sampleByMu, Cond.static yX0_sampleByMu, Cond.code yX0_sampleByMu cX0_sampleByMu 3 (some .int), Cond.methodLink RL 28 yX1_decode, Cond.instanceMethod yX1_decode]
def wsL_law0_r5 : List Cond := [Cond.selects RX1 yX1_decode yX1_decode, Cond.code yX1_decode cX1_decode 3 (some .int), Cond.methodLink RX1 52 yX1_not, Cond.static yX1_not, Cond.code yX1_not cX1_not 2 (some .boolean), Cond.methodLink RX1 56 yX1_meaning, Cond.static yX1_meaning, Cond.code yX1_meaning cX1_meaning 7 (some .int), Cond.methodLink RL 29 yX1_thrown, Cond.instanceMethod yX1_thrown, Cond.selects RX1 yX1_thrown yX1_thrown, Cond.code yX1_thrown cX1_thrown 1 (some .int), Cond.methodLink RL 33 yX0_encode, Cond.instanceMethod yX0_encode, Cond.selects RX0 yX0_encode yX0_encode, Cond.code yX0_encode cX0_encode 3 (some .int), Cond.methodLink RX0 56 yX0_saturated, Cond.static yX0_saturated, Cond.code yX0_saturated cX0_saturated 2 (some .int), Cond.constantLong RX0 94 (-32768), Cond.constantLong RX0 96 (32767), Cond.methodLink RX0 98 Lib.MathLoose.min_long.x, Cond.static Lib.MathLoose.min_long.x, Cond.code Lib.MathLoose.min_long.x Lib.MathLoose.min_long.code 4 (some .long)]
def wsL_law0_r6 : List Cond := [Cond.methodLink RX0 102 Lib.MathLoose.max_long.x, Cond.static Lib.MathLoose.max_long.x, Cond.code Lib.MathLoose.max_long.x Lib.MathLoose.max_long.code 4 (some .long), Cond.methodLink RL 36 yX1_encode, Cond.instanceMethod yX1_encode, Cond.selects RX1 yX1_encode yX1_encode, Cond.code yX1_encode cX1_encode 3 (some .int), Cond.methodLink RX1 48 yX1_held, Cond.static yX1_held, Cond.code yX1_held cX1_held 2 (some .int), Cond.constantLong RX1 44 (32767), Cond.constantLong RX1 46 (-32768), Cond.methodLink RL 37 yX0_law, Cond.instanceMethod yX0_law, Cond.selects RX0 yX0_law yX0_law, Cond.code yX0_law cX0_law 3 (some .boolean), Cond.methodLink RX0 60 yX0_isParty, Cond.static yX0_isParty, Cond.code yX0_isParty cX0_isParty 1 (some .boolean), Cond.methodLink RL 41 yX1_law, Cond.instanceMethod yX1_law, Cond.selects RX1 yX1_law yX1_law, Cond.code yX1_law cX1_law 3 (some .boolean), Cond.methodLink RL 42 yX0_gain]
def wsL_law0_r7 : List Cond := [Cond.instanceMethod yX0_gain, Cond.selects RX0 yX0_gain yX0_gain, Cond.code yX0_gain cX0_gain 3 (some .boolean), Cond.methodLink RL 45 yX1_gain, Cond.instanceMethod yX1_gain, Cond.selects RX1 yX1_gain yX1_gain, Cond.code yX1_gain cX1_gain 3 (some .boolean), Cond.methodLink RL 46 yX0_mute, Cond.instanceMethod yX0_mute, Cond.selects RX0 yX0_mute yX0_mute, Cond.code yX0_mute cX0_mute 3 (some .boolean), Cond.methodLink RL 50 yX1_mute, Cond.instanceMethod yX1_mute, Cond.selects RX1 yX1_mute yX1_mute, Cond.code yX1_mute cX1_mute 3 (some .boolean), Cond.methodLink RL 51 yX0_speakers, Cond.instanceMethod yX0_speakers, Cond.selects RX0 yX0_speakers yX0_speakers, Cond.code yX0_speakers cX0_speakers 2 (some .boolean), Cond.methodLink RL 55 yX1_speakers, Cond.instanceMethod yX1_speakers, Cond.selects RX1 yX1_speakers yX1_speakers, Cond.code yX1_speakers cX1_speakers 2 (some .boolean), Cond.methodLink RL 56 yX0_put]
def wsL_law0_r8 : List Cond := [Cond.instanceMethod yX0_put, Cond.selects RX0 yX0_put yX0_put, Cond.code yX0_put cX0_put 4 (some .boolean), Cond.methodLink RX0 63 yX0_isPlace, Cond.static yX0_isPlace, Cond.code yX0_isPlace cX0_isPlace 1 (some .boolean), Cond.methodLink RL 60 yX1_put, Cond.instanceMethod yX1_put, Cond.selects RX1 yX1_put yX1_put, Cond.code yX1_put cX1_put 4 (some .boolean), Cond.methodLink RL 61 yX0_ramp, Cond.instanceMethod yX0_ramp, Cond.selects RX0 yX0_ramp yX0_ramp, Cond.code yX0_ramp cX0_ramp 7 (some .boolean), Cond.methodLink RL 64 yX1_ramp, Cond.instanceMethod yX1_ramp, Cond.selects RX1 yX1_ramp yX1_ramp, Cond.code yX1_ramp cX1_ramp 5 (some .boolean), Cond.methodLink RL 65 yX0_mix, Cond.instanceMethod yX0_mix, Cond.selects RX0 yX0_mix yX0_mix, Cond.code yX0_mix cX0_mix 3 (some .int), Cond.methodLink RX0 66 yX0_hear, Cond.instanceMethod yX0_hear]
def wsL_law0_r9 : List Cond := [Cond.selects RX0 yX0_hear yX0_hear, Cond.code yX0_hear cX0_hear 7 none, Cond.methodLink RX0 85 yJ9_floorDiv_7cf53, Cond.static yJ9_floorDiv_7cf53, Cond.initialized RJ9, Cond.code yJ9_floorDiv_7cf53 cJ9_floorDiv_7cf53 3 (some .int), Cond.methodLink RX0 70 yX0_chooseSpeakers, Cond.instanceMethod yX0_chooseSpeakers, Cond.selects RX0 yX0_chooseSpeakers yX0_chooseSpeakers, Cond.code yX0_chooseSpeakers cX0_chooseSpeakers 4 (some .int), Cond.methodLink RX0 90 yX0_loudestBeside, Cond.instanceMethod yX0_loudestBeside, Cond.selects RX0 yX0_loudestBeside yX0_loudestBeside, Cond.code yX0_loudestBeside cX0_loudestBeside 6 (some .int), Cond.methodLink RX0 77 yX0_speaks, Cond.static yX0_speaks, Cond.code yX0_speaks cX0_speaks 2 (some .boolean), Cond.methodLink RX0 74 yX0_sumUp, Cond.instanceMethod yX0_sumUp, Cond.selects RX0 yX0_sumUp yX0_sumUp, Cond.code yX0_sumUp cX0_sumUp 5 none, Cond.methodLink RX0 81 yX0_answer, Cond.instanceMethod yX0_answer, Cond.selects RX0 yX0_answer yX0_answer]
def wsL_law0_r10 : List Cond := [Cond.code yX0_answer cX0_answer 5 none, Cond.methodLink RL 68 yX1_mix, Cond.instanceMethod yX1_mix, Cond.selects RX1 yX1_mix yX1_mix, Cond.code yX1_mix cX1_mix 6 (some .int), Cond.methodLink RX1 59 yX1_scaled, Cond.static yX1_scaled, Cond.code yX1_scaled cX1_scaled 3 (some .int), Cond.methodLink RL 69 yX0_out, Cond.instanceMethod yX0_out, Cond.selects RX0 yX0_out yX0_out, Cond.code yX0_out cX0_out 3 (some .int), Cond.methodLink RL 72 yX1_out, Cond.instanceMethod yX1_out, Cond.selects RX1 yX1_out yX1_out, Cond.code yX1_out cX1_out 3 (some .int), Cond.methodLink RL 73 yL_energy, Cond.static yL_energy, Cond.codeWith yL_energy cL_energy 4 (some .int) [(0, 8, 11, 13)], Cond.methodLink RL 15 yX0_energy, Cond.instanceMethod yX0_energy, Cond.selects RX0 yX0_energy yX0_energy, Cond.code yX0_energy cX0_energy 2 (some .long), Cond.methodLink RL 76 yX1_energy]
def wsL_law0_r11 : List Cond := [Cond.instanceMethod yX1_energy, Cond.selects RX1 yX1_energy yX1_energy, Cond.code yX1_energy cX1_energy 2 (some .long)]
def wsL_law0 : List Cond := (wsL_law0_r1 ++ (wsL_law0_r2 ++ (wsL_law0_r3 ++ (wsL_law0_r4 ++ (wsL_law0_r5 ++ (wsL_law0_r6 ++ (wsL_law0_r7 ++ (wsL_law0_r8 ++ (wsL_law0_r9 ++ (wsL_law0_r10 ++ wsL_law0_r11)))))))))) ++ wsX00 ++ wsX10 ++ ([] : List Cond)
def wsL_law : List Cond := wsL_law0 ++ (vx_at0 RX0 52 "java/util/NoSuchElementException" ["java/lang/RuntimeException", "java/lang/Exception"]).filter goodWord
set_option maxRecDepth 20000 in
theorem wsL_law_in0 : ∀ w ∈ wsL_law0, w ∈ lw_tbl := fun w h => (goodIn_p wsL_law0 [19, 22, 27, 30, 33, 36, 40, 43, 46, 255, 259, 182, 84, 136, 139, 142, 145, 148, 295, 298, 301, 291, 81, 87, 92, 95, 305, 308, 99, 102, 314, 106, 318, 110, 322, 114, 326, 118, 121, 330, 125, 334, 129, 133, 151, 155, 159, 162, 166, 170, 338, 341, 174, 345, 250, 349] (by decide +kernel) (by decide +kernel) w h).1
theorem wsL_law_x0 : ∀ w ∈ (vx_at0 RX0 52 "java/util/NoSuchElementException" ["java/lang/RuntimeException", "java/lang/Exception"]).filter goodWord, w ∈ lw_tbl := by decide +kernel
theorem wsL_law_in : ∀ w ∈ wsL_law, w ∈ lw_tbl := fun w h => (List.mem_append.mp h).elim (fun h => wsL_law_in0 w h) (fun h => wsL_law_x0 w h)
theorem inlX0 : ∀ w ∈ wsX00, w ∈ wsL_law := fun _ h => List.mem_append_left _ (List.mem_append_left _ (List.mem_append_left _ (List.mem_append_right _ h)))
theorem inX0 : ∀ w ∈ wsX00, w ∈ lw_tbl := fun w h => wsL_law_in w (inlX0 w h)
theorem inlX1 : ∀ w ∈ wsX10, w ∈ wsL_law := fun _ h => List.mem_append_left _ (List.mem_append_left _ (List.mem_append_right _ h))
theorem inX1 : ∀ w ∈ wsX10, w ∈ lw_tbl := fun w h => wsL_law_in w (inlX1 w h)
theorem inJ6 : ∀ w ∈ wsJ60, w ∈ lw_tbl := by decide +kernel
theorem inJ9 : ∀ w ∈ wsJ90, w ∈ lw_tbl := by decide +kernel
set_option maxRecDepth 20000 in
theorem ggX0_init_X0_codeOf : GoodIn wsX0_init wsX0_codeOf := goodIn_r _ [20, 21, 22, 19, 23, 24, 25, 26, 27, 28, 29, 30, 31, 32, 33, 34, 35, 36, 37, 38, 39, 40, 41] (by decide +kernel) (by decide +kernel)
set_option maxRecDepth 20000 in
theorem gX0_init_X0_codeOf : GoodIn wsX0_init (va_wsS RX0 42 yX0_codeOf wsX0_codeOf) := goodIn_app (goodIn_of _ (by decide +kernel)) ggX0_init_X0_codeOf
theorem dX0_init_0 : decode cX0_init 0 = .ok (.aload_n 0, 1) := by decide +kernel
theorem dX0_init_1 : decode cX0_init 1 = .ok (.invokespecial 1, 3) := by decide +kernel
theorem dX0_init_4 : decode cX0_init 4 = .ok (.aload_n 0, 1) := by decide +kernel
theorem dX0_init_5 : decode cX0_init 5 = .ok (.bipush 8, 2) := by decide +kernel
theorem dX0_init_7 : decode cX0_init 7 = .ok (.newarray .int, 2) := by decide +kernel
theorem dX0_init_9 : decode cX0_init 9 = .ok (.putfield 9, 3) := by decide +kernel
theorem dX0_init_12 : decode cX0_init 12 = .ok (.aload_n 0, 1) := by decide +kernel
theorem dX0_init_13 : decode cX0_init 13 = .ok (.bipush 8, 2) := by decide +kernel
theorem dX0_init_15 : decode cX0_init 15 = .ok (.newarray .int, 2) := by decide +kernel
theorem dX0_init_17 : decode cX0_init 17 = .ok (.putfield 13, 3) := by decide +kernel
theorem dX0_init_20 : decode cX0_init 20 = .ok (.aload_n 0, 1) := by decide +kernel
theorem dX0_init_21 : decode cX0_init 21 = .ok (.bipush 8, 2) := by decide +kernel
theorem dX0_init_23 : decode cX0_init 23 = .ok (.newarray .boolean, 2) := by decide +kernel
theorem dX0_init_25 : decode cX0_init 25 = .ok (.putfield 16, 3) := by decide +kernel
theorem dX0_init_28 : decode cX0_init 28 = .ok (.aload_n 0, 1) := by decide +kernel
theorem dX0_init_29 : decode cX0_init 29 = .ok (.bipush 8, 2) := by decide +kernel
theorem dX0_init_31 : decode cX0_init 31 = .ok (.bipush 8, 2) := by decide +kernel
theorem dX0_init_33 : decode cX0_init 33 = .ok (.multianewarray 20 2, 4) := by decide +kernel
theorem dX0_init_37 : decode cX0_init 37 = .ok (.putfield 22, 3) := by decide +kernel
theorem dX0_init_40 : decode cX0_init 40 = .ok (.aload_n 0, 1) := by decide +kernel
theorem dX0_init_41 : decode cX0_init 41 = .ok (.bipush 8, 2) := by decide +kernel
theorem dX0_init_43 : decode cX0_init 43 = .ok (.bipush 8, 2) := by decide +kernel
theorem dX0_init_45 : decode cX0_init 45 = .ok (.multianewarray 20 2, 4) := by decide +kernel
theorem dX0_init_49 : decode cX0_init 49 = .ok (.putfield 25, 3) := by decide +kernel
theorem dX0_init_52 : decode cX0_init 52 = .ok (.aload_n 0, 1) := by decide +kernel
theorem dX0_init_53 : decode cX0_init 53 = .ok (.iconst 3, 1) := by decide +kernel
theorem dX0_init_54 : decode cX0_init 54 = .ok (.putfield 28, 3) := by decide +kernel
theorem dX0_init_57 : decode cX0_init 57 = .ok (.aload_n 0, 1) := by decide +kernel
theorem dX0_init_58 : decode cX0_init 58 = .ok (.bipush 8, 2) := by decide +kernel
theorem dX0_init_60 : decode cX0_init 60 = .ok (.bipush 8, 2) := by decide +kernel
theorem dX0_init_62 : decode cX0_init 62 = .ok (.multianewarray 20 2, 4) := by decide +kernel
theorem dX0_init_66 : decode cX0_init 66 = .ok (.putfield 32, 3) := by decide +kernel
theorem dX0_init_69 : decode cX0_init 69 = .ok (.aload_n 0, 1) := by decide +kernel
theorem dX0_init_70 : decode cX0_init 70 = .ok (.bipush 8, 2) := by decide +kernel
theorem dX0_init_72 : decode cX0_init 72 = .ok (.newarray .long, 2) := by decide +kernel
theorem dX0_init_74 : decode cX0_init 74 = .ok (.putfield 35, 3) := by decide +kernel
theorem dX0_init_77 : decode cX0_init 77 = .ok (.aload_n 0, 1) := by decide +kernel
theorem dX0_init_78 : decode cX0_init 78 = .ok (.bipush 8, 2) := by decide +kernel
theorem dX0_init_80 : decode cX0_init 80 = .ok (.newarray .int, 2) := by decide +kernel
theorem dX0_init_82 : decode cX0_init 82 = .ok (.putfield 39, 3) := by decide +kernel
theorem dX0_init_85 : decode cX0_init 85 = .ok (.iconst 0, 1) := by decide +kernel
theorem dX0_init_86 : decode cX0_init 86 = .ok (.istore_n 1, 1) := by decide +kernel
theorem dX0_init_87 : decode cX0_init 87 = .ok (.iload_n 1, 1) := by decide +kernel
theorem dX0_init_88 : decode cX0_init 88 = .ok (.bipush 8, 2) := by decide +kernel
theorem dX0_init_90 : decode cX0_init 90 = .ok (.if_icmp .ge 78, 3) := by decide +kernel
theorem dX0_init_93 : decode cX0_init 93 = .ok (.aload_n 0, 1) := by decide +kernel
theorem dX0_init_94 : decode cX0_init 94 = .ok (.getfield 9, 3) := by decide +kernel
theorem dX0_init_97 : decode cX0_init 97 = .ok (.iload_n 1, 1) := by decide +kernel
theorem dX0_init_98 : decode cX0_init 98 = .ok (.iload_n 1, 1) := by decide +kernel
theorem dX0_init_99 : decode cX0_init 99 = .ok (.iconst 2, 1) := by decide +kernel
theorem dX0_init_100 : decode cX0_init 100 = .ok (.irem, 1) := by decide +kernel
theorem dX0_init_101 : decode cX0_init 101 = .ok (.ifCond .ne 7, 3) := by decide +kernel
theorem dX0_init_104 : decode cX0_init 104 = .ok (.iconst 0, 1) := by decide +kernel
theorem dX0_init_105 : decode cX0_init 105 = .ok (.goto 4, 3) := by decide +kernel
theorem dX0_init_108 : decode cX0_init 108 = .ok (.iconst 1, 1) := by decide +kernel
theorem dX0_init_109 : decode cX0_init 109 = .ok (.iastore, 1) := by decide +kernel
theorem dX0_init_110 : decode cX0_init 110 = .ok (.aload_n 0, 1) := by decide +kernel
theorem dX0_init_111 : decode cX0_init 111 = .ok (.getfield 13, 3) := by decide +kernel
theorem dX0_init_114 : decode cX0_init 114 = .ok (.iload_n 1, 1) := by decide +kernel
theorem dX0_init_115 : decode cX0_init 115 = .ok (.sipush 256, 3) := by decide +kernel
theorem dX0_init_118 : decode cX0_init 118 = .ok (.iastore, 1) := by decide +kernel
theorem dX0_init_119 : decode cX0_init 119 = .ok (.aload_n 0, 1) := by decide +kernel
theorem dX0_init_120 : decode cX0_init 120 = .ok (.getfield 9, 3) := by decide +kernel
theorem dX0_init_123 : decode cX0_init 123 = .ok (.iload_n 1, 1) := by decide +kernel
theorem dX0_init_124 : decode cX0_init 124 = .ok (.iaload, 1) := by decide +kernel
theorem dX0_init_125 : decode cX0_init 125 = .ok (.iconst 0, 1) := by decide +kernel
theorem dX0_init_126 : decode cX0_init 126 = .ok (.invokestatic 42, 3) := by decide +kernel
theorem dX0_init_129 : decode cX0_init 129 = .ok (.istore_n 2, 1) := by decide +kernel
theorem dX0_init_130 : decode cX0_init 130 = .ok (.iconst 0, 1) := by decide +kernel
theorem dX0_init_131 : decode cX0_init 131 = .ok (.istore_n 3, 1) := by decide +kernel
theorem dX0_init_132 : decode cX0_init 132 = .ok (.iload_n 3, 1) := by decide +kernel
theorem dX0_init_133 : decode cX0_init 133 = .ok (.bipush 8, 2) := by decide +kernel
theorem dX0_init_135 : decode cX0_init 135 = .ok (.if_icmp .ge 27, 3) := by decide +kernel
theorem dX0_init_138 : decode cX0_init 138 = .ok (.aload_n 0, 1) := by decide +kernel
theorem dX0_init_139 : decode cX0_init 139 = .ok (.getfield 22, 3) := by decide +kernel
theorem dX0_init_142 : decode cX0_init 142 = .ok (.iload_n 1, 1) := by decide +kernel
theorem dX0_init_143 : decode cX0_init 143 = .ok (.aaload, 1) := by decide +kernel
theorem dX0_init_144 : decode cX0_init 144 = .ok (.iload_n 3, 1) := by decide +kernel
theorem dX0_init_145 : decode cX0_init 145 = .ok (.iload_n 2, 1) := by decide +kernel
theorem dX0_init_146 : decode cX0_init 146 = .ok (.iastore, 1) := by decide +kernel
theorem dX0_init_147 : decode cX0_init 147 = .ok (.aload_n 0, 1) := by decide +kernel
theorem dX0_init_148 : decode cX0_init 148 = .ok (.getfield 25, 3) := by decide +kernel
theorem dX0_init_151 : decode cX0_init 151 = .ok (.iload_n 1, 1) := by decide +kernel
theorem dX0_init_152 : decode cX0_init 152 = .ok (.aaload, 1) := by decide +kernel
theorem dX0_init_153 : decode cX0_init 153 = .ok (.iload_n 3, 1) := by decide +kernel
theorem dX0_init_154 : decode cX0_init 154 = .ok (.iload_n 2, 1) := by decide +kernel
theorem dX0_init_155 : decode cX0_init 155 = .ok (.iastore, 1) := by decide +kernel
theorem dX0_init_156 : decode cX0_init 156 = .ok (.iinc 3 1, 3) := by decide +kernel
theorem dX0_init_159 : decode cX0_init 159 = .ok (.goto (-27), 3) := by decide +kernel
theorem dX0_init_162 : decode cX0_init 162 = .ok (.iinc 1 1, 3) := by decide +kernel
theorem dX0_init_165 : decode cX0_init 165 = .ok (.goto (-78), 3) := by decide +kernel
theorem dX0_init_168 : decode cX0_init 168 = .ok (.return_, 1) := by decide +kernel
set_option maxRecDepth 20000 in
theorem ggX0_decode_X0_isLaw : GoodIn wsX0_decode wsX0_isLaw := goodIn_r _ [6] (by decide +kernel) (by decide +kernel)
set_option maxRecDepth 20000 in
theorem gX0_decode_X0_isLaw : GoodIn wsX0_decode (va_wsS RX0 46 yX0_isLaw wsX0_isLaw) := goodIn_app (goodIn_of _ (by decide +kernel)) ggX0_decode_X0_isLaw
set_option maxRecDepth 20000 in
theorem ggX0_decode_X0_sampleOf : GoodIn wsX0_decode wsX0_sampleOf := goodIn_r _ [9, 10, 11, 5, 12, 13, 14, 15, 16, 17, 18, 19, 20, 21] (by decide +kernel) (by decide +kernel)
set_option maxRecDepth 20000 in
theorem gX0_decode_X0_sampleOf : GoodIn wsX0_decode (va_wsS RX0 53 yX0_sampleOf wsX0_sampleOf) := goodIn_app (goodIn_of _ (by decide +kernel)) ggX0_decode_X0_sampleOf
theorem dX0_decode_0 : decode cX0_decode 0 = .ok (.iload_n 1, 1) := by decide +kernel
theorem dX0_decode_1 : decode cX0_decode 1 = .ok (.invokestatic 46, 3) := by decide +kernel
theorem dX0_decode_4 : decode cX0_decode 4 = .ok (.ifCond .ne 11, 3) := by decide +kernel
theorem dX0_decode_7 : decode cX0_decode 7 = .ok (.new 50, 3) := by decide +kernel
theorem dX0_decode_10 : decode cX0_decode 10 = .ok (.dup, 1) := by decide +kernel
theorem dX0_decode_11 : decode cX0_decode 11 = .ok (.invokespecial 52, 3) := by decide +kernel
theorem dX0_decode_14 : decode cX0_decode 14 = .ok (.athrow, 1) := by decide +kernel
theorem dX0_decode_15 : decode cX0_decode 15 = .ok (.iload_n 1, 1) := by decide +kernel
theorem dX0_decode_16 : decode cX0_decode 16 = .ok (.iload_n 2, 1) := by decide +kernel
theorem dX0_decode_17 : decode cX0_decode 17 = .ok (.sipush 255, 3) := by decide +kernel
theorem dX0_decode_20 : decode cX0_decode 20 = .ok (.iand, 1) := by decide +kernel
theorem dX0_decode_21 : decode cX0_decode 21 = .ok (.invokestatic 53, 3) := by decide +kernel
theorem dX0_decode_24 : decode cX0_decode 24 = .ok (.ireturn, 1) := by decide +kernel
set_option maxRecDepth 20000 in
theorem ggX0_encode_X0_isLaw : GoodIn wsX0_encode wsX0_isLaw := goodIn_r _ [4] (by decide +kernel) (by decide +kernel)
set_option maxRecDepth 20000 in
theorem gX0_encode_X0_isLaw : GoodIn wsX0_encode (va_wsS RX0 46 yX0_isLaw wsX0_isLaw) := goodIn_app (goodIn_of _ (by decide +kernel)) ggX0_encode_X0_isLaw
set_option maxRecDepth 20000 in
theorem ggX0_encode_X0_saturated : GoodIn wsX0_encode wsX0_saturated := goodIn_r _ [7, 8, 9, 10, 11, 12, 13, 14, 15, 16] (by decide +kernel) (by decide +kernel)
set_option maxRecDepth 20000 in
theorem gX0_encode_X0_saturated : GoodIn wsX0_encode (va_wsS RX0 56 yX0_saturated wsX0_saturated) := goodIn_app (goodIn_of _ (by decide +kernel)) ggX0_encode_X0_saturated
set_option maxRecDepth 20000 in
theorem ggX0_encode_X0_codeOf : GoodIn wsX0_encode wsX0_codeOf := goodIn_r _ [19, 20, 21, 3, 22, 23, 24, 25, 26, 27, 28, 29, 30, 31, 32, 33, 34, 35, 12, 36, 37, 38, 39] (by decide +kernel) (by decide +kernel)
set_option maxRecDepth 20000 in
theorem gX0_encode_X0_codeOf : GoodIn wsX0_encode (va_wsS RX0 42 yX0_codeOf wsX0_codeOf) := goodIn_app (goodIn_of _ (by decide +kernel)) ggX0_encode_X0_codeOf
theorem dX0_encode_0 : decode cX0_encode 0 = .ok (.iload_n 1, 1) := by decide +kernel
theorem dX0_encode_1 : decode cX0_encode 1 = .ok (.invokestatic 46, 3) := by decide +kernel
theorem dX0_encode_4 : decode cX0_encode 4 = .ok (.ifCond .eq 15, 3) := by decide +kernel
theorem dX0_encode_7 : decode cX0_encode 7 = .ok (.iload_n 1, 1) := by decide +kernel
theorem dX0_encode_8 : decode cX0_encode 8 = .ok (.iload_n 2, 1) := by decide +kernel
theorem dX0_encode_9 : decode cX0_encode 9 = .ok (.i2l, 1) := by decide +kernel
theorem dX0_encode_10 : decode cX0_encode 10 = .ok (.invokestatic 56, 3) := by decide +kernel
theorem dX0_encode_13 : decode cX0_encode 13 = .ok (.invokestatic 42, 3) := by decide +kernel
theorem dX0_encode_16 : decode cX0_encode 16 = .ok (.goto 4, 3) := by decide +kernel
theorem dX0_encode_19 : decode cX0_encode 19 = .ok (.iconst (-1), 1) := by decide +kernel
theorem dX0_encode_20 : decode cX0_encode 20 = .ok (.ireturn, 1) := by decide +kernel
set_option maxRecDepth 20000 in
theorem ggX0_law_X0_isParty : GoodIn wsX0_law wsX0_isParty := goodIn_r _ [5] (by decide +kernel) (by decide +kernel)
set_option maxRecDepth 20000 in
theorem gX0_law_X0_isParty : GoodIn wsX0_law (va_wsS RX0 60 yX0_isParty wsX0_isParty) := goodIn_app (goodIn_of _ (by decide +kernel)) ggX0_law_X0_isParty
set_option maxRecDepth 20000 in
theorem ggX0_law_X0_isLaw : GoodIn wsX0_law wsX0_isLaw := goodIn_r _ [8] (by decide +kernel) (by decide +kernel)
set_option maxRecDepth 20000 in
theorem gX0_law_X0_isLaw : GoodIn wsX0_law (va_wsS RX0 46 yX0_isLaw wsX0_isLaw) := goodIn_app (goodIn_of _ (by decide +kernel)) ggX0_law_X0_isLaw
theorem dX0_law_0 : decode cX0_law 0 = .ok (.iload_n 1, 1) := by decide +kernel
theorem dX0_law_1 : decode cX0_law 1 = .ok (.invokestatic 60, 3) := by decide +kernel
theorem dX0_law_4 : decode cX0_law 4 = .ok (.ifCond .eq 10, 3) := by decide +kernel
theorem dX0_law_7 : decode cX0_law 7 = .ok (.iload_n 2, 1) := by decide +kernel
theorem dX0_law_8 : decode cX0_law 8 = .ok (.invokestatic 46, 3) := by decide +kernel
theorem dX0_law_11 : decode cX0_law 11 = .ok (.ifCond .ne 5, 3) := by decide +kernel
theorem dX0_law_14 : decode cX0_law 14 = .ok (.iconst 0, 1) := by decide +kernel
theorem dX0_law_15 : decode cX0_law 15 = .ok (.ireturn, 1) := by decide +kernel
theorem dX0_law_16 : decode cX0_law 16 = .ok (.aload_n 0, 1) := by decide +kernel
theorem dX0_law_17 : decode cX0_law 17 = .ok (.getfield 9, 3) := by decide +kernel
theorem dX0_law_20 : decode cX0_law 20 = .ok (.iload_n 1, 1) := by decide +kernel
theorem dX0_law_21 : decode cX0_law 21 = .ok (.iload_n 2, 1) := by decide +kernel
theorem dX0_law_22 : decode cX0_law 22 = .ok (.iastore, 1) := by decide +kernel
theorem dX0_law_23 : decode cX0_law 23 = .ok (.iconst 1, 1) := by decide +kernel
theorem dX0_law_24 : decode cX0_law 24 = .ok (.ireturn, 1) := by decide +kernel
set_option maxRecDepth 20000 in
theorem ggX0_gain_X0_isParty : GoodIn wsX0_gain wsX0_isParty := goodIn_r _ [5] (by decide +kernel) (by decide +kernel)
set_option maxRecDepth 20000 in
theorem gX0_gain_X0_isParty : GoodIn wsX0_gain (va_wsS RX0 60 yX0_isParty wsX0_isParty) := goodIn_app (goodIn_of _ (by decide +kernel)) ggX0_gain_X0_isParty
theorem dX0_gain_0 : decode cX0_gain 0 = .ok (.iload_n 1, 1) := by decide +kernel
theorem dX0_gain_1 : decode cX0_gain 1 = .ok (.invokestatic 60, 3) := by decide +kernel
theorem dX0_gain_4 : decode cX0_gain 4 = .ok (.ifCond .eq 14, 3) := by decide +kernel
theorem dX0_gain_7 : decode cX0_gain 7 = .ok (.iload_n 2, 1) := by decide +kernel
theorem dX0_gain_8 : decode cX0_gain 8 = .ok (.ifCond .lt 10, 3) := by decide +kernel
theorem dX0_gain_11 : decode cX0_gain 11 = .ok (.iload_n 2, 1) := by decide +kernel
theorem dX0_gain_12 : decode cX0_gain 12 = .ok (.sipush 1024, 3) := by decide +kernel
theorem dX0_gain_15 : decode cX0_gain 15 = .ok (.if_icmp .le 5, 3) := by decide +kernel
theorem dX0_gain_18 : decode cX0_gain 18 = .ok (.iconst 0, 1) := by decide +kernel
theorem dX0_gain_19 : decode cX0_gain 19 = .ok (.ireturn, 1) := by decide +kernel
theorem dX0_gain_20 : decode cX0_gain 20 = .ok (.aload_n 0, 1) := by decide +kernel
theorem dX0_gain_21 : decode cX0_gain 21 = .ok (.getfield 13, 3) := by decide +kernel
theorem dX0_gain_24 : decode cX0_gain 24 = .ok (.iload_n 1, 1) := by decide +kernel
theorem dX0_gain_25 : decode cX0_gain 25 = .ok (.iload_n 2, 1) := by decide +kernel
theorem dX0_gain_26 : decode cX0_gain 26 = .ok (.iastore, 1) := by decide +kernel
theorem dX0_gain_27 : decode cX0_gain 27 = .ok (.iconst 1, 1) := by decide +kernel
theorem dX0_gain_28 : decode cX0_gain 28 = .ok (.ireturn, 1) := by decide +kernel
set_option maxRecDepth 20000 in
theorem ggX0_mute_X0_isParty : GoodIn wsX0_mute wsX0_isParty := goodIn_r _ [5] (by decide +kernel) (by decide +kernel)
set_option maxRecDepth 20000 in
theorem gX0_mute_X0_isParty : GoodIn wsX0_mute (va_wsS RX0 60 yX0_isParty wsX0_isParty) := goodIn_app (goodIn_of _ (by decide +kernel)) ggX0_mute_X0_isParty
theorem dX0_mute_0 : decode cX0_mute 0 = .ok (.iload_n 1, 1) := by decide +kernel
theorem dX0_mute_1 : decode cX0_mute 1 = .ok (.invokestatic 60, 3) := by decide +kernel
theorem dX0_mute_4 : decode cX0_mute 4 = .ok (.ifCond .ne 5, 3) := by decide +kernel
theorem dX0_mute_7 : decode cX0_mute 7 = .ok (.iconst 0, 1) := by decide +kernel
theorem dX0_mute_8 : decode cX0_mute 8 = .ok (.ireturn, 1) := by decide +kernel
theorem dX0_mute_9 : decode cX0_mute 9 = .ok (.aload_n 0, 1) := by decide +kernel
theorem dX0_mute_10 : decode cX0_mute 10 = .ok (.getfield 16, 3) := by decide +kernel
theorem dX0_mute_13 : decode cX0_mute 13 = .ok (.iload_n 1, 1) := by decide +kernel
theorem dX0_mute_14 : decode cX0_mute 14 = .ok (.iload_n 2, 1) := by decide +kernel
theorem dX0_mute_15 : decode cX0_mute 15 = .ok (.bastore, 1) := by decide +kernel
theorem dX0_mute_16 : decode cX0_mute 16 = .ok (.iconst 1, 1) := by decide +kernel
theorem dX0_mute_17 : decode cX0_mute 17 = .ok (.ireturn, 1) := by decide +kernel
theorem dX0_speakers_0 : decode cX0_speakers 0 = .ok (.iload_n 1, 1) := by decide +kernel
theorem dX0_speakers_1 : decode cX0_speakers 1 = .ok (.iconst 1, 1) := by decide +kernel
theorem dX0_speakers_2 : decode cX0_speakers 2 = .ok (.if_icmp .lt 9, 3) := by decide +kernel
theorem dX0_speakers_5 : decode cX0_speakers 5 = .ok (.iload_n 1, 1) := by decide +kernel
theorem dX0_speakers_6 : decode cX0_speakers 6 = .ok (.bipush 8, 2) := by decide +kernel
theorem dX0_speakers_8 : decode cX0_speakers 8 = .ok (.if_icmp .le 5, 3) := by decide +kernel
theorem dX0_speakers_11 : decode cX0_speakers 11 = .ok (.iconst 0, 1) := by decide +kernel
theorem dX0_speakers_12 : decode cX0_speakers 12 = .ok (.ireturn, 1) := by decide +kernel
theorem dX0_speakers_13 : decode cX0_speakers 13 = .ok (.aload_n 0, 1) := by decide +kernel
theorem dX0_speakers_14 : decode cX0_speakers 14 = .ok (.iload_n 1, 1) := by decide +kernel
theorem dX0_speakers_15 : decode cX0_speakers 15 = .ok (.putfield 28, 3) := by decide +kernel
theorem dX0_speakers_18 : decode cX0_speakers 18 = .ok (.iconst 1, 1) := by decide +kernel
theorem dX0_speakers_19 : decode cX0_speakers 19 = .ok (.ireturn, 1) := by decide +kernel
set_option maxRecDepth 20000 in
theorem ggX0_put_X0_isParty : GoodIn wsX0_put wsX0_isParty := goodIn_r _ [5] (by decide +kernel) (by decide +kernel)
set_option maxRecDepth 20000 in
theorem gX0_put_X0_isParty : GoodIn wsX0_put (va_wsS RX0 60 yX0_isParty wsX0_isParty) := goodIn_app (goodIn_of _ (by decide +kernel)) ggX0_put_X0_isParty
set_option maxRecDepth 20000 in
theorem ggX0_put_X0_isPlace : GoodIn wsX0_put wsX0_isPlace := goodIn_r _ [8] (by decide +kernel) (by decide +kernel)
set_option maxRecDepth 20000 in
theorem gX0_put_X0_isPlace : GoodIn wsX0_put (va_wsS RX0 63 yX0_isPlace wsX0_isPlace) := goodIn_app (goodIn_of _ (by decide +kernel)) ggX0_put_X0_isPlace
theorem dX0_put_0 : decode cX0_put 0 = .ok (.iload_n 1, 1) := by decide +kernel
theorem dX0_put_1 : decode cX0_put 1 = .ok (.invokestatic 60, 3) := by decide +kernel
theorem dX0_put_4 : decode cX0_put 4 = .ok (.ifCond .eq 10, 3) := by decide +kernel
theorem dX0_put_7 : decode cX0_put 7 = .ok (.iload_n 2, 1) := by decide +kernel
theorem dX0_put_8 : decode cX0_put 8 = .ok (.invokestatic 63, 3) := by decide +kernel
theorem dX0_put_11 : decode cX0_put 11 = .ok (.ifCond .ne 5, 3) := by decide +kernel
theorem dX0_put_14 : decode cX0_put 14 = .ok (.iconst 0, 1) := by decide +kernel
theorem dX0_put_15 : decode cX0_put 15 = .ok (.ireturn, 1) := by decide +kernel
theorem dX0_put_16 : decode cX0_put 16 = .ok (.aload_n 0, 1) := by decide +kernel
theorem dX0_put_17 : decode cX0_put 17 = .ok (.getfield 22, 3) := by decide +kernel
theorem dX0_put_20 : decode cX0_put 20 = .ok (.iload_n 1, 1) := by decide +kernel
theorem dX0_put_21 : decode cX0_put 21 = .ok (.aaload, 1) := by decide +kernel
theorem dX0_put_22 : decode cX0_put 22 = .ok (.iload_n 2, 1) := by decide +kernel
theorem dX0_put_23 : decode cX0_put 23 = .ok (.iload_n 3, 1) := by decide +kernel
theorem dX0_put_24 : decode cX0_put 24 = .ok (.sipush 255, 3) := by decide +kernel
theorem dX0_put_27 : decode cX0_put 27 = .ok (.iand, 1) := by decide +kernel
theorem dX0_put_28 : decode cX0_put 28 = .ok (.iastore, 1) := by decide +kernel
theorem dX0_put_29 : decode cX0_put 29 = .ok (.iconst 1, 1) := by decide +kernel
theorem dX0_put_30 : decode cX0_put 30 = .ok (.ireturn, 1) := by decide +kernel
set_option maxRecDepth 20000 in
theorem ggX0_ramp_X0_isParty : GoodIn wsX0_ramp wsX0_isParty := goodIn_r _ [6] (by decide +kernel) (by decide +kernel)
set_option maxRecDepth 20000 in
theorem gX0_ramp_X0_isParty : GoodIn wsX0_ramp (va_wsS RX0 60 yX0_isParty wsX0_isParty) := goodIn_app (goodIn_of _ (by decide +kernel)) ggX0_ramp_X0_isParty
set_option maxRecDepth 20000 in
theorem ggX0_ramp_X0_saturated : GoodIn wsX0_ramp wsX0_saturated := goodIn_r _ [9, 10, 11, 12, 13, 14, 15, 16, 17, 18] (by decide +kernel) (by decide +kernel)
set_option maxRecDepth 20000 in
theorem gX0_ramp_X0_saturated : GoodIn wsX0_ramp (va_wsS RX0 56 yX0_saturated wsX0_saturated) := goodIn_app (goodIn_of _ (by decide +kernel)) ggX0_ramp_X0_saturated
set_option maxRecDepth 20000 in
theorem ggX0_ramp_X0_codeOf : GoodIn wsX0_ramp wsX0_codeOf := goodIn_r _ [21, 22, 23, 5, 24, 25, 26, 27, 28, 29, 30, 31, 32, 33, 34, 35, 36, 37, 14, 38, 39, 40, 41] (by decide +kernel) (by decide +kernel)
set_option maxRecDepth 20000 in
theorem gX0_ramp_X0_codeOf : GoodIn wsX0_ramp (va_wsS RX0 42 yX0_codeOf wsX0_codeOf) := goodIn_app (goodIn_of _ (by decide +kernel)) ggX0_ramp_X0_codeOf
theorem dX0_ramp_0 : decode cX0_ramp 0 = .ok (.iload_n 1, 1) := by decide +kernel
theorem dX0_ramp_1 : decode cX0_ramp 1 = .ok (.invokestatic 60, 3) := by decide +kernel
theorem dX0_ramp_4 : decode cX0_ramp 4 = .ok (.ifCond .ne 5, 3) := by decide +kernel
theorem dX0_ramp_7 : decode cX0_ramp 7 = .ok (.iconst 0, 1) := by decide +kernel
theorem dX0_ramp_8 : decode cX0_ramp 8 = .ok (.ireturn, 1) := by decide +kernel
theorem dX0_ramp_9 : decode cX0_ramp 9 = .ok (.iconst 0, 1) := by decide +kernel
theorem dX0_ramp_10 : decode cX0_ramp 10 = .ok (.istore 4, 2) := by decide +kernel
theorem dX0_ramp_12 : decode cX0_ramp 12 = .ok (.iload 4, 2) := by decide +kernel
theorem dX0_ramp_14 : decode cX0_ramp 14 = .ok (.bipush 8, 2) := by decide +kernel
theorem dX0_ramp_16 : decode cX0_ramp 16 = .ok (.if_icmp .ge 43, 3) := by decide +kernel
theorem dX0_ramp_19 : decode cX0_ramp 19 = .ok (.iload_n 2, 1) := by decide +kernel
theorem dX0_ramp_20 : decode cX0_ramp 20 = .ok (.i2l, 1) := by decide +kernel
theorem dX0_ramp_21 : decode cX0_ramp 21 = .ok (.iload 4, 2) := by decide +kernel
theorem dX0_ramp_23 : decode cX0_ramp 23 = .ok (.i2l, 1) := by decide +kernel
theorem dX0_ramp_24 : decode cX0_ramp 24 = .ok (.iload_n 3, 1) := by decide +kernel
theorem dX0_ramp_25 : decode cX0_ramp 25 = .ok (.i2l, 1) := by decide +kernel
theorem dX0_ramp_26 : decode cX0_ramp 26 = .ok (.lmul, 1) := by decide +kernel
theorem dX0_ramp_27 : decode cX0_ramp 27 = .ok (.ladd, 1) := by decide +kernel
theorem dX0_ramp_28 : decode cX0_ramp 28 = .ok (.lstore 5, 2) := by decide +kernel
theorem dX0_ramp_30 : decode cX0_ramp 30 = .ok (.aload_n 0, 1) := by decide +kernel
theorem dX0_ramp_31 : decode cX0_ramp 31 = .ok (.getfield 22, 3) := by decide +kernel
theorem dX0_ramp_34 : decode cX0_ramp 34 = .ok (.iload_n 1, 1) := by decide +kernel
theorem dX0_ramp_35 : decode cX0_ramp 35 = .ok (.aaload, 1) := by decide +kernel
theorem dX0_ramp_36 : decode cX0_ramp 36 = .ok (.iload 4, 2) := by decide +kernel
theorem dX0_ramp_38 : decode cX0_ramp 38 = .ok (.aload_n 0, 1) := by decide +kernel
theorem dX0_ramp_39 : decode cX0_ramp 39 = .ok (.getfield 9, 3) := by decide +kernel
theorem dX0_ramp_42 : decode cX0_ramp 42 = .ok (.iload_n 1, 1) := by decide +kernel
theorem dX0_ramp_43 : decode cX0_ramp 43 = .ok (.iaload, 1) := by decide +kernel
theorem dX0_ramp_44 : decode cX0_ramp 44 = .ok (.lload 5, 2) := by decide +kernel
theorem dX0_ramp_46 : decode cX0_ramp 46 = .ok (.invokestatic 56, 3) := by decide +kernel
theorem dX0_ramp_49 : decode cX0_ramp 49 = .ok (.invokestatic 42, 3) := by decide +kernel
theorem dX0_ramp_52 : decode cX0_ramp 52 = .ok (.iastore, 1) := by decide +kernel
theorem dX0_ramp_53 : decode cX0_ramp 53 = .ok (.iinc 4 1, 3) := by decide +kernel
theorem dX0_ramp_56 : decode cX0_ramp 56 = .ok (.goto (-44), 3) := by decide +kernel
theorem dX0_ramp_59 : decode cX0_ramp 59 = .ok (.iconst 1, 1) := by decide +kernel
theorem dX0_ramp_60 : decode cX0_ramp 60 = .ok (.ireturn, 1) := by decide +kernel
set_option maxRecDepth 20000 in
theorem ggX0_mix_X0_hear : GoodIn wsX0_mix wsX0_hear := goodIn_r _ [5, 6, 7, 8, 9, 10, 11, 12, 4, 13, 14, 15, 16, 17, 18, 19, 20, 21, 22, 23, 24, 25, 26, 27, 28, 29, 30, 31, 32, 33, 34, 35, 36, 37, 38, 39, 40, 41, 88, 89, 90, 91, 92, 93, 94, 95, 96] (by decide +kernel) (by decide +kernel)
set_option maxRecDepth 20000 in
theorem gX0_mix_X0_hear : GoodIn wsX0_mix (wsV RX0 66 RX0 yX0_hear wsX0_hear) := goodIn_app (goodIn_of _ (by decide +kernel)) ggX0_mix_X0_hear
set_option maxRecDepth 20000 in
theorem ggX0_mix_X0_chooseSpeakers : GoodIn wsX0_mix wsX0_chooseSpeakers := goodIn_r _ [45, 46, 47, 48, 49, 4, 50, 51, 10, 52, 53, 54, 88, 89, 90, 91, 92, 93, 94, 95, 96] (by decide +kernel) (by decide +kernel)
set_option maxRecDepth 20000 in
theorem gX0_mix_X0_chooseSpeakers : GoodIn wsX0_mix (wsV RX0 70 RX0 yX0_chooseSpeakers wsX0_chooseSpeakers) := goodIn_app (goodIn_of _ (by decide +kernel)) ggX0_mix_X0_chooseSpeakers
set_option maxRecDepth 20000 in
theorem ggX0_mix_X0_sumUp : GoodIn wsX0_mix wsX0_sumUp := goodIn_r _ [58, 9, 59, 52, 53, 4, 54, 88, 89, 90, 91, 92, 93, 94, 95, 96] (by decide +kernel) (by decide +kernel)
set_option maxRecDepth 20000 in
theorem gX0_mix_X0_sumUp : GoodIn wsX0_mix (wsV RX0 74 RX0 yX0_sumUp wsX0_sumUp) := goodIn_app (goodIn_of _ (by decide +kernel)) ggX0_mix_X0_sumUp
set_option maxRecDepth 20000 in
theorem ggX0_mix_X0_speaks : GoodIn wsX0_mix wsX0_speaks := goodIn_r _ [54] (by decide +kernel) (by decide +kernel)
set_option maxRecDepth 20000 in
theorem gX0_mix_X0_speaks : GoodIn wsX0_mix (va_wsS RX0 77 yX0_speaks wsX0_speaks) := goodIn_app (goodIn_of _ (by decide +kernel)) ggX0_mix_X0_speaks
set_option maxRecDepth 20000 in
theorem ggX0_mix_X0_answer : GoodIn wsX0_mix wsX0_answer := goodIn_r _ [63, 59, 9, 64, 6, 30, 31, 4, 32, 33, 34, 35, 36, 37, 38, 39, 40, 41, 65, 66, 67, 68, 69, 70, 71, 72, 73, 74, 75, 76, 77, 78, 79, 80, 81, 82, 83, 84, 85, 86, 87, 88, 89, 90, 91, 92, 93, 94, 95, 96] (by decide +kernel) (by decide +kernel)
set_option maxRecDepth 20000 in
theorem gX0_mix_X0_answer : GoodIn wsX0_mix (wsV RX0 81 RX0 yX0_answer wsX0_answer) := goodIn_app (goodIn_of _ (by decide +kernel)) ggX0_mix_X0_answer
theorem dX0_mix_0 : decode cX0_mix 0 = .ok (.iconst 0, 1) := by decide +kernel
theorem dX0_mix_1 : decode cX0_mix 1 = .ok (.istore_n 1, 1) := by decide +kernel
theorem dX0_mix_2 : decode cX0_mix 2 = .ok (.iload_n 1, 1) := by decide +kernel
theorem dX0_mix_3 : decode cX0_mix 3 = .ok (.bipush 8, 2) := by decide +kernel
theorem dX0_mix_5 : decode cX0_mix 5 = .ok (.if_icmp .ge 14, 3) := by decide +kernel
theorem dX0_mix_8 : decode cX0_mix 8 = .ok (.aload_n 0, 1) := by decide +kernel
theorem dX0_mix_9 : decode cX0_mix 9 = .ok (.iload_n 1, 1) := by decide +kernel
theorem dX0_mix_10 : decode cX0_mix 10 = .ok (.invokevirtual 66, 3) := by decide +kernel
theorem dX0_mix_13 : decode cX0_mix 13 = .ok (.iinc 1 1, 3) := by decide +kernel
theorem dX0_mix_16 : decode cX0_mix 16 = .ok (.goto (-14), 3) := by decide +kernel
theorem dX0_mix_19 : decode cX0_mix 19 = .ok (.aload_n 0, 1) := by decide +kernel
theorem dX0_mix_20 : decode cX0_mix 20 = .ok (.invokevirtual 70, 3) := by decide +kernel
theorem dX0_mix_23 : decode cX0_mix 23 = .ok (.istore_n 1, 1) := by decide +kernel
theorem dX0_mix_24 : decode cX0_mix 24 = .ok (.aload_n 0, 1) := by decide +kernel
theorem dX0_mix_25 : decode cX0_mix 25 = .ok (.iload_n 1, 1) := by decide +kernel
theorem dX0_mix_26 : decode cX0_mix 26 = .ok (.invokevirtual 74, 3) := by decide +kernel
theorem dX0_mix_29 : decode cX0_mix 29 = .ok (.iconst 0, 1) := by decide +kernel
theorem dX0_mix_30 : decode cX0_mix 30 = .ok (.istore_n 2, 1) := by decide +kernel
theorem dX0_mix_31 : decode cX0_mix 31 = .ok (.iload_n 2, 1) := by decide +kernel
theorem dX0_mix_32 : decode cX0_mix 32 = .ok (.bipush 8, 2) := by decide +kernel
theorem dX0_mix_34 : decode cX0_mix 34 = .ok (.if_icmp .ge 19, 3) := by decide +kernel
theorem dX0_mix_37 : decode cX0_mix 37 = .ok (.aload_n 0, 1) := by decide +kernel
theorem dX0_mix_38 : decode cX0_mix 38 = .ok (.iload_n 2, 1) := by decide +kernel
theorem dX0_mix_39 : decode cX0_mix 39 = .ok (.iload_n 1, 1) := by decide +kernel
theorem dX0_mix_40 : decode cX0_mix 40 = .ok (.iload_n 2, 1) := by decide +kernel
theorem dX0_mix_41 : decode cX0_mix 41 = .ok (.invokestatic 77, 3) := by decide +kernel
theorem dX0_mix_44 : decode cX0_mix 44 = .ok (.invokevirtual 81, 3) := by decide +kernel
theorem dX0_mix_47 : decode cX0_mix 47 = .ok (.iinc 2 1, 3) := by decide +kernel
theorem dX0_mix_50 : decode cX0_mix 50 = .ok (.goto (-19), 3) := by decide +kernel
theorem dX0_mix_53 : decode cX0_mix 53 = .ok (.iload_n 1, 1) := by decide +kernel
theorem dX0_mix_54 : decode cX0_mix 54 = .ok (.ireturn, 1) := by decide +kernel
set_option maxRecDepth 20000 in
theorem ggX0_out_X0_isParty : GoodIn wsX0_out wsX0_isParty := goodIn_r _ [5] (by decide +kernel) (by decide +kernel)
set_option maxRecDepth 20000 in
theorem gX0_out_X0_isParty : GoodIn wsX0_out (va_wsS RX0 60 yX0_isParty wsX0_isParty) := goodIn_app (goodIn_of _ (by decide +kernel)) ggX0_out_X0_isParty
set_option maxRecDepth 20000 in
theorem ggX0_out_X0_isPlace : GoodIn wsX0_out wsX0_isPlace := goodIn_r _ [8] (by decide +kernel) (by decide +kernel)
set_option maxRecDepth 20000 in
theorem gX0_out_X0_isPlace : GoodIn wsX0_out (va_wsS RX0 63 yX0_isPlace wsX0_isPlace) := goodIn_app (goodIn_of _ (by decide +kernel)) ggX0_out_X0_isPlace
theorem dX0_out_0 : decode cX0_out 0 = .ok (.iload_n 1, 1) := by decide +kernel
theorem dX0_out_1 : decode cX0_out 1 = .ok (.invokestatic 60, 3) := by decide +kernel
theorem dX0_out_4 : decode cX0_out 4 = .ok (.ifCond .eq 21, 3) := by decide +kernel
theorem dX0_out_7 : decode cX0_out 7 = .ok (.iload_n 2, 1) := by decide +kernel
theorem dX0_out_8 : decode cX0_out 8 = .ok (.invokestatic 63, 3) := by decide +kernel
theorem dX0_out_11 : decode cX0_out 11 = .ok (.ifCond .eq 14, 3) := by decide +kernel
theorem dX0_out_14 : decode cX0_out 14 = .ok (.aload_n 0, 1) := by decide +kernel
theorem dX0_out_15 : decode cX0_out 15 = .ok (.getfield 25, 3) := by decide +kernel
theorem dX0_out_18 : decode cX0_out 18 = .ok (.iload_n 1, 1) := by decide +kernel
theorem dX0_out_19 : decode cX0_out 19 = .ok (.aaload, 1) := by decide +kernel
theorem dX0_out_20 : decode cX0_out 20 = .ok (.iload_n 2, 1) := by decide +kernel
theorem dX0_out_21 : decode cX0_out 21 = .ok (.iaload, 1) := by decide +kernel
theorem dX0_out_22 : decode cX0_out 22 = .ok (.goto 4, 3) := by decide +kernel
theorem dX0_out_25 : decode cX0_out 25 = .ok (.iconst (-1), 1) := by decide +kernel
theorem dX0_out_26 : decode cX0_out 26 = .ok (.ireturn, 1) := by decide +kernel
set_option maxRecDepth 20000 in
theorem ggX0_energy_X0_isParty : GoodIn wsX0_energy wsX0_isParty := goodIn_r _ [7] (by decide +kernel) (by decide +kernel)
set_option maxRecDepth 20000 in
theorem gX0_energy_X0_isParty : GoodIn wsX0_energy (va_wsS RX0 60 yX0_isParty wsX0_isParty) := goodIn_app (goodIn_of _ (by decide +kernel)) ggX0_energy_X0_isParty
theorem dX0_energy_0 : decode cX0_energy 0 = .ok (.iload_n 1, 1) := by decide +kernel
theorem dX0_energy_1 : decode cX0_energy 1 = .ok (.invokestatic 60, 3) := by decide +kernel
theorem dX0_energy_4 : decode cX0_energy 4 = .ok (.ifCond .ne 11, 3) := by decide +kernel
theorem dX0_energy_7 : decode cX0_energy 7 = .ok (.new 50, 3) := by decide +kernel
theorem dX0_energy_10 : decode cX0_energy 10 = .ok (.dup, 1) := by decide +kernel
theorem dX0_energy_11 : decode cX0_energy 11 = .ok (.invokespecial 52, 3) := by decide +kernel
theorem dX0_energy_14 : decode cX0_energy 14 = .ok (.athrow, 1) := by decide +kernel
theorem dX0_energy_15 : decode cX0_energy 15 = .ok (.aload_n 0, 1) := by decide +kernel
theorem dX0_energy_16 : decode cX0_energy 16 = .ok (.getfield 35, 3) := by decide +kernel
theorem dX0_energy_19 : decode cX0_energy 19 = .ok (.iload_n 1, 1) := by decide +kernel
theorem dX0_energy_20 : decode cX0_energy 20 = .ok (.laload, 1) := by decide +kernel
theorem dX0_energy_21 : decode cX0_energy 21 = .ok (.lreturn, 1) := by decide +kernel
set_option maxRecDepth 20000 in
theorem ggX0_hear_X0_sampleOf : GoodIn wsX0_hear wsX0_sampleOf := goodIn_r _ [9, 10, 11, 8, 12, 13, 14, 15, 16, 17, 18, 19, 20, 21] (by decide +kernel) (by decide +kernel)
set_option maxRecDepth 20000 in
theorem gX0_hear_X0_sampleOf : GoodIn wsX0_hear (va_wsS RX0 53 yX0_sampleOf wsX0_sampleOf) := goodIn_app (goodIn_of _ (by decide +kernel)) ggX0_hear_X0_sampleOf
set_option maxRecDepth 20000 in
theorem ggX0_hear_J9_floorDiv_7cf53 : GoodIn wsX0_hear wsJ9_floorDiv_7cf53 := goodIn_r _ [25] (by decide +kernel) (by decide +kernel)
set_option maxRecDepth 20000 in
theorem gX0_hear_J9_floorDiv_7cf53 : GoodIn wsX0_hear (va_wsS RX0 85 yJ9_floorDiv_7cf53 wsJ9_floorDiv_7cf53) := goodIn_app (goodIn_of _ (by decide +kernel)) ggX0_hear_J9_floorDiv_7cf53
set_option maxRecDepth 20000 in
theorem ggX0_hear_X0_saturated : GoodIn wsX0_hear wsX0_saturated := goodIn_r _ [28, 29, 30, 31, 32, 33, 34, 35, 36, 37] (by decide +kernel) (by decide +kernel)
set_option maxRecDepth 20000 in
theorem gX0_hear_X0_saturated : GoodIn wsX0_hear (va_wsS RX0 56 yX0_saturated wsX0_saturated) := goodIn_app (goodIn_of _ (by decide +kernel)) ggX0_hear_X0_saturated
theorem dX0_hear_0 : decode cX0_hear 0 = .ok (.lconst 0, 1) := by decide +kernel
theorem dX0_hear_1 : decode cX0_hear 1 = .ok (.lstore_n 2, 1) := by decide +kernel
theorem dX0_hear_2 : decode cX0_hear 2 = .ok (.iconst 0, 1) := by decide +kernel
theorem dX0_hear_3 : decode cX0_hear 3 = .ok (.istore 4, 2) := by decide +kernel
theorem dX0_hear_5 : decode cX0_hear 5 = .ok (.iload 4, 2) := by decide +kernel
theorem dX0_hear_7 : decode cX0_hear 7 = .ok (.bipush 8, 2) := by decide +kernel
theorem dX0_hear_9 : decode cX0_hear 9 = .ok (.if_icmp .ge 71, 3) := by decide +kernel
theorem dX0_hear_12 : decode cX0_hear 12 = .ok (.aload_n 0, 1) := by decide +kernel
theorem dX0_hear_13 : decode cX0_hear 13 = .ok (.getfield 9, 3) := by decide +kernel
theorem dX0_hear_16 : decode cX0_hear 16 = .ok (.iload_n 1, 1) := by decide +kernel
theorem dX0_hear_17 : decode cX0_hear 17 = .ok (.iaload, 1) := by decide +kernel
theorem dX0_hear_18 : decode cX0_hear 18 = .ok (.aload_n 0, 1) := by decide +kernel
theorem dX0_hear_19 : decode cX0_hear 19 = .ok (.getfield 22, 3) := by decide +kernel
theorem dX0_hear_22 : decode cX0_hear 22 = .ok (.iload_n 1, 1) := by decide +kernel
theorem dX0_hear_23 : decode cX0_hear 23 = .ok (.aaload, 1) := by decide +kernel
theorem dX0_hear_24 : decode cX0_hear 24 = .ok (.iload 4, 2) := by decide +kernel
theorem dX0_hear_26 : decode cX0_hear 26 = .ok (.iaload, 1) := by decide +kernel
theorem dX0_hear_27 : decode cX0_hear 27 = .ok (.invokestatic 53, 3) := by decide +kernel
theorem dX0_hear_30 : decode cX0_hear 30 = .ok (.istore 5, 2) := by decide +kernel
theorem dX0_hear_32 : decode cX0_hear 32 = .ok (.iload 5, 2) := by decide +kernel
theorem dX0_hear_34 : decode cX0_hear 34 = .ok (.aload_n 0, 1) := by decide +kernel
theorem dX0_hear_35 : decode cX0_hear 35 = .ok (.getfield 13, 3) := by decide +kernel
theorem dX0_hear_38 : decode cX0_hear 38 = .ok (.iload_n 1, 1) := by decide +kernel
theorem dX0_hear_39 : decode cX0_hear 39 = .ok (.iaload, 1) := by decide +kernel
theorem dX0_hear_40 : decode cX0_hear 40 = .ok (.imul, 1) := by decide +kernel
theorem dX0_hear_41 : decode cX0_hear 41 = .ok (.sipush 256, 3) := by decide +kernel
theorem dX0_hear_44 : decode cX0_hear 44 = .ok (.invokestatic 85, 3) := by decide +kernel
theorem dX0_hear_47 : decode cX0_hear 47 = .ok (.i2l, 1) := by decide +kernel
theorem dX0_hear_48 : decode cX0_hear 48 = .ok (.invokestatic 56, 3) := by decide +kernel
theorem dX0_hear_51 : decode cX0_hear 51 = .ok (.istore 6, 2) := by decide +kernel
theorem dX0_hear_53 : decode cX0_hear 53 = .ok (.aload_n 0, 1) := by decide +kernel
theorem dX0_hear_54 : decode cX0_hear 54 = .ok (.getfield 32, 3) := by decide +kernel
theorem dX0_hear_57 : decode cX0_hear 57 = .ok (.iload_n 1, 1) := by decide +kernel
theorem dX0_hear_58 : decode cX0_hear 58 = .ok (.aaload, 1) := by decide +kernel
theorem dX0_hear_59 : decode cX0_hear 59 = .ok (.iload 4, 2) := by decide +kernel
theorem dX0_hear_61 : decode cX0_hear 61 = .ok (.iload 6, 2) := by decide +kernel
theorem dX0_hear_63 : decode cX0_hear 63 = .ok (.iastore, 1) := by decide +kernel
theorem dX0_hear_64 : decode cX0_hear 64 = .ok (.lload_n 2, 1) := by decide +kernel
theorem dX0_hear_65 : decode cX0_hear 65 = .ok (.iload 6, 2) := by decide +kernel
theorem dX0_hear_67 : decode cX0_hear 67 = .ok (.i2l, 1) := by decide +kernel
theorem dX0_hear_68 : decode cX0_hear 68 = .ok (.iload 6, 2) := by decide +kernel
theorem dX0_hear_70 : decode cX0_hear 70 = .ok (.i2l, 1) := by decide +kernel
theorem dX0_hear_71 : decode cX0_hear 71 = .ok (.lmul, 1) := by decide +kernel
theorem dX0_hear_72 : decode cX0_hear 72 = .ok (.ladd, 1) := by decide +kernel
theorem dX0_hear_73 : decode cX0_hear 73 = .ok (.lstore_n 2, 1) := by decide +kernel
theorem dX0_hear_74 : decode cX0_hear 74 = .ok (.iinc 4 1, 3) := by decide +kernel
theorem dX0_hear_77 : decode cX0_hear 77 = .ok (.goto (-72), 3) := by decide +kernel
theorem dX0_hear_80 : decode cX0_hear 80 = .ok (.aload_n 0, 1) := by decide +kernel
theorem dX0_hear_81 : decode cX0_hear 81 = .ok (.getfield 35, 3) := by decide +kernel
theorem dX0_hear_84 : decode cX0_hear 84 = .ok (.iload_n 1, 1) := by decide +kernel
theorem dX0_hear_85 : decode cX0_hear 85 = .ok (.lload_n 2, 1) := by decide +kernel
theorem dX0_hear_86 : decode cX0_hear 86 = .ok (.lastore, 1) := by decide +kernel
theorem dX0_hear_87 : decode cX0_hear 87 = .ok (.return_, 1) := by decide +kernel
set_option maxRecDepth 20000 in
theorem ggX0_chooseSpeakers_X0_loudestBeside : GoodIn wsX0_chooseSpeakers wsX0_loudestBeside := goodIn_r _ [6, 7, 8, 9, 10, 5, 11, 12, 13, 14, 15, 16, 17, 18, 19, 20] (by decide +kernel) (by decide +kernel)
set_option maxRecDepth 20000 in
theorem gX0_chooseSpeakers_X0_loudestBeside : GoodIn wsX0_chooseSpeakers (wsV RX0 90 RX0 yX0_loudestBeside wsX0_loudestBeside) := goodIn_app (goodIn_of _ (by decide +kernel)) ggX0_chooseSpeakers_X0_loudestBeside
theorem dX0_chooseSpeakers_0 : decode cX0_chooseSpeakers 0 = .ok (.iconst 0, 1) := by decide +kernel
theorem dX0_chooseSpeakers_1 : decode cX0_chooseSpeakers 1 = .ok (.istore_n 1, 1) := by decide +kernel
theorem dX0_chooseSpeakers_2 : decode cX0_chooseSpeakers 2 = .ok (.iconst 0, 1) := by decide +kernel
theorem dX0_chooseSpeakers_3 : decode cX0_chooseSpeakers 3 = .ok (.istore_n 2, 1) := by decide +kernel
theorem dX0_chooseSpeakers_4 : decode cX0_chooseSpeakers 4 = .ok (.iload_n 2, 1) := by decide +kernel
theorem dX0_chooseSpeakers_5 : decode cX0_chooseSpeakers 5 = .ok (.aload_n 0, 1) := by decide +kernel
theorem dX0_chooseSpeakers_6 : decode cX0_chooseSpeakers 6 = .ok (.getfield 28, 3) := by decide +kernel
theorem dX0_chooseSpeakers_9 : decode cX0_chooseSpeakers 9 = .ok (.if_icmp .ge 29, 3) := by decide +kernel
theorem dX0_chooseSpeakers_12 : decode cX0_chooseSpeakers 12 = .ok (.aload_n 0, 1) := by decide +kernel
theorem dX0_chooseSpeakers_13 : decode cX0_chooseSpeakers 13 = .ok (.iload_n 1, 1) := by decide +kernel
theorem dX0_chooseSpeakers_14 : decode cX0_chooseSpeakers 14 = .ok (.invokevirtual 90, 3) := by decide +kernel
theorem dX0_chooseSpeakers_17 : decode cX0_chooseSpeakers 17 = .ok (.istore_n 3, 1) := by decide +kernel
theorem dX0_chooseSpeakers_18 : decode cX0_chooseSpeakers 18 = .ok (.iload_n 3, 1) := by decide +kernel
theorem dX0_chooseSpeakers_19 : decode cX0_chooseSpeakers 19 = .ok (.iconst (-1), 1) := by decide +kernel
theorem dX0_chooseSpeakers_20 : decode cX0_chooseSpeakers 20 = .ok (.if_icmp .ne 6, 3) := by decide +kernel
theorem dX0_chooseSpeakers_23 : decode cX0_chooseSpeakers 23 = .ok (.goto 15, 3) := by decide +kernel
theorem dX0_chooseSpeakers_26 : decode cX0_chooseSpeakers 26 = .ok (.iload_n 1, 1) := by decide +kernel
theorem dX0_chooseSpeakers_27 : decode cX0_chooseSpeakers 27 = .ok (.iconst 1, 1) := by decide +kernel
theorem dX0_chooseSpeakers_28 : decode cX0_chooseSpeakers 28 = .ok (.iload_n 3, 1) := by decide +kernel
theorem dX0_chooseSpeakers_29 : decode cX0_chooseSpeakers 29 = .ok (.ishl, 1) := by decide +kernel
theorem dX0_chooseSpeakers_30 : decode cX0_chooseSpeakers 30 = .ok (.ior, 1) := by decide +kernel
theorem dX0_chooseSpeakers_31 : decode cX0_chooseSpeakers 31 = .ok (.istore_n 1, 1) := by decide +kernel
theorem dX0_chooseSpeakers_32 : decode cX0_chooseSpeakers 32 = .ok (.iinc 2 1, 3) := by decide +kernel
theorem dX0_chooseSpeakers_35 : decode cX0_chooseSpeakers 35 = .ok (.goto (-31), 3) := by decide +kernel
theorem dX0_chooseSpeakers_38 : decode cX0_chooseSpeakers 38 = .ok (.iload_n 1, 1) := by decide +kernel
theorem dX0_chooseSpeakers_39 : decode cX0_chooseSpeakers 39 = .ok (.ireturn, 1) := by decide +kernel
set_option maxRecDepth 20000 in
theorem ggX0_loudestBeside_X0_speaks : GoodIn wsX0_loudestBeside wsX0_speaks := goodIn_r _ [6] (by decide +kernel) (by decide +kernel)
set_option maxRecDepth 20000 in
theorem gX0_loudestBeside_X0_speaks : GoodIn wsX0_loudestBeside (va_wsS RX0 77 yX0_speaks wsX0_speaks) := goodIn_app (goodIn_of _ (by decide +kernel)) ggX0_loudestBeside_X0_speaks
theorem dX0_loudestBeside_0 : decode cX0_loudestBeside 0 = .ok (.iconst (-1), 1) := by decide +kernel
theorem dX0_loudestBeside_1 : decode cX0_loudestBeside 1 = .ok (.istore_n 2, 1) := by decide +kernel
theorem dX0_loudestBeside_2 : decode cX0_loudestBeside 2 = .ok (.lconst 0, 1) := by decide +kernel
theorem dX0_loudestBeside_3 : decode cX0_loudestBeside 3 = .ok (.lstore_n 3, 1) := by decide +kernel
theorem dX0_loudestBeside_4 : decode cX0_loudestBeside 4 = .ok (.iconst 0, 1) := by decide +kernel
theorem dX0_loudestBeside_5 : decode cX0_loudestBeside 5 = .ok (.istore 5, 2) := by decide +kernel
theorem dX0_loudestBeside_7 : decode cX0_loudestBeside 7 = .ok (.iload 5, 2) := by decide +kernel
theorem dX0_loudestBeside_9 : decode cX0_loudestBeside 9 = .ok (.bipush 8, 2) := by decide +kernel
theorem dX0_loudestBeside_11 : decode cX0_loudestBeside 11 = .ok (.if_icmp .ge 51, 3) := by decide +kernel
theorem dX0_loudestBeside_14 : decode cX0_loudestBeside 14 = .ok (.aload_n 0, 1) := by decide +kernel
theorem dX0_loudestBeside_15 : decode cX0_loudestBeside 15 = .ok (.getfield 16, 3) := by decide +kernel
theorem dX0_loudestBeside_18 : decode cX0_loudestBeside 18 = .ok (.iload 5, 2) := by decide +kernel
theorem dX0_loudestBeside_20 : decode cX0_loudestBeside 20 = .ok (.baload, 1) := by decide +kernel
theorem dX0_loudestBeside_21 : decode cX0_loudestBeside 21 = .ok (.ifCond .ne 35, 3) := by decide +kernel
theorem dX0_loudestBeside_24 : decode cX0_loudestBeside 24 = .ok (.iload_n 1, 1) := by decide +kernel
theorem dX0_loudestBeside_25 : decode cX0_loudestBeside 25 = .ok (.iload 5, 2) := by decide +kernel
theorem dX0_loudestBeside_27 : decode cX0_loudestBeside 27 = .ok (.invokestatic 77, 3) := by decide +kernel
theorem dX0_loudestBeside_30 : decode cX0_loudestBeside 30 = .ok (.ifCond .ne 26, 3) := by decide +kernel
theorem dX0_loudestBeside_33 : decode cX0_loudestBeside 33 = .ok (.aload_n 0, 1) := by decide +kernel
theorem dX0_loudestBeside_34 : decode cX0_loudestBeside 34 = .ok (.getfield 35, 3) := by decide +kernel
theorem dX0_loudestBeside_37 : decode cX0_loudestBeside 37 = .ok (.iload 5, 2) := by decide +kernel
theorem dX0_loudestBeside_39 : decode cX0_loudestBeside 39 = .ok (.laload, 1) := by decide +kernel
theorem dX0_loudestBeside_40 : decode cX0_loudestBeside 40 = .ok (.lload_n 3, 1) := by decide +kernel
theorem dX0_loudestBeside_41 : decode cX0_loudestBeside 41 = .ok (.lcmp, 1) := by decide +kernel
theorem dX0_loudestBeside_42 : decode cX0_loudestBeside 42 = .ok (.ifCond .le 14, 3) := by decide +kernel
theorem dX0_loudestBeside_45 : decode cX0_loudestBeside 45 = .ok (.iload 5, 2) := by decide +kernel
theorem dX0_loudestBeside_47 : decode cX0_loudestBeside 47 = .ok (.istore_n 2, 1) := by decide +kernel
theorem dX0_loudestBeside_48 : decode cX0_loudestBeside 48 = .ok (.aload_n 0, 1) := by decide +kernel
theorem dX0_loudestBeside_49 : decode cX0_loudestBeside 49 = .ok (.getfield 35, 3) := by decide +kernel
theorem dX0_loudestBeside_52 : decode cX0_loudestBeside 52 = .ok (.iload 5, 2) := by decide +kernel
theorem dX0_loudestBeside_54 : decode cX0_loudestBeside 54 = .ok (.laload, 1) := by decide +kernel
theorem dX0_loudestBeside_55 : decode cX0_loudestBeside 55 = .ok (.lstore_n 3, 1) := by decide +kernel
theorem dX0_loudestBeside_56 : decode cX0_loudestBeside 56 = .ok (.iinc 5 1, 3) := by decide +kernel
theorem dX0_loudestBeside_59 : decode cX0_loudestBeside 59 = .ok (.goto (-52), 3) := by decide +kernel
theorem dX0_loudestBeside_62 : decode cX0_loudestBeside 62 = .ok (.iload_n 2, 1) := by decide +kernel
theorem dX0_loudestBeside_63 : decode cX0_loudestBeside 63 = .ok (.ireturn, 1) := by decide +kernel
set_option maxRecDepth 20000 in
theorem ggX0_sumUp_X0_speaks : GoodIn wsX0_sumUp wsX0_speaks := goodIn_r _ [6] (by decide +kernel) (by decide +kernel)
set_option maxRecDepth 20000 in
theorem gX0_sumUp_X0_speaks : GoodIn wsX0_sumUp (va_wsS RX0 77 yX0_speaks wsX0_speaks) := goodIn_app (goodIn_of _ (by decide +kernel)) ggX0_sumUp_X0_speaks
theorem dX0_sumUp_0 : decode cX0_sumUp 0 = .ok (.iconst 0, 1) := by decide +kernel
theorem dX0_sumUp_1 : decode cX0_sumUp 1 = .ok (.istore_n 2, 1) := by decide +kernel
theorem dX0_sumUp_2 : decode cX0_sumUp 2 = .ok (.iload_n 2, 1) := by decide +kernel
theorem dX0_sumUp_3 : decode cX0_sumUp 3 = .ok (.bipush 8, 2) := by decide +kernel
theorem dX0_sumUp_5 : decode cX0_sumUp 5 = .ok (.if_icmp .ge 55, 3) := by decide +kernel
theorem dX0_sumUp_8 : decode cX0_sumUp 8 = .ok (.iconst 0, 1) := by decide +kernel
theorem dX0_sumUp_9 : decode cX0_sumUp 9 = .ok (.istore_n 3, 1) := by decide +kernel
theorem dX0_sumUp_10 : decode cX0_sumUp 10 = .ok (.iconst 0, 1) := by decide +kernel
theorem dX0_sumUp_11 : decode cX0_sumUp 11 = .ok (.istore 4, 2) := by decide +kernel
theorem dX0_sumUp_13 : decode cX0_sumUp 13 = .ok (.iload 4, 2) := by decide +kernel
theorem dX0_sumUp_15 : decode cX0_sumUp 15 = .ok (.bipush 8, 2) := by decide +kernel
theorem dX0_sumUp_17 : decode cX0_sumUp 17 = .ok (.if_icmp .ge 30, 3) := by decide +kernel
theorem dX0_sumUp_20 : decode cX0_sumUp 20 = .ok (.iload_n 1, 1) := by decide +kernel
theorem dX0_sumUp_21 : decode cX0_sumUp 21 = .ok (.iload 4, 2) := by decide +kernel
theorem dX0_sumUp_23 : decode cX0_sumUp 23 = .ok (.invokestatic 77, 3) := by decide +kernel
theorem dX0_sumUp_26 : decode cX0_sumUp 26 = .ok (.ifCond .eq 15, 3) := by decide +kernel
theorem dX0_sumUp_29 : decode cX0_sumUp 29 = .ok (.iload_n 3, 1) := by decide +kernel
theorem dX0_sumUp_30 : decode cX0_sumUp 30 = .ok (.aload_n 0, 1) := by decide +kernel
theorem dX0_sumUp_31 : decode cX0_sumUp 31 = .ok (.getfield 32, 3) := by decide +kernel
theorem dX0_sumUp_34 : decode cX0_sumUp 34 = .ok (.iload 4, 2) := by decide +kernel
theorem dX0_sumUp_36 : decode cX0_sumUp 36 = .ok (.aaload, 1) := by decide +kernel
theorem dX0_sumUp_37 : decode cX0_sumUp 37 = .ok (.iload_n 2, 1) := by decide +kernel
theorem dX0_sumUp_38 : decode cX0_sumUp 38 = .ok (.iaload, 1) := by decide +kernel
theorem dX0_sumUp_39 : decode cX0_sumUp 39 = .ok (.iadd, 1) := by decide +kernel
theorem dX0_sumUp_40 : decode cX0_sumUp 40 = .ok (.istore_n 3, 1) := by decide +kernel
theorem dX0_sumUp_41 : decode cX0_sumUp 41 = .ok (.iinc 4 1, 3) := by decide +kernel
theorem dX0_sumUp_44 : decode cX0_sumUp 44 = .ok (.goto (-31), 3) := by decide +kernel
theorem dX0_sumUp_47 : decode cX0_sumUp 47 = .ok (.aload_n 0, 1) := by decide +kernel
theorem dX0_sumUp_48 : decode cX0_sumUp 48 = .ok (.getfield 39, 3) := by decide +kernel
theorem dX0_sumUp_51 : decode cX0_sumUp 51 = .ok (.iload_n 2, 1) := by decide +kernel
theorem dX0_sumUp_52 : decode cX0_sumUp 52 = .ok (.iload_n 3, 1) := by decide +kernel
theorem dX0_sumUp_53 : decode cX0_sumUp 53 = .ok (.iastore, 1) := by decide +kernel
theorem dX0_sumUp_54 : decode cX0_sumUp 54 = .ok (.iinc 2 1, 3) := by decide +kernel
theorem dX0_sumUp_57 : decode cX0_sumUp 57 = .ok (.goto (-55), 3) := by decide +kernel
theorem dX0_sumUp_60 : decode cX0_sumUp 60 = .ok (.return_, 1) := by decide +kernel
set_option maxRecDepth 20000 in
theorem ggX0_answer_X0_saturated : GoodIn wsX0_answer wsX0_saturated := goodIn_r _ [8, 9, 10, 11, 12, 13, 14, 15, 16, 17] (by decide +kernel) (by decide +kernel)
set_option maxRecDepth 20000 in
theorem gX0_answer_X0_saturated : GoodIn wsX0_answer (va_wsS RX0 56 yX0_saturated wsX0_saturated) := goodIn_app (goodIn_of _ (by decide +kernel)) ggX0_answer_X0_saturated
set_option maxRecDepth 20000 in
theorem ggX0_answer_X0_codeOf : GoodIn wsX0_answer wsX0_codeOf := goodIn_r _ [20, 21, 22, 7, 23, 24, 25, 26, 27, 28, 29, 30, 31, 32, 33, 34, 35, 36, 13, 37, 38, 39, 40] (by decide +kernel) (by decide +kernel)
set_option maxRecDepth 20000 in
theorem gX0_answer_X0_codeOf : GoodIn wsX0_answer (va_wsS RX0 42 yX0_codeOf wsX0_codeOf) := goodIn_app (goodIn_of _ (by decide +kernel)) ggX0_answer_X0_codeOf
theorem dX0_answer_0 : decode cX0_answer 0 = .ok (.iconst 0, 1) := by decide +kernel
theorem dX0_answer_1 : decode cX0_answer 1 = .ok (.istore_n 3, 1) := by decide +kernel
theorem dX0_answer_2 : decode cX0_answer 2 = .ok (.iload_n 3, 1) := by decide +kernel
theorem dX0_answer_3 : decode cX0_answer 3 = .ok (.bipush 8, 2) := by decide +kernel
theorem dX0_answer_5 : decode cX0_answer 5 = .ok (.if_icmp .ge 62, 3) := by decide +kernel
theorem dX0_answer_8 : decode cX0_answer 8 = .ok (.iload_n 2, 1) := by decide +kernel
theorem dX0_answer_9 : decode cX0_answer 9 = .ok (.ifCond .eq 21, 3) := by decide +kernel
theorem dX0_answer_12 : decode cX0_answer 12 = .ok (.aload_n 0, 1) := by decide +kernel
theorem dX0_answer_13 : decode cX0_answer 13 = .ok (.getfield 39, 3) := by decide +kernel
theorem dX0_answer_16 : decode cX0_answer 16 = .ok (.iload_n 3, 1) := by decide +kernel
theorem dX0_answer_17 : decode cX0_answer 17 = .ok (.iaload, 1) := by decide +kernel
theorem dX0_answer_18 : decode cX0_answer 18 = .ok (.aload_n 0, 1) := by decide +kernel
theorem dX0_answer_19 : decode cX0_answer 19 = .ok (.getfield 32, 3) := by decide +kernel
theorem dX0_answer_22 : decode cX0_answer 22 = .ok (.iload_n 1, 1) := by decide +kernel
theorem dX0_answer_23 : decode cX0_answer 23 = .ok (.aaload, 1) := by decide +kernel
theorem dX0_answer_24 : decode cX0_answer 24 = .ok (.iload_n 3, 1) := by decide +kernel
theorem dX0_answer_25 : decode cX0_answer 25 = .ok (.iaload, 1) := by decide +kernel
theorem dX0_answer_26 : decode cX0_answer 26 = .ok (.isub, 1) := by decide +kernel
theorem dX0_answer_27 : decode cX0_answer 27 = .ok (.goto 9, 3) := by decide +kernel
theorem dX0_answer_30 : decode cX0_answer 30 = .ok (.aload_n 0, 1) := by decide +kernel
theorem dX0_answer_31 : decode cX0_answer 31 = .ok (.getfield 39, 3) := by decide +kernel
theorem dX0_answer_34 : decode cX0_answer 34 = .ok (.iload_n 3, 1) := by decide +kernel
theorem dX0_answer_35 : decode cX0_answer 35 = .ok (.iaload, 1) := by decide +kernel
theorem dX0_answer_36 : decode cX0_answer 36 = .ok (.istore 4, 2) := by decide +kernel
theorem dX0_answer_38 : decode cX0_answer 38 = .ok (.aload_n 0, 1) := by decide +kernel
theorem dX0_answer_39 : decode cX0_answer 39 = .ok (.getfield 25, 3) := by decide +kernel
theorem dX0_answer_42 : decode cX0_answer 42 = .ok (.iload_n 1, 1) := by decide +kernel
theorem dX0_answer_43 : decode cX0_answer 43 = .ok (.aaload, 1) := by decide +kernel
theorem dX0_answer_44 : decode cX0_answer 44 = .ok (.iload_n 3, 1) := by decide +kernel
theorem dX0_answer_45 : decode cX0_answer 45 = .ok (.aload_n 0, 1) := by decide +kernel
theorem dX0_answer_46 : decode cX0_answer 46 = .ok (.getfield 9, 3) := by decide +kernel
theorem dX0_answer_49 : decode cX0_answer 49 = .ok (.iload_n 1, 1) := by decide +kernel
theorem dX0_answer_50 : decode cX0_answer 50 = .ok (.iaload, 1) := by decide +kernel
theorem dX0_answer_51 : decode cX0_answer 51 = .ok (.iload 4, 2) := by decide +kernel
theorem dX0_answer_53 : decode cX0_answer 53 = .ok (.i2l, 1) := by decide +kernel
theorem dX0_answer_54 : decode cX0_answer 54 = .ok (.invokestatic 56, 3) := by decide +kernel
theorem dX0_answer_57 : decode cX0_answer 57 = .ok (.invokestatic 42, 3) := by decide +kernel
theorem dX0_answer_60 : decode cX0_answer 60 = .ok (.iastore, 1) := by decide +kernel
theorem dX0_answer_61 : decode cX0_answer 61 = .ok (.iinc 3 1, 3) := by decide +kernel
theorem dX0_answer_64 : decode cX0_answer 64 = .ok (.goto (-62), 3) := by decide +kernel
theorem dX0_answer_67 : decode cX0_answer 67 = .ok (.return_, 1) := by decide +kernel
theorem dX0_speaks_0 : decode cX0_speaks 0 = .ok (.iload_n 0, 1) := by decide +kernel
theorem dX0_speaks_1 : decode cX0_speaks 1 = .ok (.iload_n 1, 1) := by decide +kernel
theorem dX0_speaks_2 : decode cX0_speaks 2 = .ok (.ishr, 1) := by decide +kernel
theorem dX0_speaks_3 : decode cX0_speaks 3 = .ok (.iconst 1, 1) := by decide +kernel
theorem dX0_speaks_4 : decode cX0_speaks 4 = .ok (.iand, 1) := by decide +kernel
theorem dX0_speaks_5 : decode cX0_speaks 5 = .ok (.ifCond .eq 7, 3) := by decide +kernel
theorem dX0_speaks_8 : decode cX0_speaks 8 = .ok (.iconst 1, 1) := by decide +kernel
theorem dX0_speaks_9 : decode cX0_speaks 9 = .ok (.goto 4, 3) := by decide +kernel
theorem dX0_speaks_12 : decode cX0_speaks 12 = .ok (.iconst 0, 1) := by decide +kernel
theorem dX0_speaks_13 : decode cX0_speaks 13 = .ok (.ireturn, 1) := by decide +kernel
theorem dX0_isLaw_0 : decode cX0_isLaw 0 = .ok (.iload_n 0, 1) := by decide +kernel
theorem dX0_isLaw_1 : decode cX0_isLaw 1 = .ok (.ifCond .eq 8, 3) := by decide +kernel
theorem dX0_isLaw_4 : decode cX0_isLaw 4 = .ok (.iload_n 0, 1) := by decide +kernel
theorem dX0_isLaw_5 : decode cX0_isLaw 5 = .ok (.iconst 1, 1) := by decide +kernel
theorem dX0_isLaw_6 : decode cX0_isLaw 6 = .ok (.if_icmp .ne 7, 3) := by decide +kernel
theorem dX0_isLaw_9 : decode cX0_isLaw 9 = .ok (.iconst 1, 1) := by decide +kernel
theorem dX0_isLaw_10 : decode cX0_isLaw 10 = .ok (.goto 4, 3) := by decide +kernel
theorem dX0_isLaw_13 : decode cX0_isLaw 13 = .ok (.iconst 0, 1) := by decide +kernel
theorem dX0_isLaw_14 : decode cX0_isLaw 14 = .ok (.ireturn, 1) := by decide +kernel
theorem dX0_isParty_0 : decode cX0_isParty 0 = .ok (.iload_n 0, 1) := by decide +kernel
theorem dX0_isParty_1 : decode cX0_isParty 1 = .ok (.ifCond .lt 13, 3) := by decide +kernel
theorem dX0_isParty_4 : decode cX0_isParty 4 = .ok (.iload_n 0, 1) := by decide +kernel
theorem dX0_isParty_5 : decode cX0_isParty 5 = .ok (.bipush 8, 2) := by decide +kernel
theorem dX0_isParty_7 : decode cX0_isParty 7 = .ok (.if_icmp .ge 7, 3) := by decide +kernel
theorem dX0_isParty_10 : decode cX0_isParty 10 = .ok (.iconst 1, 1) := by decide +kernel
theorem dX0_isParty_11 : decode cX0_isParty 11 = .ok (.goto 4, 3) := by decide +kernel
theorem dX0_isParty_14 : decode cX0_isParty 14 = .ok (.iconst 0, 1) := by decide +kernel
theorem dX0_isParty_15 : decode cX0_isParty 15 = .ok (.ireturn, 1) := by decide +kernel
theorem dX0_isPlace_0 : decode cX0_isPlace 0 = .ok (.iload_n 0, 1) := by decide +kernel
theorem dX0_isPlace_1 : decode cX0_isPlace 1 = .ok (.ifCond .lt 13, 3) := by decide +kernel
theorem dX0_isPlace_4 : decode cX0_isPlace 4 = .ok (.iload_n 0, 1) := by decide +kernel
theorem dX0_isPlace_5 : decode cX0_isPlace 5 = .ok (.bipush 8, 2) := by decide +kernel
theorem dX0_isPlace_7 : decode cX0_isPlace 7 = .ok (.if_icmp .ge 7, 3) := by decide +kernel
theorem dX0_isPlace_10 : decode cX0_isPlace 10 = .ok (.iconst 1, 1) := by decide +kernel
theorem dX0_isPlace_11 : decode cX0_isPlace 11 = .ok (.goto 4, 3) := by decide +kernel
theorem dX0_isPlace_14 : decode cX0_isPlace 14 = .ok (.iconst 0, 1) := by decide +kernel
theorem dX0_isPlace_15 : decode cX0_isPlace 15 = .ok (.ireturn, 1) := by decide +kernel
theorem dX0_saturated_0 : decode cX0_saturated 0 = .ok (.ldc2_w 94, 3) := by decide +kernel
theorem dX0_saturated_3 : decode cX0_saturated 3 = .ok (.ldc2_w 96, 3) := by decide +kernel
theorem dX0_saturated_6 : decode cX0_saturated 6 = .ok (.lload_n 0, 1) := by decide +kernel
theorem dX0_saturated_7 : decode cX0_saturated 7 = .ok (.invokestatic 98, 3) := by decide +kernel
theorem dX0_saturated_10 : decode cX0_saturated 10 = .ok (.invokestatic 102, 3) := by decide +kernel
theorem dX0_saturated_13 : decode cX0_saturated 13 = .ok (.l2i, 1) := by decide +kernel
theorem dX0_saturated_14 : decode cX0_saturated 14 = .ok (.ireturn, 1) := by decide +kernel
set_option maxRecDepth 20000 in
theorem ggX0_sampleOf_X0_sampleByA : GoodIn wsX0_sampleOf wsX0_sampleByA := goodIn_r _ [4, 5, 6, 3, 7, 8, 9, 10] (by decide +kernel) (by decide +kernel)
set_option maxRecDepth 20000 in
theorem gX0_sampleOf_X0_sampleByA : GoodIn wsX0_sampleOf (va_wsS RX0 105 yX0_sampleByA wsX0_sampleByA) := goodIn_app (goodIn_of _ (by decide +kernel)) ggX0_sampleOf_X0_sampleByA
set_option maxRecDepth 20000 in
theorem ggX0_sampleOf_X0_sampleByMu : GoodIn wsX0_sampleOf wsX0_sampleByMu := goodIn_r _ [13, 8, 9, 3, 10, 5, 6, 7] (by decide +kernel) (by decide +kernel)
set_option maxRecDepth 20000 in
theorem gX0_sampleOf_X0_sampleByMu : GoodIn wsX0_sampleOf (va_wsS RX0 108 yX0_sampleByMu wsX0_sampleByMu) := goodIn_app (goodIn_of _ (by decide +kernel)) ggX0_sampleOf_X0_sampleByMu
theorem dX0_sampleOf_0 : decode cX0_sampleOf 0 = .ok (.iload_n 0, 1) := by decide +kernel
theorem dX0_sampleOf_1 : decode cX0_sampleOf 1 = .ok (.ifCond .ne 10, 3) := by decide +kernel
theorem dX0_sampleOf_4 : decode cX0_sampleOf 4 = .ok (.iload_n 1, 1) := by decide +kernel
theorem dX0_sampleOf_5 : decode cX0_sampleOf 5 = .ok (.invokestatic 105, 3) := by decide +kernel
theorem dX0_sampleOf_8 : decode cX0_sampleOf 8 = .ok (.goto 7, 3) := by decide +kernel
theorem dX0_sampleOf_11 : decode cX0_sampleOf 11 = .ok (.iload_n 1, 1) := by decide +kernel
theorem dX0_sampleOf_12 : decode cX0_sampleOf 12 = .ok (.invokestatic 108, 3) := by decide +kernel
theorem dX0_sampleOf_15 : decode cX0_sampleOf 15 = .ok (.ireturn, 1) := by decide +kernel
set_option maxRecDepth 20000 in
theorem ggX0_codeOf_X0_codeByA : GoodIn wsX0_codeOf wsX0_codeByA := goodIn_r _ [4, 5, 6, 3, 7, 8, 9, 10, 11, 12] (by decide +kernel) (by decide +kernel)
set_option maxRecDepth 20000 in
theorem gX0_codeOf_X0_codeByA : GoodIn wsX0_codeOf (va_wsS RX0 111 yX0_codeByA wsX0_codeByA) := goodIn_app (goodIn_of _ (by decide +kernel)) ggX0_codeOf_X0_codeByA
set_option maxRecDepth 20000 in
theorem ggX0_codeOf_X0_codeByMu : GoodIn wsX0_codeOf wsX0_codeByMu := goodIn_r _ [15, 16, 17, 18, 19, 20, 21, 22, 5, 6, 3, 7, 8, 9, 10, 11, 12] (by decide +kernel) (by decide +kernel)
set_option maxRecDepth 20000 in
theorem gX0_codeOf_X0_codeByMu : GoodIn wsX0_codeOf (va_wsS RX0 114 yX0_codeByMu wsX0_codeByMu) := goodIn_app (goodIn_of _ (by decide +kernel)) ggX0_codeOf_X0_codeByMu
theorem dX0_codeOf_0 : decode cX0_codeOf 0 = .ok (.iload_n 0, 1) := by decide +kernel
theorem dX0_codeOf_1 : decode cX0_codeOf 1 = .ok (.ifCond .ne 10, 3) := by decide +kernel
theorem dX0_codeOf_4 : decode cX0_codeOf 4 = .ok (.iload_n 1, 1) := by decide +kernel
theorem dX0_codeOf_5 : decode cX0_codeOf 5 = .ok (.invokestatic 111, 3) := by decide +kernel
theorem dX0_codeOf_8 : decode cX0_codeOf 8 = .ok (.goto 7, 3) := by decide +kernel
theorem dX0_codeOf_11 : decode cX0_codeOf 11 = .ok (.iload_n 1, 1) := by decide +kernel
theorem dX0_codeOf_12 : decode cX0_codeOf 12 = .ok (.invokestatic 114, 3) := by decide +kernel
theorem dX0_codeOf_15 : decode cX0_codeOf 15 = .ok (.ireturn, 1) := by decide +kernel
set_option maxRecDepth 20000 in
theorem ggX0_sampleByA_X0_segmentIn : GoodIn wsX0_sampleByA wsX0_segmentIn := goodIn_r _ [4] (by decide +kernel) (by decide +kernel)
set_option maxRecDepth 20000 in
theorem gX0_sampleByA_X0_segmentIn : GoodIn wsX0_sampleByA (va_wsS RX0 117 yX0_segmentIn wsX0_segmentIn) := goodIn_app (goodIn_of _ (by decide +kernel)) ggX0_sampleByA_X0_segmentIn
set_option maxRecDepth 20000 in
theorem ggX0_sampleByA_X0_stepIn : GoodIn wsX0_sampleByA wsX0_stepIn := goodIn_r _ [7] (by decide +kernel) (by decide +kernel)
set_option maxRecDepth 20000 in
theorem gX0_sampleByA_X0_stepIn : GoodIn wsX0_sampleByA (va_wsS RX0 120 yX0_stepIn wsX0_stepIn) := goodIn_app (goodIn_of _ (by decide +kernel)) ggX0_sampleByA_X0_stepIn
theorem dX0_sampleByA_0 : decode cX0_sampleByA 0 = .ok (.iload_n 0, 1) := by decide +kernel
theorem dX0_sampleByA_1 : decode cX0_sampleByA 1 = .ok (.bipush 85, 2) := by decide +kernel
theorem dX0_sampleByA_3 : decode cX0_sampleByA 3 = .ok (.ixor, 1) := by decide +kernel
theorem dX0_sampleByA_4 : decode cX0_sampleByA 4 = .ok (.istore_n 1, 1) := by decide +kernel
theorem dX0_sampleByA_5 : decode cX0_sampleByA 5 = .ok (.iload_n 1, 1) := by decide +kernel
theorem dX0_sampleByA_6 : decode cX0_sampleByA 6 = .ok (.invokestatic 117, 3) := by decide +kernel
theorem dX0_sampleByA_9 : decode cX0_sampleByA 9 = .ok (.istore_n 2, 1) := by decide +kernel
theorem dX0_sampleByA_10 : decode cX0_sampleByA 10 = .ok (.bipush 16, 2) := by decide +kernel
theorem dX0_sampleByA_12 : decode cX0_sampleByA 12 = .ok (.iload_n 1, 1) := by decide +kernel
theorem dX0_sampleByA_13 : decode cX0_sampleByA 13 = .ok (.invokestatic 120, 3) := by decide +kernel
theorem dX0_sampleByA_16 : decode cX0_sampleByA 16 = .ok (.imul, 1) := by decide +kernel
theorem dX0_sampleByA_17 : decode cX0_sampleByA 17 = .ok (.istore_n 3, 1) := by decide +kernel
theorem dX0_sampleByA_18 : decode cX0_sampleByA 18 = .ok (.iload_n 2, 1) := by decide +kernel
theorem dX0_sampleByA_19 : decode cX0_sampleByA 19 = .ok (.ifCond .ne 10, 3) := by decide +kernel
theorem dX0_sampleByA_22 : decode cX0_sampleByA 22 = .ok (.iload_n 3, 1) := by decide +kernel
theorem dX0_sampleByA_23 : decode cX0_sampleByA 23 = .ok (.bipush 8, 2) := by decide +kernel
theorem dX0_sampleByA_25 : decode cX0_sampleByA 25 = .ok (.iadd, 1) := by decide +kernel
theorem dX0_sampleByA_26 : decode cX0_sampleByA 26 = .ok (.goto 12, 3) := by decide +kernel
theorem dX0_sampleByA_29 : decode cX0_sampleByA 29 = .ok (.iload_n 3, 1) := by decide +kernel
theorem dX0_sampleByA_30 : decode cX0_sampleByA 30 = .ok (.sipush 264, 3) := by decide +kernel
theorem dX0_sampleByA_33 : decode cX0_sampleByA 33 = .ok (.iadd, 1) := by decide +kernel
theorem dX0_sampleByA_34 : decode cX0_sampleByA 34 = .ok (.iload_n 2, 1) := by decide +kernel
theorem dX0_sampleByA_35 : decode cX0_sampleByA 35 = .ok (.iconst 1, 1) := by decide +kernel
theorem dX0_sampleByA_36 : decode cX0_sampleByA 36 = .ok (.isub, 1) := by decide +kernel
theorem dX0_sampleByA_37 : decode cX0_sampleByA 37 = .ok (.ishl, 1) := by decide +kernel
theorem dX0_sampleByA_38 : decode cX0_sampleByA 38 = .ok (.istore 4, 2) := by decide +kernel
theorem dX0_sampleByA_40 : decode cX0_sampleByA 40 = .ok (.iload_n 1, 1) := by decide +kernel
theorem dX0_sampleByA_41 : decode cX0_sampleByA 41 = .ok (.sipush 128, 3) := by decide +kernel
theorem dX0_sampleByA_44 : decode cX0_sampleByA 44 = .ok (.iand, 1) := by decide +kernel
theorem dX0_sampleByA_45 : decode cX0_sampleByA 45 = .ok (.ifCond .eq 8, 3) := by decide +kernel
theorem dX0_sampleByA_48 : decode cX0_sampleByA 48 = .ok (.iload 4, 2) := by decide +kernel
theorem dX0_sampleByA_50 : decode cX0_sampleByA 50 = .ok (.goto 6, 3) := by decide +kernel
theorem dX0_sampleByA_53 : decode cX0_sampleByA 53 = .ok (.iload 4, 2) := by decide +kernel
theorem dX0_sampleByA_55 : decode cX0_sampleByA 55 = .ok (.ineg, 1) := by decide +kernel
theorem dX0_sampleByA_56 : decode cX0_sampleByA 56 = .ok (.ireturn, 1) := by decide +kernel
set_option maxRecDepth 20000 in
theorem ggX0_codeByA_X0_highestPlace : GoodIn wsX0_codeByA wsX0_highestPlace := goodIn_r _ [4, 5, 6, 7, 8, 9] (by decide +kernel) (by decide +kernel)
set_option maxRecDepth 20000 in
theorem gX0_codeByA_X0_highestPlace : GoodIn wsX0_codeByA (va_wsS RX0 123 yX0_highestPlace wsX0_highestPlace) := goodIn_app (goodIn_of _ (by decide +kernel)) ggX0_codeByA_X0_highestPlace
theorem dX0_codeByA_0 : decode cX0_codeByA 0 = .ok (.iload_n 0, 1) := by decide +kernel
theorem dX0_codeByA_1 : decode cX0_codeByA 1 = .ok (.ifCond .ge 9, 3) := by decide +kernel
theorem dX0_codeByA_4 : decode cX0_codeByA 4 = .ok (.iconst (-1), 1) := by decide +kernel
theorem dX0_codeByA_5 : decode cX0_codeByA 5 = .ok (.iload_n 0, 1) := by decide +kernel
theorem dX0_codeByA_6 : decode cX0_codeByA 6 = .ok (.isub, 1) := by decide +kernel
theorem dX0_codeByA_7 : decode cX0_codeByA 7 = .ok (.goto 4, 3) := by decide +kernel
theorem dX0_codeByA_10 : decode cX0_codeByA 10 = .ok (.iload_n 0, 1) := by decide +kernel
theorem dX0_codeByA_11 : decode cX0_codeByA 11 = .ok (.bipush 16, 2) := by decide +kernel
theorem dX0_codeByA_13 : decode cX0_codeByA 13 = .ok (.idiv, 1) := by decide +kernel
theorem dX0_codeByA_14 : decode cX0_codeByA 14 = .ok (.istore_n 1, 1) := by decide +kernel
theorem dX0_codeByA_15 : decode cX0_codeByA 15 = .ok (.iload_n 1, 1) := by decide +kernel
theorem dX0_codeByA_16 : decode cX0_codeByA 16 = .ok (.bipush 16, 2) := by decide +kernel
theorem dX0_codeByA_18 : decode cX0_codeByA 18 = .ok (.if_icmp .ge 7, 3) := by decide +kernel
theorem dX0_codeByA_21 : decode cX0_codeByA 21 = .ok (.iconst 0, 1) := by decide +kernel
theorem dX0_codeByA_22 : decode cX0_codeByA 22 = .ok (.goto 11, 3) := by decide +kernel
theorem dX0_codeByA_25 : decode cX0_codeByA 25 = .ok (.iload_n 1, 1) := by decide +kernel
theorem dX0_codeByA_26 : decode cX0_codeByA 26 = .ok (.invokestatic 123, 3) := by decide +kernel
theorem dX0_codeByA_29 : decode cX0_codeByA 29 = .ok (.iconst 4, 1) := by decide +kernel
theorem dX0_codeByA_30 : decode cX0_codeByA 30 = .ok (.isub, 1) := by decide +kernel
theorem dX0_codeByA_31 : decode cX0_codeByA 31 = .ok (.iconst 1, 1) := by decide +kernel
theorem dX0_codeByA_32 : decode cX0_codeByA 32 = .ok (.iadd, 1) := by decide +kernel
theorem dX0_codeByA_33 : decode cX0_codeByA 33 = .ok (.istore_n 2, 1) := by decide +kernel
theorem dX0_codeByA_34 : decode cX0_codeByA 34 = .ok (.iload_n 2, 1) := by decide +kernel
theorem dX0_codeByA_35 : decode cX0_codeByA 35 = .ok (.ifCond .ne 7, 3) := by decide +kernel
theorem dX0_codeByA_38 : decode cX0_codeByA 38 = .ok (.iload_n 1, 1) := by decide +kernel
theorem dX0_codeByA_39 : decode cX0_codeByA 39 = .ok (.goto 8, 3) := by decide +kernel
theorem dX0_codeByA_42 : decode cX0_codeByA 42 = .ok (.iload_n 1, 1) := by decide +kernel
theorem dX0_codeByA_43 : decode cX0_codeByA 43 = .ok (.iload_n 2, 1) := by decide +kernel
theorem dX0_codeByA_44 : decode cX0_codeByA 44 = .ok (.iconst 1, 1) := by decide +kernel
theorem dX0_codeByA_45 : decode cX0_codeByA 45 = .ok (.isub, 1) := by decide +kernel
theorem dX0_codeByA_46 : decode cX0_codeByA 46 = .ok (.ishr, 1) := by decide +kernel
theorem dX0_codeByA_47 : decode cX0_codeByA 47 = .ok (.bipush 15, 2) := by decide +kernel
theorem dX0_codeByA_49 : decode cX0_codeByA 49 = .ok (.iand, 1) := by decide +kernel
theorem dX0_codeByA_50 : decode cX0_codeByA 50 = .ok (.istore_n 3, 1) := by decide +kernel
theorem dX0_codeByA_51 : decode cX0_codeByA 51 = .ok (.iload_n 0, 1) := by decide +kernel
theorem dX0_codeByA_52 : decode cX0_codeByA 52 = .ok (.ifCond .ge 7, 3) := by decide +kernel
theorem dX0_codeByA_55 : decode cX0_codeByA 55 = .ok (.iconst 0, 1) := by decide +kernel
theorem dX0_codeByA_56 : decode cX0_codeByA 56 = .ok (.goto 6, 3) := by decide +kernel
theorem dX0_codeByA_59 : decode cX0_codeByA 59 = .ok (.sipush 128, 3) := by decide +kernel
theorem dX0_codeByA_62 : decode cX0_codeByA 62 = .ok (.istore 4, 2) := by decide +kernel
theorem dX0_codeByA_64 : decode cX0_codeByA 64 = .ok (.iload 4, 2) := by decide +kernel
theorem dX0_codeByA_66 : decode cX0_codeByA 66 = .ok (.iload_n 2, 1) := by decide +kernel
theorem dX0_codeByA_67 : decode cX0_codeByA 67 = .ok (.iconst 4, 1) := by decide +kernel
theorem dX0_codeByA_68 : decode cX0_codeByA 68 = .ok (.ishl, 1) := by decide +kernel
theorem dX0_codeByA_69 : decode cX0_codeByA 69 = .ok (.ior, 1) := by decide +kernel
theorem dX0_codeByA_70 : decode cX0_codeByA 70 = .ok (.iload_n 3, 1) := by decide +kernel
theorem dX0_codeByA_71 : decode cX0_codeByA 71 = .ok (.ior, 1) := by decide +kernel
theorem dX0_codeByA_72 : decode cX0_codeByA 72 = .ok (.bipush 85, 2) := by decide +kernel
theorem dX0_codeByA_74 : decode cX0_codeByA 74 = .ok (.ixor, 1) := by decide +kernel
theorem dX0_codeByA_75 : decode cX0_codeByA 75 = .ok (.ireturn, 1) := by decide +kernel
set_option maxRecDepth 20000 in
theorem ggX0_sampleByMu_X0_stepIn : GoodIn wsX0_sampleByMu wsX0_stepIn := goodIn_r _ [4] (by decide +kernel) (by decide +kernel)
set_option maxRecDepth 20000 in
theorem gX0_sampleByMu_X0_stepIn : GoodIn wsX0_sampleByMu (va_wsS RX0 120 yX0_stepIn wsX0_stepIn) := goodIn_app (goodIn_of _ (by decide +kernel)) ggX0_sampleByMu_X0_stepIn
set_option maxRecDepth 20000 in
theorem ggX0_sampleByMu_X0_segmentIn : GoodIn wsX0_sampleByMu wsX0_segmentIn := goodIn_r _ [7] (by decide +kernel) (by decide +kernel)
set_option maxRecDepth 20000 in
theorem gX0_sampleByMu_X0_segmentIn : GoodIn wsX0_sampleByMu (va_wsS RX0 117 yX0_segmentIn wsX0_segmentIn) := goodIn_app (goodIn_of _ (by decide +kernel)) ggX0_sampleByMu_X0_segmentIn
theorem dX0_sampleByMu_0 : decode cX0_sampleByMu 0 = .ok (.iload_n 0, 1) := by decide +kernel
theorem dX0_sampleByMu_1 : decode cX0_sampleByMu 1 = .ok (.sipush 255, 3) := by decide +kernel
theorem dX0_sampleByMu_4 : decode cX0_sampleByMu 4 = .ok (.ixor, 1) := by decide +kernel
theorem dX0_sampleByMu_5 : decode cX0_sampleByMu 5 = .ok (.istore_n 1, 1) := by decide +kernel
theorem dX0_sampleByMu_6 : decode cX0_sampleByMu 6 = .ok (.bipush 8, 2) := by decide +kernel
theorem dX0_sampleByMu_8 : decode cX0_sampleByMu 8 = .ok (.iload_n 1, 1) := by decide +kernel
theorem dX0_sampleByMu_9 : decode cX0_sampleByMu 9 = .ok (.invokestatic 120, 3) := by decide +kernel
theorem dX0_sampleByMu_12 : decode cX0_sampleByMu 12 = .ok (.imul, 1) := by decide +kernel
theorem dX0_sampleByMu_13 : decode cX0_sampleByMu 13 = .ok (.sipush 132, 3) := by decide +kernel
theorem dX0_sampleByMu_16 : decode cX0_sampleByMu 16 = .ok (.iadd, 1) := by decide +kernel
theorem dX0_sampleByMu_17 : decode cX0_sampleByMu 17 = .ok (.iload_n 1, 1) := by decide +kernel
theorem dX0_sampleByMu_18 : decode cX0_sampleByMu 18 = .ok (.invokestatic 117, 3) := by decide +kernel
theorem dX0_sampleByMu_21 : decode cX0_sampleByMu 21 = .ok (.ishl, 1) := by decide +kernel
theorem dX0_sampleByMu_22 : decode cX0_sampleByMu 22 = .ok (.sipush 132, 3) := by decide +kernel
theorem dX0_sampleByMu_25 : decode cX0_sampleByMu 25 = .ok (.isub, 1) := by decide +kernel
theorem dX0_sampleByMu_26 : decode cX0_sampleByMu 26 = .ok (.istore_n 2, 1) := by decide +kernel
theorem dX0_sampleByMu_27 : decode cX0_sampleByMu 27 = .ok (.iload_n 1, 1) := by decide +kernel
theorem dX0_sampleByMu_28 : decode cX0_sampleByMu 28 = .ok (.sipush 128, 3) := by decide +kernel
theorem dX0_sampleByMu_31 : decode cX0_sampleByMu 31 = .ok (.iand, 1) := by decide +kernel
theorem dX0_sampleByMu_32 : decode cX0_sampleByMu 32 = .ok (.ifCond .eq 8, 3) := by decide +kernel
theorem dX0_sampleByMu_35 : decode cX0_sampleByMu 35 = .ok (.iload_n 2, 1) := by decide +kernel
theorem dX0_sampleByMu_36 : decode cX0_sampleByMu 36 = .ok (.ineg, 1) := by decide +kernel
theorem dX0_sampleByMu_37 : decode cX0_sampleByMu 37 = .ok (.goto 4, 3) := by decide +kernel
theorem dX0_sampleByMu_40 : decode cX0_sampleByMu 40 = .ok (.iload_n 2, 1) := by decide +kernel
theorem dX0_sampleByMu_41 : decode cX0_sampleByMu 41 = .ok (.ireturn, 1) := by decide +kernel
set_option maxRecDepth 20000 in
theorem ggX0_codeByMu_X0_highestPlace : GoodIn wsX0_codeByMu wsX0_highestPlace := goodIn_r _ [11, 12, 13, 14, 15, 16] (by decide +kernel) (by decide +kernel)
set_option maxRecDepth 20000 in
theorem gX0_codeByMu_X0_highestPlace : GoodIn wsX0_codeByMu (va_wsS RX0 123 yX0_highestPlace wsX0_highestPlace) := goodIn_app (goodIn_of _ (by decide +kernel)) ggX0_codeByMu_X0_highestPlace
theorem dX0_codeByMu_0 : decode cX0_codeByMu 0 = .ok (.iload_n 0, 1) := by decide +kernel
theorem dX0_codeByMu_1 : decode cX0_codeByMu 1 = .ok (.invokestatic 126, 3) := by decide +kernel
theorem dX0_codeByMu_4 : decode cX0_codeByMu 4 = .ok (.sipush 32635, 3) := by decide +kernel
theorem dX0_codeByMu_7 : decode cX0_codeByMu 7 = .ok (.invokestatic 129, 3) := by decide +kernel
theorem dX0_codeByMu_10 : decode cX0_codeByMu 10 = .ok (.sipush 132, 3) := by decide +kernel
theorem dX0_codeByMu_13 : decode cX0_codeByMu 13 = .ok (.iadd, 1) := by decide +kernel
theorem dX0_codeByMu_14 : decode cX0_codeByMu 14 = .ok (.istore_n 1, 1) := by decide +kernel
theorem dX0_codeByMu_15 : decode cX0_codeByMu 15 = .ok (.iload_n 1, 1) := by decide +kernel
theorem dX0_codeByMu_16 : decode cX0_codeByMu 16 = .ok (.invokestatic 123, 3) := by decide +kernel
theorem dX0_codeByMu_19 : decode cX0_codeByMu 19 = .ok (.bipush 7, 2) := by decide +kernel
theorem dX0_codeByMu_21 : decode cX0_codeByMu 21 = .ok (.isub, 1) := by decide +kernel
theorem dX0_codeByMu_22 : decode cX0_codeByMu 22 = .ok (.istore_n 2, 1) := by decide +kernel
theorem dX0_codeByMu_23 : decode cX0_codeByMu 23 = .ok (.iload_n 1, 1) := by decide +kernel
theorem dX0_codeByMu_24 : decode cX0_codeByMu 24 = .ok (.iload_n 2, 1) := by decide +kernel
theorem dX0_codeByMu_25 : decode cX0_codeByMu 25 = .ok (.iconst 3, 1) := by decide +kernel
theorem dX0_codeByMu_26 : decode cX0_codeByMu 26 = .ok (.iadd, 1) := by decide +kernel
theorem dX0_codeByMu_27 : decode cX0_codeByMu 27 = .ok (.ishr, 1) := by decide +kernel
theorem dX0_codeByMu_28 : decode cX0_codeByMu 28 = .ok (.bipush 15, 2) := by decide +kernel
theorem dX0_codeByMu_30 : decode cX0_codeByMu 30 = .ok (.iand, 1) := by decide +kernel
theorem dX0_codeByMu_31 : decode cX0_codeByMu 31 = .ok (.istore_n 3, 1) := by decide +kernel
theorem dX0_codeByMu_32 : decode cX0_codeByMu 32 = .ok (.iload_n 0, 1) := by decide +kernel
theorem dX0_codeByMu_33 : decode cX0_codeByMu 33 = .ok (.ifCond .ge 9, 3) := by decide +kernel
theorem dX0_codeByMu_36 : decode cX0_codeByMu 36 = .ok (.sipush 128, 3) := by decide +kernel
theorem dX0_codeByMu_39 : decode cX0_codeByMu 39 = .ok (.goto 4, 3) := by decide +kernel
theorem dX0_codeByMu_42 : decode cX0_codeByMu 42 = .ok (.iconst 0, 1) := by decide +kernel
theorem dX0_codeByMu_43 : decode cX0_codeByMu 43 = .ok (.istore 4, 2) := by decide +kernel
theorem dX0_codeByMu_45 : decode cX0_codeByMu 45 = .ok (.iload 4, 2) := by decide +kernel
theorem dX0_codeByMu_47 : decode cX0_codeByMu 47 = .ok (.iload_n 2, 1) := by decide +kernel
theorem dX0_codeByMu_48 : decode cX0_codeByMu 48 = .ok (.iconst 4, 1) := by decide +kernel
theorem dX0_codeByMu_49 : decode cX0_codeByMu 49 = .ok (.ishl, 1) := by decide +kernel
theorem dX0_codeByMu_50 : decode cX0_codeByMu 50 = .ok (.ior, 1) := by decide +kernel
theorem dX0_codeByMu_51 : decode cX0_codeByMu 51 = .ok (.iload_n 3, 1) := by decide +kernel
theorem dX0_codeByMu_52 : decode cX0_codeByMu 52 = .ok (.ior, 1) := by decide +kernel
theorem dX0_codeByMu_53 : decode cX0_codeByMu 53 = .ok (.sipush 255, 3) := by decide +kernel
theorem dX0_codeByMu_56 : decode cX0_codeByMu 56 = .ok (.ixor, 1) := by decide +kernel
theorem dX0_codeByMu_57 : decode cX0_codeByMu 57 = .ok (.ireturn, 1) := by decide +kernel
theorem dX0_segmentIn_0 : decode cX0_segmentIn 0 = .ok (.iload_n 0, 1) := by decide +kernel
theorem dX0_segmentIn_1 : decode cX0_segmentIn 1 = .ok (.iconst 4, 1) := by decide +kernel
theorem dX0_segmentIn_2 : decode cX0_segmentIn 2 = .ok (.ishr, 1) := by decide +kernel
theorem dX0_segmentIn_3 : decode cX0_segmentIn 3 = .ok (.bipush 7, 2) := by decide +kernel
theorem dX0_segmentIn_5 : decode cX0_segmentIn 5 = .ok (.iand, 1) := by decide +kernel
theorem dX0_segmentIn_6 : decode cX0_segmentIn 6 = .ok (.ireturn, 1) := by decide +kernel
theorem dX0_stepIn_0 : decode cX0_stepIn 0 = .ok (.iload_n 0, 1) := by decide +kernel
theorem dX0_stepIn_1 : decode cX0_stepIn 1 = .ok (.bipush 15, 2) := by decide +kernel
theorem dX0_stepIn_3 : decode cX0_stepIn 3 = .ok (.iand, 1) := by decide +kernel
theorem dX0_stepIn_4 : decode cX0_stepIn 4 = .ok (.ireturn, 1) := by decide +kernel
set_option maxRecDepth 20000 in
theorem ggX0_highestPlace_J6_numberOfLeadingZeros_0f7a4 : GoodIn wsX0_highestPlace wsJ6_numberOfLeadingZeros_0f7a4 := goodIn_r _ [4, 5] (by decide +kernel) (by decide +kernel)
set_option maxRecDepth 20000 in
theorem gX0_highestPlace_J6_numberOfLeadingZeros_0f7a4 : GoodIn wsX0_highestPlace (va_wsS RX0 131 yJ6_numberOfLeadingZeros_0f7a4 wsJ6_numberOfLeadingZeros_0f7a4) := goodIn_app (goodIn_of _ (by decide +kernel)) ggX0_highestPlace_J6_numberOfLeadingZeros_0f7a4
theorem dX0_highestPlace_0 : decode cX0_highestPlace 0 = .ok (.bipush 31, 2) := by decide +kernel
theorem dX0_highestPlace_2 : decode cX0_highestPlace 2 = .ok (.iload_n 0, 1) := by decide +kernel
theorem dX0_highestPlace_3 : decode cX0_highestPlace 3 = .ok (.invokestatic 131, 3) := by decide +kernel
theorem dX0_highestPlace_6 : decode cX0_highestPlace 6 = .ok (.isub, 1) := by decide +kernel
theorem dX0_highestPlace_7 : decode cX0_highestPlace 7 = .ok (.ireturn, 1) := by decide +kernel
set_option maxRecDepth 20000 in
theorem ggX1_init_X1_codeOf : GoodIn wsX1_init wsX1_codeOf := goodIn_r _ [19] (by decide +kernel) (by decide +kernel)
set_option maxRecDepth 20000 in
theorem gX1_init_X1_codeOf : GoodIn wsX1_init (va_wsS RX1 40 yX1_codeOf wsX1_codeOf) := goodIn_app (goodIn_of _ (by decide +kernel)) ggX1_init_X1_codeOf
theorem dX1_init_0 : decode cX1_init 0 = .ok (.aload_n 0, 1) := by decide +kernel
theorem dX1_init_1 : decode cX1_init 1 = .ok (.invokespecial 1, 3) := by decide +kernel
theorem dX1_init_4 : decode cX1_init 4 = .ok (.aload_n 0, 1) := by decide +kernel
theorem dX1_init_5 : decode cX1_init 5 = .ok (.iconst 0, 1) := by decide +kernel
theorem dX1_init_6 : decode cX1_init 6 = .ok (.putfield 7, 3) := by decide +kernel
theorem dX1_init_9 : decode cX1_init 9 = .ok (.aload_n 0, 1) := by decide +kernel
theorem dX1_init_10 : decode cX1_init 10 = .ok (.bipush 8, 2) := by decide +kernel
theorem dX1_init_12 : decode cX1_init 12 = .ok (.newarray .int, 2) := by decide +kernel
theorem dX1_init_14 : decode cX1_init 14 = .ok (.putfield 13, 3) := by decide +kernel
theorem dX1_init_17 : decode cX1_init 17 = .ok (.aload_n 0, 1) := by decide +kernel
theorem dX1_init_18 : decode cX1_init 18 = .ok (.bipush 8, 2) := by decide +kernel
theorem dX1_init_20 : decode cX1_init 20 = .ok (.newarray .int, 2) := by decide +kernel
theorem dX1_init_22 : decode cX1_init 22 = .ok (.putfield 17, 3) := by decide +kernel
theorem dX1_init_25 : decode cX1_init 25 = .ok (.aload_n 0, 1) := by decide +kernel
theorem dX1_init_26 : decode cX1_init 26 = .ok (.bipush 8, 2) := by decide +kernel
theorem dX1_init_28 : decode cX1_init 28 = .ok (.newarray .boolean, 2) := by decide +kernel
theorem dX1_init_30 : decode cX1_init 30 = .ok (.putfield 20, 3) := by decide +kernel
theorem dX1_init_33 : decode cX1_init 33 = .ok (.aload_n 0, 1) := by decide +kernel
theorem dX1_init_34 : decode cX1_init 34 = .ok (.bipush 64, 2) := by decide +kernel
theorem dX1_init_36 : decode cX1_init 36 = .ok (.newarray .int, 2) := by decide +kernel
theorem dX1_init_38 : decode cX1_init 38 = .ok (.putfield 24, 3) := by decide +kernel
theorem dX1_init_41 : decode cX1_init 41 = .ok (.aload_n 0, 1) := by decide +kernel
theorem dX1_init_42 : decode cX1_init 42 = .ok (.bipush 64, 2) := by decide +kernel
theorem dX1_init_44 : decode cX1_init 44 = .ok (.newarray .int, 2) := by decide +kernel
theorem dX1_init_46 : decode cX1_init 46 = .ok (.putfield 27, 3) := by decide +kernel
theorem dX1_init_49 : decode cX1_init 49 = .ok (.aload_n 0, 1) := by decide +kernel
theorem dX1_init_50 : decode cX1_init 50 = .ok (.bipush 64, 2) := by decide +kernel
theorem dX1_init_52 : decode cX1_init 52 = .ok (.newarray .int, 2) := by decide +kernel
theorem dX1_init_54 : decode cX1_init 54 = .ok (.putfield 30, 3) := by decide +kernel
theorem dX1_init_57 : decode cX1_init 57 = .ok (.aload_n 0, 1) := by decide +kernel
theorem dX1_init_58 : decode cX1_init 58 = .ok (.bipush 8, 2) := by decide +kernel
theorem dX1_init_60 : decode cX1_init 60 = .ok (.newarray .long, 2) := by decide +kernel
theorem dX1_init_62 : decode cX1_init 62 = .ok (.putfield 33, 3) := by decide +kernel
theorem dX1_init_65 : decode cX1_init 65 = .ok (.aload_n 0, 1) := by decide +kernel
theorem dX1_init_66 : decode cX1_init 66 = .ok (.iconst 3, 1) := by decide +kernel
theorem dX1_init_67 : decode cX1_init 67 = .ok (.putfield 37, 3) := by decide +kernel
theorem dX1_init_70 : decode cX1_init 70 = .ok (.iconst 0, 1) := by decide +kernel
theorem dX1_init_71 : decode cX1_init 71 = .ok (.istore_n 1, 1) := by decide +kernel
theorem dX1_init_72 : decode cX1_init 72 = .ok (.iload_n 1, 1) := by decide +kernel
theorem dX1_init_73 : decode cX1_init 73 = .ok (.bipush 8, 2) := by decide +kernel
theorem dX1_init_75 : decode cX1_init 75 = .ok (.if_icmp .ge 84, 3) := by decide +kernel
theorem dX1_init_78 : decode cX1_init 78 = .ok (.aload_n 0, 1) := by decide +kernel
theorem dX1_init_79 : decode cX1_init 79 = .ok (.getfield 13, 3) := by decide +kernel
theorem dX1_init_82 : decode cX1_init 82 = .ok (.iload_n 1, 1) := by decide +kernel
theorem dX1_init_83 : decode cX1_init 83 = .ok (.iload_n 1, 1) := by decide +kernel
theorem dX1_init_84 : decode cX1_init 84 = .ok (.iconst 2, 1) := by decide +kernel
theorem dX1_init_85 : decode cX1_init 85 = .ok (.irem, 1) := by decide +kernel
theorem dX1_init_86 : decode cX1_init 86 = .ok (.iastore, 1) := by decide +kernel
theorem dX1_init_87 : decode cX1_init 87 = .ok (.aload_n 0, 1) := by decide +kernel
theorem dX1_init_88 : decode cX1_init 88 = .ok (.getfield 17, 3) := by decide +kernel
theorem dX1_init_91 : decode cX1_init 91 = .ok (.iload_n 1, 1) := by decide +kernel
theorem dX1_init_92 : decode cX1_init 92 = .ok (.sipush 256, 3) := by decide +kernel
theorem dX1_init_95 : decode cX1_init 95 = .ok (.iastore, 1) := by decide +kernel
theorem dX1_init_96 : decode cX1_init 96 = .ok (.iconst 0, 1) := by decide +kernel
theorem dX1_init_97 : decode cX1_init 97 = .ok (.istore_n 2, 1) := by decide +kernel
theorem dX1_init_98 : decode cX1_init 98 = .ok (.iload_n 2, 1) := by decide +kernel
theorem dX1_init_99 : decode cX1_init 99 = .ok (.bipush 8, 2) := by decide +kernel
theorem dX1_init_101 : decode cX1_init 101 = .ok (.if_icmp .ge 52, 3) := by decide +kernel
theorem dX1_init_104 : decode cX1_init 104 = .ok (.aload_n 0, 1) := by decide +kernel
theorem dX1_init_105 : decode cX1_init 105 = .ok (.getfield 24, 3) := by decide +kernel
theorem dX1_init_108 : decode cX1_init 108 = .ok (.bipush 8, 2) := by decide +kernel
theorem dX1_init_110 : decode cX1_init 110 = .ok (.iload_n 1, 1) := by decide +kernel
theorem dX1_init_111 : decode cX1_init 111 = .ok (.imul, 1) := by decide +kernel
theorem dX1_init_112 : decode cX1_init 112 = .ok (.iload_n 2, 1) := by decide +kernel
theorem dX1_init_113 : decode cX1_init 113 = .ok (.iadd, 1) := by decide +kernel
theorem dX1_init_114 : decode cX1_init 114 = .ok (.aload_n 0, 1) := by decide +kernel
theorem dX1_init_115 : decode cX1_init 115 = .ok (.getfield 13, 3) := by decide +kernel
theorem dX1_init_118 : decode cX1_init 118 = .ok (.iload_n 1, 1) := by decide +kernel
theorem dX1_init_119 : decode cX1_init 119 = .ok (.iaload, 1) := by decide +kernel
theorem dX1_init_120 : decode cX1_init 120 = .ok (.iconst 0, 1) := by decide +kernel
theorem dX1_init_121 : decode cX1_init 121 = .ok (.invokestatic 40, 3) := by decide +kernel
theorem dX1_init_124 : decode cX1_init 124 = .ok (.iastore, 1) := by decide +kernel
theorem dX1_init_125 : decode cX1_init 125 = .ok (.aload_n 0, 1) := by decide +kernel
theorem dX1_init_126 : decode cX1_init 126 = .ok (.getfield 27, 3) := by decide +kernel
theorem dX1_init_129 : decode cX1_init 129 = .ok (.bipush 8, 2) := by decide +kernel
theorem dX1_init_131 : decode cX1_init 131 = .ok (.iload_n 1, 1) := by decide +kernel
theorem dX1_init_132 : decode cX1_init 132 = .ok (.imul, 1) := by decide +kernel
theorem dX1_init_133 : decode cX1_init 133 = .ok (.iload_n 2, 1) := by decide +kernel
theorem dX1_init_134 : decode cX1_init 134 = .ok (.iadd, 1) := by decide +kernel
theorem dX1_init_135 : decode cX1_init 135 = .ok (.aload_n 0, 1) := by decide +kernel
theorem dX1_init_136 : decode cX1_init 136 = .ok (.getfield 24, 3) := by decide +kernel
theorem dX1_init_139 : decode cX1_init 139 = .ok (.bipush 8, 2) := by decide +kernel
theorem dX1_init_141 : decode cX1_init 141 = .ok (.iload_n 1, 1) := by decide +kernel
theorem dX1_init_142 : decode cX1_init 142 = .ok (.imul, 1) := by decide +kernel
theorem dX1_init_143 : decode cX1_init 143 = .ok (.iload_n 2, 1) := by decide +kernel
theorem dX1_init_144 : decode cX1_init 144 = .ok (.iadd, 1) := by decide +kernel
theorem dX1_init_145 : decode cX1_init 145 = .ok (.iaload, 1) := by decide +kernel
theorem dX1_init_146 : decode cX1_init 146 = .ok (.iastore, 1) := by decide +kernel
theorem dX1_init_147 : decode cX1_init 147 = .ok (.iinc 2 1, 3) := by decide +kernel
theorem dX1_init_150 : decode cX1_init 150 = .ok (.goto (-52), 3) := by decide +kernel
theorem dX1_init_153 : decode cX1_init 153 = .ok (.iinc 1 1, 3) := by decide +kernel
theorem dX1_init_156 : decode cX1_init 156 = .ok (.goto (-84), 3) := by decide +kernel
theorem dX1_init_159 : decode cX1_init 159 = .ok (.return_, 1) := by decide +kernel
theorem dX1_meaning_0 : decode cX1_meaning 0 = .ok (.iload_n 0, 1) := by decide +kernel
theorem dX1_meaning_1 : decode cX1_meaning 1 = .ok (.ifCond .ne 10, 3) := by decide +kernel
theorem dX1_meaning_4 : decode cX1_meaning 4 = .ok (.iload_n 1, 1) := by decide +kernel
theorem dX1_meaning_5 : decode cX1_meaning 5 = .ok (.bipush 85, 2) := by decide +kernel
theorem dX1_meaning_7 : decode cX1_meaning 7 = .ok (.ixor, 1) := by decide +kernel
theorem dX1_meaning_8 : decode cX1_meaning 8 = .ok (.goto 8, 3) := by decide +kernel
theorem dX1_meaning_11 : decode cX1_meaning 11 = .ok (.sipush 255, 3) := by decide +kernel
theorem dX1_meaning_14 : decode cX1_meaning 14 = .ok (.iload_n 1, 1) := by decide +kernel
theorem dX1_meaning_15 : decode cX1_meaning 15 = .ok (.isub, 1) := by decide +kernel
theorem dX1_meaning_16 : decode cX1_meaning 16 = .ok (.istore_n 2, 1) := by decide +kernel
theorem dX1_meaning_17 : decode cX1_meaning 17 = .ok (.iload_n 2, 1) := by decide +kernel
theorem dX1_meaning_18 : decode cX1_meaning 18 = .ok (.bipush 16, 2) := by decide +kernel
theorem dX1_meaning_20 : decode cX1_meaning 20 = .ok (.idiv, 1) := by decide +kernel
theorem dX1_meaning_21 : decode cX1_meaning 21 = .ok (.bipush 8, 2) := by decide +kernel
theorem dX1_meaning_23 : decode cX1_meaning 23 = .ok (.irem, 1) := by decide +kernel
theorem dX1_meaning_24 : decode cX1_meaning 24 = .ok (.istore_n 3, 1) := by decide +kernel
theorem dX1_meaning_25 : decode cX1_meaning 25 = .ok (.iload_n 2, 1) := by decide +kernel
theorem dX1_meaning_26 : decode cX1_meaning 26 = .ok (.bipush 16, 2) := by decide +kernel
theorem dX1_meaning_28 : decode cX1_meaning 28 = .ok (.irem, 1) := by decide +kernel
theorem dX1_meaning_29 : decode cX1_meaning 29 = .ok (.istore 4, 2) := by decide +kernel
theorem dX1_meaning_31 : decode cX1_meaning 31 = .ok (.bipush 16, 2) := by decide +kernel
theorem dX1_meaning_33 : decode cX1_meaning 33 = .ok (.iload 4, 2) := by decide +kernel
theorem dX1_meaning_35 : decode cX1_meaning 35 = .ok (.imul, 1) := by decide +kernel
theorem dX1_meaning_36 : decode cX1_meaning 36 = .ok (.bipush 8, 2) := by decide +kernel
theorem dX1_meaning_38 : decode cX1_meaning 38 = .ok (.iadd, 1) := by decide +kernel
theorem dX1_meaning_39 : decode cX1_meaning 39 = .ok (.istore 5, 2) := by decide +kernel
theorem dX1_meaning_41 : decode cX1_meaning 41 = .ok (.iload_n 0, 1) := by decide +kernel
theorem dX1_meaning_42 : decode cX1_meaning 42 = .ok (.ifCond .ne 18, 3) := by decide +kernel
theorem dX1_meaning_45 : decode cX1_meaning 45 = .ok (.iload_n 3, 1) := by decide +kernel
theorem dX1_meaning_46 : decode cX1_meaning 46 = .ok (.ifCond .le 14, 3) := by decide +kernel
theorem dX1_meaning_49 : decode cX1_meaning 49 = .ok (.bipush 16, 2) := by decide +kernel
theorem dX1_meaning_51 : decode cX1_meaning 51 = .ok (.iload 4, 2) := by decide +kernel
theorem dX1_meaning_53 : decode cX1_meaning 53 = .ok (.imul, 1) := by decide +kernel
theorem dX1_meaning_54 : decode cX1_meaning 54 = .ok (.sipush 264, 3) := by decide +kernel
theorem dX1_meaning_57 : decode cX1_meaning 57 = .ok (.iadd, 1) := by decide +kernel
theorem dX1_meaning_58 : decode cX1_meaning 58 = .ok (.istore 5, 2) := by decide +kernel
theorem dX1_meaning_60 : decode cX1_meaning 60 = .ok (.iconst 1, 1) := by decide +kernel
theorem dX1_meaning_61 : decode cX1_meaning 61 = .ok (.istore 6, 2) := by decide +kernel
theorem dX1_meaning_63 : decode cX1_meaning 63 = .ok (.iload 6, 2) := by decide +kernel
theorem dX1_meaning_65 : decode cX1_meaning 65 = .ok (.iload_n 3, 1) := by decide +kernel
theorem dX1_meaning_66 : decode cX1_meaning 66 = .ok (.if_icmp .ge 19, 3) := by decide +kernel
theorem dX1_meaning_69 : decode cX1_meaning 69 = .ok (.iload_n 0, 1) := by decide +kernel
theorem dX1_meaning_70 : decode cX1_meaning 70 = .ok (.ifCond .ne 15, 3) := by decide +kernel
theorem dX1_meaning_73 : decode cX1_meaning 73 = .ok (.iconst 2, 1) := by decide +kernel
theorem dX1_meaning_74 : decode cX1_meaning 74 = .ok (.iload 5, 2) := by decide +kernel
theorem dX1_meaning_76 : decode cX1_meaning 76 = .ok (.imul, 1) := by decide +kernel
theorem dX1_meaning_77 : decode cX1_meaning 77 = .ok (.istore 5, 2) := by decide +kernel
theorem dX1_meaning_79 : decode cX1_meaning 79 = .ok (.iinc 6 1, 3) := by decide +kernel
theorem dX1_meaning_82 : decode cX1_meaning 82 = .ok (.goto (-19), 3) := by decide +kernel
theorem dX1_meaning_85 : decode cX1_meaning 85 = .ok (.iload_n 0, 1) := by decide +kernel
theorem dX1_meaning_86 : decode cX1_meaning 86 = .ok (.iconst 1, 1) := by decide +kernel
theorem dX1_meaning_87 : decode cX1_meaning 87 = .ok (.if_icmp .ne 41, 3) := by decide +kernel
theorem dX1_meaning_90 : decode cX1_meaning 90 = .ok (.bipush 8, 2) := by decide +kernel
theorem dX1_meaning_92 : decode cX1_meaning 92 = .ok (.iload 4, 2) := by decide +kernel
theorem dX1_meaning_94 : decode cX1_meaning 94 = .ok (.imul, 1) := by decide +kernel
theorem dX1_meaning_95 : decode cX1_meaning 95 = .ok (.sipush 132, 3) := by decide +kernel
theorem dX1_meaning_98 : decode cX1_meaning 98 = .ok (.iadd, 1) := by decide +kernel
theorem dX1_meaning_99 : decode cX1_meaning 99 = .ok (.istore 5, 2) := by decide +kernel
theorem dX1_meaning_101 : decode cX1_meaning 101 = .ok (.iconst 0, 1) := by decide +kernel
theorem dX1_meaning_102 : decode cX1_meaning 102 = .ok (.istore 6, 2) := by decide +kernel
theorem dX1_meaning_104 : decode cX1_meaning 104 = .ok (.iload 6, 2) := by decide +kernel
theorem dX1_meaning_106 : decode cX1_meaning 106 = .ok (.iload_n 3, 1) := by decide +kernel
theorem dX1_meaning_107 : decode cX1_meaning 107 = .ok (.if_icmp .ge 15, 3) := by decide +kernel
theorem dX1_meaning_110 : decode cX1_meaning 110 = .ok (.iconst 2, 1) := by decide +kernel
theorem dX1_meaning_111 : decode cX1_meaning 111 = .ok (.iload 5, 2) := by decide +kernel
theorem dX1_meaning_113 : decode cX1_meaning 113 = .ok (.imul, 1) := by decide +kernel
theorem dX1_meaning_114 : decode cX1_meaning 114 = .ok (.istore 5, 2) := by decide +kernel
theorem dX1_meaning_116 : decode cX1_meaning 116 = .ok (.iinc 6 1, 3) := by decide +kernel
theorem dX1_meaning_119 : decode cX1_meaning 119 = .ok (.goto (-15), 3) := by decide +kernel
theorem dX1_meaning_122 : decode cX1_meaning 122 = .ok (.iinc 5 (-132), 6) := by decide +kernel
theorem dX1_meaning_128 : decode cX1_meaning 128 = .ok (.iload_n 0, 1) := by decide +kernel
theorem dX1_meaning_129 : decode cX1_meaning 129 = .ok (.ifCond .ne 18, 3) := by decide +kernel
theorem dX1_meaning_132 : decode cX1_meaning 132 = .ok (.iload_n 2, 1) := by decide +kernel
theorem dX1_meaning_133 : decode cX1_meaning 133 = .ok (.sipush 128, 3) := by decide +kernel
theorem dX1_meaning_136 : decode cX1_meaning 136 = .ok (.if_icmp .ge 7, 3) := by decide +kernel
theorem dX1_meaning_139 : decode cX1_meaning 139 = .ok (.iconst 1, 1) := by decide +kernel
theorem dX1_meaning_140 : decode cX1_meaning 140 = .ok (.goto 18, 3) := by decide +kernel
theorem dX1_meaning_143 : decode cX1_meaning 143 = .ok (.iconst 0, 1) := by decide +kernel
theorem dX1_meaning_144 : decode cX1_meaning 144 = .ok (.goto 14, 3) := by decide +kernel
theorem dX1_meaning_147 : decode cX1_meaning 147 = .ok (.iload_n 2, 1) := by decide +kernel
theorem dX1_meaning_148 : decode cX1_meaning 148 = .ok (.bipush 127, 2) := by decide +kernel
theorem dX1_meaning_150 : decode cX1_meaning 150 = .ok (.if_icmp .le 7, 3) := by decide +kernel
theorem dX1_meaning_153 : decode cX1_meaning 153 = .ok (.iconst 1, 1) := by decide +kernel
theorem dX1_meaning_154 : decode cX1_meaning 154 = .ok (.goto 4, 3) := by decide +kernel
theorem dX1_meaning_157 : decode cX1_meaning 157 = .ok (.iconst 0, 1) := by decide +kernel
theorem dX1_meaning_158 : decode cX1_meaning 158 = .ok (.istore 6, 2) := by decide +kernel
theorem dX1_meaning_160 : decode cX1_meaning 160 = .ok (.iload 6, 2) := by decide +kernel
theorem dX1_meaning_162 : decode cX1_meaning 162 = .ok (.ifCond .eq 9, 3) := by decide +kernel
theorem dX1_meaning_165 : decode cX1_meaning 165 = .ok (.iload 5, 2) := by decide +kernel
theorem dX1_meaning_167 : decode cX1_meaning 167 = .ok (.ineg, 1) := by decide +kernel
theorem dX1_meaning_168 : decode cX1_meaning 168 = .ok (.goto 5, 3) := by decide +kernel
theorem dX1_meaning_171 : decode cX1_meaning 171 = .ok (.iload 5, 2) := by decide +kernel
theorem dX1_meaning_173 : decode cX1_meaning 173 = .ok (.ireturn, 1) := by decide +kernel
theorem dX1_held_0 : decode cX1_held 0 = .ok (.lload_n 0, 1) := by decide +kernel
theorem dX1_held_1 : decode cX1_held 1 = .ok (.ldc2_w 44, 3) := by decide +kernel
theorem dX1_held_4 : decode cX1_held 4 = .ok (.lcmp, 1) := by decide +kernel
theorem dX1_held_5 : decode cX1_held 5 = .ok (.ifCond .le 9, 3) := by decide +kernel
theorem dX1_held_8 : decode cX1_held 8 = .ok (.sipush 32767, 3) := by decide +kernel
theorem dX1_held_11 : decode cX1_held 11 = .ok (.goto 19, 3) := by decide +kernel
theorem dX1_held_14 : decode cX1_held 14 = .ok (.lload_n 0, 1) := by decide +kernel
theorem dX1_held_15 : decode cX1_held 15 = .ok (.ldc2_w 46, 3) := by decide +kernel
theorem dX1_held_18 : decode cX1_held 18 = .ok (.lcmp, 1) := by decide +kernel
theorem dX1_held_19 : decode cX1_held 19 = .ok (.ifCond .ge 9, 3) := by decide +kernel
theorem dX1_held_22 : decode cX1_held 22 = .ok (.sipush (-32768), 3) := by decide +kernel
theorem dX1_held_25 : decode cX1_held 25 = .ok (.goto 5, 3) := by decide +kernel
theorem dX1_held_28 : decode cX1_held 28 = .ok (.lload_n 0, 1) := by decide +kernel
theorem dX1_held_29 : decode cX1_held 29 = .ok (.l2i, 1) := by decide +kernel
theorem dX1_held_30 : decode cX1_held 30 = .ok (.ireturn, 1) := by decide +kernel
theorem dX1_codeOf_0 : decode cX1_codeOf 0 = .ok (.iload_n 0, 1) := by decide +kernel
theorem dX1_codeOf_1 : decode cX1_codeOf 1 = .ok (.ifCond .ne 73, 3) := by decide +kernel
theorem dX1_codeOf_4 : decode cX1_codeOf 4 = .ok (.iload_n 1, 1) := by decide +kernel
theorem dX1_codeOf_5 : decode cX1_codeOf 5 = .ok (.ifCond .ge 12, 3) := by decide +kernel
theorem dX1_codeOf_8 : decode cX1_codeOf 8 = .ok (.iconst (-1), 1) := by decide +kernel
theorem dX1_codeOf_9 : decode cX1_codeOf 9 = .ok (.iload_n 1, 1) := by decide +kernel
theorem dX1_codeOf_10 : decode cX1_codeOf 10 = .ok (.isub, 1) := by decide +kernel
theorem dX1_codeOf_11 : decode cX1_codeOf 11 = .ok (.bipush 16, 2) := by decide +kernel
theorem dX1_codeOf_13 : decode cX1_codeOf 13 = .ok (.idiv, 1) := by decide +kernel
theorem dX1_codeOf_14 : decode cX1_codeOf 14 = .ok (.goto 7, 3) := by decide +kernel
theorem dX1_codeOf_17 : decode cX1_codeOf 17 = .ok (.iload_n 1, 1) := by decide +kernel
theorem dX1_codeOf_18 : decode cX1_codeOf 18 = .ok (.bipush 16, 2) := by decide +kernel
theorem dX1_codeOf_20 : decode cX1_codeOf 20 = .ok (.idiv, 1) := by decide +kernel
theorem dX1_codeOf_21 : decode cX1_codeOf 21 = .ok (.istore_n 2, 1) := by decide +kernel
theorem dX1_codeOf_22 : decode cX1_codeOf 22 = .ok (.iconst 0, 1) := by decide +kernel
theorem dX1_codeOf_23 : decode cX1_codeOf 23 = .ok (.istore_n 3, 1) := by decide +kernel
theorem dX1_codeOf_24 : decode cX1_codeOf 24 = .ok (.iload_n 2, 1) := by decide +kernel
theorem dX1_codeOf_25 : decode cX1_codeOf 25 = .ok (.bipush 32, 2) := by decide +kernel
theorem dX1_codeOf_27 : decode cX1_codeOf 27 = .ok (.if_icmp .lt 13, 3) := by decide +kernel
theorem dX1_codeOf_30 : decode cX1_codeOf 30 = .ok (.iload_n 2, 1) := by decide +kernel
theorem dX1_codeOf_31 : decode cX1_codeOf 31 = .ok (.iconst 2, 1) := by decide +kernel
theorem dX1_codeOf_32 : decode cX1_codeOf 32 = .ok (.idiv, 1) := by decide +kernel
theorem dX1_codeOf_33 : decode cX1_codeOf 33 = .ok (.istore_n 2, 1) := by decide +kernel
theorem dX1_codeOf_34 : decode cX1_codeOf 34 = .ok (.iinc 3 1, 3) := by decide +kernel
theorem dX1_codeOf_37 : decode cX1_codeOf 37 = .ok (.goto (-13), 3) := by decide +kernel
theorem dX1_codeOf_40 : decode cX1_codeOf 40 = .ok (.iload_n 2, 1) := by decide +kernel
theorem dX1_codeOf_41 : decode cX1_codeOf 41 = .ok (.bipush 16, 2) := by decide +kernel
theorem dX1_codeOf_43 : decode cX1_codeOf 43 = .ok (.if_icmp .lt 6, 3) := by decide +kernel
theorem dX1_codeOf_46 : decode cX1_codeOf 46 = .ok (.iinc 3 1, 3) := by decide +kernel
theorem dX1_codeOf_49 : decode cX1_codeOf 49 = .ok (.iload_n 1, 1) := by decide +kernel
theorem dX1_codeOf_50 : decode cX1_codeOf 50 = .ok (.ifCond .ge 7, 3) := by decide +kernel
theorem dX1_codeOf_53 : decode cX1_codeOf 53 = .ok (.iconst 0, 1) := by decide +kernel
theorem dX1_codeOf_54 : decode cX1_codeOf 54 = .ok (.goto 6, 3) := by decide +kernel
theorem dX1_codeOf_57 : decode cX1_codeOf 57 = .ok (.sipush 128, 3) := by decide +kernel
theorem dX1_codeOf_60 : decode cX1_codeOf 60 = .ok (.bipush 16, 2) := by decide +kernel
theorem dX1_codeOf_62 : decode cX1_codeOf 62 = .ok (.iload_n 3, 1) := by decide +kernel
theorem dX1_codeOf_63 : decode cX1_codeOf 63 = .ok (.imul, 1) := by decide +kernel
theorem dX1_codeOf_64 : decode cX1_codeOf 64 = .ok (.iadd, 1) := by decide +kernel
theorem dX1_codeOf_65 : decode cX1_codeOf 65 = .ok (.iload_n 2, 1) := by decide +kernel
theorem dX1_codeOf_66 : decode cX1_codeOf 66 = .ok (.bipush 16, 2) := by decide +kernel
theorem dX1_codeOf_68 : decode cX1_codeOf 68 = .ok (.irem, 1) := by decide +kernel
theorem dX1_codeOf_69 : decode cX1_codeOf 69 = .ok (.iadd, 1) := by decide +kernel
theorem dX1_codeOf_70 : decode cX1_codeOf 70 = .ok (.bipush 85, 2) := by decide +kernel
theorem dX1_codeOf_72 : decode cX1_codeOf 72 = .ok (.ixor, 1) := by decide +kernel
theorem dX1_codeOf_73 : decode cX1_codeOf 73 = .ok (.ireturn, 1) := by decide +kernel
theorem dX1_codeOf_74 : decode cX1_codeOf 74 = .ok (.iload_n 1, 1) := by decide +kernel
theorem dX1_codeOf_75 : decode cX1_codeOf 75 = .ok (.ifCond .ge 8, 3) := by decide +kernel
theorem dX1_codeOf_78 : decode cX1_codeOf 78 = .ok (.iload_n 1, 1) := by decide +kernel
theorem dX1_codeOf_79 : decode cX1_codeOf 79 = .ok (.ineg, 1) := by decide +kernel
theorem dX1_codeOf_80 : decode cX1_codeOf 80 = .ok (.goto 4, 3) := by decide +kernel
theorem dX1_codeOf_83 : decode cX1_codeOf 83 = .ok (.iload_n 1, 1) := by decide +kernel
theorem dX1_codeOf_84 : decode cX1_codeOf 84 = .ok (.istore_n 2, 1) := by decide +kernel
theorem dX1_codeOf_85 : decode cX1_codeOf 85 = .ok (.iload_n 2, 1) := by decide +kernel
theorem dX1_codeOf_86 : decode cX1_codeOf 86 = .ok (.sipush 32635, 3) := by decide +kernel
theorem dX1_codeOf_89 : decode cX1_codeOf 89 = .ok (.if_icmp .le 7, 3) := by decide +kernel
theorem dX1_codeOf_92 : decode cX1_codeOf 92 = .ok (.sipush 32635, 3) := by decide +kernel
theorem dX1_codeOf_95 : decode cX1_codeOf 95 = .ok (.istore_n 2, 1) := by decide +kernel
theorem dX1_codeOf_96 : decode cX1_codeOf 96 = .ok (.iinc 2 132, 6) := by decide +kernel
theorem dX1_codeOf_102 : decode cX1_codeOf 102 = .ok (.iconst 0, 1) := by decide +kernel
theorem dX1_codeOf_103 : decode cX1_codeOf 103 = .ok (.istore_n 3, 1) := by decide +kernel
theorem dX1_codeOf_104 : decode cX1_codeOf 104 = .ok (.iload_n 2, 1) := by decide +kernel
theorem dX1_codeOf_105 : decode cX1_codeOf 105 = .ok (.sipush 256, 3) := by decide +kernel
theorem dX1_codeOf_108 : decode cX1_codeOf 108 = .ok (.if_icmp .lt 13, 3) := by decide +kernel
theorem dX1_codeOf_111 : decode cX1_codeOf 111 = .ok (.iload_n 2, 1) := by decide +kernel
theorem dX1_codeOf_112 : decode cX1_codeOf 112 = .ok (.iconst 2, 1) := by decide +kernel
theorem dX1_codeOf_113 : decode cX1_codeOf 113 = .ok (.idiv, 1) := by decide +kernel
theorem dX1_codeOf_114 : decode cX1_codeOf 114 = .ok (.istore_n 2, 1) := by decide +kernel
theorem dX1_codeOf_115 : decode cX1_codeOf 115 = .ok (.iinc 3 1, 3) := by decide +kernel
theorem dX1_codeOf_118 : decode cX1_codeOf 118 = .ok (.goto (-14), 3) := by decide +kernel
theorem dX1_codeOf_121 : decode cX1_codeOf 121 = .ok (.sipush 255, 3) := by decide +kernel
theorem dX1_codeOf_124 : decode cX1_codeOf 124 = .ok (.iload_n 1, 1) := by decide +kernel
theorem dX1_codeOf_125 : decode cX1_codeOf 125 = .ok (.ifCond .ge 9, 3) := by decide +kernel
theorem dX1_codeOf_128 : decode cX1_codeOf 128 = .ok (.sipush 128, 3) := by decide +kernel
theorem dX1_codeOf_131 : decode cX1_codeOf 131 = .ok (.goto 4, 3) := by decide +kernel
theorem dX1_codeOf_134 : decode cX1_codeOf 134 = .ok (.iconst 0, 1) := by decide +kernel
theorem dX1_codeOf_135 : decode cX1_codeOf 135 = .ok (.bipush 16, 2) := by decide +kernel
theorem dX1_codeOf_137 : decode cX1_codeOf 137 = .ok (.iload_n 3, 1) := by decide +kernel
theorem dX1_codeOf_138 : decode cX1_codeOf 138 = .ok (.imul, 1) := by decide +kernel
theorem dX1_codeOf_139 : decode cX1_codeOf 139 = .ok (.iadd, 1) := by decide +kernel
theorem dX1_codeOf_140 : decode cX1_codeOf 140 = .ok (.iload_n 2, 1) := by decide +kernel
theorem dX1_codeOf_141 : decode cX1_codeOf 141 = .ok (.bipush 8, 2) := by decide +kernel
theorem dX1_codeOf_143 : decode cX1_codeOf 143 = .ok (.idiv, 1) := by decide +kernel
theorem dX1_codeOf_144 : decode cX1_codeOf 144 = .ok (.bipush 16, 2) := by decide +kernel
theorem dX1_codeOf_146 : decode cX1_codeOf 146 = .ok (.irem, 1) := by decide +kernel
theorem dX1_codeOf_147 : decode cX1_codeOf 147 = .ok (.iadd, 1) := by decide +kernel
theorem dX1_codeOf_148 : decode cX1_codeOf 148 = .ok (.isub, 1) := by decide +kernel
theorem dX1_codeOf_149 : decode cX1_codeOf 149 = .ok (.ireturn, 1) := by decide +kernel
set_option maxRecDepth 20000 in
theorem ggX1_scaled_X1_held : GoodIn wsX1_scaled wsX1_held := goodIn_r _ [4, 5, 6] (by decide +kernel) (by decide +kernel)
set_option maxRecDepth 20000 in
theorem gX1_scaled_X1_held : GoodIn wsX1_scaled (va_wsS RX1 48 yX1_held wsX1_held) := goodIn_app (goodIn_of _ (by decide +kernel)) ggX1_scaled_X1_held
theorem dX1_scaled_0 : decode cX1_scaled 0 = .ok (.iload_n 0, 1) := by decide +kernel
theorem dX1_scaled_1 : decode cX1_scaled 1 = .ok (.iload_n 1, 1) := by decide +kernel
theorem dX1_scaled_2 : decode cX1_scaled 2 = .ok (.imul, 1) := by decide +kernel
theorem dX1_scaled_3 : decode cX1_scaled 3 = .ok (.istore_n 2, 1) := by decide +kernel
theorem dX1_scaled_4 : decode cX1_scaled 4 = .ok (.iload_n 2, 1) := by decide +kernel
theorem dX1_scaled_5 : decode cX1_scaled 5 = .ok (.ifCond .ge 17, 3) := by decide +kernel
theorem dX1_scaled_8 : decode cX1_scaled 8 = .ok (.sipush 255, 3) := by decide +kernel
theorem dX1_scaled_11 : decode cX1_scaled 11 = .ok (.iload_n 2, 1) := by decide +kernel
theorem dX1_scaled_12 : decode cX1_scaled 12 = .ok (.isub, 1) := by decide +kernel
theorem dX1_scaled_13 : decode cX1_scaled 13 = .ok (.sipush 256, 3) := by decide +kernel
theorem dX1_scaled_16 : decode cX1_scaled 16 = .ok (.idiv, 1) := by decide +kernel
theorem dX1_scaled_17 : decode cX1_scaled 17 = .ok (.ineg, 1) := by decide +kernel
theorem dX1_scaled_18 : decode cX1_scaled 18 = .ok (.i2l, 1) := by decide +kernel
theorem dX1_scaled_19 : decode cX1_scaled 19 = .ok (.goto 9, 3) := by decide +kernel
theorem dX1_scaled_22 : decode cX1_scaled 22 = .ok (.iload_n 2, 1) := by decide +kernel
theorem dX1_scaled_23 : decode cX1_scaled 23 = .ok (.sipush 256, 3) := by decide +kernel
theorem dX1_scaled_26 : decode cX1_scaled 26 = .ok (.idiv, 1) := by decide +kernel
theorem dX1_scaled_27 : decode cX1_scaled 27 = .ok (.i2l, 1) := by decide +kernel
theorem dX1_scaled_28 : decode cX1_scaled 28 = .ok (.invokestatic 48, 3) := by decide +kernel
theorem dX1_scaled_31 : decode cX1_scaled 31 = .ok (.ireturn, 1) := by decide +kernel
theorem dX1_thrown_0 : decode cX1_thrown 0 = .ok (.aload_n 0, 1) := by decide +kernel
theorem dX1_thrown_1 : decode cX1_thrown 1 = .ok (.getfield 7, 3) := by decide +kernel
theorem dX1_thrown_4 : decode cX1_thrown 4 = .ok (.ireturn, 1) := by decide +kernel
theorem dX1_not_0 : decode cX1_not 0 = .ok (.iload_n 0, 1) := by decide +kernel
theorem dX1_not_1 : decode cX1_not 1 = .ok (.ifCond .lt 8, 3) := by decide +kernel
theorem dX1_not_4 : decode cX1_not 4 = .ok (.iload_n 0, 1) := by decide +kernel
theorem dX1_not_5 : decode cX1_not 5 = .ok (.iload_n 1, 1) := by decide +kernel
theorem dX1_not_6 : decode cX1_not 6 = .ok (.if_icmp .lt 7, 3) := by decide +kernel
theorem dX1_not_9 : decode cX1_not 9 = .ok (.iconst 1, 1) := by decide +kernel
theorem dX1_not_10 : decode cX1_not 10 = .ok (.goto 4, 3) := by decide +kernel
theorem dX1_not_13 : decode cX1_not 13 = .ok (.iconst 0, 1) := by decide +kernel
theorem dX1_not_14 : decode cX1_not 14 = .ok (.ireturn, 1) := by decide +kernel
set_option maxRecDepth 20000 in
theorem ggX1_decode_X1_not : GoodIn wsX1_decode wsX1_not := goodIn_r _ [5] (by decide +kernel) (by decide +kernel)
set_option maxRecDepth 20000 in
theorem gX1_decode_X1_not : GoodIn wsX1_decode (va_wsS RX1 52 yX1_not wsX1_not) := goodIn_app (goodIn_of _ (by decide +kernel)) ggX1_decode_X1_not
set_option maxRecDepth 20000 in
theorem ggX1_decode_X1_meaning : GoodIn wsX1_decode wsX1_meaning := goodIn_r _ [8] (by decide +kernel) (by decide +kernel)
set_option maxRecDepth 20000 in
theorem gX1_decode_X1_meaning : GoodIn wsX1_decode (va_wsS RX1 56 yX1_meaning wsX1_meaning) := goodIn_app (goodIn_of _ (by decide +kernel)) ggX1_decode_X1_meaning
theorem dX1_decode_0 : decode cX1_decode 0 = .ok (.aload_n 0, 1) := by decide +kernel
theorem dX1_decode_1 : decode cX1_decode 1 = .ok (.iload_n 1, 1) := by decide +kernel
theorem dX1_decode_2 : decode cX1_decode 2 = .ok (.iconst 2, 1) := by decide +kernel
theorem dX1_decode_3 : decode cX1_decode 3 = .ok (.invokestatic 52, 3) := by decide +kernel
theorem dX1_decode_6 : decode cX1_decode 6 = .ok (.ifCond .eq 7, 3) := by decide +kernel
theorem dX1_decode_9 : decode cX1_decode 9 = .ok (.iconst 1, 1) := by decide +kernel
theorem dX1_decode_10 : decode cX1_decode 10 = .ok (.goto 4, 3) := by decide +kernel
theorem dX1_decode_13 : decode cX1_decode 13 = .ok (.iconst 0, 1) := by decide +kernel
theorem dX1_decode_14 : decode cX1_decode 14 = .ok (.putfield 7, 3) := by decide +kernel
theorem dX1_decode_17 : decode cX1_decode 17 = .ok (.aload_n 0, 1) := by decide +kernel
theorem dX1_decode_18 : decode cX1_decode 18 = .ok (.getfield 7, 3) := by decide +kernel
theorem dX1_decode_21 : decode cX1_decode 21 = .ok (.ifCond .eq 7, 3) := by decide +kernel
theorem dX1_decode_24 : decode cX1_decode 24 = .ok (.iconst 0, 1) := by decide +kernel
theorem dX1_decode_25 : decode cX1_decode 25 = .ok (.goto 12, 3) := by decide +kernel
theorem dX1_decode_28 : decode cX1_decode 28 = .ok (.iload_n 1, 1) := by decide +kernel
theorem dX1_decode_29 : decode cX1_decode 29 = .ok (.iload_n 2, 1) := by decide +kernel
theorem dX1_decode_30 : decode cX1_decode 30 = .ok (.sipush 255, 3) := by decide +kernel
theorem dX1_decode_33 : decode cX1_decode 33 = .ok (.iand, 1) := by decide +kernel
theorem dX1_decode_34 : decode cX1_decode 34 = .ok (.invokestatic 56, 3) := by decide +kernel
theorem dX1_decode_37 : decode cX1_decode 37 = .ok (.ireturn, 1) := by decide +kernel
set_option maxRecDepth 20000 in
theorem ggX1_encode_X1_not : GoodIn wsX1_encode wsX1_not := goodIn_r _ [5] (by decide +kernel) (by decide +kernel)
set_option maxRecDepth 20000 in
theorem gX1_encode_X1_not : GoodIn wsX1_encode (va_wsS RX1 52 yX1_not wsX1_not) := goodIn_app (goodIn_of _ (by decide +kernel)) ggX1_encode_X1_not
set_option maxRecDepth 20000 in
theorem ggX1_encode_X1_held : GoodIn wsX1_encode wsX1_held := goodIn_r _ [8, 9, 10] (by decide +kernel) (by decide +kernel)
set_option maxRecDepth 20000 in
theorem gX1_encode_X1_held : GoodIn wsX1_encode (va_wsS RX1 48 yX1_held wsX1_held) := goodIn_app (goodIn_of _ (by decide +kernel)) ggX1_encode_X1_held
set_option maxRecDepth 20000 in
theorem ggX1_encode_X1_codeOf : GoodIn wsX1_encode wsX1_codeOf := goodIn_r _ [13] (by decide +kernel) (by decide +kernel)
set_option maxRecDepth 20000 in
theorem gX1_encode_X1_codeOf : GoodIn wsX1_encode (va_wsS RX1 40 yX1_codeOf wsX1_codeOf) := goodIn_app (goodIn_of _ (by decide +kernel)) ggX1_encode_X1_codeOf
theorem dX1_encode_0 : decode cX1_encode 0 = .ok (.aload_n 0, 1) := by decide +kernel
theorem dX1_encode_1 : decode cX1_encode 1 = .ok (.iconst 0, 1) := by decide +kernel
theorem dX1_encode_2 : decode cX1_encode 2 = .ok (.putfield 7, 3) := by decide +kernel
theorem dX1_encode_5 : decode cX1_encode 5 = .ok (.iload_n 1, 1) := by decide +kernel
theorem dX1_encode_6 : decode cX1_encode 6 = .ok (.iconst 2, 1) := by decide +kernel
theorem dX1_encode_7 : decode cX1_encode 7 = .ok (.invokestatic 52, 3) := by decide +kernel
theorem dX1_encode_10 : decode cX1_encode 10 = .ok (.ifCond .eq 7, 3) := by decide +kernel
theorem dX1_encode_13 : decode cX1_encode 13 = .ok (.iconst (-1), 1) := by decide +kernel
theorem dX1_encode_14 : decode cX1_encode 14 = .ok (.goto 12, 3) := by decide +kernel
theorem dX1_encode_17 : decode cX1_encode 17 = .ok (.iload_n 1, 1) := by decide +kernel
theorem dX1_encode_18 : decode cX1_encode 18 = .ok (.iload_n 2, 1) := by decide +kernel
theorem dX1_encode_19 : decode cX1_encode 19 = .ok (.i2l, 1) := by decide +kernel
theorem dX1_encode_20 : decode cX1_encode 20 = .ok (.invokestatic 48, 3) := by decide +kernel
theorem dX1_encode_23 : decode cX1_encode 23 = .ok (.invokestatic 40, 3) := by decide +kernel
theorem dX1_encode_26 : decode cX1_encode 26 = .ok (.ireturn, 1) := by decide +kernel
set_option maxRecDepth 20000 in
theorem ggX1_law_X1_not : GoodIn wsX1_law wsX1_not := goodIn_r _ [6] (by decide +kernel) (by decide +kernel)
set_option maxRecDepth 20000 in
theorem gX1_law_X1_not : GoodIn wsX1_law (va_wsS RX1 52 yX1_not wsX1_not) := goodIn_app (goodIn_of _ (by decide +kernel)) ggX1_law_X1_not
theorem dX1_law_0 : decode cX1_law 0 = .ok (.aload_n 0, 1) := by decide +kernel
theorem dX1_law_1 : decode cX1_law 1 = .ok (.iconst 0, 1) := by decide +kernel
theorem dX1_law_2 : decode cX1_law 2 = .ok (.putfield 7, 3) := by decide +kernel
theorem dX1_law_5 : decode cX1_law 5 = .ok (.iload_n 1, 1) := by decide +kernel
theorem dX1_law_6 : decode cX1_law 6 = .ok (.bipush 8, 2) := by decide +kernel
theorem dX1_law_8 : decode cX1_law 8 = .ok (.invokestatic 52, 3) := by decide +kernel
theorem dX1_law_11 : decode cX1_law 11 = .ok (.ifCond .ne 11, 3) := by decide +kernel
theorem dX1_law_14 : decode cX1_law 14 = .ok (.iload_n 2, 1) := by decide +kernel
theorem dX1_law_15 : decode cX1_law 15 = .ok (.iconst 2, 1) := by decide +kernel
theorem dX1_law_16 : decode cX1_law 16 = .ok (.invokestatic 52, 3) := by decide +kernel
theorem dX1_law_19 : decode cX1_law 19 = .ok (.ifCond .eq 5, 3) := by decide +kernel
theorem dX1_law_22 : decode cX1_law 22 = .ok (.iconst 0, 1) := by decide +kernel
theorem dX1_law_23 : decode cX1_law 23 = .ok (.ireturn, 1) := by decide +kernel
theorem dX1_law_24 : decode cX1_law 24 = .ok (.aload_n 0, 1) := by decide +kernel
theorem dX1_law_25 : decode cX1_law 25 = .ok (.getfield 13, 3) := by decide +kernel
theorem dX1_law_28 : decode cX1_law 28 = .ok (.iload_n 1, 1) := by decide +kernel
theorem dX1_law_29 : decode cX1_law 29 = .ok (.iload_n 2, 1) := by decide +kernel
theorem dX1_law_30 : decode cX1_law 30 = .ok (.iastore, 1) := by decide +kernel
theorem dX1_law_31 : decode cX1_law 31 = .ok (.iconst 1, 1) := by decide +kernel
theorem dX1_law_32 : decode cX1_law 32 = .ok (.ireturn, 1) := by decide +kernel
set_option maxRecDepth 20000 in
theorem ggX1_gain_X1_not : GoodIn wsX1_gain wsX1_not := goodIn_r _ [6] (by decide +kernel) (by decide +kernel)
set_option maxRecDepth 20000 in
theorem gX1_gain_X1_not : GoodIn wsX1_gain (va_wsS RX1 52 yX1_not wsX1_not) := goodIn_app (goodIn_of _ (by decide +kernel)) ggX1_gain_X1_not
theorem dX1_gain_0 : decode cX1_gain 0 = .ok (.aload_n 0, 1) := by decide +kernel
theorem dX1_gain_1 : decode cX1_gain 1 = .ok (.iconst 0, 1) := by decide +kernel
theorem dX1_gain_2 : decode cX1_gain 2 = .ok (.putfield 7, 3) := by decide +kernel
theorem dX1_gain_5 : decode cX1_gain 5 = .ok (.iload_n 1, 1) := by decide +kernel
theorem dX1_gain_6 : decode cX1_gain 6 = .ok (.bipush 8, 2) := by decide +kernel
theorem dX1_gain_8 : decode cX1_gain 8 = .ok (.invokestatic 52, 3) := by decide +kernel
theorem dX1_gain_11 : decode cX1_gain 11 = .ok (.ifCond .ne 13, 3) := by decide +kernel
theorem dX1_gain_14 : decode cX1_gain 14 = .ok (.iload_n 2, 1) := by decide +kernel
theorem dX1_gain_15 : decode cX1_gain 15 = .ok (.sipush 1025, 3) := by decide +kernel
theorem dX1_gain_18 : decode cX1_gain 18 = .ok (.invokestatic 52, 3) := by decide +kernel
theorem dX1_gain_21 : decode cX1_gain 21 = .ok (.ifCond .eq 5, 3) := by decide +kernel
theorem dX1_gain_24 : decode cX1_gain 24 = .ok (.iconst 0, 1) := by decide +kernel
theorem dX1_gain_25 : decode cX1_gain 25 = .ok (.ireturn, 1) := by decide +kernel
theorem dX1_gain_26 : decode cX1_gain 26 = .ok (.aload_n 0, 1) := by decide +kernel
theorem dX1_gain_27 : decode cX1_gain 27 = .ok (.getfield 17, 3) := by decide +kernel
theorem dX1_gain_30 : decode cX1_gain 30 = .ok (.iload_n 1, 1) := by decide +kernel
theorem dX1_gain_31 : decode cX1_gain 31 = .ok (.iload_n 2, 1) := by decide +kernel
theorem dX1_gain_32 : decode cX1_gain 32 = .ok (.iastore, 1) := by decide +kernel
theorem dX1_gain_33 : decode cX1_gain 33 = .ok (.iconst 1, 1) := by decide +kernel
theorem dX1_gain_34 : decode cX1_gain 34 = .ok (.ireturn, 1) := by decide +kernel
set_option maxRecDepth 20000 in
theorem ggX1_mute_X1_not : GoodIn wsX1_mute wsX1_not := goodIn_r _ [6] (by decide +kernel) (by decide +kernel)
set_option maxRecDepth 20000 in
theorem gX1_mute_X1_not : GoodIn wsX1_mute (va_wsS RX1 52 yX1_not wsX1_not) := goodIn_app (goodIn_of _ (by decide +kernel)) ggX1_mute_X1_not
theorem dX1_mute_0 : decode cX1_mute 0 = .ok (.aload_n 0, 1) := by decide +kernel
theorem dX1_mute_1 : decode cX1_mute 1 = .ok (.iconst 0, 1) := by decide +kernel
theorem dX1_mute_2 : decode cX1_mute 2 = .ok (.putfield 7, 3) := by decide +kernel
theorem dX1_mute_5 : decode cX1_mute 5 = .ok (.iload_n 1, 1) := by decide +kernel
theorem dX1_mute_6 : decode cX1_mute 6 = .ok (.bipush 8, 2) := by decide +kernel
theorem dX1_mute_8 : decode cX1_mute 8 = .ok (.invokestatic 52, 3) := by decide +kernel
theorem dX1_mute_11 : decode cX1_mute 11 = .ok (.ifCond .eq 5, 3) := by decide +kernel
theorem dX1_mute_14 : decode cX1_mute 14 = .ok (.iconst 0, 1) := by decide +kernel
theorem dX1_mute_15 : decode cX1_mute 15 = .ok (.ireturn, 1) := by decide +kernel
theorem dX1_mute_16 : decode cX1_mute 16 = .ok (.aload_n 0, 1) := by decide +kernel
theorem dX1_mute_17 : decode cX1_mute 17 = .ok (.getfield 20, 3) := by decide +kernel
theorem dX1_mute_20 : decode cX1_mute 20 = .ok (.iload_n 1, 1) := by decide +kernel
theorem dX1_mute_21 : decode cX1_mute 21 = .ok (.iload_n 2, 1) := by decide +kernel
theorem dX1_mute_22 : decode cX1_mute 22 = .ok (.bastore, 1) := by decide +kernel
theorem dX1_mute_23 : decode cX1_mute 23 = .ok (.iconst 1, 1) := by decide +kernel
theorem dX1_mute_24 : decode cX1_mute 24 = .ok (.ireturn, 1) := by decide +kernel
theorem dX1_speakers_0 : decode cX1_speakers 0 = .ok (.aload_n 0, 1) := by decide +kernel
theorem dX1_speakers_1 : decode cX1_speakers 1 = .ok (.iconst 0, 1) := by decide +kernel
theorem dX1_speakers_2 : decode cX1_speakers 2 = .ok (.putfield 7, 3) := by decide +kernel
theorem dX1_speakers_5 : decode cX1_speakers 5 = .ok (.iload_n 1, 1) := by decide +kernel
theorem dX1_speakers_6 : decode cX1_speakers 6 = .ok (.iconst 1, 1) := by decide +kernel
theorem dX1_speakers_7 : decode cX1_speakers 7 = .ok (.if_icmp .lt 9, 3) := by decide +kernel
theorem dX1_speakers_10 : decode cX1_speakers 10 = .ok (.iload_n 1, 1) := by decide +kernel
theorem dX1_speakers_11 : decode cX1_speakers 11 = .ok (.bipush 8, 2) := by decide +kernel
theorem dX1_speakers_13 : decode cX1_speakers 13 = .ok (.if_icmp .le 5, 3) := by decide +kernel
theorem dX1_speakers_16 : decode cX1_speakers 16 = .ok (.iconst 0, 1) := by decide +kernel
theorem dX1_speakers_17 : decode cX1_speakers 17 = .ok (.ireturn, 1) := by decide +kernel
theorem dX1_speakers_18 : decode cX1_speakers 18 = .ok (.aload_n 0, 1) := by decide +kernel
theorem dX1_speakers_19 : decode cX1_speakers 19 = .ok (.iload_n 1, 1) := by decide +kernel
theorem dX1_speakers_20 : decode cX1_speakers 20 = .ok (.putfield 37, 3) := by decide +kernel
theorem dX1_speakers_23 : decode cX1_speakers 23 = .ok (.iconst 1, 1) := by decide +kernel
theorem dX1_speakers_24 : decode cX1_speakers 24 = .ok (.ireturn, 1) := by decide +kernel
set_option maxRecDepth 20000 in
theorem ggX1_put_X1_not : GoodIn wsX1_put wsX1_not := goodIn_r _ [6] (by decide +kernel) (by decide +kernel)
set_option maxRecDepth 20000 in
theorem gX1_put_X1_not : GoodIn wsX1_put (va_wsS RX1 52 yX1_not wsX1_not) := goodIn_app (goodIn_of _ (by decide +kernel)) ggX1_put_X1_not
theorem dX1_put_0 : decode cX1_put 0 = .ok (.aload_n 0, 1) := by decide +kernel
theorem dX1_put_1 : decode cX1_put 1 = .ok (.iconst 0, 1) := by decide +kernel
theorem dX1_put_2 : decode cX1_put 2 = .ok (.putfield 7, 3) := by decide +kernel
theorem dX1_put_5 : decode cX1_put 5 = .ok (.iload_n 1, 1) := by decide +kernel
theorem dX1_put_6 : decode cX1_put 6 = .ok (.bipush 8, 2) := by decide +kernel
theorem dX1_put_8 : decode cX1_put 8 = .ok (.invokestatic 52, 3) := by decide +kernel
theorem dX1_put_11 : decode cX1_put 11 = .ok (.ifCond .ne 12, 3) := by decide +kernel
theorem dX1_put_14 : decode cX1_put 14 = .ok (.iload_n 2, 1) := by decide +kernel
theorem dX1_put_15 : decode cX1_put 15 = .ok (.bipush 8, 2) := by decide +kernel
theorem dX1_put_17 : decode cX1_put 17 = .ok (.invokestatic 52, 3) := by decide +kernel
theorem dX1_put_20 : decode cX1_put 20 = .ok (.ifCond .eq 5, 3) := by decide +kernel
theorem dX1_put_23 : decode cX1_put 23 = .ok (.iconst 0, 1) := by decide +kernel
theorem dX1_put_24 : decode cX1_put 24 = .ok (.ireturn, 1) := by decide +kernel
theorem dX1_put_25 : decode cX1_put 25 = .ok (.aload_n 0, 1) := by decide +kernel
theorem dX1_put_26 : decode cX1_put 26 = .ok (.getfield 24, 3) := by decide +kernel
theorem dX1_put_29 : decode cX1_put 29 = .ok (.bipush 8, 2) := by decide +kernel
theorem dX1_put_31 : decode cX1_put 31 = .ok (.iload_n 1, 1) := by decide +kernel
theorem dX1_put_32 : decode cX1_put 32 = .ok (.imul, 1) := by decide +kernel
theorem dX1_put_33 : decode cX1_put 33 = .ok (.iload_n 2, 1) := by decide +kernel
theorem dX1_put_34 : decode cX1_put 34 = .ok (.iadd, 1) := by decide +kernel
theorem dX1_put_35 : decode cX1_put 35 = .ok (.iload_n 3, 1) := by decide +kernel
theorem dX1_put_36 : decode cX1_put 36 = .ok (.sipush 255, 3) := by decide +kernel
theorem dX1_put_39 : decode cX1_put 39 = .ok (.iand, 1) := by decide +kernel
theorem dX1_put_40 : decode cX1_put 40 = .ok (.iastore, 1) := by decide +kernel
theorem dX1_put_41 : decode cX1_put 41 = .ok (.iconst 1, 1) := by decide +kernel
theorem dX1_put_42 : decode cX1_put 42 = .ok (.ireturn, 1) := by decide +kernel
set_option maxRecDepth 20000 in
theorem ggX1_ramp_X1_not : GoodIn wsX1_ramp wsX1_not := goodIn_r _ [7] (by decide +kernel) (by decide +kernel)
set_option maxRecDepth 20000 in
theorem gX1_ramp_X1_not : GoodIn wsX1_ramp (va_wsS RX1 52 yX1_not wsX1_not) := goodIn_app (goodIn_of _ (by decide +kernel)) ggX1_ramp_X1_not
set_option maxRecDepth 20000 in
theorem ggX1_ramp_X1_held : GoodIn wsX1_ramp wsX1_held := goodIn_r _ [10, 11, 12] (by decide +kernel) (by decide +kernel)
set_option maxRecDepth 20000 in
theorem gX1_ramp_X1_held : GoodIn wsX1_ramp (va_wsS RX1 48 yX1_held wsX1_held) := goodIn_app (goodIn_of _ (by decide +kernel)) ggX1_ramp_X1_held
set_option maxRecDepth 20000 in
theorem ggX1_ramp_X1_codeOf : GoodIn wsX1_ramp wsX1_codeOf := goodIn_r _ [15] (by decide +kernel) (by decide +kernel)
set_option maxRecDepth 20000 in
theorem gX1_ramp_X1_codeOf : GoodIn wsX1_ramp (va_wsS RX1 40 yX1_codeOf wsX1_codeOf) := goodIn_app (goodIn_of _ (by decide +kernel)) ggX1_ramp_X1_codeOf
theorem dX1_ramp_0 : decode cX1_ramp 0 = .ok (.aload_n 0, 1) := by decide +kernel
theorem dX1_ramp_1 : decode cX1_ramp 1 = .ok (.iconst 0, 1) := by decide +kernel
theorem dX1_ramp_2 : decode cX1_ramp 2 = .ok (.putfield 7, 3) := by decide +kernel
theorem dX1_ramp_5 : decode cX1_ramp 5 = .ok (.iload_n 1, 1) := by decide +kernel
theorem dX1_ramp_6 : decode cX1_ramp 6 = .ok (.bipush 8, 2) := by decide +kernel
theorem dX1_ramp_8 : decode cX1_ramp 8 = .ok (.invokestatic 52, 3) := by decide +kernel
theorem dX1_ramp_11 : decode cX1_ramp 11 = .ok (.ifCond .eq 5, 3) := by decide +kernel
theorem dX1_ramp_14 : decode cX1_ramp 14 = .ok (.iconst 0, 1) := by decide +kernel
theorem dX1_ramp_15 : decode cX1_ramp 15 = .ok (.ireturn, 1) := by decide +kernel
theorem dX1_ramp_16 : decode cX1_ramp 16 = .ok (.iconst 0, 1) := by decide +kernel
theorem dX1_ramp_17 : decode cX1_ramp 17 = .ok (.istore 4, 2) := by decide +kernel
theorem dX1_ramp_19 : decode cX1_ramp 19 = .ok (.iload 4, 2) := by decide +kernel
theorem dX1_ramp_21 : decode cX1_ramp 21 = .ok (.bipush 8, 2) := by decide +kernel
theorem dX1_ramp_23 : decode cX1_ramp 23 = .ok (.if_icmp .ge 42, 3) := by decide +kernel
theorem dX1_ramp_26 : decode cX1_ramp 26 = .ok (.aload_n 0, 1) := by decide +kernel
theorem dX1_ramp_27 : decode cX1_ramp 27 = .ok (.getfield 24, 3) := by decide +kernel
theorem dX1_ramp_30 : decode cX1_ramp 30 = .ok (.bipush 8, 2) := by decide +kernel
theorem dX1_ramp_32 : decode cX1_ramp 32 = .ok (.iload_n 1, 1) := by decide +kernel
theorem dX1_ramp_33 : decode cX1_ramp 33 = .ok (.imul, 1) := by decide +kernel
theorem dX1_ramp_34 : decode cX1_ramp 34 = .ok (.iload 4, 2) := by decide +kernel
theorem dX1_ramp_36 : decode cX1_ramp 36 = .ok (.iadd, 1) := by decide +kernel
theorem dX1_ramp_37 : decode cX1_ramp 37 = .ok (.aload_n 0, 1) := by decide +kernel
theorem dX1_ramp_38 : decode cX1_ramp 38 = .ok (.getfield 13, 3) := by decide +kernel
theorem dX1_ramp_41 : decode cX1_ramp 41 = .ok (.iload_n 1, 1) := by decide +kernel
theorem dX1_ramp_42 : decode cX1_ramp 42 = .ok (.iaload, 1) := by decide +kernel
theorem dX1_ramp_43 : decode cX1_ramp 43 = .ok (.iload_n 2, 1) := by decide +kernel
theorem dX1_ramp_44 : decode cX1_ramp 44 = .ok (.i2l, 1) := by decide +kernel
theorem dX1_ramp_45 : decode cX1_ramp 45 = .ok (.iload 4, 2) := by decide +kernel
theorem dX1_ramp_47 : decode cX1_ramp 47 = .ok (.i2l, 1) := by decide +kernel
theorem dX1_ramp_48 : decode cX1_ramp 48 = .ok (.iload_n 3, 1) := by decide +kernel
theorem dX1_ramp_49 : decode cX1_ramp 49 = .ok (.i2l, 1) := by decide +kernel
theorem dX1_ramp_50 : decode cX1_ramp 50 = .ok (.lmul, 1) := by decide +kernel
theorem dX1_ramp_51 : decode cX1_ramp 51 = .ok (.ladd, 1) := by decide +kernel
theorem dX1_ramp_52 : decode cX1_ramp 52 = .ok (.invokestatic 48, 3) := by decide +kernel
theorem dX1_ramp_55 : decode cX1_ramp 55 = .ok (.invokestatic 40, 3) := by decide +kernel
theorem dX1_ramp_58 : decode cX1_ramp 58 = .ok (.iastore, 1) := by decide +kernel
theorem dX1_ramp_59 : decode cX1_ramp 59 = .ok (.iinc 4 1, 3) := by decide +kernel
theorem dX1_ramp_62 : decode cX1_ramp 62 = .ok (.goto (-43), 3) := by decide +kernel
theorem dX1_ramp_65 : decode cX1_ramp 65 = .ok (.iconst 1, 1) := by decide +kernel
theorem dX1_ramp_66 : decode cX1_ramp 66 = .ok (.ireturn, 1) := by decide +kernel
set_option maxRecDepth 20000 in
theorem ggX1_mix_X1_meaning : GoodIn wsX1_mix wsX1_meaning := goodIn_r _ [13] (by decide +kernel) (by decide +kernel)
set_option maxRecDepth 20000 in
theorem gX1_mix_X1_meaning : GoodIn wsX1_mix (va_wsS RX1 56 yX1_meaning wsX1_meaning) := goodIn_app (goodIn_of _ (by decide +kernel)) ggX1_mix_X1_meaning
set_option maxRecDepth 20000 in
theorem ggX1_mix_X1_scaled : GoodIn wsX1_mix wsX1_scaled := goodIn_r _ [16, 17, 18, 12, 19, 20, 21] (by decide +kernel) (by decide +kernel)
set_option maxRecDepth 20000 in
theorem gX1_mix_X1_scaled : GoodIn wsX1_mix (va_wsS RX1 59 yX1_scaled wsX1_scaled) := goodIn_app (goodIn_of _ (by decide +kernel)) ggX1_mix_X1_scaled
set_option maxRecDepth 20000 in
theorem ggX1_mix_X1_held : GoodIn wsX1_mix wsX1_held := goodIn_r _ [19, 20, 21] (by decide +kernel) (by decide +kernel)
set_option maxRecDepth 20000 in
theorem gX1_mix_X1_held : GoodIn wsX1_mix (va_wsS RX1 48 yX1_held wsX1_held) := goodIn_app (goodIn_of _ (by decide +kernel)) ggX1_mix_X1_held
set_option maxRecDepth 20000 in
theorem ggX1_mix_X1_codeOf : GoodIn wsX1_mix wsX1_codeOf := goodIn_r _ [24] (by decide +kernel) (by decide +kernel)
set_option maxRecDepth 20000 in
theorem gX1_mix_X1_codeOf : GoodIn wsX1_mix (va_wsS RX1 40 yX1_codeOf wsX1_codeOf) := goodIn_app (goodIn_of _ (by decide +kernel)) ggX1_mix_X1_codeOf
theorem dX1_mix_0 : decode cX1_mix 0 = .ok (.aload_n 0, 1) := by decide +kernel
theorem dX1_mix_1 : decode cX1_mix 1 = .ok (.iconst 0, 1) := by decide +kernel
theorem dX1_mix_2 : decode cX1_mix 2 = .ok (.putfield 7, 3) := by decide +kernel
theorem dX1_mix_5 : decode cX1_mix 5 = .ok (.iconst 0, 1) := by decide +kernel
theorem dX1_mix_6 : decode cX1_mix 6 = .ok (.istore_n 1, 1) := by decide +kernel
theorem dX1_mix_7 : decode cX1_mix 7 = .ok (.iload_n 1, 1) := by decide +kernel
theorem dX1_mix_8 : decode cX1_mix 8 = .ok (.bipush 8, 2) := by decide +kernel
theorem dX1_mix_10 : decode cX1_mix 10 = .ok (.if_icmp .ge 90, 3) := by decide +kernel
theorem dX1_mix_13 : decode cX1_mix 13 = .ok (.aload_n 0, 1) := by decide +kernel
theorem dX1_mix_14 : decode cX1_mix 14 = .ok (.getfield 33, 3) := by decide +kernel
theorem dX1_mix_17 : decode cX1_mix 17 = .ok (.iload_n 1, 1) := by decide +kernel
theorem dX1_mix_18 : decode cX1_mix 18 = .ok (.lconst 0, 1) := by decide +kernel
theorem dX1_mix_19 : decode cX1_mix 19 = .ok (.lastore, 1) := by decide +kernel
theorem dX1_mix_20 : decode cX1_mix 20 = .ok (.iconst 0, 1) := by decide +kernel
theorem dX1_mix_21 : decode cX1_mix 21 = .ok (.istore_n 2, 1) := by decide +kernel
theorem dX1_mix_22 : decode cX1_mix 22 = .ok (.iload_n 2, 1) := by decide +kernel
theorem dX1_mix_23 : decode cX1_mix 23 = .ok (.bipush 8, 2) := by decide +kernel
theorem dX1_mix_25 : decode cX1_mix 25 = .ok (.if_icmp .ge 69, 3) := by decide +kernel
theorem dX1_mix_28 : decode cX1_mix 28 = .ok (.aload_n 0, 1) := by decide +kernel
theorem dX1_mix_29 : decode cX1_mix 29 = .ok (.getfield 13, 3) := by decide +kernel
theorem dX1_mix_32 : decode cX1_mix 32 = .ok (.iload_n 1, 1) := by decide +kernel
theorem dX1_mix_33 : decode cX1_mix 33 = .ok (.iaload, 1) := by decide +kernel
theorem dX1_mix_34 : decode cX1_mix 34 = .ok (.aload_n 0, 1) := by decide +kernel
theorem dX1_mix_35 : decode cX1_mix 35 = .ok (.getfield 24, 3) := by decide +kernel
theorem dX1_mix_38 : decode cX1_mix 38 = .ok (.bipush 8, 2) := by decide +kernel
theorem dX1_mix_40 : decode cX1_mix 40 = .ok (.iload_n 1, 1) := by decide +kernel
theorem dX1_mix_41 : decode cX1_mix 41 = .ok (.imul, 1) := by decide +kernel
theorem dX1_mix_42 : decode cX1_mix 42 = .ok (.iload_n 2, 1) := by decide +kernel
theorem dX1_mix_43 : decode cX1_mix 43 = .ok (.iadd, 1) := by decide +kernel
theorem dX1_mix_44 : decode cX1_mix 44 = .ok (.iaload, 1) := by decide +kernel
theorem dX1_mix_45 : decode cX1_mix 45 = .ok (.invokestatic 56, 3) := by decide +kernel
theorem dX1_mix_48 : decode cX1_mix 48 = .ok (.aload_n 0, 1) := by decide +kernel
theorem dX1_mix_49 : decode cX1_mix 49 = .ok (.getfield 17, 3) := by decide +kernel
theorem dX1_mix_52 : decode cX1_mix 52 = .ok (.iload_n 1, 1) := by decide +kernel
theorem dX1_mix_53 : decode cX1_mix 53 = .ok (.iaload, 1) := by decide +kernel
theorem dX1_mix_54 : decode cX1_mix 54 = .ok (.invokestatic 59, 3) := by decide +kernel
theorem dX1_mix_57 : decode cX1_mix 57 = .ok (.istore_n 3, 1) := by decide +kernel
theorem dX1_mix_58 : decode cX1_mix 58 = .ok (.aload_n 0, 1) := by decide +kernel
theorem dX1_mix_59 : decode cX1_mix 59 = .ok (.getfield 30, 3) := by decide +kernel
theorem dX1_mix_62 : decode cX1_mix 62 = .ok (.bipush 8, 2) := by decide +kernel
theorem dX1_mix_64 : decode cX1_mix 64 = .ok (.iload_n 1, 1) := by decide +kernel
theorem dX1_mix_65 : decode cX1_mix 65 = .ok (.imul, 1) := by decide +kernel
theorem dX1_mix_66 : decode cX1_mix 66 = .ok (.iload_n 2, 1) := by decide +kernel
theorem dX1_mix_67 : decode cX1_mix 67 = .ok (.iadd, 1) := by decide +kernel
theorem dX1_mix_68 : decode cX1_mix 68 = .ok (.iload_n 3, 1) := by decide +kernel
theorem dX1_mix_69 : decode cX1_mix 69 = .ok (.iastore, 1) := by decide +kernel
theorem dX1_mix_70 : decode cX1_mix 70 = .ok (.aload_n 0, 1) := by decide +kernel
theorem dX1_mix_71 : decode cX1_mix 71 = .ok (.getfield 33, 3) := by decide +kernel
theorem dX1_mix_74 : decode cX1_mix 74 = .ok (.iload_n 1, 1) := by decide +kernel
theorem dX1_mix_75 : decode cX1_mix 75 = .ok (.aload_n 0, 1) := by decide +kernel
theorem dX1_mix_76 : decode cX1_mix 76 = .ok (.getfield 33, 3) := by decide +kernel
theorem dX1_mix_79 : decode cX1_mix 79 = .ok (.iload_n 1, 1) := by decide +kernel
theorem dX1_mix_80 : decode cX1_mix 80 = .ok (.laload, 1) := by decide +kernel
theorem dX1_mix_81 : decode cX1_mix 81 = .ok (.iload_n 3, 1) := by decide +kernel
theorem dX1_mix_82 : decode cX1_mix 82 = .ok (.i2l, 1) := by decide +kernel
theorem dX1_mix_83 : decode cX1_mix 83 = .ok (.iload_n 3, 1) := by decide +kernel
theorem dX1_mix_84 : decode cX1_mix 84 = .ok (.i2l, 1) := by decide +kernel
theorem dX1_mix_85 : decode cX1_mix 85 = .ok (.lmul, 1) := by decide +kernel
theorem dX1_mix_86 : decode cX1_mix 86 = .ok (.ladd, 1) := by decide +kernel
theorem dX1_mix_87 : decode cX1_mix 87 = .ok (.lastore, 1) := by decide +kernel
theorem dX1_mix_88 : decode cX1_mix 88 = .ok (.iinc 2 1, 3) := by decide +kernel
theorem dX1_mix_91 : decode cX1_mix 91 = .ok (.goto (-69), 3) := by decide +kernel
theorem dX1_mix_94 : decode cX1_mix 94 = .ok (.iinc 1 1, 3) := by decide +kernel
theorem dX1_mix_97 : decode cX1_mix 97 = .ok (.goto (-90), 3) := by decide +kernel
theorem dX1_mix_100 : decode cX1_mix 100 = .ok (.iconst 0, 1) := by decide +kernel
theorem dX1_mix_101 : decode cX1_mix 101 = .ok (.istore_n 1, 1) := by decide +kernel
theorem dX1_mix_102 : decode cX1_mix 102 = .ok (.iconst 0, 1) := by decide +kernel
theorem dX1_mix_103 : decode cX1_mix 103 = .ok (.istore_n 2, 1) := by decide +kernel
theorem dX1_mix_104 : decode cX1_mix 104 = .ok (.iload_n 2, 1) := by decide +kernel
theorem dX1_mix_105 : decode cX1_mix 105 = .ok (.aload_n 0, 1) := by decide +kernel
theorem dX1_mix_106 : decode cX1_mix 106 = .ok (.getfield 37, 3) := by decide +kernel
theorem dX1_mix_109 : decode cX1_mix 109 = .ok (.if_icmp .ge 104, 3) := by decide +kernel
theorem dX1_mix_112 : decode cX1_mix 112 = .ok (.iconst (-1), 1) := by decide +kernel
theorem dX1_mix_113 : decode cX1_mix 113 = .ok (.istore_n 3, 1) := by decide +kernel
theorem dX1_mix_114 : decode cX1_mix 114 = .ok (.iconst 0, 1) := by decide +kernel
theorem dX1_mix_115 : decode cX1_mix 115 = .ok (.istore 4, 2) := by decide +kernel
theorem dX1_mix_117 : decode cX1_mix 117 = .ok (.iload 4, 2) := by decide +kernel
theorem dX1_mix_119 : decode cX1_mix 119 = .ok (.bipush 8, 2) := by decide +kernel
theorem dX1_mix_121 : decode cX1_mix 121 = .ok (.if_icmp .ge 76, 3) := by decide +kernel
theorem dX1_mix_124 : decode cX1_mix 124 = .ok (.iload_n 1, 1) := by decide +kernel
theorem dX1_mix_125 : decode cX1_mix 125 = .ok (.iload 4, 2) := by decide +kernel
theorem dX1_mix_127 : decode cX1_mix 127 = .ok (.ishr, 1) := by decide +kernel
theorem dX1_mix_128 : decode cX1_mix 128 = .ok (.iconst 1, 1) := by decide +kernel
theorem dX1_mix_129 : decode cX1_mix 129 = .ok (.iand, 1) := by decide +kernel
theorem dX1_mix_130 : decode cX1_mix 130 = .ok (.ifCond .ne 29, 3) := by decide +kernel
theorem dX1_mix_133 : decode cX1_mix 133 = .ok (.aload_n 0, 1) := by decide +kernel
theorem dX1_mix_134 : decode cX1_mix 134 = .ok (.getfield 20, 3) := by decide +kernel
theorem dX1_mix_137 : decode cX1_mix 137 = .ok (.iload 4, 2) := by decide +kernel
theorem dX1_mix_139 : decode cX1_mix 139 = .ok (.baload, 1) := by decide +kernel
theorem dX1_mix_140 : decode cX1_mix 140 = .ok (.ifCond .ne 19, 3) := by decide +kernel
theorem dX1_mix_143 : decode cX1_mix 143 = .ok (.aload_n 0, 1) := by decide +kernel
theorem dX1_mix_144 : decode cX1_mix 144 = .ok (.getfield 33, 3) := by decide +kernel
theorem dX1_mix_147 : decode cX1_mix 147 = .ok (.iload 4, 2) := by decide +kernel
theorem dX1_mix_149 : decode cX1_mix 149 = .ok (.laload, 1) := by decide +kernel
theorem dX1_mix_150 : decode cX1_mix 150 = .ok (.lconst 0, 1) := by decide +kernel
theorem dX1_mix_151 : decode cX1_mix 151 = .ok (.lcmp, 1) := by decide +kernel
theorem dX1_mix_152 : decode cX1_mix 152 = .ok (.ifCond .le 7, 3) := by decide +kernel
theorem dX1_mix_155 : decode cX1_mix 155 = .ok (.iconst 1, 1) := by decide +kernel
theorem dX1_mix_156 : decode cX1_mix 156 = .ok (.goto 4, 3) := by decide +kernel
theorem dX1_mix_159 : decode cX1_mix 159 = .ok (.iconst 0, 1) := by decide +kernel
theorem dX1_mix_160 : decode cX1_mix 160 = .ok (.istore 5, 2) := by decide +kernel
theorem dX1_mix_162 : decode cX1_mix 162 = .ok (.iload 5, 2) := by decide +kernel
theorem dX1_mix_164 : decode cX1_mix 164 = .ok (.ifCond .eq 27, 3) := by decide +kernel
theorem dX1_mix_167 : decode cX1_mix 167 = .ok (.iload_n 3, 1) := by decide +kernel
theorem dX1_mix_168 : decode cX1_mix 168 = .ok (.ifCond .lt 20, 3) := by decide +kernel
theorem dX1_mix_171 : decode cX1_mix 171 = .ok (.aload_n 0, 1) := by decide +kernel
theorem dX1_mix_172 : decode cX1_mix 172 = .ok (.getfield 33, 3) := by decide +kernel
theorem dX1_mix_175 : decode cX1_mix 175 = .ok (.iload 4, 2) := by decide +kernel
theorem dX1_mix_177 : decode cX1_mix 177 = .ok (.laload, 1) := by decide +kernel
theorem dX1_mix_178 : decode cX1_mix 178 = .ok (.aload_n 0, 1) := by decide +kernel
theorem dX1_mix_179 : decode cX1_mix 179 = .ok (.getfield 33, 3) := by decide +kernel
theorem dX1_mix_182 : decode cX1_mix 182 = .ok (.iload_n 3, 1) := by decide +kernel
theorem dX1_mix_183 : decode cX1_mix 183 = .ok (.laload, 1) := by decide +kernel
theorem dX1_mix_184 : decode cX1_mix 184 = .ok (.lcmp, 1) := by decide +kernel
theorem dX1_mix_185 : decode cX1_mix 185 = .ok (.ifCond .le 6, 3) := by decide +kernel
theorem dX1_mix_188 : decode cX1_mix 188 = .ok (.iload 4, 2) := by decide +kernel
theorem dX1_mix_190 : decode cX1_mix 190 = .ok (.istore_n 3, 1) := by decide +kernel
theorem dX1_mix_191 : decode cX1_mix 191 = .ok (.iinc 4 1, 3) := by decide +kernel
theorem dX1_mix_194 : decode cX1_mix 194 = .ok (.goto (-77), 3) := by decide +kernel
theorem dX1_mix_197 : decode cX1_mix 197 = .ok (.iload_n 3, 1) := by decide +kernel
theorem dX1_mix_198 : decode cX1_mix 198 = .ok (.ifCond .lt 9, 3) := by decide +kernel
theorem dX1_mix_201 : decode cX1_mix 201 = .ok (.iload_n 1, 1) := by decide +kernel
theorem dX1_mix_202 : decode cX1_mix 202 = .ok (.iconst 1, 1) := by decide +kernel
theorem dX1_mix_203 : decode cX1_mix 203 = .ok (.iload_n 3, 1) := by decide +kernel
theorem dX1_mix_204 : decode cX1_mix 204 = .ok (.ishl, 1) := by decide +kernel
theorem dX1_mix_205 : decode cX1_mix 205 = .ok (.ior, 1) := by decide +kernel
theorem dX1_mix_206 : decode cX1_mix 206 = .ok (.istore_n 1, 1) := by decide +kernel
theorem dX1_mix_207 : decode cX1_mix 207 = .ok (.iinc 2 1, 3) := by decide +kernel
theorem dX1_mix_210 : decode cX1_mix 210 = .ok (.goto (-106), 3) := by decide +kernel
theorem dX1_mix_213 : decode cX1_mix 213 = .ok (.iconst 0, 1) := by decide +kernel
theorem dX1_mix_214 : decode cX1_mix 214 = .ok (.istore_n 2, 1) := by decide +kernel
theorem dX1_mix_215 : decode cX1_mix 215 = .ok (.iload_n 2, 1) := by decide +kernel
theorem dX1_mix_216 : decode cX1_mix 216 = .ok (.bipush 8, 2) := by decide +kernel
theorem dX1_mix_218 : decode cX1_mix 218 = .ok (.if_icmp .ge 105, 3) := by decide +kernel
theorem dX1_mix_221 : decode cX1_mix 221 = .ok (.iconst 0, 1) := by decide +kernel
theorem dX1_mix_222 : decode cX1_mix 222 = .ok (.istore_n 3, 1) := by decide +kernel
theorem dX1_mix_223 : decode cX1_mix 223 = .ok (.iload_n 3, 1) := by decide +kernel
theorem dX1_mix_224 : decode cX1_mix 224 = .ok (.bipush 8, 2) := by decide +kernel
theorem dX1_mix_226 : decode cX1_mix 226 = .ok (.if_icmp .ge 91, 3) := by decide +kernel
theorem dX1_mix_229 : decode cX1_mix 229 = .ok (.iconst 0, 1) := by decide +kernel
theorem dX1_mix_230 : decode cX1_mix 230 = .ok (.istore 4, 2) := by decide +kernel
theorem dX1_mix_232 : decode cX1_mix 232 = .ok (.iconst 0, 1) := by decide +kernel
theorem dX1_mix_233 : decode cX1_mix 233 = .ok (.istore 5, 2) := by decide +kernel
theorem dX1_mix_235 : decode cX1_mix 235 = .ok (.iload 5, 2) := by decide +kernel
theorem dX1_mix_237 : decode cX1_mix 237 = .ok (.bipush 8, 2) := by decide +kernel
theorem dX1_mix_239 : decode cX1_mix 239 = .ok (.if_icmp .ge 46, 3) := by decide +kernel
theorem dX1_mix_242 : decode cX1_mix 242 = .ok (.iload 4, 2) := by decide +kernel
theorem dX1_mix_244 : decode cX1_mix 244 = .ok (.iload 5, 2) := by decide +kernel
theorem dX1_mix_246 : decode cX1_mix 246 = .ok (.iload_n 2, 1) := by decide +kernel
theorem dX1_mix_247 : decode cX1_mix 247 = .ok (.if_icmp .eq 28, 3) := by decide +kernel
theorem dX1_mix_250 : decode cX1_mix 250 = .ok (.iload_n 1, 1) := by decide +kernel
theorem dX1_mix_251 : decode cX1_mix 251 = .ok (.iload 5, 2) := by decide +kernel
theorem dX1_mix_253 : decode cX1_mix 253 = .ok (.ishr, 1) := by decide +kernel
theorem dX1_mix_254 : decode cX1_mix 254 = .ok (.iconst 1, 1) := by decide +kernel
theorem dX1_mix_255 : decode cX1_mix 255 = .ok (.iand, 1) := by decide +kernel
theorem dX1_mix_256 : decode cX1_mix 256 = .ok (.iconst 1, 1) := by decide +kernel
theorem dX1_mix_257 : decode cX1_mix 257 = .ok (.if_icmp .ne 18, 3) := by decide +kernel
theorem dX1_mix_260 : decode cX1_mix 260 = .ok (.aload_n 0, 1) := by decide +kernel
theorem dX1_mix_261 : decode cX1_mix 261 = .ok (.getfield 30, 3) := by decide +kernel
theorem dX1_mix_264 : decode cX1_mix 264 = .ok (.bipush 8, 2) := by decide +kernel
theorem dX1_mix_266 : decode cX1_mix 266 = .ok (.iload 5, 2) := by decide +kernel
theorem dX1_mix_268 : decode cX1_mix 268 = .ok (.imul, 1) := by decide +kernel
theorem dX1_mix_269 : decode cX1_mix 269 = .ok (.iload_n 3, 1) := by decide +kernel
theorem dX1_mix_270 : decode cX1_mix 270 = .ok (.iadd, 1) := by decide +kernel
theorem dX1_mix_271 : decode cX1_mix 271 = .ok (.iaload, 1) := by decide +kernel
theorem dX1_mix_272 : decode cX1_mix 272 = .ok (.goto 4, 3) := by decide +kernel
theorem dX1_mix_275 : decode cX1_mix 275 = .ok (.iconst 0, 1) := by decide +kernel
theorem dX1_mix_276 : decode cX1_mix 276 = .ok (.iadd, 1) := by decide +kernel
theorem dX1_mix_277 : decode cX1_mix 277 = .ok (.istore 4, 2) := by decide +kernel
theorem dX1_mix_279 : decode cX1_mix 279 = .ok (.iinc 5 1, 3) := by decide +kernel
theorem dX1_mix_282 : decode cX1_mix 282 = .ok (.goto (-47), 3) := by decide +kernel
theorem dX1_mix_285 : decode cX1_mix 285 = .ok (.aload_n 0, 1) := by decide +kernel
theorem dX1_mix_286 : decode cX1_mix 286 = .ok (.getfield 27, 3) := by decide +kernel
theorem dX1_mix_289 : decode cX1_mix 289 = .ok (.bipush 8, 2) := by decide +kernel
theorem dX1_mix_291 : decode cX1_mix 291 = .ok (.iload_n 2, 1) := by decide +kernel
theorem dX1_mix_292 : decode cX1_mix 292 = .ok (.imul, 1) := by decide +kernel
theorem dX1_mix_293 : decode cX1_mix 293 = .ok (.iload_n 3, 1) := by decide +kernel
theorem dX1_mix_294 : decode cX1_mix 294 = .ok (.iadd, 1) := by decide +kernel
theorem dX1_mix_295 : decode cX1_mix 295 = .ok (.aload_n 0, 1) := by decide +kernel
theorem dX1_mix_296 : decode cX1_mix 296 = .ok (.getfield 13, 3) := by decide +kernel
theorem dX1_mix_299 : decode cX1_mix 299 = .ok (.iload_n 2, 1) := by decide +kernel
theorem dX1_mix_300 : decode cX1_mix 300 = .ok (.iaload, 1) := by decide +kernel
theorem dX1_mix_301 : decode cX1_mix 301 = .ok (.iload 4, 2) := by decide +kernel
theorem dX1_mix_303 : decode cX1_mix 303 = .ok (.i2l, 1) := by decide +kernel
theorem dX1_mix_304 : decode cX1_mix 304 = .ok (.invokestatic 48, 3) := by decide +kernel
theorem dX1_mix_307 : decode cX1_mix 307 = .ok (.invokestatic 40, 3) := by decide +kernel
theorem dX1_mix_310 : decode cX1_mix 310 = .ok (.iastore, 1) := by decide +kernel
theorem dX1_mix_311 : decode cX1_mix 311 = .ok (.iinc 3 1, 3) := by decide +kernel
theorem dX1_mix_314 : decode cX1_mix 314 = .ok (.goto (-91), 3) := by decide +kernel
theorem dX1_mix_317 : decode cX1_mix 317 = .ok (.iinc 2 1, 3) := by decide +kernel
theorem dX1_mix_320 : decode cX1_mix 320 = .ok (.goto (-105), 3) := by decide +kernel
theorem dX1_mix_323 : decode cX1_mix 323 = .ok (.iload_n 1, 1) := by decide +kernel
theorem dX1_mix_324 : decode cX1_mix 324 = .ok (.ireturn, 1) := by decide +kernel
set_option maxRecDepth 20000 in
theorem ggX1_out_X1_not : GoodIn wsX1_out wsX1_not := goodIn_r _ [6] (by decide +kernel) (by decide +kernel)
set_option maxRecDepth 20000 in
theorem gX1_out_X1_not : GoodIn wsX1_out (va_wsS RX1 52 yX1_not wsX1_not) := goodIn_app (goodIn_of _ (by decide +kernel)) ggX1_out_X1_not
theorem dX1_out_0 : decode cX1_out 0 = .ok (.aload_n 0, 1) := by decide +kernel
theorem dX1_out_1 : decode cX1_out 1 = .ok (.iconst 0, 1) := by decide +kernel
theorem dX1_out_2 : decode cX1_out 2 = .ok (.putfield 7, 3) := by decide +kernel
theorem dX1_out_5 : decode cX1_out 5 = .ok (.iload_n 1, 1) := by decide +kernel
theorem dX1_out_6 : decode cX1_out 6 = .ok (.bipush 8, 2) := by decide +kernel
theorem dX1_out_8 : decode cX1_out 8 = .ok (.invokestatic 52, 3) := by decide +kernel
theorem dX1_out_11 : decode cX1_out 11 = .ok (.ifCond .ne 12, 3) := by decide +kernel
theorem dX1_out_14 : decode cX1_out 14 = .ok (.iload_n 2, 1) := by decide +kernel
theorem dX1_out_15 : decode cX1_out 15 = .ok (.bipush 8, 2) := by decide +kernel
theorem dX1_out_17 : decode cX1_out 17 = .ok (.invokestatic 52, 3) := by decide +kernel
theorem dX1_out_20 : decode cX1_out 20 = .ok (.ifCond .eq 7, 3) := by decide +kernel
theorem dX1_out_23 : decode cX1_out 23 = .ok (.iconst (-1), 1) := by decide +kernel
theorem dX1_out_24 : decode cX1_out 24 = .ok (.goto 14, 3) := by decide +kernel
theorem dX1_out_27 : decode cX1_out 27 = .ok (.aload_n 0, 1) := by decide +kernel
theorem dX1_out_28 : decode cX1_out 28 = .ok (.getfield 27, 3) := by decide +kernel
theorem dX1_out_31 : decode cX1_out 31 = .ok (.bipush 8, 2) := by decide +kernel
theorem dX1_out_33 : decode cX1_out 33 = .ok (.iload_n 1, 1) := by decide +kernel
theorem dX1_out_34 : decode cX1_out 34 = .ok (.imul, 1) := by decide +kernel
theorem dX1_out_35 : decode cX1_out 35 = .ok (.iload_n 2, 1) := by decide +kernel
theorem dX1_out_36 : decode cX1_out 36 = .ok (.iadd, 1) := by decide +kernel
theorem dX1_out_37 : decode cX1_out 37 = .ok (.iaload, 1) := by decide +kernel
theorem dX1_out_38 : decode cX1_out 38 = .ok (.ireturn, 1) := by decide +kernel
set_option maxRecDepth 20000 in
theorem ggX1_energy_X1_not : GoodIn wsX1_energy wsX1_not := goodIn_r _ [6] (by decide +kernel) (by decide +kernel)
set_option maxRecDepth 20000 in
theorem gX1_energy_X1_not : GoodIn wsX1_energy (va_wsS RX1 52 yX1_not wsX1_not) := goodIn_app (goodIn_of _ (by decide +kernel)) ggX1_energy_X1_not
theorem dX1_energy_0 : decode cX1_energy 0 = .ok (.aload_n 0, 1) := by decide +kernel
theorem dX1_energy_1 : decode cX1_energy 1 = .ok (.iload_n 1, 1) := by decide +kernel
theorem dX1_energy_2 : decode cX1_energy 2 = .ok (.bipush 8, 2) := by decide +kernel
theorem dX1_energy_4 : decode cX1_energy 4 = .ok (.invokestatic 52, 3) := by decide +kernel
theorem dX1_energy_7 : decode cX1_energy 7 = .ok (.ifCond .eq 7, 3) := by decide +kernel
theorem dX1_energy_10 : decode cX1_energy 10 = .ok (.iconst 1, 1) := by decide +kernel
theorem dX1_energy_11 : decode cX1_energy 11 = .ok (.goto 4, 3) := by decide +kernel
theorem dX1_energy_14 : decode cX1_energy 14 = .ok (.iconst 0, 1) := by decide +kernel
theorem dX1_energy_15 : decode cX1_energy 15 = .ok (.putfield 7, 3) := by decide +kernel
theorem dX1_energy_18 : decode cX1_energy 18 = .ok (.aload_n 0, 1) := by decide +kernel
theorem dX1_energy_19 : decode cX1_energy 19 = .ok (.getfield 7, 3) := by decide +kernel
theorem dX1_energy_22 : decode cX1_energy 22 = .ok (.ifCond .eq 7, 3) := by decide +kernel
theorem dX1_energy_25 : decode cX1_energy 25 = .ok (.lconst 0, 1) := by decide +kernel
theorem dX1_energy_26 : decode cX1_energy 26 = .ok (.goto 9, 3) := by decide +kernel
theorem dX1_energy_29 : decode cX1_energy 29 = .ok (.aload_n 0, 1) := by decide +kernel
theorem dX1_energy_30 : decode cX1_energy 30 = .ok (.getfield 33, 3) := by decide +kernel
theorem dX1_energy_33 : decode cX1_energy 33 = .ok (.iload_n 1, 1) := by decide +kernel
theorem dX1_energy_34 : decode cX1_energy 34 = .ok (.laload, 1) := by decide +kernel
theorem dX1_energy_35 : decode cX1_energy 35 = .ok (.lreturn, 1) := by decide +kernel
theorem dJ6_numberOfLeadingZeros_0f7a4_0 : decode cJ6_numberOfLeadingZeros_0f7a4 0 = .ok (.iload_n 0, 1) := by decide +kernel
theorem dJ6_numberOfLeadingZeros_0f7a4_1 : decode cJ6_numberOfLeadingZeros_0f7a4 1 = .ok (.ifCond .gt 14, 3) := by decide +kernel
theorem dJ6_numberOfLeadingZeros_0f7a4_4 : decode cJ6_numberOfLeadingZeros_0f7a4 4 = .ok (.iload_n 0, 1) := by decide +kernel
theorem dJ6_numberOfLeadingZeros_0f7a4_5 : decode cJ6_numberOfLeadingZeros_0f7a4 5 = .ok (.ifCond .ne 8, 3) := by decide +kernel
theorem dJ6_numberOfLeadingZeros_0f7a4_8 : decode cJ6_numberOfLeadingZeros_0f7a4 8 = .ok (.bipush 32, 2) := by decide +kernel
theorem dJ6_numberOfLeadingZeros_0f7a4_10 : decode cJ6_numberOfLeadingZeros_0f7a4 10 = .ok (.goto 4, 3) := by decide +kernel
theorem dJ6_numberOfLeadingZeros_0f7a4_13 : decode cJ6_numberOfLeadingZeros_0f7a4 13 = .ok (.iconst 0, 1) := by decide +kernel
theorem dJ6_numberOfLeadingZeros_0f7a4_14 : decode cJ6_numberOfLeadingZeros_0f7a4 14 = .ok (.ireturn, 1) := by decide +kernel
theorem dJ6_numberOfLeadingZeros_0f7a4_15 : decode cJ6_numberOfLeadingZeros_0f7a4 15 = .ok (.bipush 31, 2) := by decide +kernel
theorem dJ6_numberOfLeadingZeros_0f7a4_17 : decode cJ6_numberOfLeadingZeros_0f7a4 17 = .ok (.istore_n 1, 1) := by decide +kernel
theorem dJ6_numberOfLeadingZeros_0f7a4_18 : decode cJ6_numberOfLeadingZeros_0f7a4 18 = .ok (.iload_n 0, 1) := by decide +kernel
theorem dJ6_numberOfLeadingZeros_0f7a4_19 : decode cJ6_numberOfLeadingZeros_0f7a4 19 = .ok (.ldc_w 264, 3) := by decide +kernel
theorem dJ6_numberOfLeadingZeros_0f7a4_22 : decode cJ6_numberOfLeadingZeros_0f7a4 22 = .ok (.if_icmp .lt 11, 3) := by decide +kernel
theorem dJ6_numberOfLeadingZeros_0f7a4_25 : decode cJ6_numberOfLeadingZeros_0f7a4 25 = .ok (.iinc 1 (-16), 3) := by decide +kernel
theorem dJ6_numberOfLeadingZeros_0f7a4_28 : decode cJ6_numberOfLeadingZeros_0f7a4 28 = .ok (.iload_n 0, 1) := by decide +kernel
theorem dJ6_numberOfLeadingZeros_0f7a4_29 : decode cJ6_numberOfLeadingZeros_0f7a4 29 = .ok (.bipush 16, 2) := by decide +kernel
theorem dJ6_numberOfLeadingZeros_0f7a4_31 : decode cJ6_numberOfLeadingZeros_0f7a4 31 = .ok (.iushr, 1) := by decide +kernel
theorem dJ6_numberOfLeadingZeros_0f7a4_32 : decode cJ6_numberOfLeadingZeros_0f7a4 32 = .ok (.istore_n 0, 1) := by decide +kernel
theorem dJ6_numberOfLeadingZeros_0f7a4_33 : decode cJ6_numberOfLeadingZeros_0f7a4 33 = .ok (.iload_n 0, 1) := by decide +kernel
theorem dJ6_numberOfLeadingZeros_0f7a4_34 : decode cJ6_numberOfLeadingZeros_0f7a4 34 = .ok (.sipush 256, 3) := by decide +kernel
theorem dJ6_numberOfLeadingZeros_0f7a4_37 : decode cJ6_numberOfLeadingZeros_0f7a4 37 = .ok (.if_icmp .lt 11, 3) := by decide +kernel
theorem dJ6_numberOfLeadingZeros_0f7a4_40 : decode cJ6_numberOfLeadingZeros_0f7a4 40 = .ok (.iinc 1 (-8), 3) := by decide +kernel
theorem dJ6_numberOfLeadingZeros_0f7a4_43 : decode cJ6_numberOfLeadingZeros_0f7a4 43 = .ok (.iload_n 0, 1) := by decide +kernel
theorem dJ6_numberOfLeadingZeros_0f7a4_44 : decode cJ6_numberOfLeadingZeros_0f7a4 44 = .ok (.bipush 8, 2) := by decide +kernel
theorem dJ6_numberOfLeadingZeros_0f7a4_46 : decode cJ6_numberOfLeadingZeros_0f7a4 46 = .ok (.iushr, 1) := by decide +kernel
theorem dJ6_numberOfLeadingZeros_0f7a4_47 : decode cJ6_numberOfLeadingZeros_0f7a4 47 = .ok (.istore_n 0, 1) := by decide +kernel
theorem dJ6_numberOfLeadingZeros_0f7a4_48 : decode cJ6_numberOfLeadingZeros_0f7a4 48 = .ok (.iload_n 0, 1) := by decide +kernel
theorem dJ6_numberOfLeadingZeros_0f7a4_49 : decode cJ6_numberOfLeadingZeros_0f7a4 49 = .ok (.bipush 16, 2) := by decide +kernel
theorem dJ6_numberOfLeadingZeros_0f7a4_51 : decode cJ6_numberOfLeadingZeros_0f7a4 51 = .ok (.if_icmp .lt 10, 3) := by decide +kernel
theorem dJ6_numberOfLeadingZeros_0f7a4_54 : decode cJ6_numberOfLeadingZeros_0f7a4 54 = .ok (.iinc 1 (-4), 3) := by decide +kernel
theorem dJ6_numberOfLeadingZeros_0f7a4_57 : decode cJ6_numberOfLeadingZeros_0f7a4 57 = .ok (.iload_n 0, 1) := by decide +kernel
theorem dJ6_numberOfLeadingZeros_0f7a4_58 : decode cJ6_numberOfLeadingZeros_0f7a4 58 = .ok (.iconst 4, 1) := by decide +kernel
theorem dJ6_numberOfLeadingZeros_0f7a4_59 : decode cJ6_numberOfLeadingZeros_0f7a4 59 = .ok (.iushr, 1) := by decide +kernel
theorem dJ6_numberOfLeadingZeros_0f7a4_60 : decode cJ6_numberOfLeadingZeros_0f7a4 60 = .ok (.istore_n 0, 1) := by decide +kernel
theorem dJ6_numberOfLeadingZeros_0f7a4_61 : decode cJ6_numberOfLeadingZeros_0f7a4 61 = .ok (.iload_n 0, 1) := by decide +kernel
theorem dJ6_numberOfLeadingZeros_0f7a4_62 : decode cJ6_numberOfLeadingZeros_0f7a4 62 = .ok (.iconst 4, 1) := by decide +kernel
theorem dJ6_numberOfLeadingZeros_0f7a4_63 : decode cJ6_numberOfLeadingZeros_0f7a4 63 = .ok (.if_icmp .lt 10, 3) := by decide +kernel
theorem dJ6_numberOfLeadingZeros_0f7a4_66 : decode cJ6_numberOfLeadingZeros_0f7a4 66 = .ok (.iinc 1 (-2), 3) := by decide +kernel
theorem dJ6_numberOfLeadingZeros_0f7a4_69 : decode cJ6_numberOfLeadingZeros_0f7a4 69 = .ok (.iload_n 0, 1) := by decide +kernel
theorem dJ6_numberOfLeadingZeros_0f7a4_70 : decode cJ6_numberOfLeadingZeros_0f7a4 70 = .ok (.iconst 2, 1) := by decide +kernel
theorem dJ6_numberOfLeadingZeros_0f7a4_71 : decode cJ6_numberOfLeadingZeros_0f7a4 71 = .ok (.iushr, 1) := by decide +kernel
theorem dJ6_numberOfLeadingZeros_0f7a4_72 : decode cJ6_numberOfLeadingZeros_0f7a4 72 = .ok (.istore_n 0, 1) := by decide +kernel
theorem dJ6_numberOfLeadingZeros_0f7a4_73 : decode cJ6_numberOfLeadingZeros_0f7a4 73 = .ok (.iload_n 1, 1) := by decide +kernel
theorem dJ6_numberOfLeadingZeros_0f7a4_74 : decode cJ6_numberOfLeadingZeros_0f7a4 74 = .ok (.iload_n 0, 1) := by decide +kernel
theorem dJ6_numberOfLeadingZeros_0f7a4_75 : decode cJ6_numberOfLeadingZeros_0f7a4 75 = .ok (.iconst 1, 1) := by decide +kernel
theorem dJ6_numberOfLeadingZeros_0f7a4_76 : decode cJ6_numberOfLeadingZeros_0f7a4 76 = .ok (.iushr, 1) := by decide +kernel
theorem dJ6_numberOfLeadingZeros_0f7a4_77 : decode cJ6_numberOfLeadingZeros_0f7a4 77 = .ok (.isub, 1) := by decide +kernel
theorem dJ6_numberOfLeadingZeros_0f7a4_78 : decode cJ6_numberOfLeadingZeros_0f7a4 78 = .ok (.ireturn, 1) := by decide +kernel
theorem dJ9_floorDiv_7cf53_0 : decode cJ9_floorDiv_7cf53 0 = .ok (.iload_n 0, 1) := by decide +kernel
theorem dJ9_floorDiv_7cf53_1 : decode cJ9_floorDiv_7cf53 1 = .ok (.iload_n 1, 1) := by decide +kernel
theorem dJ9_floorDiv_7cf53_2 : decode cJ9_floorDiv_7cf53 2 = .ok (.idiv, 1) := by decide +kernel
theorem dJ9_floorDiv_7cf53_3 : decode cJ9_floorDiv_7cf53 3 = .ok (.istore_n 2, 1) := by decide +kernel
theorem dJ9_floorDiv_7cf53_4 : decode cJ9_floorDiv_7cf53 4 = .ok (.iload_n 0, 1) := by decide +kernel
theorem dJ9_floorDiv_7cf53_5 : decode cJ9_floorDiv_7cf53 5 = .ok (.iload_n 1, 1) := by decide +kernel
theorem dJ9_floorDiv_7cf53_6 : decode cJ9_floorDiv_7cf53 6 = .ok (.ixor, 1) := by decide +kernel
theorem dJ9_floorDiv_7cf53_7 : decode cJ9_floorDiv_7cf53 7 = .ok (.ifCond .ge 14, 3) := by decide +kernel
theorem dJ9_floorDiv_7cf53_10 : decode cJ9_floorDiv_7cf53 10 = .ok (.iload_n 2, 1) := by decide +kernel
theorem dJ9_floorDiv_7cf53_11 : decode cJ9_floorDiv_7cf53 11 = .ok (.iload_n 1, 1) := by decide +kernel
theorem dJ9_floorDiv_7cf53_12 : decode cJ9_floorDiv_7cf53 12 = .ok (.imul, 1) := by decide +kernel
theorem dJ9_floorDiv_7cf53_13 : decode cJ9_floorDiv_7cf53 13 = .ok (.iload_n 0, 1) := by decide +kernel
theorem dJ9_floorDiv_7cf53_14 : decode cJ9_floorDiv_7cf53 14 = .ok (.if_icmp .eq 7, 3) := by decide +kernel
theorem dJ9_floorDiv_7cf53_17 : decode cJ9_floorDiv_7cf53 17 = .ok (.iload_n 2, 1) := by decide +kernel
theorem dJ9_floorDiv_7cf53_18 : decode cJ9_floorDiv_7cf53 18 = .ok (.iconst 1, 1) := by decide +kernel
theorem dJ9_floorDiv_7cf53_19 : decode cJ9_floorDiv_7cf53 19 = .ok (.isub, 1) := by decide +kernel
theorem dJ9_floorDiv_7cf53_20 : decode cJ9_floorDiv_7cf53 20 = .ok (.ireturn, 1) := by decide +kernel
theorem dJ9_floorDiv_7cf53_21 : decode cJ9_floorDiv_7cf53 21 = .ok (.iload_n 2, 1) := by decide +kernel
theorem dJ9_floorDiv_7cf53_22 : decode cJ9_floorDiv_7cf53 22 = .ok (.ireturn, 1) := by decide +kernel
theorem dJ9_abs_0f7a4_0 : decode cJ9_abs_0f7a4 0 = .ok (.iload_n 0, 1) := by decide +kernel
theorem dJ9_abs_0f7a4_1 : decode cJ9_abs_0f7a4 1 = .ok (.ifCond .ge 8, 3) := by decide +kernel
theorem dJ9_abs_0f7a4_4 : decode cJ9_abs_0f7a4 4 = .ok (.iload_n 0, 1) := by decide +kernel
theorem dJ9_abs_0f7a4_5 : decode cJ9_abs_0f7a4 5 = .ok (.ineg, 1) := by decide +kernel
theorem dJ9_abs_0f7a4_6 : decode cJ9_abs_0f7a4 6 = .ok (.goto 4, 3) := by decide +kernel
theorem dJ9_abs_0f7a4_9 : decode cJ9_abs_0f7a4 9 = .ok (.iload_n 0, 1) := by decide +kernel
theorem dJ9_abs_0f7a4_10 : decode cJ9_abs_0f7a4 10 = .ok (.ireturn, 1) := by decide +kernel
theorem dJ9_max_f86c9_0 : decode cJ9_max_f86c9 0 = .ok (.lload_n 0, 1) := by decide +kernel
theorem dJ9_max_f86c9_1 : decode cJ9_max_f86c9 1 = .ok (.lload_n 2, 1) := by decide +kernel
theorem dJ9_max_f86c9_2 : decode cJ9_max_f86c9 2 = .ok (.lcmp, 1) := by decide +kernel
theorem dJ9_max_f86c9_3 : decode cJ9_max_f86c9 3 = .ok (.ifCond .lt 7, 3) := by decide +kernel
theorem dJ9_max_f86c9_6 : decode cJ9_max_f86c9 6 = .ok (.lload_n 0, 1) := by decide +kernel
theorem dJ9_max_f86c9_7 : decode cJ9_max_f86c9 7 = .ok (.goto 4, 3) := by decide +kernel
theorem dJ9_max_f86c9_10 : decode cJ9_max_f86c9 10 = .ok (.lload_n 2, 1) := by decide +kernel
theorem dJ9_max_f86c9_11 : decode cJ9_max_f86c9 11 = .ok (.lreturn, 1) := by decide +kernel
theorem dJ9_min_7cf53_0 : decode cJ9_min_7cf53 0 = .ok (.iload_n 0, 1) := by decide +kernel
theorem dJ9_min_7cf53_1 : decode cJ9_min_7cf53 1 = .ok (.iload_n 1, 1) := by decide +kernel
theorem dJ9_min_7cf53_2 : decode cJ9_min_7cf53 2 = .ok (.if_icmp .gt 7, 3) := by decide +kernel
theorem dJ9_min_7cf53_5 : decode cJ9_min_7cf53 5 = .ok (.iload_n 0, 1) := by decide +kernel
theorem dJ9_min_7cf53_6 : decode cJ9_min_7cf53 6 = .ok (.goto 4, 3) := by decide +kernel
theorem dJ9_min_7cf53_9 : decode cJ9_min_7cf53 9 = .ok (.iload_n 1, 1) := by decide +kernel
theorem dJ9_min_7cf53_10 : decode cJ9_min_7cf53 10 = .ok (.ireturn, 1) := by decide +kernel
theorem dJ9_min_f86c9_0 : decode cJ9_min_f86c9 0 = .ok (.lload_n 0, 1) := by decide +kernel
theorem dJ9_min_f86c9_1 : decode cJ9_min_f86c9 1 = .ok (.lload_n 2, 1) := by decide +kernel
theorem dJ9_min_f86c9_2 : decode cJ9_min_f86c9 2 = .ok (.lcmp, 1) := by decide +kernel
theorem dJ9_min_f86c9_3 : decode cJ9_min_f86c9 3 = .ok (.ifCond .gt 7, 3) := by decide +kernel
theorem dJ9_min_f86c9_6 : decode cJ9_min_f86c9 6 = .ok (.lload_n 0, 1) := by decide +kernel
theorem dJ9_min_f86c9_7 : decode cJ9_min_f86c9 7 = .ok (.goto 4, 3) := by decide +kernel
theorem dJ9_min_f86c9_10 : decode cJ9_min_f86c9 10 = .ok (.lload_n 2, 1) := by decide +kernel
theorem dJ9_min_f86c9_11 : decode cJ9_min_f86c9 11 = .ok (.lreturn, 1) := by decide +kernel
set_option maxRecDepth 20000 in
theorem ggL_decode_X0_decode : GoodIn wsL_decode wsX0_decode := goodIn_ca (goodIn_r _ [6, 7, 8, 9, 10, 5, 11, 12, 13, 14, 15, 16, 17, 18, 19, 20, 21, 22, 23, 24, 25, 26] (by decide +kernel) (by decide +kernel)) (goodIn_sub (fun _ h => List.mem_cons_of_mem _ (List.mem_append_right _ h)) (by decide +kernel))
set_option maxRecDepth 20000 in
theorem gL_decode_X0_decode : GoodIn wsL_decode (wsV RL 7 RX0 yX0_decode wsX0_decode) := goodIn_app (goodIn_of _ (by decide +kernel)) ggL_decode_X0_decode
theorem dL_decode_0 : decode cL_decode 0 = .ok (.aload_n 3, 1) := by decide +kernel
theorem dL_decode_1 : decode cL_decode 1 = .ok (.iconst 0, 1) := by decide +kernel
theorem dL_decode_2 : decode cL_decode 2 = .ok (.aload_n 0, 1) := by decide +kernel
theorem dL_decode_3 : decode cL_decode 3 = .ok (.iload_n 1, 1) := by decide +kernel
theorem dL_decode_4 : decode cL_decode 4 = .ok (.iload_n 2, 1) := by decide +kernel
theorem dL_decode_5 : decode cL_decode 5 = .ok (.invokevirtual 7, 3) := by decide +kernel
theorem dL_decode_8 : decode cL_decode 8 = .ok (.i2l, 1) := by decide +kernel
theorem dL_decode_9 : decode cL_decode 9 = .ok (.lastore, 1) := by decide +kernel
theorem dL_decode_10 : decode cL_decode 10 = .ok (.goto 7, 3) := by decide +kernel
theorem dL_decode_13 : decode cL_decode 13 = .ok (.astore 4, 2) := by decide +kernel
theorem dL_decode_15 : decode cL_decode 15 = .ok (.iconst 1, 1) := by decide +kernel
theorem dL_decode_16 : decode cL_decode 16 = .ok (.ireturn, 1) := by decide +kernel
theorem dL_decode_17 : decode cL_decode 17 = .ok (.iconst 0, 1) := by decide +kernel
theorem dL_decode_18 : decode cL_decode 18 = .ok (.ireturn, 1) := by decide +kernel
set_option maxRecDepth 20000 in
theorem ggL_energy_X0_energy : GoodIn wsL_energy wsX0_energy := goodIn_ca (goodIn_r _ [6, 7, 8, 9, 10, 11, 5, 12, 13, 14, 15, 16, 17, 18, 19, 20, 21] (by decide +kernel) (by decide +kernel)) (goodIn_sub (fun _ h => List.mem_cons_of_mem _ (List.mem_append_right _ h)) (by decide +kernel))
set_option maxRecDepth 20000 in
theorem gL_energy_X0_energy : GoodIn wsL_energy (wsV RL 15 RX0 yX0_energy wsX0_energy) := goodIn_app (goodIn_of _ (by decide +kernel)) ggL_energy_X0_energy
theorem dL_energy_0 : decode cL_energy 0 = .ok (.aload_n 2, 1) := by decide +kernel
theorem dL_energy_1 : decode cL_energy 1 = .ok (.iconst 0, 1) := by decide +kernel
theorem dL_energy_2 : decode cL_energy 2 = .ok (.aload_n 0, 1) := by decide +kernel
theorem dL_energy_3 : decode cL_energy 3 = .ok (.iload_n 1, 1) := by decide +kernel
theorem dL_energy_4 : decode cL_energy 4 = .ok (.invokevirtual 15, 3) := by decide +kernel
theorem dL_energy_7 : decode cL_energy 7 = .ok (.lastore, 1) := by decide +kernel
theorem dL_energy_8 : decode cL_energy 8 = .ok (.goto 6, 3) := by decide +kernel
theorem dL_energy_11 : decode cL_energy 11 = .ok (.astore_n 3, 1) := by decide +kernel
theorem dL_energy_12 : decode cL_energy 12 = .ok (.iconst 1, 1) := by decide +kernel
theorem dL_energy_13 : decode cL_energy 13 = .ok (.ireturn, 1) := by decide +kernel
theorem dL_energy_14 : decode cL_energy 14 = .ok (.iconst 0, 1) := by decide +kernel
theorem dL_energy_15 : decode cL_energy 15 = .ok (.ireturn, 1) := by decide +kernel
set_option maxRecDepth 20000 in
theorem ggL_law_X0_init : GoodIn wsL_law wsX0_init := goodIn_r _ [9, 10, 11, 12, 13, 14, 15, 16, 17, 18, 19, 20, 21, 22, 6, 23, 24, 25, 26, 2, 27, 28, 29, 30, 31, 32, 33, 34, 35, 36, 37, 38, 39, 40, 41, 42, 43, 44, 45, 46, 47, 48, 243, 244, 245, 246, 247, 248, 249, 250, 251] (by decide +kernel) (by decide +kernel)
set_option maxRecDepth 20000 in
theorem gL_law_X0_init : GoodIn wsL_law (wsX0_init) := ggL_law_X0_init
set_option maxRecDepth 20000 in
theorem ggL_law_X1_init : GoodIn wsL_law wsX1_init := goodIn_r _ [51, 52, 11, 12, 53, 13, 54, 55, 16, 56, 57, 58, 59, 6, 60, 61, 62, 63, 5, 64, 252, 253, 254, 255, 256, 257, 258, 259, 260] (by decide +kernel) (by decide +kernel)
set_option maxRecDepth 20000 in
theorem gL_law_X1_init : GoodIn wsL_law (wsX1_init) := ggL_law_X1_init
set_option maxRecDepth 20000 in
theorem ggL_law_L_decode : GoodIn wsL_law wsL_decode := goodIn_ca (goodIn_r _ [68, 69, 70, 71, 72, 2, 73, 74, 75, 76, 77, 78, 79, 80, 81, 82, 83, 84, 85, 86, 87, 88, 89, 90, 91, 92, 93] (by decide +kernel) (by decide +kernel)) (goodIn_sub (fun _ h => List.mem_append_right _ h) (by decide +kernel))
set_option maxRecDepth 20000 in
theorem gL_law_L_decode : GoodIn wsL_law (va_wsS RL 23 yL_decode wsL_decode) := goodIn_app (goodIn_of _ (by decide +kernel)) ggL_law_L_decode
set_option maxRecDepth 20000 in
theorem ggL_law_X1_decode : GoodIn wsL_law wsX1_decode := goodIn_r _ [97, 53, 98, 99, 5, 100, 101, 102, 103, 252, 253, 254, 255, 256, 257, 258, 259, 260] (by decide +kernel) (by decide +kernel)
set_option maxRecDepth 20000 in
theorem gL_law_X1_decode : GoodIn wsL_law (wsV RL 28 RX1 yX1_decode wsX1_decode) := goodIn_app (goodIn_of _ (by decide +kernel)) ggL_law_X1_decode
set_option maxRecDepth 20000 in
theorem ggL_law_X1_thrown : GoodIn wsL_law wsX1_thrown := goodIn_r _ [107, 53, 252, 253, 254, 255, 256, 257, 258, 259, 260] (by decide +kernel) (by decide +kernel)
set_option maxRecDepth 20000 in
theorem gL_law_X1_thrown : GoodIn wsL_law (wsV RL 29 RX1 yX1_thrown wsX1_thrown) := goodIn_app (goodIn_of _ (by decide +kernel)) ggL_law_X1_thrown
set_option maxRecDepth 20000 in
theorem ggL_law_X0_encode : GoodIn wsL_law wsX0_encode := goodIn_r _ [111, 76, 77, 2, 78, 112, 113, 114, 115, 116, 117, 118, 44, 119, 120, 121, 122, 25, 26, 27, 28, 29, 30, 31, 32, 33, 34, 35, 36, 37, 38, 39, 40, 41, 42, 43, 45, 46, 47, 48] (by decide +kernel) (by decide +kernel)
set_option maxRecDepth 20000 in
theorem gL_law_X0_encode : GoodIn wsL_law (wsV RL 33 RX0 yX0_encode wsX0_encode) := goodIn_app (goodIn_of _ (by decide +kernel)) ggL_law_X0_encode
set_option maxRecDepth 20000 in
theorem ggL_law_X1_encode : GoodIn wsL_law wsX1_encode := goodIn_r _ [126, 53, 98, 99, 5, 100, 127, 128, 129, 130, 131, 62, 63, 64, 252, 253, 254, 255, 256, 257, 258, 259, 260] (by decide +kernel) (by decide +kernel)
set_option maxRecDepth 20000 in
theorem gL_law_X1_encode : GoodIn wsL_law (wsV RL 36 RX1 yX1_encode wsX1_encode) := goodIn_app (goodIn_of _ (by decide +kernel)) ggL_law_X1_encode
set_option maxRecDepth 20000 in
theorem ggL_law_X0_law : GoodIn wsL_law wsX0_law := goodIn_r _ [135, 14, 136, 137, 2, 138, 76, 77, 78, 243, 244, 245, 246, 247, 248, 249, 250, 251] (by decide +kernel) (by decide +kernel)
set_option maxRecDepth 20000 in
theorem gL_law_X0_law : GoodIn wsL_law (wsV RL 37 RX0 yX0_law wsX0_law) := goodIn_app (goodIn_of _ (by decide +kernel)) ggL_law_X0_law
set_option maxRecDepth 20000 in
theorem ggL_law_X1_law : GoodIn wsL_law wsX1_law := goodIn_r _ [142, 53, 54, 98, 99, 5, 100, 252, 253, 254, 255, 256, 257, 258, 259, 260] (by decide +kernel) (by decide +kernel)
set_option maxRecDepth 20000 in
theorem gL_law_X1_law : GoodIn wsL_law (wsV RL 41 RX1 yX1_law wsX1_law) := goodIn_app (goodIn_of _ (by decide +kernel)) ggL_law_X1_law
set_option maxRecDepth 20000 in
theorem ggL_law_X0_gain : GoodIn wsL_law wsX0_gain := goodIn_r _ [146, 15, 136, 137, 2, 138, 243, 244, 245, 246, 247, 248, 249, 250, 251] (by decide +kernel) (by decide +kernel)
set_option maxRecDepth 20000 in
theorem gL_law_X0_gain : GoodIn wsL_law (wsV RL 42 RX0 yX0_gain wsX0_gain) := goodIn_app (goodIn_of _ (by decide +kernel)) ggL_law_X0_gain
set_option maxRecDepth 20000 in
theorem ggL_law_X1_gain : GoodIn wsL_law wsX1_gain := goodIn_r _ [150, 53, 55, 98, 99, 5, 100, 252, 253, 254, 255, 256, 257, 258, 259, 260] (by decide +kernel) (by decide +kernel)
set_option maxRecDepth 20000 in
theorem gL_law_X1_gain : GoodIn wsL_law (wsV RL 45 RX1 yX1_gain wsX1_gain) := goodIn_app (goodIn_of _ (by decide +kernel)) ggL_law_X1_gain
set_option maxRecDepth 20000 in
theorem ggL_law_X0_mute : GoodIn wsL_law wsX0_mute := goodIn_r _ [154, 17, 136, 137, 2, 138, 243, 244, 245, 246, 247, 248, 249, 250, 251] (by decide +kernel) (by decide +kernel)
set_option maxRecDepth 20000 in
theorem gL_law_X0_mute : GoodIn wsL_law (wsV RL 46 RX0 yX0_mute wsX0_mute) := goodIn_app (goodIn_of _ (by decide +kernel)) ggL_law_X0_mute
set_option maxRecDepth 20000 in
theorem ggL_law_X1_mute : GoodIn wsL_law wsX1_mute := goodIn_r _ [158, 53, 56, 98, 99, 5, 100, 252, 253, 254, 255, 256, 257, 258, 259, 260] (by decide +kernel) (by decide +kernel)
set_option maxRecDepth 20000 in
theorem gL_law_X1_mute : GoodIn wsL_law (wsV RL 50 RX1 yX1_mute wsX1_mute) := goodIn_app (goodIn_of _ (by decide +kernel)) ggL_law_X1_mute
set_option maxRecDepth 20000 in
theorem ggL_law_X0_speakers : GoodIn wsL_law wsX0_speakers := goodIn_r _ [162, 21, 243, 244, 245, 246, 247, 248, 249, 250, 251] (by decide +kernel) (by decide +kernel)
set_option maxRecDepth 20000 in
theorem gL_law_X0_speakers : GoodIn wsL_law (wsV RL 51 RX0 yX0_speakers wsX0_speakers) := goodIn_app (goodIn_of _ (by decide +kernel)) ggL_law_X0_speakers
set_option maxRecDepth 20000 in
theorem ggL_law_X1_speakers : GoodIn wsL_law wsX1_speakers := goodIn_r _ [166, 53, 61, 252, 253, 254, 255, 256, 257, 258, 259, 260] (by decide +kernel) (by decide +kernel)
set_option maxRecDepth 20000 in
theorem gL_law_X1_speakers : GoodIn wsL_law (wsV RL 55 RX1 yX1_speakers wsX1_speakers) := goodIn_app (goodIn_of _ (by decide +kernel)) ggL_law_X1_speakers
set_option maxRecDepth 20000 in
theorem ggL_law_X0_put : GoodIn wsL_law wsX0_put := goodIn_r _ [170, 19, 136, 137, 2, 138, 171, 172, 173, 243, 244, 245, 246, 247, 248, 249, 250, 251] (by decide +kernel) (by decide +kernel)
set_option maxRecDepth 20000 in
theorem gL_law_X0_put : GoodIn wsL_law (wsV RL 56 RX0 yX0_put wsX0_put) := goodIn_app (goodIn_of _ (by decide +kernel)) ggL_law_X0_put
set_option maxRecDepth 20000 in
theorem ggL_law_X1_put : GoodIn wsL_law wsX1_put := goodIn_r _ [177, 53, 57, 98, 99, 5, 100, 252, 253, 254, 255, 256, 257, 258, 259, 260] (by decide +kernel) (by decide +kernel)
set_option maxRecDepth 20000 in
theorem gL_law_X1_put : GoodIn wsL_law (wsV RL 60 RX1 yX1_put wsX1_put) := goodIn_app (goodIn_of _ (by decide +kernel)) ggL_law_X1_put
set_option maxRecDepth 20000 in
theorem ggL_law_X0_ramp : GoodIn wsL_law wsX0_ramp := goodIn_r _ [181, 19, 14, 136, 137, 2, 138, 112, 113, 114, 115, 116, 117, 118, 44, 119, 120, 121, 122, 25, 26, 27, 28, 29, 30, 31, 32, 33, 34, 35, 36, 37, 38, 39, 40, 41, 42, 43, 45, 46, 47, 48, 243, 244, 245, 246, 247, 248, 249, 250, 251] (by decide +kernel) (by decide +kernel)
set_option maxRecDepth 20000 in
theorem gL_law_X0_ramp : GoodIn wsL_law (wsV RL 61 RX0 yX0_ramp wsX0_ramp) := goodIn_app (goodIn_of _ (by decide +kernel)) ggL_law_X0_ramp
set_option maxRecDepth 20000 in
theorem ggL_law_X1_ramp : GoodIn wsL_law wsX1_ramp := goodIn_r _ [185, 53, 57, 54, 98, 99, 5, 100, 127, 128, 129, 130, 131, 62, 63, 64, 252, 253, 254, 255, 256, 257, 258, 259, 260] (by decide +kernel) (by decide +kernel)
set_option maxRecDepth 20000 in
theorem gL_law_X1_ramp : GoodIn wsL_law (wsV RL 64 RX1 yX1_ramp wsX1_ramp) := goodIn_app (goodIn_of _ (by decide +kernel)) ggL_law_X1_ramp
set_option maxRecDepth 20000 in
theorem ggL_law_X0_mix : GoodIn wsL_law wsX0_mix := goodIn_r _ [189, 190, 191, 192, 2, 193, 14, 19, 15, 22, 23, 79, 80, 81, 82, 83, 84, 85, 86, 87, 88, 89, 90, 91, 92, 93, 194, 195, 196, 197, 112, 113, 114, 115, 116, 117, 118, 44, 119, 120, 121, 122, 198, 199, 200, 201, 21, 202, 203, 204, 205, 17, 206, 207, 208, 209, 210, 211, 212, 24, 213, 214, 215, 216, 20, 25, 26, 27, 28, 29, 30, 31, 32, 33, 34, 35, 36, 37, 38, 39, 40, 41, 42, 43, 45, 46, 47, 48, 243, 244, 245, 246, 247, 248, 249, 250, 251] (by decide +kernel) (by decide +kernel)
set_option maxRecDepth 20000 in
theorem gL_law_X0_mix : GoodIn wsL_law (wsV RL 65 RX0 yX0_mix wsX0_mix) := goodIn_app (goodIn_of _ (by decide +kernel)) ggL_law_X0_mix
set_option maxRecDepth 20000 in
theorem ggL_law_X1_mix : GoodIn wsL_law wsX1_mix := goodIn_r _ [220, 53, 60, 54, 57, 55, 59, 61, 56, 58, 101, 102, 5, 103, 221, 222, 223, 127, 128, 129, 130, 131, 62, 63, 64, 252, 253, 254, 255, 256, 257, 258, 259, 260] (by decide +kernel) (by decide +kernel)
set_option maxRecDepth 20000 in
theorem gL_law_X1_mix : GoodIn wsL_law (wsV RL 68 RX1 yX1_mix wsX1_mix) := goodIn_app (goodIn_of _ (by decide +kernel)) ggL_law_X1_mix
set_option maxRecDepth 20000 in
theorem ggL_law_X0_out : GoodIn wsL_law wsX0_out := goodIn_r _ [227, 20, 136, 137, 2, 138, 171, 172, 173, 243, 244, 245, 246, 247, 248, 249, 250, 251] (by decide +kernel) (by decide +kernel)
set_option maxRecDepth 20000 in
theorem gL_law_X0_out : GoodIn wsL_law (wsV RL 69 RX0 yX0_out wsX0_out) := goodIn_app (goodIn_of _ (by decide +kernel)) ggL_law_X0_out
set_option maxRecDepth 20000 in
theorem ggL_law_X1_out : GoodIn wsL_law wsX1_out := goodIn_r _ [231, 53, 58, 98, 99, 5, 100, 252, 253, 254, 255, 256, 257, 258, 259, 260] (by decide +kernel) (by decide +kernel)
set_option maxRecDepth 20000 in
theorem gL_law_X1_out : GoodIn wsL_law (wsV RL 72 RX1 yX1_out wsX1_out) := goodIn_app (goodIn_of _ (by decide +kernel)) ggL_law_X1_out
set_option maxRecDepth 20000 in
theorem ggL_law_L_energy : GoodIn wsL_law wsL_energy := goodIn_ca (goodIn_r _ [234, 69, 235, 236, 237, 2, 238, 74, 75, 23, 136, 137, 138, 243, 244, 245, 246, 247, 248, 249, 250, 251] (by decide +kernel) (by decide +kernel)) (goodIn_sub (fun _ h => List.mem_append_right _ h) (by decide +kernel))
set_option maxRecDepth 20000 in
theorem gL_law_L_energy : GoodIn wsL_law (va_wsS RL 73 yL_energy wsL_energy) := goodIn_app (goodIn_of _ (by decide +kernel)) ggL_law_L_energy
set_option maxRecDepth 20000 in
theorem ggL_law_X1_energy : GoodIn wsL_law wsX1_energy := goodIn_r _ [242, 53, 60, 98, 99, 5, 100, 252, 253, 254, 255, 256, 257, 258, 259, 260] (by decide +kernel) (by decide +kernel)
set_option maxRecDepth 20000 in
theorem gL_law_X1_energy : GoodIn wsL_law (wsV RL 76 RX1 yX1_energy wsX1_energy) := goodIn_app (goodIn_of _ (by decide +kernel)) ggL_law_X1_energy
theorem dL_law_0 : decode cL_law 0 = .ok (.new 8, 3) := by decide +kernel
theorem dL_law_3 : decode cL_law 3 = .ok (.dup, 1) := by decide +kernel
theorem dL_law_4 : decode cL_law 4 = .ok (.invokespecial 19, 3) := by decide +kernel
theorem dL_law_7 : decode cL_law 7 = .ok (.astore_n 1, 1) := by decide +kernel
theorem dL_law_8 : decode cL_law 8 = .ok (.new 20, 3) := by decide +kernel
theorem dL_law_11 : decode cL_law 11 = .ok (.dup, 1) := by decide +kernel
theorem dL_law_12 : decode cL_law 12 = .ok (.invokespecial 22, 3) := by decide +kernel
theorem dL_law_15 : decode cL_law 15 = .ok (.astore_n 2, 1) := by decide +kernel
theorem dL_law_16 : decode cL_law 16 = .ok (.iconst 1, 1) := by decide +kernel
theorem dL_law_17 : decode cL_law 17 = .ok (.newarray .long, 2) := by decide +kernel
theorem dL_law_19 : decode cL_law 19 = .ok (.astore_n 3, 1) := by decide +kernel
theorem dL_law_20 : decode cL_law 20 = .ok (.iconst 0, 1) := by decide +kernel
theorem dL_law_21 : decode cL_law 21 = .ok (.istore 4, 2) := by decide +kernel
theorem dL_law_23 : decode cL_law 23 = .ok (.iload 4, 2) := by decide +kernel
theorem dL_law_25 : decode cL_law 25 = .ok (.aload_n 0, 1) := by decide +kernel
theorem dL_law_26 : decode cL_law 26 = .ok (.arraylength, 1) := by decide +kernel
theorem dL_law_27 : decode cL_law 27 = .ok (.iconst 4, 1) := by decide +kernel
theorem dL_law_28 : decode cL_law 28 = .ok (.isub, 1) := by decide +kernel
theorem dL_law_29 : decode cL_law 29 = .ok (.if_icmp .gt 533, 3) := by decide +kernel
theorem dL_law_32 : decode cL_law 32 = .ok (.aload_n 0, 1) := by decide +kernel
theorem dL_law_33 : decode cL_law 33 = .ok (.iload 4, 2) := by decide +kernel
theorem dL_law_35 : decode cL_law 35 = .ok (.iaload, 1) := by decide +kernel
theorem dL_law_36 : decode cL_law 36 = .ok (.bipush 15, 2) := by decide +kernel
theorem dL_law_38 : decode cL_law 38 = .ok (.iand, 1) := by decide +kernel
theorem dL_law_39 : decode cL_law 39 = .ok (.tableswitch 517 0 10 #[57, 125, 162, 199, 236, 289, 314, 363, 412, 425, 462], 57) := by decide +kernel
theorem dL_law_96 : decode cL_law 96 = .ok (.aload_n 1, 1) := by decide +kernel
theorem dL_law_97 : decode cL_law 97 = .ok (.aload_n 0, 1) := by decide +kernel
theorem dL_law_98 : decode cL_law 98 = .ok (.iload 4, 2) := by decide +kernel
theorem dL_law_100 : decode cL_law 100 = .ok (.iconst 1, 1) := by decide +kernel
theorem dL_law_101 : decode cL_law 101 = .ok (.iadd, 1) := by decide +kernel
theorem dL_law_102 : decode cL_law 102 = .ok (.iaload, 1) := by decide +kernel
theorem dL_law_103 : decode cL_law 103 = .ok (.aload_n 0, 1) := by decide +kernel
theorem dL_law_104 : decode cL_law 104 = .ok (.iload 4, 2) := by decide +kernel
theorem dL_law_106 : decode cL_law 106 = .ok (.iconst 2, 1) := by decide +kernel
theorem dL_law_107 : decode cL_law 107 = .ok (.iadd, 1) := by decide +kernel
theorem dL_law_108 : decode cL_law 108 = .ok (.iaload, 1) := by decide +kernel
theorem dL_law_109 : decode cL_law 109 = .ok (.aload_n 3, 1) := by decide +kernel
theorem dL_law_110 : decode cL_law 110 = .ok (.invokestatic 23, 3) := by decide +kernel
theorem dL_law_113 : decode cL_law 113 = .ok (.istore 5, 2) := by decide +kernel
theorem dL_law_115 : decode cL_law 115 = .ok (.aload_n 2, 1) := by decide +kernel
theorem dL_law_116 : decode cL_law 116 = .ok (.aload_n 0, 1) := by decide +kernel
theorem dL_law_117 : decode cL_law 117 = .ok (.iload 4, 2) := by decide +kernel
theorem dL_law_119 : decode cL_law 119 = .ok (.iconst 1, 1) := by decide +kernel
theorem dL_law_120 : decode cL_law 120 = .ok (.iadd, 1) := by decide +kernel
theorem dL_law_121 : decode cL_law 121 = .ok (.iaload, 1) := by decide +kernel
theorem dL_law_122 : decode cL_law 122 = .ok (.aload_n 0, 1) := by decide +kernel
theorem dL_law_123 : decode cL_law 123 = .ok (.iload 4, 2) := by decide +kernel
theorem dL_law_125 : decode cL_law 125 = .ok (.iconst 2, 1) := by decide +kernel
theorem dL_law_126 : decode cL_law 126 = .ok (.iadd, 1) := by decide +kernel
theorem dL_law_127 : decode cL_law 127 = .ok (.iaload, 1) := by decide +kernel
theorem dL_law_128 : decode cL_law 128 = .ok (.invokevirtual 28, 3) := by decide +kernel
theorem dL_law_131 : decode cL_law 131 = .ok (.istore 6, 2) := by decide +kernel
theorem dL_law_133 : decode cL_law 133 = .ok (.aload_n 2, 1) := by decide +kernel
theorem dL_law_134 : decode cL_law 134 = .ok (.invokevirtual 29, 3) := by decide +kernel
theorem dL_law_137 : decode cL_law 137 = .ok (.iload 5, 2) := by decide +kernel
theorem dL_law_139 : decode cL_law 139 = .ok (.if_icmp .eq 5, 3) := by decide +kernel
theorem dL_law_142 : decode cL_law 142 = .ok (.iconst 0, 1) := by decide +kernel
theorem dL_law_143 : decode cL_law 143 = .ok (.ireturn, 1) := by decide +kernel
theorem dL_law_144 : decode cL_law 144 = .ok (.iload 5, 2) := by decide +kernel
theorem dL_law_146 : decode cL_law 146 = .ok (.ifCond .ne 15, 3) := by decide +kernel
theorem dL_law_149 : decode cL_law 149 = .ok (.aload_n 3, 1) := by decide +kernel
theorem dL_law_150 : decode cL_law 150 = .ok (.iconst 0, 1) := by decide +kernel
theorem dL_law_151 : decode cL_law 151 = .ok (.laload, 1) := by decide +kernel
theorem dL_law_152 : decode cL_law 152 = .ok (.iload 6, 2) := by decide +kernel
theorem dL_law_154 : decode cL_law 154 = .ok (.i2l, 1) := by decide +kernel
theorem dL_law_155 : decode cL_law 155 = .ok (.lcmp, 1) := by decide +kernel
theorem dL_law_156 : decode cL_law 156 = .ok (.ifCond .eq 5, 3) := by decide +kernel
theorem dL_law_159 : decode cL_law 159 = .ok (.iconst 0, 1) := by decide +kernel
theorem dL_law_160 : decode cL_law 160 = .ok (.ireturn, 1) := by decide +kernel
theorem dL_law_161 : decode cL_law 161 = .ok (.goto 395, 3) := by decide +kernel
theorem dL_law_164 : decode cL_law 164 = .ok (.aload_n 1, 1) := by decide +kernel
theorem dL_law_165 : decode cL_law 165 = .ok (.aload_n 0, 1) := by decide +kernel
theorem dL_law_166 : decode cL_law 166 = .ok (.iload 4, 2) := by decide +kernel
theorem dL_law_168 : decode cL_law 168 = .ok (.iconst 1, 1) := by decide +kernel
theorem dL_law_169 : decode cL_law 169 = .ok (.iadd, 1) := by decide +kernel
theorem dL_law_170 : decode cL_law 170 = .ok (.iaload, 1) := by decide +kernel
theorem dL_law_171 : decode cL_law 171 = .ok (.aload_n 0, 1) := by decide +kernel
theorem dL_law_172 : decode cL_law 172 = .ok (.iload 4, 2) := by decide +kernel
theorem dL_law_174 : decode cL_law 174 = .ok (.iconst 2, 1) := by decide +kernel
theorem dL_law_175 : decode cL_law 175 = .ok (.iadd, 1) := by decide +kernel
theorem dL_law_176 : decode cL_law 176 = .ok (.iaload, 1) := by decide +kernel
theorem dL_law_177 : decode cL_law 177 = .ok (.invokevirtual 33, 3) := by decide +kernel
theorem dL_law_180 : decode cL_law 180 = .ok (.aload_n 2, 1) := by decide +kernel
theorem dL_law_181 : decode cL_law 181 = .ok (.aload_n 0, 1) := by decide +kernel
theorem dL_law_182 : decode cL_law 182 = .ok (.iload 4, 2) := by decide +kernel
theorem dL_law_184 : decode cL_law 184 = .ok (.iconst 1, 1) := by decide +kernel
theorem dL_law_185 : decode cL_law 185 = .ok (.iadd, 1) := by decide +kernel
theorem dL_law_186 : decode cL_law 186 = .ok (.iaload, 1) := by decide +kernel
theorem dL_law_187 : decode cL_law 187 = .ok (.aload_n 0, 1) := by decide +kernel
theorem dL_law_188 : decode cL_law 188 = .ok (.iload 4, 2) := by decide +kernel
theorem dL_law_190 : decode cL_law 190 = .ok (.iconst 2, 1) := by decide +kernel
theorem dL_law_191 : decode cL_law 191 = .ok (.iadd, 1) := by decide +kernel
theorem dL_law_192 : decode cL_law 192 = .ok (.iaload, 1) := by decide +kernel
theorem dL_law_193 : decode cL_law 193 = .ok (.invokevirtual 36, 3) := by decide +kernel
theorem dL_law_196 : decode cL_law 196 = .ok (.if_icmp .eq 360, 3) := by decide +kernel
theorem dL_law_199 : decode cL_law 199 = .ok (.iconst 0, 1) := by decide +kernel
theorem dL_law_200 : decode cL_law 200 = .ok (.ireturn, 1) := by decide +kernel
theorem dL_law_201 : decode cL_law 201 = .ok (.aload_n 1, 1) := by decide +kernel
theorem dL_law_202 : decode cL_law 202 = .ok (.aload_n 0, 1) := by decide +kernel
theorem dL_law_203 : decode cL_law 203 = .ok (.iload 4, 2) := by decide +kernel
theorem dL_law_205 : decode cL_law 205 = .ok (.iconst 1, 1) := by decide +kernel
theorem dL_law_206 : decode cL_law 206 = .ok (.iadd, 1) := by decide +kernel
theorem dL_law_207 : decode cL_law 207 = .ok (.iaload, 1) := by decide +kernel
theorem dL_law_208 : decode cL_law 208 = .ok (.aload_n 0, 1) := by decide +kernel
theorem dL_law_209 : decode cL_law 209 = .ok (.iload 4, 2) := by decide +kernel
theorem dL_law_211 : decode cL_law 211 = .ok (.iconst 2, 1) := by decide +kernel
theorem dL_law_212 : decode cL_law 212 = .ok (.iadd, 1) := by decide +kernel
theorem dL_law_213 : decode cL_law 213 = .ok (.iaload, 1) := by decide +kernel
theorem dL_law_214 : decode cL_law 214 = .ok (.invokevirtual 37, 3) := by decide +kernel
theorem dL_law_217 : decode cL_law 217 = .ok (.aload_n 2, 1) := by decide +kernel
theorem dL_law_218 : decode cL_law 218 = .ok (.aload_n 0, 1) := by decide +kernel
theorem dL_law_219 : decode cL_law 219 = .ok (.iload 4, 2) := by decide +kernel
theorem dL_law_221 : decode cL_law 221 = .ok (.iconst 1, 1) := by decide +kernel
theorem dL_law_222 : decode cL_law 222 = .ok (.iadd, 1) := by decide +kernel
theorem dL_law_223 : decode cL_law 223 = .ok (.iaload, 1) := by decide +kernel
theorem dL_law_224 : decode cL_law 224 = .ok (.aload_n 0, 1) := by decide +kernel
theorem dL_law_225 : decode cL_law 225 = .ok (.iload 4, 2) := by decide +kernel
theorem dL_law_227 : decode cL_law 227 = .ok (.iconst 2, 1) := by decide +kernel
theorem dL_law_228 : decode cL_law 228 = .ok (.iadd, 1) := by decide +kernel
theorem dL_law_229 : decode cL_law 229 = .ok (.iaload, 1) := by decide +kernel
theorem dL_law_230 : decode cL_law 230 = .ok (.invokevirtual 41, 3) := by decide +kernel
theorem dL_law_233 : decode cL_law 233 = .ok (.if_icmp .eq 323, 3) := by decide +kernel
theorem dL_law_236 : decode cL_law 236 = .ok (.iconst 0, 1) := by decide +kernel
theorem dL_law_237 : decode cL_law 237 = .ok (.ireturn, 1) := by decide +kernel
theorem dL_law_238 : decode cL_law 238 = .ok (.aload_n 1, 1) := by decide +kernel
theorem dL_law_239 : decode cL_law 239 = .ok (.aload_n 0, 1) := by decide +kernel
theorem dL_law_240 : decode cL_law 240 = .ok (.iload 4, 2) := by decide +kernel
theorem dL_law_242 : decode cL_law 242 = .ok (.iconst 1, 1) := by decide +kernel
theorem dL_law_243 : decode cL_law 243 = .ok (.iadd, 1) := by decide +kernel
theorem dL_law_244 : decode cL_law 244 = .ok (.iaload, 1) := by decide +kernel
theorem dL_law_245 : decode cL_law 245 = .ok (.aload_n 0, 1) := by decide +kernel
theorem dL_law_246 : decode cL_law 246 = .ok (.iload 4, 2) := by decide +kernel
theorem dL_law_248 : decode cL_law 248 = .ok (.iconst 2, 1) := by decide +kernel
theorem dL_law_249 : decode cL_law 249 = .ok (.iadd, 1) := by decide +kernel
theorem dL_law_250 : decode cL_law 250 = .ok (.iaload, 1) := by decide +kernel
theorem dL_law_251 : decode cL_law 251 = .ok (.invokevirtual 42, 3) := by decide +kernel
theorem dL_law_254 : decode cL_law 254 = .ok (.aload_n 2, 1) := by decide +kernel
theorem dL_law_255 : decode cL_law 255 = .ok (.aload_n 0, 1) := by decide +kernel
theorem dL_law_256 : decode cL_law 256 = .ok (.iload 4, 2) := by decide +kernel
theorem dL_law_258 : decode cL_law 258 = .ok (.iconst 1, 1) := by decide +kernel
theorem dL_law_259 : decode cL_law 259 = .ok (.iadd, 1) := by decide +kernel
theorem dL_law_260 : decode cL_law 260 = .ok (.iaload, 1) := by decide +kernel
theorem dL_law_261 : decode cL_law 261 = .ok (.aload_n 0, 1) := by decide +kernel
theorem dL_law_262 : decode cL_law 262 = .ok (.iload 4, 2) := by decide +kernel
theorem dL_law_264 : decode cL_law 264 = .ok (.iconst 2, 1) := by decide +kernel
theorem dL_law_265 : decode cL_law 265 = .ok (.iadd, 1) := by decide +kernel
theorem dL_law_266 : decode cL_law 266 = .ok (.iaload, 1) := by decide +kernel
theorem dL_law_267 : decode cL_law 267 = .ok (.invokevirtual 45, 3) := by decide +kernel
theorem dL_law_270 : decode cL_law 270 = .ok (.if_icmp .eq 286, 3) := by decide +kernel
theorem dL_law_273 : decode cL_law 273 = .ok (.iconst 0, 1) := by decide +kernel
theorem dL_law_274 : decode cL_law 274 = .ok (.ireturn, 1) := by decide +kernel
theorem dL_law_275 : decode cL_law 275 = .ok (.aload_n 1, 1) := by decide +kernel
theorem dL_law_276 : decode cL_law 276 = .ok (.aload_n 0, 1) := by decide +kernel
theorem dL_law_277 : decode cL_law 277 = .ok (.iload 4, 2) := by decide +kernel
theorem dL_law_279 : decode cL_law 279 = .ok (.iconst 1, 1) := by decide +kernel
theorem dL_law_280 : decode cL_law 280 = .ok (.iadd, 1) := by decide +kernel
theorem dL_law_281 : decode cL_law 281 = .ok (.iaload, 1) := by decide +kernel
theorem dL_law_282 : decode cL_law 282 = .ok (.aload_n 0, 1) := by decide +kernel
theorem dL_law_283 : decode cL_law 283 = .ok (.iload 4, 2) := by decide +kernel
theorem dL_law_285 : decode cL_law 285 = .ok (.iconst 2, 1) := by decide +kernel
theorem dL_law_286 : decode cL_law 286 = .ok (.iadd, 1) := by decide +kernel
theorem dL_law_287 : decode cL_law 287 = .ok (.iaload, 1) := by decide +kernel
theorem dL_law_288 : decode cL_law 288 = .ok (.ifCond .eq 7, 3) := by decide +kernel
theorem dL_law_291 : decode cL_law 291 = .ok (.iconst 1, 1) := by decide +kernel
theorem dL_law_292 : decode cL_law 292 = .ok (.goto 4, 3) := by decide +kernel
theorem dL_law_295 : decode cL_law 295 = .ok (.iconst 0, 1) := by decide +kernel
theorem dL_law_296 : decode cL_law 296 = .ok (.invokevirtual 46, 3) := by decide +kernel
theorem dL_law_299 : decode cL_law 299 = .ok (.aload_n 2, 1) := by decide +kernel
theorem dL_law_300 : decode cL_law 300 = .ok (.aload_n 0, 1) := by decide +kernel
theorem dL_law_301 : decode cL_law 301 = .ok (.iload 4, 2) := by decide +kernel
theorem dL_law_303 : decode cL_law 303 = .ok (.iconst 1, 1) := by decide +kernel
theorem dL_law_304 : decode cL_law 304 = .ok (.iadd, 1) := by decide +kernel
theorem dL_law_305 : decode cL_law 305 = .ok (.iaload, 1) := by decide +kernel
theorem dL_law_306 : decode cL_law 306 = .ok (.aload_n 0, 1) := by decide +kernel
theorem dL_law_307 : decode cL_law 307 = .ok (.iload 4, 2) := by decide +kernel
theorem dL_law_309 : decode cL_law 309 = .ok (.iconst 2, 1) := by decide +kernel
theorem dL_law_310 : decode cL_law 310 = .ok (.iadd, 1) := by decide +kernel
theorem dL_law_311 : decode cL_law 311 = .ok (.iaload, 1) := by decide +kernel
theorem dL_law_312 : decode cL_law 312 = .ok (.ifCond .eq 7, 3) := by decide +kernel
theorem dL_law_315 : decode cL_law 315 = .ok (.iconst 1, 1) := by decide +kernel
theorem dL_law_316 : decode cL_law 316 = .ok (.goto 4, 3) := by decide +kernel
theorem dL_law_319 : decode cL_law 319 = .ok (.iconst 0, 1) := by decide +kernel
theorem dL_law_320 : decode cL_law 320 = .ok (.invokevirtual 50, 3) := by decide +kernel
theorem dL_law_323 : decode cL_law 323 = .ok (.if_icmp .eq 233, 3) := by decide +kernel
theorem dL_law_326 : decode cL_law 326 = .ok (.iconst 0, 1) := by decide +kernel
theorem dL_law_327 : decode cL_law 327 = .ok (.ireturn, 1) := by decide +kernel
theorem dL_law_328 : decode cL_law 328 = .ok (.aload_n 1, 1) := by decide +kernel
theorem dL_law_329 : decode cL_law 329 = .ok (.aload_n 0, 1) := by decide +kernel
theorem dL_law_330 : decode cL_law 330 = .ok (.iload 4, 2) := by decide +kernel
theorem dL_law_332 : decode cL_law 332 = .ok (.iconst 1, 1) := by decide +kernel
theorem dL_law_333 : decode cL_law 333 = .ok (.iadd, 1) := by decide +kernel
theorem dL_law_334 : decode cL_law 334 = .ok (.iaload, 1) := by decide +kernel
theorem dL_law_335 : decode cL_law 335 = .ok (.invokevirtual 51, 3) := by decide +kernel
theorem dL_law_338 : decode cL_law 338 = .ok (.aload_n 2, 1) := by decide +kernel
theorem dL_law_339 : decode cL_law 339 = .ok (.aload_n 0, 1) := by decide +kernel
theorem dL_law_340 : decode cL_law 340 = .ok (.iload 4, 2) := by decide +kernel
theorem dL_law_342 : decode cL_law 342 = .ok (.iconst 1, 1) := by decide +kernel
theorem dL_law_343 : decode cL_law 343 = .ok (.iadd, 1) := by decide +kernel
theorem dL_law_344 : decode cL_law 344 = .ok (.iaload, 1) := by decide +kernel
theorem dL_law_345 : decode cL_law 345 = .ok (.invokevirtual 55, 3) := by decide +kernel
theorem dL_law_348 : decode cL_law 348 = .ok (.if_icmp .eq 208, 3) := by decide +kernel
theorem dL_law_351 : decode cL_law 351 = .ok (.iconst 0, 1) := by decide +kernel
theorem dL_law_352 : decode cL_law 352 = .ok (.ireturn, 1) := by decide +kernel
theorem dL_law_353 : decode cL_law 353 = .ok (.aload_n 1, 1) := by decide +kernel
theorem dL_law_354 : decode cL_law 354 = .ok (.aload_n 0, 1) := by decide +kernel
theorem dL_law_355 : decode cL_law 355 = .ok (.iload 4, 2) := by decide +kernel
theorem dL_law_357 : decode cL_law 357 = .ok (.iconst 1, 1) := by decide +kernel
theorem dL_law_358 : decode cL_law 358 = .ok (.iadd, 1) := by decide +kernel
theorem dL_law_359 : decode cL_law 359 = .ok (.iaload, 1) := by decide +kernel
theorem dL_law_360 : decode cL_law 360 = .ok (.aload_n 0, 1) := by decide +kernel
theorem dL_law_361 : decode cL_law 361 = .ok (.iload 4, 2) := by decide +kernel
theorem dL_law_363 : decode cL_law 363 = .ok (.iconst 2, 1) := by decide +kernel
theorem dL_law_364 : decode cL_law 364 = .ok (.iadd, 1) := by decide +kernel
theorem dL_law_365 : decode cL_law 365 = .ok (.iaload, 1) := by decide +kernel
theorem dL_law_366 : decode cL_law 366 = .ok (.aload_n 0, 1) := by decide +kernel
theorem dL_law_367 : decode cL_law 367 = .ok (.iload 4, 2) := by decide +kernel
theorem dL_law_369 : decode cL_law 369 = .ok (.iconst 3, 1) := by decide +kernel
theorem dL_law_370 : decode cL_law 370 = .ok (.iadd, 1) := by decide +kernel
theorem dL_law_371 : decode cL_law 371 = .ok (.iaload, 1) := by decide +kernel
theorem dL_law_372 : decode cL_law 372 = .ok (.invokevirtual 56, 3) := by decide +kernel
theorem dL_law_375 : decode cL_law 375 = .ok (.aload_n 2, 1) := by decide +kernel
theorem dL_law_376 : decode cL_law 376 = .ok (.aload_n 0, 1) := by decide +kernel
theorem dL_law_377 : decode cL_law 377 = .ok (.iload 4, 2) := by decide +kernel
theorem dL_law_379 : decode cL_law 379 = .ok (.iconst 1, 1) := by decide +kernel
theorem dL_law_380 : decode cL_law 380 = .ok (.iadd, 1) := by decide +kernel
theorem dL_law_381 : decode cL_law 381 = .ok (.iaload, 1) := by decide +kernel
theorem dL_law_382 : decode cL_law 382 = .ok (.aload_n 0, 1) := by decide +kernel
theorem dL_law_383 : decode cL_law 383 = .ok (.iload 4, 2) := by decide +kernel
theorem dL_law_385 : decode cL_law 385 = .ok (.iconst 2, 1) := by decide +kernel
theorem dL_law_386 : decode cL_law 386 = .ok (.iadd, 1) := by decide +kernel
theorem dL_law_387 : decode cL_law 387 = .ok (.iaload, 1) := by decide +kernel
theorem dL_law_388 : decode cL_law 388 = .ok (.aload_n 0, 1) := by decide +kernel
theorem dL_law_389 : decode cL_law 389 = .ok (.iload 4, 2) := by decide +kernel
theorem dL_law_391 : decode cL_law 391 = .ok (.iconst 3, 1) := by decide +kernel
theorem dL_law_392 : decode cL_law 392 = .ok (.iadd, 1) := by decide +kernel
theorem dL_law_393 : decode cL_law 393 = .ok (.iaload, 1) := by decide +kernel
theorem dL_law_394 : decode cL_law 394 = .ok (.invokevirtual 60, 3) := by decide +kernel
theorem dL_law_397 : decode cL_law 397 = .ok (.if_icmp .eq 159, 3) := by decide +kernel
theorem dL_law_400 : decode cL_law 400 = .ok (.iconst 0, 1) := by decide +kernel
theorem dL_law_401 : decode cL_law 401 = .ok (.ireturn, 1) := by decide +kernel
theorem dL_law_402 : decode cL_law 402 = .ok (.aload_n 1, 1) := by decide +kernel
theorem dL_law_403 : decode cL_law 403 = .ok (.aload_n 0, 1) := by decide +kernel
theorem dL_law_404 : decode cL_law 404 = .ok (.iload 4, 2) := by decide +kernel
theorem dL_law_406 : decode cL_law 406 = .ok (.iconst 1, 1) := by decide +kernel
theorem dL_law_407 : decode cL_law 407 = .ok (.iadd, 1) := by decide +kernel
theorem dL_law_408 : decode cL_law 408 = .ok (.iaload, 1) := by decide +kernel
theorem dL_law_409 : decode cL_law 409 = .ok (.aload_n 0, 1) := by decide +kernel
theorem dL_law_410 : decode cL_law 410 = .ok (.iload 4, 2) := by decide +kernel
theorem dL_law_412 : decode cL_law 412 = .ok (.iconst 2, 1) := by decide +kernel
theorem dL_law_413 : decode cL_law 413 = .ok (.iadd, 1) := by decide +kernel
theorem dL_law_414 : decode cL_law 414 = .ok (.iaload, 1) := by decide +kernel
theorem dL_law_415 : decode cL_law 415 = .ok (.aload_n 0, 1) := by decide +kernel
theorem dL_law_416 : decode cL_law 416 = .ok (.iload 4, 2) := by decide +kernel
theorem dL_law_418 : decode cL_law 418 = .ok (.iconst 3, 1) := by decide +kernel
theorem dL_law_419 : decode cL_law 419 = .ok (.iadd, 1) := by decide +kernel
theorem dL_law_420 : decode cL_law 420 = .ok (.iaload, 1) := by decide +kernel
theorem dL_law_421 : decode cL_law 421 = .ok (.invokevirtual 61, 3) := by decide +kernel
theorem dL_law_424 : decode cL_law 424 = .ok (.aload_n 2, 1) := by decide +kernel
theorem dL_law_425 : decode cL_law 425 = .ok (.aload_n 0, 1) := by decide +kernel
theorem dL_law_426 : decode cL_law 426 = .ok (.iload 4, 2) := by decide +kernel
theorem dL_law_428 : decode cL_law 428 = .ok (.iconst 1, 1) := by decide +kernel
theorem dL_law_429 : decode cL_law 429 = .ok (.iadd, 1) := by decide +kernel
theorem dL_law_430 : decode cL_law 430 = .ok (.iaload, 1) := by decide +kernel
theorem dL_law_431 : decode cL_law 431 = .ok (.aload_n 0, 1) := by decide +kernel
theorem dL_law_432 : decode cL_law 432 = .ok (.iload 4, 2) := by decide +kernel
theorem dL_law_434 : decode cL_law 434 = .ok (.iconst 2, 1) := by decide +kernel
theorem dL_law_435 : decode cL_law 435 = .ok (.iadd, 1) := by decide +kernel
theorem dL_law_436 : decode cL_law 436 = .ok (.iaload, 1) := by decide +kernel
theorem dL_law_437 : decode cL_law 437 = .ok (.aload_n 0, 1) := by decide +kernel
theorem dL_law_438 : decode cL_law 438 = .ok (.iload 4, 2) := by decide +kernel
theorem dL_law_440 : decode cL_law 440 = .ok (.iconst 3, 1) := by decide +kernel
theorem dL_law_441 : decode cL_law 441 = .ok (.iadd, 1) := by decide +kernel
theorem dL_law_442 : decode cL_law 442 = .ok (.iaload, 1) := by decide +kernel
theorem dL_law_443 : decode cL_law 443 = .ok (.invokevirtual 64, 3) := by decide +kernel
theorem dL_law_446 : decode cL_law 446 = .ok (.if_icmp .eq 110, 3) := by decide +kernel
theorem dL_law_449 : decode cL_law 449 = .ok (.iconst 0, 1) := by decide +kernel
theorem dL_law_450 : decode cL_law 450 = .ok (.ireturn, 1) := by decide +kernel
theorem dL_law_451 : decode cL_law 451 = .ok (.aload_n 1, 1) := by decide +kernel
theorem dL_law_452 : decode cL_law 452 = .ok (.invokevirtual 65, 3) := by decide +kernel
theorem dL_law_455 : decode cL_law 455 = .ok (.aload_n 2, 1) := by decide +kernel
theorem dL_law_456 : decode cL_law 456 = .ok (.invokevirtual 68, 3) := by decide +kernel
theorem dL_law_459 : decode cL_law 459 = .ok (.if_icmp .eq 97, 3) := by decide +kernel
theorem dL_law_462 : decode cL_law 462 = .ok (.iconst 0, 1) := by decide +kernel
theorem dL_law_463 : decode cL_law 463 = .ok (.ireturn, 1) := by decide +kernel
theorem dL_law_464 : decode cL_law 464 = .ok (.aload_n 1, 1) := by decide +kernel
theorem dL_law_465 : decode cL_law 465 = .ok (.aload_n 0, 1) := by decide +kernel
theorem dL_law_466 : decode cL_law 466 = .ok (.iload 4, 2) := by decide +kernel
theorem dL_law_468 : decode cL_law 468 = .ok (.iconst 1, 1) := by decide +kernel
theorem dL_law_469 : decode cL_law 469 = .ok (.iadd, 1) := by decide +kernel
theorem dL_law_470 : decode cL_law 470 = .ok (.iaload, 1) := by decide +kernel
theorem dL_law_471 : decode cL_law 471 = .ok (.aload_n 0, 1) := by decide +kernel
theorem dL_law_472 : decode cL_law 472 = .ok (.iload 4, 2) := by decide +kernel
theorem dL_law_474 : decode cL_law 474 = .ok (.iconst 2, 1) := by decide +kernel
theorem dL_law_475 : decode cL_law 475 = .ok (.iadd, 1) := by decide +kernel
theorem dL_law_476 : decode cL_law 476 = .ok (.iaload, 1) := by decide +kernel
theorem dL_law_477 : decode cL_law 477 = .ok (.invokevirtual 69, 3) := by decide +kernel
theorem dL_law_480 : decode cL_law 480 = .ok (.aload_n 2, 1) := by decide +kernel
theorem dL_law_481 : decode cL_law 481 = .ok (.aload_n 0, 1) := by decide +kernel
theorem dL_law_482 : decode cL_law 482 = .ok (.iload 4, 2) := by decide +kernel
theorem dL_law_484 : decode cL_law 484 = .ok (.iconst 1, 1) := by decide +kernel
theorem dL_law_485 : decode cL_law 485 = .ok (.iadd, 1) := by decide +kernel
theorem dL_law_486 : decode cL_law 486 = .ok (.iaload, 1) := by decide +kernel
theorem dL_law_487 : decode cL_law 487 = .ok (.aload_n 0, 1) := by decide +kernel
theorem dL_law_488 : decode cL_law 488 = .ok (.iload 4, 2) := by decide +kernel
theorem dL_law_490 : decode cL_law 490 = .ok (.iconst 2, 1) := by decide +kernel
theorem dL_law_491 : decode cL_law 491 = .ok (.iadd, 1) := by decide +kernel
theorem dL_law_492 : decode cL_law 492 = .ok (.iaload, 1) := by decide +kernel
theorem dL_law_493 : decode cL_law 493 = .ok (.invokevirtual 72, 3) := by decide +kernel
theorem dL_law_496 : decode cL_law 496 = .ok (.if_icmp .eq 60, 3) := by decide +kernel
theorem dL_law_499 : decode cL_law 499 = .ok (.iconst 0, 1) := by decide +kernel
theorem dL_law_500 : decode cL_law 500 = .ok (.ireturn, 1) := by decide +kernel
theorem dL_law_501 : decode cL_law 501 = .ok (.aload_n 1, 1) := by decide +kernel
theorem dL_law_502 : decode cL_law 502 = .ok (.aload_n 0, 1) := by decide +kernel
theorem dL_law_503 : decode cL_law 503 = .ok (.iload 4, 2) := by decide +kernel
theorem dL_law_505 : decode cL_law 505 = .ok (.iconst 1, 1) := by decide +kernel
theorem dL_law_506 : decode cL_law 506 = .ok (.iadd, 1) := by decide +kernel
theorem dL_law_507 : decode cL_law 507 = .ok (.iaload, 1) := by decide +kernel
theorem dL_law_508 : decode cL_law 508 = .ok (.aload_n 3, 1) := by decide +kernel
theorem dL_law_509 : decode cL_law 509 = .ok (.invokestatic 73, 3) := by decide +kernel
theorem dL_law_512 : decode cL_law 512 = .ok (.istore 5, 2) := by decide +kernel
theorem dL_law_514 : decode cL_law 514 = .ok (.aload_n 2, 1) := by decide +kernel
theorem dL_law_515 : decode cL_law 515 = .ok (.aload_n 0, 1) := by decide +kernel
theorem dL_law_516 : decode cL_law 516 = .ok (.iload 4, 2) := by decide +kernel
theorem dL_law_518 : decode cL_law 518 = .ok (.iconst 1, 1) := by decide +kernel
theorem dL_law_519 : decode cL_law 519 = .ok (.iadd, 1) := by decide +kernel
theorem dL_law_520 : decode cL_law 520 = .ok (.iaload, 1) := by decide +kernel
theorem dL_law_521 : decode cL_law 521 = .ok (.invokevirtual 76, 3) := by decide +kernel
theorem dL_law_524 : decode cL_law 524 = .ok (.lstore 6, 2) := by decide +kernel
theorem dL_law_526 : decode cL_law 526 = .ok (.aload_n 2, 1) := by decide +kernel
theorem dL_law_527 : decode cL_law 527 = .ok (.invokevirtual 29, 3) := by decide +kernel
theorem dL_law_530 : decode cL_law 530 = .ok (.iload 5, 2) := by decide +kernel
theorem dL_law_532 : decode cL_law 532 = .ok (.if_icmp .eq 5, 3) := by decide +kernel
theorem dL_law_535 : decode cL_law 535 = .ok (.iconst 0, 1) := by decide +kernel
theorem dL_law_536 : decode cL_law 536 = .ok (.ireturn, 1) := by decide +kernel
theorem dL_law_537 : decode cL_law 537 = .ok (.iload 5, 2) := by decide +kernel
theorem dL_law_539 : decode cL_law 539 = .ok (.ifCond .ne 14, 3) := by decide +kernel
theorem dL_law_542 : decode cL_law 542 = .ok (.aload_n 3, 1) := by decide +kernel
theorem dL_law_543 : decode cL_law 543 = .ok (.iconst 0, 1) := by decide +kernel
theorem dL_law_544 : decode cL_law 544 = .ok (.laload, 1) := by decide +kernel
theorem dL_law_545 : decode cL_law 545 = .ok (.lload 6, 2) := by decide +kernel
theorem dL_law_547 : decode cL_law 547 = .ok (.lcmp, 1) := by decide +kernel
theorem dL_law_548 : decode cL_law 548 = .ok (.ifCond .eq 5, 3) := by decide +kernel
theorem dL_law_551 : decode cL_law 551 = .ok (.iconst 0, 1) := by decide +kernel
theorem dL_law_552 : decode cL_law 552 = .ok (.ireturn, 1) := by decide +kernel
theorem dL_law_553 : decode cL_law 553 = .ok (.goto 3, 3) := by decide +kernel
theorem dL_law_556 : decode cL_law 556 = .ok (.iinc 4 4, 3) := by decide +kernel
theorem dL_law_559 : decode cL_law 559 = .ok (.goto (-536), 3) := by decide +kernel
theorem dL_law_562 : decode cL_law 562 = .ok (.iconst 1, 1) := by decide +kernel
theorem dL_law_563 : decode cL_law 563 = .ok (.ireturn, 1) := by decide +kernel
abbrev vwCl : List vw_C := [(RX0, TX0, 9), (RX1, TX1, 9)]
end
section
/-! own rows: the entry of a method whose class has natives beside it; a row of an array of arrays -/
theorem cb_plain_floorDiv : plainFor yJ9_floorDiv_7cf53 = true := by decide +kernel
theorem cb_ofWF {l : Launch} {y : MethodName} {ws ws' : List Cond} {rm : Room} {Pc : Array Value → State → Prop} {Qc : Array Value → State → Outcome → State → Prop} {mc ms : Nat} {free : Addr → Prop} {cc : ByteArray} {maxL : Nat} {ret : Option FieldType}
    (hy : plainFor y = true) (hw : ws = Cond.code y cc maxL ret :: ws')
    (body : ∀ p e s m args below meth c s₁, BodyLoose p l y (headSpec ws rm) cc maxL ret e s m args below meth c s₁ → c.maxLocals = maxL → Pc args s →
      W p l e (headSpec ws rm).room s m args below meth c s.heap [] 0 0 (MQ below Qc args s mc ms free) (entryFrame m args maxL)) : Met l y ws rm Pc Qc mc ms free := by
  refine MetFree.of_bodyRF (code := cc) (maxLocals := maxL) (ret := ret) hy ?_ ?_
  · intro args s m h hn
    obtain ⟨meth, c, h1, h2, h3, h4, h5, h6, -, -⟩ := Cond.code_spec hn (atoms_spec (ws := ws) h _ (by rw [hw]; exact List.mem_cons_self))
    exact ⟨meth, c, h1, h2, h3, h4, h5, h6⟩
  · intro p e s m args below meth c s₁ B hml hP _ hst
    have hh0 : s₁.heap = s.heap := by rw [B.state]; rfl
    obtain ⟨t, a1, o, b1, b2, b3⟩ := body p e s m args below meth c s₁ B hml hP s₁ hh0 (Stand.of_body B)
    exact ⟨t, o, hst.trans a1, b1, b2, ⟨b3.1, b3.2⟩⟩
section CBA
variable {p : Program} {l : Launch} {e : Env} {R : Room} {s : State} {m : MethodId} {args : Array Value} {below : List Frame} {meth : Method} {c : Code} {H : Heap} {locs : List Loc} {cells slots : Nat} {Q : State → Prop}
variable {cc : ByteArray} {pc : Nat} {ls : Array Slot} {rest : List Value} {D : va_G} {cl : List vw_C} {a : Nat} {tys : List (ClassId × FieldType)} {ws : va_W}
theorem cb_aald (hexec : p.tables.exec = Jvm.exec) (hb : c.code = cc) (hK : va_K D cl tys s) (hP : va_P D cl ws H) (q0 t0 : Nat) {cA : ClassId} {ty : FieldType} {n : Nat} {f : Nat → Option Nat} (ha : ws[q0]? = some (a, .inl (cA, n, .inr (.inr (.inr (.inr f)))))) (ht : tys[t0]? = some (cA, .array ty)) {i : Int32} (hin : vp_in i n) {b : Nat} (hv : f i.toNatClampNeg = some b) (hdg : decode cc pc = .ok (.aaload, 1))
    (kk : W p l e R s m args below meth c H locs cells slots Q (F0 m (pc + 1) ls (.ref b :: rest))) : W p l e R s m args below meth c H locs cells slots Q (F0 m pc ls (.int i :: .ref a :: rest)) := by
  have hlt : i.toNatClampNeg < n := Nat.not_le.mp fun q => hin (Or.inr q)
  refine W.aald (v := .ref b) (ty := .array ty) hexec hb (hP q0 _ ha) ((hK.2 t0 _ ht).1 n (fun j => va_rf (f j))) rfl (fun q => by cases q) (by show ¬ (i < 0 ∨ (arrV _ _ _).slots.size ≤ _); rw [arrV_size]; exact hin) (by show (arrV _ _ _).slots[_]? = _; rw [arrV_read _ _ hlt, hv]; rfl) rfl rfl hdg kk
end CBA
end
section
def fnX0_segmentIn (a0 : Int32) : Int32 := ((a0 >>> ((4 : Int32) &&& 31)) &&& (7 : Int32))
set_option maxHeartbeats 4000000 in
set_option maxRecDepth 100000 in
theorem metX0_segmentIn (l : Launch) (a0 : Int32) : Met l yX0_segmentIn wsX0_segmentIn ({ frames := 0, cells := 0, slots := 0, locals := 0 }) (va_Pc [.int a0] (fun _ => True)) (vp_Si (fun r => r = fnX0_segmentIn a0)) 0 0 (fun _ => False) := by
  refine Met.ofW (cc := cX0_segmentIn) (maxL := 1) (ret := (some .int)) (by decide) rfl ?_
  intro p e s m args below meth c s₁ B hml hv
  obtain ⟨rfl, -⟩ := hv
  have hx := B.exec
  have hb := B.bytes
  have hr := B.returns
  have hts := atoms_spec (ws := wsX0_segmentIn) B.pre
  have hown : s.vm.findClass RX0 = some m.cls := findClass_of_methodNamed B.named
  have hlocks := B.notSynchronized
  have hl := lv_entry ([.int a0]) (n := 1) (Nat.le_of_ble_eq_true rfl)
  rw [lg_entry_eq]
  generalize (lg_sl ([.int a0]) ++ List.replicate (1 - (lg_sl ([.int a0])).length) Slot.unset).toArray = ls at hl ⊢
  have hl : lv_has ls 1 [(0, .int (a0))] := hl
  refine lv_iload_n hx hb dX0_segmentIn_0 rfl (lv_at hl 0 rfl) ?_
  refine lv_iconst (v := 4) hx hb dX0_segmentIn_1 (by decide) ?_
  refine lv_ishr hx hb dX0_segmentIn_2 ?_
  refine lv_bipush (v := 7) hx hb dX0_segmentIn_3 (by decide) ?_
  refine lv_iand hx hb dX0_segmentIn_5 ?_
  exact W.iret (v := ((a0 >>> ((4 : Int32) &&& 31)) &&& (7 : Int32))) hx hb hr (fun t ht _ => ⟨((a0 >>> ((4 : Int32) &&& 31)) &&& (7 : Int32)), rfl, rfl, ht⟩) (fun q h => absurd h List.not_mem_nil) dX0_segmentIn_6

def fnX0_stepIn (a0 : Int32) : Int32 := (a0 &&& (15 : Int32))
set_option maxHeartbeats 4000000 in
set_option maxRecDepth 100000 in
theorem metX0_stepIn (l : Launch) (a0 : Int32) : Met l yX0_stepIn wsX0_stepIn ({ frames := 0, cells := 0, slots := 0, locals := 0 }) (va_Pc [.int a0] (fun _ => True)) (vp_Si (fun r => r = fnX0_stepIn a0)) 0 0 (fun _ => False) := by
  refine Met.ofW (cc := cX0_stepIn) (maxL := 1) (ret := (some .int)) (by decide) rfl ?_
  intro p e s m args below meth c s₁ B hml hv
  obtain ⟨rfl, -⟩ := hv
  have hx := B.exec
  have hb := B.bytes
  have hr := B.returns
  have hts := atoms_spec (ws := wsX0_stepIn) B.pre
  have hown : s.vm.findClass RX0 = some m.cls := findClass_of_methodNamed B.named
  have hlocks := B.notSynchronized
  have hl := lv_entry ([.int a0]) (n := 1) (Nat.le_of_ble_eq_true rfl)
  rw [lg_entry_eq]
  generalize (lg_sl ([.int a0]) ++ List.replicate (1 - (lg_sl ([.int a0])).length) Slot.unset).toArray = ls at hl ⊢
  have hl : lv_has ls 1 [(0, .int (a0))] := hl
  refine lv_iload_n hx hb dX0_stepIn_0 rfl (lv_at hl 0 rfl) ?_
  refine lv_bipush (v := 15) hx hb dX0_stepIn_1 (by decide) ?_
  refine lv_iand hx hb dX0_stepIn_3 ?_
  exact W.iret (v := (a0 &&& (15 : Int32))) hx hb hr (fun t ht _ => ⟨(a0 &&& (15 : Int32)), rfl, rfl, ht⟩) (fun q h => absurd h List.not_mem_nil) dX0_stepIn_4

def fnX0_speaks (a0 : Int32) (a1 : Int32) : Int32 := if ((a0 >>> (a1 &&& 31)) &&& (1 : Int32)) = 0 then (0) else (1)
set_option maxHeartbeats 4000000 in
set_option maxRecDepth 100000 in
theorem metX0_speaks (l : Launch) (a0 : Int32) (a1 : Int32) : Met l yX0_speaks wsX0_speaks ({ frames := 0, cells := 0, slots := 0, locals := 0 }) (va_Pc [.int a0, .int a1] (fun _ => True)) (vp_Si (fun r => r = fnX0_speaks a0 a1)) 0 0 (fun _ => False) := by
  refine Met.ofW (cc := cX0_speaks) (maxL := 2) (ret := (some .boolean)) (by decide) rfl ?_
  intro p e s m args below meth c s₁ B hml hv
  obtain ⟨rfl, -⟩ := hv
  have hx := B.exec
  have hb := B.bytes
  have hr := B.returns
  have hts := atoms_spec (ws := wsX0_speaks) B.pre
  have hown : s.vm.findClass RX0 = some m.cls := findClass_of_methodNamed B.named
  have hlocks := B.notSynchronized
  have hl := lv_entry ([.int a0, .int a1]) (n := 2) (Nat.le_of_ble_eq_true rfl)
  rw [lg_entry_eq]
  generalize (lg_sl ([.int a0, .int a1]) ++ List.replicate (2 - (lg_sl ([.int a0, .int a1])).length) Slot.unset).toArray = ls at hl ⊢
  have hl : lv_has ls 2 [(0, .int (a0)), (1, .int (a1))] := hl
  refine lv_iload_n hx hb dX0_speaks_0 rfl (lv_at hl 0 rfl) ?_
  refine lv_iload_n hx hb dX0_speaks_1 rfl (lv_at hl 1 rfl) ?_
  refine lv_ishr hx hb dX0_speaks_2 ?_
  refine lv_iconst (v := 1) hx hb dX0_speaks_3 (by decide) ?_
  refine lv_iand hx hb dX0_speaks_4 ?_
  refine lv_if_eq (tgt := 12) hx hb dX0_speaks_5 (by decide) (fun c_1 => ?_) (fun c_1 => ?_)
  · refine lv_iconst (v := 0) hx hb dX0_speaks_12 (by decide) ?_
    exact W.zret (v := 0) hx hb hr (by decide) (fun t ht _ => ⟨0, rfl, by unfold fnX0_speaks; rw [if_pos c_1], ht⟩) (fun q h => absurd h List.not_mem_nil) dX0_speaks_13
  · refine lv_iconst (v := 1) hx hb dX0_speaks_8 (by decide) ?_
    refine lv_goto (tgt := 13) hx hb dX0_speaks_9 (by decide) ?_
    exact W.zret (v := 1) hx hb hr (by decide) (fun t ht _ => ⟨1, rfl, by unfold fnX0_speaks; rw [if_neg c_1], ht⟩) (fun q h => absurd h List.not_mem_nil) dX0_speaks_13

def fnX0_isLaw (a0 : Int32) : Int32 := if a0 = 0 then (1) else (if a0 = 1 then (1) else (0))
set_option maxHeartbeats 4000000 in
set_option maxRecDepth 100000 in
theorem metX0_isLaw (l : Launch) (a0 : Int32) : Met l yX0_isLaw wsX0_isLaw ({ frames := 0, cells := 0, slots := 0, locals := 0 }) (va_Pc [.int a0] (fun _ => True)) (vp_Si (fun r => r = fnX0_isLaw a0)) 0 0 (fun _ => False) := by
  refine Met.ofW (cc := cX0_isLaw) (maxL := 1) (ret := (some .boolean)) (by decide) rfl ?_
  intro p e s m args below meth c s₁ B hml hv
  obtain ⟨rfl, -⟩ := hv
  have hx := B.exec
  have hb := B.bytes
  have hr := B.returns
  have hts := atoms_spec (ws := wsX0_isLaw) B.pre
  have hown : s.vm.findClass RX0 = some m.cls := findClass_of_methodNamed B.named
  have hlocks := B.notSynchronized
  have hl := lv_entry ([.int a0]) (n := 1) (Nat.le_of_ble_eq_true rfl)
  rw [lg_entry_eq]
  generalize (lg_sl ([.int a0]) ++ List.replicate (1 - (lg_sl ([.int a0])).length) Slot.unset).toArray = ls at hl ⊢
  have hl : lv_has ls 1 [(0, .int (a0))] := hl
  refine lv_iload_n hx hb dX0_isLaw_0 rfl (lv_at hl 0 rfl) ?_
  refine lv_if_eq (tgt := 9) hx hb dX0_isLaw_1 (by decide) (fun c_1 => ?_) (fun c_1 => ?_)
  · refine lv_iconst (v := 1) hx hb dX0_isLaw_9 (by decide) ?_
    refine lv_goto (tgt := 14) hx hb dX0_isLaw_10 (by decide) ?_
    exact W.zret (v := 1) hx hb hr (by decide) (fun t ht _ => ⟨1, rfl, by unfold fnX0_isLaw; rw [if_pos c_1], ht⟩) (fun q h => absurd h List.not_mem_nil) dX0_isLaw_14
  · refine lv_iload_n hx hb dX0_isLaw_4 rfl (lv_at hl 0 rfl) ?_
    refine lv_iconst (v := 1) hx hb dX0_isLaw_5 (by decide) ?_
    refine lv_icmp_ne (tgt := 13) hx hb dX0_isLaw_6 (by decide) (fun c_2 => ?_) (fun c_2 => ?_)
    · refine lv_iconst (v := 0) hx hb dX0_isLaw_13 (by decide) ?_
      exact W.zret (v := 0) hx hb hr (by decide) (fun t ht _ => ⟨0, rfl, by unfold fnX0_isLaw; rw [if_neg c_1, if_neg c_2], ht⟩) (fun q h => absurd h List.not_mem_nil) dX0_isLaw_14
    · refine lv_iconst (v := 1) hx hb dX0_isLaw_9 (by decide) ?_
      refine lv_goto (tgt := 14) hx hb dX0_isLaw_10 (by decide) ?_
      exact W.zret (v := 1) hx hb hr (by decide) (fun t ht _ => ⟨1, rfl, by unfold fnX0_isLaw; rw [if_neg c_1, if_pos c_2], ht⟩) (fun q h => absurd h List.not_mem_nil) dX0_isLaw_14

def fnX0_isParty (a0 : Int32) : Int32 := if a0 < 0 then (0) else (if 8 ≤ a0 then (0) else (1))
set_option maxHeartbeats 4000000 in
set_option maxRecDepth 100000 in
theorem metX0_isParty (l : Launch) (a0 : Int32) : Met l yX0_isParty wsX0_isParty ({ frames := 0, cells := 0, slots := 0, locals := 0 }) (va_Pc [.int a0] (fun _ => True)) (vp_Si (fun r => r = fnX0_isParty a0)) 0 0 (fun _ => False) := by
  refine Met.ofW (cc := cX0_isParty) (maxL := 1) (ret := (some .boolean)) (by decide) rfl ?_
  intro p e s m args below meth c s₁ B hml hv
  obtain ⟨rfl, -⟩ := hv
  have hx := B.exec
  have hb := B.bytes
  have hr := B.returns
  have hts := atoms_spec (ws := wsX0_isParty) B.pre
  have hown : s.vm.findClass RX0 = some m.cls := findClass_of_methodNamed B.named
  have hlocks := B.notSynchronized
  have hl := lv_entry ([.int a0]) (n := 1) (Nat.le_of_ble_eq_true rfl)
  rw [lg_entry_eq]
  generalize (lg_sl ([.int a0]) ++ List.replicate (1 - (lg_sl ([.int a0])).length) Slot.unset).toArray = ls at hl ⊢
  have hl : lv_has ls 1 [(0, .int (a0))] := hl
  refine lv_iload_n hx hb dX0_isParty_0 rfl (lv_at hl 0 rfl) ?_
  refine lv_if_lt (tgt := 14) hx hb dX0_isParty_1 (by decide) (fun c_1 => ?_) (fun c_1 => ?_)
  · refine lv_iconst (v := 0) hx hb dX0_isParty_14 (by decide) ?_
    exact W.zret (v := 0) hx hb hr (by decide) (fun t ht _ => ⟨0, rfl, by unfold fnX0_isParty; rw [if_pos c_1], ht⟩) (fun q h => absurd h List.not_mem_nil) dX0_isParty_15
  · refine lv_iload_n hx hb dX0_isParty_4 rfl (lv_at hl 0 rfl) ?_
    refine lv_bipush (v := 8) hx hb dX0_isParty_5 (by decide) ?_
    refine lv_icmp_ge (tgt := 14) hx hb dX0_isParty_7 (by decide) (fun c_2 => ?_) (fun c_2 => ?_)
    · refine lv_iconst (v := 0) hx hb dX0_isParty_14 (by decide) ?_
      exact W.zret (v := 0) hx hb hr (by decide) (fun t ht _ => ⟨0, rfl, by unfold fnX0_isParty; rw [if_neg c_1, if_pos c_2], ht⟩) (fun q h => absurd h List.not_mem_nil) dX0_isParty_15
    · refine lv_iconst (v := 1) hx hb dX0_isParty_10 (by decide) ?_
      refine lv_goto (tgt := 15) hx hb dX0_isParty_11 (by decide) ?_
      exact W.zret (v := 1) hx hb hr (by decide) (fun t ht _ => ⟨1, rfl, by unfold fnX0_isParty; rw [if_neg c_1, if_neg c_2], ht⟩) (fun q h => absurd h List.not_mem_nil) dX0_isParty_15

def fnX0_isPlace (a0 : Int32) : Int32 := if a0 < 0 then (0) else (if 8 ≤ a0 then (0) else (1))
set_option maxHeartbeats 4000000 in
set_option maxRecDepth 100000 in
theorem metX0_isPlace (l : Launch) (a0 : Int32) : Met l yX0_isPlace wsX0_isPlace ({ frames := 0, cells := 0, slots := 0, locals := 0 }) (va_Pc [.int a0] (fun _ => True)) (vp_Si (fun r => r = fnX0_isPlace a0)) 0 0 (fun _ => False) := by
  refine Met.ofW (cc := cX0_isPlace) (maxL := 1) (ret := (some .boolean)) (by decide) rfl ?_
  intro p e s m args below meth c s₁ B hml hv
  obtain ⟨rfl, -⟩ := hv
  have hx := B.exec
  have hb := B.bytes
  have hr := B.returns
  have hts := atoms_spec (ws := wsX0_isPlace) B.pre
  have hown : s.vm.findClass RX0 = some m.cls := findClass_of_methodNamed B.named
  have hlocks := B.notSynchronized
  have hl := lv_entry ([.int a0]) (n := 1) (Nat.le_of_ble_eq_true rfl)
  rw [lg_entry_eq]
  generalize (lg_sl ([.int a0]) ++ List.replicate (1 - (lg_sl ([.int a0])).length) Slot.unset).toArray = ls at hl ⊢
  have hl : lv_has ls 1 [(0, .int (a0))] := hl
  refine lv_iload_n hx hb dX0_isPlace_0 rfl (lv_at hl 0 rfl) ?_
  refine lv_if_lt (tgt := 14) hx hb dX0_isPlace_1 (by decide) (fun c_1 => ?_) (fun c_1 => ?_)
  · refine lv_iconst (v := 0) hx hb dX0_isPlace_14 (by decide) ?_
    exact W.zret (v := 0) hx hb hr (by decide) (fun t ht _ => ⟨0, rfl, by unfold fnX0_isPlace; rw [if_pos c_1], ht⟩) (fun q h => absurd h List.not_mem_nil) dX0_isPlace_15
  · refine lv_iload_n hx hb dX0_isPlace_4 rfl (lv_at hl 0 rfl) ?_
    refine lv_bipush (v := 8) hx hb dX0_isPlace_5 (by decide) ?_
    refine lv_icmp_ge (tgt := 14) hx hb dX0_isPlace_7 (by decide) (fun c_2 => ?_) (fun c_2 => ?_)
    · refine lv_iconst (v := 0) hx hb dX0_isPlace_14 (by decide) ?_
      exact W.zret (v := 0) hx hb hr (by decide) (fun t ht _ => ⟨0, rfl, by unfold fnX0_isPlace; rw [if_neg c_1, if_pos c_2], ht⟩) (fun q h => absurd h List.not_mem_nil) dX0_isPlace_15
    · refine lv_iconst (v := 1) hx hb dX0_isPlace_10 (by decide) ?_
      refine lv_goto (tgt := 15) hx hb dX0_isPlace_11 (by decide) ?_
      exact W.zret (v := 1) hx hb hr (by decide) (fun t ht _ => ⟨1, rfl, by unfold fnX0_isPlace; rw [if_neg c_1, if_neg c_2], ht⟩) (fun q h => absurd h List.not_mem_nil) dX0_isPlace_15

def fnJ6_numberOfLeadingZeros_0f7a4 (a0 : Int32) : Int32 := if 0 < a0 then (if a0 < 65536 then (if a0 < 256 then (if a0 < 16 then (if a0 < 4 then (((31 : Int32) - ((a0.toUInt32 >>> ((1 : Int32).toUInt32 &&& Int32.toUInt32 31)).toInt32))) else ((((31 : Int32) + (-2 : Int32)) - ((((a0.toUInt32 >>> ((2 : Int32).toUInt32 &&& Int32.toUInt32 31)).toInt32).toUInt32 >>> ((1 : Int32).toUInt32 &&& Int32.toUInt32 31)).toInt32)))) else (if (a0.toUInt32 >>> ((4 : Int32).toUInt32 &&& Int32.toUInt32 31)).toInt32 < 4 then ((((31 : Int32) + (-4 : Int32)) - ((((a0.toUInt32 >>> ((4 : Int32).toUInt32 &&& Int32.toUInt32 31)).toInt32).toUInt32 >>> ((1 : Int32).toUInt32 &&& Int32.toUInt32 31)).toInt32))) else (((((31 : Int32) + (-4 : Int32)) + (-2 : Int32)) - ((((((a0.toUInt32 >>> ((4 : Int32).toUInt32 &&& Int32.toUInt32 31)).toInt32).toUInt32 >>> ((2 : Int32).toUInt32 &&& Int32.toUInt32 31)).toInt32).toUInt32 >>> ((1 : Int32).toUInt32 &&& Int32.toUInt32 31)).toInt32))))) else (if (a0.toUInt32 >>> ((8 : Int32).toUInt32 &&& Int32.toUInt32 31)).toInt32 < 16 then (if (a0.toUInt32 >>> ((8 : Int32).toUInt32 &&& Int32.toUInt32 31)).toInt32 < 4 then ((((31 : Int32) + (-8 : Int32)) - ((((a0.toUInt32 >>> ((8 : Int32).toUInt32 &&& Int32.toUInt32 31)).toInt32).toUInt32 >>> ((1 : Int32).toUInt32 &&& Int32.toUInt32 31)).toInt32))) else (((((31 : Int32) + (-8 : Int32)) + (-2 : Int32)) - ((((((a0.toUInt32 >>> ((8 : Int32).toUInt32 &&& Int32.toUInt32 31)).toInt32).toUInt32 >>> ((2 : Int32).toUInt32 &&& Int32.toUInt32 31)).toInt32).toUInt32 >>> ((1 : Int32).toUInt32 &&& Int32.toUInt32 31)).toInt32)))) else (if (((a0.toUInt32 >>> ((8 : Int32).toUInt32 &&& Int32.toUInt32 31)).toInt32).toUInt32 >>> ((4 : Int32).toUInt32 &&& Int32.toUInt32 31)).toInt32 < 4 then (((((31 : Int32) + (-8 : Int32)) + (-4 : Int32)) - ((((((a0.toUInt32 >>> ((8 : Int32).toUInt32 &&& Int32.toUInt32 31)).toInt32).toUInt32 >>> ((4 : Int32).toUInt32 &&& Int32.toUInt32 31)).toInt32).toUInt32 >>> ((1 : Int32).toUInt32 &&& Int32.toUInt32 31)).toInt32))) else ((((((31 : Int32) + (-8 : Int32)) + (-4 : Int32)) + (-2 : Int32)) - ((((((((a0.toUInt32 >>> ((8 : Int32).toUInt32 &&& Int32.toUInt32 31)).toInt32).toUInt32 >>> ((4 : Int32).toUInt32 &&& Int32.toUInt32 31)).toInt32).toUInt32 >>> ((2 : Int32).toUInt32 &&& Int32.toUInt32 31)).toInt32).toUInt32 >>> ((1 : Int32).toUInt32 &&& Int32.toUInt32 31)).toInt32)))))) else (if (a0.toUInt32 >>> ((16 : Int32).toUInt32 &&& Int32.toUInt32 31)).toInt32 < 256 then (if (a0.toUInt32 >>> ((16 : Int32).toUInt32 &&& Int32.toUInt32 31)).toInt32 < 16 then (if (a0.toUInt32 >>> ((16 : Int32).toUInt32 &&& Int32.toUInt32 31)).toInt32 < 4 then ((((31 : Int32) + (-16 : Int32)) - ((((a0.toUInt32 >>> ((16 : Int32).toUInt32 &&& Int32.toUInt32 31)).toInt32).toUInt32 >>> ((1 : Int32).toUInt32 &&& Int32.toUInt32 31)).toInt32))) else (((((31 : Int32) + (-16 : Int32)) + (-2 : Int32)) - ((((((a0.toUInt32 >>> ((16 : Int32).toUInt32 &&& Int32.toUInt32 31)).toInt32).toUInt32 >>> ((2 : Int32).toUInt32 &&& Int32.toUInt32 31)).toInt32).toUInt32 >>> ((1 : Int32).toUInt32 &&& Int32.toUInt32 31)).toInt32)))) else (if (((a0.toUInt32 >>> ((16 : Int32).toUInt32 &&& Int32.toUInt32 31)).toInt32).toUInt32 >>> ((4 : Int32).toUInt32 &&& Int32.toUInt32 31)).toInt32 < 4 then (((((31 : Int32) + (-16 : Int32)) + (-4 : Int32)) - ((((((a0.toUInt32 >>> ((16 : Int32).toUInt32 &&& Int32.toUInt32 31)).toInt32).toUInt32 >>> ((4 : Int32).toUInt32 &&& Int32.toUInt32 31)).toInt32).toUInt32 >>> ((1 : Int32).toUInt32 &&& Int32.toUInt32 31)).toInt32))) else ((((((31 : Int32) + (-16 : Int32)) + (-4 : Int32)) + (-2 : Int32)) - ((((((((a0.toUInt32 >>> ((16 : Int32).toUInt32 &&& Int32.toUInt32 31)).toInt32).toUInt32 >>> ((4 : Int32).toUInt32 &&& Int32.toUInt32 31)).toInt32).toUInt32 >>> ((2 : Int32).toUInt32 &&& Int32.toUInt32 31)).toInt32).toUInt32 >>> ((1 : Int32).toUInt32 &&& Int32.toUInt32 31)).toInt32))))) else (if (((a0.toUInt32 >>> ((16 : Int32).toUInt32 &&& Int32.toUInt32 31)).toInt32).toUInt32 >>> ((8 : Int32).toUInt32 &&& Int32.toUInt32 31)).toInt32 < 16 then (if (((a0.toUInt32 >>> ((16 : Int32).toUInt32 &&& Int32.toUInt32 31)).toInt32).toUInt32 >>> ((8 : Int32).toUInt32 &&& Int32.toUInt32 31)).toInt32 < 4 then (((((31 : Int32) + (-16 : Int32)) + (-8 : Int32)) - ((((((a0.toUInt32 >>> ((16 : Int32).toUInt32 &&& Int32.toUInt32 31)).toInt32).toUInt32 >>> ((8 : Int32).toUInt32 &&& Int32.toUInt32 31)).toInt32).toUInt32 >>> ((1 : Int32).toUInt32 &&& Int32.toUInt32 31)).toInt32))) else ((((((31 : Int32) + (-16 : Int32)) + (-8 : Int32)) + (-2 : Int32)) - ((((((((a0.toUInt32 >>> ((16 : Int32).toUInt32 &&& Int32.toUInt32 31)).toInt32).toUInt32 >>> ((8 : Int32).toUInt32 &&& Int32.toUInt32 31)).toInt32).toUInt32 >>> ((2 : Int32).toUInt32 &&& Int32.toUInt32 31)).toInt32).toUInt32 >>> ((1 : Int32).toUInt32 &&& Int32.toUInt32 31)).toInt32)))) else (if (((((a0.toUInt32 >>> ((16 : Int32).toUInt32 &&& Int32.toUInt32 31)).toInt32).toUInt32 >>> ((8 : Int32).toUInt32 &&& Int32.toUInt32 31)).toInt32).toUInt32 >>> ((4 : Int32).toUInt32 &&& Int32.toUInt32 31)).toInt32 < 4 then ((((((31 : Int32) + (-16 : Int32)) + (-8 : Int32)) + (-4 : Int32)) - ((((((((a0.toUInt32 >>> ((16 : Int32).toUInt32 &&& Int32.toUInt32 31)).toInt32).toUInt32 >>> ((8 : Int32).toUInt32 &&& Int32.toUInt32 31)).toInt32).toUInt32 >>> ((4 : Int32).toUInt32 &&& Int32.toUInt32 31)).toInt32).toUInt32 >>> ((1 : Int32).toUInt32 &&& Int32.toUInt32 31)).toInt32))) else (((((((31 : Int32) + (-16 : Int32)) + (-8 : Int32)) + (-4 : Int32)) + (-2 : Int32)) - ((((((((((a0.toUInt32 >>> ((16 : Int32).toUInt32 &&& Int32.toUInt32 31)).toInt32).toUInt32 >>> ((8 : Int32).toUInt32 &&& Int32.toUInt32 31)).toInt32).toUInt32 >>> ((4 : Int32).toUInt32 &&& Int32.toUInt32 31)).toInt32).toUInt32 >>> ((2 : Int32).toUInt32 &&& Int32.toUInt32 31)).toInt32).toUInt32 >>> ((1 : Int32).toUInt32 &&& Int32.toUInt32 31)).toInt32))))))) else (if a0 = 0 then (32) else (0))
set_option maxHeartbeats 4000000 in
set_option maxRecDepth 100000 in
theorem metJ6_numberOfLeadingZeros_0f7a4 (l : Launch) (a0 : Int32) : Met l yJ6_numberOfLeadingZeros_0f7a4 wsJ6_numberOfLeadingZeros_0f7a4 ({ frames := 0, cells := 0, slots := 0, locals := 0 }) (va_Pc [.int a0] (fun _ => True)) (vp_Si (fun r => r = fnJ6_numberOfLeadingZeros_0f7a4 a0)) 0 0 (fun _ => False) := by
  refine Met.ofW (cc := cJ6_numberOfLeadingZeros_0f7a4) (maxL := 2) (ret := (some .int)) (by decide) rfl ?_
  intro p e s m args below meth c s₁ B hml hv
  obtain ⟨rfl, -⟩ := hv
  have hx := B.exec
  have hb := B.bytes
  have hr := B.returns
  have hts := atoms_spec (ws := wsJ6_numberOfLeadingZeros_0f7a4) B.pre
  have hown : s.vm.findClass RJ6 = some m.cls := findClass_of_methodNamed B.named
  have hlocks := B.notSynchronized
  have hl := lv_entry ([.int a0]) (n := 2) (Nat.le_of_ble_eq_true rfl)
  rw [lg_entry_eq]
  generalize (lg_sl ([.int a0]) ++ List.replicate (2 - (lg_sl ([.int a0])).length) Slot.unset).toArray = ls at hl ⊢
  have hl : lv_has ls 2 [(0, .int (a0))] := hl
  refine lv_iload_n hx hb dJ6_numberOfLeadingZeros_0f7a4_0 rfl (lv_at hl 0 rfl) ?_
  refine lv_if_gt (tgt := 15) hx hb dJ6_numberOfLeadingZeros_0f7a4_1 (by decide) (fun c_1 => ?_) (fun c_1 => ?_)
  · refine lv_bipush (v := 31) hx hb dJ6_numberOfLeadingZeros_0f7a4_15 (by decide) ?_
    refine lv_istore_n (lv' := [(1, .int (31)), (0, .int (a0))]) hx hb dJ6_numberOfLeadingZeros_0f7a4_17 rfl hl (by decide) rfl (fun ls hl => ?_)
    refine lv_iload_n hx hb dJ6_numberOfLeadingZeros_0f7a4_18 rfl (lv_at hl 1 rfl) ?_
    refine lv_ldcw (v := 65536) hx hb hown (hts (.constant RJ6 264 (65536)) (by decide +kernel)) dJ6_numberOfLeadingZeros_0f7a4_19 ?_
    refine lv_icmp_lt (tgt := 33) hx hb dJ6_numberOfLeadingZeros_0f7a4_22 (by decide) (fun c_2 => ?_) (fun c_2 => ?_)
    · refine lv_iload_n hx hb dJ6_numberOfLeadingZeros_0f7a4_33 rfl (lv_at hl 1 rfl) ?_
      refine lv_sipush (v := 256) hx hb dJ6_numberOfLeadingZeros_0f7a4_34 (by decide) ?_
      refine lv_icmp_lt (tgt := 48) hx hb dJ6_numberOfLeadingZeros_0f7a4_37 (by decide) (fun c_3 => ?_) (fun c_3 => ?_)
      · refine lv_iload_n hx hb dJ6_numberOfLeadingZeros_0f7a4_48 rfl (lv_at hl 1 rfl) ?_
        refine lv_bipush (v := 16) hx hb dJ6_numberOfLeadingZeros_0f7a4_49 (by decide) ?_
        refine lv_icmp_lt (tgt := 61) hx hb dJ6_numberOfLeadingZeros_0f7a4_51 (by decide) (fun c_4 => ?_) (fun c_4 => ?_)
        · refine lv_iload_n hx hb dJ6_numberOfLeadingZeros_0f7a4_61 rfl (lv_at hl 1 rfl) ?_
          refine lv_iconst (v := 4) hx hb dJ6_numberOfLeadingZeros_0f7a4_62 (by decide) ?_
          refine lv_icmp_lt (tgt := 73) hx hb dJ6_numberOfLeadingZeros_0f7a4_63 (by decide) (fun c_5 => ?_) (fun c_5 => ?_)
          · refine lv_iload_n hx hb dJ6_numberOfLeadingZeros_0f7a4_73 rfl (lv_at hl 0 rfl) ?_
            refine lv_iload_n hx hb dJ6_numberOfLeadingZeros_0f7a4_74 rfl (lv_at hl 1 rfl) ?_
            refine lv_iconst (v := 1) hx hb dJ6_numberOfLeadingZeros_0f7a4_75 (by decide) ?_
            refine lv_iushr (v := (a0.toUInt32 >>> ((1 : Int32).toUInt32 &&& Int32.toUInt32 31)).toInt32) hx hb dJ6_numberOfLeadingZeros_0f7a4_76 rfl ?_
            refine lv_isub hx hb dJ6_numberOfLeadingZeros_0f7a4_77 ?_
            exact W.iret (v := ((31 : Int32) - ((a0.toUInt32 >>> ((1 : Int32).toUInt32 &&& Int32.toUInt32 31)).toInt32))) hx hb hr (fun t ht _ => ⟨((31 : Int32) - ((a0.toUInt32 >>> ((1 : Int32).toUInt32 &&& Int32.toUInt32 31)).toInt32)), rfl, by unfold fnJ6_numberOfLeadingZeros_0f7a4; rw [if_pos c_1, if_pos c_2, if_pos c_3, if_pos c_4, if_pos c_5], ht⟩) (fun q h => absurd h List.not_mem_nil) dJ6_numberOfLeadingZeros_0f7a4_78
          · refine lv_iinc (v := ((31 : Int32) + (-2 : Int32))) (lv' := [(1, .int (((31 : Int32) + (-2 : Int32)))), (0, .int (a0))]) hx hb dJ6_numberOfLeadingZeros_0f7a4_66 hl (k := 0) rfl rfl (by decide) rfl (fun ls hl => ?_)
            refine lv_iload_n hx hb dJ6_numberOfLeadingZeros_0f7a4_69 rfl (lv_at hl 1 rfl) ?_
            refine lv_iconst (v := 2) hx hb dJ6_numberOfLeadingZeros_0f7a4_70 (by decide) ?_
            refine lv_iushr (v := (a0.toUInt32 >>> ((2 : Int32).toUInt32 &&& Int32.toUInt32 31)).toInt32) hx hb dJ6_numberOfLeadingZeros_0f7a4_71 rfl ?_
            refine lv_istore_n (lv' := [(0, .int ((a0.toUInt32 >>> ((2 : Int32).toUInt32 &&& Int32.toUInt32 31)).toInt32)), (1, .int (((31 : Int32) + (-2 : Int32))))]) hx hb dJ6_numberOfLeadingZeros_0f7a4_72 rfl hl (by decide) rfl (fun ls hl => ?_)
            refine lv_iload_n hx hb dJ6_numberOfLeadingZeros_0f7a4_73 rfl (lv_at hl 1 rfl) ?_
            refine lv_iload_n hx hb dJ6_numberOfLeadingZeros_0f7a4_74 rfl (lv_at hl 0 rfl) ?_
            refine lv_iconst (v := 1) hx hb dJ6_numberOfLeadingZeros_0f7a4_75 (by decide) ?_
            refine lv_iushr (v := (((a0.toUInt32 >>> ((2 : Int32).toUInt32 &&& Int32.toUInt32 31)).toInt32).toUInt32 >>> ((1 : Int32).toUInt32 &&& Int32.toUInt32 31)).toInt32) hx hb dJ6_numberOfLeadingZeros_0f7a4_76 rfl ?_
            refine lv_isub hx hb dJ6_numberOfLeadingZeros_0f7a4_77 ?_
            exact W.iret (v := (((31 : Int32) + (-2 : Int32)) - ((((a0.toUInt32 >>> ((2 : Int32).toUInt32 &&& Int32.toUInt32 31)).toInt32).toUInt32 >>> ((1 : Int32).toUInt32 &&& Int32.toUInt32 31)).toInt32))) hx hb hr (fun t ht _ => ⟨(((31 : Int32) + (-2 : Int32)) - ((((a0.toUInt32 >>> ((2 : Int32).toUInt32 &&& Int32.toUInt32 31)).toInt32).toUInt32 >>> ((1 : Int32).toUInt32 &&& Int32.toUInt32 31)).toInt32)), rfl, by unfold fnJ6_numberOfLeadingZeros_0f7a4; rw [if_pos c_1, if_pos c_2, if_pos c_3, if_pos c_4, if_neg c_5], ht⟩) (fun q h => absurd h List.not_mem_nil) dJ6_numberOfLeadingZeros_0f7a4_78
        · refine lv_iinc (v := ((31 : Int32) + (-4 : Int32))) (lv' := [(1, .int (((31 : Int32) + (-4 : Int32)))), (0, .int (a0))]) hx hb dJ6_numberOfLeadingZeros_0f7a4_54 hl (k := 0) rfl rfl (by decide) rfl (fun ls hl => ?_)
          refine lv_iload_n hx hb dJ6_numberOfLeadingZeros_0f7a4_57 rfl (lv_at hl 1 rfl) ?_
          refine lv_iconst (v := 4) hx hb dJ6_numberOfLeadingZeros_0f7a4_58 (by decide) ?_
          refine lv_iushr (v := (a0.toUInt32 >>> ((4 : Int32).toUInt32 &&& Int32.toUInt32 31)).toInt32) hx hb dJ6_numberOfLeadingZeros_0f7a4_59 rfl ?_
          refine lv_istore_n (lv' := [(0, .int ((a0.toUInt32 >>> ((4 : Int32).toUInt32 &&& Int32.toUInt32 31)).toInt32)), (1, .int (((31 : Int32) + (-4 : Int32))))]) hx hb dJ6_numberOfLeadingZeros_0f7a4_60 rfl hl (by decide) rfl (fun ls hl => ?_)
          refine lv_iload_n hx hb dJ6_numberOfLeadingZeros_0f7a4_61 rfl (lv_at hl 0 rfl) ?_
          refine lv_iconst (v := 4) hx hb dJ6_numberOfLeadingZeros_0f7a4_62 (by decide) ?_
          refine lv_icmp_lt (tgt := 73) hx hb dJ6_numberOfLeadingZeros_0f7a4_63 (by decide) (fun c_6 => ?_) (fun c_6 => ?_)
          · refine lv_iload_n hx hb dJ6_numberOfLeadingZeros_0f7a4_73 rfl (lv_at hl 1 rfl) ?_
            refine lv_iload_n hx hb dJ6_numberOfLeadingZeros_0f7a4_74 rfl (lv_at hl 0 rfl) ?_
            refine lv_iconst (v := 1) hx hb dJ6_numberOfLeadingZeros_0f7a4_75 (by decide) ?_
            refine lv_iushr (v := (((a0.toUInt32 >>> ((4 : Int32).toUInt32 &&& Int32.toUInt32 31)).toInt32).toUInt32 >>> ((1 : Int32).toUInt32 &&& Int32.toUInt32 31)).toInt32) hx hb dJ6_numberOfLeadingZeros_0f7a4_76 rfl ?_
            refine lv_isub hx hb dJ6_numberOfLeadingZeros_0f7a4_77 ?_
            exact W.iret (v := (((31 : Int32) + (-4 : Int32)) - ((((a0.toUInt32 >>> ((4 : Int32).toUInt32 &&& Int32.toUInt32 31)).toInt32).toUInt32 >>> ((1 : Int32).toUInt32 &&& Int32.toUInt32 31)).toInt32))) hx hb hr (fun t ht _ => ⟨(((31 : Int32) + (-4 : Int32)) - ((((a0.toUInt32 >>> ((4 : Int32).toUInt32 &&& Int32.toUInt32 31)).toInt32).toUInt32 >>> ((1 : Int32).toUInt32 &&& Int32.toUInt32 31)).toInt32)), rfl, by unfold fnJ6_numberOfLeadingZeros_0f7a4; rw [if_pos c_1, if_pos c_2, if_pos c_3, if_neg c_4, if_pos c_6], ht⟩) (fun q h => absurd h List.not_mem_nil) dJ6_numberOfLeadingZeros_0f7a4_78
          · refine lv_iinc (v := (((31 : Int32) + (-4 : Int32)) + (-2 : Int32))) (lv' := [(1, .int ((((31 : Int32) + (-4 : Int32)) + (-2 : Int32)))), (0, .int ((a0.toUInt32 >>> ((4 : Int32).toUInt32 &&& Int32.toUInt32 31)).toInt32))]) hx hb dJ6_numberOfLeadingZeros_0f7a4_66 hl (k := 1) rfl rfl (by decide) rfl (fun ls hl => ?_)
            refine lv_iload_n hx hb dJ6_numberOfLeadingZeros_0f7a4_69 rfl (lv_at hl 1 rfl) ?_
            refine lv_iconst (v := 2) hx hb dJ6_numberOfLeadingZeros_0f7a4_70 (by decide) ?_
            refine lv_iushr (v := (((a0.toUInt32 >>> ((4 : Int32).toUInt32 &&& Int32.toUInt32 31)).toInt32).toUInt32 >>> ((2 : Int32).toUInt32 &&& Int32.toUInt32 31)).toInt32) hx hb dJ6_numberOfLeadingZeros_0f7a4_71 rfl ?_
            refine lv_istore_n (lv' := [(0, .int ((((a0.toUInt32 >>> ((4 : Int32).toUInt32 &&& Int32.toUInt32 31)).toInt32).toUInt32 >>> ((2 : Int32).toUInt32 &&& Int32.toUInt32 31)).toInt32)), (1, .int ((((31 : Int32) + (-4 : Int32)) + (-2 : Int32))))]) hx hb dJ6_numberOfLeadingZeros_0f7a4_72 rfl hl (by decide) rfl (fun ls hl => ?_)
            refine lv_iload_n hx hb dJ6_numberOfLeadingZeros_0f7a4_73 rfl (lv_at hl 1 rfl) ?_
            refine lv_iload_n hx hb dJ6_numberOfLeadingZeros_0f7a4_74 rfl (lv_at hl 0 rfl) ?_
            refine lv_iconst (v := 1) hx hb dJ6_numberOfLeadingZeros_0f7a4_75 (by decide) ?_
            refine lv_iushr (v := (((((a0.toUInt32 >>> ((4 : Int32).toUInt32 &&& Int32.toUInt32 31)).toInt32).toUInt32 >>> ((2 : Int32).toUInt32 &&& Int32.toUInt32 31)).toInt32).toUInt32 >>> ((1 : Int32).toUInt32 &&& Int32.toUInt32 31)).toInt32) hx hb dJ6_numberOfLeadingZeros_0f7a4_76 rfl ?_
            refine lv_isub hx hb dJ6_numberOfLeadingZeros_0f7a4_77 ?_
            exact W.iret (v := ((((31 : Int32) + (-4 : Int32)) + (-2 : Int32)) - ((((((a0.toUInt32 >>> ((4 : Int32).toUInt32 &&& Int32.toUInt32 31)).toInt32).toUInt32 >>> ((2 : Int32).toUInt32 &&& Int32.toUInt32 31)).toInt32).toUInt32 >>> ((1 : Int32).toUInt32 &&& Int32.toUInt32 31)).toInt32))) hx hb hr (fun t ht _ => ⟨((((31 : Int32) + (-4 : Int32)) + (-2 : Int32)) - ((((((a0.toUInt32 >>> ((4 : Int32).toUInt32 &&& Int32.toUInt32 31)).toInt32).toUInt32 >>> ((2 : Int32).toUInt32 &&& Int32.toUInt32 31)).toInt32).toUInt32 >>> ((1 : Int32).toUInt32 &&& Int32.toUInt32 31)).toInt32)), rfl, by unfold fnJ6_numberOfLeadingZeros_0f7a4; rw [if_pos c_1, if_pos c_2, if_pos c_3, if_neg c_4, if_neg c_6], ht⟩) (fun q h => absurd h List.not_mem_nil) dJ6_numberOfLeadingZeros_0f7a4_78
      · refine lv_iinc (v := ((31 : Int32) + (-8 : Int32))) (lv' := [(1, .int (((31 : Int32) + (-8 : Int32)))), (0, .int (a0))]) hx hb dJ6_numberOfLeadingZeros_0f7a4_40 hl (k := 0) rfl rfl (by decide) rfl (fun ls hl => ?_)
        refine lv_iload_n hx hb dJ6_numberOfLeadingZeros_0f7a4_43 rfl (lv_at hl 1 rfl) ?_
        refine lv_bipush (v := 8) hx hb dJ6_numberOfLeadingZeros_0f7a4_44 (by decide) ?_
        refine lv_iushr (v := (a0.toUInt32 >>> ((8 : Int32).toUInt32 &&& Int32.toUInt32 31)).toInt32) hx hb dJ6_numberOfLeadingZeros_0f7a4_46 rfl ?_
        refine lv_istore_n (lv' := [(0, .int ((a0.toUInt32 >>> ((8 : Int32).toUInt32 &&& Int32.toUInt32 31)).toInt32)), (1, .int (((31 : Int32) + (-8 : Int32))))]) hx hb dJ6_numberOfLeadingZeros_0f7a4_47 rfl hl (by decide) rfl (fun ls hl => ?_)
        refine lv_iload_n hx hb dJ6_numberOfLeadingZeros_0f7a4_48 rfl (lv_at hl 0 rfl) ?_
        refine lv_bipush (v := 16) hx hb dJ6_numberOfLeadingZeros_0f7a4_49 (by decide) ?_
        refine lv_icmp_lt (tgt := 61) hx hb dJ6_numberOfLeadingZeros_0f7a4_51 (by decide) (fun c_7 => ?_) (fun c_7 => ?_)
        · refine lv_iload_n hx hb dJ6_numberOfLeadingZeros_0f7a4_61 rfl (lv_at hl 0 rfl) ?_
          refine lv_iconst (v := 4) hx hb dJ6_numberOfLeadingZeros_0f7a4_62 (by decide) ?_
          refine lv_icmp_lt (tgt := 73) hx hb dJ6_numberOfLeadingZeros_0f7a4_63 (by decide) (fun c_8 => ?_) (fun c_8 => ?_)
          · refine lv_iload_n hx hb dJ6_numberOfLeadingZeros_0f7a4_73 rfl (lv_at hl 1 rfl) ?_
            refine lv_iload_n hx hb dJ6_numberOfLeadingZeros_0f7a4_74 rfl (lv_at hl 0 rfl) ?_
            refine lv_iconst (v := 1) hx hb dJ6_numberOfLeadingZeros_0f7a4_75 (by decide) ?_
            refine lv_iushr (v := (((a0.toUInt32 >>> ((8 : Int32).toUInt32 &&& Int32.toUInt32 31)).toInt32).toUInt32 >>> ((1 : Int32).toUInt32 &&& Int32.toUInt32 31)).toInt32) hx hb dJ6_numberOfLeadingZeros_0f7a4_76 rfl ?_
            refine lv_isub hx hb dJ6_numberOfLeadingZeros_0f7a4_77 ?_
            exact W.iret (v := (((31 : Int32) + (-8 : Int32)) - ((((a0.toUInt32 >>> ((8 : Int32).toUInt32 &&& Int32.toUInt32 31)).toInt32).toUInt32 >>> ((1 : Int32).toUInt32 &&& Int32.toUInt32 31)).toInt32))) hx hb hr (fun t ht _ => ⟨(((31 : Int32) + (-8 : Int32)) - ((((a0.toUInt32 >>> ((8 : Int32).toUInt32 &&& Int32.toUInt32 31)).toInt32).toUInt32 >>> ((1 : Int32).toUInt32 &&& Int32.toUInt32 31)).toInt32)), rfl, by unfold fnJ6_numberOfLeadingZeros_0f7a4; rw [if_pos c_1, if_pos c_2, if_neg c_3, if_pos c_7, if_pos c_8], ht⟩) (fun q h => absurd h List.not_mem_nil) dJ6_numberOfLeadingZeros_0f7a4_78
          · refine lv_iinc (v := (((31 : Int32) + (-8 : Int32)) + (-2 : Int32))) (lv' := [(1, .int ((((31 : Int32) + (-8 : Int32)) + (-2 : Int32)))), (0, .int ((a0.toUInt32 >>> ((8 : Int32).toUInt32 &&& Int32.toUInt32 31)).toInt32))]) hx hb dJ6_numberOfLeadingZeros_0f7a4_66 hl (k := 1) rfl rfl (by decide) rfl (fun ls hl => ?_)
            refine lv_iload_n hx hb dJ6_numberOfLeadingZeros_0f7a4_69 rfl (lv_at hl 1 rfl) ?_
            refine lv_iconst (v := 2) hx hb dJ6_numberOfLeadingZeros_0f7a4_70 (by decide) ?_
            refine lv_iushr (v := (((a0.toUInt32 >>> ((8 : Int32).toUInt32 &&& Int32.toUInt32 31)).toInt32).toUInt32 >>> ((2 : Int32).toUInt32 &&& Int32.toUInt32 31)).toInt32) hx hb dJ6_numberOfLeadingZeros_0f7a4_71 rfl ?_
            refine lv_istore_n (lv' := [(0, .int ((((a0.toUInt32 >>> ((8 : Int32).toUInt32 &&& Int32.toUInt32 31)).toInt32).toUInt32 >>> ((2 : Int32).toUInt32 &&& Int32.toUInt32 31)).toInt32)), (1, .int ((((31 : Int32) + (-8 : Int32)) + (-2 : Int32))))]) hx hb dJ6_numberOfLeadingZeros_0f7a4_72 rfl hl (by decide) rfl (fun ls hl => ?_)
            refine lv_iload_n hx hb dJ6_numberOfLeadingZeros_0f7a4_73 rfl (lv_at hl 1 rfl) ?_
            refine lv_iload_n hx hb dJ6_numberOfLeadingZeros_0f7a4_74 rfl (lv_at hl 0 rfl) ?_
            refine lv_iconst (v := 1) hx hb dJ6_numberOfLeadingZeros_0f7a4_75 (by decide) ?_
            refine lv_iushr (v := (((((a0.toUInt32 >>> ((8 : Int32).toUInt32 &&& Int32.toUInt32 31)).toInt32).toUInt32 >>> ((2 : Int32).toUInt32 &&& Int32.toUInt32 31)).toInt32).toUInt32 >>> ((1 : Int32).toUInt32 &&& Int32.toUInt32 31)).toInt32) hx hb dJ6_numberOfLeadingZeros_0f7a4_76 rfl ?_
            refine lv_isub hx hb dJ6_numberOfLeadingZeros_0f7a4_77 ?_
            exact W.iret (v := ((((31 : Int32) + (-8 : Int32)) + (-2 : Int32)) - ((((((a0.toUInt32 >>> ((8 : Int32).toUInt32 &&& Int32.toUInt32 31)).toInt32).toUInt32 >>> ((2 : Int32).toUInt32 &&& Int32.toUInt32 31)).toInt32).toUInt32 >>> ((1 : Int32).toUInt32 &&& Int32.toUInt32 31)).toInt32))) hx hb hr (fun t ht _ => ⟨((((31 : Int32) + (-8 : Int32)) + (-2 : Int32)) - ((((((a0.toUInt32 >>> ((8 : Int32).toUInt32 &&& Int32.toUInt32 31)).toInt32).toUInt32 >>> ((2 : Int32).toUInt32 &&& Int32.toUInt32 31)).toInt32).toUInt32 >>> ((1 : Int32).toUInt32 &&& Int32.toUInt32 31)).toInt32)), rfl, by unfold fnJ6_numberOfLeadingZeros_0f7a4; rw [if_pos c_1, if_pos c_2, if_neg c_3, if_pos c_7, if_neg c_8], ht⟩) (fun q h => absurd h List.not_mem_nil) dJ6_numberOfLeadingZeros_0f7a4_78
        · refine lv_iinc (v := (((31 : Int32) + (-8 : Int32)) + (-4 : Int32))) (lv' := [(1, .int ((((31 : Int32) + (-8 : Int32)) + (-4 : Int32)))), (0, .int ((a0.toUInt32 >>> ((8 : Int32).toUInt32 &&& Int32.toUInt32 31)).toInt32))]) hx hb dJ6_numberOfLeadingZeros_0f7a4_54 hl (k := 1) rfl rfl (by decide) rfl (fun ls hl => ?_)
          refine lv_iload_n hx hb dJ6_numberOfLeadingZeros_0f7a4_57 rfl (lv_at hl 1 rfl) ?_
          refine lv_iconst (v := 4) hx hb dJ6_numberOfLeadingZeros_0f7a4_58 (by decide) ?_
          refine lv_iushr (v := (((a0.toUInt32 >>> ((8 : Int32).toUInt32 &&& Int32.toUInt32 31)).toInt32).toUInt32 >>> ((4 : Int32).toUInt32 &&& Int32.toUInt32 31)).toInt32) hx hb dJ6_numberOfLeadingZeros_0f7a4_59 rfl ?_
          refine lv_istore_n (lv' := [(0, .int ((((a0.toUInt32 >>> ((8 : Int32).toUInt32 &&& Int32.toUInt32 31)).toInt32).toUInt32 >>> ((4 : Int32).toUInt32 &&& Int32.toUInt32 31)).toInt32)), (1, .int ((((31 : Int32) + (-8 : Int32)) + (-4 : Int32))))]) hx hb dJ6_numberOfLeadingZeros_0f7a4_60 rfl hl (by decide) rfl (fun ls hl => ?_)
          refine lv_iload_n hx hb dJ6_numberOfLeadingZeros_0f7a4_61 rfl (lv_at hl 0 rfl) ?_
          refine lv_iconst (v := 4) hx hb dJ6_numberOfLeadingZeros_0f7a4_62 (by decide) ?_
          refine lv_icmp_lt (tgt := 73) hx hb dJ6_numberOfLeadingZeros_0f7a4_63 (by decide) (fun c_9 => ?_) (fun c_9 => ?_)
          · refine lv_iload_n hx hb dJ6_numberOfLeadingZeros_0f7a4_73 rfl (lv_at hl 1 rfl) ?_
            refine lv_iload_n hx hb dJ6_numberOfLeadingZeros_0f7a4_74 rfl (lv_at hl 0 rfl) ?_
            refine lv_iconst (v := 1) hx hb dJ6_numberOfLeadingZeros_0f7a4_75 (by decide) ?_
            refine lv_iushr (v := (((((a0.toUInt32 >>> ((8 : Int32).toUInt32 &&& Int32.toUInt32 31)).toInt32).toUInt32 >>> ((4 : Int32).toUInt32 &&& Int32.toUInt32 31)).toInt32).toUInt32 >>> ((1 : Int32).toUInt32 &&& Int32.toUInt32 31)).toInt32) hx hb dJ6_numberOfLeadingZeros_0f7a4_76 rfl ?_
            refine lv_isub hx hb dJ6_numberOfLeadingZeros_0f7a4_77 ?_
            exact W.iret (v := ((((31 : Int32) + (-8 : Int32)) + (-4 : Int32)) - ((((((a0.toUInt32 >>> ((8 : Int32).toUInt32 &&& Int32.toUInt32 31)).toInt32).toUInt32 >>> ((4 : Int32).toUInt32 &&& Int32.toUInt32 31)).toInt32).toUInt32 >>> ((1 : Int32).toUInt32 &&& Int32.toUInt32 31)).toInt32))) hx hb hr (fun t ht _ => ⟨((((31 : Int32) + (-8 : Int32)) + (-4 : Int32)) - ((((((a0.toUInt32 >>> ((8 : Int32).toUInt32 &&& Int32.toUInt32 31)).toInt32).toUInt32 >>> ((4 : Int32).toUInt32 &&& Int32.toUInt32 31)).toInt32).toUInt32 >>> ((1 : Int32).toUInt32 &&& Int32.toUInt32 31)).toInt32)), rfl, by unfold fnJ6_numberOfLeadingZeros_0f7a4; rw [if_pos c_1, if_pos c_2, if_neg c_3, if_neg c_7, if_pos c_9], ht⟩) (fun q h => absurd h List.not_mem_nil) dJ6_numberOfLeadingZeros_0f7a4_78
          · refine lv_iinc (v := ((((31 : Int32) + (-8 : Int32)) + (-4 : Int32)) + (-2 : Int32))) (lv' := [(1, .int (((((31 : Int32) + (-8 : Int32)) + (-4 : Int32)) + (-2 : Int32)))), (0, .int ((((a0.toUInt32 >>> ((8 : Int32).toUInt32 &&& Int32.toUInt32 31)).toInt32).toUInt32 >>> ((4 : Int32).toUInt32 &&& Int32.toUInt32 31)).toInt32))]) hx hb dJ6_numberOfLeadingZeros_0f7a4_66 hl (k := 1) rfl rfl (by decide) rfl (fun ls hl => ?_)
            refine lv_iload_n hx hb dJ6_numberOfLeadingZeros_0f7a4_69 rfl (lv_at hl 1 rfl) ?_
            refine lv_iconst (v := 2) hx hb dJ6_numberOfLeadingZeros_0f7a4_70 (by decide) ?_
            refine lv_iushr (v := (((((a0.toUInt32 >>> ((8 : Int32).toUInt32 &&& Int32.toUInt32 31)).toInt32).toUInt32 >>> ((4 : Int32).toUInt32 &&& Int32.toUInt32 31)).toInt32).toUInt32 >>> ((2 : Int32).toUInt32 &&& Int32.toUInt32 31)).toInt32) hx hb dJ6_numberOfLeadingZeros_0f7a4_71 rfl ?_
            refine lv_istore_n (lv' := [(0, .int ((((((a0.toUInt32 >>> ((8 : Int32).toUInt32 &&& Int32.toUInt32 31)).toInt32).toUInt32 >>> ((4 : Int32).toUInt32 &&& Int32.toUInt32 31)).toInt32).toUInt32 >>> ((2 : Int32).toUInt32 &&& Int32.toUInt32 31)).toInt32)), (1, .int (((((31 : Int32) + (-8 : Int32)) + (-4 : Int32)) + (-2 : Int32))))]) hx hb dJ6_numberOfLeadingZeros_0f7a4_72 rfl hl (by decide) rfl (fun ls hl => ?_)
            refine lv_iload_n hx hb dJ6_numberOfLeadingZeros_0f7a4_73 rfl (lv_at hl 1 rfl) ?_
            refine lv_iload_n hx hb dJ6_numberOfLeadingZeros_0f7a4_74 rfl (lv_at hl 0 rfl) ?_
            refine lv_iconst (v := 1) hx hb dJ6_numberOfLeadingZeros_0f7a4_75 (by decide) ?_
            refine lv_iushr (v := (((((((a0.toUInt32 >>> ((8 : Int32).toUInt32 &&& Int32.toUInt32 31)).toInt32).toUInt32 >>> ((4 : Int32).toUInt32 &&& Int32.toUInt32 31)).toInt32).toUInt32 >>> ((2 : Int32).toUInt32 &&& Int32.toUInt32 31)).toInt32).toUInt32 >>> ((1 : Int32).toUInt32 &&& Int32.toUInt32 31)).toInt32) hx hb dJ6_numberOfLeadingZeros_0f7a4_76 rfl ?_
            refine lv_isub hx hb dJ6_numberOfLeadingZeros_0f7a4_77 ?_
            exact W.iret (v := (((((31 : Int32) + (-8 : Int32)) + (-4 : Int32)) + (-2 : Int32)) - ((((((((a0.toUInt32 >>> ((8 : Int32).toUInt32 &&& Int32.toUInt32 31)).toInt32).toUInt32 >>> ((4 : Int32).toUInt32 &&& Int32.toUInt32 31)).toInt32).toUInt32 >>> ((2 : Int32).toUInt32 &&& Int32.toUInt32 31)).toInt32).toUInt32 >>> ((1 : Int32).toUInt32 &&& Int32.toUInt32 31)).toInt32))) hx hb hr (fun t ht _ => ⟨(((((31 : Int32) + (-8 : Int32)) + (-4 : Int32)) + (-2 : Int32)) - ((((((((a0.toUInt32 >>> ((8 : Int32).toUInt32 &&& Int32.toUInt32 31)).toInt32).toUInt32 >>> ((4 : Int32).toUInt32 &&& Int32.toUInt32 31)).toInt32).toUInt32 >>> ((2 : Int32).toUInt32 &&& Int32.toUInt32 31)).toInt32).toUInt32 >>> ((1 : Int32).toUInt32 &&& Int32.toUInt32 31)).toInt32)), rfl, by unfold fnJ6_numberOfLeadingZeros_0f7a4; rw [if_pos c_1, if_pos c_2, if_neg c_3, if_neg c_7, if_neg c_9], ht⟩) (fun q h => absurd h List.not_mem_nil) dJ6_numberOfLeadingZeros_0f7a4_78
    · refine lv_iinc (v := ((31 : Int32) + (-16 : Int32))) (lv' := [(1, .int (((31 : Int32) + (-16 : Int32)))), (0, .int (a0))]) hx hb dJ6_numberOfLeadingZeros_0f7a4_25 hl (k := 0) rfl rfl (by decide) rfl (fun ls hl => ?_)
      refine lv_iload_n hx hb dJ6_numberOfLeadingZeros_0f7a4_28 rfl (lv_at hl 1 rfl) ?_
      refine lv_bipush (v := 16) hx hb dJ6_numberOfLeadingZeros_0f7a4_29 (by decide) ?_
      refine lv_iushr (v := (a0.toUInt32 >>> ((16 : Int32).toUInt32 &&& Int32.toUInt32 31)).toInt32) hx hb dJ6_numberOfLeadingZeros_0f7a4_31 rfl ?_
      refine lv_istore_n (lv' := [(0, .int ((a0.toUInt32 >>> ((16 : Int32).toUInt32 &&& Int32.toUInt32 31)).toInt32)), (1, .int (((31 : Int32) + (-16 : Int32))))]) hx hb dJ6_numberOfLeadingZeros_0f7a4_32 rfl hl (by decide) rfl (fun ls hl => ?_)
      refine lv_iload_n hx hb dJ6_numberOfLeadingZeros_0f7a4_33 rfl (lv_at hl 0 rfl) ?_
      refine lv_sipush (v := 256) hx hb dJ6_numberOfLeadingZeros_0f7a4_34 (by decide) ?_
      refine lv_icmp_lt (tgt := 48) hx hb dJ6_numberOfLeadingZeros_0f7a4_37 (by decide) (fun c_10 => ?_) (fun c_10 => ?_)
      · refine lv_iload_n hx hb dJ6_numberOfLeadingZeros_0f7a4_48 rfl (lv_at hl 0 rfl) ?_
        refine lv_bipush (v := 16) hx hb dJ6_numberOfLeadingZeros_0f7a4_49 (by decide) ?_
        refine lv_icmp_lt (tgt := 61) hx hb dJ6_numberOfLeadingZeros_0f7a4_51 (by decide) (fun c_11 => ?_) (fun c_11 => ?_)
        · refine lv_iload_n hx hb dJ6_numberOfLeadingZeros_0f7a4_61 rfl (lv_at hl 0 rfl) ?_
          refine lv_iconst (v := 4) hx hb dJ6_numberOfLeadingZeros_0f7a4_62 (by decide) ?_
          refine lv_icmp_lt (tgt := 73) hx hb dJ6_numberOfLeadingZeros_0f7a4_63 (by decide) (fun c_12 => ?_) (fun c_12 => ?_)
          · refine lv_iload_n hx hb dJ6_numberOfLeadingZeros_0f7a4_73 rfl (lv_at hl 1 rfl) ?_
            refine lv_iload_n hx hb dJ6_numberOfLeadingZeros_0f7a4_74 rfl (lv_at hl 0 rfl) ?_
            refine lv_iconst (v := 1) hx hb dJ6_numberOfLeadingZeros_0f7a4_75 (by decide) ?_
            refine lv_iushr (v := (((a0.toUInt32 >>> ((16 : Int32).toUInt32 &&& Int32.toUInt32 31)).toInt32).toUInt32 >>> ((1 : Int32).toUInt32 &&& Int32.toUInt32 31)).toInt32) hx hb dJ6_numberOfLeadingZeros_0f7a4_76 rfl ?_
            refine lv_isub hx hb dJ6_numberOfLeadingZeros_0f7a4_77 ?_
            exact W.iret (v := (((31 : Int32) + (-16 : Int32)) - ((((a0.toUInt32 >>> ((16 : Int32).toUInt32 &&& Int32.toUInt32 31)).toInt32).toUInt32 >>> ((1 : Int32).toUInt32 &&& Int32.toUInt32 31)).toInt32))) hx hb hr (fun t ht _ => ⟨(((31 : Int32) + (-16 : Int32)) - ((((a0.toUInt32 >>> ((16 : Int32).toUInt32 &&& Int32.toUInt32 31)).toInt32).toUInt32 >>> ((1 : Int32).toUInt32 &&& Int32.toUInt32 31)).toInt32)), rfl, by unfold fnJ6_numberOfLeadingZeros_0f7a4; rw [if_pos c_1, if_neg c_2, if_pos c_10, if_pos c_11, if_pos c_12], ht⟩) (fun q h => absurd h List.not_mem_nil) dJ6_numberOfLeadingZeros_0f7a4_78
          · refine lv_iinc (v := (((31 : Int32) + (-16 : Int32)) + (-2 : Int32))) (lv' := [(1, .int ((((31 : Int32) + (-16 : Int32)) + (-2 : Int32)))), (0, .int ((a0.toUInt32 >>> ((16 : Int32).toUInt32 &&& Int32.toUInt32 31)).toInt32))]) hx hb dJ6_numberOfLeadingZeros_0f7a4_66 hl (k := 1) rfl rfl (by decide) rfl (fun ls hl => ?_)
            refine lv_iload_n hx hb dJ6_numberOfLeadingZeros_0f7a4_69 rfl (lv_at hl 1 rfl) ?_
            refine lv_iconst (v := 2) hx hb dJ6_numberOfLeadingZeros_0f7a4_70 (by decide) ?_
            refine lv_iushr (v := (((a0.toUInt32 >>> ((16 : Int32).toUInt32 &&& Int32.toUInt32 31)).toInt32).toUInt32 >>> ((2 : Int32).toUInt32 &&& Int32.toUInt32 31)).toInt32) hx hb dJ6_numberOfLeadingZeros_0f7a4_71 rfl ?_
            refine lv_istore_n (lv' := [(0, .int ((((a0.toUInt32 >>> ((16 : Int32).toUInt32 &&& Int32.toUInt32 31)).toInt32).toUInt32 >>> ((2 : Int32).toUInt32 &&& Int32.toUInt32 31)).toInt32)), (1, .int ((((31 : Int32) + (-16 : Int32)) + (-2 : Int32))))]) hx hb dJ6_numberOfLeadingZeros_0f7a4_72 rfl hl (by decide) rfl (fun ls hl => ?_)
            refine lv_iload_n hx hb dJ6_numberOfLeadingZeros_0f7a4_73 rfl (lv_at hl 1 rfl) ?_
            refine lv_iload_n hx hb dJ6_numberOfLeadingZeros_0f7a4_74 rfl (lv_at hl 0 rfl) ?_
            refine lv_iconst (v := 1) hx hb dJ6_numberOfLeadingZeros_0f7a4_75 (by decide) ?_
            refine lv_iushr (v := (((((a0.toUInt32 >>> ((16 : Int32).toUInt32 &&& Int32.toUInt32 31)).toInt32).toUInt32 >>> ((2 : Int32).toUInt32 &&& Int32.toUInt32 31)).toInt32).toUInt32 >>> ((1 : Int32).toUInt32 &&& Int32.toUInt32 31)).toInt32) hx hb dJ6_numberOfLeadingZeros_0f7a4_76 rfl ?_
            refine lv_isub hx hb dJ6_numberOfLeadingZeros_0f7a4_77 ?_
            exact W.iret (v := ((((31 : Int32) + (-16 : Int32)) + (-2 : Int32)) - ((((((a0.toUInt32 >>> ((16 : Int32).toUInt32 &&& Int32.toUInt32 31)).toInt32).toUInt32 >>> ((2 : Int32).toUInt32 &&& Int32.toUInt32 31)).toInt32).toUInt32 >>> ((1 : Int32).toUInt32 &&& Int32.toUInt32 31)).toInt32))) hx hb hr (fun t ht _ => ⟨((((31 : Int32) + (-16 : Int32)) + (-2 : Int32)) - ((((((a0.toUInt32 >>> ((16 : Int32).toUInt32 &&& Int32.toUInt32 31)).toInt32).toUInt32 >>> ((2 : Int32).toUInt32 &&& Int32.toUInt32 31)).toInt32).toUInt32 >>> ((1 : Int32).toUInt32 &&& Int32.toUInt32 31)).toInt32)), rfl, by unfold fnJ6_numberOfLeadingZeros_0f7a4; rw [if_pos c_1, if_neg c_2, if_pos c_10, if_pos c_11, if_neg c_12], ht⟩) (fun q h => absurd h List.not_mem_nil) dJ6_numberOfLeadingZeros_0f7a4_78
        · refine lv_iinc (v := (((31 : Int32) + (-16 : Int32)) + (-4 : Int32))) (lv' := [(1, .int ((((31 : Int32) + (-16 : Int32)) + (-4 : Int32)))), (0, .int ((a0.toUInt32 >>> ((16 : Int32).toUInt32 &&& Int32.toUInt32 31)).toInt32))]) hx hb dJ6_numberOfLeadingZeros_0f7a4_54 hl (k := 1) rfl rfl (by decide) rfl (fun ls hl => ?_)
          refine lv_iload_n hx hb dJ6_numberOfLeadingZeros_0f7a4_57 rfl (lv_at hl 1 rfl) ?_
          refine lv_iconst (v := 4) hx hb dJ6_numberOfLeadingZeros_0f7a4_58 (by decide) ?_
          refine lv_iushr (v := (((a0.toUInt32 >>> ((16 : Int32).toUInt32 &&& Int32.toUInt32 31)).toInt32).toUInt32 >>> ((4 : Int32).toUInt32 &&& Int32.toUInt32 31)).toInt32) hx hb dJ6_numberOfLeadingZeros_0f7a4_59 rfl ?_
          refine lv_istore_n (lv' := [(0, .int ((((a0.toUInt32 >>> ((16 : Int32).toUInt32 &&& Int32.toUInt32 31)).toInt32).toUInt32 >>> ((4 : Int32).toUInt32 &&& Int32.toUInt32 31)).toInt32)), (1, .int ((((31 : Int32) + (-16 : Int32)) + (-4 : Int32))))]) hx hb dJ6_numberOfLeadingZeros_0f7a4_60 rfl hl (by decide) rfl (fun ls hl => ?_)
          refine lv_iload_n hx hb dJ6_numberOfLeadingZeros_0f7a4_61 rfl (lv_at hl 0 rfl) ?_
          refine lv_iconst (v := 4) hx hb dJ6_numberOfLeadingZeros_0f7a4_62 (by decide) ?_
          refine lv_icmp_lt (tgt := 73) hx hb dJ6_numberOfLeadingZeros_0f7a4_63 (by decide) (fun c_13 => ?_) (fun c_13 => ?_)
          · refine lv_iload_n hx hb dJ6_numberOfLeadingZeros_0f7a4_73 rfl (lv_at hl 1 rfl) ?_
            refine lv_iload_n hx hb dJ6_numberOfLeadingZeros_0f7a4_74 rfl (lv_at hl 0 rfl) ?_
            refine lv_iconst (v := 1) hx hb dJ6_numberOfLeadingZeros_0f7a4_75 (by decide) ?_
            refine lv_iushr (v := (((((a0.toUInt32 >>> ((16 : Int32).toUInt32 &&& Int32.toUInt32 31)).toInt32).toUInt32 >>> ((4 : Int32).toUInt32 &&& Int32.toUInt32 31)).toInt32).toUInt32 >>> ((1 : Int32).toUInt32 &&& Int32.toUInt32 31)).toInt32) hx hb dJ6_numberOfLeadingZeros_0f7a4_76 rfl ?_
            refine lv_isub hx hb dJ6_numberOfLeadingZeros_0f7a4_77 ?_
            exact W.iret (v := ((((31 : Int32) + (-16 : Int32)) + (-4 : Int32)) - ((((((a0.toUInt32 >>> ((16 : Int32).toUInt32 &&& Int32.toUInt32 31)).toInt32).toUInt32 >>> ((4 : Int32).toUInt32 &&& Int32.toUInt32 31)).toInt32).toUInt32 >>> ((1 : Int32).toUInt32 &&& Int32.toUInt32 31)).toInt32))) hx hb hr (fun t ht _ => ⟨((((31 : Int32) + (-16 : Int32)) + (-4 : Int32)) - ((((((a0.toUInt32 >>> ((16 : Int32).toUInt32 &&& Int32.toUInt32 31)).toInt32).toUInt32 >>> ((4 : Int32).toUInt32 &&& Int32.toUInt32 31)).toInt32).toUInt32 >>> ((1 : Int32).toUInt32 &&& Int32.toUInt32 31)).toInt32)), rfl, by unfold fnJ6_numberOfLeadingZeros_0f7a4; rw [if_pos c_1, if_neg c_2, if_pos c_10, if_neg c_11, if_pos c_13], ht⟩) (fun q h => absurd h List.not_mem_nil) dJ6_numberOfLeadingZeros_0f7a4_78
          · refine lv_iinc (v := ((((31 : Int32) + (-16 : Int32)) + (-4 : Int32)) + (-2 : Int32))) (lv' := [(1, .int (((((31 : Int32) + (-16 : Int32)) + (-4 : Int32)) + (-2 : Int32)))), (0, .int ((((a0.toUInt32 >>> ((16 : Int32).toUInt32 &&& Int32.toUInt32 31)).toInt32).toUInt32 >>> ((4 : Int32).toUInt32 &&& Int32.toUInt32 31)).toInt32))]) hx hb dJ6_numberOfLeadingZeros_0f7a4_66 hl (k := 1) rfl rfl (by decide) rfl (fun ls hl => ?_)
            refine lv_iload_n hx hb dJ6_numberOfLeadingZeros_0f7a4_69 rfl (lv_at hl 1 rfl) ?_
            refine lv_iconst (v := 2) hx hb dJ6_numberOfLeadingZeros_0f7a4_70 (by decide) ?_
            refine lv_iushr (v := (((((a0.toUInt32 >>> ((16 : Int32).toUInt32 &&& Int32.toUInt32 31)).toInt32).toUInt32 >>> ((4 : Int32).toUInt32 &&& Int32.toUInt32 31)).toInt32).toUInt32 >>> ((2 : Int32).toUInt32 &&& Int32.toUInt32 31)).toInt32) hx hb dJ6_numberOfLeadingZeros_0f7a4_71 rfl ?_
            refine lv_istore_n (lv' := [(0, .int ((((((a0.toUInt32 >>> ((16 : Int32).toUInt32 &&& Int32.toUInt32 31)).toInt32).toUInt32 >>> ((4 : Int32).toUInt32 &&& Int32.toUInt32 31)).toInt32).toUInt32 >>> ((2 : Int32).toUInt32 &&& Int32.toUInt32 31)).toInt32)), (1, .int (((((31 : Int32) + (-16 : Int32)) + (-4 : Int32)) + (-2 : Int32))))]) hx hb dJ6_numberOfLeadingZeros_0f7a4_72 rfl hl (by decide) rfl (fun ls hl => ?_)
            refine lv_iload_n hx hb dJ6_numberOfLeadingZeros_0f7a4_73 rfl (lv_at hl 1 rfl) ?_
            refine lv_iload_n hx hb dJ6_numberOfLeadingZeros_0f7a4_74 rfl (lv_at hl 0 rfl) ?_
            refine lv_iconst (v := 1) hx hb dJ6_numberOfLeadingZeros_0f7a4_75 (by decide) ?_
            refine lv_iushr (v := (((((((a0.toUInt32 >>> ((16 : Int32).toUInt32 &&& Int32.toUInt32 31)).toInt32).toUInt32 >>> ((4 : Int32).toUInt32 &&& Int32.toUInt32 31)).toInt32).toUInt32 >>> ((2 : Int32).toUInt32 &&& Int32.toUInt32 31)).toInt32).toUInt32 >>> ((1 : Int32).toUInt32 &&& Int32.toUInt32 31)).toInt32) hx hb dJ6_numberOfLeadingZeros_0f7a4_76 rfl ?_
            refine lv_isub hx hb dJ6_numberOfLeadingZeros_0f7a4_77 ?_
            exact W.iret (v := (((((31 : Int32) + (-16 : Int32)) + (-4 : Int32)) + (-2 : Int32)) - ((((((((a0.toUInt32 >>> ((16 : Int32).toUInt32 &&& Int32.toUInt32 31)).toInt32).toUInt32 >>> ((4 : Int32).toUInt32 &&& Int32.toUInt32 31)).toInt32).toUInt32 >>> ((2 : Int32).toUInt32 &&& Int32.toUInt32 31)).toInt32).toUInt32 >>> ((1 : Int32).toUInt32 &&& Int32.toUInt32 31)).toInt32))) hx hb hr (fun t ht _ => ⟨(((((31 : Int32) + (-16 : Int32)) + (-4 : Int32)) + (-2 : Int32)) - ((((((((a0.toUInt32 >>> ((16 : Int32).toUInt32 &&& Int32.toUInt32 31)).toInt32).toUInt32 >>> ((4 : Int32).toUInt32 &&& Int32.toUInt32 31)).toInt32).toUInt32 >>> ((2 : Int32).toUInt32 &&& Int32.toUInt32 31)).toInt32).toUInt32 >>> ((1 : Int32).toUInt32 &&& Int32.toUInt32 31)).toInt32)), rfl, by unfold fnJ6_numberOfLeadingZeros_0f7a4; rw [if_pos c_1, if_neg c_2, if_pos c_10, if_neg c_11, if_neg c_13], ht⟩) (fun q h => absurd h List.not_mem_nil) dJ6_numberOfLeadingZeros_0f7a4_78
      · refine lv_iinc (v := (((31 : Int32) + (-16 : Int32)) + (-8 : Int32))) (lv' := [(1, .int ((((31 : Int32) + (-16 : Int32)) + (-8 : Int32)))), (0, .int ((a0.toUInt32 >>> ((16 : Int32).toUInt32 &&& Int32.toUInt32 31)).toInt32))]) hx hb dJ6_numberOfLeadingZeros_0f7a4_40 hl (k := 1) rfl rfl (by decide) rfl (fun ls hl => ?_)
        refine lv_iload_n hx hb dJ6_numberOfLeadingZeros_0f7a4_43 rfl (lv_at hl 1 rfl) ?_
        refine lv_bipush (v := 8) hx hb dJ6_numberOfLeadingZeros_0f7a4_44 (by decide) ?_
        refine lv_iushr (v := (((a0.toUInt32 >>> ((16 : Int32).toUInt32 &&& Int32.toUInt32 31)).toInt32).toUInt32 >>> ((8 : Int32).toUInt32 &&& Int32.toUInt32 31)).toInt32) hx hb dJ6_numberOfLeadingZeros_0f7a4_46 rfl ?_
        refine lv_istore_n (lv' := [(0, .int ((((a0.toUInt32 >>> ((16 : Int32).toUInt32 &&& Int32.toUInt32 31)).toInt32).toUInt32 >>> ((8 : Int32).toUInt32 &&& Int32.toUInt32 31)).toInt32)), (1, .int ((((31 : Int32) + (-16 : Int32)) + (-8 : Int32))))]) hx hb dJ6_numberOfLeadingZeros_0f7a4_47 rfl hl (by decide) rfl (fun ls hl => ?_)
        refine lv_iload_n hx hb dJ6_numberOfLeadingZeros_0f7a4_48 rfl (lv_at hl 0 rfl) ?_
        refine lv_bipush (v := 16) hx hb dJ6_numberOfLeadingZeros_0f7a4_49 (by decide) ?_
        refine lv_icmp_lt (tgt := 61) hx hb dJ6_numberOfLeadingZeros_0f7a4_51 (by decide) (fun c_14 => ?_) (fun c_14 => ?_)
        · refine lv_iload_n hx hb dJ6_numberOfLeadingZeros_0f7a4_61 rfl (lv_at hl 0 rfl) ?_
          refine lv_iconst (v := 4) hx hb dJ6_numberOfLeadingZeros_0f7a4_62 (by decide) ?_
          refine lv_icmp_lt (tgt := 73) hx hb dJ6_numberOfLeadingZeros_0f7a4_63 (by decide) (fun c_15 => ?_) (fun c_15 => ?_)
          · refine lv_iload_n hx hb dJ6_numberOfLeadingZeros_0f7a4_73 rfl (lv_at hl 1 rfl) ?_
            refine lv_iload_n hx hb dJ6_numberOfLeadingZeros_0f7a4_74 rfl (lv_at hl 0 rfl) ?_
            refine lv_iconst (v := 1) hx hb dJ6_numberOfLeadingZeros_0f7a4_75 (by decide) ?_
            refine lv_iushr (v := (((((a0.toUInt32 >>> ((16 : Int32).toUInt32 &&& Int32.toUInt32 31)).toInt32).toUInt32 >>> ((8 : Int32).toUInt32 &&& Int32.toUInt32 31)).toInt32).toUInt32 >>> ((1 : Int32).toUInt32 &&& Int32.toUInt32 31)).toInt32) hx hb dJ6_numberOfLeadingZeros_0f7a4_76 rfl ?_
            refine lv_isub hx hb dJ6_numberOfLeadingZeros_0f7a4_77 ?_
            exact W.iret (v := ((((31 : Int32) + (-16 : Int32)) + (-8 : Int32)) - ((((((a0.toUInt32 >>> ((16 : Int32).toUInt32 &&& Int32.toUInt32 31)).toInt32).toUInt32 >>> ((8 : Int32).toUInt32 &&& Int32.toUInt32 31)).toInt32).toUInt32 >>> ((1 : Int32).toUInt32 &&& Int32.toUInt32 31)).toInt32))) hx hb hr (fun t ht _ => ⟨((((31 : Int32) + (-16 : Int32)) + (-8 : Int32)) - ((((((a0.toUInt32 >>> ((16 : Int32).toUInt32 &&& Int32.toUInt32 31)).toInt32).toUInt32 >>> ((8 : Int32).toUInt32 &&& Int32.toUInt32 31)).toInt32).toUInt32 >>> ((1 : Int32).toUInt32 &&& Int32.toUInt32 31)).toInt32)), rfl, by unfold fnJ6_numberOfLeadingZeros_0f7a4; rw [if_pos c_1, if_neg c_2, if_neg c_10, if_pos c_14, if_pos c_15], ht⟩) (fun q h => absurd h List.not_mem_nil) dJ6_numberOfLeadingZeros_0f7a4_78
          · refine lv_iinc (v := ((((31 : Int32) + (-16 : Int32)) + (-8 : Int32)) + (-2 : Int32))) (lv' := [(1, .int (((((31 : Int32) + (-16 : Int32)) + (-8 : Int32)) + (-2 : Int32)))), (0, .int ((((a0.toUInt32 >>> ((16 : Int32).toUInt32 &&& Int32.toUInt32 31)).toInt32).toUInt32 >>> ((8 : Int32).toUInt32 &&& Int32.toUInt32 31)).toInt32))]) hx hb dJ6_numberOfLeadingZeros_0f7a4_66 hl (k := 1) rfl rfl (by decide) rfl (fun ls hl => ?_)
            refine lv_iload_n hx hb dJ6_numberOfLeadingZeros_0f7a4_69 rfl (lv_at hl 1 rfl) ?_
            refine lv_iconst (v := 2) hx hb dJ6_numberOfLeadingZeros_0f7a4_70 (by decide) ?_
            refine lv_iushr (v := (((((a0.toUInt32 >>> ((16 : Int32).toUInt32 &&& Int32.toUInt32 31)).toInt32).toUInt32 >>> ((8 : Int32).toUInt32 &&& Int32.toUInt32 31)).toInt32).toUInt32 >>> ((2 : Int32).toUInt32 &&& Int32.toUInt32 31)).toInt32) hx hb dJ6_numberOfLeadingZeros_0f7a4_71 rfl ?_
            refine lv_istore_n (lv' := [(0, .int ((((((a0.toUInt32 >>> ((16 : Int32).toUInt32 &&& Int32.toUInt32 31)).toInt32).toUInt32 >>> ((8 : Int32).toUInt32 &&& Int32.toUInt32 31)).toInt32).toUInt32 >>> ((2 : Int32).toUInt32 &&& Int32.toUInt32 31)).toInt32)), (1, .int (((((31 : Int32) + (-16 : Int32)) + (-8 : Int32)) + (-2 : Int32))))]) hx hb dJ6_numberOfLeadingZeros_0f7a4_72 rfl hl (by decide) rfl (fun ls hl => ?_)
            refine lv_iload_n hx hb dJ6_numberOfLeadingZeros_0f7a4_73 rfl (lv_at hl 1 rfl) ?_
            refine lv_iload_n hx hb dJ6_numberOfLeadingZeros_0f7a4_74 rfl (lv_at hl 0 rfl) ?_
            refine lv_iconst (v := 1) hx hb dJ6_numberOfLeadingZeros_0f7a4_75 (by decide) ?_
            refine lv_iushr (v := (((((((a0.toUInt32 >>> ((16 : Int32).toUInt32 &&& Int32.toUInt32 31)).toInt32).toUInt32 >>> ((8 : Int32).toUInt32 &&& Int32.toUInt32 31)).toInt32).toUInt32 >>> ((2 : Int32).toUInt32 &&& Int32.toUInt32 31)).toInt32).toUInt32 >>> ((1 : Int32).toUInt32 &&& Int32.toUInt32 31)).toInt32) hx hb dJ6_numberOfLeadingZeros_0f7a4_76 rfl ?_
            refine lv_isub hx hb dJ6_numberOfLeadingZeros_0f7a4_77 ?_
            exact W.iret (v := (((((31 : Int32) + (-16 : Int32)) + (-8 : Int32)) + (-2 : Int32)) - ((((((((a0.toUInt32 >>> ((16 : Int32).toUInt32 &&& Int32.toUInt32 31)).toInt32).toUInt32 >>> ((8 : Int32).toUInt32 &&& Int32.toUInt32 31)).toInt32).toUInt32 >>> ((2 : Int32).toUInt32 &&& Int32.toUInt32 31)).toInt32).toUInt32 >>> ((1 : Int32).toUInt32 &&& Int32.toUInt32 31)).toInt32))) hx hb hr (fun t ht _ => ⟨(((((31 : Int32) + (-16 : Int32)) + (-8 : Int32)) + (-2 : Int32)) - ((((((((a0.toUInt32 >>> ((16 : Int32).toUInt32 &&& Int32.toUInt32 31)).toInt32).toUInt32 >>> ((8 : Int32).toUInt32 &&& Int32.toUInt32 31)).toInt32).toUInt32 >>> ((2 : Int32).toUInt32 &&& Int32.toUInt32 31)).toInt32).toUInt32 >>> ((1 : Int32).toUInt32 &&& Int32.toUInt32 31)).toInt32)), rfl, by unfold fnJ6_numberOfLeadingZeros_0f7a4; rw [if_pos c_1, if_neg c_2, if_neg c_10, if_pos c_14, if_neg c_15], ht⟩) (fun q h => absurd h List.not_mem_nil) dJ6_numberOfLeadingZeros_0f7a4_78
        · refine lv_iinc (v := ((((31 : Int32) + (-16 : Int32)) + (-8 : Int32)) + (-4 : Int32))) (lv' := [(1, .int (((((31 : Int32) + (-16 : Int32)) + (-8 : Int32)) + (-4 : Int32)))), (0, .int ((((a0.toUInt32 >>> ((16 : Int32).toUInt32 &&& Int32.toUInt32 31)).toInt32).toUInt32 >>> ((8 : Int32).toUInt32 &&& Int32.toUInt32 31)).toInt32))]) hx hb dJ6_numberOfLeadingZeros_0f7a4_54 hl (k := 1) rfl rfl (by decide) rfl (fun ls hl => ?_)
          refine lv_iload_n hx hb dJ6_numberOfLeadingZeros_0f7a4_57 rfl (lv_at hl 1 rfl) ?_
          refine lv_iconst (v := 4) hx hb dJ6_numberOfLeadingZeros_0f7a4_58 (by decide) ?_
          refine lv_iushr (v := (((((a0.toUInt32 >>> ((16 : Int32).toUInt32 &&& Int32.toUInt32 31)).toInt32).toUInt32 >>> ((8 : Int32).toUInt32 &&& Int32.toUInt32 31)).toInt32).toUInt32 >>> ((4 : Int32).toUInt32 &&& Int32.toUInt32 31)).toInt32) hx hb dJ6_numberOfLeadingZeros_0f7a4_59 rfl ?_
          refine lv_istore_n (lv' := [(0, .int ((((((a0.toUInt32 >>> ((16 : Int32).toUInt32 &&& Int32.toUInt32 31)).toInt32).toUInt32 >>> ((8 : Int32).toUInt32 &&& Int32.toUInt32 31)).toInt32).toUInt32 >>> ((4 : Int32).toUInt32 &&& Int32.toUInt32 31)).toInt32)), (1, .int (((((31 : Int32) + (-16 : Int32)) + (-8 : Int32)) + (-4 : Int32))))]) hx hb dJ6_numberOfLeadingZeros_0f7a4_60 rfl hl (by decide) rfl (fun ls hl => ?_)
          refine lv_iload_n hx hb dJ6_numberOfLeadingZeros_0f7a4_61 rfl (lv_at hl 0 rfl) ?_
          refine lv_iconst (v := 4) hx hb dJ6_numberOfLeadingZeros_0f7a4_62 (by decide) ?_
          refine lv_icmp_lt (tgt := 73) hx hb dJ6_numberOfLeadingZeros_0f7a4_63 (by decide) (fun c_16 => ?_) (fun c_16 => ?_)
          · refine lv_iload_n hx hb dJ6_numberOfLeadingZeros_0f7a4_73 rfl (lv_at hl 1 rfl) ?_
            refine lv_iload_n hx hb dJ6_numberOfLeadingZeros_0f7a4_74 rfl (lv_at hl 0 rfl) ?_
            refine lv_iconst (v := 1) hx hb dJ6_numberOfLeadingZeros_0f7a4_75 (by decide) ?_
            refine lv_iushr (v := (((((((a0.toUInt32 >>> ((16 : Int32).toUInt32 &&& Int32.toUInt32 31)).toInt32).toUInt32 >>> ((8 : Int32).toUInt32 &&& Int32.toUInt32 31)).toInt32).toUInt32 >>> ((4 : Int32).toUInt32 &&& Int32.toUInt32 31)).toInt32).toUInt32 >>> ((1 : Int32).toUInt32 &&& Int32.toUInt32 31)).toInt32) hx hb dJ6_numberOfLeadingZeros_0f7a4_76 rfl ?_
            refine lv_isub hx hb dJ6_numberOfLeadingZeros_0f7a4_77 ?_
            exact W.iret (v := (((((31 : Int32) + (-16 : Int32)) + (-8 : Int32)) + (-4 : Int32)) - ((((((((a0.toUInt32 >>> ((16 : Int32).toUInt32 &&& Int32.toUInt32 31)).toInt32).toUInt32 >>> ((8 : Int32).toUInt32 &&& Int32.toUInt32 31)).toInt32).toUInt32 >>> ((4 : Int32).toUInt32 &&& Int32.toUInt32 31)).toInt32).toUInt32 >>> ((1 : Int32).toUInt32 &&& Int32.toUInt32 31)).toInt32))) hx hb hr (fun t ht _ => ⟨(((((31 : Int32) + (-16 : Int32)) + (-8 : Int32)) + (-4 : Int32)) - ((((((((a0.toUInt32 >>> ((16 : Int32).toUInt32 &&& Int32.toUInt32 31)).toInt32).toUInt32 >>> ((8 : Int32).toUInt32 &&& Int32.toUInt32 31)).toInt32).toUInt32 >>> ((4 : Int32).toUInt32 &&& Int32.toUInt32 31)).toInt32).toUInt32 >>> ((1 : Int32).toUInt32 &&& Int32.toUInt32 31)).toInt32)), rfl, by unfold fnJ6_numberOfLeadingZeros_0f7a4; rw [if_pos c_1, if_neg c_2, if_neg c_10, if_neg c_14, if_pos c_16], ht⟩) (fun q h => absurd h List.not_mem_nil) dJ6_numberOfLeadingZeros_0f7a4_78
          · refine lv_iinc (v := (((((31 : Int32) + (-16 : Int32)) + (-8 : Int32)) + (-4 : Int32)) + (-2 : Int32))) (lv' := [(1, .int ((((((31 : Int32) + (-16 : Int32)) + (-8 : Int32)) + (-4 : Int32)) + (-2 : Int32)))), (0, .int ((((((a0.toUInt32 >>> ((16 : Int32).toUInt32 &&& Int32.toUInt32 31)).toInt32).toUInt32 >>> ((8 : Int32).toUInt32 &&& Int32.toUInt32 31)).toInt32).toUInt32 >>> ((4 : Int32).toUInt32 &&& Int32.toUInt32 31)).toInt32))]) hx hb dJ6_numberOfLeadingZeros_0f7a4_66 hl (k := 1) rfl rfl (by decide) rfl (fun ls hl => ?_)
            refine lv_iload_n hx hb dJ6_numberOfLeadingZeros_0f7a4_69 rfl (lv_at hl 1 rfl) ?_
            refine lv_iconst (v := 2) hx hb dJ6_numberOfLeadingZeros_0f7a4_70 (by decide) ?_
            refine lv_iushr (v := (((((((a0.toUInt32 >>> ((16 : Int32).toUInt32 &&& Int32.toUInt32 31)).toInt32).toUInt32 >>> ((8 : Int32).toUInt32 &&& Int32.toUInt32 31)).toInt32).toUInt32 >>> ((4 : Int32).toUInt32 &&& Int32.toUInt32 31)).toInt32).toUInt32 >>> ((2 : Int32).toUInt32 &&& Int32.toUInt32 31)).toInt32) hx hb dJ6_numberOfLeadingZeros_0f7a4_71 rfl ?_
            refine lv_istore_n (lv' := [(0, .int ((((((((a0.toUInt32 >>> ((16 : Int32).toUInt32 &&& Int32.toUInt32 31)).toInt32).toUInt32 >>> ((8 : Int32).toUInt32 &&& Int32.toUInt32 31)).toInt32).toUInt32 >>> ((4 : Int32).toUInt32 &&& Int32.toUInt32 31)).toInt32).toUInt32 >>> ((2 : Int32).toUInt32 &&& Int32.toUInt32 31)).toInt32)), (1, .int ((((((31 : Int32) + (-16 : Int32)) + (-8 : Int32)) + (-4 : Int32)) + (-2 : Int32))))]) hx hb dJ6_numberOfLeadingZeros_0f7a4_72 rfl hl (by decide) rfl (fun ls hl => ?_)
            refine lv_iload_n hx hb dJ6_numberOfLeadingZeros_0f7a4_73 rfl (lv_at hl 1 rfl) ?_
            refine lv_iload_n hx hb dJ6_numberOfLeadingZeros_0f7a4_74 rfl (lv_at hl 0 rfl) ?_
            refine lv_iconst (v := 1) hx hb dJ6_numberOfLeadingZeros_0f7a4_75 (by decide) ?_
            refine lv_iushr (v := (((((((((a0.toUInt32 >>> ((16 : Int32).toUInt32 &&& Int32.toUInt32 31)).toInt32).toUInt32 >>> ((8 : Int32).toUInt32 &&& Int32.toUInt32 31)).toInt32).toUInt32 >>> ((4 : Int32).toUInt32 &&& Int32.toUInt32 31)).toInt32).toUInt32 >>> ((2 : Int32).toUInt32 &&& Int32.toUInt32 31)).toInt32).toUInt32 >>> ((1 : Int32).toUInt32 &&& Int32.toUInt32 31)).toInt32) hx hb dJ6_numberOfLeadingZeros_0f7a4_76 rfl ?_
            refine lv_isub hx hb dJ6_numberOfLeadingZeros_0f7a4_77 ?_
            exact W.iret (v := ((((((31 : Int32) + (-16 : Int32)) + (-8 : Int32)) + (-4 : Int32)) + (-2 : Int32)) - ((((((((((a0.toUInt32 >>> ((16 : Int32).toUInt32 &&& Int32.toUInt32 31)).toInt32).toUInt32 >>> ((8 : Int32).toUInt32 &&& Int32.toUInt32 31)).toInt32).toUInt32 >>> ((4 : Int32).toUInt32 &&& Int32.toUInt32 31)).toInt32).toUInt32 >>> ((2 : Int32).toUInt32 &&& Int32.toUInt32 31)).toInt32).toUInt32 >>> ((1 : Int32).toUInt32 &&& Int32.toUInt32 31)).toInt32))) hx hb hr (fun t ht _ => ⟨((((((31 : Int32) + (-16 : Int32)) + (-8 : Int32)) + (-4 : Int32)) + (-2 : Int32)) - ((((((((((a0.toUInt32 >>> ((16 : Int32).toUInt32 &&& Int32.toUInt32 31)).toInt32).toUInt32 >>> ((8 : Int32).toUInt32 &&& Int32.toUInt32 31)).toInt32).toUInt32 >>> ((4 : Int32).toUInt32 &&& Int32.toUInt32 31)).toInt32).toUInt32 >>> ((2 : Int32).toUInt32 &&& Int32.toUInt32 31)).toInt32).toUInt32 >>> ((1 : Int32).toUInt32 &&& Int32.toUInt32 31)).toInt32)), rfl, by unfold fnJ6_numberOfLeadingZeros_0f7a4; rw [if_pos c_1, if_neg c_2, if_neg c_10, if_neg c_14, if_neg c_16], ht⟩) (fun q h => absurd h List.not_mem_nil) dJ6_numberOfLeadingZeros_0f7a4_78
  · refine lv_iload_n hx hb dJ6_numberOfLeadingZeros_0f7a4_4 rfl (lv_at hl 0 rfl) ?_
    refine lv_if_ne (tgt := 13) hx hb dJ6_numberOfLeadingZeros_0f7a4_5 (by decide) (fun c_17 => ?_) (fun c_17 => ?_)
    · refine lv_iconst (v := 0) hx hb dJ6_numberOfLeadingZeros_0f7a4_13 (by decide) ?_
      exact W.iret (v := 0) hx hb hr (fun t ht _ => ⟨0, rfl, by unfold fnJ6_numberOfLeadingZeros_0f7a4; rw [if_neg c_1, if_neg c_17], ht⟩) (fun q h => absurd h List.not_mem_nil) dJ6_numberOfLeadingZeros_0f7a4_14
    · refine lv_bipush (v := 32) hx hb dJ6_numberOfLeadingZeros_0f7a4_8 (by decide) ?_
      refine lv_goto (tgt := 14) hx hb dJ6_numberOfLeadingZeros_0f7a4_10 (by decide) ?_
      exact W.iret (v := 32) hx hb hr (fun t ht _ => ⟨32, rfl, by unfold fnJ6_numberOfLeadingZeros_0f7a4; rw [if_neg c_1, if_pos c_17], ht⟩) (fun q h => absurd h List.not_mem_nil) dJ6_numberOfLeadingZeros_0f7a4_14

def fnX0_highestPlace (a0 : Int32) : Int32 := ((31 : Int32) - (fnJ6_numberOfLeadingZeros_0f7a4 a0))
set_option maxHeartbeats 4000000 in
set_option maxRecDepth 100000 in
theorem metX0_highestPlace (l : Launch) (a0 : Int32) : Met l yX0_highestPlace wsX0_highestPlace ({ frames := 1, cells := 0, slots := 0, locals := 21 }) (va_Pc [.int a0] (fun _ => True)) (vp_Si (fun r => r = fnX0_highestPlace a0)) 0 0 (fun _ => False) := by
  refine Met.ofW (cc := cX0_highestPlace) (maxL := 1) (ret := (some .int)) (by decide) rfl ?_
  intro p e s m args below meth c s₁ B hml hv
  obtain ⟨rfl, -⟩ := hv
  have hx := B.exec
  have hb := B.bytes
  have hr := B.returns
  have hts := atoms_spec (ws := wsX0_highestPlace) B.pre
  have hown : s.vm.findClass RX0 = some m.cls := findClass_of_methodNamed B.named
  have hlocks := B.notSynchronized
  have hl := lv_entry ([.int a0]) (n := 1) (Nat.le_of_ble_eq_true rfl)
  rw [lg_entry_eq]
  generalize (lg_sl ([.int a0]) ++ List.replicate (1 - (lg_sl ([.int a0])).length) Slot.unset).toArray = ls at hl ⊢
  have hl : lv_has ls 1 [(0, .int (a0))] := hl
  refine lv_bipush (v := 31) hx hb dX0_highestPlace_0 (by decide) ?_
  refine lv_iload_n hx hb dX0_highestPlace_2 rfl (lv_at hl 0 rfl) ?_
  refine vp_callSi (W.runS (As := [.int (a0)]) (rest := [.int (31)]) ⟨hx, hb, hml, hown, hts⟩ (metJ6_numberOfLeadingZeros_0f7a4 l a0) (va_cwS 1 hts gX0_highestPlace_J6_numberOfLeadingZeros_0f7a4 rfl rfl rfl (by decide +kernel) ⟨(Nat.le_of_ble_eq_true rfl), (Nat.le_of_ble_eq_true rfl)⟩) ⟨fun a U g mk q => q, fun U hU hW => ⟨rfl, trivial⟩⟩ rfl rfl hl.1 rfl (lv_room (Nat.le_of_ble_eq_true rfl)) dX0_highestPlace_3 ⟨(Nat.zero_le _), (Nat.zero_le _)⟩) (fun r_1 er_1 => ?_)
  subst er_1
  refine lv_isub hx hb dX0_highestPlace_6 ?_
  exact W.iret (v := ((31 : Int32) - (fnJ6_numberOfLeadingZeros_0f7a4 a0))) hx hb hr (fun t ht _ => ⟨((31 : Int32) - (fnJ6_numberOfLeadingZeros_0f7a4 a0)), rfl, rfl, ht⟩) (fun q h => absurd h List.not_mem_nil) dX0_highestPlace_7

def fnJ9_floorDiv_7cf53 (a0 : Int32) (a1 : Int32) : Int32 := if 0 ≤ (a0 ^^^ a1) then ((a0 / a1)) else (if ((a0 / a1) * a1) = a0 then ((a0 / a1)) else (((a0 / a1) - (1 : Int32))))
set_option maxHeartbeats 4000000 in
set_option maxRecDepth 100000 in
theorem metJ9_floorDiv_7cf53 (l : Launch) (a0 : Int32) (a1 : Int32) (hz : ¬ a1 = 0) : Met l yJ9_floorDiv_7cf53 wsJ9_floorDiv_7cf53 ({ frames := 0, cells := 0, slots := 0, locals := 0 }) (va_Pc [.int a0, .int a1] (fun _ => True)) (vp_Si (fun r => r = fnJ9_floorDiv_7cf53 a0 a1)) 0 0 (fun _ => False) := by
  refine cb_ofWF (cc := cJ9_floorDiv_7cf53) (maxL := 3) (ret := (some .int)) cb_plain_floorDiv rfl ?_
  intro p e s m args below meth c s₁ B hml hv
  obtain ⟨rfl, -⟩ := hv
  have hx := B.exec
  have hb := B.bytes
  have hr := B.returns
  have hts := atoms_spec (ws := wsJ9_floorDiv_7cf53) B.pre
  have hown : s.vm.findClass RJ9 = some m.cls := findClass_of_methodNamed B.named
  have hlocks := B.notSynchronized
  have hl := lv_entry ([.int a0, .int a1]) (n := 3) (Nat.le_of_ble_eq_true rfl)
  rw [lg_entry_eq]
  generalize (lg_sl ([.int a0, .int a1]) ++ List.replicate (3 - (lg_sl ([.int a0, .int a1])).length) Slot.unset).toArray = ls at hl ⊢
  have hl : lv_has ls 3 [(0, .int (a0)), (1, .int (a1))] := hl
  refine lv_iload_n hx hb dJ9_floorDiv_7cf53_0 rfl (lv_at hl 0 rfl) ?_
  refine lv_iload_n hx hb dJ9_floorDiv_7cf53_1 rfl (lv_at hl 1 rfl) ?_
  refine lv_idiv hx hb dJ9_floorDiv_7cf53_2 hz ?_
  refine lv_istore_n (lv' := [(2, .int ((a0 / a1))), (0, .int (a0)), (1, .int (a1))]) hx hb dJ9_floorDiv_7cf53_3 rfl hl (by decide) rfl (fun ls hl => ?_)
  refine lv_iload_n hx hb dJ9_floorDiv_7cf53_4 rfl (lv_at hl 1 rfl) ?_
  refine lv_iload_n hx hb dJ9_floorDiv_7cf53_5 rfl (lv_at hl 2 rfl) ?_
  refine lv_ixor hx hb dJ9_floorDiv_7cf53_6 ?_
  refine lv_if_ge (tgt := 21) hx hb dJ9_floorDiv_7cf53_7 (by decide) (fun c_1 => ?_) (fun c_1 => ?_)
  · refine lv_iload_n hx hb dJ9_floorDiv_7cf53_21 rfl (lv_at hl 0 rfl) ?_
    exact W.iret (v := (a0 / a1)) hx hb hr (fun t ht _ => ⟨(a0 / a1), rfl, by unfold fnJ9_floorDiv_7cf53; rw [if_pos c_1], ht⟩) (fun q h => absurd h List.not_mem_nil) dJ9_floorDiv_7cf53_22
  · refine lv_iload_n hx hb dJ9_floorDiv_7cf53_10 rfl (lv_at hl 0 rfl) ?_
    refine lv_iload_n hx hb dJ9_floorDiv_7cf53_11 rfl (lv_at hl 2 rfl) ?_
    refine lv_imul hx hb dJ9_floorDiv_7cf53_12 ?_
    refine lv_iload_n hx hb dJ9_floorDiv_7cf53_13 rfl (lv_at hl 1 rfl) ?_
    refine lv_icmp_eq (tgt := 21) hx hb dJ9_floorDiv_7cf53_14 (by decide) (fun c_2 => ?_) (fun c_2 => ?_)
    · refine lv_iload_n hx hb dJ9_floorDiv_7cf53_21 rfl (lv_at hl 0 rfl) ?_
      exact W.iret (v := (a0 / a1)) hx hb hr (fun t ht _ => ⟨(a0 / a1), rfl, by unfold fnJ9_floorDiv_7cf53; rw [if_neg c_1, if_pos c_2], ht⟩) (fun q h => absurd h List.not_mem_nil) dJ9_floorDiv_7cf53_22
    · refine lv_iload_n hx hb dJ9_floorDiv_7cf53_17 rfl (lv_at hl 0 rfl) ?_
      refine lv_iconst (v := 1) hx hb dJ9_floorDiv_7cf53_18 (by decide) ?_
      refine lv_isub hx hb dJ9_floorDiv_7cf53_19 ?_
      exact W.iret (v := ((a0 / a1) - (1 : Int32))) hx hb hr (fun t ht _ => ⟨((a0 / a1) - (1 : Int32)), rfl, by unfold fnJ9_floorDiv_7cf53; rw [if_neg c_1, if_neg c_2], ht⟩) (fun q h => absurd h List.not_mem_nil) dJ9_floorDiv_7cf53_20

def fnX0_saturated (a0 : Int64) : Int32 := (if (if a0 < (32767 : Int64) then a0 else (32767 : Int64)) < (-32768 : Int64) then (-32768 : Int64) else (if a0 < (32767 : Int64) then a0 else (32767 : Int64))).toInt32
set_option maxHeartbeats 4000000 in
set_option maxRecDepth 100000 in
theorem metX0_saturated (l : Launch) (a0 : Int64) : Met l yX0_saturated wsX0_saturated ({ frames := 1, cells := 0, slots := 0, locals := 17 }) (va_Pc [.long a0] (fun _ => True)) (vp_Si (fun r => r = fnX0_saturated a0)) 0 0 (fun _ => False) := by
  refine Met.ofW (cc := cX0_saturated) (maxL := 2) (ret := (some .int)) (by decide) rfl ?_
  intro p e s m args below meth c s₁ B hml hv
  obtain ⟨rfl, -⟩ := hv
  have hx := B.exec
  have hb := B.bytes
  have hr := B.returns
  have hts := atoms_spec (ws := wsX0_saturated) B.pre
  have hown : s.vm.findClass RX0 = some m.cls := findClass_of_methodNamed B.named
  have hlocks := B.notSynchronized
  have hl := lv_entry ([.long a0]) (n := 2) (Nat.le_of_ble_eq_true rfl)
  rw [lg_entry_eq]
  generalize (lg_sl ([.long a0]) ++ List.replicate (2 - (lg_sl ([.long a0])).length) Slot.unset).toArray = ls at hl ⊢
  have hl : lv_has ls 2 [(0, .long (a0))] := hl
  refine lv_ldc2 (v := (-32768)) hx hb hown (hts (.constantLong RX0 94 (-32768)) (by decide +kernel)) dX0_saturated_0 ?_
  refine lv_ldc2 (v := 32767) hx hb hown (hts (.constantLong RX0 96 (32767)) (by decide +kernel)) dX0_saturated_3 ?_
  refine lv_lload_n hx hb dX0_saturated_6 rfl (lv_at hl 0 rfl) ?_
  refine va_mmin_long hx hb (hml.trans hl.1.symm) hown (hts (.methodLink RX0 98 Lib.MathLoose.min_long.x) (by decide +kernel)) (hts (.static Lib.MathLoose.min_long.x) (by decide +kernel)) (hts (.initialized "java/lang/Math") (by decide +kernel)) (hts (.code Lib.MathLoose.min_long.x Lib.MathLoose.min_long.code 4 (some .long)) (by decide +kernel)) (Nat.le_of_ble_eq_true rfl) (Nat.le_of_ble_eq_true rfl) (Nat.zero_le _) (Nat.zero_le _) dX0_saturated_7 ?_
  refine va_mmax_long hx hb (hml.trans hl.1.symm) hown (hts (.methodLink RX0 102 Lib.MathLoose.max_long.x) (by decide +kernel)) (hts (.static Lib.MathLoose.max_long.x) (by decide +kernel)) (hts (.initialized "java/lang/Math") (by decide +kernel)) (hts (.code Lib.MathLoose.max_long.x Lib.MathLoose.max_long.code 4 (some .long)) (by decide +kernel)) (Nat.le_of_ble_eq_true rfl) (Nat.le_of_ble_eq_true rfl) (Nat.zero_le _) (Nat.zero_le _) dX0_saturated_10 ?_
  refine lv_l2i (v := (if (if a0 < (32767 : Int64) then a0 else (32767 : Int64)) < (-32768 : Int64) then (-32768 : Int64) else (if a0 < (32767 : Int64) then a0 else (32767 : Int64))).toInt32) hx hb dX0_saturated_13 rfl ?_
  exact W.iret (v := (if (if a0 < (32767 : Int64) then a0 else (32767 : Int64)) < (-32768 : Int64) then (-32768 : Int64) else (if a0 < (32767 : Int64) then a0 else (32767 : Int64))).toInt32) hx hb hr (fun t ht _ => ⟨(if (if a0 < (32767 : Int64) then a0 else (32767 : Int64)) < (-32768 : Int64) then (-32768 : Int64) else (if a0 < (32767 : Int64) then a0 else (32767 : Int64))).toInt32, rfl, rfl, ht⟩) (fun q h => absurd h List.not_mem_nil) dX0_saturated_14

def fnX0_sampleByA (a0 : Int32) : Int32 := if (fnX0_segmentIn (a0 ^^^ (85 : Int32))) = 0 then (if ((a0 ^^^ (85 : Int32)) &&& (128 : Int32)) = 0 then ((-(((16 : Int32) * (fnX0_stepIn (a0 ^^^ (85 : Int32)))) + (8 : Int32)))) else ((((16 : Int32) * (fnX0_stepIn (a0 ^^^ (85 : Int32)))) + (8 : Int32)))) else (if ((a0 ^^^ (85 : Int32)) &&& (128 : Int32)) = 0 then ((-((((16 : Int32) * (fnX0_stepIn (a0 ^^^ (85 : Int32)))) + (264 : Int32)) <<< (((fnX0_segmentIn (a0 ^^^ (85 : Int32))) - (1 : Int32)) &&& 31)))) else (((((16 : Int32) * (fnX0_stepIn (a0 ^^^ (85 : Int32)))) + (264 : Int32)) <<< (((fnX0_segmentIn (a0 ^^^ (85 : Int32))) - (1 : Int32)) &&& 31))))
set_option maxHeartbeats 4000000 in
set_option maxRecDepth 100000 in
theorem metX0_sampleByA (l : Launch) (a0 : Int32) : Met l yX0_sampleByA wsX0_sampleByA ({ frames := 1, cells := 0, slots := 0, locals := 20 }) (va_Pc [.int a0] (fun _ => True)) (vp_Si (fun r => r = fnX0_sampleByA a0)) 0 0 (fun _ => False) := by
  refine Met.ofW (cc := cX0_sampleByA) (maxL := 5) (ret := (some .int)) (by decide) rfl ?_
  intro p e s m args below meth c s₁ B hml hv
  obtain ⟨rfl, -⟩ := hv
  have hx := B.exec
  have hb := B.bytes
  have hr := B.returns
  have hts := atoms_spec (ws := wsX0_sampleByA) B.pre
  have hown : s.vm.findClass RX0 = some m.cls := findClass_of_methodNamed B.named
  have hlocks := B.notSynchronized
  have hl := lv_entry ([.int a0]) (n := 5) (Nat.le_of_ble_eq_true rfl)
  rw [lg_entry_eq]
  generalize (lg_sl ([.int a0]) ++ List.replicate (5 - (lg_sl ([.int a0])).length) Slot.unset).toArray = ls at hl ⊢
  have hl : lv_has ls 5 [(0, .int (a0))] := hl
  refine lv_iload_n hx hb dX0_sampleByA_0 rfl (lv_at hl 0 rfl) ?_
  refine lv_bipush (v := 85) hx hb dX0_sampleByA_1 (by decide) ?_
  refine lv_ixor hx hb dX0_sampleByA_3 ?_
  refine lv_istore_n (lv' := [(1, .int ((a0 ^^^ (85 : Int32)))), (0, .int (a0))]) hx hb dX0_sampleByA_4 rfl hl (by decide) rfl (fun ls hl => ?_)
  refine lv_iload_n hx hb dX0_sampleByA_5 rfl (lv_at hl 0 rfl) ?_
  refine vp_callSi (W.runS (As := [.int ((a0 ^^^ (85 : Int32)))]) (rest := []) ⟨hx, hb, hml, hown, hts⟩ (metX0_segmentIn l (a0 ^^^ (85 : Int32))) (va_cwS 1 hts gX0_sampleByA_X0_segmentIn rfl rfl rfl (by decide +kernel) ⟨(Nat.le_of_ble_eq_true rfl), (Nat.le_of_ble_eq_true rfl)⟩) ⟨fun a U g mk q => q, fun U hU hW => ⟨rfl, trivial⟩⟩ rfl rfl hl.1 rfl (lv_room (Nat.le_of_ble_eq_true rfl)) dX0_sampleByA_6 ⟨(Nat.zero_le _), (Nat.zero_le _)⟩) (fun r_1 er_1 => ?_)
  subst er_1
  refine lv_istore_n (lv' := [(2, .int ((fnX0_segmentIn (a0 ^^^ (85 : Int32))))), (1, .int ((a0 ^^^ (85 : Int32)))), (0, .int (a0))]) hx hb dX0_sampleByA_9 rfl hl (by decide) rfl (fun ls hl => ?_)
  refine lv_bipush (v := 16) hx hb dX0_sampleByA_10 (by decide) ?_
  refine lv_iload_n hx hb dX0_sampleByA_12 rfl (lv_at hl 1 rfl) ?_
  refine vp_callSi (W.runS (As := [.int ((a0 ^^^ (85 : Int32)))]) (rest := [.int (16)]) ⟨hx, hb, hml, hown, hts⟩ (metX0_stepIn l (a0 ^^^ (85 : Int32))) (va_cwS 1 hts gX0_sampleByA_X0_stepIn rfl rfl rfl (by decide +kernel) ⟨(Nat.le_of_ble_eq_true rfl), (Nat.le_of_ble_eq_true rfl)⟩) ⟨fun a U g mk q => q, fun U hU hW => ⟨rfl, trivial⟩⟩ rfl rfl hl.1 rfl (lv_room (Nat.le_of_ble_eq_true rfl)) dX0_sampleByA_13 ⟨(Nat.zero_le _), (Nat.zero_le _)⟩) (fun r_2 er_2 => ?_)
  subst er_2
  refine lv_imul hx hb dX0_sampleByA_16 ?_
  refine lv_istore_n (lv' := [(3, .int (((16 : Int32) * (fnX0_stepIn (a0 ^^^ (85 : Int32)))))), (2, .int ((fnX0_segmentIn (a0 ^^^ (85 : Int32))))), (1, .int ((a0 ^^^ (85 : Int32)))), (0, .int (a0))]) hx hb dX0_sampleByA_17 rfl hl (by decide) rfl (fun ls hl => ?_)
  refine lv_iload_n hx hb dX0_sampleByA_18 rfl (lv_at hl 1 rfl) ?_
  refine lv_if_ne (tgt := 29) hx hb dX0_sampleByA_19 (by decide) (fun c_3 => ?_) (fun c_3 => ?_)
  · refine lv_iload_n hx hb dX0_sampleByA_29 rfl (lv_at hl 0 rfl) ?_
    refine lv_sipush (v := 264) hx hb dX0_sampleByA_30 (by decide) ?_
    refine lv_iadd hx hb dX0_sampleByA_33 ?_
    refine lv_iload_n hx hb dX0_sampleByA_34 rfl (lv_at hl 1 rfl) ?_
    refine lv_iconst (v := 1) hx hb dX0_sampleByA_35 (by decide) ?_
    refine lv_isub hx hb dX0_sampleByA_36 ?_
    refine lv_ishl hx hb dX0_sampleByA_37 ?_
    refine lv_istore (lv' := [(4, .int (((((16 : Int32) * (fnX0_stepIn (a0 ^^^ (85 : Int32)))) + (264 : Int32)) <<< (((fnX0_segmentIn (a0 ^^^ (85 : Int32))) - (1 : Int32)) &&& 31)))), (3, .int (((16 : Int32) * (fnX0_stepIn (a0 ^^^ (85 : Int32)))))), (2, .int ((fnX0_segmentIn (a0 ^^^ (85 : Int32))))), (1, .int ((a0 ^^^ (85 : Int32)))), (0, .int (a0))]) hx hb dX0_sampleByA_38 hl (by decide) rfl (fun ls hl => ?_)
    refine lv_iload_n hx hb dX0_sampleByA_40 rfl (lv_at hl 3 rfl) ?_
    refine lv_sipush (v := 128) hx hb dX0_sampleByA_41 (by decide) ?_
    refine lv_iand hx hb dX0_sampleByA_44 ?_
    refine lv_if_eq (tgt := 53) hx hb dX0_sampleByA_45 (by decide) (fun c_4 => ?_) (fun c_4 => ?_)
    · refine lv_iload hx hb dX0_sampleByA_53 (lv_at hl 0 rfl) ?_
      refine lv_ineg hx hb dX0_sampleByA_55 ?_
      exact W.iret (v := (-((((16 : Int32) * (fnX0_stepIn (a0 ^^^ (85 : Int32)))) + (264 : Int32)) <<< (((fnX0_segmentIn (a0 ^^^ (85 : Int32))) - (1 : Int32)) &&& 31)))) hx hb hr (fun t ht _ => ⟨(-((((16 : Int32) * (fnX0_stepIn (a0 ^^^ (85 : Int32)))) + (264 : Int32)) <<< (((fnX0_segmentIn (a0 ^^^ (85 : Int32))) - (1 : Int32)) &&& 31))), rfl, by unfold fnX0_sampleByA; rw [if_neg c_3, if_pos c_4], ht⟩) (fun q h => absurd h List.not_mem_nil) dX0_sampleByA_56
    · refine lv_iload hx hb dX0_sampleByA_48 (lv_at hl 0 rfl) ?_
      refine lv_goto (tgt := 56) hx hb dX0_sampleByA_50 (by decide) ?_
      exact W.iret (v := ((((16 : Int32) * (fnX0_stepIn (a0 ^^^ (85 : Int32)))) + (264 : Int32)) <<< (((fnX0_segmentIn (a0 ^^^ (85 : Int32))) - (1 : Int32)) &&& 31))) hx hb hr (fun t ht _ => ⟨((((16 : Int32) * (fnX0_stepIn (a0 ^^^ (85 : Int32)))) + (264 : Int32)) <<< (((fnX0_segmentIn (a0 ^^^ (85 : Int32))) - (1 : Int32)) &&& 31)), rfl, by unfold fnX0_sampleByA; rw [if_neg c_3, if_neg c_4], ht⟩) (fun q h => absurd h List.not_mem_nil) dX0_sampleByA_56
  · refine lv_iload_n hx hb dX0_sampleByA_22 rfl (lv_at hl 0 rfl) ?_
    refine lv_bipush (v := 8) hx hb dX0_sampleByA_23 (by decide) ?_
    refine lv_iadd hx hb dX0_sampleByA_25 ?_
    refine lv_goto (tgt := 38) hx hb dX0_sampleByA_26 (by decide) ?_
    refine lv_istore (lv' := [(4, .int ((((16 : Int32) * (fnX0_stepIn (a0 ^^^ (85 : Int32)))) + (8 : Int32)))), (3, .int (((16 : Int32) * (fnX0_stepIn (a0 ^^^ (85 : Int32)))))), (2, .int ((fnX0_segmentIn (a0 ^^^ (85 : Int32))))), (1, .int ((a0 ^^^ (85 : Int32)))), (0, .int (a0))]) hx hb dX0_sampleByA_38 hl (by decide) rfl (fun ls hl => ?_)
    refine lv_iload_n hx hb dX0_sampleByA_40 rfl (lv_at hl 3 rfl) ?_
    refine lv_sipush (v := 128) hx hb dX0_sampleByA_41 (by decide) ?_
    refine lv_iand hx hb dX0_sampleByA_44 ?_
    refine lv_if_eq (tgt := 53) hx hb dX0_sampleByA_45 (by decide) (fun c_5 => ?_) (fun c_5 => ?_)
    · refine lv_iload hx hb dX0_sampleByA_53 (lv_at hl 0 rfl) ?_
      refine lv_ineg hx hb dX0_sampleByA_55 ?_
      exact W.iret (v := (-(((16 : Int32) * (fnX0_stepIn (a0 ^^^ (85 : Int32)))) + (8 : Int32)))) hx hb hr (fun t ht _ => ⟨(-(((16 : Int32) * (fnX0_stepIn (a0 ^^^ (85 : Int32)))) + (8 : Int32))), rfl, by unfold fnX0_sampleByA; rw [if_pos c_3, if_pos c_5], ht⟩) (fun q h => absurd h List.not_mem_nil) dX0_sampleByA_56
    · refine lv_iload hx hb dX0_sampleByA_48 (lv_at hl 0 rfl) ?_
      refine lv_goto (tgt := 56) hx hb dX0_sampleByA_50 (by decide) ?_
      exact W.iret (v := (((16 : Int32) * (fnX0_stepIn (a0 ^^^ (85 : Int32)))) + (8 : Int32))) hx hb hr (fun t ht _ => ⟨(((16 : Int32) * (fnX0_stepIn (a0 ^^^ (85 : Int32)))) + (8 : Int32)), rfl, by unfold fnX0_sampleByA; rw [if_pos c_3, if_neg c_5], ht⟩) (fun q h => absurd h List.not_mem_nil) dX0_sampleByA_56

def fnX0_sampleByMu (a0 : Int32) : Int32 := if ((a0 ^^^ (255 : Int32)) &&& (128 : Int32)) = 0 then ((((((8 : Int32) * (fnX0_stepIn (a0 ^^^ (255 : Int32)))) + (132 : Int32)) <<< ((fnX0_segmentIn (a0 ^^^ (255 : Int32))) &&& 31)) - (132 : Int32))) else ((-(((((8 : Int32) * (fnX0_stepIn (a0 ^^^ (255 : Int32)))) + (132 : Int32)) <<< ((fnX0_segmentIn (a0 ^^^ (255 : Int32))) &&& 31)) - (132 : Int32))))
set_option maxHeartbeats 4000000 in
set_option maxRecDepth 100000 in
theorem metX0_sampleByMu (l : Launch) (a0 : Int32) : Met l yX0_sampleByMu wsX0_sampleByMu ({ frames := 1, cells := 0, slots := 0, locals := 20 }) (va_Pc [.int a0] (fun _ => True)) (vp_Si (fun r => r = fnX0_sampleByMu a0)) 0 0 (fun _ => False) := by
  refine Met.ofW (cc := cX0_sampleByMu) (maxL := 3) (ret := (some .int)) (by decide) rfl ?_
  intro p e s m args below meth c s₁ B hml hv
  obtain ⟨rfl, -⟩ := hv
  have hx := B.exec
  have hb := B.bytes
  have hr := B.returns
  have hts := atoms_spec (ws := wsX0_sampleByMu) B.pre
  have hown : s.vm.findClass RX0 = some m.cls := findClass_of_methodNamed B.named
  have hlocks := B.notSynchronized
  have hl := lv_entry ([.int a0]) (n := 3) (Nat.le_of_ble_eq_true rfl)
  rw [lg_entry_eq]
  generalize (lg_sl ([.int a0]) ++ List.replicate (3 - (lg_sl ([.int a0])).length) Slot.unset).toArray = ls at hl ⊢
  have hl : lv_has ls 3 [(0, .int (a0))] := hl
  refine lv_iload_n hx hb dX0_sampleByMu_0 rfl (lv_at hl 0 rfl) ?_
  refine lv_sipush (v := 255) hx hb dX0_sampleByMu_1 (by decide) ?_
  refine lv_ixor hx hb dX0_sampleByMu_4 ?_
  refine lv_istore_n (lv' := [(1, .int ((a0 ^^^ (255 : Int32)))), (0, .int (a0))]) hx hb dX0_sampleByMu_5 rfl hl (by decide) rfl (fun ls hl => ?_)
  refine lv_bipush (v := 8) hx hb dX0_sampleByMu_6 (by decide) ?_
  refine lv_iload_n hx hb dX0_sampleByMu_8 rfl (lv_at hl 0 rfl) ?_
  refine vp_callSi (W.runS (As := [.int ((a0 ^^^ (255 : Int32)))]) (rest := [.int (8)]) ⟨hx, hb, hml, hown, hts⟩ (metX0_stepIn l (a0 ^^^ (255 : Int32))) (va_cwS 1 hts gX0_sampleByMu_X0_stepIn rfl rfl rfl (by decide +kernel) ⟨(Nat.le_of_ble_eq_true rfl), (Nat.le_of_ble_eq_true rfl)⟩) ⟨fun a U g mk q => q, fun U hU hW => ⟨rfl, trivial⟩⟩ rfl rfl hl.1 rfl (lv_room (Nat.le_of_ble_eq_true rfl)) dX0_sampleByMu_9 ⟨(Nat.zero_le _), (Nat.zero_le _)⟩) (fun r_1 er_1 => ?_)
  subst er_1
  refine lv_imul hx hb dX0_sampleByMu_12 ?_
  refine lv_sipush (v := 132) hx hb dX0_sampleByMu_13 (by decide) ?_
  refine lv_iadd hx hb dX0_sampleByMu_16 ?_
  refine lv_iload_n hx hb dX0_sampleByMu_17 rfl (lv_at hl 0 rfl) ?_
  refine vp_callSi (W.runS (As := [.int ((a0 ^^^ (255 : Int32)))]) (rest := [.int ((((8 : Int32) * (fnX0_stepIn (a0 ^^^ (255 : Int32)))) + (132 : Int32)))]) ⟨hx, hb, hml, hown, hts⟩ (metX0_segmentIn l (a0 ^^^ (255 : Int32))) (va_cwS 1 hts gX0_sampleByMu_X0_segmentIn rfl rfl rfl (by decide +kernel) ⟨(Nat.le_of_ble_eq_true rfl), (Nat.le_of_ble_eq_true rfl)⟩) ⟨fun a U g mk q => q, fun U hU hW => ⟨rfl, trivial⟩⟩ rfl rfl hl.1 rfl (lv_room (Nat.le_of_ble_eq_true rfl)) dX0_sampleByMu_18 ⟨(Nat.zero_le _), (Nat.zero_le _)⟩) (fun r_2 er_2 => ?_)
  subst er_2
  refine lv_ishl hx hb dX0_sampleByMu_21 ?_
  refine lv_sipush (v := 132) hx hb dX0_sampleByMu_22 (by decide) ?_
  refine lv_isub hx hb dX0_sampleByMu_25 ?_
  refine lv_istore_n (lv' := [(2, .int ((((((8 : Int32) * (fnX0_stepIn (a0 ^^^ (255 : Int32)))) + (132 : Int32)) <<< ((fnX0_segmentIn (a0 ^^^ (255 : Int32))) &&& 31)) - (132 : Int32)))), (1, .int ((a0 ^^^ (255 : Int32)))), (0, .int (a0))]) hx hb dX0_sampleByMu_26 rfl hl (by decide) rfl (fun ls hl => ?_)
  refine lv_iload_n hx hb dX0_sampleByMu_27 rfl (lv_at hl 1 rfl) ?_
  refine lv_sipush (v := 128) hx hb dX0_sampleByMu_28 (by decide) ?_
  refine lv_iand hx hb dX0_sampleByMu_31 ?_
  refine lv_if_eq (tgt := 40) hx hb dX0_sampleByMu_32 (by decide) (fun c_3 => ?_) (fun c_3 => ?_)
  · refine lv_iload_n hx hb dX0_sampleByMu_40 rfl (lv_at hl 0 rfl) ?_
    exact W.iret (v := (((((8 : Int32) * (fnX0_stepIn (a0 ^^^ (255 : Int32)))) + (132 : Int32)) <<< ((fnX0_segmentIn (a0 ^^^ (255 : Int32))) &&& 31)) - (132 : Int32))) hx hb hr (fun t ht _ => ⟨(((((8 : Int32) * (fnX0_stepIn (a0 ^^^ (255 : Int32)))) + (132 : Int32)) <<< ((fnX0_segmentIn (a0 ^^^ (255 : Int32))) &&& 31)) - (132 : Int32)), rfl, by unfold fnX0_sampleByMu; rw [if_pos c_3], ht⟩) (fun q h => absurd h List.not_mem_nil) dX0_sampleByMu_41
  · refine lv_iload_n hx hb dX0_sampleByMu_35 rfl (lv_at hl 0 rfl) ?_
    refine lv_ineg hx hb dX0_sampleByMu_36 ?_
    refine lv_goto (tgt := 41) hx hb dX0_sampleByMu_37 (by decide) ?_
    exact W.iret (v := (-(((((8 : Int32) * (fnX0_stepIn (a0 ^^^ (255 : Int32)))) + (132 : Int32)) <<< ((fnX0_segmentIn (a0 ^^^ (255 : Int32))) &&& 31)) - (132 : Int32)))) hx hb hr (fun t ht _ => ⟨(-(((((8 : Int32) * (fnX0_stepIn (a0 ^^^ (255 : Int32)))) + (132 : Int32)) <<< ((fnX0_segmentIn (a0 ^^^ (255 : Int32))) &&& 31)) - (132 : Int32))), rfl, by unfold fnX0_sampleByMu; rw [if_neg c_3], ht⟩) (fun q h => absurd h List.not_mem_nil) dX0_sampleByMu_41

def fnX0_sampleOf (a0 : Int32) (a1 : Int32) : Int32 := if a0 = 0 then ((fnX0_sampleByA a1)) else ((fnX0_sampleByMu a1))
set_option maxHeartbeats 4000000 in
set_option maxRecDepth 100000 in
theorem metX0_sampleOf (l : Launch) (a0 : Int32) (a1 : Int32) : Met l yX0_sampleOf wsX0_sampleOf ({ frames := 2, cells := 0, slots := 0, locals := 44 }) (va_Pc [.int a0, .int a1] (fun _ => True)) (vp_Si (fun r => r = fnX0_sampleOf a0 a1)) 0 0 (fun _ => False) := by
  refine Met.ofW (cc := cX0_sampleOf) (maxL := 2) (ret := (some .int)) (by decide) rfl ?_
  intro p e s m args below meth c s₁ B hml hv
  obtain ⟨rfl, -⟩ := hv
  have hx := B.exec
  have hb := B.bytes
  have hr := B.returns
  have hts := atoms_spec (ws := wsX0_sampleOf) B.pre
  have hown : s.vm.findClass RX0 = some m.cls := findClass_of_methodNamed B.named
  have hlocks := B.notSynchronized
  have hl := lv_entry ([.int a0, .int a1]) (n := 2) (Nat.le_of_ble_eq_true rfl)
  rw [lg_entry_eq]
  generalize (lg_sl ([.int a0, .int a1]) ++ List.replicate (2 - (lg_sl ([.int a0, .int a1])).length) Slot.unset).toArray = ls at hl ⊢
  have hl : lv_has ls 2 [(0, .int (a0)), (1, .int (a1))] := hl
  refine lv_iload_n hx hb dX0_sampleOf_0 rfl (lv_at hl 0 rfl) ?_
  refine lv_if_ne (tgt := 11) hx hb dX0_sampleOf_1 (by decide) (fun c_1 => ?_) (fun c_1 => ?_)
  · refine lv_iload_n hx hb dX0_sampleOf_11 rfl (lv_at hl 1 rfl) ?_
    refine vp_callSi (W.runS (As := [.int (a1)]) (rest := []) ⟨hx, hb, hml, hown, hts⟩ (metX0_sampleByMu l a1) (va_cwS 1 hts gX0_sampleOf_X0_sampleByMu rfl rfl rfl (by decide +kernel) ⟨(Nat.le_of_ble_eq_true rfl), (Nat.le_of_ble_eq_true rfl)⟩) ⟨fun a U g mk q => q, fun U hU hW => ⟨rfl, trivial⟩⟩ rfl rfl hl.1 rfl (lv_room (Nat.le_of_ble_eq_true rfl)) dX0_sampleOf_12 ⟨(Nat.zero_le _), (Nat.zero_le _)⟩) (fun r_2 er_2 => ?_)
    subst er_2
    exact W.iret (v := (fnX0_sampleByMu a1)) hx hb hr (fun t ht _ => ⟨(fnX0_sampleByMu a1), rfl, by unfold fnX0_sampleOf; rw [if_neg c_1], ht⟩) (fun q h => absurd h List.not_mem_nil) dX0_sampleOf_15
  · refine lv_iload_n hx hb dX0_sampleOf_4 rfl (lv_at hl 1 rfl) ?_
    refine vp_callSi (W.runS (As := [.int (a1)]) (rest := []) ⟨hx, hb, hml, hown, hts⟩ (metX0_sampleByA l a1) (va_cwS 1 hts gX0_sampleOf_X0_sampleByA rfl rfl rfl (by decide +kernel) ⟨(Nat.le_of_ble_eq_true rfl), (Nat.le_of_ble_eq_true rfl)⟩) ⟨fun a U g mk q => q, fun U hU hW => ⟨rfl, trivial⟩⟩ rfl rfl hl.1 rfl (lv_room (Nat.le_of_ble_eq_true rfl)) dX0_sampleOf_5 ⟨(Nat.zero_le _), (Nat.zero_le _)⟩) (fun r_3 er_3 => ?_)
    subst er_3
    refine lv_goto (tgt := 15) hx hb dX0_sampleOf_8 (by decide) ?_
    exact W.iret (v := (fnX0_sampleByA a1)) hx hb hr (fun t ht _ => ⟨(fnX0_sampleByA a1), rfl, by unfold fnX0_sampleOf; rw [if_pos c_1], ht⟩) (fun q h => absurd h List.not_mem_nil) dX0_sampleOf_15

def fnX0_codeByA (a0 : Int32) : Int32 := if 0 ≤ a0 then (if 16 ≤ (a0 / (16 : Int32)) then (if (((fnX0_highestPlace (a0 / (16 : Int32))) - (4 : Int32)) + (1 : Int32)) = 0 then (((((128 : Int32) ||| ((((fnX0_highestPlace (a0 / (16 : Int32))) - (4 : Int32)) + (1 : Int32)) <<< ((4 : Int32) &&& 31))) ||| ((a0 / (16 : Int32)) &&& (15 : Int32))) ^^^ (85 : Int32))) else (((((128 : Int32) ||| ((((fnX0_highestPlace (a0 / (16 : Int32))) - (4 : Int32)) + (1 : Int32)) <<< ((4 : Int32) &&& 31))) ||| (((a0 / (16 : Int32)) >>> (((((fnX0_highestPlace (a0 / (16 : Int32))) - (4 : Int32)) + (1 : Int32)) - (1 : Int32)) &&& 31)) &&& (15 : Int32))) ^^^ (85 : Int32)))) else (((((128 : Int32) ||| ((0 : Int32) <<< ((4 : Int32) &&& 31))) ||| ((a0 / (16 : Int32)) &&& (15 : Int32))) ^^^ (85 : Int32)))) else (if 16 ≤ (((-1 : Int32) - a0) / (16 : Int32)) then (if (((fnX0_highestPlace (((-1 : Int32) - a0) / (16 : Int32))) - (4 : Int32)) + (1 : Int32)) = 0 then (((((0 : Int32) ||| ((((fnX0_highestPlace (((-1 : Int32) - a0) / (16 : Int32))) - (4 : Int32)) + (1 : Int32)) <<< ((4 : Int32) &&& 31))) ||| ((((-1 : Int32) - a0) / (16 : Int32)) &&& (15 : Int32))) ^^^ (85 : Int32))) else (((((0 : Int32) ||| ((((fnX0_highestPlace (((-1 : Int32) - a0) / (16 : Int32))) - (4 : Int32)) + (1 : Int32)) <<< ((4 : Int32) &&& 31))) ||| (((((-1 : Int32) - a0) / (16 : Int32)) >>> (((((fnX0_highestPlace (((-1 : Int32) - a0) / (16 : Int32))) - (4 : Int32)) + (1 : Int32)) - (1 : Int32)) &&& 31)) &&& (15 : Int32))) ^^^ (85 : Int32)))) else (((((0 : Int32) ||| ((0 : Int32) <<< ((4 : Int32) &&& 31))) ||| ((((-1 : Int32) - a0) / (16 : Int32)) &&& (15 : Int32))) ^^^ (85 : Int32))))
set_option maxHeartbeats 4000000 in
set_option maxRecDepth 100000 in
theorem metX0_codeByA (l : Launch) (a0 : Int32) : Met l yX0_codeByA wsX0_codeByA ({ frames := 2, cells := 0, slots := 0, locals := 41 }) (va_Pc [.int a0] (fun _ => True)) (vp_Si (fun r => r = fnX0_codeByA a0)) 0 0 (fun _ => False) := by
  refine Met.ofW (cc := cX0_codeByA) (maxL := 5) (ret := (some .int)) (by decide) rfl ?_
  intro p e s m args below meth c s₁ B hml hv
  obtain ⟨rfl, -⟩ := hv
  have hx := B.exec
  have hb := B.bytes
  have hr := B.returns
  have hts := atoms_spec (ws := wsX0_codeByA) B.pre
  have hown : s.vm.findClass RX0 = some m.cls := findClass_of_methodNamed B.named
  have hlocks := B.notSynchronized
  have hl := lv_entry ([.int a0]) (n := 5) (Nat.le_of_ble_eq_true rfl)
  rw [lg_entry_eq]
  generalize (lg_sl ([.int a0]) ++ List.replicate (5 - (lg_sl ([.int a0])).length) Slot.unset).toArray = ls at hl ⊢
  have hl : lv_has ls 5 [(0, .int (a0))] := hl
  refine lv_iload_n hx hb dX0_codeByA_0 rfl (lv_at hl 0 rfl) ?_
  refine lv_if_ge (tgt := 10) hx hb dX0_codeByA_1 (by decide) (fun c_1 => ?_) (fun c_1 => ?_)
  · refine lv_iload_n hx hb dX0_codeByA_10 rfl (lv_at hl 0 rfl) ?_
    refine lv_bipush (v := 16) hx hb dX0_codeByA_11 (by decide) ?_
    refine lv_idiv hx hb dX0_codeByA_13 (by decide) ?_
    refine lv_istore_n (lv' := [(1, .int ((a0 / (16 : Int32)))), (0, .int (a0))]) hx hb dX0_codeByA_14 rfl hl (by decide) rfl (fun ls hl => ?_)
    refine lv_iload_n hx hb dX0_codeByA_15 rfl (lv_at hl 0 rfl) ?_
    refine lv_bipush (v := 16) hx hb dX0_codeByA_16 (by decide) ?_
    refine lv_icmp_ge (tgt := 25) hx hb dX0_codeByA_18 (by decide) (fun c_2 => ?_) (fun c_2 => ?_)
    · refine lv_iload_n hx hb dX0_codeByA_25 rfl (lv_at hl 0 rfl) ?_
      refine vp_callSi (W.runS (As := [.int ((a0 / (16 : Int32)))]) (rest := []) ⟨hx, hb, hml, hown, hts⟩ (metX0_highestPlace l (a0 / (16 : Int32))) (va_cwS 1 hts gX0_codeByA_X0_highestPlace rfl rfl rfl (by decide +kernel) ⟨(Nat.le_of_ble_eq_true rfl), (Nat.le_of_ble_eq_true rfl)⟩) ⟨fun a U g mk q => q, fun U hU hW => ⟨rfl, trivial⟩⟩ rfl rfl hl.1 rfl (lv_room (Nat.le_of_ble_eq_true rfl)) dX0_codeByA_26 ⟨(Nat.zero_le _), (Nat.zero_le _)⟩) (fun r_3 er_3 => ?_)
      subst er_3
      refine lv_iconst (v := 4) hx hb dX0_codeByA_29 (by decide) ?_
      refine lv_isub hx hb dX0_codeByA_30 ?_
      refine lv_iconst (v := 1) hx hb dX0_codeByA_31 (by decide) ?_
      refine lv_iadd hx hb dX0_codeByA_32 ?_
      refine lv_istore_n (lv' := [(2, .int ((((fnX0_highestPlace (a0 / (16 : Int32))) - (4 : Int32)) + (1 : Int32)))), (1, .int ((a0 / (16 : Int32)))), (0, .int (a0))]) hx hb dX0_codeByA_33 rfl hl (by decide) rfl (fun ls hl => ?_)
      refine lv_iload_n hx hb dX0_codeByA_34 rfl (lv_at hl 0 rfl) ?_
      refine lv_if_ne (tgt := 42) hx hb dX0_codeByA_35 (by decide) (fun c_4 => ?_) (fun c_4 => ?_)
      · refine lv_iload_n hx hb dX0_codeByA_42 rfl (lv_at hl 1 rfl) ?_
        refine lv_iload_n hx hb dX0_codeByA_43 rfl (lv_at hl 0 rfl) ?_
        refine lv_iconst (v := 1) hx hb dX0_codeByA_44 (by decide) ?_
        refine lv_isub hx hb dX0_codeByA_45 ?_
        refine lv_ishr hx hb dX0_codeByA_46 ?_
        refine lv_bipush (v := 15) hx hb dX0_codeByA_47 (by decide) ?_
        refine lv_iand hx hb dX0_codeByA_49 ?_
        refine lv_istore_n (lv' := [(3, .int ((((a0 / (16 : Int32)) >>> (((((fnX0_highestPlace (a0 / (16 : Int32))) - (4 : Int32)) + (1 : Int32)) - (1 : Int32)) &&& 31)) &&& (15 : Int32)))), (2, .int ((((fnX0_highestPlace (a0 / (16 : Int32))) - (4 : Int32)) + (1 : Int32)))), (1, .int ((a0 / (16 : Int32)))), (0, .int (a0))]) hx hb dX0_codeByA_50 rfl hl (by decide) rfl (fun ls hl => ?_)
        refine lv_iload_n hx hb dX0_codeByA_51 rfl (lv_at hl 3 rfl) ?_
        refine lv_if_ge (tgt := 59) hx hb dX0_codeByA_52 (by decide) (fun _ => ?_) (fun c9 => absurd c_1 c9)
        refine lv_sipush (v := 128) hx hb dX0_codeByA_59 (by decide) ?_
        refine lv_istore (lv' := [(4, .int (128)), (3, .int ((((a0 / (16 : Int32)) >>> (((((fnX0_highestPlace (a0 / (16 : Int32))) - (4 : Int32)) + (1 : Int32)) - (1 : Int32)) &&& 31)) &&& (15 : Int32)))), (2, .int ((((fnX0_highestPlace (a0 / (16 : Int32))) - (4 : Int32)) + (1 : Int32)))), (1, .int ((a0 / (16 : Int32)))), (0, .int (a0))]) hx hb dX0_codeByA_62 hl (by decide) rfl (fun ls hl => ?_)
        refine lv_iload hx hb dX0_codeByA_64 (lv_at hl 0 rfl) ?_
        refine lv_iload_n hx hb dX0_codeByA_66 rfl (lv_at hl 2 rfl) ?_
        refine lv_iconst (v := 4) hx hb dX0_codeByA_67 (by decide) ?_
        refine lv_ishl hx hb dX0_codeByA_68 ?_
        refine lv_ior hx hb dX0_codeByA_69 ?_
        refine lv_iload_n hx hb dX0_codeByA_70 rfl (lv_at hl 1 rfl) ?_
        refine lv_ior hx hb dX0_codeByA_71 ?_
        refine lv_bipush (v := 85) hx hb dX0_codeByA_72 (by decide) ?_
        refine lv_ixor hx hb dX0_codeByA_74 ?_
        exact W.iret (v := ((((128 : Int32) ||| ((((fnX0_highestPlace (a0 / (16 : Int32))) - (4 : Int32)) + (1 : Int32)) <<< ((4 : Int32) &&& 31))) ||| (((a0 / (16 : Int32)) >>> (((((fnX0_highestPlace (a0 / (16 : Int32))) - (4 : Int32)) + (1 : Int32)) - (1 : Int32)) &&& 31)) &&& (15 : Int32))) ^^^ (85 : Int32))) hx hb hr (fun t ht _ => ⟨((((128 : Int32) ||| ((((fnX0_highestPlace (a0 / (16 : Int32))) - (4 : Int32)) + (1 : Int32)) <<< ((4 : Int32) &&& 31))) ||| (((a0 / (16 : Int32)) >>> (((((fnX0_highestPlace (a0 / (16 : Int32))) - (4 : Int32)) + (1 : Int32)) - (1 : Int32)) &&& 31)) &&& (15 : Int32))) ^^^ (85 : Int32)), rfl, by unfold fnX0_codeByA; rw [if_pos c_1, if_pos c_2, if_neg c_4], ht⟩) (fun q h => absurd h List.not_mem_nil) dX0_codeByA_75
      · refine lv_iload_n hx hb dX0_codeByA_38 rfl (lv_at hl 1 rfl) ?_
        refine lv_goto (tgt := 47) hx hb dX0_codeByA_39 (by decide) ?_
        refine lv_bipush (v := 15) hx hb dX0_codeByA_47 (by decide) ?_
        refine lv_iand hx hb dX0_codeByA_49 ?_
        refine lv_istore_n (lv' := [(3, .int (((a0 / (16 : Int32)) &&& (15 : Int32)))), (2, .int ((((fnX0_highestPlace (a0 / (16 : Int32))) - (4 : Int32)) + (1 : Int32)))), (1, .int ((a0 / (16 : Int32)))), (0, .int (a0))]) hx hb dX0_codeByA_50 rfl hl (by decide) rfl (fun ls hl => ?_)
        refine lv_iload_n hx hb dX0_codeByA_51 rfl (lv_at hl 3 rfl) ?_
        refine lv_if_ge (tgt := 59) hx hb dX0_codeByA_52 (by decide) (fun _ => ?_) (fun c9 => absurd c_1 c9)
        refine lv_sipush (v := 128) hx hb dX0_codeByA_59 (by decide) ?_
        refine lv_istore (lv' := [(4, .int (128)), (3, .int (((a0 / (16 : Int32)) &&& (15 : Int32)))), (2, .int ((((fnX0_highestPlace (a0 / (16 : Int32))) - (4 : Int32)) + (1 : Int32)))), (1, .int ((a0 / (16 : Int32)))), (0, .int (a0))]) hx hb dX0_codeByA_62 hl (by decide) rfl (fun ls hl => ?_)
        refine lv_iload hx hb dX0_codeByA_64 (lv_at hl 0 rfl) ?_
        refine lv_iload_n hx hb dX0_codeByA_66 rfl (lv_at hl 2 rfl) ?_
        refine lv_iconst (v := 4) hx hb dX0_codeByA_67 (by decide) ?_
        refine lv_ishl hx hb dX0_codeByA_68 ?_
        refine lv_ior hx hb dX0_codeByA_69 ?_
        refine lv_iload_n hx hb dX0_codeByA_70 rfl (lv_at hl 1 rfl) ?_
        refine lv_ior hx hb dX0_codeByA_71 ?_
        refine lv_bipush (v := 85) hx hb dX0_codeByA_72 (by decide) ?_
        refine lv_ixor hx hb dX0_codeByA_74 ?_
        exact W.iret (v := ((((128 : Int32) ||| ((((fnX0_highestPlace (a0 / (16 : Int32))) - (4 : Int32)) + (1 : Int32)) <<< ((4 : Int32) &&& 31))) ||| ((a0 / (16 : Int32)) &&& (15 : Int32))) ^^^ (85 : Int32))) hx hb hr (fun t ht _ => ⟨((((128 : Int32) ||| ((((fnX0_highestPlace (a0 / (16 : Int32))) - (4 : Int32)) + (1 : Int32)) <<< ((4 : Int32) &&& 31))) ||| ((a0 / (16 : Int32)) &&& (15 : Int32))) ^^^ (85 : Int32)), rfl, by unfold fnX0_codeByA; rw [if_pos c_1, if_pos c_2, if_pos c_4], ht⟩) (fun q h => absurd h List.not_mem_nil) dX0_codeByA_75
    · refine lv_iconst (v := 0) hx hb dX0_codeByA_21 (by decide) ?_
      refine lv_goto (tgt := 33) hx hb dX0_codeByA_22 (by decide) ?_
      refine lv_istore_n (lv' := [(2, .int (0)), (1, .int ((a0 / (16 : Int32)))), (0, .int (a0))]) hx hb dX0_codeByA_33 rfl hl (by decide) rfl (fun ls hl => ?_)
      refine lv_iload_n hx hb dX0_codeByA_34 rfl (lv_at hl 0 rfl) ?_
      refine lv_if_ne (tgt := 42) hx hb dX0_codeByA_35 (by decide) (fun c9 => absurd c9 (by decide)) (fun _ => ?_)
      refine lv_iload_n hx hb dX0_codeByA_38 rfl (lv_at hl 1 rfl) ?_
      refine lv_goto (tgt := 47) hx hb dX0_codeByA_39 (by decide) ?_
      refine lv_bipush (v := 15) hx hb dX0_codeByA_47 (by decide) ?_
      refine lv_iand hx hb dX0_codeByA_49 ?_
      refine lv_istore_n (lv' := [(3, .int (((a0 / (16 : Int32)) &&& (15 : Int32)))), (2, .int (0)), (1, .int ((a0 / (16 : Int32)))), (0, .int (a0))]) hx hb dX0_codeByA_50 rfl hl (by decide) rfl (fun ls hl => ?_)
      refine lv_iload_n hx hb dX0_codeByA_51 rfl (lv_at hl 3 rfl) ?_
      refine lv_if_ge (tgt := 59) hx hb dX0_codeByA_52 (by decide) (fun _ => ?_) (fun c9 => absurd c_1 c9)
      refine lv_sipush (v := 128) hx hb dX0_codeByA_59 (by decide) ?_
      refine lv_istore (lv' := [(4, .int (128)), (3, .int (((a0 / (16 : Int32)) &&& (15 : Int32)))), (2, .int (0)), (1, .int ((a0 / (16 : Int32)))), (0, .int (a0))]) hx hb dX0_codeByA_62 hl (by decide) rfl (fun ls hl => ?_)
      refine lv_iload hx hb dX0_codeByA_64 (lv_at hl 0 rfl) ?_
      refine lv_iload_n hx hb dX0_codeByA_66 rfl (lv_at hl 2 rfl) ?_
      refine lv_iconst (v := 4) hx hb dX0_codeByA_67 (by decide) ?_
      refine lv_ishl hx hb dX0_codeByA_68 ?_
      refine lv_ior hx hb dX0_codeByA_69 ?_
      refine lv_iload_n hx hb dX0_codeByA_70 rfl (lv_at hl 1 rfl) ?_
      refine lv_ior hx hb dX0_codeByA_71 ?_
      refine lv_bipush (v := 85) hx hb dX0_codeByA_72 (by decide) ?_
      refine lv_ixor hx hb dX0_codeByA_74 ?_
      exact W.iret (v := ((((128 : Int32) ||| ((0 : Int32) <<< ((4 : Int32) &&& 31))) ||| ((a0 / (16 : Int32)) &&& (15 : Int32))) ^^^ (85 : Int32))) hx hb hr (fun t ht _ => ⟨((((128 : Int32) ||| ((0 : Int32) <<< ((4 : Int32) &&& 31))) ||| ((a0 / (16 : Int32)) &&& (15 : Int32))) ^^^ (85 : Int32)), rfl, by unfold fnX0_codeByA; rw [if_pos c_1, if_neg c_2], ht⟩) (fun q h => absurd h List.not_mem_nil) dX0_codeByA_75
  · refine lv_iconst (v := (-1)) hx hb dX0_codeByA_4 (by decide) ?_
    refine lv_iload_n hx hb dX0_codeByA_5 rfl (lv_at hl 0 rfl) ?_
    refine lv_isub hx hb dX0_codeByA_6 ?_
    refine lv_goto (tgt := 11) hx hb dX0_codeByA_7 (by decide) ?_
    refine lv_bipush (v := 16) hx hb dX0_codeByA_11 (by decide) ?_
    refine lv_idiv hx hb dX0_codeByA_13 (by decide) ?_
    refine lv_istore_n (lv' := [(1, .int ((((-1 : Int32) - a0) / (16 : Int32)))), (0, .int (a0))]) hx hb dX0_codeByA_14 rfl hl (by decide) rfl (fun ls hl => ?_)
    refine lv_iload_n hx hb dX0_codeByA_15 rfl (lv_at hl 0 rfl) ?_
    refine lv_bipush (v := 16) hx hb dX0_codeByA_16 (by decide) ?_
    refine lv_icmp_ge (tgt := 25) hx hb dX0_codeByA_18 (by decide) (fun c_9 => ?_) (fun c_9 => ?_)
    · refine lv_iload_n hx hb dX0_codeByA_25 rfl (lv_at hl 0 rfl) ?_
      refine vp_callSi (W.runS (As := [.int ((((-1 : Int32) - a0) / (16 : Int32)))]) (rest := []) ⟨hx, hb, hml, hown, hts⟩ (metX0_highestPlace l (((-1 : Int32) - a0) / (16 : Int32))) (va_cwS 1 hts gX0_codeByA_X0_highestPlace rfl rfl rfl (by decide +kernel) ⟨(Nat.le_of_ble_eq_true rfl), (Nat.le_of_ble_eq_true rfl)⟩) ⟨fun a U g mk q => q, fun U hU hW => ⟨rfl, trivial⟩⟩ rfl rfl hl.1 rfl (lv_room (Nat.le_of_ble_eq_true rfl)) dX0_codeByA_26 ⟨(Nat.zero_le _), (Nat.zero_le _)⟩) (fun r_10 er_10 => ?_)
      subst er_10
      refine lv_iconst (v := 4) hx hb dX0_codeByA_29 (by decide) ?_
      refine lv_isub hx hb dX0_codeByA_30 ?_
      refine lv_iconst (v := 1) hx hb dX0_codeByA_31 (by decide) ?_
      refine lv_iadd hx hb dX0_codeByA_32 ?_
      refine lv_istore_n (lv' := [(2, .int ((((fnX0_highestPlace (((-1 : Int32) - a0) / (16 : Int32))) - (4 : Int32)) + (1 : Int32)))), (1, .int ((((-1 : Int32) - a0) / (16 : Int32)))), (0, .int (a0))]) hx hb dX0_codeByA_33 rfl hl (by decide) rfl (fun ls hl => ?_)
      refine lv_iload_n hx hb dX0_codeByA_34 rfl (lv_at hl 0 rfl) ?_
      refine lv_if_ne (tgt := 42) hx hb dX0_codeByA_35 (by decide) (fun c_11 => ?_) (fun c_11 => ?_)
      · refine lv_iload_n hx hb dX0_codeByA_42 rfl (lv_at hl 1 rfl) ?_
        refine lv_iload_n hx hb dX0_codeByA_43 rfl (lv_at hl 0 rfl) ?_
        refine lv_iconst (v := 1) hx hb dX0_codeByA_44 (by decide) ?_
        refine lv_isub hx hb dX0_codeByA_45 ?_
        refine lv_ishr hx hb dX0_codeByA_46 ?_
        refine lv_bipush (v := 15) hx hb dX0_codeByA_47 (by decide) ?_
        refine lv_iand hx hb dX0_codeByA_49 ?_
        refine lv_istore_n (lv' := [(3, .int ((((((-1 : Int32) - a0) / (16 : Int32)) >>> (((((fnX0_highestPlace (((-1 : Int32) - a0) / (16 : Int32))) - (4 : Int32)) + (1 : Int32)) - (1 : Int32)) &&& 31)) &&& (15 : Int32)))), (2, .int ((((fnX0_highestPlace (((-1 : Int32) - a0) / (16 : Int32))) - (4 : Int32)) + (1 : Int32)))), (1, .int ((((-1 : Int32) - a0) / (16 : Int32)))), (0, .int (a0))]) hx hb dX0_codeByA_50 rfl hl (by decide) rfl (fun ls hl => ?_)
        refine lv_iload_n hx hb dX0_codeByA_51 rfl (lv_at hl 3 rfl) ?_
        refine lv_if_ge (tgt := 59) hx hb dX0_codeByA_52 (by decide) (fun c9 => absurd c9 c_1) (fun _ => ?_)
        refine lv_iconst (v := 0) hx hb dX0_codeByA_55 (by decide) ?_
        refine lv_goto (tgt := 62) hx hb dX0_codeByA_56 (by decide) ?_
        refine lv_istore (lv' := [(4, .int (0)), (3, .int ((((((-1 : Int32) - a0) / (16 : Int32)) >>> (((((fnX0_highestPlace (((-1 : Int32) - a0) / (16 : Int32))) - (4 : Int32)) + (1 : Int32)) - (1 : Int32)) &&& 31)) &&& (15 : Int32)))), (2, .int ((((fnX0_highestPlace (((-1 : Int32) - a0) / (16 : Int32))) - (4 : Int32)) + (1 : Int32)))), (1, .int ((((-1 : Int32) - a0) / (16 : Int32)))), (0, .int (a0))]) hx hb dX0_codeByA_62 hl (by decide) rfl (fun ls hl => ?_)
        refine lv_iload hx hb dX0_codeByA_64 (lv_at hl 0 rfl) ?_
        refine lv_iload_n hx hb dX0_codeByA_66 rfl (lv_at hl 2 rfl) ?_
        refine lv_iconst (v := 4) hx hb dX0_codeByA_67 (by decide) ?_
        refine lv_ishl hx hb dX0_codeByA_68 ?_
        refine lv_ior hx hb dX0_codeByA_69 ?_
        refine lv_iload_n hx hb dX0_codeByA_70 rfl (lv_at hl 1 rfl) ?_
        refine lv_ior hx hb dX0_codeByA_71 ?_
        refine lv_bipush (v := 85) hx hb dX0_codeByA_72 (by decide) ?_
        refine lv_ixor hx hb dX0_codeByA_74 ?_
        exact W.iret (v := ((((0 : Int32) ||| ((((fnX0_highestPlace (((-1 : Int32) - a0) / (16 : Int32))) - (4 : Int32)) + (1 : Int32)) <<< ((4 : Int32) &&& 31))) ||| (((((-1 : Int32) - a0) / (16 : Int32)) >>> (((((fnX0_highestPlace (((-1 : Int32) - a0) / (16 : Int32))) - (4 : Int32)) + (1 : Int32)) - (1 : Int32)) &&& 31)) &&& (15 : Int32))) ^^^ (85 : Int32))) hx hb hr (fun t ht _ => ⟨((((0 : Int32) ||| ((((fnX0_highestPlace (((-1 : Int32) - a0) / (16 : Int32))) - (4 : Int32)) + (1 : Int32)) <<< ((4 : Int32) &&& 31))) ||| (((((-1 : Int32) - a0) / (16 : Int32)) >>> (((((fnX0_highestPlace (((-1 : Int32) - a0) / (16 : Int32))) - (4 : Int32)) + (1 : Int32)) - (1 : Int32)) &&& 31)) &&& (15 : Int32))) ^^^ (85 : Int32)), rfl, by unfold fnX0_codeByA; rw [if_neg c_1, if_pos c_9, if_neg c_11], ht⟩) (fun q h => absurd h List.not_mem_nil) dX0_codeByA_75
      · refine lv_iload_n hx hb dX0_codeByA_38 rfl (lv_at hl 1 rfl) ?_
        refine lv_goto (tgt := 47) hx hb dX0_codeByA_39 (by decide) ?_
        refine lv_bipush (v := 15) hx hb dX0_codeByA_47 (by decide) ?_
        refine lv_iand hx hb dX0_codeByA_49 ?_
        refine lv_istore_n (lv' := [(3, .int (((((-1 : Int32) - a0) / (16 : Int32)) &&& (15 : Int32)))), (2, .int ((((fnX0_highestPlace (((-1 : Int32) - a0) / (16 : Int32))) - (4 : Int32)) + (1 : Int32)))), (1, .int ((((-1 : Int32) - a0) / (16 : Int32)))), (0, .int (a0))]) hx hb dX0_codeByA_50 rfl hl (by decide) rfl (fun ls hl => ?_)
        refine lv_iload_n hx hb dX0_codeByA_51 rfl (lv_at hl 3 rfl) ?_
        refine lv_if_ge (tgt := 59) hx hb dX0_codeByA_52 (by decide) (fun c9 => absurd c9 c_1) (fun _ => ?_)
        refine lv_iconst (v := 0) hx hb dX0_codeByA_55 (by decide) ?_
        refine lv_goto (tgt := 62) hx hb dX0_codeByA_56 (by decide) ?_
        refine lv_istore (lv' := [(4, .int (0)), (3, .int (((((-1 : Int32) - a0) / (16 : Int32)) &&& (15 : Int32)))), (2, .int ((((fnX0_highestPlace (((-1 : Int32) - a0) / (16 : Int32))) - (4 : Int32)) + (1 : Int32)))), (1, .int ((((-1 : Int32) - a0) / (16 : Int32)))), (0, .int (a0))]) hx hb dX0_codeByA_62 hl (by decide) rfl (fun ls hl => ?_)
        refine lv_iload hx hb dX0_codeByA_64 (lv_at hl 0 rfl) ?_
        refine lv_iload_n hx hb dX0_codeByA_66 rfl (lv_at hl 2 rfl) ?_
        refine lv_iconst (v := 4) hx hb dX0_codeByA_67 (by decide) ?_
        refine lv_ishl hx hb dX0_codeByA_68 ?_
        refine lv_ior hx hb dX0_codeByA_69 ?_
        refine lv_iload_n hx hb dX0_codeByA_70 rfl (lv_at hl 1 rfl) ?_
        refine lv_ior hx hb dX0_codeByA_71 ?_
        refine lv_bipush (v := 85) hx hb dX0_codeByA_72 (by decide) ?_
        refine lv_ixor hx hb dX0_codeByA_74 ?_
        exact W.iret (v := ((((0 : Int32) ||| ((((fnX0_highestPlace (((-1 : Int32) - a0) / (16 : Int32))) - (4 : Int32)) + (1 : Int32)) <<< ((4 : Int32) &&& 31))) ||| ((((-1 : Int32) - a0) / (16 : Int32)) &&& (15 : Int32))) ^^^ (85 : Int32))) hx hb hr (fun t ht _ => ⟨((((0 : Int32) ||| ((((fnX0_highestPlace (((-1 : Int32) - a0) / (16 : Int32))) - (4 : Int32)) + (1 : Int32)) <<< ((4 : Int32) &&& 31))) ||| ((((-1 : Int32) - a0) / (16 : Int32)) &&& (15 : Int32))) ^^^ (85 : Int32)), rfl, by unfold fnX0_codeByA; rw [if_neg c_1, if_pos c_9, if_pos c_11], ht⟩) (fun q h => absurd h List.not_mem_nil) dX0_codeByA_75
    · refine lv_iconst (v := 0) hx hb dX0_codeByA_21 (by decide) ?_
      refine lv_goto (tgt := 33) hx hb dX0_codeByA_22 (by decide) ?_
      refine lv_istore_n (lv' := [(2, .int (0)), (1, .int ((((-1 : Int32) - a0) / (16 : Int32)))), (0, .int (a0))]) hx hb dX0_codeByA_33 rfl hl (by decide) rfl (fun ls hl => ?_)
      refine lv_iload_n hx hb dX0_codeByA_34 rfl (lv_at hl 0 rfl) ?_
      refine lv_if_ne (tgt := 42) hx hb dX0_codeByA_35 (by decide) (fun c9 => absurd c9 (by decide)) (fun _ => ?_)
      refine lv_iload_n hx hb dX0_codeByA_38 rfl (lv_at hl 1 rfl) ?_
      refine lv_goto (tgt := 47) hx hb dX0_codeByA_39 (by decide) ?_
      refine lv_bipush (v := 15) hx hb dX0_codeByA_47 (by decide) ?_
      refine lv_iand hx hb dX0_codeByA_49 ?_
      refine lv_istore_n (lv' := [(3, .int (((((-1 : Int32) - a0) / (16 : Int32)) &&& (15 : Int32)))), (2, .int (0)), (1, .int ((((-1 : Int32) - a0) / (16 : Int32)))), (0, .int (a0))]) hx hb dX0_codeByA_50 rfl hl (by decide) rfl (fun ls hl => ?_)
      refine lv_iload_n hx hb dX0_codeByA_51 rfl (lv_at hl 3 rfl) ?_
      refine lv_if_ge (tgt := 59) hx hb dX0_codeByA_52 (by decide) (fun c9 => absurd c9 c_1) (fun _ => ?_)
      refine lv_iconst (v := 0) hx hb dX0_codeByA_55 (by decide) ?_
      refine lv_goto (tgt := 62) hx hb dX0_codeByA_56 (by decide) ?_
      refine lv_istore (lv' := [(4, .int (0)), (3, .int (((((-1 : Int32) - a0) / (16 : Int32)) &&& (15 : Int32)))), (2, .int (0)), (1, .int ((((-1 : Int32) - a0) / (16 : Int32)))), (0, .int (a0))]) hx hb dX0_codeByA_62 hl (by decide) rfl (fun ls hl => ?_)
      refine lv_iload hx hb dX0_codeByA_64 (lv_at hl 0 rfl) ?_
      refine lv_iload_n hx hb dX0_codeByA_66 rfl (lv_at hl 2 rfl) ?_
      refine lv_iconst (v := 4) hx hb dX0_codeByA_67 (by decide) ?_
      refine lv_ishl hx hb dX0_codeByA_68 ?_
      refine lv_ior hx hb dX0_codeByA_69 ?_
      refine lv_iload_n hx hb dX0_codeByA_70 rfl (lv_at hl 1 rfl) ?_
      refine lv_ior hx hb dX0_codeByA_71 ?_
      refine lv_bipush (v := 85) hx hb dX0_codeByA_72 (by decide) ?_
      refine lv_ixor hx hb dX0_codeByA_74 ?_
      exact W.iret (v := ((((0 : Int32) ||| ((0 : Int32) <<< ((4 : Int32) &&& 31))) ||| ((((-1 : Int32) - a0) / (16 : Int32)) &&& (15 : Int32))) ^^^ (85 : Int32))) hx hb hr (fun t ht _ => ⟨((((0 : Int32) ||| ((0 : Int32) <<< ((4 : Int32) &&& 31))) ||| ((((-1 : Int32) - a0) / (16 : Int32)) &&& (15 : Int32))) ^^^ (85 : Int32)), rfl, by unfold fnX0_codeByA; rw [if_neg c_1, if_neg c_9], ht⟩) (fun q h => absurd h List.not_mem_nil) dX0_codeByA_75

def fnX0_codeByMu (a0 : Int32) : Int32 := if 0 ≤ a0 then (((((0 : Int32) ||| (((fnX0_highestPlace ((if (32635 : Int32) < (if 0 ≤ a0 then a0 else 0 - a0) then (32635 : Int32) else (if 0 ≤ a0 then a0 else 0 - a0)) + (132 : Int32))) - (7 : Int32)) <<< ((4 : Int32) &&& 31))) ||| ((((if (32635 : Int32) < (if 0 ≤ a0 then a0 else 0 - a0) then (32635 : Int32) else (if 0 ≤ a0 then a0 else 0 - a0)) + (132 : Int32)) >>> ((((fnX0_highestPlace ((if (32635 : Int32) < (if 0 ≤ a0 then a0 else 0 - a0) then (32635 : Int32) else (if 0 ≤ a0 then a0 else 0 - a0)) + (132 : Int32))) - (7 : Int32)) + (3 : Int32)) &&& 31)) &&& (15 : Int32))) ^^^ (255 : Int32))) else (((((128 : Int32) ||| (((fnX0_highestPlace ((if (32635 : Int32) < (if 0 ≤ a0 then a0 else 0 - a0) then (32635 : Int32) else (if 0 ≤ a0 then a0 else 0 - a0)) + (132 : Int32))) - (7 : Int32)) <<< ((4 : Int32) &&& 31))) ||| ((((if (32635 : Int32) < (if 0 ≤ a0 then a0 else 0 - a0) then (32635 : Int32) else (if 0 ≤ a0 then a0 else 0 - a0)) + (132 : Int32)) >>> ((((fnX0_highestPlace ((if (32635 : Int32) < (if 0 ≤ a0 then a0 else 0 - a0) then (32635 : Int32) else (if 0 ≤ a0 then a0 else 0 - a0)) + (132 : Int32))) - (7 : Int32)) + (3 : Int32)) &&& 31)) &&& (15 : Int32))) ^^^ (255 : Int32)))
set_option maxHeartbeats 4000000 in
set_option maxRecDepth 100000 in
theorem metX0_codeByMu (l : Launch) (a0 : Int32) : Met l yX0_codeByMu wsX0_codeByMu ({ frames := 2, cells := 0, slots := 0, locals := 41 }) (va_Pc [.int a0] (fun _ => True)) (vp_Si (fun r => r = fnX0_codeByMu a0)) 0 0 (fun _ => False) := by
  refine Met.ofW (cc := cX0_codeByMu) (maxL := 5) (ret := (some .int)) (by decide) rfl ?_
  intro p e s m args below meth c s₁ B hml hv
  obtain ⟨rfl, -⟩ := hv
  have hx := B.exec
  have hb := B.bytes
  have hr := B.returns
  have hts := atoms_spec (ws := wsX0_codeByMu) B.pre
  have hown : s.vm.findClass RX0 = some m.cls := findClass_of_methodNamed B.named
  have hlocks := B.notSynchronized
  have hl := lv_entry ([.int a0]) (n := 5) (Nat.le_of_ble_eq_true rfl)
  rw [lg_entry_eq]
  generalize (lg_sl ([.int a0]) ++ List.replicate (5 - (lg_sl ([.int a0])).length) Slot.unset).toArray = ls at hl ⊢
  have hl : lv_has ls 5 [(0, .int (a0))] := hl
  refine lv_iload_n hx hb dX0_codeByMu_0 rfl (lv_at hl 0 rfl) ?_
  refine va_mabs hx hb (hml.trans hl.1.symm) hown (hts (.methodLink RX0 126 Lib.Math.abs.name) (by decide +kernel)) (hts (.static Lib.Math.abs.name) (by decide +kernel)) (hts (.initialized "java/lang/Math") (by decide +kernel)) (hts (.code Lib.Math.abs.name Lib.Math.abs.code 1 (some .int)) (by decide +kernel)) (Nat.le_of_ble_eq_true rfl) (Nat.le_of_ble_eq_true rfl) (Nat.zero_le _) (Nat.zero_le _) dX0_codeByMu_1 ?_
  refine lv_sipush (v := 32635) hx hb dX0_codeByMu_4 (by decide) ?_
  refine va_mmin hx hb (hml.trans hl.1.symm) hown (hts (.methodLink RX0 129 Lib.Math.min.name) (by decide +kernel)) (hts (.static Lib.Math.min.name) (by decide +kernel)) (hts (.initialized "java/lang/Math") (by decide +kernel)) (hts (.code Lib.Math.min.name Lib.Math.min.code 2 (some .int)) (by decide +kernel)) (Nat.le_of_ble_eq_true rfl) (Nat.le_of_ble_eq_true rfl) (Nat.zero_le _) (Nat.zero_le _) dX0_codeByMu_7 ?_
  refine lv_sipush (v := 132) hx hb dX0_codeByMu_10 (by decide) ?_
  refine lv_iadd hx hb dX0_codeByMu_13 ?_
  refine lv_istore_n (lv' := [(1, .int (((if (32635 : Int32) < (if 0 ≤ a0 then a0 else 0 - a0) then (32635 : Int32) else (if 0 ≤ a0 then a0 else 0 - a0)) + (132 : Int32)))), (0, .int (a0))]) hx hb dX0_codeByMu_14 rfl hl (by decide) rfl (fun ls hl => ?_)
  refine lv_iload_n hx hb dX0_codeByMu_15 rfl (lv_at hl 0 rfl) ?_
  refine vp_callSi (W.runS (As := [.int (((if (32635 : Int32) < (if 0 ≤ a0 then a0 else 0 - a0) then (32635 : Int32) else (if 0 ≤ a0 then a0 else 0 - a0)) + (132 : Int32)))]) (rest := []) ⟨hx, hb, hml, hown, hts⟩ (metX0_highestPlace l ((if (32635 : Int32) < (if 0 ≤ a0 then a0 else 0 - a0) then (32635 : Int32) else (if 0 ≤ a0 then a0 else 0 - a0)) + (132 : Int32))) (va_cwS 1 hts gX0_codeByMu_X0_highestPlace rfl rfl rfl (by decide +kernel) ⟨(Nat.le_of_ble_eq_true rfl), (Nat.le_of_ble_eq_true rfl)⟩) ⟨fun a U g mk q => q, fun U hU hW => ⟨rfl, trivial⟩⟩ rfl rfl hl.1 rfl (lv_room (Nat.le_of_ble_eq_true rfl)) dX0_codeByMu_16 ⟨(Nat.zero_le _), (Nat.zero_le _)⟩) (fun r_1 er_1 => ?_)
  subst er_1
  refine lv_bipush (v := 7) hx hb dX0_codeByMu_19 (by decide) ?_
  refine lv_isub hx hb dX0_codeByMu_21 ?_
  refine lv_istore_n (lv' := [(2, .int (((fnX0_highestPlace ((if (32635 : Int32) < (if 0 ≤ a0 then a0 else 0 - a0) then (32635 : Int32) else (if 0 ≤ a0 then a0 else 0 - a0)) + (132 : Int32))) - (7 : Int32)))), (1, .int (((if (32635 : Int32) < (if 0 ≤ a0 then a0 else 0 - a0) then (32635 : Int32) else (if 0 ≤ a0 then a0 else 0 - a0)) + (132 : Int32)))), (0, .int (a0))]) hx hb dX0_codeByMu_22 rfl hl (by decide) rfl (fun ls hl => ?_)
  refine lv_iload_n hx hb dX0_codeByMu_23 rfl (lv_at hl 1 rfl) ?_
  refine lv_iload_n hx hb dX0_codeByMu_24 rfl (lv_at hl 0 rfl) ?_
  refine lv_iconst (v := 3) hx hb dX0_codeByMu_25 (by decide) ?_
  refine lv_iadd hx hb dX0_codeByMu_26 ?_
  refine lv_ishr hx hb dX0_codeByMu_27 ?_
  refine lv_bipush (v := 15) hx hb dX0_codeByMu_28 (by decide) ?_
  refine lv_iand hx hb dX0_codeByMu_30 ?_
  refine lv_istore_n (lv' := [(3, .int (((((if (32635 : Int32) < (if 0 ≤ a0 then a0 else 0 - a0) then (32635 : Int32) else (if 0 ≤ a0 then a0 else 0 - a0)) + (132 : Int32)) >>> ((((fnX0_highestPlace ((if (32635 : Int32) < (if 0 ≤ a0 then a0 else 0 - a0) then (32635 : Int32) else (if 0 ≤ a0 then a0 else 0 - a0)) + (132 : Int32))) - (7 : Int32)) + (3 : Int32)) &&& 31)) &&& (15 : Int32)))), (2, .int (((fnX0_highestPlace ((if (32635 : Int32) < (if 0 ≤ a0 then a0 else 0 - a0) then (32635 : Int32) else (if 0 ≤ a0 then a0 else 0 - a0)) + (132 : Int32))) - (7 : Int32)))), (1, .int (((if (32635 : Int32) < (if 0 ≤ a0 then a0 else 0 - a0) then (32635 : Int32) else (if 0 ≤ a0 then a0 else 0 - a0)) + (132 : Int32)))), (0, .int (a0))]) hx hb dX0_codeByMu_31 rfl hl (by decide) rfl (fun ls hl => ?_)
  refine lv_iload_n hx hb dX0_codeByMu_32 rfl (lv_at hl 3 rfl) ?_
  refine lv_if_ge (tgt := 42) hx hb dX0_codeByMu_33 (by decide) (fun c_2 => ?_) (fun c_2 => ?_)
  · refine lv_iconst (v := 0) hx hb dX0_codeByMu_42 (by decide) ?_
    refine lv_istore (lv' := [(4, .int (0)), (3, .int (((((if (32635 : Int32) < (if 0 ≤ a0 then a0 else 0 - a0) then (32635 : Int32) else (if 0 ≤ a0 then a0 else 0 - a0)) + (132 : Int32)) >>> ((((fnX0_highestPlace ((if (32635 : Int32) < (if 0 ≤ a0 then a0 else 0 - a0) then (32635 : Int32) else (if 0 ≤ a0 then a0 else 0 - a0)) + (132 : Int32))) - (7 : Int32)) + (3 : Int32)) &&& 31)) &&& (15 : Int32)))), (2, .int (((fnX0_highestPlace ((if (32635 : Int32) < (if 0 ≤ a0 then a0 else 0 - a0) then (32635 : Int32) else (if 0 ≤ a0 then a0 else 0 - a0)) + (132 : Int32))) - (7 : Int32)))), (1, .int (((if (32635 : Int32) < (if 0 ≤ a0 then a0 else 0 - a0) then (32635 : Int32) else (if 0 ≤ a0 then a0 else 0 - a0)) + (132 : Int32)))), (0, .int (a0))]) hx hb dX0_codeByMu_43 hl (by decide) rfl (fun ls hl => ?_)
    refine lv_iload hx hb dX0_codeByMu_45 (lv_at hl 0 rfl) ?_
    refine lv_iload_n hx hb dX0_codeByMu_47 rfl (lv_at hl 2 rfl) ?_
    refine lv_iconst (v := 4) hx hb dX0_codeByMu_48 (by decide) ?_
    refine lv_ishl hx hb dX0_codeByMu_49 ?_
    refine lv_ior hx hb dX0_codeByMu_50 ?_
    refine lv_iload_n hx hb dX0_codeByMu_51 rfl (lv_at hl 1 rfl) ?_
    refine lv_ior hx hb dX0_codeByMu_52 ?_
    refine lv_sipush (v := 255) hx hb dX0_codeByMu_53 (by decide) ?_
    refine lv_ixor hx hb dX0_codeByMu_56 ?_
    exact W.iret (v := ((((0 : Int32) ||| (((fnX0_highestPlace ((if (32635 : Int32) < (if 0 ≤ a0 then a0 else 0 - a0) then (32635 : Int32) else (if 0 ≤ a0 then a0 else 0 - a0)) + (132 : Int32))) - (7 : Int32)) <<< ((4 : Int32) &&& 31))) ||| ((((if (32635 : Int32) < (if 0 ≤ a0 then a0 else 0 - a0) then (32635 : Int32) else (if 0 ≤ a0 then a0 else 0 - a0)) + (132 : Int32)) >>> ((((fnX0_highestPlace ((if (32635 : Int32) < (if 0 ≤ a0 then a0 else 0 - a0) then (32635 : Int32) else (if 0 ≤ a0 then a0 else 0 - a0)) + (132 : Int32))) - (7 : Int32)) + (3 : Int32)) &&& 31)) &&& (15 : Int32))) ^^^ (255 : Int32))) hx hb hr (fun t ht _ => ⟨((((0 : Int32) ||| (((fnX0_highestPlace ((if (32635 : Int32) < (if 0 ≤ a0 then a0 else 0 - a0) then (32635 : Int32) else (if 0 ≤ a0 then a0 else 0 - a0)) + (132 : Int32))) - (7 : Int32)) <<< ((4 : Int32) &&& 31))) ||| ((((if (32635 : Int32) < (if 0 ≤ a0 then a0 else 0 - a0) then (32635 : Int32) else (if 0 ≤ a0 then a0 else 0 - a0)) + (132 : Int32)) >>> ((((fnX0_highestPlace ((if (32635 : Int32) < (if 0 ≤ a0 then a0 else 0 - a0) then (32635 : Int32) else (if 0 ≤ a0 then a0 else 0 - a0)) + (132 : Int32))) - (7 : Int32)) + (3 : Int32)) &&& 31)) &&& (15 : Int32))) ^^^ (255 : Int32)), rfl, by unfold fnX0_codeByMu; rw [if_pos c_2], ht⟩) (fun q h => absurd h List.not_mem_nil) dX0_codeByMu_57
  · refine lv_sipush (v := 128) hx hb dX0_codeByMu_36 (by decide) ?_
    refine lv_goto (tgt := 43) hx hb dX0_codeByMu_39 (by decide) ?_
    refine lv_istore (lv' := [(4, .int (128)), (3, .int (((((if (32635 : Int32) < (if 0 ≤ a0 then a0 else 0 - a0) then (32635 : Int32) else (if 0 ≤ a0 then a0 else 0 - a0)) + (132 : Int32)) >>> ((((fnX0_highestPlace ((if (32635 : Int32) < (if 0 ≤ a0 then a0 else 0 - a0) then (32635 : Int32) else (if 0 ≤ a0 then a0 else 0 - a0)) + (132 : Int32))) - (7 : Int32)) + (3 : Int32)) &&& 31)) &&& (15 : Int32)))), (2, .int (((fnX0_highestPlace ((if (32635 : Int32) < (if 0 ≤ a0 then a0 else 0 - a0) then (32635 : Int32) else (if 0 ≤ a0 then a0 else 0 - a0)) + (132 : Int32))) - (7 : Int32)))), (1, .int (((if (32635 : Int32) < (if 0 ≤ a0 then a0 else 0 - a0) then (32635 : Int32) else (if 0 ≤ a0 then a0 else 0 - a0)) + (132 : Int32)))), (0, .int (a0))]) hx hb dX0_codeByMu_43 hl (by decide) rfl (fun ls hl => ?_)
    refine lv_iload hx hb dX0_codeByMu_45 (lv_at hl 0 rfl) ?_
    refine lv_iload_n hx hb dX0_codeByMu_47 rfl (lv_at hl 2 rfl) ?_
    refine lv_iconst (v := 4) hx hb dX0_codeByMu_48 (by decide) ?_
    refine lv_ishl hx hb dX0_codeByMu_49 ?_
    refine lv_ior hx hb dX0_codeByMu_50 ?_
    refine lv_iload_n hx hb dX0_codeByMu_51 rfl (lv_at hl 1 rfl) ?_
    refine lv_ior hx hb dX0_codeByMu_52 ?_
    refine lv_sipush (v := 255) hx hb dX0_codeByMu_53 (by decide) ?_
    refine lv_ixor hx hb dX0_codeByMu_56 ?_
    exact W.iret (v := ((((128 : Int32) ||| (((fnX0_highestPlace ((if (32635 : Int32) < (if 0 ≤ a0 then a0 else 0 - a0) then (32635 : Int32) else (if 0 ≤ a0 then a0 else 0 - a0)) + (132 : Int32))) - (7 : Int32)) <<< ((4 : Int32) &&& 31))) ||| ((((if (32635 : Int32) < (if 0 ≤ a0 then a0 else 0 - a0) then (32635 : Int32) else (if 0 ≤ a0 then a0 else 0 - a0)) + (132 : Int32)) >>> ((((fnX0_highestPlace ((if (32635 : Int32) < (if 0 ≤ a0 then a0 else 0 - a0) then (32635 : Int32) else (if 0 ≤ a0 then a0 else 0 - a0)) + (132 : Int32))) - (7 : Int32)) + (3 : Int32)) &&& 31)) &&& (15 : Int32))) ^^^ (255 : Int32))) hx hb hr (fun t ht _ => ⟨((((128 : Int32) ||| (((fnX0_highestPlace ((if (32635 : Int32) < (if 0 ≤ a0 then a0 else 0 - a0) then (32635 : Int32) else (if 0 ≤ a0 then a0 else 0 - a0)) + (132 : Int32))) - (7 : Int32)) <<< ((4 : Int32) &&& 31))) ||| ((((if (32635 : Int32) < (if 0 ≤ a0 then a0 else 0 - a0) then (32635 : Int32) else (if 0 ≤ a0 then a0 else 0 - a0)) + (132 : Int32)) >>> ((((fnX0_highestPlace ((if (32635 : Int32) < (if 0 ≤ a0 then a0 else 0 - a0) then (32635 : Int32) else (if 0 ≤ a0 then a0 else 0 - a0)) + (132 : Int32))) - (7 : Int32)) + (3 : Int32)) &&& 31)) &&& (15 : Int32))) ^^^ (255 : Int32)), rfl, by unfold fnX0_codeByMu; rw [if_neg c_2], ht⟩) (fun q h => absurd h List.not_mem_nil) dX0_codeByMu_57

def fnX0_codeOf (a0 : Int32) (a1 : Int32) : Int32 := if a0 = 0 then ((fnX0_codeByA a1)) else ((fnX0_codeByMu a1))
set_option maxHeartbeats 4000000 in
set_option maxRecDepth 100000 in
theorem metX0_codeOf (l : Launch) (a0 : Int32) (a1 : Int32) : Met l yX0_codeOf wsX0_codeOf ({ frames := 3, cells := 0, slots := 0, locals := 65 }) (va_Pc [.int a0, .int a1] (fun _ => True)) (vp_Si (fun r => r = fnX0_codeOf a0 a1)) 0 0 (fun _ => False) := by
  refine Met.ofW (cc := cX0_codeOf) (maxL := 2) (ret := (some .int)) (by decide) rfl ?_
  intro p e s m args below meth c s₁ B hml hv
  obtain ⟨rfl, -⟩ := hv
  have hx := B.exec
  have hb := B.bytes
  have hr := B.returns
  have hts := atoms_spec (ws := wsX0_codeOf) B.pre
  have hown : s.vm.findClass RX0 = some m.cls := findClass_of_methodNamed B.named
  have hlocks := B.notSynchronized
  have hl := lv_entry ([.int a0, .int a1]) (n := 2) (Nat.le_of_ble_eq_true rfl)
  rw [lg_entry_eq]
  generalize (lg_sl ([.int a0, .int a1]) ++ List.replicate (2 - (lg_sl ([.int a0, .int a1])).length) Slot.unset).toArray = ls at hl ⊢
  have hl : lv_has ls 2 [(0, .int (a0)), (1, .int (a1))] := hl
  refine lv_iload_n hx hb dX0_codeOf_0 rfl (lv_at hl 0 rfl) ?_
  refine lv_if_ne (tgt := 11) hx hb dX0_codeOf_1 (by decide) (fun c_1 => ?_) (fun c_1 => ?_)
  · refine lv_iload_n hx hb dX0_codeOf_11 rfl (lv_at hl 1 rfl) ?_
    refine vp_callSi (W.runS (As := [.int (a1)]) (rest := []) ⟨hx, hb, hml, hown, hts⟩ (metX0_codeByMu l a1) (va_cwS 1 hts gX0_codeOf_X0_codeByMu rfl rfl rfl (by decide +kernel) ⟨(Nat.le_of_ble_eq_true rfl), (Nat.le_of_ble_eq_true rfl)⟩) ⟨fun a U g mk q => q, fun U hU hW => ⟨rfl, trivial⟩⟩ rfl rfl hl.1 rfl (lv_room (Nat.le_of_ble_eq_true rfl)) dX0_codeOf_12 ⟨(Nat.zero_le _), (Nat.zero_le _)⟩) (fun r_2 er_2 => ?_)
    subst er_2
    exact W.iret (v := (fnX0_codeByMu a1)) hx hb hr (fun t ht _ => ⟨(fnX0_codeByMu a1), rfl, by unfold fnX0_codeOf; rw [if_neg c_1], ht⟩) (fun q h => absurd h List.not_mem_nil) dX0_codeOf_15
  · refine lv_iload_n hx hb dX0_codeOf_4 rfl (lv_at hl 1 rfl) ?_
    refine vp_callSi (W.runS (As := [.int (a1)]) (rest := []) ⟨hx, hb, hml, hown, hts⟩ (metX0_codeByA l a1) (va_cwS 1 hts gX0_codeOf_X0_codeByA rfl rfl rfl (by decide +kernel) ⟨(Nat.le_of_ble_eq_true rfl), (Nat.le_of_ble_eq_true rfl)⟩) ⟨fun a U g mk q => q, fun U hU hW => ⟨rfl, trivial⟩⟩ rfl rfl hl.1 rfl (lv_room (Nat.le_of_ble_eq_true rfl)) dX0_codeOf_5 ⟨(Nat.zero_le _), (Nat.zero_le _)⟩) (fun r_3 er_3 => ?_)
    subst er_3
    refine lv_goto (tgt := 15) hx hb dX0_codeOf_8 (by decide) ?_
    exact W.iret (v := (fnX0_codeByA a1)) hx hb hr (fun t ht _ => ⟨(fnX0_codeByA a1), rfl, by unfold fnX0_codeOf; rw [if_pos c_1], ht⟩) (fun q h => absurd h List.not_mem_nil) dX0_codeOf_15

def fnX1_held (a0 : Int64) : Int32 := if (lg_cmp a0 (32767 : Int64)) ≤ 0 then (if 0 ≤ (lg_cmp a0 (-32768 : Int64)) then (a0.toInt32) else ((-32768))) else (32767)
set_option maxHeartbeats 4000000 in
set_option maxRecDepth 100000 in
theorem metX1_held (l : Launch) (a0 : Int64) : Met l yX1_held wsX1_held ({ frames := 0, cells := 0, slots := 0, locals := 0 }) (va_Pc [.long a0] (fun _ => True)) (vp_Si (fun r => r = fnX1_held a0)) 0 0 (fun _ => False) := by
  refine Met.ofW (cc := cX1_held) (maxL := 2) (ret := (some .int)) (by decide) rfl ?_
  intro p e s m args below meth c s₁ B hml hv
  obtain ⟨rfl, -⟩ := hv
  have hx := B.exec
  have hb := B.bytes
  have hr := B.returns
  have hts := atoms_spec (ws := wsX1_held) B.pre
  have hown : s.vm.findClass RX1 = some m.cls := findClass_of_methodNamed B.named
  have hlocks := B.notSynchronized
  have hl := lv_entry ([.long a0]) (n := 2) (Nat.le_of_ble_eq_true rfl)
  rw [lg_entry_eq]
  generalize (lg_sl ([.long a0]) ++ List.replicate (2 - (lg_sl ([.long a0])).length) Slot.unset).toArray = ls at hl ⊢
  have hl : lv_has ls 2 [(0, .long (a0))] := hl
  refine lv_lload_n hx hb dX1_held_0 rfl (lv_at hl 0 rfl) ?_
  refine lv_ldc2 (v := 32767) hx hb hown (hts (.constantLong RX1 44 (32767)) (by decide +kernel)) dX1_held_1 ?_
  refine W.lcmp hx hb dX1_held_4 ?_
  refine lv_if_le (tgt := 14) hx hb dX1_held_5 (by decide) (fun c_1 => ?_) (fun c_1 => ?_)
  · refine lv_lload_n hx hb dX1_held_14 rfl (lv_at hl 0 rfl) ?_
    refine lv_ldc2 (v := (-32768)) hx hb hown (hts (.constantLong RX1 46 (-32768)) (by decide +kernel)) dX1_held_15 ?_
    refine W.lcmp hx hb dX1_held_18 ?_
    refine lv_if_ge (tgt := 28) hx hb dX1_held_19 (by decide) (fun c_2 => ?_) (fun c_2 => ?_)
    · refine lv_lload_n hx hb dX1_held_28 rfl (lv_at hl 0 rfl) ?_
      refine lv_l2i (v := a0.toInt32) hx hb dX1_held_29 rfl ?_
      exact W.iret (v := a0.toInt32) hx hb hr (fun t ht _ => ⟨a0.toInt32, rfl, by unfold fnX1_held; rw [if_pos c_1, if_pos c_2], ht⟩) (fun q h => absurd h List.not_mem_nil) dX1_held_30
    · refine lv_sipush (v := (-32768)) hx hb dX1_held_22 (by decide) ?_
      refine lv_goto (tgt := 30) hx hb dX1_held_25 (by decide) ?_
      exact W.iret (v := (-32768)) hx hb hr (fun t ht _ => ⟨(-32768), rfl, by unfold fnX1_held; rw [if_pos c_1, if_neg c_2], ht⟩) (fun q h => absurd h List.not_mem_nil) dX1_held_30
  · refine lv_sipush (v := 32767) hx hb dX1_held_8 (by decide) ?_
    refine lv_goto (tgt := 30) hx hb dX1_held_11 (by decide) ?_
    exact W.iret (v := 32767) hx hb hr (fun t ht _ => ⟨32767, rfl, by unfold fnX1_held; rw [if_neg c_1], ht⟩) (fun q h => absurd h List.not_mem_nil) dX1_held_30

def fnX1_scaled (a0 : Int32) (a1 : Int32) : Int32 := if 0 ≤ (a0 * a1) then ((fnX1_held (((a0 * a1) / (256 : Int32)).toInt64))) else ((fnX1_held ((-(((255 : Int32) - (a0 * a1)) / (256 : Int32))).toInt64)))
set_option maxHeartbeats 4000000 in
set_option maxRecDepth 100000 in
theorem metX1_scaled (l : Launch) (a0 : Int32) (a1 : Int32) : Met l yX1_scaled wsX1_scaled ({ frames := 1, cells := 0, slots := 0, locals := 21 }) (va_Pc [.int a0, .int a1] (fun _ => True)) (vp_Si (fun r => r = fnX1_scaled a0 a1)) 0 0 (fun _ => False) := by
  refine Met.ofW (cc := cX1_scaled) (maxL := 3) (ret := (some .int)) (by decide) rfl ?_
  intro p e s m args below meth c s₁ B hml hv
  obtain ⟨rfl, -⟩ := hv
  have hx := B.exec
  have hb := B.bytes
  have hr := B.returns
  have hts := atoms_spec (ws := wsX1_scaled) B.pre
  have hown : s.vm.findClass RX1 = some m.cls := findClass_of_methodNamed B.named
  have hlocks := B.notSynchronized
  have hl := lv_entry ([.int a0, .int a1]) (n := 3) (Nat.le_of_ble_eq_true rfl)
  rw [lg_entry_eq]
  generalize (lg_sl ([.int a0, .int a1]) ++ List.replicate (3 - (lg_sl ([.int a0, .int a1])).length) Slot.unset).toArray = ls at hl ⊢
  have hl : lv_has ls 3 [(0, .int (a0)), (1, .int (a1))] := hl
  refine lv_iload_n hx hb dX1_scaled_0 rfl (lv_at hl 0 rfl) ?_
  refine lv_iload_n hx hb dX1_scaled_1 rfl (lv_at hl 1 rfl) ?_
  refine lv_imul hx hb dX1_scaled_2 ?_
  refine lv_istore_n (lv' := [(2, .int ((a0 * a1))), (0, .int (a0)), (1, .int (a1))]) hx hb dX1_scaled_3 rfl hl (by decide) rfl (fun ls hl => ?_)
  refine lv_iload_n hx hb dX1_scaled_4 rfl (lv_at hl 0 rfl) ?_
  refine lv_if_ge (tgt := 22) hx hb dX1_scaled_5 (by decide) (fun c_1 => ?_) (fun c_1 => ?_)
  · refine lv_iload_n hx hb dX1_scaled_22 rfl (lv_at hl 0 rfl) ?_
    refine lv_sipush (v := 256) hx hb dX1_scaled_23 (by decide) ?_
    refine lv_idiv hx hb dX1_scaled_26 (by decide) ?_
    refine lv_i2l (v := ((a0 * a1) / (256 : Int32)).toInt64) hx hb dX1_scaled_27 rfl ?_
    refine vp_callSi (W.runS (As := [.long (((a0 * a1) / (256 : Int32)).toInt64)]) (rest := []) ⟨hx, hb, hml, hown, hts⟩ (metX1_held l (((a0 * a1) / (256 : Int32)).toInt64)) (va_cwS 1 hts gX1_scaled_X1_held rfl rfl rfl (by decide +kernel) ⟨(Nat.le_of_ble_eq_true rfl), (Nat.le_of_ble_eq_true rfl)⟩) ⟨fun a U g mk q => q, fun U hU hW => ⟨rfl, trivial⟩⟩ rfl rfl hl.1 rfl (lv_room (Nat.le_of_ble_eq_true rfl)) dX1_scaled_28 ⟨(Nat.zero_le _), (Nat.zero_le _)⟩) (fun r_2 er_2 => ?_)
    subst er_2
    exact W.iret (v := (fnX1_held (((a0 * a1) / (256 : Int32)).toInt64))) hx hb hr (fun t ht _ => ⟨(fnX1_held (((a0 * a1) / (256 : Int32)).toInt64)), rfl, by unfold fnX1_scaled; rw [if_pos c_1], ht⟩) (fun q h => absurd h List.not_mem_nil) dX1_scaled_31
  · refine lv_sipush (v := 255) hx hb dX1_scaled_8 (by decide) ?_
    refine lv_iload_n hx hb dX1_scaled_11 rfl (lv_at hl 0 rfl) ?_
    refine lv_isub hx hb dX1_scaled_12 ?_
    refine lv_sipush (v := 256) hx hb dX1_scaled_13 (by decide) ?_
    refine lv_idiv hx hb dX1_scaled_16 (by decide) ?_
    refine lv_ineg hx hb dX1_scaled_17 ?_
    refine lv_i2l (v := (-(((255 : Int32) - (a0 * a1)) / (256 : Int32))).toInt64) hx hb dX1_scaled_18 rfl ?_
    refine lv_goto (tgt := 28) hx hb dX1_scaled_19 (by decide) ?_
    refine vp_callSi (W.runS (As := [.long ((-(((255 : Int32) - (a0 * a1)) / (256 : Int32))).toInt64)]) (rest := []) ⟨hx, hb, hml, hown, hts⟩ (metX1_held l ((-(((255 : Int32) - (a0 * a1)) / (256 : Int32))).toInt64)) (va_cwS 1 hts gX1_scaled_X1_held rfl rfl rfl (by decide +kernel) ⟨(Nat.le_of_ble_eq_true rfl), (Nat.le_of_ble_eq_true rfl)⟩) ⟨fun a U g mk q => q, fun U hU hW => ⟨rfl, trivial⟩⟩ rfl rfl hl.1 rfl (lv_room (Nat.le_of_ble_eq_true rfl)) dX1_scaled_28 ⟨(Nat.zero_le _), (Nat.zero_le _)⟩) (fun r_3 er_3 => ?_)
    subst er_3
    exact W.iret (v := (fnX1_held ((-(((255 : Int32) - (a0 * a1)) / (256 : Int32))).toInt64))) hx hb hr (fun t ht _ => ⟨(fnX1_held ((-(((255 : Int32) - (a0 * a1)) / (256 : Int32))).toInt64)), rfl, by unfold fnX1_scaled; rw [if_neg c_1], ht⟩) (fun q h => absurd h List.not_mem_nil) dX1_scaled_31

def fnX1_not (a0 : Int32) (a1 : Int32) : Int32 := if a0 < 0 then (1) else (if a0 < a1 then (0) else (1))
set_option maxHeartbeats 4000000 in
set_option maxRecDepth 100000 in
theorem metX1_not (l : Launch) (a0 : Int32) (a1 : Int32) : Met l yX1_not wsX1_not ({ frames := 0, cells := 0, slots := 0, locals := 0 }) (va_Pc [.int a0, .int a1] (fun _ => True)) (vp_Si (fun r => r = fnX1_not a0 a1)) 0 0 (fun _ => False) := by
  refine Met.ofW (cc := cX1_not) (maxL := 2) (ret := (some .boolean)) (by decide) rfl ?_
  intro p e s m args below meth c s₁ B hml hv
  obtain ⟨rfl, -⟩ := hv
  have hx := B.exec
  have hb := B.bytes
  have hr := B.returns
  have hts := atoms_spec (ws := wsX1_not) B.pre
  have hown : s.vm.findClass RX1 = some m.cls := findClass_of_methodNamed B.named
  have hlocks := B.notSynchronized
  have hl := lv_entry ([.int a0, .int a1]) (n := 2) (Nat.le_of_ble_eq_true rfl)
  rw [lg_entry_eq]
  generalize (lg_sl ([.int a0, .int a1]) ++ List.replicate (2 - (lg_sl ([.int a0, .int a1])).length) Slot.unset).toArray = ls at hl ⊢
  have hl : lv_has ls 2 [(0, .int (a0)), (1, .int (a1))] := hl
  refine lv_iload_n hx hb dX1_not_0 rfl (lv_at hl 0 rfl) ?_
  refine lv_if_lt (tgt := 9) hx hb dX1_not_1 (by decide) (fun c_1 => ?_) (fun c_1 => ?_)
  · refine lv_iconst (v := 1) hx hb dX1_not_9 (by decide) ?_
    refine lv_goto (tgt := 14) hx hb dX1_not_10 (by decide) ?_
    exact W.zret (v := 1) hx hb hr (by decide) (fun t ht _ => ⟨1, rfl, by unfold fnX1_not; rw [if_pos c_1], ht⟩) (fun q h => absurd h List.not_mem_nil) dX1_not_14
  · refine lv_iload_n hx hb dX1_not_4 rfl (lv_at hl 0 rfl) ?_
    refine lv_iload_n hx hb dX1_not_5 rfl (lv_at hl 1 rfl) ?_
    refine lv_icmp_lt (tgt := 13) hx hb dX1_not_6 (by decide) (fun c_2 => ?_) (fun c_2 => ?_)
    · refine lv_iconst (v := 0) hx hb dX1_not_13 (by decide) ?_
      exact W.zret (v := 0) hx hb hr (by decide) (fun t ht _ => ⟨0, rfl, by unfold fnX1_not; rw [if_neg c_1, if_pos c_2], ht⟩) (fun q h => absurd h List.not_mem_nil) dX1_not_14
    · refine lv_iconst (v := 1) hx hb dX1_not_9 (by decide) ?_
      refine lv_goto (tgt := 14) hx hb dX1_not_10 (by decide) ?_
      exact W.zret (v := 1) hx hb hr (by decide) (fun t ht _ => ⟨1, rfl, by unfold fnX1_not; rw [if_neg c_1, if_neg c_2], ht⟩) (fun q h => absurd h List.not_mem_nil) dX1_not_14
end
section
/-! the reference's two coders: their loops, their contracts -/
def mdDbl : Nat → Int32 → Int32
  | 0, z => z
  | n + 1, z => mdDbl n (2 * z)
def mdHalf (lim : Nat) : Nat → Nat → Nat → Nat × Nat
  | 0, v, j => (v, j)
  | f + 1, v, j => if v < lim then (v, j) else mdHalf lim f (v / 2) (j + 1)
theorem md_xor (a b : Nat) : nI a ^^^ nI b = nI (a ^^^ b) := by
  apply Int32.toBitVec_inj.1
  show BitVec.ofNat 32 a ^^^ BitVec.ofNat 32 b = BitVec.ofNat 32 (a ^^^ b)
  apply BitVec.eq_of_getLsbD_eq
  intro i hi
  simp [hi]
theorem md_dbl_step {i j : Nat} {z Z : Int32} (h : i < j) (e : mdDbl (j - i) z = Z) : mdDbl (j - (i + 1)) (2 * z) = Z := by
  rw [← e, show j - i = (j - (i + 1)) + 1 by omega]
  rfl
theorem md_dbl_end {i j : Nat} {z Z : Int32} (h : j ≤ i) (e : mdDbl (j - i) z = Z) : z = Z := by
  rw [← e, show j - i = 0 by omega]
  rfl
theorem md_half_end {lim f v j : Nat} (h : v < lim) : mdHalf lim f v j = (v, j) := by
  cases f with
  | zero => rfl
  | succ f => unfold mdHalf; rw [if_pos h]
theorem md_half_step {lim f v j : Nat} (h : ¬ v < lim) : mdHalf lim (f + 1) v j = mdHalf lim f (v / 2) (j + 1) := by
  conv => lhs; unfold mdHalf
  rw [if_neg h]
theorem md_le {a b : Nat} (ha : a < 2 ^ 31) (hb : b < 2 ^ 31) {c : Nat} (e : Int32.ofNat c = nI b) : nI a ≤ nI b ↔ a ≤ b := nI_leI ha hb
set_option maxHeartbeats 4000000 in
set_option maxRecDepth 100000 in
theorem lpX1_meaning_63 {p : Program} {l : Launch} {e : Env} {R : Room} {s : State} {m : MethodId} {args : Array Value} {below : List Frame} {meth : Method} {c : Code} {H : Heap} {locs : List Loc} {cells slots : Nat} {Q : State → Prop} (hx : p.tables.exec = Jvm.exec) (hb : c.code = cX1_meaning) (j : Nat) (hj : j < 8) (x1 x2 x4 Z : Int32) (kk : ∀ (i : Nat) (ls : Array Slot), lv_has ls 7 [(0, .int (0)), (1, .int (x1)), (2, .int (x2)), (3, .int (nI j)), (4, .int (x4)), (5, .int (Z)), (6, .int (nI i))] → W p l e R s m args below meth c H locs cells slots Q (F0 m 85 ls [])) :
    ∀ (n : Nat) (i : Nat) (z : Int32) (ls : Array Slot), i ≤ j + 1 → j + 2 ≤ i + n → mdDbl (j - i) z = Z → lv_has ls 7 [(0, .int (0)), (1, .int (x1)), (2, .int (x2)), (3, .int (nI j)), (4, .int (x4)), (5, .int (z)), (6, .int (nI i))] → W p l e R s m args below meth c H locs cells slots Q (F0 m 63 ls []) := by
  intro n
  induction n with
  | zero => intro i z ls h1 h2; exact absurd h2 (by omega)
  | succ n ih =>
    intro i z ls h1 h2 hz hl
    refine lv_iload hx hb dX1_meaning_63 (lv_at hl 6 rfl) ?_
    refine lv_iload_n hx hb dX1_meaning_65 rfl (lv_at hl 3 rfl) ?_
    refine lv_icmp_ge (tgt := 85) hx hb dX1_meaning_66 (by decide) (fun c_1 => ?_) (fun c_1 => ?_)
    · obtain rfl := md_dbl_end ((nI_leI (by omega) (by omega)).mp c_1) hz
      exact kk i ls (lv_sub hl [0, 1, 2, 3, 4, 5, 6] rfl)
    · refine lv_iload_n hx hb dX1_meaning_69 rfl (lv_at hl 0 rfl) ?_
      refine lv_if_ne (tgt := 85) hx hb dX1_meaning_70 (by decide) (fun c9 => absurd (by decide) c9) (fun _ => ?_)
      refine lv_iconst (v := 2) hx hb dX1_meaning_73 (by decide) ?_
      refine lv_iload hx hb dX1_meaning_74 (lv_at hl 5 rfl) ?_
      refine lv_imul hx hb dX1_meaning_76 ?_
      refine lv_istore (lv' := [(5, .int (((2 : Int32) * z))), (0, .int (0)), (1, .int (x1)), (2, .int (x2)), (3, .int (nI j)), (4, .int (x4)), (6, .int (nI i))]) hx hb dX1_meaning_77 hl (by decide) rfl (fun ls hl => ?_)
      refine lv_iinc (v := ((nI i) + (1 : Int32))) (lv' := [(6, .int (((nI i) + (1 : Int32)))), (5, .int (((2 : Int32) * z))), (0, .int (0)), (1, .int (x1)), (2, .int (x2)), (3, .int (nI j)), (4, .int (x4))]) hx hb dX1_meaning_79 hl (k := 6) rfl rfl (by decide) rfl (fun ls hl => ?_)
      refine lv_goto (tgt := 63) hx hb dX1_meaning_82 (by decide) ?_
      have hij : i < j := Nat.lt_of_not_le (fun q => c_1 ((nI_leI (by omega) (by omega)).mpr q))
      exact ih (i + 1) (2 * z) ls (by omega) (by omega) (md_dbl_step hij hz) (by rw [← nI_1]; exact lv_sub hl [2, 3, 4, 5, 6, 1, 0] rfl)

set_option maxHeartbeats 4000000 in
set_option maxRecDepth 100000 in
theorem lpX1_meaning_104 {p : Program} {l : Launch} {e : Env} {R : Room} {s : State} {m : MethodId} {args : Array Value} {below : List Frame} {meth : Method} {c : Code} {H : Heap} {locs : List Loc} {cells slots : Nat} {Q : State → Prop} (hx : p.tables.exec = Jvm.exec) (hb : c.code = cX1_meaning) (j : Nat) (hj : j < 8) (x1 x2 x4 Z : Int32) (kk : ∀ (i : Nat) (ls : Array Slot), lv_has ls 7 [(0, .int (1)), (1, .int (x1)), (2, .int (x2)), (3, .int (nI j)), (4, .int (x4)), (5, .int (Z)), (6, .int (nI i))] → W p l e R s m args below meth c H locs cells slots Q (F0 m 122 ls [])) :
    ∀ (n : Nat) (i : Nat) (z : Int32) (ls : Array Slot), i ≤ j + 1 → j + 2 ≤ i + n → mdDbl (j - i) z = Z → lv_has ls 7 [(0, .int (1)), (1, .int (x1)), (2, .int (x2)), (3, .int (nI j)), (4, .int (x4)), (5, .int (z)), (6, .int (nI i))] → W p l e R s m args below meth c H locs cells slots Q (F0 m 104 ls []) := by
  intro n
  induction n with
  | zero => intro i z ls h1 h2; exact absurd h2 (by omega)
  | succ n ih =>
    intro i z ls h1 h2 hz hl
    refine lv_iload hx hb dX1_meaning_104 (lv_at hl 6 rfl) ?_
    refine lv_iload_n hx hb dX1_meaning_106 rfl (lv_at hl 3 rfl) ?_
    refine lv_icmp_ge (tgt := 122) hx hb dX1_meaning_107 (by decide) (fun c_1 => ?_) (fun c_1 => ?_)
    · obtain rfl := md_dbl_end ((nI_leI (by omega) (by omega)).mp c_1) hz
      exact kk i ls (lv_sub hl [0, 1, 2, 3, 4, 5, 6] rfl)
    · refine lv_iconst (v := 2) hx hb dX1_meaning_110 (by decide) ?_
      refine lv_iload hx hb dX1_meaning_111 (lv_at hl 5 rfl) ?_
      refine lv_imul hx hb dX1_meaning_113 ?_
      refine lv_istore (lv' := [(5, .int (((2 : Int32) * z))), (0, .int (1)), (1, .int (x1)), (2, .int (x2)), (3, .int (nI j)), (4, .int (x4)), (6, .int (nI i))]) hx hb dX1_meaning_114 hl (by decide) rfl (fun ls hl => ?_)
      refine lv_iinc (v := ((nI i) + (1 : Int32))) (lv' := [(6, .int (((nI i) + (1 : Int32)))), (5, .int (((2 : Int32) * z))), (0, .int (1)), (1, .int (x1)), (2, .int (x2)), (3, .int (nI j)), (4, .int (x4))]) hx hb dX1_meaning_116 hl (k := 6) rfl rfl (by decide) rfl (fun ls hl => ?_)
      refine lv_goto (tgt := 104) hx hb dX1_meaning_119 (by decide) ?_
      have hij : i < j := Nat.lt_of_not_le (fun q => c_1 ((nI_leI (by omega) (by omega)).mpr q))
      exact ih (i + 1) (2 * z) ls (by omega) (by omega) (md_dbl_step hij hz) (by rw [← nI_1]; exact lv_sub hl [2, 3, 4, 5, 6, 1, 0] rfl)

set_option maxHeartbeats 4000000 in
set_option maxRecDepth 100000 in
theorem lpX1_codeOf_24 {p : Program} {l : Launch} {e : Env} {R : Room} {s : State} {m : MethodId} {args : Array Value} {below : List Frame} {meth : Method} {c : Code} {H : Heap} {locs : List Loc} {cells slots : Nat} {Q : State → Prop} (hx : p.tables.exec = Jvm.exec) (hb : c.code = cX1_codeOf) (x1 : Int32) (F : Nat × Nat) (kk : ∀ (ls : Array Slot), lv_has ls 4 [(0, .int (0)), (1, .int (x1)), (2, .int (nI F.1)), (3, .int (nI F.2))] → W p l e R s m args below meth c H locs cells slots Q (F0 m 40 ls [])) :
    ∀ (n : Nat) (v j : Nat) (ls : Array Slot), 1 ≤ n → v < 32 * 2 ^ (n - 1) → v < 65536 → mdHalf 32 (n - 1) v j = F → lv_has ls 4 [(0, .int (0)), (1, .int (x1)), (2, .int (nI v)), (3, .int (nI j))] → W p l e R s m args below meth c H locs cells slots Q (F0 m 24 ls []) := by
  intro n
  induction n with
  | zero => intro v j ls h1; exact absurd h1 (by omega)
  | succ n ih =>
    intro v j ls h1 hn hv9 hz hl
    refine lv_iload_n hx hb dX1_codeOf_24 rfl (lv_at hl 2 rfl) ?_
    refine lv_bipush (v := 32) hx hb dX1_codeOf_25 (by decide) ?_
    refine lv_icmp_lt (tgt := 40) hx hb dX1_codeOf_27 (by decide) (fun c_1 => ?_) (fun c_1 => ?_)
    · have hv : v < 32 := (nI_ltI (by omega) (by decide)).mp c_1
      obtain rfl : F = (v, j) := hz.symm.trans (md_half_end hv)
      exact kk ls (lv_sub hl [0, 1, 2, 3] rfl)
    · refine lv_iload_n hx hb dX1_codeOf_30 rfl (lv_at hl 2 rfl) ?_
      refine lv_iconst (v := 2) hx hb dX1_codeOf_31 (by decide) ?_
      refine lv_idiv hx hb dX1_codeOf_32 (by decide) ?_
      refine lv_istore_n (lv' := [(2, .int (((nI v) / (2 : Int32)))), (0, .int (0)), (1, .int (x1)), (3, .int (nI j))]) hx hb dX1_codeOf_33 rfl hl (by decide) rfl (fun ls hl => ?_)
      refine lv_iinc (v := ((nI j) + (1 : Int32))) (lv' := [(3, .int (((nI j) + (1 : Int32)))), (2, .int (((nI v) / (2 : Int32)))), (0, .int (0)), (1, .int (x1))]) hx hb dX1_codeOf_34 hl (k := 3) rfl rfl (by decide) rfl (fun ls hl => ?_)
      refine lv_goto (tgt := 24) hx hb dX1_codeOf_37 (by decide) ?_
      have hv : ¬ v < 32 := fun q => c_1 ((nI_ltI (by omega) (by decide)).mpr q)
      have e2 : nI v / 2 = nI (v / 2) := pk_div (d := 2) (by omega) (by decide) (by decide)
      rw [e2] at hl
      rcases n with _ | n
      · have hn0 : v < 32 * 2 ^ 0 := hn
        exact absurd hn0 (by rw [Nat.pow_zero]; omega)
      · have hn1 : v < 32 * 2 ^ (n + 1) := hn
        rw [Nat.pow_succ] at hn1
        have hz1 : mdHalf 32 (n + 1) v j = F := hz
        rw [md_half_step hv] at hz1
        exact ih (v / 2) (j + 1) ls (by omega) (show v / 2 < 32 * 2 ^ n by omega) (by omega) hz1 (by rw [← nI_1]; exact lv_sub hl [2, 3, 1, 0] rfl)

set_option maxHeartbeats 4000000 in
set_option maxRecDepth 100000 in
theorem lpX1_codeOf_104 {p : Program} {l : Launch} {e : Env} {R : Room} {s : State} {m : MethodId} {args : Array Value} {below : List Frame} {meth : Method} {c : Code} {H : Heap} {locs : List Loc} {cells slots : Nat} {Q : State → Prop} (hx : p.tables.exec = Jvm.exec) (hb : c.code = cX1_codeOf) (x1 : Int32) (F : Nat × Nat) (kk : ∀ (ls : Array Slot), lv_has ls 4 [(0, .int (1)), (1, .int (x1)), (2, .int (nI F.1)), (3, .int (nI F.2))] → W p l e R s m args below meth c H locs cells slots Q (F0 m 121 ls [])) :
    ∀ (n : Nat) (v j : Nat) (ls : Array Slot), 1 ≤ n → v < 256 * 2 ^ (n - 1) → v < 65536 → mdHalf 256 (n - 1) v j = F → lv_has ls 4 [(0, .int (1)), (1, .int (x1)), (2, .int (nI v)), (3, .int (nI j))] → W p l e R s m args below meth c H locs cells slots Q (F0 m 104 ls []) := by
  intro n
  induction n with
  | zero => intro v j ls h1; exact absurd h1 (by omega)
  | succ n ih =>
    intro v j ls h1 hn hv9 hz hl
    refine lv_iload_n hx hb dX1_codeOf_104 rfl (lv_at hl 2 rfl) ?_
    refine lv_sipush (v := 256) hx hb dX1_codeOf_105 (by decide) ?_
    refine lv_icmp_lt (tgt := 121) hx hb dX1_codeOf_108 (by decide) (fun c_1 => ?_) (fun c_1 => ?_)
    · have hv : v < 256 := (nI_ltI (by omega) (by decide)).mp c_1
      obtain rfl : F = (v, j) := hz.symm.trans (md_half_end hv)
      exact kk ls (lv_sub hl [0, 1, 2, 3] rfl)
    · refine lv_iload_n hx hb dX1_codeOf_111 rfl (lv_at hl 2 rfl) ?_
      refine lv_iconst (v := 2) hx hb dX1_codeOf_112 (by decide) ?_
      refine lv_idiv hx hb dX1_codeOf_113 (by decide) ?_
      refine lv_istore_n (lv' := [(2, .int (((nI v) / (2 : Int32)))), (0, .int (1)), (1, .int (x1)), (3, .int (nI j))]) hx hb dX1_codeOf_114 rfl hl (by decide) rfl (fun ls hl => ?_)
      refine lv_iinc (v := ((nI j) + (1 : Int32))) (lv' := [(3, .int (((nI j) + (1 : Int32)))), (2, .int (((nI v) / (2 : Int32)))), (0, .int (1)), (1, .int (x1))]) hx hb dX1_codeOf_115 hl (k := 3) rfl rfl (by decide) rfl (fun ls hl => ?_)
      refine lv_goto (tgt := 104) hx hb dX1_codeOf_118 (by decide) ?_
      have hv : ¬ v < 256 := fun q => c_1 ((nI_ltI (by omega) (by decide)).mpr q)
      have e2 : nI v / 2 = nI (v / 2) := pk_div (d := 2) (by omega) (by decide) (by decide)
      rw [e2] at hl
      rcases n with _ | n
      · have hn0 : v < 256 * 2 ^ 0 := hn
        exact absurd hn0 (by rw [Nat.pow_zero]; omega)
      · have hn1 : v < 256 * 2 ^ (n + 1) := hn
        rw [Nat.pow_succ] at hn1
        have hz1 : mdHalf 256 (n + 1) v j = F := hz
        rw [md_half_step hv] at hz1
        exact ih (v / 2) (j + 1) ls (by omega) (show v / 2 < 256 * 2 ^ n by omega) (by omega) hz1 (by rw [← nI_1]; exact lv_sub hl [2, 3, 1, 0] rfl)

def fnX1_meaning_0 (n : Nat) : Int32 := if nI ((n ^^^ 85) / 16 % 8) ≤ 0 then (if 128 ≤ nI (n ^^^ 85) then (mdDbl ((n ^^^ 85) / 16 % 8 - 1) ((((16 : Int32) * (nI ((n ^^^ 85) % 16))) + (8 : Int32)))) else ((-(mdDbl ((n ^^^ 85) / 16 % 8 - 1) ((((16 : Int32) * (nI ((n ^^^ 85) % 16))) + (8 : Int32))))))) else (if 128 ≤ nI (n ^^^ 85) then (mdDbl ((n ^^^ 85) / 16 % 8 - 1) ((((16 : Int32) * (nI ((n ^^^ 85) % 16))) + (264 : Int32)))) else ((-(mdDbl ((n ^^^ 85) / 16 % 8 - 1) ((((16 : Int32) * (nI ((n ^^^ 85) % 16))) + (264 : Int32)))))))
set_option maxHeartbeats 4000000 in
set_option maxRecDepth 100000 in
theorem metX1_meaning_0 (l : Launch) (n : Nat) (hn : n < 256) : Met l yX1_meaning wsX1_meaning ({ frames := 0, cells := 0, slots := 0, locals := 0 }) (va_Pc [.int (0), .int (nI n)] (fun _ => True)) (vp_Si (fun r => r = fnX1_meaning_0 n)) 0 0 (fun _ => False) := by
  refine Met.ofW (cc := cX1_meaning) (maxL := 7) (ret := (some .int)) (by decide) rfl ?_
  intro p e s m args below meth c s₁ B hml hv
  obtain ⟨rfl, -⟩ := hv
  have hx := B.exec
  have hb := B.bytes
  have hr := B.returns
  have hts := atoms_spec (ws := wsX1_meaning) B.pre
  have hown : s.vm.findClass RX1 = some m.cls := findClass_of_methodNamed B.named
  have hlocks := B.notSynchronized
  have hl := lv_entry ([.int (0), .int (nI n)]) (n := 7) (Nat.le_of_ble_eq_true rfl)
  rw [lg_entry_eq]
  generalize (lg_sl ([.int (0), .int (nI n)]) ++ List.replicate (7 - (lg_sl ([.int (0), .int (nI n)])).length) Slot.unset).toArray = ls at hl ⊢
  have hl : lv_has ls 7 [(0, .int (0)), (1, .int (nI n))] := hl
  refine lv_iload_n hx hb dX1_meaning_0 rfl (lv_at hl 0 rfl) ?_
  refine lv_if_ne (tgt := 11) hx hb dX1_meaning_1 (by decide) (fun c9 => absurd (by decide) c9) (fun _ => ?_)
  refine lv_iload_n hx hb dX1_meaning_4 rfl (lv_at hl 1 rfl) ?_
  refine lv_bipush (v := 85) hx hb dX1_meaning_5 (by decide) ?_
  refine lv_ixor hx hb dX1_meaning_7 ?_
  refine lv_goto (tgt := 16) hx hb dX1_meaning_8 (by decide) ?_
  refine lv_topi (fun x_2 ex_2 => ?_)
  obtain rfl : x_2 = nI (n ^^^ 85) := ex_2.trans (md_xor n 85)
  have hq : (n ^^^ 85) < 256 := Nat.xor_lt_two_pow (n := 8) hn (by decide)
  refine lv_istore_n (lv' := [(2, .int (nI (n ^^^ 85))), (0, .int (0)), (1, .int (nI n))]) hx hb dX1_meaning_16 rfl hl (by decide) rfl (fun ls hl => ?_)
  refine lv_iload_n hx hb dX1_meaning_17 rfl (lv_at hl 0 rfl) ?_
  refine lv_bipush (v := 16) hx hb dX1_meaning_18 (by decide) ?_
  refine lv_idiv hx hb dX1_meaning_20 (by decide) ?_
  refine lv_bipush (v := 8) hx hb dX1_meaning_21 (by decide) ?_
  refine lv_irem hx hb dX1_meaning_23 (by decide) ?_
  refine lv_topi (fun x_3 ex_3 => ?_)
  obtain rfl : x_3 = nI ((n ^^^ 85) / 16 % 8) := ex_3.trans (by have e1 : nI (n ^^^ 85) / 16 = nI ((n ^^^ 85) / 16) := pk_div (d := 16) (by omega) (by decide) (by decide); rw [e1]; exact pk_rem (d := 8) (by omega) (by decide) (by decide))
  refine lv_istore_n (lv' := [(3, .int (nI ((n ^^^ 85) / 16 % 8))), (2, .int (nI (n ^^^ 85))), (0, .int (0)), (1, .int (nI n))]) hx hb dX1_meaning_24 rfl hl (by decide) rfl (fun ls hl => ?_)
  refine lv_iload_n hx hb dX1_meaning_25 rfl (lv_at hl 1 rfl) ?_
  refine lv_bipush (v := 16) hx hb dX1_meaning_26 (by decide) ?_
  refine lv_irem hx hb dX1_meaning_28 (by decide) ?_
  refine lv_topi (fun x_4 ex_4 => ?_)
  obtain rfl : x_4 = nI ((n ^^^ 85) % 16) := ex_4.trans (pk_rem (d := 16) (by omega) (by decide) (by decide))
  refine lv_istore (lv' := [(4, .int (nI ((n ^^^ 85) % 16))), (3, .int (nI ((n ^^^ 85) / 16 % 8))), (2, .int (nI (n ^^^ 85))), (0, .int (0)), (1, .int (nI n))]) hx hb dX1_meaning_29 hl (by decide) rfl (fun ls hl => ?_)
  refine lv_bipush (v := 16) hx hb dX1_meaning_31 (by decide) ?_
  refine lv_iload hx hb dX1_meaning_33 (lv_at hl 0 rfl) ?_
  refine lv_imul hx hb dX1_meaning_35 ?_
  refine lv_bipush (v := 8) hx hb dX1_meaning_36 (by decide) ?_
  refine lv_iadd hx hb dX1_meaning_38 ?_
  refine lv_istore (lv' := [(5, .int ((((16 : Int32) * (nI ((n ^^^ 85) % 16))) + (8 : Int32)))), (4, .int (nI ((n ^^^ 85) % 16))), (3, .int (nI ((n ^^^ 85) / 16 % 8))), (2, .int (nI (n ^^^ 85))), (0, .int (0)), (1, .int (nI n))]) hx hb dX1_meaning_39 hl (by decide) rfl (fun ls hl => ?_)
  refine lv_iload_n hx hb dX1_meaning_41 rfl (lv_at hl 4 rfl) ?_
  refine lv_if_ne (tgt := 60) hx hb dX1_meaning_42 (by decide) (fun c9 => absurd (by decide) c9) (fun _ => ?_)
  refine lv_iload_n hx hb dX1_meaning_45 rfl (lv_at hl 2 rfl) ?_
  refine lv_if_le (tgt := 60) hx hb dX1_meaning_46 (by decide) (fun c_6 => ?_) (fun c_6 => ?_)
  · refine lv_iconst (v := 1) hx hb dX1_meaning_60 (by decide) ?_
    refine lv_istore (lv' := [(6, .int (1)), (5, .int ((((16 : Int32) * (nI ((n ^^^ 85) % 16))) + (8 : Int32)))), (4, .int (nI ((n ^^^ 85) % 16))), (3, .int (nI ((n ^^^ 85) / 16 % 8))), (2, .int (nI (n ^^^ 85))), (0, .int (0)), (1, .int (nI n))]) hx hb dX1_meaning_61 hl (by decide) rfl (fun ls hl => ?_)
    refine lpX1_meaning_63 hx hb ((n ^^^ 85) / 16 % 8) (by omega) _ _ _ (mdDbl ((n ^^^ 85) / 16 % 8 - 1) ((((16 : Int32) * (nI ((n ^^^ 85) % 16))) + (8 : Int32)))) (fun i ls hl => ?_) ((n ^^^ 85) / 16 % 8 + 1) 1 ((((16 : Int32) * (nI ((n ^^^ 85) % 16))) + (8 : Int32))) ls (by omega) (by omega) rfl (lv_sub hl [5, 6, 4, 3, 2, 1, 0] rfl)
    refine lv_iload_n hx hb dX1_meaning_85 rfl (lv_at hl 0 rfl) ?_
    refine lv_iconst (v := 1) hx hb dX1_meaning_86 (by decide) ?_
    refine lv_icmp_ne (tgt := 128) hx hb dX1_meaning_87 (by decide) (fun _ => ?_) (fun c9 => absurd c9 (by decide))
    refine lv_iload_n hx hb dX1_meaning_128 rfl (lv_at hl 0 rfl) ?_
    refine lv_if_ne (tgt := 147) hx hb dX1_meaning_129 (by decide) (fun c9 => absurd (by decide) c9) (fun _ => ?_)
    refine lv_iload_n hx hb dX1_meaning_132 rfl (lv_at hl 2 rfl) ?_
    refine lv_sipush (v := 128) hx hb dX1_meaning_133 (by decide) ?_
    refine lv_icmp_ge (tgt := 143) hx hb dX1_meaning_136 (by decide) (fun c_9 => ?_) (fun c_9 => ?_)
    · refine lv_iconst (v := 0) hx hb dX1_meaning_143 (by decide) ?_
      refine lv_goto (tgt := 158) hx hb dX1_meaning_144 (by decide) ?_
      refine lv_istore (lv' := [(6, .int (0)), (0, .int (0)), (1, .int (nI n)), (2, .int (nI (n ^^^ 85))), (3, .int (nI ((n ^^^ 85) / 16 % 8))), (4, .int (nI ((n ^^^ 85) % 16))), (5, .int (mdDbl ((n ^^^ 85) / 16 % 8 - 1) ((((16 : Int32) * (nI ((n ^^^ 85) % 16))) + (8 : Int32)))))]) hx hb dX1_meaning_158 hl (by decide) rfl (fun ls hl => ?_)
      refine lv_iload hx hb dX1_meaning_160 (lv_at hl 0 rfl) ?_
      refine lv_if_eq (tgt := 171) hx hb dX1_meaning_162 (by decide) (fun _ => ?_) (fun c9 => absurd (by decide) c9)
      refine lv_iload hx hb dX1_meaning_171 (lv_at hl 6 rfl) ?_
      exact W.iret (v := mdDbl ((n ^^^ 85) / 16 % 8 - 1) ((((16 : Int32) * (nI ((n ^^^ 85) % 16))) + (8 : Int32)))) hx hb hr (fun t ht _ => ⟨mdDbl ((n ^^^ 85) / 16 % 8 - 1) ((((16 : Int32) * (nI ((n ^^^ 85) % 16))) + (8 : Int32))), rfl, by unfold fnX1_meaning_0; rw [if_pos c_6, if_pos c_9], ht⟩) (fun q h => absurd h List.not_mem_nil) dX1_meaning_173
    · refine lv_iconst (v := 1) hx hb dX1_meaning_139 (by decide) ?_
      refine lv_goto (tgt := 158) hx hb dX1_meaning_140 (by decide) ?_
      refine lv_istore (lv' := [(6, .int (1)), (0, .int (0)), (1, .int (nI n)), (2, .int (nI (n ^^^ 85))), (3, .int (nI ((n ^^^ 85) / 16 % 8))), (4, .int (nI ((n ^^^ 85) % 16))), (5, .int (mdDbl ((n ^^^ 85) / 16 % 8 - 1) ((((16 : Int32) * (nI ((n ^^^ 85) % 16))) + (8 : Int32)))))]) hx hb dX1_meaning_158 hl (by decide) rfl (fun ls hl => ?_)
      refine lv_iload hx hb dX1_meaning_160 (lv_at hl 0 rfl) ?_
      refine lv_if_eq (tgt := 171) hx hb dX1_meaning_162 (by decide) (fun c9 => absurd c9 (by decide)) (fun _ => ?_)
      refine lv_iload hx hb dX1_meaning_165 (lv_at hl 6 rfl) ?_
      refine lv_ineg hx hb dX1_meaning_167 ?_
      refine lv_goto (tgt := 173) hx hb dX1_meaning_168 (by decide) ?_
      exact W.iret (v := (-(mdDbl ((n ^^^ 85) / 16 % 8 - 1) ((((16 : Int32) * (nI ((n ^^^ 85) % 16))) + (8 : Int32)))))) hx hb hr (fun t ht _ => ⟨(-(mdDbl ((n ^^^ 85) / 16 % 8 - 1) ((((16 : Int32) * (nI ((n ^^^ 85) % 16))) + (8 : Int32))))), rfl, by unfold fnX1_meaning_0; rw [if_pos c_6, if_neg c_9], ht⟩) (fun q h => absurd h List.not_mem_nil) dX1_meaning_173
  · refine lv_bipush (v := 16) hx hb dX1_meaning_49 (by decide) ?_
    refine lv_iload hx hb dX1_meaning_51 (lv_at hl 1 rfl) ?_
    refine lv_imul hx hb dX1_meaning_53 ?_
    refine lv_sipush (v := 264) hx hb dX1_meaning_54 (by decide) ?_
    refine lv_iadd hx hb dX1_meaning_57 ?_
    refine lv_istore (lv' := [(5, .int ((((16 : Int32) * (nI ((n ^^^ 85) % 16))) + (264 : Int32)))), (4, .int (nI ((n ^^^ 85) % 16))), (3, .int (nI ((n ^^^ 85) / 16 % 8))), (2, .int (nI (n ^^^ 85))), (0, .int (0)), (1, .int (nI n))]) hx hb dX1_meaning_58 hl (by decide) rfl (fun ls hl => ?_)
    refine lv_iconst (v := 1) hx hb dX1_meaning_60 (by decide) ?_
    refine lv_istore (lv' := [(6, .int (1)), (5, .int ((((16 : Int32) * (nI ((n ^^^ 85) % 16))) + (264 : Int32)))), (4, .int (nI ((n ^^^ 85) % 16))), (3, .int (nI ((n ^^^ 85) / 16 % 8))), (2, .int (nI (n ^^^ 85))), (0, .int (0)), (1, .int (nI n))]) hx hb dX1_meaning_61 hl (by decide) rfl (fun ls hl => ?_)
    refine lpX1_meaning_63 hx hb ((n ^^^ 85) / 16 % 8) (by omega) _ _ _ (mdDbl ((n ^^^ 85) / 16 % 8 - 1) ((((16 : Int32) * (nI ((n ^^^ 85) % 16))) + (264 : Int32)))) (fun i ls hl => ?_) ((n ^^^ 85) / 16 % 8 + 1) 1 ((((16 : Int32) * (nI ((n ^^^ 85) % 16))) + (264 : Int32))) ls (by omega) (by omega) rfl (lv_sub hl [5, 6, 4, 3, 2, 1, 0] rfl)
    refine lv_iload_n hx hb dX1_meaning_85 rfl (lv_at hl 0 rfl) ?_
    refine lv_iconst (v := 1) hx hb dX1_meaning_86 (by decide) ?_
    refine lv_icmp_ne (tgt := 128) hx hb dX1_meaning_87 (by decide) (fun _ => ?_) (fun c9 => absurd c9 (by decide))
    refine lv_iload_n hx hb dX1_meaning_128 rfl (lv_at hl 0 rfl) ?_
    refine lv_if_ne (tgt := 147) hx hb dX1_meaning_129 (by decide) (fun c9 => absurd (by decide) c9) (fun _ => ?_)
    refine lv_iload_n hx hb dX1_meaning_132 rfl (lv_at hl 2 rfl) ?_
    refine lv_sipush (v := 128) hx hb dX1_meaning_133 (by decide) ?_
    refine lv_icmp_ge (tgt := 143) hx hb dX1_meaning_136 (by decide) (fun c_14 => ?_) (fun c_14 => ?_)
    · refine lv_iconst (v := 0) hx hb dX1_meaning_143 (by decide) ?_
      refine lv_goto (tgt := 158) hx hb dX1_meaning_144 (by decide) ?_
      refine lv_istore (lv' := [(6, .int (0)), (0, .int (0)), (1, .int (nI n)), (2, .int (nI (n ^^^ 85))), (3, .int (nI ((n ^^^ 85) / 16 % 8))), (4, .int (nI ((n ^^^ 85) % 16))), (5, .int (mdDbl ((n ^^^ 85) / 16 % 8 - 1) ((((16 : Int32) * (nI ((n ^^^ 85) % 16))) + (264 : Int32)))))]) hx hb dX1_meaning_158 hl (by decide) rfl (fun ls hl => ?_)
      refine lv_iload hx hb dX1_meaning_160 (lv_at hl 0 rfl) ?_
      refine lv_if_eq (tgt := 171) hx hb dX1_meaning_162 (by decide) (fun _ => ?_) (fun c9 => absurd (by decide) c9)
      refine lv_iload hx hb dX1_meaning_171 (lv_at hl 6 rfl) ?_
      exact W.iret (v := mdDbl ((n ^^^ 85) / 16 % 8 - 1) ((((16 : Int32) * (nI ((n ^^^ 85) % 16))) + (264 : Int32)))) hx hb hr (fun t ht _ => ⟨mdDbl ((n ^^^ 85) / 16 % 8 - 1) ((((16 : Int32) * (nI ((n ^^^ 85) % 16))) + (264 : Int32))), rfl, by unfold fnX1_meaning_0; rw [if_neg c_6, if_pos c_14], ht⟩) (fun q h => absurd h List.not_mem_nil) dX1_meaning_173
    · refine lv_iconst (v := 1) hx hb dX1_meaning_139 (by decide) ?_
      refine lv_goto (tgt := 158) hx hb dX1_meaning_140 (by decide) ?_
      refine lv_istore (lv' := [(6, .int (1)), (0, .int (0)), (1, .int (nI n)), (2, .int (nI (n ^^^ 85))), (3, .int (nI ((n ^^^ 85) / 16 % 8))), (4, .int (nI ((n ^^^ 85) % 16))), (5, .int (mdDbl ((n ^^^ 85) / 16 % 8 - 1) ((((16 : Int32) * (nI ((n ^^^ 85) % 16))) + (264 : Int32)))))]) hx hb dX1_meaning_158 hl (by decide) rfl (fun ls hl => ?_)
      refine lv_iload hx hb dX1_meaning_160 (lv_at hl 0 rfl) ?_
      refine lv_if_eq (tgt := 171) hx hb dX1_meaning_162 (by decide) (fun c9 => absurd c9 (by decide)) (fun _ => ?_)
      refine lv_iload hx hb dX1_meaning_165 (lv_at hl 6 rfl) ?_
      refine lv_ineg hx hb dX1_meaning_167 ?_
      refine lv_goto (tgt := 173) hx hb dX1_meaning_168 (by decide) ?_
      exact W.iret (v := (-(mdDbl ((n ^^^ 85) / 16 % 8 - 1) ((((16 : Int32) * (nI ((n ^^^ 85) % 16))) + (264 : Int32)))))) hx hb hr (fun t ht _ => ⟨(-(mdDbl ((n ^^^ 85) / 16 % 8 - 1) ((((16 : Int32) * (nI ((n ^^^ 85) % 16))) + (264 : Int32))))), rfl, by unfold fnX1_meaning_0; rw [if_neg c_6, if_neg c_14], ht⟩) (fun q h => absurd h List.not_mem_nil) dX1_meaning_173

def fnX1_meaning_1 (n : Nat) : Int32 := if nI ((255 - n) / 16 % 8) ≤ 1 then (if nI (255 - n) ≤ 127 then (((mdDbl ((255 - n) / 16 % 8 - 0) ((((8 : Int32) * (nI ((255 - n) % 16))) + (132 : Int32)))) + (-132 : Int32))) else ((-((mdDbl ((255 - n) / 16 % 8 - 0) ((((8 : Int32) * (nI ((255 - n) % 16))) + (132 : Int32)))) + (-132 : Int32))))) else (if nI (255 - n) ≤ 127 then (((mdDbl ((255 - n) / 16 % 8 - 0) ((((8 : Int32) * (nI ((255 - n) % 16))) + (132 : Int32)))) + (-132 : Int32))) else ((-((mdDbl ((255 - n) / 16 % 8 - 0) ((((8 : Int32) * (nI ((255 - n) % 16))) + (132 : Int32)))) + (-132 : Int32)))))
set_option maxHeartbeats 4000000 in
set_option maxRecDepth 100000 in
theorem metX1_meaning_1 (l : Launch) (n : Nat) (hn : n < 256) : Met l yX1_meaning wsX1_meaning ({ frames := 0, cells := 0, slots := 0, locals := 0 }) (va_Pc [.int (1), .int (nI n)] (fun _ => True)) (vp_Si (fun r => r = fnX1_meaning_1 n)) 0 0 (fun _ => False) := by
  refine Met.ofW (cc := cX1_meaning) (maxL := 7) (ret := (some .int)) (by decide) rfl ?_
  intro p e s m args below meth c s₁ B hml hv
  obtain ⟨rfl, -⟩ := hv
  have hx := B.exec
  have hb := B.bytes
  have hr := B.returns
  have hts := atoms_spec (ws := wsX1_meaning) B.pre
  have hown : s.vm.findClass RX1 = some m.cls := findClass_of_methodNamed B.named
  have hlocks := B.notSynchronized
  have hl := lv_entry ([.int (1), .int (nI n)]) (n := 7) (Nat.le_of_ble_eq_true rfl)
  rw [lg_entry_eq]
  generalize (lg_sl ([.int (1), .int (nI n)]) ++ List.replicate (7 - (lg_sl ([.int (1), .int (nI n)])).length) Slot.unset).toArray = ls at hl ⊢
  have hl : lv_has ls 7 [(0, .int (1)), (1, .int (nI n))] := hl
  refine lv_iload_n hx hb dX1_meaning_0 rfl (lv_at hl 0 rfl) ?_
  refine lv_if_ne (tgt := 11) hx hb dX1_meaning_1 (by decide) (fun _ => ?_) (fun c9 => absurd c9 (by decide))
  refine lv_sipush (v := 255) hx hb dX1_meaning_11 (by decide) ?_
  refine lv_iload_n hx hb dX1_meaning_14 rfl (lv_at hl 1 rfl) ?_
  refine lv_isub hx hb dX1_meaning_15 ?_
  refine lv_topi (fun x_2 ex_2 => ?_)
  obtain rfl : x_2 = nI (255 - n) := ex_2.trans (pk_sub (a := 255) (by omega))
  have hq : (255 - n) < 256 := by omega
  refine lv_istore_n (lv' := [(2, .int (nI (255 - n))), (0, .int (1)), (1, .int (nI n))]) hx hb dX1_meaning_16 rfl hl (by decide) rfl (fun ls hl => ?_)
  refine lv_iload_n hx hb dX1_meaning_17 rfl (lv_at hl 0 rfl) ?_
  refine lv_bipush (v := 16) hx hb dX1_meaning_18 (by decide) ?_
  refine lv_idiv hx hb dX1_meaning_20 (by decide) ?_
  refine lv_bipush (v := 8) hx hb dX1_meaning_21 (by decide) ?_
  refine lv_irem hx hb dX1_meaning_23 (by decide) ?_
  refine lv_topi (fun x_3 ex_3 => ?_)
  obtain rfl : x_3 = nI ((255 - n) / 16 % 8) := ex_3.trans (by have e1 : nI (255 - n) / 16 = nI ((255 - n) / 16) := pk_div (d := 16) (by omega) (by decide) (by decide); rw [e1]; exact pk_rem (d := 8) (by omega) (by decide) (by decide))
  refine lv_istore_n (lv' := [(3, .int (nI ((255 - n) / 16 % 8))), (2, .int (nI (255 - n))), (0, .int (1)), (1, .int (nI n))]) hx hb dX1_meaning_24 rfl hl (by decide) rfl (fun ls hl => ?_)
  refine lv_iload_n hx hb dX1_meaning_25 rfl (lv_at hl 1 rfl) ?_
  refine lv_bipush (v := 16) hx hb dX1_meaning_26 (by decide) ?_
  refine lv_irem hx hb dX1_meaning_28 (by decide) ?_
  refine lv_topi (fun x_4 ex_4 => ?_)
  obtain rfl : x_4 = nI ((255 - n) % 16) := ex_4.trans (pk_rem (d := 16) (by omega) (by decide) (by decide))
  refine lv_istore (lv' := [(4, .int (nI ((255 - n) % 16))), (3, .int (nI ((255 - n) / 16 % 8))), (2, .int (nI (255 - n))), (0, .int (1)), (1, .int (nI n))]) hx hb dX1_meaning_29 hl (by decide) rfl (fun ls hl => ?_)
  refine lv_bipush (v := 16) hx hb dX1_meaning_31 (by decide) ?_
  refine lv_iload hx hb dX1_meaning_33 (lv_at hl 0 rfl) ?_
  refine lv_imul hx hb dX1_meaning_35 ?_
  refine lv_bipush (v := 8) hx hb dX1_meaning_36 (by decide) ?_
  refine lv_iadd hx hb dX1_meaning_38 ?_
  refine lv_istore (lv' := [(5, .int ((((16 : Int32) * (nI ((255 - n) % 16))) + (8 : Int32)))), (4, .int (nI ((255 - n) % 16))), (3, .int (nI ((255 - n) / 16 % 8))), (2, .int (nI (255 - n))), (0, .int (1)), (1, .int (nI n))]) hx hb dX1_meaning_39 hl (by decide) rfl (fun ls hl => ?_)
  refine lv_iload_n hx hb dX1_meaning_41 rfl (lv_at hl 4 rfl) ?_
  refine lv_if_ne (tgt := 60) hx hb dX1_meaning_42 (by decide) (fun _ => ?_) (fun c9 => absurd c9 (by decide))
  refine lv_iconst (v := 1) hx hb dX1_meaning_60 (by decide) ?_
  refine lv_istore (lv' := [(6, .int (1)), (5, .int ((((16 : Int32) * (nI ((255 - n) % 16))) + (8 : Int32)))), (4, .int (nI ((255 - n) % 16))), (3, .int (nI ((255 - n) / 16 % 8))), (2, .int (nI (255 - n))), (0, .int (1)), (1, .int (nI n))]) hx hb dX1_meaning_61 hl (by decide) rfl (fun ls hl => ?_)
  refine lv_iload hx hb dX1_meaning_63 (lv_at hl 0 rfl) ?_
  refine lv_iload_n hx hb dX1_meaning_65 rfl (lv_at hl 3 rfl) ?_
  refine lv_icmp_ge (tgt := 85) hx hb dX1_meaning_66 (by decide) (fun c_6 => ?_) (fun c_6 => ?_)
  · refine lv_iload_n hx hb dX1_meaning_85 rfl (lv_at hl 5 rfl) ?_
    refine lv_iconst (v := 1) hx hb dX1_meaning_86 (by decide) ?_
    refine lv_icmp_ne (tgt := 128) hx hb dX1_meaning_87 (by decide) (fun c9 => absurd (by decide) c9) (fun _ => ?_)
    refine lv_bipush (v := 8) hx hb dX1_meaning_90 (by decide) ?_
    refine lv_iload hx hb dX1_meaning_92 (lv_at hl 2 rfl) ?_
    refine lv_imul hx hb dX1_meaning_94 ?_
    refine lv_sipush (v := 132) hx hb dX1_meaning_95 (by decide) ?_
    refine lv_iadd hx hb dX1_meaning_98 ?_
    refine lv_istore (lv' := [(5, .int ((((8 : Int32) * (nI ((255 - n) % 16))) + (132 : Int32)))), (6, .int (1)), (4, .int (nI ((255 - n) % 16))), (3, .int (nI ((255 - n) / 16 % 8))), (2, .int (nI (255 - n))), (0, .int (1)), (1, .int (nI n))]) hx hb dX1_meaning_99 hl (by decide) rfl (fun ls hl => ?_)
    refine lv_iconst (v := 0) hx hb dX1_meaning_101 (by decide) ?_
    refine lv_istore (lv' := [(6, .int (0)), (5, .int ((((8 : Int32) * (nI ((255 - n) % 16))) + (132 : Int32)))), (4, .int (nI ((255 - n) % 16))), (3, .int (nI ((255 - n) / 16 % 8))), (2, .int (nI (255 - n))), (0, .int (1)), (1, .int (nI n))]) hx hb dX1_meaning_102 hl (by decide) rfl (fun ls hl => ?_)
    refine lpX1_meaning_104 hx hb ((255 - n) / 16 % 8) (by omega) _ _ _ (mdDbl ((255 - n) / 16 % 8 - 0) ((((8 : Int32) * (nI ((255 - n) % 16))) + (132 : Int32)))) (fun i ls hl => ?_) ((255 - n) / 16 % 8 + 2) 0 ((((8 : Int32) * (nI ((255 - n) % 16))) + (132 : Int32))) ls (by omega) (by omega) rfl (lv_sub hl [5, 6, 4, 3, 2, 1, 0] rfl)
    refine lv_iincW (v := ((mdDbl ((255 - n) / 16 % 8 - 0) ((((8 : Int32) * (nI ((255 - n) % 16))) + (132 : Int32)))) + (-132 : Int32))) (lv' := [(5, .int (((mdDbl ((255 - n) / 16 % 8 - 0) ((((8 : Int32) * (nI ((255 - n) % 16))) + (132 : Int32)))) + (-132 : Int32)))), (0, .int (1)), (1, .int (nI n)), (2, .int (nI (255 - n))), (3, .int (nI ((255 - n) / 16 % 8))), (4, .int (nI ((255 - n) % 16))), (6, .int (nI i))]) hx hb dX1_meaning_122 hl (k := 5) rfl rfl (by decide) rfl (fun ls hl => ?_)
    refine lv_iload_n hx hb dX1_meaning_128 rfl (lv_at hl 1 rfl) ?_
    refine lv_if_ne (tgt := 147) hx hb dX1_meaning_129 (by decide) (fun _ => ?_) (fun c9 => absurd c9 (by decide))
    refine lv_iload_n hx hb dX1_meaning_147 rfl (lv_at hl 3 rfl) ?_
    refine lv_bipush (v := 127) hx hb dX1_meaning_148 (by decide) ?_
    refine lv_icmp_le (tgt := 157) hx hb dX1_meaning_150 (by decide) (fun c_9 => ?_) (fun c_9 => ?_)
    · refine lv_iconst (v := 0) hx hb dX1_meaning_157 (by decide) ?_
      refine lv_istore (lv' := [(6, .int (0)), (5, .int (((mdDbl ((255 - n) / 16 % 8 - 0) ((((8 : Int32) * (nI ((255 - n) % 16))) + (132 : Int32)))) + (-132 : Int32)))), (0, .int (1)), (1, .int (nI n)), (2, .int (nI (255 - n))), (3, .int (nI ((255 - n) / 16 % 8))), (4, .int (nI ((255 - n) % 16)))]) hx hb dX1_meaning_158 hl (by decide) rfl (fun ls hl => ?_)
      refine lv_iload hx hb dX1_meaning_160 (lv_at hl 0 rfl) ?_
      refine lv_if_eq (tgt := 171) hx hb dX1_meaning_162 (by decide) (fun _ => ?_) (fun c9 => absurd (by decide) c9)
      refine lv_iload hx hb dX1_meaning_171 (lv_at hl 1 rfl) ?_
      exact W.iret (v := ((mdDbl ((255 - n) / 16 % 8 - 0) ((((8 : Int32) * (nI ((255 - n) % 16))) + (132 : Int32)))) + (-132 : Int32))) hx hb hr (fun t ht _ => ⟨((mdDbl ((255 - n) / 16 % 8 - 0) ((((8 : Int32) * (nI ((255 - n) % 16))) + (132 : Int32)))) + (-132 : Int32)), rfl, by unfold fnX1_meaning_1; rw [if_pos c_6, if_pos c_9], ht⟩) (fun q h => absurd h List.not_mem_nil) dX1_meaning_173
    · refine lv_iconst (v := 1) hx hb dX1_meaning_153 (by decide) ?_
      refine lv_goto (tgt := 158) hx hb dX1_meaning_154 (by decide) ?_
      refine lv_istore (lv' := [(6, .int (1)), (5, .int (((mdDbl ((255 - n) / 16 % 8 - 0) ((((8 : Int32) * (nI ((255 - n) % 16))) + (132 : Int32)))) + (-132 : Int32)))), (0, .int (1)), (1, .int (nI n)), (2, .int (nI (255 - n))), (3, .int (nI ((255 - n) / 16 % 8))), (4, .int (nI ((255 - n) % 16)))]) hx hb dX1_meaning_158 hl (by decide) rfl (fun ls hl => ?_)
      refine lv_iload hx hb dX1_meaning_160 (lv_at hl 0 rfl) ?_
      refine lv_if_eq (tgt := 171) hx hb dX1_meaning_162 (by decide) (fun c9 => absurd c9 (by decide)) (fun _ => ?_)
      refine lv_iload hx hb dX1_meaning_165 (lv_at hl 1 rfl) ?_
      refine lv_ineg hx hb dX1_meaning_167 ?_
      refine lv_goto (tgt := 173) hx hb dX1_meaning_168 (by decide) ?_
      exact W.iret (v := (-((mdDbl ((255 - n) / 16 % 8 - 0) ((((8 : Int32) * (nI ((255 - n) % 16))) + (132 : Int32)))) + (-132 : Int32)))) hx hb hr (fun t ht _ => ⟨(-((mdDbl ((255 - n) / 16 % 8 - 0) ((((8 : Int32) * (nI ((255 - n) % 16))) + (132 : Int32)))) + (-132 : Int32))), rfl, by unfold fnX1_meaning_1; rw [if_pos c_6, if_neg c_9], ht⟩) (fun q h => absurd h List.not_mem_nil) dX1_meaning_173
  · refine lv_iload_n hx hb dX1_meaning_69 rfl (lv_at hl 5 rfl) ?_
    refine lv_if_ne (tgt := 85) hx hb dX1_meaning_70 (by decide) (fun _ => ?_) (fun c9 => absurd c9 (by decide))
    refine lv_iload_n hx hb dX1_meaning_85 rfl (lv_at hl 5 rfl) ?_
    refine lv_iconst (v := 1) hx hb dX1_meaning_86 (by decide) ?_
    refine lv_icmp_ne (tgt := 128) hx hb dX1_meaning_87 (by decide) (fun c9 => absurd (by decide) c9) (fun _ => ?_)
    refine lv_bipush (v := 8) hx hb dX1_meaning_90 (by decide) ?_
    refine lv_iload hx hb dX1_meaning_92 (lv_at hl 2 rfl) ?_
    refine lv_imul hx hb dX1_meaning_94 ?_
    refine lv_sipush (v := 132) hx hb dX1_meaning_95 (by decide) ?_
    refine lv_iadd hx hb dX1_meaning_98 ?_
    refine lv_istore (lv' := [(5, .int ((((8 : Int32) * (nI ((255 - n) % 16))) + (132 : Int32)))), (6, .int (1)), (4, .int (nI ((255 - n) % 16))), (3, .int (nI ((255 - n) / 16 % 8))), (2, .int (nI (255 - n))), (0, .int (1)), (1, .int (nI n))]) hx hb dX1_meaning_99 hl (by decide) rfl (fun ls hl => ?_)
    refine lv_iconst (v := 0) hx hb dX1_meaning_101 (by decide) ?_
    refine lv_istore (lv' := [(6, .int (0)), (5, .int ((((8 : Int32) * (nI ((255 - n) % 16))) + (132 : Int32)))), (4, .int (nI ((255 - n) % 16))), (3, .int (nI ((255 - n) / 16 % 8))), (2, .int (nI (255 - n))), (0, .int (1)), (1, .int (nI n))]) hx hb dX1_meaning_102 hl (by decide) rfl (fun ls hl => ?_)
    refine lpX1_meaning_104 hx hb ((255 - n) / 16 % 8) (by omega) _ _ _ (mdDbl ((255 - n) / 16 % 8 - 0) ((((8 : Int32) * (nI ((255 - n) % 16))) + (132 : Int32)))) (fun i ls hl => ?_) ((255 - n) / 16 % 8 + 2) 0 ((((8 : Int32) * (nI ((255 - n) % 16))) + (132 : Int32))) ls (by omega) (by omega) rfl (lv_sub hl [5, 6, 4, 3, 2, 1, 0] rfl)
    refine lv_iincW (v := ((mdDbl ((255 - n) / 16 % 8 - 0) ((((8 : Int32) * (nI ((255 - n) % 16))) + (132 : Int32)))) + (-132 : Int32))) (lv' := [(5, .int (((mdDbl ((255 - n) / 16 % 8 - 0) ((((8 : Int32) * (nI ((255 - n) % 16))) + (132 : Int32)))) + (-132 : Int32)))), (0, .int (1)), (1, .int (nI n)), (2, .int (nI (255 - n))), (3, .int (nI ((255 - n) / 16 % 8))), (4, .int (nI ((255 - n) % 16))), (6, .int (nI i))]) hx hb dX1_meaning_122 hl (k := 5) rfl rfl (by decide) rfl (fun ls hl => ?_)
    refine lv_iload_n hx hb dX1_meaning_128 rfl (lv_at hl 1 rfl) ?_
    refine lv_if_ne (tgt := 147) hx hb dX1_meaning_129 (by decide) (fun _ => ?_) (fun c9 => absurd c9 (by decide))
    refine lv_iload_n hx hb dX1_meaning_147 rfl (lv_at hl 3 rfl) ?_
    refine lv_bipush (v := 127) hx hb dX1_meaning_148 (by decide) ?_
    refine lv_icmp_le (tgt := 157) hx hb dX1_meaning_150 (by decide) (fun c_15 => ?_) (fun c_15 => ?_)
    · refine lv_iconst (v := 0) hx hb dX1_meaning_157 (by decide) ?_
      refine lv_istore (lv' := [(6, .int (0)), (5, .int (((mdDbl ((255 - n) / 16 % 8 - 0) ((((8 : Int32) * (nI ((255 - n) % 16))) + (132 : Int32)))) + (-132 : Int32)))), (0, .int (1)), (1, .int (nI n)), (2, .int (nI (255 - n))), (3, .int (nI ((255 - n) / 16 % 8))), (4, .int (nI ((255 - n) % 16)))]) hx hb dX1_meaning_158 hl (by decide) rfl (fun ls hl => ?_)
      refine lv_iload hx hb dX1_meaning_160 (lv_at hl 0 rfl) ?_
      refine lv_if_eq (tgt := 171) hx hb dX1_meaning_162 (by decide) (fun _ => ?_) (fun c9 => absurd (by decide) c9)
      refine lv_iload hx hb dX1_meaning_171 (lv_at hl 1 rfl) ?_
      exact W.iret (v := ((mdDbl ((255 - n) / 16 % 8 - 0) ((((8 : Int32) * (nI ((255 - n) % 16))) + (132 : Int32)))) + (-132 : Int32))) hx hb hr (fun t ht _ => ⟨((mdDbl ((255 - n) / 16 % 8 - 0) ((((8 : Int32) * (nI ((255 - n) % 16))) + (132 : Int32)))) + (-132 : Int32)), rfl, by unfold fnX1_meaning_1; rw [if_neg c_6, if_pos c_15], ht⟩) (fun q h => absurd h List.not_mem_nil) dX1_meaning_173
    · refine lv_iconst (v := 1) hx hb dX1_meaning_153 (by decide) ?_
      refine lv_goto (tgt := 158) hx hb dX1_meaning_154 (by decide) ?_
      refine lv_istore (lv' := [(6, .int (1)), (5, .int (((mdDbl ((255 - n) / 16 % 8 - 0) ((((8 : Int32) * (nI ((255 - n) % 16))) + (132 : Int32)))) + (-132 : Int32)))), (0, .int (1)), (1, .int (nI n)), (2, .int (nI (255 - n))), (3, .int (nI ((255 - n) / 16 % 8))), (4, .int (nI ((255 - n) % 16)))]) hx hb dX1_meaning_158 hl (by decide) rfl (fun ls hl => ?_)
      refine lv_iload hx hb dX1_meaning_160 (lv_at hl 0 rfl) ?_
      refine lv_if_eq (tgt := 171) hx hb dX1_meaning_162 (by decide) (fun c9 => absurd c9 (by decide)) (fun _ => ?_)
      refine lv_iload hx hb dX1_meaning_165 (lv_at hl 1 rfl) ?_
      refine lv_ineg hx hb dX1_meaning_167 ?_
      refine lv_goto (tgt := 173) hx hb dX1_meaning_168 (by decide) ?_
      exact W.iret (v := (-((mdDbl ((255 - n) / 16 % 8 - 0) ((((8 : Int32) * (nI ((255 - n) % 16))) + (132 : Int32)))) + (-132 : Int32)))) hx hb hr (fun t ht _ => ⟨(-((mdDbl ((255 - n) / 16 % 8 - 0) ((((8 : Int32) * (nI ((255 - n) % 16))) + (132 : Int32)))) + (-132 : Int32))), rfl, by unfold fnX1_meaning_1; rw [if_neg c_6, if_neg c_15], ht⟩) (fun q h => absurd h List.not_mem_nil) dX1_meaning_173

theorem md_pos {x : Int32} (h : 0 ≤ x) (h2 : x.toInt ≤ 32767) : x = nI x.toInt.toNat ∧ x.toInt.toNat ≤ 32767 := by
  have h0 : 0 ≤ x.toInt := by rw [Int32.le_iff_toInt_le] at h; exact h
  refine ⟨Int32.toInt_inj.mp ?_, by omega⟩
  rw [nI_toInt (by omega)]
  omega
theorem md_neg {x : Int32} (h : ¬ 0 ≤ x) (h2 : -32768 ≤ x.toInt) : (-1) - x = nI (-1 - x.toInt).toNat ∧ (-1 - x.toInt).toNat ≤ 32767 := by
  have h0 : ¬ 0 ≤ x.toInt := by rw [Int32.le_iff_toInt_le] at h; exact h
  refine ⟨Int32.toInt_inj.mp ?_, by omega⟩
  rw [nI_toInt (by omega), Int32.toInt_sub]
  show ((-1 : Int) - x.toInt).bmod (2 ^ 32) = _
  rw [Int.bmod_eq_of_le (by omega) (by omega)]
  omega
theorem md_neg0 {x : Int32} (h : ¬ 0 ≤ x) (h2 : -32768 ≤ x.toInt) : -x = nI (-x.toInt).toNat ∧ (-x.toInt).toNat ≤ 32768 := by
  have h0 : ¬ 0 ≤ x.toInt := by rw [Int32.le_iff_toInt_le] at h; exact h
  refine ⟨Int32.toInt_inj.mp ?_, by omega⟩
  rw [nI_toInt (by omega), Int32.toInt_neg]
  rw [Int.bmod_eq_of_le (by omega) (by omega)]
  omega
def fnX1_codeOf_0 (a1 : Int32) : Int32 := if 0 ≤ a1 then (if nI (mdHalf 32 6 (a1.toInt.toNat / 16) 0).1 < 16 then (((((128 : Int32) + ((16 : Int32) * (nI (mdHalf 32 6 (a1.toInt.toNat / 16) 0).2))) + ((nI (mdHalf 32 6 (a1.toInt.toNat / 16) 0).1) - (nI (mdHalf 32 6 (a1.toInt.toNat / 16) 0).1) / (16 : Int32) * (16 : Int32))) ^^^ (85 : Int32))) else (((((128 : Int32) + ((16 : Int32) * ((nI (mdHalf 32 6 (a1.toInt.toNat / 16) 0).2) + (1 : Int32)))) + ((nI (mdHalf 32 6 (a1.toInt.toNat / 16) 0).1) - (nI (mdHalf 32 6 (a1.toInt.toNat / 16) 0).1) / (16 : Int32) * (16 : Int32))) ^^^ (85 : Int32)))) else (if nI (mdHalf 32 6 ((-1 - a1.toInt).toNat / 16) 0).1 < 16 then (((((0 : Int32) + ((16 : Int32) * (nI (mdHalf 32 6 ((-1 - a1.toInt).toNat / 16) 0).2))) + ((nI (mdHalf 32 6 ((-1 - a1.toInt).toNat / 16) 0).1) - (nI (mdHalf 32 6 ((-1 - a1.toInt).toNat / 16) 0).1) / (16 : Int32) * (16 : Int32))) ^^^ (85 : Int32))) else (((((0 : Int32) + ((16 : Int32) * ((nI (mdHalf 32 6 ((-1 - a1.toInt).toNat / 16) 0).2) + (1 : Int32)))) + ((nI (mdHalf 32 6 ((-1 - a1.toInt).toNat / 16) 0).1) - (nI (mdHalf 32 6 ((-1 - a1.toInt).toNat / 16) 0).1) / (16 : Int32) * (16 : Int32))) ^^^ (85 : Int32))))
set_option maxHeartbeats 4000000 in
set_option maxRecDepth 100000 in
theorem metX1_codeOf_0 (l : Launch) (a1 : Int32) (hx1 : -32768 ≤ a1.toInt) (hx2 : a1.toInt ≤ 32767) : Met l yX1_codeOf wsX1_codeOf ({ frames := 0, cells := 0, slots := 0, locals := 0 }) (va_Pc [.int (0), .int (a1)] (fun _ => True)) (vp_Si (fun r => r = fnX1_codeOf_0 a1)) 0 0 (fun _ => False) := by
  refine Met.ofW (cc := cX1_codeOf) (maxL := 4) (ret := (some .int)) (by decide) rfl ?_
  intro p e s m args below meth c s₁ B hml hv
  obtain ⟨rfl, -⟩ := hv
  have hx := B.exec
  have hb := B.bytes
  have hr := B.returns
  have hts := atoms_spec (ws := wsX1_codeOf) B.pre
  have hown : s.vm.findClass RX1 = some m.cls := findClass_of_methodNamed B.named
  have hlocks := B.notSynchronized
  have hl := lv_entry ([.int (0), .int (a1)]) (n := 4) (Nat.le_of_ble_eq_true rfl)
  rw [lg_entry_eq]
  generalize (lg_sl ([.int (0), .int (a1)]) ++ List.replicate (4 - (lg_sl ([.int (0), .int (a1)])).length) Slot.unset).toArray = ls at hl ⊢
  have hl : lv_has ls 4 [(0, .int (0)), (1, .int (a1))] := hl
  refine lv_iload_n hx hb dX1_codeOf_0 rfl (lv_at hl 0 rfl) ?_
  refine lv_if_ne (tgt := 74) hx hb dX1_codeOf_1 (by decide) (fun c9 => absurd (by decide) c9) (fun _ => ?_)
  refine lv_iload_n hx hb dX1_codeOf_4 rfl (lv_at hl 1 rfl) ?_
  refine lv_if_ge (tgt := 17) hx hb dX1_codeOf_5 (by decide) (fun c_2 => ?_) (fun c_2 => ?_)
  · refine lv_iload_n hx hb dX1_codeOf_17 rfl (lv_at hl 1 rfl) ?_
    refine lv_bipush (v := 16) hx hb dX1_codeOf_18 (by decide) ?_
    refine lv_idiv hx hb dX1_codeOf_20 (by decide) ?_
    obtain ⟨ev, lv9⟩ := md_pos c_2 hx2
    refine lv_topi (fun x_3 ex_3 => ?_)
    obtain rfl : x_3 = nI (a1.toInt.toNat / 16) := ex_3.trans ((congrArg (fun z : Int32 => z / 16) ev).trans (pk_div (d := 16) (by omega) (by decide) (by decide)))
    refine lv_istore_n (lv' := [(2, .int (nI (a1.toInt.toNat / 16))), (0, .int (0)), (1, .int (a1))]) hx hb dX1_codeOf_21 rfl hl (by decide) rfl (fun ls hl => ?_)
    refine lv_iconst (v := 0) hx hb dX1_codeOf_22 (by decide) ?_
    refine lv_istore_n (lv' := [(3, .int (0)), (2, .int (nI (a1.toInt.toNat / 16))), (0, .int (0)), (1, .int (a1))]) hx hb dX1_codeOf_23 rfl hl (by decide) rfl (fun ls hl => ?_)
    refine lpX1_codeOf_24 hx hb _ (mdHalf 32 6 (a1.toInt.toNat / 16) 0) (fun ls hl => ?_) 7 (a1.toInt.toNat / 16) 0 ls (by decide) (by omega) (by omega) rfl (lv_sub hl [2, 3, 1, 0] rfl)
    refine lv_iload_n hx hb dX1_codeOf_40 rfl (lv_at hl 2 rfl) ?_
    refine lv_bipush (v := 16) hx hb dX1_codeOf_41 (by decide) ?_
    refine lv_icmp_lt (tgt := 49) hx hb dX1_codeOf_43 (by decide) (fun c_4 => ?_) (fun c_4 => ?_)
    · refine lv_iload_n hx hb dX1_codeOf_49 rfl (lv_at hl 1 rfl) ?_
      refine lv_if_ge (tgt := 57) hx hb dX1_codeOf_50 (by decide) (fun _ => ?_) (fun c9 => absurd c_2 c9)
      refine lv_sipush (v := 128) hx hb dX1_codeOf_57 (by decide) ?_
      refine lv_bipush (v := 16) hx hb dX1_codeOf_60 (by decide) ?_
      refine lv_iload_n hx hb dX1_codeOf_62 rfl (lv_at hl 3 rfl) ?_
      refine lv_imul hx hb dX1_codeOf_63 ?_
      refine lv_iadd hx hb dX1_codeOf_64 ?_
      refine lv_iload_n hx hb dX1_codeOf_65 rfl (lv_at hl 2 rfl) ?_
      refine lv_bipush (v := 16) hx hb dX1_codeOf_66 (by decide) ?_
      refine lv_irem hx hb dX1_codeOf_68 (by decide) ?_
      refine lv_iadd hx hb dX1_codeOf_69 ?_
      refine lv_bipush (v := 85) hx hb dX1_codeOf_70 (by decide) ?_
      refine lv_ixor hx hb dX1_codeOf_72 ?_
      exact W.iret (v := ((((128 : Int32) + ((16 : Int32) * (nI (mdHalf 32 6 (a1.toInt.toNat / 16) 0).2))) + ((nI (mdHalf 32 6 (a1.toInt.toNat / 16) 0).1) - (nI (mdHalf 32 6 (a1.toInt.toNat / 16) 0).1) / (16 : Int32) * (16 : Int32))) ^^^ (85 : Int32))) hx hb hr (fun t ht _ => ⟨((((128 : Int32) + ((16 : Int32) * (nI (mdHalf 32 6 (a1.toInt.toNat / 16) 0).2))) + ((nI (mdHalf 32 6 (a1.toInt.toNat / 16) 0).1) - (nI (mdHalf 32 6 (a1.toInt.toNat / 16) 0).1) / (16 : Int32) * (16 : Int32))) ^^^ (85 : Int32)), rfl, by unfold fnX1_codeOf_0; rw [if_pos c_2, if_pos c_4], ht⟩) (fun q h => absurd h List.not_mem_nil) dX1_codeOf_73
    · refine lv_iinc (v := ((nI (mdHalf 32 6 (a1.toInt.toNat / 16) 0).2) + (1 : Int32))) (lv' := [(3, .int (((nI (mdHalf 32 6 (a1.toInt.toNat / 16) 0).2) + (1 : Int32)))), (0, .int (0)), (1, .int (a1)), (2, .int (nI (mdHalf 32 6 (a1.toInt.toNat / 16) 0).1))]) hx hb dX1_codeOf_46 hl (k := 3) rfl rfl (by decide) rfl (fun ls hl => ?_)
      refine lv_iload_n hx hb dX1_codeOf_49 rfl (lv_at hl 2 rfl) ?_
      refine lv_if_ge (tgt := 57) hx hb dX1_codeOf_50 (by decide) (fun _ => ?_) (fun c9 => absurd c_2 c9)
      refine lv_sipush (v := 128) hx hb dX1_codeOf_57 (by decide) ?_
      refine lv_bipush (v := 16) hx hb dX1_codeOf_60 (by decide) ?_
      refine lv_iload_n hx hb dX1_codeOf_62 rfl (lv_at hl 0 rfl) ?_
      refine lv_imul hx hb dX1_codeOf_63 ?_
      refine lv_iadd hx hb dX1_codeOf_64 ?_
      refine lv_iload_n hx hb dX1_codeOf_65 rfl (lv_at hl 3 rfl) ?_
      refine lv_bipush (v := 16) hx hb dX1_codeOf_66 (by decide) ?_
      refine lv_irem hx hb dX1_codeOf_68 (by decide) ?_
      refine lv_iadd hx hb dX1_codeOf_69 ?_
      refine lv_bipush (v := 85) hx hb dX1_codeOf_70 (by decide) ?_
      refine lv_ixor hx hb dX1_codeOf_72 ?_
      exact W.iret (v := ((((128 : Int32) + ((16 : Int32) * ((nI (mdHalf 32 6 (a1.toInt.toNat / 16) 0).2) + (1 : Int32)))) + ((nI (mdHalf 32 6 (a1.toInt.toNat / 16) 0).1) - (nI (mdHalf 32 6 (a1.toInt.toNat / 16) 0).1) / (16 : Int32) * (16 : Int32))) ^^^ (85 : Int32))) hx hb hr (fun t ht _ => ⟨((((128 : Int32) + ((16 : Int32) * ((nI (mdHalf 32 6 (a1.toInt.toNat / 16) 0).2) + (1 : Int32)))) + ((nI (mdHalf 32 6 (a1.toInt.toNat / 16) 0).1) - (nI (mdHalf 32 6 (a1.toInt.toNat / 16) 0).1) / (16 : Int32) * (16 : Int32))) ^^^ (85 : Int32)), rfl, by unfold fnX1_codeOf_0; rw [if_pos c_2, if_neg c_4], ht⟩) (fun q h => absurd h List.not_mem_nil) dX1_codeOf_73
  · refine lv_iconst (v := (-1)) hx hb dX1_codeOf_8 (by decide) ?_
    refine lv_iload_n hx hb dX1_codeOf_9 rfl (lv_at hl 1 rfl) ?_
    refine lv_isub hx hb dX1_codeOf_10 ?_
    refine lv_bipush (v := 16) hx hb dX1_codeOf_11 (by decide) ?_
    refine lv_idiv hx hb dX1_codeOf_13 (by decide) ?_
    refine lv_goto (tgt := 21) hx hb dX1_codeOf_14 (by decide) ?_
    obtain ⟨ev, lv9⟩ := md_neg c_2 hx1
    refine lv_topi (fun x_7 ex_7 => ?_)
    obtain rfl : x_7 = nI ((-1 - a1.toInt).toNat / 16) := ex_7.trans ((congrArg (fun z : Int32 => z / 16) ev).trans (pk_div (d := 16) (by omega) (by decide) (by decide)))
    refine lv_istore_n (lv' := [(2, .int (nI ((-1 - a1.toInt).toNat / 16))), (0, .int (0)), (1, .int (a1))]) hx hb dX1_codeOf_21 rfl hl (by decide) rfl (fun ls hl => ?_)
    refine lv_iconst (v := 0) hx hb dX1_codeOf_22 (by decide) ?_
    refine lv_istore_n (lv' := [(3, .int (0)), (2, .int (nI ((-1 - a1.toInt).toNat / 16))), (0, .int (0)), (1, .int (a1))]) hx hb dX1_codeOf_23 rfl hl (by decide) rfl (fun ls hl => ?_)
    refine lpX1_codeOf_24 hx hb _ (mdHalf 32 6 ((-1 - a1.toInt).toNat / 16) 0) (fun ls hl => ?_) 7 ((-1 - a1.toInt).toNat / 16) 0 ls (by decide) (by omega) (by omega) rfl (lv_sub hl [2, 3, 1, 0] rfl)
    refine lv_iload_n hx hb dX1_codeOf_40 rfl (lv_at hl 2 rfl) ?_
    refine lv_bipush (v := 16) hx hb dX1_codeOf_41 (by decide) ?_
    refine lv_icmp_lt (tgt := 49) hx hb dX1_codeOf_43 (by decide) (fun c_8 => ?_) (fun c_8 => ?_)
    · refine lv_iload_n hx hb dX1_codeOf_49 rfl (lv_at hl 1 rfl) ?_
      refine lv_if_ge (tgt := 57) hx hb dX1_codeOf_50 (by decide) (fun c9 => absurd c9 c_2) (fun _ => ?_)
      refine lv_iconst (v := 0) hx hb dX1_codeOf_53 (by decide) ?_
      refine lv_goto (tgt := 60) hx hb dX1_codeOf_54 (by decide) ?_
      refine lv_bipush (v := 16) hx hb dX1_codeOf_60 (by decide) ?_
      refine lv_iload_n hx hb dX1_codeOf_62 rfl (lv_at hl 3 rfl) ?_
      refine lv_imul hx hb dX1_codeOf_63 ?_
      refine lv_iadd hx hb dX1_codeOf_64 ?_
      refine lv_iload_n hx hb dX1_codeOf_65 rfl (lv_at hl 2 rfl) ?_
      refine lv_bipush (v := 16) hx hb dX1_codeOf_66 (by decide) ?_
      refine lv_irem hx hb dX1_codeOf_68 (by decide) ?_
      refine lv_iadd hx hb dX1_codeOf_69 ?_
      refine lv_bipush (v := 85) hx hb dX1_codeOf_70 (by decide) ?_
      refine lv_ixor hx hb dX1_codeOf_72 ?_
      exact W.iret (v := ((((0 : Int32) + ((16 : Int32) * (nI (mdHalf 32 6 ((-1 - a1.toInt).toNat / 16) 0).2))) + ((nI (mdHalf 32 6 ((-1 - a1.toInt).toNat / 16) 0).1) - (nI (mdHalf 32 6 ((-1 - a1.toInt).toNat / 16) 0).1) / (16 : Int32) * (16 : Int32))) ^^^ (85 : Int32))) hx hb hr (fun t ht _ => ⟨((((0 : Int32) + ((16 : Int32) * (nI (mdHalf 32 6 ((-1 - a1.toInt).toNat / 16) 0).2))) + ((nI (mdHalf 32 6 ((-1 - a1.toInt).toNat / 16) 0).1) - (nI (mdHalf 32 6 ((-1 - a1.toInt).toNat / 16) 0).1) / (16 : Int32) * (16 : Int32))) ^^^ (85 : Int32)), rfl, by unfold fnX1_codeOf_0; rw [if_neg c_2, if_pos c_8], ht⟩) (fun q h => absurd h List.not_mem_nil) dX1_codeOf_73
    · refine lv_iinc (v := ((nI (mdHalf 32 6 ((-1 - a1.toInt).toNat / 16) 0).2) + (1 : Int32))) (lv' := [(3, .int (((nI (mdHalf 32 6 ((-1 - a1.toInt).toNat / 16) 0).2) + (1 : Int32)))), (0, .int (0)), (1, .int (a1)), (2, .int (nI (mdHalf 32 6 ((-1 - a1.toInt).toNat / 16) 0).1))]) hx hb dX1_codeOf_46 hl (k := 3) rfl rfl (by decide) rfl (fun ls hl => ?_)
      refine lv_iload_n hx hb dX1_codeOf_49 rfl (lv_at hl 2 rfl) ?_
      refine lv_if_ge (tgt := 57) hx hb dX1_codeOf_50 (by decide) (fun c9 => absurd c9 c_2) (fun _ => ?_)
      refine lv_iconst (v := 0) hx hb dX1_codeOf_53 (by decide) ?_
      refine lv_goto (tgt := 60) hx hb dX1_codeOf_54 (by decide) ?_
      refine lv_bipush (v := 16) hx hb dX1_codeOf_60 (by decide) ?_
      refine lv_iload_n hx hb dX1_codeOf_62 rfl (lv_at hl 0 rfl) ?_
      refine lv_imul hx hb dX1_codeOf_63 ?_
      refine lv_iadd hx hb dX1_codeOf_64 ?_
      refine lv_iload_n hx hb dX1_codeOf_65 rfl (lv_at hl 3 rfl) ?_
      refine lv_bipush (v := 16) hx hb dX1_codeOf_66 (by decide) ?_
      refine lv_irem hx hb dX1_codeOf_68 (by decide) ?_
      refine lv_iadd hx hb dX1_codeOf_69 ?_
      refine lv_bipush (v := 85) hx hb dX1_codeOf_70 (by decide) ?_
      refine lv_ixor hx hb dX1_codeOf_72 ?_
      exact W.iret (v := ((((0 : Int32) + ((16 : Int32) * ((nI (mdHalf 32 6 ((-1 - a1.toInt).toNat / 16) 0).2) + (1 : Int32)))) + ((nI (mdHalf 32 6 ((-1 - a1.toInt).toNat / 16) 0).1) - (nI (mdHalf 32 6 ((-1 - a1.toInt).toNat / 16) 0).1) / (16 : Int32) * (16 : Int32))) ^^^ (85 : Int32))) hx hb hr (fun t ht _ => ⟨((((0 : Int32) + ((16 : Int32) * ((nI (mdHalf 32 6 ((-1 - a1.toInt).toNat / 16) 0).2) + (1 : Int32)))) + ((nI (mdHalf 32 6 ((-1 - a1.toInt).toNat / 16) 0).1) - (nI (mdHalf 32 6 ((-1 - a1.toInt).toNat / 16) 0).1) / (16 : Int32) * (16 : Int32))) ^^^ (85 : Int32)), rfl, by unfold fnX1_codeOf_0; rw [if_neg c_2, if_neg c_8], ht⟩) (fun q h => absurd h List.not_mem_nil) dX1_codeOf_73

def fnX1_codeOf_1 (a1 : Int32) : Int32 := if 0 ≤ a1 then (if nI (a1.toInt.toNat) ≤ 32635 then (((255 : Int32) - (((0 : Int32) + ((16 : Int32) * (nI (mdHalf 256 8 (a1.toInt.toNat + 132) 0).2))) + (((nI (mdHalf 256 8 (a1.toInt.toNat + 132) 0).1) / (8 : Int32)) - ((nI (mdHalf 256 8 (a1.toInt.toNat + 132) 0).1) / (8 : Int32)) / (16 : Int32) * (16 : Int32))))) else (((255 : Int32) - (((0 : Int32) + ((16 : Int32) * (nI (mdHalf 256 8 32767 0).2))) + (((nI (mdHalf 256 8 32767 0).1) / (8 : Int32)) - ((nI (mdHalf 256 8 32767 0).1) / (8 : Int32)) / (16 : Int32) * (16 : Int32)))))) else (if nI ((-a1.toInt).toNat) ≤ 32635 then (((255 : Int32) - (((128 : Int32) + ((16 : Int32) * (nI (mdHalf 256 8 ((-a1.toInt).toNat + 132) 0).2))) + (((nI (mdHalf 256 8 ((-a1.toInt).toNat + 132) 0).1) / (8 : Int32)) - ((nI (mdHalf 256 8 ((-a1.toInt).toNat + 132) 0).1) / (8 : Int32)) / (16 : Int32) * (16 : Int32))))) else (((255 : Int32) - (((128 : Int32) + ((16 : Int32) * (nI (mdHalf 256 8 32767 0).2))) + (((nI (mdHalf 256 8 32767 0).1) / (8 : Int32)) - ((nI (mdHalf 256 8 32767 0).1) / (8 : Int32)) / (16 : Int32) * (16 : Int32))))))
set_option maxHeartbeats 4000000 in
set_option maxRecDepth 100000 in
theorem metX1_codeOf_1 (l : Launch) (a1 : Int32) (hx1 : -32768 ≤ a1.toInt) (hx2 : a1.toInt ≤ 32767) : Met l yX1_codeOf wsX1_codeOf ({ frames := 0, cells := 0, slots := 0, locals := 0 }) (va_Pc [.int (1), .int (a1)] (fun _ => True)) (vp_Si (fun r => r = fnX1_codeOf_1 a1)) 0 0 (fun _ => False) := by
  refine Met.ofW (cc := cX1_codeOf) (maxL := 4) (ret := (some .int)) (by decide) rfl ?_
  intro p e s m args below meth c s₁ B hml hv
  obtain ⟨rfl, -⟩ := hv
  have hx := B.exec
  have hb := B.bytes
  have hr := B.returns
  have hts := atoms_spec (ws := wsX1_codeOf) B.pre
  have hown : s.vm.findClass RX1 = some m.cls := findClass_of_methodNamed B.named
  have hlocks := B.notSynchronized
  have hl := lv_entry ([.int (1), .int (a1)]) (n := 4) (Nat.le_of_ble_eq_true rfl)
  rw [lg_entry_eq]
  generalize (lg_sl ([.int (1), .int (a1)]) ++ List.replicate (4 - (lg_sl ([.int (1), .int (a1)])).length) Slot.unset).toArray = ls at hl ⊢
  have hl : lv_has ls 4 [(0, .int (1)), (1, .int (a1))] := hl
  refine lv_iload_n hx hb dX1_codeOf_0 rfl (lv_at hl 0 rfl) ?_
  refine lv_if_ne (tgt := 74) hx hb dX1_codeOf_1 (by decide) (fun _ => ?_) (fun c9 => absurd c9 (by decide))
  refine lv_iload_n hx hb dX1_codeOf_74 rfl (lv_at hl 1 rfl) ?_
  refine lv_if_ge (tgt := 83) hx hb dX1_codeOf_75 (by decide) (fun c_2 => ?_) (fun c_2 => ?_)
  · refine lv_iload_n hx hb dX1_codeOf_83 rfl (lv_at hl 1 rfl) ?_
    obtain ⟨ev, lv9⟩ := md_pos c_2 hx2
    refine lv_topi (fun x_3 ex_3 => ?_)
    obtain rfl : x_3 = nI (a1.toInt.toNat) := ex_3.trans (ev)
    refine lv_istore_n (lv' := [(2, .int (nI (a1.toInt.toNat))), (0, .int (1)), (1, .int (a1))]) hx hb dX1_codeOf_84 rfl hl (by decide) rfl (fun ls hl => ?_)
    refine lv_iload_n hx hb dX1_codeOf_85 rfl (lv_at hl 0 rfl) ?_
    refine lv_sipush (v := 32635) hx hb dX1_codeOf_86 (by decide) ?_
    refine lv_icmp_le (tgt := 96) hx hb dX1_codeOf_89 (by decide) (fun c_4 => ?_) (fun c_4 => ?_)
    · refine lv_iincW (v := ((nI (a1.toInt.toNat)) + (132 : Int32))) (lv' := [(2, .int (((nI (a1.toInt.toNat)) + (132 : Int32)))), (0, .int (1)), (1, .int (a1))]) hx hb dX1_codeOf_96 hl (k := 0) rfl rfl (by decide) rfl (fun ls hl => ?_)
      refine lv_iconst (v := 0) hx hb dX1_codeOf_102 (by decide) ?_
      refine lv_istore_n (lv' := [(3, .int (0)), (2, .int (((nI (a1.toInt.toNat)) + (132 : Int32)))), (0, .int (1)), (1, .int (a1))]) hx hb dX1_codeOf_103 rfl hl (by decide) rfl (fun ls hl => ?_)
      have hv5 : a1.toInt.toNat ≤ 32635 := (nI_leI (by omega) (by decide)).mp c_4
      refine lpX1_codeOf_104 hx hb _ (mdHalf 256 8 (a1.toInt.toNat + 132) 0) (fun ls hl => ?_) 9 (a1.toInt.toNat + 132) 0 ls (by decide) (by omega) (by omega) rfl (by have e9 : ((nI (a1.toInt.toNat)) + (132 : Int32)) = nI ((a1.toInt.toNat + 132)) := nI_add a1.toInt.toNat 132; rw [← e9]; exact lv_sub hl [2, 3, 1, 0] rfl)
      refine lv_sipush (v := 255) hx hb dX1_codeOf_121 (by decide) ?_
      refine lv_iload_n hx hb dX1_codeOf_124 rfl (lv_at hl 1 rfl) ?_
      refine lv_if_ge (tgt := 134) hx hb dX1_codeOf_125 (by decide) (fun _ => ?_) (fun c9 => absurd c_2 c9)
      refine lv_iconst (v := 0) hx hb dX1_codeOf_134 (by decide) ?_
      refine lv_bipush (v := 16) hx hb dX1_codeOf_135 (by decide) ?_
      refine lv_iload_n hx hb dX1_codeOf_137 rfl (lv_at hl 3 rfl) ?_
      refine lv_imul hx hb dX1_codeOf_138 ?_
      refine lv_iadd hx hb dX1_codeOf_139 ?_
      refine lv_iload_n hx hb dX1_codeOf_140 rfl (lv_at hl 2 rfl) ?_
      refine lv_bipush (v := 8) hx hb dX1_codeOf_141 (by decide) ?_
      refine lv_idiv hx hb dX1_codeOf_143 (by decide) ?_
      refine lv_bipush (v := 16) hx hb dX1_codeOf_144 (by decide) ?_
      refine lv_irem hx hb dX1_codeOf_146 (by decide) ?_
      refine lv_iadd hx hb dX1_codeOf_147 ?_
      refine lv_isub hx hb dX1_codeOf_148 ?_
      exact W.iret (v := ((255 : Int32) - (((0 : Int32) + ((16 : Int32) * (nI (mdHalf 256 8 (a1.toInt.toNat + 132) 0).2))) + (((nI (mdHalf 256 8 (a1.toInt.toNat + 132) 0).1) / (8 : Int32)) - ((nI (mdHalf 256 8 (a1.toInt.toNat + 132) 0).1) / (8 : Int32)) / (16 : Int32) * (16 : Int32))))) hx hb hr (fun t ht _ => ⟨((255 : Int32) - (((0 : Int32) + ((16 : Int32) * (nI (mdHalf 256 8 (a1.toInt.toNat + 132) 0).2))) + (((nI (mdHalf 256 8 (a1.toInt.toNat + 132) 0).1) / (8 : Int32)) - ((nI (mdHalf 256 8 (a1.toInt.toNat + 132) 0).1) / (8 : Int32)) / (16 : Int32) * (16 : Int32)))), rfl, by unfold fnX1_codeOf_1; rw [if_pos c_2, if_pos c_4], ht⟩) (fun q h => absurd h List.not_mem_nil) dX1_codeOf_149
    · refine lv_sipush (v := 32635) hx hb dX1_codeOf_92 (by decide) ?_
      refine lv_istore_n (lv' := [(2, .int (32635)), (0, .int (1)), (1, .int (a1))]) hx hb dX1_codeOf_95 rfl hl (by decide) rfl (fun ls hl => ?_)
      refine lv_iincW (v := ((32635 : Int32) + (132 : Int32))) (lv' := [(2, .int (((32635 : Int32) + (132 : Int32)))), (0, .int (1)), (1, .int (a1))]) hx hb dX1_codeOf_96 hl (k := 0) rfl rfl (by decide) rfl (fun ls hl => ?_)
      refine lv_iconst (v := 0) hx hb dX1_codeOf_102 (by decide) ?_
      refine lv_istore_n (lv' := [(3, .int (0)), (2, .int (((32635 : Int32) + (132 : Int32)))), (0, .int (1)), (1, .int (a1))]) hx hb dX1_codeOf_103 rfl hl (by decide) rfl (fun ls hl => ?_)
      refine lpX1_codeOf_104 hx hb _ (mdHalf 256 8 32767 0) (fun ls hl => ?_) 9 32767 0 ls (by decide) (by omega) (by omega) rfl (by have e9 : ((32635 : Int32) + (132 : Int32)) = nI (32767) := rfl; rw [← e9]; exact lv_sub hl [2, 3, 1, 0] rfl)
      refine lv_sipush (v := 255) hx hb dX1_codeOf_121 (by decide) ?_
      refine lv_iload_n hx hb dX1_codeOf_124 rfl (lv_at hl 1 rfl) ?_
      refine lv_if_ge (tgt := 134) hx hb dX1_codeOf_125 (by decide) (fun _ => ?_) (fun c9 => absurd c_2 c9)
      refine lv_iconst (v := 0) hx hb dX1_codeOf_134 (by decide) ?_
      refine lv_bipush (v := 16) hx hb dX1_codeOf_135 (by decide) ?_
      refine lv_iload_n hx hb dX1_codeOf_137 rfl (lv_at hl 3 rfl) ?_
      refine lv_imul hx hb dX1_codeOf_138 ?_
      refine lv_iadd hx hb dX1_codeOf_139 ?_
      refine lv_iload_n hx hb dX1_codeOf_140 rfl (lv_at hl 2 rfl) ?_
      refine lv_bipush (v := 8) hx hb dX1_codeOf_141 (by decide) ?_
      refine lv_idiv hx hb dX1_codeOf_143 (by decide) ?_
      refine lv_bipush (v := 16) hx hb dX1_codeOf_144 (by decide) ?_
      refine lv_irem hx hb dX1_codeOf_146 (by decide) ?_
      refine lv_iadd hx hb dX1_codeOf_147 ?_
      refine lv_isub hx hb dX1_codeOf_148 ?_
      exact W.iret (v := ((255 : Int32) - (((0 : Int32) + ((16 : Int32) * (nI (mdHalf 256 8 32767 0).2))) + (((nI (mdHalf 256 8 32767 0).1) / (8 : Int32)) - ((nI (mdHalf 256 8 32767 0).1) / (8 : Int32)) / (16 : Int32) * (16 : Int32))))) hx hb hr (fun t ht _ => ⟨((255 : Int32) - (((0 : Int32) + ((16 : Int32) * (nI (mdHalf 256 8 32767 0).2))) + (((nI (mdHalf 256 8 32767 0).1) / (8 : Int32)) - ((nI (mdHalf 256 8 32767 0).1) / (8 : Int32)) / (16 : Int32) * (16 : Int32)))), rfl, by unfold fnX1_codeOf_1; rw [if_pos c_2, if_neg c_4], ht⟩) (fun q h => absurd h List.not_mem_nil) dX1_codeOf_149
  · refine lv_iload_n hx hb dX1_codeOf_78 rfl (lv_at hl 1 rfl) ?_
    refine lv_ineg hx hb dX1_codeOf_79 ?_
    refine lv_goto (tgt := 84) hx hb dX1_codeOf_80 (by decide) ?_
    obtain ⟨ev, lv9⟩ := md_neg0 c_2 hx1
    refine lv_topi (fun x_7 ex_7 => ?_)
    obtain rfl : x_7 = nI ((-a1.toInt).toNat) := ex_7.trans (ev)
    refine lv_istore_n (lv' := [(2, .int (nI ((-a1.toInt).toNat))), (0, .int (1)), (1, .int (a1))]) hx hb dX1_codeOf_84 rfl hl (by decide) rfl (fun ls hl => ?_)
    refine lv_iload_n hx hb dX1_codeOf_85 rfl (lv_at hl 0 rfl) ?_
    refine lv_sipush (v := 32635) hx hb dX1_codeOf_86 (by decide) ?_
    refine lv_icmp_le (tgt := 96) hx hb dX1_codeOf_89 (by decide) (fun c_8 => ?_) (fun c_8 => ?_)
    · refine lv_iincW (v := ((nI ((-a1.toInt).toNat)) + (132 : Int32))) (lv' := [(2, .int (((nI ((-a1.toInt).toNat)) + (132 : Int32)))), (0, .int (1)), (1, .int (a1))]) hx hb dX1_codeOf_96 hl (k := 0) rfl rfl (by decide) rfl (fun ls hl => ?_)
      refine lv_iconst (v := 0) hx hb dX1_codeOf_102 (by decide) ?_
      refine lv_istore_n (lv' := [(3, .int (0)), (2, .int (((nI ((-a1.toInt).toNat)) + (132 : Int32)))), (0, .int (1)), (1, .int (a1))]) hx hb dX1_codeOf_103 rfl hl (by decide) rfl (fun ls hl => ?_)
      have hv5 : (-a1.toInt).toNat ≤ 32635 := (nI_leI (by omega) (by decide)).mp c_8
      refine lpX1_codeOf_104 hx hb _ (mdHalf 256 8 ((-a1.toInt).toNat + 132) 0) (fun ls hl => ?_) 9 ((-a1.toInt).toNat + 132) 0 ls (by decide) (by omega) (by omega) rfl (by have e9 : ((nI ((-a1.toInt).toNat)) + (132 : Int32)) = nI (((-a1.toInt).toNat + 132)) := nI_add (-a1.toInt).toNat 132; rw [← e9]; exact lv_sub hl [2, 3, 1, 0] rfl)
      refine lv_sipush (v := 255) hx hb dX1_codeOf_121 (by decide) ?_
      refine lv_iload_n hx hb dX1_codeOf_124 rfl (lv_at hl 1 rfl) ?_
      refine lv_if_ge (tgt := 134) hx hb dX1_codeOf_125 (by decide) (fun c9 => absurd c9 c_2) (fun _ => ?_)
      refine lv_sipush (v := 128) hx hb dX1_codeOf_128 (by decide) ?_
      refine lv_goto (tgt := 135) hx hb dX1_codeOf_131 (by decide) ?_
      refine lv_bipush (v := 16) hx hb dX1_codeOf_135 (by decide) ?_
      refine lv_iload_n hx hb dX1_codeOf_137 rfl (lv_at hl 3 rfl) ?_
      refine lv_imul hx hb dX1_codeOf_138 ?_
      refine lv_iadd hx hb dX1_codeOf_139 ?_
      refine lv_iload_n hx hb dX1_codeOf_140 rfl (lv_at hl 2 rfl) ?_
      refine lv_bipush (v := 8) hx hb dX1_codeOf_141 (by decide) ?_
      refine lv_idiv hx hb dX1_codeOf_143 (by decide) ?_
      refine lv_bipush (v := 16) hx hb dX1_codeOf_144 (by decide) ?_
      refine lv_irem hx hb dX1_codeOf_146 (by decide) ?_
      refine lv_iadd hx hb dX1_codeOf_147 ?_
      refine lv_isub hx hb dX1_codeOf_148 ?_
      exact W.iret (v := ((255 : Int32) - (((128 : Int32) + ((16 : Int32) * (nI (mdHalf 256 8 ((-a1.toInt).toNat + 132) 0).2))) + (((nI (mdHalf 256 8 ((-a1.toInt).toNat + 132) 0).1) / (8 : Int32)) - ((nI (mdHalf 256 8 ((-a1.toInt).toNat + 132) 0).1) / (8 : Int32)) / (16 : Int32) * (16 : Int32))))) hx hb hr (fun t ht _ => ⟨((255 : Int32) - (((128 : Int32) + ((16 : Int32) * (nI (mdHalf 256 8 ((-a1.toInt).toNat + 132) 0).2))) + (((nI (mdHalf 256 8 ((-a1.toInt).toNat + 132) 0).1) / (8 : Int32)) - ((nI (mdHalf 256 8 ((-a1.toInt).toNat + 132) 0).1) / (8 : Int32)) / (16 : Int32) * (16 : Int32)))), rfl, by unfold fnX1_codeOf_1; rw [if_neg c_2, if_pos c_8], ht⟩) (fun q h => absurd h List.not_mem_nil) dX1_codeOf_149
    · refine lv_sipush (v := 32635) hx hb dX1_codeOf_92 (by decide) ?_
      refine lv_istore_n (lv' := [(2, .int (32635)), (0, .int (1)), (1, .int (a1))]) hx hb dX1_codeOf_95 rfl hl (by decide) rfl (fun ls hl => ?_)
      refine lv_iincW (v := ((32635 : Int32) + (132 : Int32))) (lv' := [(2, .int (((32635 : Int32) + (132 : Int32)))), (0, .int (1)), (1, .int (a1))]) hx hb dX1_codeOf_96 hl (k := 0) rfl rfl (by decide) rfl (fun ls hl => ?_)
      refine lv_iconst (v := 0) hx hb dX1_codeOf_102 (by decide) ?_
      refine lv_istore_n (lv' := [(3, .int (0)), (2, .int (((32635 : Int32) + (132 : Int32)))), (0, .int (1)), (1, .int (a1))]) hx hb dX1_codeOf_103 rfl hl (by decide) rfl (fun ls hl => ?_)
      refine lpX1_codeOf_104 hx hb _ (mdHalf 256 8 32767 0) (fun ls hl => ?_) 9 32767 0 ls (by decide) (by omega) (by omega) rfl (by have e9 : ((32635 : Int32) + (132 : Int32)) = nI (32767) := rfl; rw [← e9]; exact lv_sub hl [2, 3, 1, 0] rfl)
      refine lv_sipush (v := 255) hx hb dX1_codeOf_121 (by decide) ?_
      refine lv_iload_n hx hb dX1_codeOf_124 rfl (lv_at hl 1 rfl) ?_
      refine lv_if_ge (tgt := 134) hx hb dX1_codeOf_125 (by decide) (fun c9 => absurd c9 c_2) (fun _ => ?_)
      refine lv_sipush (v := 128) hx hb dX1_codeOf_128 (by decide) ?_
      refine lv_goto (tgt := 135) hx hb dX1_codeOf_131 (by decide) ?_
      refine lv_bipush (v := 16) hx hb dX1_codeOf_135 (by decide) ?_
      refine lv_iload_n hx hb dX1_codeOf_137 rfl (lv_at hl 3 rfl) ?_
      refine lv_imul hx hb dX1_codeOf_138 ?_
      refine lv_iadd hx hb dX1_codeOf_139 ?_
      refine lv_iload_n hx hb dX1_codeOf_140 rfl (lv_at hl 2 rfl) ?_
      refine lv_bipush (v := 8) hx hb dX1_codeOf_141 (by decide) ?_
      refine lv_idiv hx hb dX1_codeOf_143 (by decide) ?_
      refine lv_bipush (v := 16) hx hb dX1_codeOf_144 (by decide) ?_
      refine lv_irem hx hb dX1_codeOf_146 (by decide) ?_
      refine lv_iadd hx hb dX1_codeOf_147 ?_
      refine lv_isub hx hb dX1_codeOf_148 ?_
      exact W.iret (v := ((255 : Int32) - (((128 : Int32) + ((16 : Int32) * (nI (mdHalf 256 8 32767 0).2))) + (((nI (mdHalf 256 8 32767 0).1) / (8 : Int32)) - ((nI (mdHalf 256 8 32767 0).1) / (8 : Int32)) / (16 : Int32) * (16 : Int32))))) hx hb hr (fun t ht _ => ⟨((255 : Int32) - (((128 : Int32) + ((16 : Int32) * (nI (mdHalf 256 8 32767 0).2))) + (((nI (mdHalf 256 8 32767 0).1) / (8 : Int32)) - ((nI (mdHalf 256 8 32767 0).1) / (8 : Int32)) / (16 : Int32) * (16 : Int32)))), rfl, by unfold fnX1_codeOf_1; rw [if_neg c_2, if_neg c_8], ht⟩) (fun q h => absurd h List.not_mem_nil) dX1_codeOf_149
end
section
/-! the state of a ConferenceBridge (cb_): its values u, its cells at the addresses ad, classes of arrays ct (0 int, 1 boolean, 2 int rows, 3 long); of the reference (md_) likewise -/
abbrev cb_U : Type := (Nat → Int32) × (Nat → Int32) × (Nat → Int32) × (Nat → Nat → Int32) × (Nat → Nat → Int32) × Int32 × (Nat → Nat → Int32) × (Nat → Int64) × (Nat → Int32)
abbrev cbL (u : cb_U) : Nat → Int32 := u.1
abbrev cbG (u : cb_U) : Nat → Int32 := u.2.1
abbrev cbS (u : cb_U) : Nat → Int32 := u.2.2.1
abbrev cbC (u : cb_U) : Nat → Nat → Int32 := u.2.2.2.1
abbrev cbO (u : cb_U) : Nat → Nat → Int32 := u.2.2.2.2.1
abbrev cbM (u : cb_U) : Int32 := u.2.2.2.2.2.1
abbrev cbV (u : cb_U) : Nat → Nat → Int32 := u.2.2.2.2.2.2.1
abbrev cbE (u : cb_U) : Nat → Int64 := u.2.2.2.2.2.2.2.1
abbrev cbZ (u : cb_U) : Nat → Int32 := u.2.2.2.2.2.2.2.2
abbrev cb_sL (u : cb_U) (x : Nat → Int32) : cb_U := (x, cbG u, cbS u, cbC u, cbO u, cbM u, cbV u, cbE u, cbZ u)
abbrev cb_sG (u : cb_U) (x : Nat → Int32) : cb_U := (cbL u, x, cbS u, cbC u, cbO u, cbM u, cbV u, cbE u, cbZ u)
abbrev cb_sS (u : cb_U) (x : Nat → Int32) : cb_U := (cbL u, cbG u, x, cbC u, cbO u, cbM u, cbV u, cbE u, cbZ u)
abbrev cb_sC (u : cb_U) (x : Nat → Nat → Int32) : cb_U := (cbL u, cbG u, cbS u, x, cbO u, cbM u, cbV u, cbE u, cbZ u)
abbrev cb_sO (u : cb_U) (x : Nat → Nat → Int32) : cb_U := (cbL u, cbG u, cbS u, cbC u, x, cbM u, cbV u, cbE u, cbZ u)
abbrev cb_sM (u : cb_U) (x : Int32) : cb_U := (cbL u, cbG u, cbS u, cbC u, cbO u, x, cbV u, cbE u, cbZ u)
abbrev cb_sV (u : cb_U) (x : Nat → Nat → Int32) : cb_U := (cbL u, cbG u, cbS u, cbC u, cbO u, cbM u, x, cbE u, cbZ u)
abbrev cb_sE (u : cb_U) (x : Nat → Int64) : cb_U := (cbL u, cbG u, cbS u, cbC u, cbO u, cbM u, cbV u, x, cbZ u)
abbrev cb_sZ (u : cb_U) (x : Nat → Int32) : cb_U := (cbL u, cbG u, cbS u, cbC u, cbO u, cbM u, cbV u, cbE u, x)
abbrev cb_fs (ad : Nat → Nat) (u : cb_U) : List Value := [.ref (ad 1), .ref (ad 2), .ref (ad 3), .ref (ad 4), .ref (ad 5), .int (cbM u), .ref (ad 6), .ref (ad 7), .ref (ad 8)]
def cb_o (f : Nat → Nat) : Nat → Option Nat := fun i => if i < 8 then some (f i) else none
theorem cb_o_at {f : Nat → Nat} {i : Nat} (h : i < 8) : cb_o f i = some (f i) := if_pos h
def cb_rows (ct : Nat → ClassId) (r : Nat → Nat) (M : Nat → Nat → Int32) : va_W := [(r 0, .inl (ct 0, 8, .inl (M 0))), (r 1, .inl (ct 0, 8, .inl (M 1))), (r 2, .inl (ct 0, 8, .inl (M 2))), (r 3, .inl (ct 0, 8, .inl (M 3))), (r 4, .inl (ct 0, 8, .inl (M 4))), (r 5, .inl (ct 0, 8, .inl (M 5))), (r 6, .inl (ct 0, 8, .inl (M 6))), (r 7, .inl (ct 0, 8, .inl (M 7)))]
def cb_w (ct : Nat → ClassId) (ad : Nat → Nat) (u : cb_U) : va_W := [(ad 0, .inr (0, cb_fs ad u)), (ad 1, .inl (ct 0, 8, .inl (cbL u))), (ad 2, .inl (ct 0, 8, .inl (cbG u))), (ad 3, .inl (ct 1, 8, .inl (cbS u))), (ad 4, .inl (ct 2, 8, .inr (.inr (.inr (.inr (cb_o (fun i => ad (9 + i)))))))), (ad 5, .inl (ct 2, 8, .inr (.inr (.inr (.inr (cb_o (fun i => ad (17 + i)))))))), (ad 6, .inl (ct 2, 8, .inr (.inr (.inr (.inr (cb_o (fun i => ad (25 + i)))))))), (ad 7, .inl (ct 3, 8, .inr (.inl (cbE u)))), (ad 8, .inl (ct 0, 8, .inl (cbZ u)))] ++ (cb_rows ct (fun i => ad (9 + i)) (cbC u) ++ (cb_rows ct (fun i => ad (17 + i)) (cbO u) ++ cb_rows ct (fun i => ad (25 + i)) (cbV u)))
abbrev cb_ty (ct : Nat → ClassId) : List (ClassId × FieldType) := [(ct 0, .int), (ct 1, .boolean), (ct 2, .array .int), (ct 3, .long)]
abbrev cb_B (dC : Nat → ClassId) (dI : Nat → Nat → Nat) (ct : Nat → ClassId) (ad : Nat → Nat) (A : Nat → Prop) (u : cb_U) (t : State) : Prop := va_P (dC, dI) vwCl (cb_w ct ad u) t.heap ∧ va_K (dC, dI) vwCl (cb_ty ct) t ∧ va_D A (cb_w ct ad u)
theorem cb_atC (ct : Nat → ClassId) (ad : Nat → Nat) (u : cb_U) : ∀ i, i < 8 → (cb_w ct ad u)[9 + i]? = some (ad (9 + i), .inl (ct 0, 8, .inl (cbC u i))) := by
  intro i hi
  match i, hi with
  | 0, _ => rfl
  | 1, _ => rfl
  | 2, _ => rfl
  | 3, _ => rfl
  | 4, _ => rfl
  | 5, _ => rfl
  | 6, _ => rfl
  | 7, _ => rfl
theorem cb_putC (ct : Nat → ClassId) (ad : Nat → Nat) (u : cb_U) (f : Nat → Int32) : ∀ i, i < 8 → (cb_w ct ad u).set (9 + i) (ad (9 + i), .inl (ct 0, 8, .inl f)) = cb_w ct ad (cb_sC u (va_up (cbC u) i f)) := by
  intro i hi
  match i, hi with
  | 0, _ => rfl
  | 1, _ => rfl
  | 2, _ => rfl
  | 3, _ => rfl
  | 4, _ => rfl
  | 5, _ => rfl
  | 6, _ => rfl
  | 7, _ => rfl
theorem cb_atO (ct : Nat → ClassId) (ad : Nat → Nat) (u : cb_U) : ∀ i, i < 8 → (cb_w ct ad u)[17 + i]? = some (ad (17 + i), .inl (ct 0, 8, .inl (cbO u i))) := by
  intro i hi
  match i, hi with
  | 0, _ => rfl
  | 1, _ => rfl
  | 2, _ => rfl
  | 3, _ => rfl
  | 4, _ => rfl
  | 5, _ => rfl
  | 6, _ => rfl
  | 7, _ => rfl
theorem cb_putO (ct : Nat → ClassId) (ad : Nat → Nat) (u : cb_U) (f : Nat → Int32) : ∀ i, i < 8 → (cb_w ct ad u).set (17 + i) (ad (17 + i), .inl (ct 0, 8, .inl f)) = cb_w ct ad (cb_sO u (va_up (cbO u) i f)) := by
  intro i hi
  match i, hi with
  | 0, _ => rfl
  | 1, _ => rfl
  | 2, _ => rfl
  | 3, _ => rfl
  | 4, _ => rfl
  | 5, _ => rfl
  | 6, _ => rfl
  | 7, _ => rfl
theorem cb_atV (ct : Nat → ClassId) (ad : Nat → Nat) (u : cb_U) : ∀ i, i < 8 → (cb_w ct ad u)[25 + i]? = some (ad (25 + i), .inl (ct 0, 8, .inl (cbV u i))) := by
  intro i hi
  match i, hi with
  | 0, _ => rfl
  | 1, _ => rfl
  | 2, _ => rfl
  | 3, _ => rfl
  | 4, _ => rfl
  | 5, _ => rfl
  | 6, _ => rfl
  | 7, _ => rfl
theorem cb_putV (ct : Nat → ClassId) (ad : Nat → Nat) (u : cb_U) (f : Nat → Int32) : ∀ i, i < 8 → (cb_w ct ad u).set (25 + i) (ad (25 + i), .inl (ct 0, 8, .inl f)) = cb_w ct ad (cb_sV u (va_up (cbV u) i f)) := by
  intro i hi
  match i, hi with
  | 0, _ => rfl
  | 1, _ => rfl
  | 2, _ => rfl
  | 3, _ => rfl
  | 4, _ => rfl
  | 5, _ => rfl
  | 6, _ => rfl
  | 7, _ => rfl
abbrev md_U : Type := Int32 × (Nat → Int32) × (Nat → Int32) × (Nat → Int32) × (Nat → Int32) × (Nat → Int32) × (Nat → Int32) × (Nat → Int64) × Int32
abbrev mdT (v : md_U) : Int32 := v.1
abbrev mdL (v : md_U) : Nat → Int32 := v.2.1
abbrev mdG (v : md_U) : Nat → Int32 := v.2.2.1
abbrev mdS (v : md_U) : Nat → Int32 := v.2.2.2.1
abbrev mdI (v : md_U) : Nat → Int32 := v.2.2.2.2.1
abbrev mdO (v : md_U) : Nat → Int32 := v.2.2.2.2.2.1
abbrev mdV (v : md_U) : Nat → Int32 := v.2.2.2.2.2.2.1
abbrev mdE (v : md_U) : Nat → Int64 := v.2.2.2.2.2.2.2.1
abbrev mdM (v : md_U) : Int32 := v.2.2.2.2.2.2.2.2
abbrev md_sT (v : md_U) (x : Int32) : md_U := (x, mdL v, mdG v, mdS v, mdI v, mdO v, mdV v, mdE v, mdM v)
abbrev md_sL (v : md_U) (x : Nat → Int32) : md_U := (mdT v, x, mdG v, mdS v, mdI v, mdO v, mdV v, mdE v, mdM v)
abbrev md_sG (v : md_U) (x : Nat → Int32) : md_U := (mdT v, mdL v, x, mdS v, mdI v, mdO v, mdV v, mdE v, mdM v)
abbrev md_sS (v : md_U) (x : Nat → Int32) : md_U := (mdT v, mdL v, mdG v, x, mdI v, mdO v, mdV v, mdE v, mdM v)
abbrev md_sI (v : md_U) (x : Nat → Int32) : md_U := (mdT v, mdL v, mdG v, mdS v, x, mdO v, mdV v, mdE v, mdM v)
abbrev md_sO (v : md_U) (x : Nat → Int32) : md_U := (mdT v, mdL v, mdG v, mdS v, mdI v, x, mdV v, mdE v, mdM v)
abbrev md_sV (v : md_U) (x : Nat → Int32) : md_U := (mdT v, mdL v, mdG v, mdS v, mdI v, mdO v, x, mdE v, mdM v)
abbrev md_sE (v : md_U) (x : Nat → Int64) : md_U := (mdT v, mdL v, mdG v, mdS v, mdI v, mdO v, mdV v, x, mdM v)
abbrev md_sM (v : md_U) (x : Int32) : md_U := (mdT v, mdL v, mdG v, mdS v, mdI v, mdO v, mdV v, mdE v, x)
abbrev md_fs (ad : Nat → Nat) (v : md_U) : List Value := [.int (mdT v), .ref (ad 1), .ref (ad 2), .ref (ad 3), .ref (ad 4), .ref (ad 5), .ref (ad 6), .ref (ad 7), .int (mdM v)]
def md_w (ct : Nat → ClassId) (ad : Nat → Nat) (v : md_U) : va_W := [(ad 0, .inr (1, md_fs ad v)), (ad 1, .inl (ct 0, 8, .inl (mdL v))), (ad 2, .inl (ct 0, 8, .inl (mdG v))), (ad 3, .inl (ct 1, 8, .inl (mdS v))), (ad 4, .inl (ct 0, 64, .inl (mdI v))), (ad 5, .inl (ct 0, 64, .inl (mdO v))), (ad 6, .inl (ct 0, 64, .inl (mdV v))), (ad 7, .inl (ct 3, 8, .inr (.inl (mdE v))))]
abbrev md_B (dC : Nat → ClassId) (dI : Nat → Nat → Nat) (ct : Nat → ClassId) (ad : Nat → Nat) (A : Nat → Prop) (v : md_U) (t : State) : Prop := va_P (dC, dI) vwCl (md_w ct ad v) t.heap ∧ va_K (dC, dI) vwCl (cb_ty ct) t ∧ va_D A (md_w ct ad v)
theorem cb_free {A0 : Nat → Prop} {ws : va_W} {H0 H : Heap} {locs : List Loc} (hD : va_D A0 ws) (hS : va_S A0 H0 H locs) (hA : ∀ q, H0.size ≤ q → A0 q) : ∀ q, va_A ws H.size q → A0 q := by
  intro q h
  rcases h with ⟨k, e, hk⟩ | h
  · exact hD.2 k (q, e) hk
  · exact hA q (Nat.le_trans hS.1 h)
theorem cb_vin {p : Int32} {n : Nat} (h : vp_in p n) : p.toNatClampNeg < n := Nat.not_le.mp fun q => h (Or.inr q)
section CBR
variable {p : Program} {l : Launch} {e : Env} {R : Room} {s : State} {m : MethodId} {args : Array Value} {below : List Frame} {meth : Method} {c : Code} {H : Heap} {locs : List Loc} {cells slots : Nat} {Q : State → Prop}
variable {cc : ByteArray} {pc : Nat} {ls : Array Slot} {rest : List Value} {D : va_G} {cl : List vw_C} {A : Nat → Prop} {a : Nat} {tys : List (ClassId × FieldType)} {ws : va_W} {H0 : Heap}
theorem cb_iald (hexec : p.tables.exec = Jvm.exec) (hb : c.code = cc) (hK : va_K D cl tys s) (hP : va_P D cl ws H) (q0 t0 : Nat) {cA : ClassId} {n : Nat} {f : Nat → Int32} (ha : ws[q0]? = some (a, .inl (cA, n, .inl f))) (ht : tys[t0]? = some (cA, .int)) {j : Nat} (hj : j < n) (hn : n < 2 ^ 31) (hdg : decode cc pc = .ok (.iaload, 1))
    (kk : W p l e R s m args below meth c H locs cells slots Q (F0 m (pc + 1) ls (.int (f j) :: rest))) : W p l e R s m args below meth c H locs cells slots Q (F0 m pc ls (.int (nI j) :: .ref a :: rest)) := by
  refine va_iald hexec hb hK hP q0 t0 ha ht (vp_in_nI hj hn) hdg ?_
  rw [nI_clamp (Nat.lt_trans hj hn)]; exact kk
theorem cb_zald (hexec : p.tables.exec = Jvm.exec) (hb : c.code = cc) (hK : va_K D cl tys s) (hP : va_P D cl ws H) (q0 t0 : Nat) {cA : ClassId} {n : Nat} {f : Nat → Int32} (ha : ws[q0]? = some (a, .inl (cA, n, .inl f))) (ht : tys[t0]? = some (cA, .boolean)) {j : Nat} (hj : j < n) (hn : n < 2 ^ 31) (hdg : decode cc pc = .ok (.baload, 1))
    (kk : W p l e R s m args below meth c H locs cells slots Q (F0 m (pc + 1) ls (.int (f j) :: rest))) : W p l e R s m args below meth c H locs cells slots Q (F0 m pc ls (.int (nI j) :: .ref a :: rest)) := by
  refine va_zald hexec hb hK hP q0 t0 ha ht (vp_in_nI hj hn) hdg ?_
  rw [nI_clamp (Nat.lt_trans hj hn)]; exact kk
theorem cb_lald (hexec : p.tables.exec = Jvm.exec) (hb : c.code = cc) (hK : va_K D cl tys s) (hP : va_P D cl ws H) (q0 t0 : Nat) {cA : ClassId} {n : Nat} {f : Nat → Int64} (ha : ws[q0]? = some (a, .inl (cA, n, .inr (.inl f)))) (ht : tys[t0]? = some (cA, .long)) {j : Nat} (hj : j < n) (hn : n < 2 ^ 31) (hdg : decode cc pc = .ok (.laload, 1))
    (kk : W p l e R s m args below meth c H locs cells slots Q (F0 m (pc + 1) ls (.long (f j) :: rest))) : W p l e R s m args below meth c H locs cells slots Q (F0 m pc ls (.int (nI j) :: .ref a :: rest)) := by
  refine va_lald hexec hb hK hP q0 t0 ha ht (vp_in_nI hj hn) hdg ?_
  rw [nI_clamp (Nat.lt_trans hj hn)]; exact kk
theorem cb_aaldN (hexec : p.tables.exec = Jvm.exec) (hb : c.code = cc) (hK : va_K D cl tys s) (hP : va_P D cl ws H) (q0 t0 : Nat) {cA : ClassId} {ty : FieldType} {n : Nat} {f : Nat → Option Nat} (ha : ws[q0]? = some (a, .inl (cA, n, .inr (.inr (.inr (.inr f)))))) (ht : tys[t0]? = some (cA, .array ty)) {j : Nat} (hj : j < n) (hn : n < 2 ^ 31) {b : Nat} (hv : f j = some b) (hdg : decode cc pc = .ok (.aaload, 1))
    (kk : W p l e R s m args below meth c H locs cells slots Q (F0 m (pc + 1) ls (.ref b :: rest))) : W p l e R s m args below meth c H locs cells slots Q (F0 m pc ls (.int (nI j) :: .ref a :: rest)) :=
  cb_aald hexec hb hK hP q0 t0 ha ht (vp_in_nI hj hn) (by rw [nI_clamp (Nat.lt_trans hj hn)]; exact hv) hdg kk
theorem cb_iast (hexec : p.tables.exec = Jvm.exec) (hb : c.code = cc) (hK : va_K D cl tys s) (hP : va_P D cl ws H) (hD : va_D A ws) (hS : va_S A H0 H locs) (q0 t0 : Nat) {cA : ClassId} {n : Nat} {f : Nat → Int32} (ha : ws[q0]? = some (a, .inl (cA, n, .inl f))) (ht : tys[t0]? = some (cA, .int)) {j : Nat} {x : Int32} (hj : j < n) (hn : n < 2 ^ 31) {ws1 : va_W} (hw : ws.set q0 (a, .inl (cA, n, .inl (upd f j x))) = ws1) (hdg : decode cc pc = .ok (.iastore, 1))
    (kk : ∀ (H1 : Heap) (locs1 : List Loc), va_P D cl ws1 H1 → va_D A ws1 → va_S A H0 H1 locs1 → W p l e R s m args below meth c H1 locs1 cells slots Q (F0 m (pc + 1) ls rest)) : W p l e R s m args below meth c H locs cells slots Q (F0 m pc ls (.int x :: .int (nI j) :: .ref a :: rest)) := by
  subst hw
  refine va_iast hexec hb hK hP hD hS q0 t0 ha ht (vp_in_nI hj hn) hdg ?_
  rw [nI_clamp (Nat.lt_trans hj hn)]; exact kk
theorem cb_last (hexec : p.tables.exec = Jvm.exec) (hb : c.code = cc) (hK : va_K D cl tys s) (hP : va_P D cl ws H) (hD : va_D A ws) (hS : va_S A H0 H locs) (q0 t0 : Nat) {cA : ClassId} {n : Nat} {f : Nat → Int64} (ha : ws[q0]? = some (a, .inl (cA, n, .inr (.inl f)))) (ht : tys[t0]? = some (cA, .long)) {j : Nat} {x : Int64} (hj : j < n) (hn : n < 2 ^ 31) {ws1 : va_W} (hw : ws.set q0 (a, .inl (cA, n, .inr (.inl (vp_updL f j x)))) = ws1) (hdg : decode cc pc = .ok (.lastore, 1))
    (kk : ∀ (H1 : Heap) (locs1 : List Loc), va_P D cl ws1 H1 → va_D A ws1 → va_S A H0 H1 locs1 → W p l e R s m args below meth c H1 locs1 cells slots Q (F0 m (pc + 1) ls rest)) : W p l e R s m args below meth c H locs cells slots Q (F0 m pc ls (.long x :: .int (nI j) :: .ref a :: rest)) := by
  subst hw
  refine va_last hexec hb hK hP hD hS q0 t0 ha ht (vp_in_nI hj hn) hdg ?_
  rw [nI_clamp (Nat.lt_trans hj hn)]; exact kk
theorem cb_iastR (hexec : p.tables.exec = Jvm.exec) (hb : c.code = cc) (hK : va_K D cl tys s) (hP : va_P D cl ws H) (hD : va_D A ws) (hS : va_S A H0 H locs) (q0 t0 : Nat) {cA : ClassId} {n : Nat} {f : Nat → Int32} (ha : ws[q0]? = some (a, .inl (cA, n, .inl f))) (ht : tys[t0]? = some (cA, .int)) {i : Int32} {x : Int32} (hin : vp_in i n) {ws1 : va_W} (hw : ws.set q0 (a, .inl (cA, n, .inl (upd f i.toNatClampNeg x))) = ws1) (hdg : decode cc pc = .ok (.iastore, 1))
    (kk : ∀ (H1 : Heap) (locs1 : List Loc), va_P D cl ws1 H1 → va_D A ws1 → va_S A H0 H1 locs1 → W p l e R s m args below meth c H1 locs1 cells slots Q (F0 m (pc + 1) ls rest)) : W p l e R s m args below meth c H locs cells slots Q (F0 m pc ls (.int x :: .int i :: .ref a :: rest)) := by
  subst hw
  exact va_iast hexec hb hK hP hD hS q0 t0 ha ht hin hdg kk
theorem cb_zastR (hexec : p.tables.exec = Jvm.exec) (hb : c.code = cc) (hK : va_K D cl tys s) (hP : va_P D cl ws H) (hD : va_D A ws) (hS : va_S A H0 H locs) (q0 t0 : Nat) {cA : ClassId} {n : Nat} {f : Nat → Int32} (ha : ws[q0]? = some (a, .inl (cA, n, .inl f))) (ht : tys[t0]? = some (cA, .boolean)) {i : Int32} {x : Int32} (hin : vp_in i n) {ws1 : va_W} (hw : ws.set q0 (a, .inl (cA, n, .inl (upd f i.toNatClampNeg (vp_nar .boolean x)))) = ws1) (hdg : decode cc pc = .ok (.bastore, 1))
    (kk : ∀ (H1 : Heap) (locs1 : List Loc), va_P D cl ws1 H1 → va_D A ws1 → va_S A H0 H1 locs1 → W p l e R s m args below meth c H1 locs1 cells slots Q (F0 m (pc + 1) ls rest)) : W p l e R s m args below meth c H locs cells slots Q (F0 m pc ls (.int x :: .int i :: .ref a :: rest)) := by
  subst hw
  exact va_zast hexec hb hK hP hD hS q0 t0 ha ht hin hdg kk
variable {Ts : List Cond} {dC : Nat → ClassId} {dI : Nat → Nat → Nat} {ct : Nat → ClassId} {ad : Nat → Nat} {u : cb_U} {v : md_U} {index : Nat}
theorem cb_get (hexec : p.tables.exec = Jvm.exec) (hb : c.code = cc) (hts : ∀ w ∈ Ts, w.before args s = true) (hin0 : ∀ w ∈ u_ws RX0 TX0 9, w ∈ Ts) (hown : s.vm.findClass RX0 = some m.cls) (hK : va_K (dC, dI) vwCl (cb_ty ct) s) (hP : va_P (dC, dI) vwCl (cb_w ct ad u) H) (k : Nat) (hk : k < 9) (hlink : (Cond.fieldLink RX0 index (TX0 k).1 (TX0 k).2.1 (TX0 k).2.2.1).before args s = true) {z : Value} (hv : (cb_fs ad u)[k]? = some z) (hdg : decode cc pc = .ok (.getfield index, 3))
    (kk : W p l e R s m args below meth c H locs cells slots Q (F0 m (pc + 3) ls (z :: rest))) : W p l e R s m args below meth c H locs cells slots Q (F0 m pc ls (.ref (ad 0) :: rest)) :=
  va_get (D := (dC, dI)) (ci := 0) (v := z) (C := RX0) (T := TX0) (N := 9) hexec hb hts hin0 hown hK hP 0 rfl rfl k hk hlink (fun _ h9 => h9) hv hdg kk
theorem md_get (hexec : p.tables.exec = Jvm.exec) (hb : c.code = cc) (hts : ∀ w ∈ Ts, w.before args s = true) (hin0 : ∀ w ∈ u_ws RX1 TX1 9, w ∈ Ts) (hown : s.vm.findClass RX1 = some m.cls) (hK : va_K (dC, dI) vwCl (cb_ty ct) s) (hP : va_P (dC, dI) vwCl (md_w ct ad v) H) (k : Nat) (hk : k < 9) (hlink : (Cond.fieldLink RX1 index (TX1 k).1 (TX1 k).2.1 (TX1 k).2.2.1).before args s = true) {z : Value} (hv : (md_fs ad v)[k]? = some z) (hdg : decode cc pc = .ok (.getfield index, 3))
    (kk : W p l e R s m args below meth c H locs cells slots Q (F0 m (pc + 3) ls (z :: rest))) : W p l e R s m args below meth c H locs cells slots Q (F0 m pc ls (.ref (ad 0) :: rest)) :=
  va_get (D := (dC, dI)) (ci := 1) (v := z) (C := RX1) (T := TX1) (N := 9) hexec hb hts hin0 hown hK hP 0 rfl rfl k hk hlink (fun _ h9 => h9) hv hdg kk
theorem cb_putM {x : Int32} (hexec : p.tables.exec = Jvm.exec) (hb : c.code = cc) (hts : ∀ w ∈ Ts, w.before args s = true) (hin0 : ∀ w ∈ u_ws RX0 TX0 9, w ∈ Ts) (hown : s.vm.findClass RX0 = some m.cls) (hK : va_K (dC, dI) vwCl (cb_ty ct) s) (hP : va_P (dC, dI) vwCl (cb_w ct ad u) H) (hD : va_D A (cb_w ct ad u)) (hS : va_S A H0 H locs) (hlink : (Cond.fieldLink RX0 index (TX0 5).1 (TX0 5).2.1 (TX0 5).2.2.1).before args s = true) (hdg : decode cc pc = .ok (.putfield index, 3))
    (kk : ∀ (H1 : Heap) (locs1 : List Loc), va_P (dC, dI) vwCl (cb_w ct ad (cb_sM u x)) H1 → va_D A (cb_w ct ad (cb_sM u x)) → va_S A H0 H1 locs1 → W p l e R s m args below meth c H1 locs1 cells slots Q (F0 m (pc + 3) ls rest)) : W p l e R s m args below meth c H locs cells slots Q (F0 m pc ls (.int x :: .ref (ad 0) :: rest)) :=
  va_put (D := (dC, dI)) (ci := 0) (v := .int x) (ty := .int) (C := RX0) (T := TX0) (N := 9) hexec hb hts hin0 tyX0 tyX0_ok nmX0 hown hK hP hD hS 0 rfl rfl 5 (by decide) hlink (fun _ h9 => h9) rfl (by decide +kernel) rfl rfl (Nat.le_of_ble_eq_true rfl) hdg kk
theorem md_putT {x : Int32} (hexec : p.tables.exec = Jvm.exec) (hb : c.code = cc) (hts : ∀ w ∈ Ts, w.before args s = true) (hin0 : ∀ w ∈ u_ws RX1 TX1 9, w ∈ Ts) (hown : s.vm.findClass RX1 = some m.cls) (hK : va_K (dC, dI) vwCl (cb_ty ct) s) (hP : va_P (dC, dI) vwCl (md_w ct ad v) H) (hD : va_D A (md_w ct ad v)) (hS : va_S A H0 H locs) (hlink : (Cond.fieldLink RX1 index (TX1 0).1 (TX1 0).2.1 (TX1 0).2.2.1).before args s = true) (hdg : decode cc pc = .ok (.putfield index, 3))
    (kk : ∀ (H1 : Heap) (locs1 : List Loc), va_P (dC, dI) vwCl (md_w ct ad (md_sT v x)) H1 → va_D A (md_w ct ad (md_sT v x)) → va_S A H0 H1 locs1 → W p l e R s m args below meth c H1 locs1 cells slots Q (F0 m (pc + 3) ls rest)) : W p l e R s m args below meth c H locs cells slots Q (F0 m pc ls (.int x :: .ref (ad 0) :: rest)) :=
  va_put (D := (dC, dI)) (ci := 1) (v := .int x) (ty := .int) (C := RX1) (T := TX1) (N := 9) hexec hb hts hin0 tyX1 tyX1_ok nmX1 hown hK hP hD hS 0 rfl rfl 0 (by decide) hlink (fun _ h9 => h9) rfl (by decide +kernel) rfl rfl (Nat.le_of_ble_eq_true rfl) hdg kk
theorem md_putM {x : Int32} (hexec : p.tables.exec = Jvm.exec) (hb : c.code = cc) (hts : ∀ w ∈ Ts, w.before args s = true) (hin0 : ∀ w ∈ u_ws RX1 TX1 9, w ∈ Ts) (hown : s.vm.findClass RX1 = some m.cls) (hK : va_K (dC, dI) vwCl (cb_ty ct) s) (hP : va_P (dC, dI) vwCl (md_w ct ad v) H) (hD : va_D A (md_w ct ad v)) (hS : va_S A H0 H locs) (hlink : (Cond.fieldLink RX1 index (TX1 8).1 (TX1 8).2.1 (TX1 8).2.2.1).before args s = true) (hdg : decode cc pc = .ok (.putfield index, 3))
    (kk : ∀ (H1 : Heap) (locs1 : List Loc), va_P (dC, dI) vwCl (md_w ct ad (md_sM v x)) H1 → va_D A (md_w ct ad (md_sM v x)) → va_S A H0 H1 locs1 → W p l e R s m args below meth c H1 locs1 cells slots Q (F0 m (pc + 3) ls rest)) : W p l e R s m args below meth c H locs cells slots Q (F0 m pc ls (.int x :: .ref (ad 0) :: rest)) :=
  va_put (D := (dC, dI)) (ci := 1) (v := .int x) (ty := .int) (C := RX1) (T := TX1) (N := 9) hexec hb hts hin0 tyX1 tyX1_ok nmX1 hown hK hP hD hS 0 rfl rfl 8 (by decide) hlink (fun _ h9 => h9) rfl (by decide +kernel) rfl rfl (Nat.le_of_ble_eq_true rfl) hdg kk
end CBR
end
section
/-! instance methods without loops -/
theorem cb_party {x : Int32} (h : ¬ (fnX0_isParty x) = 0) : vp_in x 8 := by
  unfold fnX0_isParty at h
  by_cases h1 : x < 0
  · rw [if_pos h1] at h; exact absurd rfl h
  · rw [if_neg h1] at h
    by_cases h2 : 8 ≤ x
    · rw [if_pos h2] at h; exact absurd rfl h
    · obtain ⟨j, hj, rfl⟩ := nI_of h1
      exact vp_in_nI (Nat.lt_of_not_le (fun q => h2 (nI_le (a := 8) q hj))) (by decide)
theorem cb_place {x : Int32} (h : ¬ (fnX0_isPlace x) = 0) : vp_in x 8 := cb_party (x := x) h
theorem md_not {x : Int32} {n : Nat} (h : (fnX1_not x (nI n)) = 0) (hn : n < 2 ^ 31) : vp_in x n := by
  unfold fnX1_not at h
  by_cases h1 : x < 0
  · rw [if_pos h1] at h; exact absurd h (by decide)
  · rw [if_neg h1] at h
    by_cases h2 : x < nI n
    · obtain ⟨j, hj, rfl⟩ := nI_of h1
      exact vp_in_nI ((nI_ltI hj hn).mp h2) hn
    · rw [if_neg h2] at h; exact absurd h (by decide)
theorem md_ixN {a b : Nat} : (8 : Int32) * nI a + nI b = nI (8 * a + b) := by
  have e1 : (8 : Int32) * nI a = nI (8 * a) := pk_mul 8 a
  rw [e1, nI_add]
theorem md_ix {x y : Int32} (h : vp_in x 8) (h2 : vp_in y 8) : vp_in ((8 : Int32) * x + y) 64 := by
  obtain ⟨a, ha, rfl⟩ := vp_in_of h (by decide)
  obtain ⟨b, hb, rfl⟩ := vp_in_of h2 (by decide)
  rw [md_ixN]
  exact vp_in_nI (by omega) (by decide)

def anX0_encode (u : cb_U) (a1 : Int32) (a2 : Int32) : Int32 := if (fnX0_isLaw a1) = 0 then ((-1)) else ((fnX0_codeOf a1 (fnX0_saturated (a2.toInt64))))
def stX0_encode (u : cb_U) (a1 : Int32) (a2 : Int32) : cb_U := if (fnX0_isLaw a1) = 0 then (u) else (u)
set_option maxHeartbeats 4000000 in
set_option maxRecDepth 100000 in
theorem metX0_encode (l : Launch) (dC : Nat → ClassId) (dI : Nat → Nat → Nat) (ct : Nat → ClassId) (ad : Nat → Nat) (sz : Nat) (u : cb_U) (a1 : Int32) (a2 : Int32) : Met l yX0_encode wsX0_encode ({ frames := 4, cells := 0, slots := 0, locals := 86 }) (va_Pc [.ref (ad 0), .int a1, .int a2] (fun U => U.heap.size = sz ∧ cb_B dC dI ct ad (fun _ => True) u U)) (va_Qi (fun r (_ : Unit) => r = anX0_encode u a1 a2) (fun _ => cb_B dC dI ct ad (va_A (cb_w ct ad u) sz) (stX0_encode u a1 a2)) (va_A (cb_w ct ad u) sz)) 0 0 (va_A (cb_w ct ad u) sz) := by
  refine Met.ofW (cc := cX0_encode) (maxL := 3) (ret := (some .int)) (by decide) rfl ?_
  intro p e s m args below meth c s₁ B hml hv
  obtain ⟨rfl, hsz, hP, hK, hD0⟩ := hv
  have hx := B.exec
  have hb := B.bytes
  have hr := B.returns
  have hts := atoms_spec (ws := wsX0_encode) B.pre
  have hown : s.vm.findClass RX0 = some m.cls := findClass_of_methodNamed B.named
  have hlocks := B.notSynchronized
  subst hsz
  have hD := hD0.self (sz := s.heap.size)
  generalize hAe : va_A (cb_w ct ad u) s.heap.size = A at hD ⊢
  have hA : ∀ q : Nat, s.heap.size ≤ q → A q := fun q h => by rw [← hAe]; exact Or.inr h
  have hS : va_S A s.heap s.heap [] := va_S.rf
  have hl := lv_entry ([.ref (ad 0), .int a1, .int a2]) (n := 3) (Nat.le_of_ble_eq_true rfl)
  rw [lg_entry_eq]
  generalize (lg_sl ([.ref (ad 0), .int a1, .int a2]) ++ List.replicate (3 - (lg_sl ([.ref (ad 0), .int a1, .int a2])).length) Slot.unset).toArray = ls at hl ⊢
  have hl : lv_has ls 3 [(0, .ref (ad 0)), (1, .int (a1)), (2, .int (a2))] := hl
  refine lv_iload_n hx hb dX0_encode_0 rfl (lv_at hl 1 rfl) ?_
  refine vp_callSi (W.runS (As := [.int (a1)]) (rest := []) ⟨hx, hb, hml, hown, hts⟩ (metX0_isLaw l a1) (va_cwS 1 hts gX0_encode_X0_isLaw rfl rfl rfl (by decide +kernel) ⟨(Nat.le_of_ble_eq_true rfl), (Nat.le_of_ble_eq_true rfl)⟩) ⟨fun a U g mk q => q, fun U hU hW => ⟨rfl, trivial⟩⟩ rfl rfl hl.1 rfl (lv_room (Nat.le_of_ble_eq_true rfl)) dX0_encode_1 ⟨(Nat.zero_le _), (Nat.zero_le _)⟩) (fun r_1 er_1 => ?_)
  subst er_1
  refine lv_if_eq (tgt := 19) hx hb dX0_encode_4 (by decide) (fun c_2 => ?_) (fun c_2 => ?_)
  · refine lv_iconst (v := (-1)) hx hb dX0_encode_19 (by decide) ?_
    have e9 : stX0_encode u a1 a2 = u := by unfold stX0_encode; rw [if_pos c_2]
    exact W.iret (v := (-1)) hx hb hr (fun t ht hW => ⟨⟨(-1), (), rfl, by unfold anX0_encode; rw [if_pos c_2], by rw [ht, e9]; exact hP, va_K.moved hW.alike hK, by rw [e9]; exact hD⟩, hS.F ht⟩) hS.2.2 dX0_encode_20
  · refine lv_iload_n hx hb dX0_encode_7 rfl (lv_at hl 1 rfl) ?_
    refine lv_iload_n hx hb dX0_encode_8 rfl (lv_at hl 2 rfl) ?_
    refine lv_i2l (v := a2.toInt64) hx hb dX0_encode_9 rfl ?_
    refine vp_callSi (W.runS (As := [.long (a2.toInt64)]) (rest := [.int (a1)]) ⟨hx, hb, hml, hown, hts⟩ (metX0_saturated l (a2.toInt64)) (va_cwS 1 hts gX0_encode_X0_saturated rfl rfl rfl (by decide +kernel) ⟨(Nat.le_of_ble_eq_true rfl), (Nat.le_of_ble_eq_true rfl)⟩) ⟨fun a U g mk q => q, fun U hU hW => ⟨rfl, trivial⟩⟩ rfl rfl hl.1 rfl (lv_room (Nat.le_of_ble_eq_true rfl)) dX0_encode_10 ⟨(Nat.zero_le _), (Nat.zero_le _)⟩) (fun r_3 er_3 => ?_)
    subst er_3
    refine vp_callSi (W.runS (As := [.int (a1), .int ((fnX0_saturated (a2.toInt64)))]) (rest := []) ⟨hx, hb, hml, hown, hts⟩ (metX0_codeOf l a1 (fnX0_saturated (a2.toInt64))) (va_cwS 2 hts gX0_encode_X0_codeOf rfl rfl rfl (by decide +kernel) ⟨(Nat.le_of_ble_eq_true rfl), (Nat.le_of_ble_eq_true rfl)⟩) ⟨fun a U g mk q => q, fun U hU hW => ⟨rfl, trivial⟩⟩ rfl rfl hl.1 rfl (lv_room (Nat.le_of_ble_eq_true rfl)) dX0_encode_13 ⟨(Nat.zero_le _), (Nat.zero_le _)⟩) (fun r_4 er_4 => ?_)
    subst er_4
    refine lv_goto (tgt := 20) hx hb dX0_encode_16 (by decide) ?_
    have e9 : stX0_encode u a1 a2 = u := by unfold stX0_encode; rw [if_neg c_2]
    exact W.iret (v := (fnX0_codeOf a1 (fnX0_saturated (a2.toInt64)))) hx hb hr (fun t ht hW => ⟨⟨(fnX0_codeOf a1 (fnX0_saturated (a2.toInt64))), (), rfl, by unfold anX0_encode; rw [if_neg c_2], by rw [ht, e9]; exact hP, va_K.moved hW.alike hK, by rw [e9]; exact hD⟩, hS.F ht⟩) hS.2.2 dX0_encode_20

def anX0_law (u : cb_U) (a1 : Int32) (a2 : Int32) : Int32 := if (fnX0_isParty a1) = 0 then (0) else (if (fnX0_isLaw a2) = 0 then (0) else (1))
def stX0_law (u : cb_U) (a1 : Int32) (a2 : Int32) : cb_U := if (fnX0_isParty a1) = 0 then (u) else (if (fnX0_isLaw a2) = 0 then (u) else ((cb_sL u (upd (cbL u) a1.toNatClampNeg a2))))
set_option maxHeartbeats 4000000 in
set_option maxRecDepth 100000 in
theorem metX0_law (l : Launch) (dC : Nat → ClassId) (dI : Nat → Nat → Nat) (ct : Nat → ClassId) (ad : Nat → Nat) (sz : Nat) (u : cb_U) (a1 : Int32) (a2 : Int32) : Met l yX0_law wsX0_law ({ frames := 1, cells := 0, slots := 0, locals := 20 }) (va_Pc [.ref (ad 0), .int a1, .int a2] (fun U => U.heap.size = sz ∧ cb_B dC dI ct ad (fun _ => True) u U)) (va_Qi (fun r (_ : Unit) => r = anX0_law u a1 a2) (fun _ => cb_B dC dI ct ad (va_A (cb_w ct ad u) sz) (stX0_law u a1 a2)) (va_A (cb_w ct ad u) sz)) 0 0 (va_A (cb_w ct ad u) sz) := by
  refine Met.ofW (cc := cX0_law) (maxL := 3) (ret := (some .boolean)) (by decide) rfl ?_
  intro p e s m args below meth c s₁ B hml hv
  obtain ⟨rfl, hsz, hP, hK, hD0⟩ := hv
  have hx := B.exec
  have hb := B.bytes
  have hr := B.returns
  have hts := atoms_spec (ws := wsX0_law) B.pre
  have hown : s.vm.findClass RX0 = some m.cls := findClass_of_methodNamed B.named
  have hlocks := B.notSynchronized
  have hin0 : ∀ w ∈ u_ws RX0 TX0 9, w ∈ wsX0_law := by decide +kernel
  subst hsz
  have hD := hD0.self (sz := s.heap.size)
  generalize hAe : va_A (cb_w ct ad u) s.heap.size = A at hD ⊢
  have hA : ∀ q : Nat, s.heap.size ≤ q → A q := fun q h => by rw [← hAe]; exact Or.inr h
  have hS : va_S A s.heap s.heap [] := va_S.rf
  have hl := lv_entry ([.ref (ad 0), .int a1, .int a2]) (n := 3) (Nat.le_of_ble_eq_true rfl)
  rw [lg_entry_eq]
  generalize (lg_sl ([.ref (ad 0), .int a1, .int a2]) ++ List.replicate (3 - (lg_sl ([.ref (ad 0), .int a1, .int a2])).length) Slot.unset).toArray = ls at hl ⊢
  have hl : lv_has ls 3 [(0, .ref (ad 0)), (1, .int (a1)), (2, .int (a2))] := hl
  refine lv_iload_n hx hb dX0_law_0 rfl (lv_at hl 1 rfl) ?_
  refine vp_callSi (W.runS (As := [.int (a1)]) (rest := []) ⟨hx, hb, hml, hown, hts⟩ (metX0_isParty l a1) (va_cwS 1 hts gX0_law_X0_isParty rfl rfl rfl (by decide +kernel) ⟨(Nat.le_of_ble_eq_true rfl), (Nat.le_of_ble_eq_true rfl)⟩) ⟨fun a U g mk q => q, fun U hU hW => ⟨rfl, trivial⟩⟩ rfl rfl hl.1 rfl (lv_room (Nat.le_of_ble_eq_true rfl)) dX0_law_1 ⟨(Nat.zero_le _), (Nat.zero_le _)⟩) (fun r_1 er_1 => ?_)
  subst er_1
  refine lv_if_eq (tgt := 14) hx hb dX0_law_4 (by decide) (fun c_2 => ?_) (fun c_2 => ?_)
  · refine lv_iconst (v := 0) hx hb dX0_law_14 (by decide) ?_
    have e9 : stX0_law u a1 a2 = u := by unfold stX0_law; rw [if_pos c_2]
    exact W.zret (v := 0) hx hb hr (by decide) (fun t ht hW => ⟨⟨0, (), rfl, by unfold anX0_law; rw [if_pos c_2], by rw [ht, e9]; exact hP, va_K.moved hW.alike hK, by rw [e9]; exact hD⟩, hS.F ht⟩) hS.2.2 dX0_law_15
  · refine lv_iload_n hx hb dX0_law_7 rfl (lv_at hl 2 rfl) ?_
    refine vp_callSi (W.runS (As := [.int (a2)]) (rest := []) ⟨hx, hb, hml, hown, hts⟩ (metX0_isLaw l a2) (va_cwS 1 hts gX0_law_X0_isLaw rfl rfl rfl (by decide +kernel) ⟨(Nat.le_of_ble_eq_true rfl), (Nat.le_of_ble_eq_true rfl)⟩) ⟨fun a U g mk q => q, fun U hU hW => ⟨rfl, trivial⟩⟩ rfl rfl hl.1 rfl (lv_room (Nat.le_of_ble_eq_true rfl)) dX0_law_8 ⟨(Nat.zero_le _), (Nat.zero_le _)⟩) (fun r_3 er_3 => ?_)
    subst er_3
    refine lv_if_ne (tgt := 16) hx hb dX0_law_11 (by decide) (fun c_4 => ?_) (fun c_4 => ?_)
    · refine lv_aload_n hx hb dX0_law_16 rfl (lv_at hl 0 rfl) ?_
      refine cb_get hx hb hts hin0 hown hK hP 0 (by decide) (hts (.fieldLink RX0 9 "ConferenceBridge" "laws" "[I") (by decide +kernel)) (z := .ref (ad 1)) rfl dX0_law_17 ?_
      refine lv_iload_n hx hb dX0_law_20 rfl (lv_at hl 1 rfl) ?_
      refine lv_iload_n hx hb dX0_law_21 rfl (lv_at hl 2 rfl) ?_
      refine cb_iastR hx hb hK hP hD hS 1 0 (f := cbL u) rfl rfl (cb_party c_2) (ws1 := cb_w ct ad ((cb_sL u (upd (cbL u) a1.toNatClampNeg a2)))) rfl dX0_law_22 (fun H locs hP hD hS => ?_)
      have hP : va_P (dC, dI) vwCl (cb_w ct ad ((cb_sL u (upd (cbL u) a1.toNatClampNeg a2)))) H := hP
      have hD : va_D A (cb_w ct ad ((cb_sL u (upd (cbL u) a1.toNatClampNeg a2)))) := hD
      refine lv_iconst (v := 1) hx hb dX0_law_23 (by decide) ?_
      have e9 : stX0_law u a1 a2 = (cb_sL u (upd (cbL u) a1.toNatClampNeg a2)) := by unfold stX0_law; rw [if_neg c_2, if_neg c_4]
      exact W.zret (v := 1) hx hb hr (by decide) (fun t ht hW => ⟨⟨1, (), rfl, by unfold anX0_law; rw [if_neg c_2, if_neg c_4], by rw [ht, e9]; exact hP, va_K.moved hW.alike hK, by rw [e9]; exact hD⟩, hS.F ht⟩) hS.2.2 dX0_law_24
    · refine lv_iconst (v := 0) hx hb dX0_law_14 (by decide) ?_
      have e9 : stX0_law u a1 a2 = u := by unfold stX0_law; rw [if_neg c_2, if_pos c_4]
      exact W.zret (v := 0) hx hb hr (by decide) (fun t ht hW => ⟨⟨0, (), rfl, by unfold anX0_law; rw [if_neg c_2, if_pos c_4], by rw [ht, e9]; exact hP, va_K.moved hW.alike hK, by rw [e9]; exact hD⟩, hS.F ht⟩) hS.2.2 dX0_law_15

def anX0_gain (u : cb_U) (a1 : Int32) (a2 : Int32) : Int32 := if (fnX0_isParty a1) = 0 then (0) else (if a2 < 0 then (0) else (if a2 ≤ 1024 then (1) else (0)))
def stX0_gain (u : cb_U) (a1 : Int32) (a2 : Int32) : cb_U := if (fnX0_isParty a1) = 0 then (u) else (if a2 < 0 then (u) else (if a2 ≤ 1024 then ((cb_sG u (upd (cbG u) a1.toNatClampNeg a2))) else (u)))
set_option maxHeartbeats 4000000 in
set_option maxRecDepth 100000 in
theorem metX0_gain (l : Launch) (dC : Nat → ClassId) (dI : Nat → Nat → Nat) (ct : Nat → ClassId) (ad : Nat → Nat) (sz : Nat) (u : cb_U) (a1 : Int32) (a2 : Int32) : Met l yX0_gain wsX0_gain ({ frames := 1, cells := 0, slots := 0, locals := 20 }) (va_Pc [.ref (ad 0), .int a1, .int a2] (fun U => U.heap.size = sz ∧ cb_B dC dI ct ad (fun _ => True) u U)) (va_Qi (fun r (_ : Unit) => r = anX0_gain u a1 a2) (fun _ => cb_B dC dI ct ad (va_A (cb_w ct ad u) sz) (stX0_gain u a1 a2)) (va_A (cb_w ct ad u) sz)) 0 0 (va_A (cb_w ct ad u) sz) := by
  refine Met.ofW (cc := cX0_gain) (maxL := 3) (ret := (some .boolean)) (by decide) rfl ?_
  intro p e s m args below meth c s₁ B hml hv
  obtain ⟨rfl, hsz, hP, hK, hD0⟩ := hv
  have hx := B.exec
  have hb := B.bytes
  have hr := B.returns
  have hts := atoms_spec (ws := wsX0_gain) B.pre
  have hown : s.vm.findClass RX0 = some m.cls := findClass_of_methodNamed B.named
  have hlocks := B.notSynchronized
  have hin0 : ∀ w ∈ u_ws RX0 TX0 9, w ∈ wsX0_gain := by decide +kernel
  subst hsz
  have hD := hD0.self (sz := s.heap.size)
  generalize hAe : va_A (cb_w ct ad u) s.heap.size = A at hD ⊢
  have hA : ∀ q : Nat, s.heap.size ≤ q → A q := fun q h => by rw [← hAe]; exact Or.inr h
  have hS : va_S A s.heap s.heap [] := va_S.rf
  have hl := lv_entry ([.ref (ad 0), .int a1, .int a2]) (n := 3) (Nat.le_of_ble_eq_true rfl)
  rw [lg_entry_eq]
  generalize (lg_sl ([.ref (ad 0), .int a1, .int a2]) ++ List.replicate (3 - (lg_sl ([.ref (ad 0), .int a1, .int a2])).length) Slot.unset).toArray = ls at hl ⊢
  have hl : lv_has ls 3 [(0, .ref (ad 0)), (1, .int (a1)), (2, .int (a2))] := hl
  refine lv_iload_n hx hb dX0_gain_0 rfl (lv_at hl 1 rfl) ?_
  refine vp_callSi (W.runS (As := [.int (a1)]) (rest := []) ⟨hx, hb, hml, hown, hts⟩ (metX0_isParty l a1) (va_cwS 1 hts gX0_gain_X0_isParty rfl rfl rfl (by decide +kernel) ⟨(Nat.le_of_ble_eq_true rfl), (Nat.le_of_ble_eq_true rfl)⟩) ⟨fun a U g mk q => q, fun U hU hW => ⟨rfl, trivial⟩⟩ rfl rfl hl.1 rfl (lv_room (Nat.le_of_ble_eq_true rfl)) dX0_gain_1 ⟨(Nat.zero_le _), (Nat.zero_le _)⟩) (fun r_1 er_1 => ?_)
  subst er_1
  refine lv_if_eq (tgt := 18) hx hb dX0_gain_4 (by decide) (fun c_2 => ?_) (fun c_2 => ?_)
  · refine lv_iconst (v := 0) hx hb dX0_gain_18 (by decide) ?_
    have e9 : stX0_gain u a1 a2 = u := by unfold stX0_gain; rw [if_pos c_2]
    exact W.zret (v := 0) hx hb hr (by decide) (fun t ht hW => ⟨⟨0, (), rfl, by unfold anX0_gain; rw [if_pos c_2], by rw [ht, e9]; exact hP, va_K.moved hW.alike hK, by rw [e9]; exact hD⟩, hS.F ht⟩) hS.2.2 dX0_gain_19
  · refine lv_iload_n hx hb dX0_gain_7 rfl (lv_at hl 2 rfl) ?_
    refine lv_if_lt (tgt := 18) hx hb dX0_gain_8 (by decide) (fun c_3 => ?_) (fun c_3 => ?_)
    · refine lv_iconst (v := 0) hx hb dX0_gain_18 (by decide) ?_
      have e9 : stX0_gain u a1 a2 = u := by unfold stX0_gain; rw [if_neg c_2, if_pos c_3]
      exact W.zret (v := 0) hx hb hr (by decide) (fun t ht hW => ⟨⟨0, (), rfl, by unfold anX0_gain; rw [if_neg c_2, if_pos c_3], by rw [ht, e9]; exact hP, va_K.moved hW.alike hK, by rw [e9]; exact hD⟩, hS.F ht⟩) hS.2.2 dX0_gain_19
    · refine lv_iload_n hx hb dX0_gain_11 rfl (lv_at hl 2 rfl) ?_
      refine lv_sipush (v := 1024) hx hb dX0_gain_12 (by decide) ?_
      refine lv_icmp_le (tgt := 20) hx hb dX0_gain_15 (by decide) (fun c_4 => ?_) (fun c_4 => ?_)
      · refine lv_aload_n hx hb dX0_gain_20 rfl (lv_at hl 0 rfl) ?_
        refine cb_get hx hb hts hin0 hown hK hP 1 (by decide) (hts (.fieldLink RX0 13 "ConferenceBridge" "gains" "[I") (by decide +kernel)) (z := .ref (ad 2)) rfl dX0_gain_21 ?_
        refine lv_iload_n hx hb dX0_gain_24 rfl (lv_at hl 1 rfl) ?_
        refine lv_iload_n hx hb dX0_gain_25 rfl (lv_at hl 2 rfl) ?_
        refine cb_iastR hx hb hK hP hD hS 2 0 (f := cbG u) rfl rfl (cb_party c_2) (ws1 := cb_w ct ad ((cb_sG u (upd (cbG u) a1.toNatClampNeg a2)))) rfl dX0_gain_26 (fun H locs hP hD hS => ?_)
        have hP : va_P (dC, dI) vwCl (cb_w ct ad ((cb_sG u (upd (cbG u) a1.toNatClampNeg a2)))) H := hP
        have hD : va_D A (cb_w ct ad ((cb_sG u (upd (cbG u) a1.toNatClampNeg a2)))) := hD
        refine lv_iconst (v := 1) hx hb dX0_gain_27 (by decide) ?_
        have e9 : stX0_gain u a1 a2 = (cb_sG u (upd (cbG u) a1.toNatClampNeg a2)) := by unfold stX0_gain; rw [if_neg c_2, if_neg c_3, if_pos c_4]
        exact W.zret (v := 1) hx hb hr (by decide) (fun t ht hW => ⟨⟨1, (), rfl, by unfold anX0_gain; rw [if_neg c_2, if_neg c_3, if_pos c_4], by rw [ht, e9]; exact hP, va_K.moved hW.alike hK, by rw [e9]; exact hD⟩, hS.F ht⟩) hS.2.2 dX0_gain_28
      · refine lv_iconst (v := 0) hx hb dX0_gain_18 (by decide) ?_
        have e9 : stX0_gain u a1 a2 = u := by unfold stX0_gain; rw [if_neg c_2, if_neg c_3, if_neg c_4]
        exact W.zret (v := 0) hx hb hr (by decide) (fun t ht hW => ⟨⟨0, (), rfl, by unfold anX0_gain; rw [if_neg c_2, if_neg c_3, if_neg c_4], by rw [ht, e9]; exact hP, va_K.moved hW.alike hK, by rw [e9]; exact hD⟩, hS.F ht⟩) hS.2.2 dX0_gain_19

def anX0_mute (u : cb_U) (a1 : Int32) (a2 : Int32) : Int32 := if (fnX0_isParty a1) = 0 then (0) else (1)
def stX0_mute (u : cb_U) (a1 : Int32) (a2 : Int32) : cb_U := if (fnX0_isParty a1) = 0 then (u) else ((cb_sS u (upd (cbS u) a1.toNatClampNeg (vp_nar .boolean a2))))
set_option maxHeartbeats 4000000 in
set_option maxRecDepth 100000 in
theorem metX0_mute (l : Launch) (dC : Nat → ClassId) (dI : Nat → Nat → Nat) (ct : Nat → ClassId) (ad : Nat → Nat) (sz : Nat) (u : cb_U) (a1 : Int32) (a2 : Int32) : Met l yX0_mute wsX0_mute ({ frames := 1, cells := 0, slots := 0, locals := 20 }) (va_Pc [.ref (ad 0), .int a1, .int a2] (fun U => U.heap.size = sz ∧ cb_B dC dI ct ad (fun _ => True) u U)) (va_Qi (fun r (_ : Unit) => r = anX0_mute u a1 a2) (fun _ => cb_B dC dI ct ad (va_A (cb_w ct ad u) sz) (stX0_mute u a1 a2)) (va_A (cb_w ct ad u) sz)) 0 0 (va_A (cb_w ct ad u) sz) := by
  refine Met.ofW (cc := cX0_mute) (maxL := 3) (ret := (some .boolean)) (by decide) rfl ?_
  intro p e s m args below meth c s₁ B hml hv
  obtain ⟨rfl, hsz, hP, hK, hD0⟩ := hv
  have hx := B.exec
  have hb := B.bytes
  have hr := B.returns
  have hts := atoms_spec (ws := wsX0_mute) B.pre
  have hown : s.vm.findClass RX0 = some m.cls := findClass_of_methodNamed B.named
  have hlocks := B.notSynchronized
  have hin0 : ∀ w ∈ u_ws RX0 TX0 9, w ∈ wsX0_mute := by decide +kernel
  subst hsz
  have hD := hD0.self (sz := s.heap.size)
  generalize hAe : va_A (cb_w ct ad u) s.heap.size = A at hD ⊢
  have hA : ∀ q : Nat, s.heap.size ≤ q → A q := fun q h => by rw [← hAe]; exact Or.inr h
  have hS : va_S A s.heap s.heap [] := va_S.rf
  have hl := lv_entry ([.ref (ad 0), .int a1, .int a2]) (n := 3) (Nat.le_of_ble_eq_true rfl)
  rw [lg_entry_eq]
  generalize (lg_sl ([.ref (ad 0), .int a1, .int a2]) ++ List.replicate (3 - (lg_sl ([.ref (ad 0), .int a1, .int a2])).length) Slot.unset).toArray = ls at hl ⊢
  have hl : lv_has ls 3 [(0, .ref (ad 0)), (1, .int (a1)), (2, .int (a2))] := hl
  refine lv_iload_n hx hb dX0_mute_0 rfl (lv_at hl 1 rfl) ?_
  refine vp_callSi (W.runS (As := [.int (a1)]) (rest := []) ⟨hx, hb, hml, hown, hts⟩ (metX0_isParty l a1) (va_cwS 1 hts gX0_mute_X0_isParty rfl rfl rfl (by decide +kernel) ⟨(Nat.le_of_ble_eq_true rfl), (Nat.le_of_ble_eq_true rfl)⟩) ⟨fun a U g mk q => q, fun U hU hW => ⟨rfl, trivial⟩⟩ rfl rfl hl.1 rfl (lv_room (Nat.le_of_ble_eq_true rfl)) dX0_mute_1 ⟨(Nat.zero_le _), (Nat.zero_le _)⟩) (fun r_1 er_1 => ?_)
  subst er_1
  refine lv_if_ne (tgt := 9) hx hb dX0_mute_4 (by decide) (fun c_2 => ?_) (fun c_2 => ?_)
  · refine lv_aload_n hx hb dX0_mute_9 rfl (lv_at hl 0 rfl) ?_
    refine cb_get hx hb hts hin0 hown hK hP 2 (by decide) (hts (.fieldLink RX0 16 "ConferenceBridge" "silenced" "[Z") (by decide +kernel)) (z := .ref (ad 3)) rfl dX0_mute_10 ?_
    refine lv_iload_n hx hb dX0_mute_13 rfl (lv_at hl 1 rfl) ?_
    refine lv_iload_n hx hb dX0_mute_14 rfl (lv_at hl 2 rfl) ?_
    refine cb_zastR hx hb hK hP hD hS 3 1 (f := cbS u) rfl rfl (cb_party c_2) (ws1 := cb_w ct ad ((cb_sS u (upd (cbS u) a1.toNatClampNeg (vp_nar .boolean a2))))) rfl dX0_mute_15 (fun H locs hP hD hS => ?_)
    have hP : va_P (dC, dI) vwCl (cb_w ct ad ((cb_sS u (upd (cbS u) a1.toNatClampNeg (vp_nar .boolean a2))))) H := hP
    have hD : va_D A (cb_w ct ad ((cb_sS u (upd (cbS u) a1.toNatClampNeg (vp_nar .boolean a2))))) := hD
    refine lv_iconst (v := 1) hx hb dX0_mute_16 (by decide) ?_
    have e9 : stX0_mute u a1 a2 = (cb_sS u (upd (cbS u) a1.toNatClampNeg (vp_nar .boolean a2))) := by unfold stX0_mute; rw [if_neg c_2]
    exact W.zret (v := 1) hx hb hr (by decide) (fun t ht hW => ⟨⟨1, (), rfl, by unfold anX0_mute; rw [if_neg c_2], by rw [ht, e9]; exact hP, va_K.moved hW.alike hK, by rw [e9]; exact hD⟩, hS.F ht⟩) hS.2.2 dX0_mute_17
  · refine lv_iconst (v := 0) hx hb dX0_mute_7 (by decide) ?_
    have e9 : stX0_mute u a1 a2 = u := by unfold stX0_mute; rw [if_pos c_2]
    exact W.zret (v := 0) hx hb hr (by decide) (fun t ht hW => ⟨⟨0, (), rfl, by unfold anX0_mute; rw [if_pos c_2], by rw [ht, e9]; exact hP, va_K.moved hW.alike hK, by rw [e9]; exact hD⟩, hS.F ht⟩) hS.2.2 dX0_mute_8

def anX0_speakers (u : cb_U) (a1 : Int32) : Int32 := if a1 < 1 then (0) else (if a1 ≤ 8 then (1) else (0))
def stX0_speakers (u : cb_U) (a1 : Int32) : cb_U := if a1 < 1 then (u) else (if a1 ≤ 8 then ((cb_sM u (a1))) else (u))
set_option maxHeartbeats 4000000 in
set_option maxRecDepth 100000 in
theorem metX0_speakers (l : Launch) (dC : Nat → ClassId) (dI : Nat → Nat → Nat) (ct : Nat → ClassId) (ad : Nat → Nat) (sz : Nat) (u : cb_U) (a1 : Int32) : Met l yX0_speakers wsX0_speakers ({ frames := 0, cells := 0, slots := 0, locals := 0 }) (va_Pc [.ref (ad 0), .int a1] (fun U => U.heap.size = sz ∧ cb_B dC dI ct ad (fun _ => True) u U)) (va_Qi (fun r (_ : Unit) => r = anX0_speakers u a1) (fun _ => cb_B dC dI ct ad (va_A (cb_w ct ad u) sz) (stX0_speakers u a1)) (va_A (cb_w ct ad u) sz)) 0 0 (va_A (cb_w ct ad u) sz) := by
  refine Met.ofW (cc := cX0_speakers) (maxL := 2) (ret := (some .boolean)) (by decide) rfl ?_
  intro p e s m args below meth c s₁ B hml hv
  obtain ⟨rfl, hsz, hP, hK, hD0⟩ := hv
  have hx := B.exec
  have hb := B.bytes
  have hr := B.returns
  have hts := atoms_spec (ws := wsX0_speakers) B.pre
  have hown : s.vm.findClass RX0 = some m.cls := findClass_of_methodNamed B.named
  have hlocks := B.notSynchronized
  have hin0 : ∀ w ∈ u_ws RX0 TX0 9, w ∈ wsX0_speakers := by decide +kernel
  subst hsz
  have hD := hD0.self (sz := s.heap.size)
  generalize hAe : va_A (cb_w ct ad u) s.heap.size = A at hD ⊢
  have hA : ∀ q : Nat, s.heap.size ≤ q → A q := fun q h => by rw [← hAe]; exact Or.inr h
  have hS : va_S A s.heap s.heap [] := va_S.rf
  have hl := lv_entry ([.ref (ad 0), .int a1]) (n := 2) (Nat.le_of_ble_eq_true rfl)
  rw [lg_entry_eq]
  generalize (lg_sl ([.ref (ad 0), .int a1]) ++ List.replicate (2 - (lg_sl ([.ref (ad 0), .int a1])).length) Slot.unset).toArray = ls at hl ⊢
  have hl : lv_has ls 2 [(0, .ref (ad 0)), (1, .int (a1))] := hl
  refine lv_iload_n hx hb dX0_speakers_0 rfl (lv_at hl 1 rfl) ?_
  refine lv_iconst (v := 1) hx hb dX0_speakers_1 (by decide) ?_
  refine lv_icmp_lt (tgt := 11) hx hb dX0_speakers_2 (by decide) (fun c_1 => ?_) (fun c_1 => ?_)
  · refine lv_iconst (v := 0) hx hb dX0_speakers_11 (by decide) ?_
    have e9 : stX0_speakers u a1 = u := by unfold stX0_speakers; rw [if_pos c_1]
    exact W.zret (v := 0) hx hb hr (by decide) (fun t ht hW => ⟨⟨0, (), rfl, by unfold anX0_speakers; rw [if_pos c_1], by rw [ht, e9]; exact hP, va_K.moved hW.alike hK, by rw [e9]; exact hD⟩, hS.F ht⟩) hS.2.2 dX0_speakers_12
  · refine lv_iload_n hx hb dX0_speakers_5 rfl (lv_at hl 1 rfl) ?_
    refine lv_bipush (v := 8) hx hb dX0_speakers_6 (by decide) ?_
    refine lv_icmp_le (tgt := 13) hx hb dX0_speakers_8 (by decide) (fun c_2 => ?_) (fun c_2 => ?_)
    · refine lv_aload_n hx hb dX0_speakers_13 rfl (lv_at hl 0 rfl) ?_
      refine lv_iload_n hx hb dX0_speakers_14 rfl (lv_at hl 1 rfl) ?_
      refine cb_putM hx hb hts hin0 hown hK hP hD hS (hts (.fieldLink RX0 28 "ConferenceBridge" "mostSpeakers" "I") (by decide +kernel)) dX0_speakers_15 (fun H locs hP hD hS => ?_)
      have hP : va_P (dC, dI) vwCl (cb_w ct ad ((cb_sM u (a1)))) H := hP
      have hD : va_D A (cb_w ct ad ((cb_sM u (a1)))) := hD
      refine lv_iconst (v := 1) hx hb dX0_speakers_18 (by decide) ?_
      have e9 : stX0_speakers u a1 = (cb_sM u (a1)) := by unfold stX0_speakers; rw [if_neg c_1, if_pos c_2]
      exact W.zret (v := 1) hx hb hr (by decide) (fun t ht hW => ⟨⟨1, (), rfl, by unfold anX0_speakers; rw [if_neg c_1, if_pos c_2], by rw [ht, e9]; exact hP, va_K.moved hW.alike hK, by rw [e9]; exact hD⟩, hS.F ht⟩) hS.2.2 dX0_speakers_19
    · refine lv_iconst (v := 0) hx hb dX0_speakers_11 (by decide) ?_
      have e9 : stX0_speakers u a1 = u := by unfold stX0_speakers; rw [if_neg c_1, if_neg c_2]
      exact W.zret (v := 0) hx hb hr (by decide) (fun t ht hW => ⟨⟨0, (), rfl, by unfold anX0_speakers; rw [if_neg c_1, if_neg c_2], by rw [ht, e9]; exact hP, va_K.moved hW.alike hK, by rw [e9]; exact hD⟩, hS.F ht⟩) hS.2.2 dX0_speakers_12

def anX0_put (u : cb_U) (a1 : Int32) (a2 : Int32) (a3 : Int32) : Int32 := if (fnX0_isParty a1) = 0 then (0) else (if (fnX0_isPlace a2) = 0 then (0) else (1))
def stX0_put (u : cb_U) (a1 : Int32) (a2 : Int32) (a3 : Int32) : cb_U := if (fnX0_isParty a1) = 0 then (u) else (if (fnX0_isPlace a2) = 0 then (u) else ((cb_sC u (va_up (cbC u) a1.toNatClampNeg (upd (cbC u a1.toNatClampNeg) a2.toNatClampNeg (a3 &&& (255 : Int32)))))))
set_option maxHeartbeats 4000000 in
set_option maxRecDepth 100000 in
theorem metX0_put (l : Launch) (dC : Nat → ClassId) (dI : Nat → Nat → Nat) (ct : Nat → ClassId) (ad : Nat → Nat) (sz : Nat) (u : cb_U) (a1 : Int32) (a2 : Int32) (a3 : Int32) : Met l yX0_put wsX0_put ({ frames := 1, cells := 0, slots := 0, locals := 20 }) (va_Pc [.ref (ad 0), .int a1, .int a2, .int a3] (fun U => U.heap.size = sz ∧ cb_B dC dI ct ad (fun _ => True) u U)) (va_Qi (fun r (_ : Unit) => r = anX0_put u a1 a2 a3) (fun _ => cb_B dC dI ct ad (va_A (cb_w ct ad u) sz) (stX0_put u a1 a2 a3)) (va_A (cb_w ct ad u) sz)) 0 0 (va_A (cb_w ct ad u) sz) := by
  refine Met.ofW (cc := cX0_put) (maxL := 4) (ret := (some .boolean)) (by decide) rfl ?_
  intro p e s m args below meth c s₁ B hml hv
  obtain ⟨rfl, hsz, hP, hK, hD0⟩ := hv
  have hx := B.exec
  have hb := B.bytes
  have hr := B.returns
  have hts := atoms_spec (ws := wsX0_put) B.pre
  have hown : s.vm.findClass RX0 = some m.cls := findClass_of_methodNamed B.named
  have hlocks := B.notSynchronized
  have hin0 : ∀ w ∈ u_ws RX0 TX0 9, w ∈ wsX0_put := by decide +kernel
  subst hsz
  have hD := hD0.self (sz := s.heap.size)
  generalize hAe : va_A (cb_w ct ad u) s.heap.size = A at hD ⊢
  have hA : ∀ q : Nat, s.heap.size ≤ q → A q := fun q h => by rw [← hAe]; exact Or.inr h
  have hS : va_S A s.heap s.heap [] := va_S.rf
  have hl := lv_entry ([.ref (ad 0), .int a1, .int a2, .int a3]) (n := 4) (Nat.le_of_ble_eq_true rfl)
  rw [lg_entry_eq]
  generalize (lg_sl ([.ref (ad 0), .int a1, .int a2, .int a3]) ++ List.replicate (4 - (lg_sl ([.ref (ad 0), .int a1, .int a2, .int a3])).length) Slot.unset).toArray = ls at hl ⊢
  have hl : lv_has ls 4 [(0, .ref (ad 0)), (1, .int (a1)), (2, .int (a2)), (3, .int (a3))] := hl
  refine lv_iload_n hx hb dX0_put_0 rfl (lv_at hl 1 rfl) ?_
  refine vp_callSi (W.runS (As := [.int (a1)]) (rest := []) ⟨hx, hb, hml, hown, hts⟩ (metX0_isParty l a1) (va_cwS 1 hts gX0_put_X0_isParty rfl rfl rfl (by decide +kernel) ⟨(Nat.le_of_ble_eq_true rfl), (Nat.le_of_ble_eq_true rfl)⟩) ⟨fun a U g mk q => q, fun U hU hW => ⟨rfl, trivial⟩⟩ rfl rfl hl.1 rfl (lv_room (Nat.le_of_ble_eq_true rfl)) dX0_put_1 ⟨(Nat.zero_le _), (Nat.zero_le _)⟩) (fun r_1 er_1 => ?_)
  subst er_1
  refine lv_if_eq (tgt := 14) hx hb dX0_put_4 (by decide) (fun c_2 => ?_) (fun c_2 => ?_)
  · refine lv_iconst (v := 0) hx hb dX0_put_14 (by decide) ?_
    have e9 : stX0_put u a1 a2 a3 = u := by unfold stX0_put; rw [if_pos c_2]
    exact W.zret (v := 0) hx hb hr (by decide) (fun t ht hW => ⟨⟨0, (), rfl, by unfold anX0_put; rw [if_pos c_2], by rw [ht, e9]; exact hP, va_K.moved hW.alike hK, by rw [e9]; exact hD⟩, hS.F ht⟩) hS.2.2 dX0_put_15
  · refine lv_iload_n hx hb dX0_put_7 rfl (lv_at hl 2 rfl) ?_
    refine vp_callSi (W.runS (As := [.int (a2)]) (rest := []) ⟨hx, hb, hml, hown, hts⟩ (metX0_isPlace l a2) (va_cwS 1 hts gX0_put_X0_isPlace rfl rfl rfl (by decide +kernel) ⟨(Nat.le_of_ble_eq_true rfl), (Nat.le_of_ble_eq_true rfl)⟩) ⟨fun a U g mk q => q, fun U hU hW => ⟨rfl, trivial⟩⟩ rfl rfl hl.1 rfl (lv_room (Nat.le_of_ble_eq_true rfl)) dX0_put_8 ⟨(Nat.zero_le _), (Nat.zero_le _)⟩) (fun r_3 er_3 => ?_)
    subst er_3
    refine lv_if_ne (tgt := 16) hx hb dX0_put_11 (by decide) (fun c_4 => ?_) (fun c_4 => ?_)
    · refine lv_aload_n hx hb dX0_put_16 rfl (lv_at hl 0 rfl) ?_
      refine cb_get hx hb hts hin0 hown hK hP 3 (by decide) (hts (.fieldLink RX0 22 "ConferenceBridge" "coming" "[[I") (by decide +kernel)) (z := .ref (ad 4)) rfl dX0_put_17 ?_
      refine lv_iload_n hx hb dX0_put_20 rfl (lv_at hl 1 rfl) ?_
      refine cb_aald hx hb hK hP 4 2 rfl rfl (cb_party c_2) (b := ad (9 + a1.toNatClampNeg)) (cb_o_at (cb_vin (cb_party c_2))) dX0_put_21 ?_
      refine lv_iload_n hx hb dX0_put_22 rfl (lv_at hl 2 rfl) ?_
      refine lv_iload_n hx hb dX0_put_23 rfl (lv_at hl 3 rfl) ?_
      refine lv_sipush (v := 255) hx hb dX0_put_24 (by decide) ?_
      refine lv_iand hx hb dX0_put_27 ?_
      refine cb_iastR hx hb hK hP hD hS (9 + a1.toNatClampNeg) 0 (f := cbC u a1.toNatClampNeg) (cb_atC ct ad u a1.toNatClampNeg (cb_vin (cb_party c_2))) rfl (cb_place c_4) (cb_putC ct ad u _ a1.toNatClampNeg (cb_vin (cb_party c_2))) dX0_put_28 (fun H locs hP hD hS => ?_)
      have hP : va_P (dC, dI) vwCl (cb_w ct ad ((cb_sC u (va_up (cbC u) a1.toNatClampNeg (upd (cbC u a1.toNatClampNeg) a2.toNatClampNeg (a3 &&& (255 : Int32))))))) H := hP
      have hD : va_D A (cb_w ct ad ((cb_sC u (va_up (cbC u) a1.toNatClampNeg (upd (cbC u a1.toNatClampNeg) a2.toNatClampNeg (a3 &&& (255 : Int32))))))) := hD
      refine lv_iconst (v := 1) hx hb dX0_put_29 (by decide) ?_
      have e9 : stX0_put u a1 a2 a3 = (cb_sC u (va_up (cbC u) a1.toNatClampNeg (upd (cbC u a1.toNatClampNeg) a2.toNatClampNeg (a3 &&& (255 : Int32))))) := by unfold stX0_put; rw [if_neg c_2, if_neg c_4]
      exact W.zret (v := 1) hx hb hr (by decide) (fun t ht hW => ⟨⟨1, (), rfl, by unfold anX0_put; rw [if_neg c_2, if_neg c_4], by rw [ht, e9]; exact hP, va_K.moved hW.alike hK, by rw [e9]; exact hD⟩, hS.F ht⟩) hS.2.2 dX0_put_30
    · refine lv_iconst (v := 0) hx hb dX0_put_14 (by decide) ?_
      have e9 : stX0_put u a1 a2 a3 = u := by unfold stX0_put; rw [if_neg c_2, if_pos c_4]
      exact W.zret (v := 0) hx hb hr (by decide) (fun t ht hW => ⟨⟨0, (), rfl, by unfold anX0_put; rw [if_neg c_2, if_pos c_4], by rw [ht, e9]; exact hP, va_K.moved hW.alike hK, by rw [e9]; exact hD⟩, hS.F ht⟩) hS.2.2 dX0_put_15

def anX0_out (u : cb_U) (a1 : Int32) (a2 : Int32) : Int32 := if (fnX0_isParty a1) = 0 then ((-1)) else (if (fnX0_isPlace a2) = 0 then ((-1)) else ((cbO u a1.toNatClampNeg a2.toNatClampNeg)))
def stX0_out (u : cb_U) (a1 : Int32) (a2 : Int32) : cb_U := if (fnX0_isParty a1) = 0 then (u) else (if (fnX0_isPlace a2) = 0 then (u) else (u))
set_option maxHeartbeats 4000000 in
set_option maxRecDepth 100000 in
theorem metX0_out (l : Launch) (dC : Nat → ClassId) (dI : Nat → Nat → Nat) (ct : Nat → ClassId) (ad : Nat → Nat) (sz : Nat) (u : cb_U) (a1 : Int32) (a2 : Int32) : Met l yX0_out wsX0_out ({ frames := 1, cells := 0, slots := 0, locals := 20 }) (va_Pc [.ref (ad 0), .int a1, .int a2] (fun U => U.heap.size = sz ∧ cb_B dC dI ct ad (fun _ => True) u U)) (va_Qi (fun r (_ : Unit) => r = anX0_out u a1 a2) (fun _ => cb_B dC dI ct ad (va_A (cb_w ct ad u) sz) (stX0_out u a1 a2)) (va_A (cb_w ct ad u) sz)) 0 0 (va_A (cb_w ct ad u) sz) := by
  refine Met.ofW (cc := cX0_out) (maxL := 3) (ret := (some .int)) (by decide) rfl ?_
  intro p e s m args below meth c s₁ B hml hv
  obtain ⟨rfl, hsz, hP, hK, hD0⟩ := hv
  have hx := B.exec
  have hb := B.bytes
  have hr := B.returns
  have hts := atoms_spec (ws := wsX0_out) B.pre
  have hown : s.vm.findClass RX0 = some m.cls := findClass_of_methodNamed B.named
  have hlocks := B.notSynchronized
  have hin0 : ∀ w ∈ u_ws RX0 TX0 9, w ∈ wsX0_out := by decide +kernel
  subst hsz
  have hD := hD0.self (sz := s.heap.size)
  generalize hAe : va_A (cb_w ct ad u) s.heap.size = A at hD ⊢
  have hA : ∀ q : Nat, s.heap.size ≤ q → A q := fun q h => by rw [← hAe]; exact Or.inr h
  have hS : va_S A s.heap s.heap [] := va_S.rf
  have hl := lv_entry ([.ref (ad 0), .int a1, .int a2]) (n := 3) (Nat.le_of_ble_eq_true rfl)
  rw [lg_entry_eq]
  generalize (lg_sl ([.ref (ad 0), .int a1, .int a2]) ++ List.replicate (3 - (lg_sl ([.ref (ad 0), .int a1, .int a2])).length) Slot.unset).toArray = ls at hl ⊢
  have hl : lv_has ls 3 [(0, .ref (ad 0)), (1, .int (a1)), (2, .int (a2))] := hl
  refine lv_iload_n hx hb dX0_out_0 rfl (lv_at hl 1 rfl) ?_
  refine vp_callSi (W.runS (As := [.int (a1)]) (rest := []) ⟨hx, hb, hml, hown, hts⟩ (metX0_isParty l a1) (va_cwS 1 hts gX0_out_X0_isParty rfl rfl rfl (by decide +kernel) ⟨(Nat.le_of_ble_eq_true rfl), (Nat.le_of_ble_eq_true rfl)⟩) ⟨fun a U g mk q => q, fun U hU hW => ⟨rfl, trivial⟩⟩ rfl rfl hl.1 rfl (lv_room (Nat.le_of_ble_eq_true rfl)) dX0_out_1 ⟨(Nat.zero_le _), (Nat.zero_le _)⟩) (fun r_1 er_1 => ?_)
  subst er_1
  refine lv_if_eq (tgt := 25) hx hb dX0_out_4 (by decide) (fun c_2 => ?_) (fun c_2 => ?_)
  · refine lv_iconst (v := (-1)) hx hb dX0_out_25 (by decide) ?_
    have e9 : stX0_out u a1 a2 = u := by unfold stX0_out; rw [if_pos c_2]
    exact W.iret (v := (-1)) hx hb hr (fun t ht hW => ⟨⟨(-1), (), rfl, by unfold anX0_out; rw [if_pos c_2], by rw [ht, e9]; exact hP, va_K.moved hW.alike hK, by rw [e9]; exact hD⟩, hS.F ht⟩) hS.2.2 dX0_out_26
  · refine lv_iload_n hx hb dX0_out_7 rfl (lv_at hl 2 rfl) ?_
    refine vp_callSi (W.runS (As := [.int (a2)]) (rest := []) ⟨hx, hb, hml, hown, hts⟩ (metX0_isPlace l a2) (va_cwS 1 hts gX0_out_X0_isPlace rfl rfl rfl (by decide +kernel) ⟨(Nat.le_of_ble_eq_true rfl), (Nat.le_of_ble_eq_true rfl)⟩) ⟨fun a U g mk q => q, fun U hU hW => ⟨rfl, trivial⟩⟩ rfl rfl hl.1 rfl (lv_room (Nat.le_of_ble_eq_true rfl)) dX0_out_8 ⟨(Nat.zero_le _), (Nat.zero_le _)⟩) (fun r_3 er_3 => ?_)
    subst er_3
    refine lv_if_eq (tgt := 25) hx hb dX0_out_11 (by decide) (fun c_4 => ?_) (fun c_4 => ?_)
    · refine lv_iconst (v := (-1)) hx hb dX0_out_25 (by decide) ?_
      have e9 : stX0_out u a1 a2 = u := by unfold stX0_out; rw [if_neg c_2, if_pos c_4]
      exact W.iret (v := (-1)) hx hb hr (fun t ht hW => ⟨⟨(-1), (), rfl, by unfold anX0_out; rw [if_neg c_2, if_pos c_4], by rw [ht, e9]; exact hP, va_K.moved hW.alike hK, by rw [e9]; exact hD⟩, hS.F ht⟩) hS.2.2 dX0_out_26
    · refine lv_aload_n hx hb dX0_out_14 rfl (lv_at hl 0 rfl) ?_
      refine cb_get hx hb hts hin0 hown hK hP 4 (by decide) (hts (.fieldLink RX0 25 "ConferenceBridge" "going" "[[I") (by decide +kernel)) (z := .ref (ad 5)) rfl dX0_out_15 ?_
      refine lv_iload_n hx hb dX0_out_18 rfl (lv_at hl 1 rfl) ?_
      refine cb_aald hx hb hK hP 5 2 rfl rfl (cb_party c_2) (b := ad (17 + a1.toNatClampNeg)) (cb_o_at (cb_vin (cb_party c_2))) dX0_out_19 ?_
      refine lv_iload_n hx hb dX0_out_20 rfl (lv_at hl 2 rfl) ?_
      refine va_iald hx hb hK hP (17 + a1.toNatClampNeg) 0 (f := cbO u a1.toNatClampNeg) (cb_atO ct ad u a1.toNatClampNeg (cb_vin (cb_party c_2))) rfl (cb_place c_4) dX0_out_21 ?_
      refine lv_goto (tgt := 26) hx hb dX0_out_22 (by decide) ?_
      have e9 : stX0_out u a1 a2 = u := by unfold stX0_out; rw [if_neg c_2, if_neg c_4]
      exact W.iret (v := (cbO u a1.toNatClampNeg a2.toNatClampNeg)) hx hb hr (fun t ht hW => ⟨⟨(cbO u a1.toNatClampNeg a2.toNatClampNeg), (), rfl, by unfold anX0_out; rw [if_neg c_2, if_neg c_4], by rw [ht, e9]; exact hP, va_K.moved hW.alike hK, by rw [e9]; exact hD⟩, hS.F ht⟩) hS.2.2 dX0_out_26

def anX1_thrown (v : md_U) : Int32 := mdT v
def stX1_thrown (v : md_U) : md_U := v
set_option maxHeartbeats 4000000 in
set_option maxRecDepth 100000 in
theorem metX1_thrown (l : Launch) (dC : Nat → ClassId) (dI : Nat → Nat → Nat) (ct : Nat → ClassId) (ad : Nat → Nat) (sz : Nat) (v : md_U) : Met l yX1_thrown wsX1_thrown ({ frames := 0, cells := 0, slots := 0, locals := 0 }) (va_Pc [.ref (ad 0)] (fun U => U.heap.size = sz ∧ md_B dC dI ct ad (fun _ => True) v U)) (va_Qi (fun r (_ : Unit) => r = anX1_thrown v ) (fun _ => md_B dC dI ct ad (va_A (md_w ct ad v) sz) (stX1_thrown v )) (va_A (md_w ct ad v) sz)) 0 0 (va_A (md_w ct ad v) sz) := by
  refine Met.ofW (cc := cX1_thrown) (maxL := 1) (ret := (some .int)) (by decide) rfl ?_
  intro p e s m args below meth c s₁ B hml hv
  obtain ⟨rfl, hsz, hP, hK, hD0⟩ := hv
  have hx := B.exec
  have hb := B.bytes
  have hr := B.returns
  have hts := atoms_spec (ws := wsX1_thrown) B.pre
  have hown : s.vm.findClass RX1 = some m.cls := findClass_of_methodNamed B.named
  have hlocks := B.notSynchronized
  have hin0 : ∀ w ∈ u_ws RX1 TX1 9, w ∈ wsX1_thrown := by decide +kernel
  subst hsz
  have hD := hD0.self (sz := s.heap.size)
  generalize hAe : va_A (md_w ct ad v) s.heap.size = A at hD ⊢
  have hA : ∀ q : Nat, s.heap.size ≤ q → A q := fun q h => by rw [← hAe]; exact Or.inr h
  have hS : va_S A s.heap s.heap [] := va_S.rf
  have hl := lv_entry ([.ref (ad 0)]) (n := 1) (Nat.le_of_ble_eq_true rfl)
  rw [lg_entry_eq]
  generalize (lg_sl ([.ref (ad 0)]) ++ List.replicate (1 - (lg_sl ([.ref (ad 0)])).length) Slot.unset).toArray = ls at hl ⊢
  have hl : lv_has ls 1 [(0, .ref (ad 0))] := hl
  refine lv_aload_n hx hb dX1_thrown_0 rfl (lv_at hl 0 rfl) ?_
  refine md_get hx hb hts hin0 hown hK hP 0 (by decide) (hts (.fieldLink RX1 7 "ConferenceBridgeModel" "thrownCode" "I") (by decide +kernel)) (z := .int (mdT v)) rfl dX1_thrown_1 ?_
  have e9 : stX1_thrown v  = v := rfl
  exact W.iret (v := mdT v) hx hb hr (fun t ht hW => ⟨⟨mdT v, (), rfl, rfl, by rw [ht, e9]; exact hP, va_K.moved hW.alike hK, by rw [e9]; exact hD⟩, hS.F ht⟩) hS.2.2 dX1_thrown_4

def anX1_law (v : md_U) (a1 : Int32) (a2 : Int32) : Int32 := if (fnX1_not a1 (8 : Int32)) = 0 then (if (fnX1_not a2 (2 : Int32)) = 0 then (1) else (0)) else (0)
def stX1_law (v : md_U) (a1 : Int32) (a2 : Int32) : md_U := if (fnX1_not a1 (8 : Int32)) = 0 then (if (fnX1_not a2 (2 : Int32)) = 0 then ((md_sL (md_sT v (0)) (upd (mdL v) a1.toNatClampNeg a2))) else ((md_sT v (0)))) else ((md_sT v (0)))
set_option maxHeartbeats 4000000 in
set_option maxRecDepth 100000 in
theorem metX1_law (l : Launch) (dC : Nat → ClassId) (dI : Nat → Nat → Nat) (ct : Nat → ClassId) (ad : Nat → Nat) (sz : Nat) (v : md_U) (a1 : Int32) (a2 : Int32) : Met l yX1_law wsX1_law ({ frames := 1, cells := 0, slots := 0, locals := 21 }) (va_Pc [.ref (ad 0), .int a1, .int a2] (fun U => U.heap.size = sz ∧ md_B dC dI ct ad (fun _ => True) v U)) (va_Qi (fun r (_ : Unit) => r = anX1_law v a1 a2) (fun _ => md_B dC dI ct ad (va_A (md_w ct ad v) sz) (stX1_law v a1 a2)) (va_A (md_w ct ad v) sz)) 0 0 (va_A (md_w ct ad v) sz) := by
  refine Met.ofW (cc := cX1_law) (maxL := 3) (ret := (some .boolean)) (by decide) rfl ?_
  intro p e s m args below meth c s₁ B hml hv
  obtain ⟨rfl, hsz, hP, hK, hD0⟩ := hv
  have hx := B.exec
  have hb := B.bytes
  have hr := B.returns
  have hts := atoms_spec (ws := wsX1_law) B.pre
  have hown : s.vm.findClass RX1 = some m.cls := findClass_of_methodNamed B.named
  have hlocks := B.notSynchronized
  have hin0 : ∀ w ∈ u_ws RX1 TX1 9, w ∈ wsX1_law := by decide +kernel
  subst hsz
  have hD := hD0.self (sz := s.heap.size)
  generalize hAe : va_A (md_w ct ad v) s.heap.size = A at hD ⊢
  have hA : ∀ q : Nat, s.heap.size ≤ q → A q := fun q h => by rw [← hAe]; exact Or.inr h
  have hS : va_S A s.heap s.heap [] := va_S.rf
  have hl := lv_entry ([.ref (ad 0), .int a1, .int a2]) (n := 3) (Nat.le_of_ble_eq_true rfl)
  rw [lg_entry_eq]
  generalize (lg_sl ([.ref (ad 0), .int a1, .int a2]) ++ List.replicate (3 - (lg_sl ([.ref (ad 0), .int a1, .int a2])).length) Slot.unset).toArray = ls at hl ⊢
  have hl : lv_has ls 3 [(0, .ref (ad 0)), (1, .int (a1)), (2, .int (a2))] := hl
  refine lv_aload_n hx hb dX1_law_0 rfl (lv_at hl 0 rfl) ?_
  refine lv_iconst (v := 0) hx hb dX1_law_1 (by decide) ?_
  refine md_putT hx hb hts hin0 hown hK hP hD hS (hts (.fieldLink RX1 7 "ConferenceBridgeModel" "thrownCode" "I") (by decide +kernel)) dX1_law_2 (fun H locs hP hD hS => ?_)
  have hP : va_P (dC, dI) vwCl (md_w ct ad ((md_sT v (0)))) H := hP
  have hD : va_D A (md_w ct ad ((md_sT v (0)))) := hD
  refine lv_iload_n hx hb dX1_law_5 rfl (lv_at hl 1 rfl) ?_
  refine lv_bipush (v := 8) hx hb dX1_law_6 (by decide) ?_
  refine vp_callSi (W.runS (As := [.int (a1), .int (8)]) (rest := []) ⟨hx, hb, hml, hown, hts⟩ (metX1_not l a1 (8 : Int32)) (va_cwS 2 hts gX1_law_X1_not rfl rfl rfl (by decide +kernel) ⟨(Nat.le_of_ble_eq_true rfl), (Nat.le_of_ble_eq_true rfl)⟩) ⟨fun a U g mk q => q, fun U hU hW => ⟨rfl, trivial⟩⟩ rfl rfl hl.1 rfl (lv_room (Nat.le_of_ble_eq_true rfl)) dX1_law_8 ⟨(Nat.zero_le _), (Nat.zero_le _)⟩) (fun r_1 er_1 => ?_)
  subst er_1
  refine lv_if_ne (tgt := 22) hx hb dX1_law_11 (by decide) (fun c_2 => ?_) (fun c_2 => ?_)
  · refine lv_iconst (v := 0) hx hb dX1_law_22 (by decide) ?_
    have e9 : stX1_law v a1 a2 = (md_sT v (0)) := by unfold stX1_law; rw [if_neg c_2]
    exact W.zret (v := 0) hx hb hr (by decide) (fun t ht hW => ⟨⟨0, (), rfl, by unfold anX1_law; rw [if_neg c_2], by rw [ht, e9]; exact hP, va_K.moved hW.alike hK, by rw [e9]; exact hD⟩, hS.F ht⟩) hS.2.2 dX1_law_23
  · refine lv_iload_n hx hb dX1_law_14 rfl (lv_at hl 2 rfl) ?_
    refine lv_iconst (v := 2) hx hb dX1_law_15 (by decide) ?_
    refine vp_callSi (W.runS (As := [.int (a2), .int (2)]) (rest := []) ⟨hx, hb, hml, hown, hts⟩ (metX1_not l a2 (2 : Int32)) (va_cwS 2 hts gX1_law_X1_not rfl rfl rfl (by decide +kernel) ⟨(Nat.le_of_ble_eq_true rfl), (Nat.le_of_ble_eq_true rfl)⟩) ⟨fun a U g mk q => q, fun U hU hW => ⟨rfl, trivial⟩⟩ rfl rfl hl.1 rfl (lv_room (Nat.le_of_ble_eq_true rfl)) dX1_law_16 ⟨(Nat.zero_le _), (Nat.zero_le _)⟩) (fun r_3 er_3 => ?_)
    subst er_3
    refine lv_if_eq (tgt := 24) hx hb dX1_law_19 (by decide) (fun c_4 => ?_) (fun c_4 => ?_)
    · refine lv_aload_n hx hb dX1_law_24 rfl (lv_at hl 0 rfl) ?_
      refine md_get hx hb hts hin0 hown hK hP 1 (by decide) (hts (.fieldLink RX1 13 "ConferenceBridgeModel" "law" "[I") (by decide +kernel)) (z := .ref (ad 1)) rfl dX1_law_25 ?_
      refine lv_iload_n hx hb dX1_law_28 rfl (lv_at hl 1 rfl) ?_
      refine lv_iload_n hx hb dX1_law_29 rfl (lv_at hl 2 rfl) ?_
      refine cb_iastR hx hb hK hP hD hS 1 0 (f := mdL v) rfl rfl (md_not c_2 (by decide)) (ws1 := md_w ct ad ((md_sL (md_sT v (0)) (upd (mdL v) a1.toNatClampNeg a2)))) rfl dX1_law_30 (fun H locs hP hD hS => ?_)
      have hP : va_P (dC, dI) vwCl (md_w ct ad ((md_sL (md_sT v (0)) (upd (mdL v) a1.toNatClampNeg a2)))) H := hP
      have hD : va_D A (md_w ct ad ((md_sL (md_sT v (0)) (upd (mdL v) a1.toNatClampNeg a2)))) := hD
      refine lv_iconst (v := 1) hx hb dX1_law_31 (by decide) ?_
      have e9 : stX1_law v a1 a2 = (md_sL (md_sT v (0)) (upd (mdL v) a1.toNatClampNeg a2)) := by unfold stX1_law; rw [if_pos c_2, if_pos c_4]
      exact W.zret (v := 1) hx hb hr (by decide) (fun t ht hW => ⟨⟨1, (), rfl, by unfold anX1_law; rw [if_pos c_2, if_pos c_4], by rw [ht, e9]; exact hP, va_K.moved hW.alike hK, by rw [e9]; exact hD⟩, hS.F ht⟩) hS.2.2 dX1_law_32
    · refine lv_iconst (v := 0) hx hb dX1_law_22 (by decide) ?_
      have e9 : stX1_law v a1 a2 = (md_sT v (0)) := by unfold stX1_law; rw [if_pos c_2, if_neg c_4]
      exact W.zret (v := 0) hx hb hr (by decide) (fun t ht hW => ⟨⟨0, (), rfl, by unfold anX1_law; rw [if_pos c_2, if_neg c_4], by rw [ht, e9]; exact hP, va_K.moved hW.alike hK, by rw [e9]; exact hD⟩, hS.F ht⟩) hS.2.2 dX1_law_23

def anX1_gain (v : md_U) (a1 : Int32) (a2 : Int32) : Int32 := if (fnX1_not a1 (8 : Int32)) = 0 then (if (fnX1_not a2 (1025 : Int32)) = 0 then (1) else (0)) else (0)
def stX1_gain (v : md_U) (a1 : Int32) (a2 : Int32) : md_U := if (fnX1_not a1 (8 : Int32)) = 0 then (if (fnX1_not a2 (1025 : Int32)) = 0 then ((md_sG (md_sT v (0)) (upd (mdG v) a1.toNatClampNeg a2))) else ((md_sT v (0)))) else ((md_sT v (0)))
set_option maxHeartbeats 4000000 in
set_option maxRecDepth 100000 in
theorem metX1_gain (l : Launch) (dC : Nat → ClassId) (dI : Nat → Nat → Nat) (ct : Nat → ClassId) (ad : Nat → Nat) (sz : Nat) (v : md_U) (a1 : Int32) (a2 : Int32) : Met l yX1_gain wsX1_gain ({ frames := 1, cells := 0, slots := 0, locals := 21 }) (va_Pc [.ref (ad 0), .int a1, .int a2] (fun U => U.heap.size = sz ∧ md_B dC dI ct ad (fun _ => True) v U)) (va_Qi (fun r (_ : Unit) => r = anX1_gain v a1 a2) (fun _ => md_B dC dI ct ad (va_A (md_w ct ad v) sz) (stX1_gain v a1 a2)) (va_A (md_w ct ad v) sz)) 0 0 (va_A (md_w ct ad v) sz) := by
  refine Met.ofW (cc := cX1_gain) (maxL := 3) (ret := (some .boolean)) (by decide) rfl ?_
  intro p e s m args below meth c s₁ B hml hv
  obtain ⟨rfl, hsz, hP, hK, hD0⟩ := hv
  have hx := B.exec
  have hb := B.bytes
  have hr := B.returns
  have hts := atoms_spec (ws := wsX1_gain) B.pre
  have hown : s.vm.findClass RX1 = some m.cls := findClass_of_methodNamed B.named
  have hlocks := B.notSynchronized
  have hin0 : ∀ w ∈ u_ws RX1 TX1 9, w ∈ wsX1_gain := by decide +kernel
  subst hsz
  have hD := hD0.self (sz := s.heap.size)
  generalize hAe : va_A (md_w ct ad v) s.heap.size = A at hD ⊢
  have hA : ∀ q : Nat, s.heap.size ≤ q → A q := fun q h => by rw [← hAe]; exact Or.inr h
  have hS : va_S A s.heap s.heap [] := va_S.rf
  have hl := lv_entry ([.ref (ad 0), .int a1, .int a2]) (n := 3) (Nat.le_of_ble_eq_true rfl)
  rw [lg_entry_eq]
  generalize (lg_sl ([.ref (ad 0), .int a1, .int a2]) ++ List.replicate (3 - (lg_sl ([.ref (ad 0), .int a1, .int a2])).length) Slot.unset).toArray = ls at hl ⊢
  have hl : lv_has ls 3 [(0, .ref (ad 0)), (1, .int (a1)), (2, .int (a2))] := hl
  refine lv_aload_n hx hb dX1_gain_0 rfl (lv_at hl 0 rfl) ?_
  refine lv_iconst (v := 0) hx hb dX1_gain_1 (by decide) ?_
  refine md_putT hx hb hts hin0 hown hK hP hD hS (hts (.fieldLink RX1 7 "ConferenceBridgeModel" "thrownCode" "I") (by decide +kernel)) dX1_gain_2 (fun H locs hP hD hS => ?_)
  have hP : va_P (dC, dI) vwCl (md_w ct ad ((md_sT v (0)))) H := hP
  have hD : va_D A (md_w ct ad ((md_sT v (0)))) := hD
  refine lv_iload_n hx hb dX1_gain_5 rfl (lv_at hl 1 rfl) ?_
  refine lv_bipush (v := 8) hx hb dX1_gain_6 (by decide) ?_
  refine vp_callSi (W.runS (As := [.int (a1), .int (8)]) (rest := []) ⟨hx, hb, hml, hown, hts⟩ (metX1_not l a1 (8 : Int32)) (va_cwS 2 hts gX1_gain_X1_not rfl rfl rfl (by decide +kernel) ⟨(Nat.le_of_ble_eq_true rfl), (Nat.le_of_ble_eq_true rfl)⟩) ⟨fun a U g mk q => q, fun U hU hW => ⟨rfl, trivial⟩⟩ rfl rfl hl.1 rfl (lv_room (Nat.le_of_ble_eq_true rfl)) dX1_gain_8 ⟨(Nat.zero_le _), (Nat.zero_le _)⟩) (fun r_1 er_1 => ?_)
  subst er_1
  refine lv_if_ne (tgt := 24) hx hb dX1_gain_11 (by decide) (fun c_2 => ?_) (fun c_2 => ?_)
  · refine lv_iconst (v := 0) hx hb dX1_gain_24 (by decide) ?_
    have e9 : stX1_gain v a1 a2 = (md_sT v (0)) := by unfold stX1_gain; rw [if_neg c_2]
    exact W.zret (v := 0) hx hb hr (by decide) (fun t ht hW => ⟨⟨0, (), rfl, by unfold anX1_gain; rw [if_neg c_2], by rw [ht, e9]; exact hP, va_K.moved hW.alike hK, by rw [e9]; exact hD⟩, hS.F ht⟩) hS.2.2 dX1_gain_25
  · refine lv_iload_n hx hb dX1_gain_14 rfl (lv_at hl 2 rfl) ?_
    refine lv_sipush (v := 1025) hx hb dX1_gain_15 (by decide) ?_
    refine vp_callSi (W.runS (As := [.int (a2), .int (1025)]) (rest := []) ⟨hx, hb, hml, hown, hts⟩ (metX1_not l a2 (1025 : Int32)) (va_cwS 2 hts gX1_gain_X1_not rfl rfl rfl (by decide +kernel) ⟨(Nat.le_of_ble_eq_true rfl), (Nat.le_of_ble_eq_true rfl)⟩) ⟨fun a U g mk q => q, fun U hU hW => ⟨rfl, trivial⟩⟩ rfl rfl hl.1 rfl (lv_room (Nat.le_of_ble_eq_true rfl)) dX1_gain_18 ⟨(Nat.zero_le _), (Nat.zero_le _)⟩) (fun r_3 er_3 => ?_)
    subst er_3
    refine lv_if_eq (tgt := 26) hx hb dX1_gain_21 (by decide) (fun c_4 => ?_) (fun c_4 => ?_)
    · refine lv_aload_n hx hb dX1_gain_26 rfl (lv_at hl 0 rfl) ?_
      refine md_get hx hb hts hin0 hown hK hP 2 (by decide) (hts (.fieldLink RX1 17 "ConferenceBridgeModel" "gain" "[I") (by decide +kernel)) (z := .ref (ad 2)) rfl dX1_gain_27 ?_
      refine lv_iload_n hx hb dX1_gain_30 rfl (lv_at hl 1 rfl) ?_
      refine lv_iload_n hx hb dX1_gain_31 rfl (lv_at hl 2 rfl) ?_
      refine cb_iastR hx hb hK hP hD hS 2 0 (f := mdG v) rfl rfl (md_not c_2 (by decide)) (ws1 := md_w ct ad ((md_sG (md_sT v (0)) (upd (mdG v) a1.toNatClampNeg a2)))) rfl dX1_gain_32 (fun H locs hP hD hS => ?_)
      have hP : va_P (dC, dI) vwCl (md_w ct ad ((md_sG (md_sT v (0)) (upd (mdG v) a1.toNatClampNeg a2)))) H := hP
      have hD : va_D A (md_w ct ad ((md_sG (md_sT v (0)) (upd (mdG v) a1.toNatClampNeg a2)))) := hD
      refine lv_iconst (v := 1) hx hb dX1_gain_33 (by decide) ?_
      have e9 : stX1_gain v a1 a2 = (md_sG (md_sT v (0)) (upd (mdG v) a1.toNatClampNeg a2)) := by unfold stX1_gain; rw [if_pos c_2, if_pos c_4]
      exact W.zret (v := 1) hx hb hr (by decide) (fun t ht hW => ⟨⟨1, (), rfl, by unfold anX1_gain; rw [if_pos c_2, if_pos c_4], by rw [ht, e9]; exact hP, va_K.moved hW.alike hK, by rw [e9]; exact hD⟩, hS.F ht⟩) hS.2.2 dX1_gain_34
    · refine lv_iconst (v := 0) hx hb dX1_gain_24 (by decide) ?_
      have e9 : stX1_gain v a1 a2 = (md_sT v (0)) := by unfold stX1_gain; rw [if_pos c_2, if_neg c_4]
      exact W.zret (v := 0) hx hb hr (by decide) (fun t ht hW => ⟨⟨0, (), rfl, by unfold anX1_gain; rw [if_pos c_2, if_neg c_4], by rw [ht, e9]; exact hP, va_K.moved hW.alike hK, by rw [e9]; exact hD⟩, hS.F ht⟩) hS.2.2 dX1_gain_25

def anX1_mute (v : md_U) (a1 : Int32) (a2 : Int32) : Int32 := if (fnX1_not a1 (8 : Int32)) = 0 then (1) else (0)
def stX1_mute (v : md_U) (a1 : Int32) (a2 : Int32) : md_U := if (fnX1_not a1 (8 : Int32)) = 0 then ((md_sS (md_sT v (0)) (upd (mdS v) a1.toNatClampNeg (vp_nar .boolean a2)))) else ((md_sT v (0)))
set_option maxHeartbeats 4000000 in
set_option maxRecDepth 100000 in
theorem metX1_mute (l : Launch) (dC : Nat → ClassId) (dI : Nat → Nat → Nat) (ct : Nat → ClassId) (ad : Nat → Nat) (sz : Nat) (v : md_U) (a1 : Int32) (a2 : Int32) : Met l yX1_mute wsX1_mute ({ frames := 1, cells := 0, slots := 0, locals := 21 }) (va_Pc [.ref (ad 0), .int a1, .int a2] (fun U => U.heap.size = sz ∧ md_B dC dI ct ad (fun _ => True) v U)) (va_Qi (fun r (_ : Unit) => r = anX1_mute v a1 a2) (fun _ => md_B dC dI ct ad (va_A (md_w ct ad v) sz) (stX1_mute v a1 a2)) (va_A (md_w ct ad v) sz)) 0 0 (va_A (md_w ct ad v) sz) := by
  refine Met.ofW (cc := cX1_mute) (maxL := 3) (ret := (some .boolean)) (by decide) rfl ?_
  intro p e s m args below meth c s₁ B hml hv
  obtain ⟨rfl, hsz, hP, hK, hD0⟩ := hv
  have hx := B.exec
  have hb := B.bytes
  have hr := B.returns
  have hts := atoms_spec (ws := wsX1_mute) B.pre
  have hown : s.vm.findClass RX1 = some m.cls := findClass_of_methodNamed B.named
  have hlocks := B.notSynchronized
  have hin0 : ∀ w ∈ u_ws RX1 TX1 9, w ∈ wsX1_mute := by decide +kernel
  subst hsz
  have hD := hD0.self (sz := s.heap.size)
  generalize hAe : va_A (md_w ct ad v) s.heap.size = A at hD ⊢
  have hA : ∀ q : Nat, s.heap.size ≤ q → A q := fun q h => by rw [← hAe]; exact Or.inr h
  have hS : va_S A s.heap s.heap [] := va_S.rf
  have hl := lv_entry ([.ref (ad 0), .int a1, .int a2]) (n := 3) (Nat.le_of_ble_eq_true rfl)
  rw [lg_entry_eq]
  generalize (lg_sl ([.ref (ad 0), .int a1, .int a2]) ++ List.replicate (3 - (lg_sl ([.ref (ad 0), .int a1, .int a2])).length) Slot.unset).toArray = ls at hl ⊢
  have hl : lv_has ls 3 [(0, .ref (ad 0)), (1, .int (a1)), (2, .int (a2))] := hl
  refine lv_aload_n hx hb dX1_mute_0 rfl (lv_at hl 0 rfl) ?_
  refine lv_iconst (v := 0) hx hb dX1_mute_1 (by decide) ?_
  refine md_putT hx hb hts hin0 hown hK hP hD hS (hts (.fieldLink RX1 7 "ConferenceBridgeModel" "thrownCode" "I") (by decide +kernel)) dX1_mute_2 (fun H locs hP hD hS => ?_)
  have hP : va_P (dC, dI) vwCl (md_w ct ad ((md_sT v (0)))) H := hP
  have hD : va_D A (md_w ct ad ((md_sT v (0)))) := hD
  refine lv_iload_n hx hb dX1_mute_5 rfl (lv_at hl 1 rfl) ?_
  refine lv_bipush (v := 8) hx hb dX1_mute_6 (by decide) ?_
  refine vp_callSi (W.runS (As := [.int (a1), .int (8)]) (rest := []) ⟨hx, hb, hml, hown, hts⟩ (metX1_not l a1 (8 : Int32)) (va_cwS 2 hts gX1_mute_X1_not rfl rfl rfl (by decide +kernel) ⟨(Nat.le_of_ble_eq_true rfl), (Nat.le_of_ble_eq_true rfl)⟩) ⟨fun a U g mk q => q, fun U hU hW => ⟨rfl, trivial⟩⟩ rfl rfl hl.1 rfl (lv_room (Nat.le_of_ble_eq_true rfl)) dX1_mute_8 ⟨(Nat.zero_le _), (Nat.zero_le _)⟩) (fun r_1 er_1 => ?_)
  subst er_1
  refine lv_if_eq (tgt := 16) hx hb dX1_mute_11 (by decide) (fun c_2 => ?_) (fun c_2 => ?_)
  · refine lv_aload_n hx hb dX1_mute_16 rfl (lv_at hl 0 rfl) ?_
    refine md_get hx hb hts hin0 hown hK hP 3 (by decide) (hts (.fieldLink RX1 20 "ConferenceBridgeModel" "muted" "[Z") (by decide +kernel)) (z := .ref (ad 3)) rfl dX1_mute_17 ?_
    refine lv_iload_n hx hb dX1_mute_20 rfl (lv_at hl 1 rfl) ?_
    refine lv_iload_n hx hb dX1_mute_21 rfl (lv_at hl 2 rfl) ?_
    refine cb_zastR hx hb hK hP hD hS 3 1 (f := mdS v) rfl rfl (md_not c_2 (by decide)) (ws1 := md_w ct ad ((md_sS (md_sT v (0)) (upd (mdS v) a1.toNatClampNeg (vp_nar .boolean a2))))) rfl dX1_mute_22 (fun H locs hP hD hS => ?_)
    have hP : va_P (dC, dI) vwCl (md_w ct ad ((md_sS (md_sT v (0)) (upd (mdS v) a1.toNatClampNeg (vp_nar .boolean a2))))) H := hP
    have hD : va_D A (md_w ct ad ((md_sS (md_sT v (0)) (upd (mdS v) a1.toNatClampNeg (vp_nar .boolean a2))))) := hD
    refine lv_iconst (v := 1) hx hb dX1_mute_23 (by decide) ?_
    have e9 : stX1_mute v a1 a2 = (md_sS (md_sT v (0)) (upd (mdS v) a1.toNatClampNeg (vp_nar .boolean a2))) := by unfold stX1_mute; rw [if_pos c_2]
    exact W.zret (v := 1) hx hb hr (by decide) (fun t ht hW => ⟨⟨1, (), rfl, by unfold anX1_mute; rw [if_pos c_2], by rw [ht, e9]; exact hP, va_K.moved hW.alike hK, by rw [e9]; exact hD⟩, hS.F ht⟩) hS.2.2 dX1_mute_24
  · refine lv_iconst (v := 0) hx hb dX1_mute_14 (by decide) ?_
    have e9 : stX1_mute v a1 a2 = (md_sT v (0)) := by unfold stX1_mute; rw [if_neg c_2]
    exact W.zret (v := 0) hx hb hr (by decide) (fun t ht hW => ⟨⟨0, (), rfl, by unfold anX1_mute; rw [if_neg c_2], by rw [ht, e9]; exact hP, va_K.moved hW.alike hK, by rw [e9]; exact hD⟩, hS.F ht⟩) hS.2.2 dX1_mute_15

def anX1_speakers (v : md_U) (a1 : Int32) : Int32 := if a1 < 1 then (0) else (if a1 ≤ 8 then (1) else (0))
def stX1_speakers (v : md_U) (a1 : Int32) : md_U := if a1 < 1 then ((md_sT v (0))) else (if a1 ≤ 8 then ((md_sM (md_sT v (0)) (a1))) else ((md_sT v (0))))
set_option maxHeartbeats 4000000 in
set_option maxRecDepth 100000 in
theorem metX1_speakers (l : Launch) (dC : Nat → ClassId) (dI : Nat → Nat → Nat) (ct : Nat → ClassId) (ad : Nat → Nat) (sz : Nat) (v : md_U) (a1 : Int32) : Met l yX1_speakers wsX1_speakers ({ frames := 0, cells := 0, slots := 0, locals := 0 }) (va_Pc [.ref (ad 0), .int a1] (fun U => U.heap.size = sz ∧ md_B dC dI ct ad (fun _ => True) v U)) (va_Qi (fun r (_ : Unit) => r = anX1_speakers v a1) (fun _ => md_B dC dI ct ad (va_A (md_w ct ad v) sz) (stX1_speakers v a1)) (va_A (md_w ct ad v) sz)) 0 0 (va_A (md_w ct ad v) sz) := by
  refine Met.ofW (cc := cX1_speakers) (maxL := 2) (ret := (some .boolean)) (by decide) rfl ?_
  intro p e s m args below meth c s₁ B hml hv
  obtain ⟨rfl, hsz, hP, hK, hD0⟩ := hv
  have hx := B.exec
  have hb := B.bytes
  have hr := B.returns
  have hts := atoms_spec (ws := wsX1_speakers) B.pre
  have hown : s.vm.findClass RX1 = some m.cls := findClass_of_methodNamed B.named
  have hlocks := B.notSynchronized
  have hin0 : ∀ w ∈ u_ws RX1 TX1 9, w ∈ wsX1_speakers := by decide +kernel
  subst hsz
  have hD := hD0.self (sz := s.heap.size)
  generalize hAe : va_A (md_w ct ad v) s.heap.size = A at hD ⊢
  have hA : ∀ q : Nat, s.heap.size ≤ q → A q := fun q h => by rw [← hAe]; exact Or.inr h
  have hS : va_S A s.heap s.heap [] := va_S.rf
  have hl := lv_entry ([.ref (ad 0), .int a1]) (n := 2) (Nat.le_of_ble_eq_true rfl)
  rw [lg_entry_eq]
  generalize (lg_sl ([.ref (ad 0), .int a1]) ++ List.replicate (2 - (lg_sl ([.ref (ad 0), .int a1])).length) Slot.unset).toArray = ls at hl ⊢
  have hl : lv_has ls 2 [(0, .ref (ad 0)), (1, .int (a1))] := hl
  refine lv_aload_n hx hb dX1_speakers_0 rfl (lv_at hl 0 rfl) ?_
  refine lv_iconst (v := 0) hx hb dX1_speakers_1 (by decide) ?_
  refine md_putT hx hb hts hin0 hown hK hP hD hS (hts (.fieldLink RX1 7 "ConferenceBridgeModel" "thrownCode" "I") (by decide +kernel)) dX1_speakers_2 (fun H locs hP hD hS => ?_)
  have hP : va_P (dC, dI) vwCl (md_w ct ad ((md_sT v (0)))) H := hP
  have hD : va_D A (md_w ct ad ((md_sT v (0)))) := hD
  refine lv_iload_n hx hb dX1_speakers_5 rfl (lv_at hl 1 rfl) ?_
  refine lv_iconst (v := 1) hx hb dX1_speakers_6 (by decide) ?_
  refine lv_icmp_lt (tgt := 16) hx hb dX1_speakers_7 (by decide) (fun c_1 => ?_) (fun c_1 => ?_)
  · refine lv_iconst (v := 0) hx hb dX1_speakers_16 (by decide) ?_
    have e9 : stX1_speakers v a1 = (md_sT v (0)) := by unfold stX1_speakers; rw [if_pos c_1]
    exact W.zret (v := 0) hx hb hr (by decide) (fun t ht hW => ⟨⟨0, (), rfl, by unfold anX1_speakers; rw [if_pos c_1], by rw [ht, e9]; exact hP, va_K.moved hW.alike hK, by rw [e9]; exact hD⟩, hS.F ht⟩) hS.2.2 dX1_speakers_17
  · refine lv_iload_n hx hb dX1_speakers_10 rfl (lv_at hl 1 rfl) ?_
    refine lv_bipush (v := 8) hx hb dX1_speakers_11 (by decide) ?_
    refine lv_icmp_le (tgt := 18) hx hb dX1_speakers_13 (by decide) (fun c_2 => ?_) (fun c_2 => ?_)
    · refine lv_aload_n hx hb dX1_speakers_18 rfl (lv_at hl 0 rfl) ?_
      refine lv_iload_n hx hb dX1_speakers_19 rfl (lv_at hl 1 rfl) ?_
      refine md_putM hx hb hts hin0 hown hK hP hD hS (hts (.fieldLink RX1 37 "ConferenceBridgeModel" "most" "I") (by decide +kernel)) dX1_speakers_20 (fun H locs hP hD hS => ?_)
      have hP : va_P (dC, dI) vwCl (md_w ct ad ((md_sM (md_sT v (0)) (a1)))) H := hP
      have hD : va_D A (md_w ct ad ((md_sM (md_sT v (0)) (a1)))) := hD
      refine lv_iconst (v := 1) hx hb dX1_speakers_23 (by decide) ?_
      have e9 : stX1_speakers v a1 = (md_sM (md_sT v (0)) (a1)) := by unfold stX1_speakers; rw [if_neg c_1, if_pos c_2]
      exact W.zret (v := 1) hx hb hr (by decide) (fun t ht hW => ⟨⟨1, (), rfl, by unfold anX1_speakers; rw [if_neg c_1, if_pos c_2], by rw [ht, e9]; exact hP, va_K.moved hW.alike hK, by rw [e9]; exact hD⟩, hS.F ht⟩) hS.2.2 dX1_speakers_24
    · refine lv_iconst (v := 0) hx hb dX1_speakers_16 (by decide) ?_
      have e9 : stX1_speakers v a1 = (md_sT v (0)) := by unfold stX1_speakers; rw [if_neg c_1, if_neg c_2]
      exact W.zret (v := 0) hx hb hr (by decide) (fun t ht hW => ⟨⟨0, (), rfl, by unfold anX1_speakers; rw [if_neg c_1, if_neg c_2], by rw [ht, e9]; exact hP, va_K.moved hW.alike hK, by rw [e9]; exact hD⟩, hS.F ht⟩) hS.2.2 dX1_speakers_17

def anX1_out (v : md_U) (a1 : Int32) (a2 : Int32) : Int32 := if (fnX1_not a1 (8 : Int32)) = 0 then (if (fnX1_not a2 (8 : Int32)) = 0 then ((mdO v ((((8 : Int32) * a1) + a2)).toNatClampNeg)) else ((-1))) else ((-1))
def stX1_out (v : md_U) (a1 : Int32) (a2 : Int32) : md_U := if (fnX1_not a1 (8 : Int32)) = 0 then (if (fnX1_not a2 (8 : Int32)) = 0 then ((md_sT v (0))) else ((md_sT v (0)))) else ((md_sT v (0)))
set_option maxHeartbeats 4000000 in
set_option maxRecDepth 100000 in
theorem metX1_out (l : Launch) (dC : Nat → ClassId) (dI : Nat → Nat → Nat) (ct : Nat → ClassId) (ad : Nat → Nat) (sz : Nat) (v : md_U) (a1 : Int32) (a2 : Int32) : Met l yX1_out wsX1_out ({ frames := 1, cells := 0, slots := 0, locals := 21 }) (va_Pc [.ref (ad 0), .int a1, .int a2] (fun U => U.heap.size = sz ∧ md_B dC dI ct ad (fun _ => True) v U)) (va_Qi (fun r (_ : Unit) => r = anX1_out v a1 a2) (fun _ => md_B dC dI ct ad (va_A (md_w ct ad v) sz) (stX1_out v a1 a2)) (va_A (md_w ct ad v) sz)) 0 0 (va_A (md_w ct ad v) sz) := by
  refine Met.ofW (cc := cX1_out) (maxL := 3) (ret := (some .int)) (by decide) rfl ?_
  intro p e s m args below meth c s₁ B hml hv
  obtain ⟨rfl, hsz, hP, hK, hD0⟩ := hv
  have hx := B.exec
  have hb := B.bytes
  have hr := B.returns
  have hts := atoms_spec (ws := wsX1_out) B.pre
  have hown : s.vm.findClass RX1 = some m.cls := findClass_of_methodNamed B.named
  have hlocks := B.notSynchronized
  have hin0 : ∀ w ∈ u_ws RX1 TX1 9, w ∈ wsX1_out := by decide +kernel
  subst hsz
  have hD := hD0.self (sz := s.heap.size)
  generalize hAe : va_A (md_w ct ad v) s.heap.size = A at hD ⊢
  have hA : ∀ q : Nat, s.heap.size ≤ q → A q := fun q h => by rw [← hAe]; exact Or.inr h
  have hS : va_S A s.heap s.heap [] := va_S.rf
  have hl := lv_entry ([.ref (ad 0), .int a1, .int a2]) (n := 3) (Nat.le_of_ble_eq_true rfl)
  rw [lg_entry_eq]
  generalize (lg_sl ([.ref (ad 0), .int a1, .int a2]) ++ List.replicate (3 - (lg_sl ([.ref (ad 0), .int a1, .int a2])).length) Slot.unset).toArray = ls at hl ⊢
  have hl : lv_has ls 3 [(0, .ref (ad 0)), (1, .int (a1)), (2, .int (a2))] := hl
  refine lv_aload_n hx hb dX1_out_0 rfl (lv_at hl 0 rfl) ?_
  refine lv_iconst (v := 0) hx hb dX1_out_1 (by decide) ?_
  refine md_putT hx hb hts hin0 hown hK hP hD hS (hts (.fieldLink RX1 7 "ConferenceBridgeModel" "thrownCode" "I") (by decide +kernel)) dX1_out_2 (fun H locs hP hD hS => ?_)
  have hP : va_P (dC, dI) vwCl (md_w ct ad ((md_sT v (0)))) H := hP
  have hD : va_D A (md_w ct ad ((md_sT v (0)))) := hD
  refine lv_iload_n hx hb dX1_out_5 rfl (lv_at hl 1 rfl) ?_
  refine lv_bipush (v := 8) hx hb dX1_out_6 (by decide) ?_
  refine vp_callSi (W.runS (As := [.int (a1), .int (8)]) (rest := []) ⟨hx, hb, hml, hown, hts⟩ (metX1_not l a1 (8 : Int32)) (va_cwS 2 hts gX1_out_X1_not rfl rfl rfl (by decide +kernel) ⟨(Nat.le_of_ble_eq_true rfl), (Nat.le_of_ble_eq_true rfl)⟩) ⟨fun a U g mk q => q, fun U hU hW => ⟨rfl, trivial⟩⟩ rfl rfl hl.1 rfl (lv_room (Nat.le_of_ble_eq_true rfl)) dX1_out_8 ⟨(Nat.zero_le _), (Nat.zero_le _)⟩) (fun r_1 er_1 => ?_)
  subst er_1
  refine lv_if_ne (tgt := 23) hx hb dX1_out_11 (by decide) (fun c_2 => ?_) (fun c_2 => ?_)
  · refine lv_iconst (v := (-1)) hx hb dX1_out_23 (by decide) ?_
    refine lv_goto (tgt := 38) hx hb dX1_out_24 (by decide) ?_
    have e9 : stX1_out v a1 a2 = (md_sT v (0)) := by unfold stX1_out; rw [if_neg c_2]
    exact W.iret (v := (-1)) hx hb hr (fun t ht hW => ⟨⟨(-1), (), rfl, by unfold anX1_out; rw [if_neg c_2], by rw [ht, e9]; exact hP, va_K.moved hW.alike hK, by rw [e9]; exact hD⟩, hS.F ht⟩) hS.2.2 dX1_out_38
  · refine lv_iload_n hx hb dX1_out_14 rfl (lv_at hl 2 rfl) ?_
    refine lv_bipush (v := 8) hx hb dX1_out_15 (by decide) ?_
    refine vp_callSi (W.runS (As := [.int (a2), .int (8)]) (rest := []) ⟨hx, hb, hml, hown, hts⟩ (metX1_not l a2 (8 : Int32)) (va_cwS 2 hts gX1_out_X1_not rfl rfl rfl (by decide +kernel) ⟨(Nat.le_of_ble_eq_true rfl), (Nat.le_of_ble_eq_true rfl)⟩) ⟨fun a U g mk q => q, fun U hU hW => ⟨rfl, trivial⟩⟩ rfl rfl hl.1 rfl (lv_room (Nat.le_of_ble_eq_true rfl)) dX1_out_17 ⟨(Nat.zero_le _), (Nat.zero_le _)⟩) (fun r_3 er_3 => ?_)
    subst er_3
    refine lv_if_eq (tgt := 27) hx hb dX1_out_20 (by decide) (fun c_4 => ?_) (fun c_4 => ?_)
    · refine lv_aload_n hx hb dX1_out_27 rfl (lv_at hl 0 rfl) ?_
      refine md_get hx hb hts hin0 hown hK hP 5 (by decide) (hts (.fieldLink RX1 27 "ConferenceBridgeModel" "out" "[I") (by decide +kernel)) (z := .ref (ad 5)) rfl dX1_out_28 ?_
      refine lv_bipush (v := 8) hx hb dX1_out_31 (by decide) ?_
      refine lv_iload_n hx hb dX1_out_33 rfl (lv_at hl 1 rfl) ?_
      refine lv_imul hx hb dX1_out_34 ?_
      refine lv_iload_n hx hb dX1_out_35 rfl (lv_at hl 2 rfl) ?_
      refine lv_iadd hx hb dX1_out_36 ?_
      refine va_iald hx hb hK hP 5 0 (f := mdO v) rfl rfl (md_ix (md_not c_2 (by decide)) (md_not c_4 (by decide))) dX1_out_37 ?_
      have e9 : stX1_out v a1 a2 = (md_sT v (0)) := by unfold stX1_out; rw [if_pos c_2, if_pos c_4]
      exact W.iret (v := (mdO v ((((8 : Int32) * a1) + a2)).toNatClampNeg)) hx hb hr (fun t ht hW => ⟨⟨(mdO v ((((8 : Int32) * a1) + a2)).toNatClampNeg), (), rfl, by unfold anX1_out; rw [if_pos c_2, if_pos c_4], by rw [ht, e9]; exact hP, va_K.moved hW.alike hK, by rw [e9]; exact hD⟩, hS.F ht⟩) hS.2.2 dX1_out_38
    · refine lv_iconst (v := (-1)) hx hb dX1_out_23 (by decide) ?_
      refine lv_goto (tgt := 38) hx hb dX1_out_24 (by decide) ?_
      have e9 : stX1_out v a1 a2 = (md_sT v (0)) := by unfold stX1_out; rw [if_pos c_2, if_neg c_4]
      exact W.iret (v := (-1)) hx hb hr (fun t ht hW => ⟨⟨(-1), (), rfl, by unfold anX1_out; rw [if_pos c_2, if_neg c_4], by rw [ht, e9]; exact hP, va_K.moved hW.alike hK, by rw [e9]; exact hD⟩, hS.F ht⟩) hS.2.2 dX1_out_38

def anX1_energy (v : md_U) (a1 : Int32) : Int64 := if (fnX1_not a1 (8 : Int32)) = 0 then ((mdE v a1.toNatClampNeg)) else (0)
def stX1_energy (v : md_U) (a1 : Int32) : md_U := if (fnX1_not a1 (8 : Int32)) = 0 then ((md_sT v (0))) else ((md_sT v (1)))
set_option maxHeartbeats 4000000 in
set_option maxRecDepth 100000 in
theorem metX1_energy (l : Launch) (dC : Nat → ClassId) (dI : Nat → Nat → Nat) (ct : Nat → ClassId) (ad : Nat → Nat) (sz : Nat) (v : md_U) (a1 : Int32) : Met l yX1_energy wsX1_energy ({ frames := 1, cells := 0, slots := 0, locals := 21 }) (va_Pc [.ref (ad 0), .int a1] (fun U => U.heap.size = sz ∧ md_B dC dI ct ad (fun _ => True) v U)) (va_Ql (fun r (_ : Unit) => r = anX1_energy v a1) (fun _ => md_B dC dI ct ad (va_A (md_w ct ad v) sz) (stX1_energy v a1)) (va_A (md_w ct ad v) sz)) 0 0 (va_A (md_w ct ad v) sz) := by
  refine Met.ofW (cc := cX1_energy) (maxL := 2) (ret := (some .long)) (by decide) rfl ?_
  intro p e s m args below meth c s₁ B hml hv
  obtain ⟨rfl, hsz, hP, hK, hD0⟩ := hv
  have hx := B.exec
  have hb := B.bytes
  have hr := B.returns
  have hts := atoms_spec (ws := wsX1_energy) B.pre
  have hown : s.vm.findClass RX1 = some m.cls := findClass_of_methodNamed B.named
  have hlocks := B.notSynchronized
  have hin0 : ∀ w ∈ u_ws RX1 TX1 9, w ∈ wsX1_energy := by decide +kernel
  subst hsz
  have hD := hD0.self (sz := s.heap.size)
  generalize hAe : va_A (md_w ct ad v) s.heap.size = A at hD ⊢
  have hA : ∀ q : Nat, s.heap.size ≤ q → A q := fun q h => by rw [← hAe]; exact Or.inr h
  have hS : va_S A s.heap s.heap [] := va_S.rf
  have hl := lv_entry ([.ref (ad 0), .int a1]) (n := 2) (Nat.le_of_ble_eq_true rfl)
  rw [lg_entry_eq]
  generalize (lg_sl ([.ref (ad 0), .int a1]) ++ List.replicate (2 - (lg_sl ([.ref (ad 0), .int a1])).length) Slot.unset).toArray = ls at hl ⊢
  have hl : lv_has ls 2 [(0, .ref (ad 0)), (1, .int (a1))] := hl
  refine lv_aload_n hx hb dX1_energy_0 rfl (lv_at hl 0 rfl) ?_
  refine lv_iload_n hx hb dX1_energy_1 rfl (lv_at hl 1 rfl) ?_
  refine lv_bipush (v := 8) hx hb dX1_energy_2 (by decide) ?_
  refine vp_callSi (W.runS (As := [.int (a1), .int (8)]) (rest := [.ref (ad 0)]) ⟨hx, hb, hml, hown, hts⟩ (metX1_not l a1 (8 : Int32)) (va_cwS 2 hts gX1_energy_X1_not rfl rfl rfl (by decide +kernel) ⟨(Nat.le_of_ble_eq_true rfl), (Nat.le_of_ble_eq_true rfl)⟩) ⟨fun a U g mk q => q, fun U hU hW => ⟨rfl, trivial⟩⟩ rfl rfl hl.1 rfl (lv_room (Nat.le_of_ble_eq_true rfl)) dX1_energy_4 ⟨(Nat.zero_le _), (Nat.zero_le _)⟩) (fun r_1 er_1 => ?_)
  subst er_1
  refine lv_if_eq (tgt := 14) hx hb dX1_energy_7 (by decide) (fun c_2 => ?_) (fun c_2 => ?_)
  · refine lv_iconst (v := 0) hx hb dX1_energy_14 (by decide) ?_
    refine md_putT hx hb hts hin0 hown hK hP hD hS (hts (.fieldLink RX1 7 "ConferenceBridgeModel" "thrownCode" "I") (by decide +kernel)) dX1_energy_15 (fun H locs hP hD hS => ?_)
    have hP : va_P (dC, dI) vwCl (md_w ct ad ((md_sT v (0)))) H := hP
    have hD : va_D A (md_w ct ad ((md_sT v (0)))) := hD
    refine lv_aload_n hx hb dX1_energy_18 rfl (lv_at hl 0 rfl) ?_
    refine md_get hx hb hts hin0 hown hK hP 0 (by decide) (hts (.fieldLink RX1 7 "ConferenceBridgeModel" "thrownCode" "I") (by decide +kernel)) (z := .int (0)) rfl dX1_energy_19 ?_
    refine lv_if_eq (tgt := 29) hx hb dX1_energy_22 (by decide) (fun _ => ?_) (fun c9 => absurd (by decide) c9)
    refine lv_aload_n hx hb dX1_energy_29 rfl (lv_at hl 0 rfl) ?_
    refine md_get hx hb hts hin0 hown hK hP 7 (by decide) (hts (.fieldLink RX1 33 "ConferenceBridgeModel" "energy" "[J") (by decide +kernel)) (z := .ref (ad 7)) rfl dX1_energy_30 ?_
    refine lv_iload_n hx hb dX1_energy_33 rfl (lv_at hl 1 rfl) ?_
    refine va_lald hx hb hK hP 7 3 (f := mdE v) rfl rfl (md_not c_2 (by decide)) dX1_energy_34 ?_
    have e9 : stX1_energy v a1 = (md_sT v (0)) := by unfold stX1_energy; rw [if_pos c_2]
    exact W.lret (v := (mdE v a1.toNatClampNeg)) hx hb hr (fun t ht hW => ⟨⟨(mdE v a1.toNatClampNeg), (), rfl, by unfold anX1_energy; rw [if_pos c_2], by rw [ht, e9]; exact hP, va_K.moved hW.alike hK, by rw [e9]; exact hD⟩, hS.F ht⟩) hS.2.2 dX1_energy_35
  · refine lv_iconst (v := 1) hx hb dX1_energy_10 (by decide) ?_
    refine lv_goto (tgt := 15) hx hb dX1_energy_11 (by decide) ?_
    refine md_putT hx hb hts hin0 hown hK hP hD hS (hts (.fieldLink RX1 7 "ConferenceBridgeModel" "thrownCode" "I") (by decide +kernel)) dX1_energy_15 (fun H locs hP hD hS => ?_)
    have hP : va_P (dC, dI) vwCl (md_w ct ad ((md_sT v (1)))) H := hP
    have hD : va_D A (md_w ct ad ((md_sT v (1)))) := hD
    refine lv_aload_n hx hb dX1_energy_18 rfl (lv_at hl 0 rfl) ?_
    refine md_get hx hb hts hin0 hown hK hP 0 (by decide) (hts (.fieldLink RX1 7 "ConferenceBridgeModel" "thrownCode" "I") (by decide +kernel)) (z := .int (1)) rfl dX1_energy_19 ?_
    refine lv_if_eq (tgt := 29) hx hb dX1_energy_22 (by decide) (fun c9 => absurd c9 (by decide)) (fun _ => ?_)
    refine lv_lconst (v := 0) hx hb dX1_energy_25 (by decide) ?_
    refine lv_goto (tgt := 35) hx hb dX1_energy_26 (by decide) ?_
    have e9 : stX1_energy v a1 = (md_sT v (1)) := by unfold stX1_energy; rw [if_neg c_2]
    exact W.lret (v := 0) hx hb hr (fun t ht hW => ⟨⟨0, (), rfl, by unfold anX1_energy; rw [if_neg c_2], by rw [ht, e9]; exact hP, va_K.moved hW.alike hK, by rw [e9]; exact hD⟩, hS.F ht⟩) hS.2.2 dX1_energy_35
end
section
/-! the reference's coders over any law that it has; its decode, encode and put -/
def fnX1_meaning (a0 a1 : Int32) : Int32 := if a0 = 0 then fnX1_meaning_0 a1.toNatClampNeg else fnX1_meaning_1 a1.toNatClampNeg
def fnX1_codeOf (a0 a1 : Int32) : Int32 := if a0 = 0 then fnX1_codeOf_0 a1 else fnX1_codeOf_1 a1
theorem metX1_meaning (l : Launch) (a0 a1 : Int32) (h0 : a0 = 0 ∨ a0 = 1) (h1 : vp_in a1 256) : Met l yX1_meaning wsX1_meaning ({ frames := 0, cells := 0, slots := 0, locals := 0 }) (va_Pc [.int a0, .int a1] (fun _ => True)) (vp_Si (fun r => r = fnX1_meaning a0 a1)) 0 0 (fun _ => False) := by
  obtain ⟨n, hn, rfl⟩ := vp_in_of h1 (by decide)
  rcases h0 with rfl | rfl
  · have e : fnX1_meaning 0 (nI n) = fnX1_meaning_0 n := by unfold fnX1_meaning; rw [if_pos rfl, nI_clamp (by omega)]
    rw [e]; exact metX1_meaning_0 l n hn
  · have e : fnX1_meaning 1 (nI n) = fnX1_meaning_1 n := by unfold fnX1_meaning; rw [if_neg (by decide), nI_clamp (by omega)]
    rw [e]; exact metX1_meaning_1 l n hn
theorem metX1_codeOf (l : Launch) (a0 a1 : Int32) (h0 : a0 = 0 ∨ a0 = 1) (hx1 : -32768 ≤ a1.toInt) (hx2 : a1.toInt ≤ 32767) : Met l yX1_codeOf wsX1_codeOf ({ frames := 0, cells := 0, slots := 0, locals := 0 }) (va_Pc [.int a0, .int a1] (fun _ => True)) (vp_Si (fun r => r = fnX1_codeOf a0 a1)) 0 0 (fun _ => False) := by
  rcases h0 with rfl | rfl
  · have e : fnX1_codeOf 0 a1 = fnX1_codeOf_0 a1 := by unfold fnX1_codeOf; rw [if_pos rfl]
    rw [e]; exact metX1_codeOf_0 l a1 hx1 hx2
  · have e : fnX1_codeOf 1 a1 = fnX1_codeOf_1 a1 := by unfold fnX1_codeOf; rw [if_neg (by decide)]
    rw [e]; exact metX1_codeOf_1 l a1 hx1 hx2
theorem md_law01 {x : Int32} (h : (fnX1_not x (2 : Int32)) = 0) : x = 0 ∨ x = 1 := by
  obtain ⟨j, hj, rfl⟩ := vp_in_of (md_not (n := 2) h (by decide)) (by decide)
  match j, hj with
  | 0, _ => exact Or.inl rfl
  | 1, _ => exact Or.inr rfl
theorem md_255 (x : Int32) : vp_in (x &&& (255 : Int32)) 256 := pk_andIn x 8 (by decide) (by decide)
theorem md_l2i {x : Int64} (h1 : -32768 ≤ x.toInt) (h2 : x.toInt ≤ 32767) : x.toInt32.toInt = x.toInt := by
  rw [Int64.toInt_toInt32]
  exact Int.bmod_eq_of_le (by omega) (by omega)
theorem md_held_cases (x : Int64) : (32767 < x.toInt ∧ fnX1_held x = 32767) ∨ (x.toInt < -32768 ∧ fnX1_held x = -32768) ∨ (-32768 ≤ x.toInt ∧ x.toInt ≤ 32767 ∧ fnX1_held x = x.toInt32) := by
  unfold fnX1_held
  by_cases h1 : lg_cmp x 32767 ≤ 0
  · rw [if_pos h1]
    rw [lg_cmp_le, Int64.le_iff_toInt_le] at h1
    have h1' : x.toInt ≤ 32767 := h1
    by_cases h2 : 0 ≤ lg_cmp x (-32768)
    · rw [if_pos h2]
      rw [lg_cmp_ge, Int64.le_iff_toInt_le] at h2
      have h2' : -32768 ≤ x.toInt := h2
      exact Or.inr (Or.inr ⟨h2', h1', rfl⟩)
    · rw [if_neg h2]
      rw [lg_cmp_ge, Int64.le_iff_toInt_le] at h2
      have h2' : ¬ -32768 ≤ x.toInt := h2
      exact Or.inr (Or.inl ⟨by omega, rfl⟩)
  · rw [if_neg h1]
    rw [lg_cmp_le, Int64.le_iff_toInt_le] at h1
    have h1' : ¬ x.toInt ≤ 32767 := h1
    exact Or.inl ⟨by omega, rfl⟩
theorem md_held_lo (x : Int64) : -32768 ≤ (fnX1_held x).toInt := by
  rcases md_held_cases x with ⟨_, e⟩ | ⟨_, e⟩ | ⟨h1, h2, e⟩
  · rw [e]; decide
  · rw [e]; decide
  · rw [e, md_l2i h1 h2]; exact h1
theorem md_held_hi (x : Int64) : (fnX1_held x).toInt ≤ 32767 := by
  rcases md_held_cases x with ⟨_, e⟩ | ⟨_, e⟩ | ⟨h1, h2, e⟩
  · rw [e]; decide
  · rw [e]; decide
  · rw [e, md_l2i h1 h2]; exact h2

def anX1_decode (v : md_U) (a1 : Int32) (a2 : Int32) : Int32 := if (fnX1_not a1 (2 : Int32)) = 0 then ((fnX1_meaning a1 (a2 &&& (255 : Int32)))) else (0)
def stX1_decode (v : md_U) (a1 : Int32) (a2 : Int32) : md_U := if (fnX1_not a1 (2 : Int32)) = 0 then ((md_sT v (0))) else ((md_sT v (1)))
set_option maxHeartbeats 4000000 in
set_option maxRecDepth 100000 in
theorem metX1_decode (l : Launch) (dC : Nat → ClassId) (dI : Nat → Nat → Nat) (ct : Nat → ClassId) (ad : Nat → Nat) (sz : Nat) (v : md_U) (a1 : Int32) (a2 : Int32) : Met l yX1_decode wsX1_decode ({ frames := 1, cells := 0, slots := 0, locals := 26 }) (va_Pc [.ref (ad 0), .int a1, .int a2] (fun U => U.heap.size = sz ∧ md_B dC dI ct ad (fun _ => True) v U)) (va_Qi (fun r (_ : Unit) => r = anX1_decode v a1 a2) (fun _ => md_B dC dI ct ad (va_A (md_w ct ad v) sz) (stX1_decode v a1 a2)) (va_A (md_w ct ad v) sz)) 0 0 (va_A (md_w ct ad v) sz) := by
  refine Met.ofW (cc := cX1_decode) (maxL := 3) (ret := (some .int)) (by decide) rfl ?_
  intro p e s m args below meth c s₁ B hml hv
  obtain ⟨rfl, hsz, hP, hK, hD0⟩ := hv
  have hx := B.exec
  have hb := B.bytes
  have hr := B.returns
  have hts := atoms_spec (ws := wsX1_decode) B.pre
  have hown : s.vm.findClass RX1 = some m.cls := findClass_of_methodNamed B.named
  have hlocks := B.notSynchronized
  have hin0 : ∀ w ∈ u_ws RX1 TX1 9, w ∈ wsX1_decode := by decide +kernel
  subst hsz
  have hD := hD0.self (sz := s.heap.size)
  generalize hAe : va_A (md_w ct ad v) s.heap.size = A at hD ⊢
  have hA : ∀ q : Nat, s.heap.size ≤ q → A q := fun q h => by rw [← hAe]; exact Or.inr h
  have hS : va_S A s.heap s.heap [] := va_S.rf
  have hl := lv_entry ([.ref (ad 0), .int a1, .int a2]) (n := 3) (Nat.le_of_ble_eq_true rfl)
  rw [lg_entry_eq]
  generalize (lg_sl ([.ref (ad 0), .int a1, .int a2]) ++ List.replicate (3 - (lg_sl ([.ref (ad 0), .int a1, .int a2])).length) Slot.unset).toArray = ls at hl ⊢
  have hl : lv_has ls 3 [(0, .ref (ad 0)), (1, .int (a1)), (2, .int (a2))] := hl
  refine lv_aload_n hx hb dX1_decode_0 rfl (lv_at hl 0 rfl) ?_
  refine lv_iload_n hx hb dX1_decode_1 rfl (lv_at hl 1 rfl) ?_
  refine lv_iconst (v := 2) hx hb dX1_decode_2 (by decide) ?_
  refine vp_callSi (W.runS (As := [.int (a1), .int (2)]) (rest := [.ref (ad 0)]) ⟨hx, hb, hml, hown, hts⟩ (metX1_not l a1 (2 : Int32)) (va_cwS 2 hts gX1_decode_X1_not rfl rfl rfl (by decide +kernel) ⟨(Nat.le_of_ble_eq_true rfl), (Nat.le_of_ble_eq_true rfl)⟩) ⟨fun a U g mk q => q, fun U hU hW => ⟨rfl, trivial⟩⟩ rfl rfl hl.1 rfl (lv_room (Nat.le_of_ble_eq_true rfl)) dX1_decode_3 ⟨(Nat.zero_le _), (Nat.zero_le _)⟩) (fun r_1 er_1 => ?_)
  subst er_1
  refine lv_if_eq (tgt := 13) hx hb dX1_decode_6 (by decide) (fun c_2 => ?_) (fun c_2 => ?_)
  · refine lv_iconst (v := 0) hx hb dX1_decode_13 (by decide) ?_
    refine md_putT hx hb hts hin0 hown hK hP hD hS (hts (.fieldLink RX1 7 "ConferenceBridgeModel" "thrownCode" "I") (by decide +kernel)) dX1_decode_14 (fun H locs hP hD hS => ?_)
    have hP : va_P (dC, dI) vwCl (md_w ct ad ((md_sT v (0)))) H := hP
    have hD : va_D A (md_w ct ad ((md_sT v (0)))) := hD
    refine lv_aload_n hx hb dX1_decode_17 rfl (lv_at hl 0 rfl) ?_
    refine md_get hx hb hts hin0 hown hK hP 0 (by decide) (hts (.fieldLink RX1 7 "ConferenceBridgeModel" "thrownCode" "I") (by decide +kernel)) (z := .int (0)) rfl dX1_decode_18 ?_
    refine lv_if_eq (tgt := 28) hx hb dX1_decode_21 (by decide) (fun _ => ?_) (fun c9 => absurd (by decide) c9)
    refine lv_iload_n hx hb dX1_decode_28 rfl (lv_at hl 1 rfl) ?_
    refine lv_iload_n hx hb dX1_decode_29 rfl (lv_at hl 2 rfl) ?_
    refine lv_sipush (v := 255) hx hb dX1_decode_30 (by decide) ?_
    refine lv_iand hx hb dX1_decode_33 ?_
    refine vp_callSi (W.runS (As := [.int (a1), .int ((a2 &&& (255 : Int32)))]) (rest := []) ⟨hx, hb, hml, hown, hts⟩ (metX1_meaning l a1 (a2 &&& (255 : Int32)) (md_law01 c_2) (md_255 a2)) (va_cwS 2 hts gX1_decode_X1_meaning rfl rfl rfl (by decide +kernel) ⟨(Nat.le_of_ble_eq_true rfl), (Nat.le_of_ble_eq_true rfl)⟩) ⟨fun a U g mk q => q, fun U hU hW => ⟨rfl, trivial⟩⟩ rfl rfl hl.1 rfl (lv_room (Nat.le_of_ble_eq_true rfl)) dX1_decode_34 ⟨(Nat.zero_le _), (Nat.zero_le _)⟩) (fun r_4 er_4 => ?_)
    subst er_4
    have e9 : stX1_decode v a1 a2 = (md_sT v (0)) := by unfold stX1_decode; rw [if_pos c_2]
    exact W.iret (v := (fnX1_meaning a1 (a2 &&& (255 : Int32)))) hx hb hr (fun t ht hW => ⟨⟨(fnX1_meaning a1 (a2 &&& (255 : Int32))), (), rfl, by unfold anX1_decode; rw [if_pos c_2], by rw [ht, e9]; exact hP, va_K.moved hW.alike hK, by rw [e9]; exact hD⟩, hS.F ht⟩) hS.2.2 dX1_decode_37
  · refine lv_iconst (v := 1) hx hb dX1_decode_9 (by decide) ?_
    refine lv_goto (tgt := 14) hx hb dX1_decode_10 (by decide) ?_
    refine md_putT hx hb hts hin0 hown hK hP hD hS (hts (.fieldLink RX1 7 "ConferenceBridgeModel" "thrownCode" "I") (by decide +kernel)) dX1_decode_14 (fun H locs hP hD hS => ?_)
    have hP : va_P (dC, dI) vwCl (md_w ct ad ((md_sT v (1)))) H := hP
    have hD : va_D A (md_w ct ad ((md_sT v (1)))) := hD
    refine lv_aload_n hx hb dX1_decode_17 rfl (lv_at hl 0 rfl) ?_
    refine md_get hx hb hts hin0 hown hK hP 0 (by decide) (hts (.fieldLink RX1 7 "ConferenceBridgeModel" "thrownCode" "I") (by decide +kernel)) (z := .int (1)) rfl dX1_decode_18 ?_
    refine lv_if_eq (tgt := 28) hx hb dX1_decode_21 (by decide) (fun c9 => absurd c9 (by decide)) (fun _ => ?_)
    refine lv_iconst (v := 0) hx hb dX1_decode_24 (by decide) ?_
    refine lv_goto (tgt := 37) hx hb dX1_decode_25 (by decide) ?_
    have e9 : stX1_decode v a1 a2 = (md_sT v (1)) := by unfold stX1_decode; rw [if_neg c_2]
    exact W.iret (v := 0) hx hb hr (fun t ht hW => ⟨⟨0, (), rfl, by unfold anX1_decode; rw [if_neg c_2], by rw [ht, e9]; exact hP, va_K.moved hW.alike hK, by rw [e9]; exact hD⟩, hS.F ht⟩) hS.2.2 dX1_decode_37

def anX1_encode (v : md_U) (a1 : Int32) (a2 : Int32) : Int32 := if (fnX1_not a1 (2 : Int32)) = 0 then ((fnX1_codeOf a1 (fnX1_held (a2.toInt64)))) else ((-1))
def stX1_encode (v : md_U) (a1 : Int32) (a2 : Int32) : md_U := if (fnX1_not a1 (2 : Int32)) = 0 then ((md_sT v (0))) else ((md_sT v (0)))
set_option maxHeartbeats 4000000 in
set_option maxRecDepth 100000 in
theorem metX1_encode (l : Launch) (dC : Nat → ClassId) (dI : Nat → Nat → Nat) (ct : Nat → ClassId) (ad : Nat → Nat) (sz : Nat) (v : md_U) (a1 : Int32) (a2 : Int32) : Met l yX1_encode wsX1_encode ({ frames := 1, cells := 0, slots := 0, locals := 23 }) (va_Pc [.ref (ad 0), .int a1, .int a2] (fun U => U.heap.size = sz ∧ md_B dC dI ct ad (fun _ => True) v U)) (va_Qi (fun r (_ : Unit) => r = anX1_encode v a1 a2) (fun _ => md_B dC dI ct ad (va_A (md_w ct ad v) sz) (stX1_encode v a1 a2)) (va_A (md_w ct ad v) sz)) 0 0 (va_A (md_w ct ad v) sz) := by
  refine Met.ofW (cc := cX1_encode) (maxL := 3) (ret := (some .int)) (by decide) rfl ?_
  intro p e s m args below meth c s₁ B hml hv
  obtain ⟨rfl, hsz, hP, hK, hD0⟩ := hv
  have hx := B.exec
  have hb := B.bytes
  have hr := B.returns
  have hts := atoms_spec (ws := wsX1_encode) B.pre
  have hown : s.vm.findClass RX1 = some m.cls := findClass_of_methodNamed B.named
  have hlocks := B.notSynchronized
  have hin0 : ∀ w ∈ u_ws RX1 TX1 9, w ∈ wsX1_encode := by decide +kernel
  subst hsz
  have hD := hD0.self (sz := s.heap.size)
  generalize hAe : va_A (md_w ct ad v) s.heap.size = A at hD ⊢
  have hA : ∀ q : Nat, s.heap.size ≤ q → A q := fun q h => by rw [← hAe]; exact Or.inr h
  have hS : va_S A s.heap s.heap [] := va_S.rf
  have hl := lv_entry ([.ref (ad 0), .int a1, .int a2]) (n := 3) (Nat.le_of_ble_eq_true rfl)
  rw [lg_entry_eq]
  generalize (lg_sl ([.ref (ad 0), .int a1, .int a2]) ++ List.replicate (3 - (lg_sl ([.ref (ad 0), .int a1, .int a2])).length) Slot.unset).toArray = ls at hl ⊢
  have hl : lv_has ls 3 [(0, .ref (ad 0)), (1, .int (a1)), (2, .int (a2))] := hl
  refine lv_aload_n hx hb dX1_encode_0 rfl (lv_at hl 0 rfl) ?_
  refine lv_iconst (v := 0) hx hb dX1_encode_1 (by decide) ?_
  refine md_putT hx hb hts hin0 hown hK hP hD hS (hts (.fieldLink RX1 7 "ConferenceBridgeModel" "thrownCode" "I") (by decide +kernel)) dX1_encode_2 (fun H locs hP hD hS => ?_)
  have hP : va_P (dC, dI) vwCl (md_w ct ad ((md_sT v (0)))) H := hP
  have hD : va_D A (md_w ct ad ((md_sT v (0)))) := hD
  refine lv_iload_n hx hb dX1_encode_5 rfl (lv_at hl 1 rfl) ?_
  refine lv_iconst (v := 2) hx hb dX1_encode_6 (by decide) ?_
  refine vp_callSi (W.runS (As := [.int (a1), .int (2)]) (rest := []) ⟨hx, hb, hml, hown, hts⟩ (metX1_not l a1 (2 : Int32)) (va_cwS 2 hts gX1_encode_X1_not rfl rfl rfl (by decide +kernel) ⟨(Nat.le_of_ble_eq_true rfl), (Nat.le_of_ble_eq_true rfl)⟩) ⟨fun a U g mk q => q, fun U hU hW => ⟨rfl, trivial⟩⟩ rfl rfl hl.1 rfl (lv_room (Nat.le_of_ble_eq_true rfl)) dX1_encode_7 ⟨(Nat.zero_le _), (Nat.zero_le _)⟩) (fun r_1 er_1 => ?_)
  subst er_1
  refine lv_if_eq (tgt := 17) hx hb dX1_encode_10 (by decide) (fun c_2 => ?_) (fun c_2 => ?_)
  · refine lv_iload_n hx hb dX1_encode_17 rfl (lv_at hl 1 rfl) ?_
    refine lv_iload_n hx hb dX1_encode_18 rfl (lv_at hl 2 rfl) ?_
    refine lv_i2l (v := a2.toInt64) hx hb dX1_encode_19 rfl ?_
    refine vp_callSi (W.runS (As := [.long (a2.toInt64)]) (rest := [.int (a1)]) ⟨hx, hb, hml, hown, hts⟩ (metX1_held l (a2.toInt64)) (va_cwS 1 hts gX1_encode_X1_held rfl rfl rfl (by decide +kernel) ⟨(Nat.le_of_ble_eq_true rfl), (Nat.le_of_ble_eq_true rfl)⟩) ⟨fun a U g mk q => q, fun U hU hW => ⟨rfl, trivial⟩⟩ rfl rfl hl.1 rfl (lv_room (Nat.le_of_ble_eq_true rfl)) dX1_encode_20 ⟨(Nat.zero_le _), (Nat.zero_le _)⟩) (fun r_3 er_3 => ?_)
    subst er_3
    refine vp_callSi (W.runS (As := [.int (a1), .int ((fnX1_held (a2.toInt64)))]) (rest := []) ⟨hx, hb, hml, hown, hts⟩ (metX1_codeOf l a1 (fnX1_held (a2.toInt64)) (md_law01 c_2) (md_held_lo _) (md_held_hi _)) (va_cwS 2 hts gX1_encode_X1_codeOf rfl rfl rfl (by decide +kernel) ⟨(Nat.le_of_ble_eq_true rfl), (Nat.le_of_ble_eq_true rfl)⟩) ⟨fun a U g mk q => q, fun U hU hW => ⟨rfl, trivial⟩⟩ rfl rfl hl.1 rfl (lv_room (Nat.le_of_ble_eq_true rfl)) dX1_encode_23 ⟨(Nat.zero_le _), (Nat.zero_le _)⟩) (fun r_4 er_4 => ?_)
    subst er_4
    have e9 : stX1_encode v a1 a2 = (md_sT v (0)) := by unfold stX1_encode; rw [if_pos c_2]
    exact W.iret (v := (fnX1_codeOf a1 (fnX1_held (a2.toInt64)))) hx hb hr (fun t ht hW => ⟨⟨(fnX1_codeOf a1 (fnX1_held (a2.toInt64))), (), rfl, by unfold anX1_encode; rw [if_pos c_2], by rw [ht, e9]; exact hP, va_K.moved hW.alike hK, by rw [e9]; exact hD⟩, hS.F ht⟩) hS.2.2 dX1_encode_26
  · refine lv_iconst (v := (-1)) hx hb dX1_encode_13 (by decide) ?_
    refine lv_goto (tgt := 26) hx hb dX1_encode_14 (by decide) ?_
    have e9 : stX1_encode v a1 a2 = (md_sT v (0)) := by unfold stX1_encode; rw [if_neg c_2]
    exact W.iret (v := (-1)) hx hb hr (fun t ht hW => ⟨⟨(-1), (), rfl, by unfold anX1_encode; rw [if_neg c_2], by rw [ht, e9]; exact hP, va_K.moved hW.alike hK, by rw [e9]; exact hD⟩, hS.F ht⟩) hS.2.2 dX1_encode_26

def anX1_put (v : md_U) (a1 : Int32) (a2 : Int32) (a3 : Int32) : Int32 := if (fnX1_not a1 (8 : Int32)) = 0 then (if (fnX1_not a2 (8 : Int32)) = 0 then (1) else (0)) else (0)
def stX1_put (v : md_U) (a1 : Int32) (a2 : Int32) (a3 : Int32) : md_U := if (fnX1_not a1 (8 : Int32)) = 0 then (if (fnX1_not a2 (8 : Int32)) = 0 then ((md_sI (md_sT v (0)) (upd (mdI v) ((((8 : Int32) * a1) + a2)).toNatClampNeg (a3 &&& (255 : Int32))))) else ((md_sT v (0)))) else ((md_sT v (0)))
set_option maxHeartbeats 4000000 in
set_option maxRecDepth 100000 in
theorem metX1_put (l : Launch) (dC : Nat → ClassId) (dI : Nat → Nat → Nat) (ct : Nat → ClassId) (ad : Nat → Nat) (sz : Nat) (v : md_U) (a1 : Int32) (a2 : Int32) (a3 : Int32) : Met l yX1_put wsX1_put ({ frames := 1, cells := 0, slots := 0, locals := 21 }) (va_Pc [.ref (ad 0), .int a1, .int a2, .int a3] (fun U => U.heap.size = sz ∧ md_B dC dI ct ad (fun _ => True) v U)) (va_Qi (fun r (_ : Unit) => r = anX1_put v a1 a2 a3) (fun _ => md_B dC dI ct ad (va_A (md_w ct ad v) sz) (stX1_put v a1 a2 a3)) (va_A (md_w ct ad v) sz)) 0 0 (va_A (md_w ct ad v) sz) := by
  refine Met.ofW (cc := cX1_put) (maxL := 4) (ret := (some .boolean)) (by decide) rfl ?_
  intro p e s m args below meth c s₁ B hml hv
  obtain ⟨rfl, hsz, hP, hK, hD0⟩ := hv
  have hx := B.exec
  have hb := B.bytes
  have hr := B.returns
  have hts := atoms_spec (ws := wsX1_put) B.pre
  have hown : s.vm.findClass RX1 = some m.cls := findClass_of_methodNamed B.named
  have hlocks := B.notSynchronized
  have hin0 : ∀ w ∈ u_ws RX1 TX1 9, w ∈ wsX1_put := by decide +kernel
  subst hsz
  have hD := hD0.self (sz := s.heap.size)
  generalize hAe : va_A (md_w ct ad v) s.heap.size = A at hD ⊢
  have hA : ∀ q : Nat, s.heap.size ≤ q → A q := fun q h => by rw [← hAe]; exact Or.inr h
  have hS : va_S A s.heap s.heap [] := va_S.rf
  have hl := lv_entry ([.ref (ad 0), .int a1, .int a2, .int a3]) (n := 4) (Nat.le_of_ble_eq_true rfl)
  rw [lg_entry_eq]
  generalize (lg_sl ([.ref (ad 0), .int a1, .int a2, .int a3]) ++ List.replicate (4 - (lg_sl ([.ref (ad 0), .int a1, .int a2, .int a3])).length) Slot.unset).toArray = ls at hl ⊢
  have hl : lv_has ls 4 [(0, .ref (ad 0)), (1, .int (a1)), (2, .int (a2)), (3, .int (a3))] := hl
  refine lv_aload_n hx hb dX1_put_0 rfl (lv_at hl 0 rfl) ?_
  refine lv_iconst (v := 0) hx hb dX1_put_1 (by decide) ?_
  refine md_putT hx hb hts hin0 hown hK hP hD hS (hts (.fieldLink RX1 7 "ConferenceBridgeModel" "thrownCode" "I") (by decide +kernel)) dX1_put_2 (fun H locs hP hD hS => ?_)
  have hP : va_P (dC, dI) vwCl (md_w ct ad ((md_sT v (0)))) H := hP
  have hD : va_D A (md_w ct ad ((md_sT v (0)))) := hD
  refine lv_iload_n hx hb dX1_put_5 rfl (lv_at hl 1 rfl) ?_
  refine lv_bipush (v := 8) hx hb dX1_put_6 (by decide) ?_
  refine vp_callSi (W.runS (As := [.int (a1), .int (8)]) (rest := []) ⟨hx, hb, hml, hown, hts⟩ (metX1_not l a1 (8 : Int32)) (va_cwS 2 hts gX1_put_X1_not rfl rfl rfl (by decide +kernel) ⟨(Nat.le_of_ble_eq_true rfl), (Nat.le_of_ble_eq_true rfl)⟩) ⟨fun a U g mk q => q, fun U hU hW => ⟨rfl, trivial⟩⟩ rfl rfl hl.1 rfl (lv_room (Nat.le_of_ble_eq_true rfl)) dX1_put_8 ⟨(Nat.zero_le _), (Nat.zero_le _)⟩) (fun r_1 er_1 => ?_)
  subst er_1
  refine lv_if_ne (tgt := 23) hx hb dX1_put_11 (by decide) (fun c_2 => ?_) (fun c_2 => ?_)
  · refine lv_iconst (v := 0) hx hb dX1_put_23 (by decide) ?_
    have e9 : stX1_put v a1 a2 a3 = (md_sT v (0)) := by unfold stX1_put; rw [if_neg c_2]
    exact W.zret (v := 0) hx hb hr (by decide) (fun t ht hW => ⟨⟨0, (), rfl, by unfold anX1_put; rw [if_neg c_2], by rw [ht, e9]; exact hP, va_K.moved hW.alike hK, by rw [e9]; exact hD⟩, hS.F ht⟩) hS.2.2 dX1_put_24
  · refine lv_iload_n hx hb dX1_put_14 rfl (lv_at hl 2 rfl) ?_
    refine lv_bipush (v := 8) hx hb dX1_put_15 (by decide) ?_
    refine vp_callSi (W.runS (As := [.int (a2), .int (8)]) (rest := []) ⟨hx, hb, hml, hown, hts⟩ (metX1_not l a2 (8 : Int32)) (va_cwS 2 hts gX1_put_X1_not rfl rfl rfl (by decide +kernel) ⟨(Nat.le_of_ble_eq_true rfl), (Nat.le_of_ble_eq_true rfl)⟩) ⟨fun a U g mk q => q, fun U hU hW => ⟨rfl, trivial⟩⟩ rfl rfl hl.1 rfl (lv_room (Nat.le_of_ble_eq_true rfl)) dX1_put_17 ⟨(Nat.zero_le _), (Nat.zero_le _)⟩) (fun r_3 er_3 => ?_)
    subst er_3
    refine lv_if_eq (tgt := 25) hx hb dX1_put_20 (by decide) (fun c_4 => ?_) (fun c_4 => ?_)
    · refine lv_aload_n hx hb dX1_put_25 rfl (lv_at hl 0 rfl) ?_
      refine md_get hx hb hts hin0 hown hK hP 4 (by decide) (hts (.fieldLink RX1 24 "ConferenceBridgeModel" "in" "[I") (by decide +kernel)) (z := .ref (ad 4)) rfl dX1_put_26 ?_
      refine lv_bipush (v := 8) hx hb dX1_put_29 (by decide) ?_
      refine lv_iload_n hx hb dX1_put_31 rfl (lv_at hl 1 rfl) ?_
      refine lv_imul hx hb dX1_put_32 ?_
      refine lv_iload_n hx hb dX1_put_33 rfl (lv_at hl 2 rfl) ?_
      refine lv_iadd hx hb dX1_put_34 ?_
      refine lv_iload_n hx hb dX1_put_35 rfl (lv_at hl 3 rfl) ?_
      refine lv_sipush (v := 255) hx hb dX1_put_36 (by decide) ?_
      refine lv_iand hx hb dX1_put_39 ?_
      refine cb_iastR hx hb hK hP hD hS 4 0 (f := mdI v) rfl rfl (md_ix (md_not c_2 (by decide)) (md_not c_4 (by decide))) (ws1 := md_w ct ad ((md_sI (md_sT v (0)) (upd (mdI v) ((((8 : Int32) * a1) + a2)).toNatClampNeg (a3 &&& (255 : Int32)))))) rfl dX1_put_40 (fun H locs hP hD hS => ?_)
      have hP : va_P (dC, dI) vwCl (md_w ct ad ((md_sI (md_sT v (0)) (upd (mdI v) ((((8 : Int32) * a1) + a2)).toNatClampNeg (a3 &&& (255 : Int32)))))) H := hP
      have hD : va_D A (md_w ct ad ((md_sI (md_sT v (0)) (upd (mdI v) ((((8 : Int32) * a1) + a2)).toNatClampNeg (a3 &&& (255 : Int32)))))) := hD
      refine lv_iconst (v := 1) hx hb dX1_put_41 (by decide) ?_
      have e9 : stX1_put v a1 a2 a3 = (md_sI (md_sT v (0)) (upd (mdI v) ((((8 : Int32) * a1) + a2)).toNatClampNeg (a3 &&& (255 : Int32)))) := by unfold stX1_put; rw [if_pos c_2, if_pos c_4]
      exact W.zret (v := 1) hx hb hr (by decide) (fun t ht hW => ⟨⟨1, (), rfl, by unfold anX1_put; rw [if_pos c_2, if_pos c_4], by rw [ht, e9]; exact hP, va_K.moved hW.alike hK, by rw [e9]; exact hD⟩, hS.F ht⟩) hS.2.2 dX1_put_42
    · refine lv_iconst (v := 0) hx hb dX1_put_23 (by decide) ?_
      have e9 : stX1_put v a1 a2 a3 = (md_sT v (0)) := by unfold stX1_put; rw [if_pos c_2, if_neg c_4]
      exact W.zret (v := 0) hx hb hr (by decide) (fun t ht hW => ⟨⟨0, (), rfl, by unfold anX1_put; rw [if_pos c_2, if_neg c_4], by rw [ht, e9]; exact hP, va_K.moved hW.alike hK, by rw [e9]; exact hD⟩, hS.F ht⟩) hS.2.2 dX1_put_24
end
section
/-! the class's methods with loops: what each does to the values -/
def cbVoice (a b g : Int32) : Int32 := fnX0_saturated (fnJ9_floorDiv_7cf53 ((fnX0_sampleOf a b) * g) (256 : Int32)).toInt64
def hrV (u : cb_U) (j : Nat) : Nat → Nat → Nat → Int32
  | 0 => cbV u
  | k + 1 => va_up (hrV u j k) j (upd (hrV u j k j) k (cbVoice (cbL u j) (cbC u j k) (cbG u j)))
def hrE (u : cb_U) (j : Nat) : Nat → Int64
  | 0 => 0
  | k + 1 => hrE u j k + (cbVoice (cbL u j) (cbC u j k) (cbG u j)).toInt64 * (cbVoice (cbL u j) (cbC u j k) (cbG u j)).toInt64
def cbHear (u : cb_U) (j : Nat) : cb_U := cb_sE (cb_sV u (hrV u j 8)) (vp_updL (cbE u) j (hrE u j 8))
def rpC (u : cb_U) (j : Nat) (a2 a3 : Int32) : Nat → Nat → Nat → Int32
  | 0 => cbC u
  | k + 1 => va_up (rpC u j a2 a3 k) j (upd (rpC u j a2 a3 k j) k (fnX0_codeOf (cbL u j) (fnX0_saturated (a2.toInt64 + (nI k).toInt64 * a3.toInt64))))
def anX0_ramp (a1 : Int32) : Int32 := if fnX0_isParty a1 = 0 then 0 else 1
def stX0_ramp (u : cb_U) (a1 a2 a3 : Int32) : cb_U := if fnX0_isParty a1 = 0 then u else cb_sC u (rpC u a1.toNatClampNeg a2 a3 8)
def lbF (u : cb_U) (ch : Int32) : Nat → Int32 × Int64
  | 0 => (-1, 0)
  | k + 1 => if cbS u k = 0 then (if fnX0_speaks ch (nI k) = 0 then (if lg_cmp (cbE u k) (lbF u ch k).2 ≤ 0 then lbF u ch k else (nI k, cbE u k)) else lbF u ch k) else lbF u ch k
def chF (u : cb_U) : Nat → Int32 → Int32
  | 0, ch => ch
  | r + 1, ch => if (lbF u ch 8).1 = -1 then ch else chF u r (ch ||| ((1 : Int32) <<< ((lbF u ch 8).1 &&& 31)))
def suF (u : cb_U) (ch : Int32) (k : Nat) : Nat → Int32
  | 0 => 0
  | q + 1 => if fnX0_speaks ch (nI q) = 0 then suF u ch k q else suF u ch k q + cbV u q k
def suZ (u : cb_U) (ch : Int32) : Nat → Nat → Int32
  | 0 => cbZ u
  | k + 1 => upd (suZ u ch k) k (suF u ch k 8)
def cbSumUp (u : cb_U) (ch : Int32) : cb_U := cb_sZ u (suZ u ch 8)
def cbAns (u : cb_U) (j : Nat) (sp : Int32) (k : Nat) : Int32 := if sp = 0 then cbZ u k else cbZ u k - cbV u j k
def anO (u : cb_U) (j : Nat) (sp : Int32) : Nat → Nat → Nat → Int32
  | 0 => cbO u
  | k + 1 => va_up (anO u j sp k) j (upd (anO u j sp k j) k (fnX0_codeOf (cbL u j) (fnX0_saturated (cbAns u j sp k).toInt64)))
def cbAnswer (u : cb_U) (j : Nat) (sp : Int32) : cb_U := cb_sO u (anO u j sp 8)
def mxH (u : cb_U) : Nat → cb_U
  | 0 => u
  | k + 1 => cbHear (mxH u k) k
def mxA (u : cb_U) (ch : Int32) : Nat → cb_U
  | 0 => u
  | k + 1 => cbAnswer (mxA u ch k) k (fnX0_speaks ch (nI k))
theorem mxH_M (u : cb_U) : ∀ k, cbM (mxH u k) = cbM u
  | 0 => rfl
  | k + 1 => mxH_M u k
def anX0_mix (u : cb_U) (M : Nat) : Int32 := chF (mxH u 8) M 0
def stX0_mix (u : cb_U) (M : Nat) : cb_U := mxA (cbSumUp (mxH u 8) (anX0_mix u M)) (anX0_mix u M) 8

set_option maxHeartbeats 4000000 in
set_option maxRecDepth 100000 in
theorem lpX0_hear_5 {p : Program} {l : Launch} {e : Env} {s : State} {m : MethodId} {args : Array Value} {below : List Frame} {meth : Method} {c : Code} {Q : State → Prop} {A : Nat → Prop} {dC : Nat → ClassId} {dI : Nat → Nat → Nat} {ct : Nat → ClassId} {ad : Nat → Nat} (hx : p.tables.exec = Jvm.exec) (hb : c.code = cX0_hear) (hml : c.maxLocals = 7) (hown : s.vm.findClass RX0 = some m.cls) (hts : ∀ w ∈ wsX0_hear, w.before args s = true) (hin0 : ∀ w ∈ u_ws RX0 TX0 9, w ∈ wsX0_hear) (hK : va_K (dC, dI) vwCl (cb_ty ct) s) (hA : ∀ q : Nat, s.heap.size ≤ q → A q) (u : cb_U) (j : Nat) (hj : j < 8)
    (kk : ∀ (H : Heap) (locs : List Loc) (ls : Array Slot), va_P (dC, dI) vwCl (cb_w ct ad ((cb_sV u (hrV u j 8)))) H → va_D A (cb_w ct ad ((cb_sV u (hrV u j 8)))) → va_S A s.heap H locs → lv_has ls 7 [(0, .ref (ad 0)), (1, .int (nI j)), (2, .long (hrE u j 8)), (4, .int (nI 8))] → W p l e ({ frames := 3, cells := 0, slots := 0, locals := 65 }) s m args below meth c H locs 0 0 Q (F0 m 80 ls [])) :
    ∀ (n k : Nat), k ≤ 8 → 9 ≤ k + n → ∀ (H : Heap) (locs : List Loc) (ls : Array Slot), va_P (dC, dI) vwCl (cb_w ct ad ((cb_sV u (hrV u j k)))) H → va_D A (cb_w ct ad ((cb_sV u (hrV u j k)))) → va_S A s.heap H locs → lv_has ls 7 [(0, .ref (ad 0)), (1, .int (nI j)), (2, .long (hrE u j k)), (4, .int (nI k))] → W p l e ({ frames := 3, cells := 0, slots := 0, locals := 65 }) s m args below meth c H locs 0 0 Q (F0 m 5 ls []) := by
  intro n
  induction n with
  | zero => intro k h1 h2; exact absurd h2 (by omega)
  | succ n ih =>
    intro k h1 h2 H locs ls hP hD hS hl
    refine lv_iload hx hb dX0_hear_5 (lv_at hl 3 rfl) ?_
    refine lv_bipush (v := 8) hx hb dX0_hear_7 (by decide) ?_
    refine lv_icmp_ge (tgt := 80) hx hb dX0_hear_9 (by decide) (fun c_1 => ?_) (fun c_1 => ?_)
    · have hk8 : k = 8 := Nat.le_antisymm h1 ((nI_leI (a := 8) (by decide) (by omega)).mp c_1)
      subst hk8
      exact kk H locs ls hP hD hS (lv_sub hl [0, 1, 2, 3] rfl)
    · have hk : k < 8 := Nat.lt_of_not_le (fun q => c_1 (nI_le (a := 8) q (by omega)))
      refine lv_aload_n hx hb dX0_hear_12 rfl (lv_at hl 0 rfl) ?_
      refine cb_get hx hb hts hin0 hown hK hP 0 (by decide) (hts (.fieldLink RX0 9 "ConferenceBridge" "laws" "[I") (by decide +kernel)) (z := .ref (ad 1)) rfl dX0_hear_13 ?_
      refine lv_iload_n hx hb dX0_hear_16 rfl (lv_at hl 1 rfl) ?_
      refine cb_iald hx hb hK hP 1 0 (f := cbL u) rfl rfl hj (by decide) dX0_hear_17 ?_
      refine lv_aload_n hx hb dX0_hear_18 rfl (lv_at hl 0 rfl) ?_
      refine cb_get hx hb hts hin0 hown hK hP 3 (by decide) (hts (.fieldLink RX0 22 "ConferenceBridge" "coming" "[[I") (by decide +kernel)) (z := .ref (ad 4)) rfl dX0_hear_19 ?_
      refine lv_iload_n hx hb dX0_hear_22 rfl (lv_at hl 1 rfl) ?_
      refine cb_aaldN hx hb hK hP 4 2 rfl rfl hj (by decide) (b := ad (9 + j)) (cb_o_at hj) dX0_hear_23 ?_
      refine lv_iload hx hb dX0_hear_24 (lv_at hl 3 rfl) ?_
      refine cb_iald hx hb hK hP (9 + j) 0 (f := cbC u j) (cb_atC ct ad ((cb_sV u (hrV u j k))) j hj) rfl hk (by decide) dX0_hear_26 ?_
      refine vp_callSi (W.runS (As := [.int ((cbL u j)), .int ((cbC u j k))]) (rest := []) ⟨hx, hb, hml, hown, hts⟩ (metX0_sampleOf l (cbL u j) (cbC u j k)) (va_cwS 2 hts gX0_hear_X0_sampleOf rfl rfl rfl (by decide +kernel) ⟨(Nat.le_of_ble_eq_true rfl), (Nat.le_of_ble_eq_true rfl)⟩) ⟨fun a U g mk q => q, fun U hU hW => ⟨rfl, trivial⟩⟩ rfl rfl hl.1 rfl (lv_room (Nat.le_of_ble_eq_true rfl)) dX0_hear_27 ⟨(Nat.zero_le _), (Nat.zero_le _)⟩) (fun r_2 er_2 => ?_)
      subst er_2
      refine lv_istore (lv' := [(5, .int ((fnX0_sampleOf (cbL u j) (cbC u j k)))), (0, .ref (ad 0)), (1, .int (nI j)), (2, .long (hrE u j k)), (4, .int (nI k))]) hx hb dX0_hear_30 hl (by decide) rfl (fun ls hl => ?_)
      refine lv_iload hx hb dX0_hear_32 (lv_at hl 0 rfl) ?_
      refine lv_aload_n hx hb dX0_hear_34 rfl (lv_at hl 1 rfl) ?_
      refine cb_get hx hb hts hin0 hown hK hP 1 (by decide) (hts (.fieldLink RX0 13 "ConferenceBridge" "gains" "[I") (by decide +kernel)) (z := .ref (ad 2)) rfl dX0_hear_35 ?_
      refine lv_iload_n hx hb dX0_hear_38 rfl (lv_at hl 2 rfl) ?_
      refine cb_iald hx hb hK hP 2 0 (f := cbG u) rfl rfl hj (by decide) dX0_hear_39 ?_
      refine lv_imul hx hb dX0_hear_40 ?_
      refine lv_sipush (v := 256) hx hb dX0_hear_41 (by decide) ?_
      refine vp_callSi (W.runS (As := [.int (((fnX0_sampleOf (cbL u j) (cbC u j k)) * (cbG u j))), .int (256)]) (rest := []) ⟨hx, hb, hml, hown, hts⟩ (metJ9_floorDiv_7cf53 l ((fnX0_sampleOf (cbL u j) (cbC u j k)) * (cbG u j)) (256 : Int32) (by decide)) (va_cwS 2 hts gX0_hear_J9_floorDiv_7cf53 rfl rfl rfl (by decide +kernel) ⟨(Nat.le_of_ble_eq_true rfl), (Nat.le_of_ble_eq_true rfl)⟩) ⟨fun a U g mk q => q, fun U hU hW => ⟨rfl, trivial⟩⟩ rfl rfl hl.1 rfl (lv_room (Nat.le_of_ble_eq_true rfl)) dX0_hear_44 ⟨(Nat.zero_le _), (Nat.zero_le _)⟩) (fun r_3 er_3 => ?_)
      subst er_3
      refine lv_i2l (v := (fnJ9_floorDiv_7cf53 ((fnX0_sampleOf (cbL u j) (cbC u j k)) * (cbG u j)) (256 : Int32)).toInt64) hx hb dX0_hear_47 rfl ?_
      refine vp_callSi (W.runS (As := [.long ((fnJ9_floorDiv_7cf53 ((fnX0_sampleOf (cbL u j) (cbC u j k)) * (cbG u j)) (256 : Int32)).toInt64)]) (rest := []) ⟨hx, hb, hml, hown, hts⟩ (metX0_saturated l ((fnJ9_floorDiv_7cf53 ((fnX0_sampleOf (cbL u j) (cbC u j k)) * (cbG u j)) (256 : Int32)).toInt64)) (va_cwS 1 hts gX0_hear_X0_saturated rfl rfl rfl (by decide +kernel) ⟨(Nat.le_of_ble_eq_true rfl), (Nat.le_of_ble_eq_true rfl)⟩) ⟨fun a U g mk q => q, fun U hU hW => ⟨rfl, trivial⟩⟩ rfl rfl hl.1 rfl (lv_room (Nat.le_of_ble_eq_true rfl)) dX0_hear_48 ⟨(Nat.zero_le _), (Nat.zero_le _)⟩) (fun r_4 er_4 => ?_)
      subst er_4
      refine lv_istore (lv' := [(6, .int ((fnX0_saturated ((fnJ9_floorDiv_7cf53 ((fnX0_sampleOf (cbL u j) (cbC u j k)) * (cbG u j)) (256 : Int32)).toInt64)))), (5, .int ((fnX0_sampleOf (cbL u j) (cbC u j k)))), (0, .ref (ad 0)), (1, .int (nI j)), (2, .long (hrE u j k)), (4, .int (nI k))]) hx hb dX0_hear_51 hl (by decide) rfl (fun ls hl => ?_)
      refine lv_aload_n hx hb dX0_hear_53 rfl (lv_at hl 2 rfl) ?_
      refine cb_get hx hb hts hin0 hown hK hP 6 (by decide) (hts (.fieldLink RX0 32 "ConferenceBridge" "voices" "[[I") (by decide +kernel)) (z := .ref (ad 6)) rfl dX0_hear_54 ?_
      refine lv_iload_n hx hb dX0_hear_57 rfl (lv_at hl 3 rfl) ?_
      refine cb_aaldN hx hb hK hP 6 2 rfl rfl hj (by decide) (b := ad (25 + j)) (cb_o_at hj) dX0_hear_58 ?_
      refine lv_iload hx hb dX0_hear_59 (lv_at hl 5 rfl) ?_
      refine lv_iload hx hb dX0_hear_61 (lv_at hl 0 rfl) ?_
      refine cb_iast hx hb hK hP hD hS (25 + j) 0 (f := (hrV u j k) j) (cb_atV ct ad ((cb_sV u (hrV u j k))) j hj) rfl hk (by decide) (cb_putV ct ad ((cb_sV u (hrV u j k))) _ j hj) dX0_hear_63 (fun H locs hP hD hS => ?_)
      have hP : va_P (dC, dI) vwCl (cb_w ct ad ((cb_sV u (va_up (hrV u j k) j (upd ((hrV u j k) j) k (fnX0_saturated ((fnJ9_floorDiv_7cf53 ((fnX0_sampleOf (cbL u j) (cbC u j k)) * (cbG u j)) (256 : Int32)).toInt64))))))) H := hP
      have hD : va_D A (cb_w ct ad ((cb_sV u (va_up (hrV u j k) j (upd ((hrV u j k) j) k (fnX0_saturated ((fnJ9_floorDiv_7cf53 ((fnX0_sampleOf (cbL u j) (cbC u j k)) * (cbG u j)) (256 : Int32)).toInt64))))))) := hD
      refine lv_lload_n hx hb dX0_hear_64 rfl (lv_at hl 4 rfl) ?_
      refine lv_iload hx hb dX0_hear_65 (lv_at hl 0 rfl) ?_
      refine lv_i2l (v := (fnX0_saturated ((fnJ9_floorDiv_7cf53 ((fnX0_sampleOf (cbL u j) (cbC u j k)) * (cbG u j)) (256 : Int32)).toInt64)).toInt64) hx hb dX0_hear_67 rfl ?_
      refine lv_iload hx hb dX0_hear_68 (lv_at hl 0 rfl) ?_
      refine lv_i2l (v := (fnX0_saturated ((fnJ9_floorDiv_7cf53 ((fnX0_sampleOf (cbL u j) (cbC u j k)) * (cbG u j)) (256 : Int32)).toInt64)).toInt64) hx hb dX0_hear_70 rfl ?_
      refine lv_lmul hx hb dX0_hear_71 ?_
      refine lv_ladd hx hb dX0_hear_72 ?_
      refine lv_lstore_n (lv' := [(2, .long (((hrE u j k) + (((fnX0_saturated ((fnJ9_floorDiv_7cf53 ((fnX0_sampleOf (cbL u j) (cbC u j k)) * (cbG u j)) (256 : Int32)).toInt64)).toInt64) * ((fnX0_saturated ((fnJ9_floorDiv_7cf53 ((fnX0_sampleOf (cbL u j) (cbC u j k)) * (cbG u j)) (256 : Int32)).toInt64)).toInt64))))), (6, .int ((fnX0_saturated ((fnJ9_floorDiv_7cf53 ((fnX0_sampleOf (cbL u j) (cbC u j k)) * (cbG u j)) (256 : Int32)).toInt64)))), (5, .int ((fnX0_sampleOf (cbL u j) (cbC u j k)))), (0, .ref (ad 0)), (1, .int (nI j)), (4, .int (nI k))]) hx hb dX0_hear_73 rfl hl (by decide) rfl (fun ls hl => ?_)
      refine lv_iinc (v := ((nI k) + (1 : Int32))) (lv' := [(4, .int (((nI k) + (1 : Int32)))), (2, .long (((hrE u j k) + (((fnX0_saturated ((fnJ9_floorDiv_7cf53 ((fnX0_sampleOf (cbL u j) (cbC u j k)) * (cbG u j)) (256 : Int32)).toInt64)).toInt64) * ((fnX0_saturated ((fnJ9_floorDiv_7cf53 ((fnX0_sampleOf (cbL u j) (cbC u j k)) * (cbG u j)) (256 : Int32)).toInt64)).toInt64))))), (6, .int ((fnX0_saturated ((fnJ9_floorDiv_7cf53 ((fnX0_sampleOf (cbL u j) (cbC u j k)) * (cbG u j)) (256 : Int32)).toInt64)))), (5, .int ((fnX0_sampleOf (cbL u j) (cbC u j k)))), (0, .ref (ad 0)), (1, .int (nI j))]) hx hb dX0_hear_74 hl (k := 5) rfl rfl (by decide) rfl (fun ls hl => ?_)
      refine lv_goto (tgt := 5) hx hb dX0_hear_77 (by decide) ?_
      exact ih (k + 1) (by omega) (by omega) H locs ls hP hD hS (by rw [← nI_1]; exact lv_sub hl [4, 5, 1, 0] rfl)

set_option maxHeartbeats 4000000 in
set_option maxRecDepth 100000 in
theorem metX0_hear (l : Launch) (dC : Nat → ClassId) (dI : Nat → Nat → Nat) (ct : Nat → ClassId) (ad : Nat → Nat) (sz : Nat) (u : cb_U) (j : Nat) (hj : j < 8) : Met l yX0_hear wsX0_hear ({ frames := 3, cells := 0, slots := 0, locals := 65 }) (va_Pc [.ref (ad 0), .int (nI j)] (fun U => U.heap.size = sz ∧ cb_B dC dI ct ad (fun _ => True) u U)) (va_Qv (fun (_ : Unit) => True) (fun _ => cb_B dC dI ct ad (va_A (cb_w ct ad u) sz) (cbHear u j)) (va_A (cb_w ct ad u) sz)) 0 0 (va_A (cb_w ct ad u) sz) := by
  refine Met.ofW (cc := cX0_hear) (maxL := 7) (ret := none) (by decide) rfl ?_
  intro p e s m args below meth c s₁ B hml hv
  obtain ⟨rfl, hsz, hP, hK, hD0⟩ := hv
  have hx := B.exec
  have hb := B.bytes
  have hr := B.returns
  have hts := atoms_spec (ws := wsX0_hear) B.pre
  have hown : s.vm.findClass RX0 = some m.cls := findClass_of_methodNamed B.named
  have hlocks := B.notSynchronized
  have hin0 : ∀ w ∈ u_ws RX0 TX0 9, w ∈ wsX0_hear := by decide +kernel
  subst hsz
  have hD := hD0.self (sz := s.heap.size)
  generalize hAe : va_A (cb_w ct ad u) s.heap.size = A at hD ⊢
  have hA : ∀ q : Nat, s.heap.size ≤ q → A q := fun q h => by rw [← hAe]; exact Or.inr h
  have hS : va_S A s.heap s.heap [] := va_S.rf
  have hl := lv_entry ([.ref (ad 0), .int (nI j)]) (n := 7) (Nat.le_of_ble_eq_true rfl)
  rw [lg_entry_eq]
  generalize (lg_sl ([.ref (ad 0), .int (nI j)]) ++ List.replicate (7 - (lg_sl ([.ref (ad 0), .int (nI j)])).length) Slot.unset).toArray = ls at hl ⊢
  have hl : lv_has ls 7 [(0, .ref (ad 0)), (1, .int (nI j))] := hl
  refine lv_lconst (v := 0) hx hb dX0_hear_0 (by decide) ?_
  refine lv_lstore_n (lv' := [(2, .long (0)), (0, .ref (ad 0)), (1, .int (nI j))]) hx hb dX0_hear_1 rfl hl (by decide) rfl (fun ls hl => ?_)
  refine lv_iconst (v := 0) hx hb dX0_hear_2 (by decide) ?_
  refine lv_istore (lv' := [(4, .int (0)), (2, .long (0)), (0, .ref (ad 0)), (1, .int (nI j))]) hx hb dX0_hear_3 hl (by decide) rfl (fun ls hl => ?_)
  refine lpX0_hear_5 hx hb hml hown hts hin0 hK hA u j hj (fun H locs ls hP hD hS hl => ?_) 9 0 (by decide) (by decide) _ _ ls hP hD hS (lv_sub hl [2, 3, 1, 0] rfl)
  refine lv_aload_n hx hb dX0_hear_80 rfl (lv_at hl 0 rfl) ?_
  refine cb_get hx hb hts hin0 hown hK hP 7 (by decide) (hts (.fieldLink RX0 35 "ConferenceBridge" "energies" "[J") (by decide +kernel)) (z := .ref (ad 7)) rfl dX0_hear_81 ?_
  refine lv_iload_n hx hb dX0_hear_84 rfl (lv_at hl 1 rfl) ?_
  refine lv_lload_n hx hb dX0_hear_85 rfl (lv_at hl 2 rfl) ?_
  refine cb_last hx hb hK hP hD hS 7 3 (f := cbE u) rfl rfl hj (by decide) (ws1 := cb_w ct ad ((cb_sE (cb_sV u (hrV u j 8)) (vp_updL (cbE u) j (hrE u j 8))))) rfl dX0_hear_86 (fun H locs hP hD hS => ?_)
  have hP : va_P (dC, dI) vwCl (cb_w ct ad ((cb_sE (cb_sV u (hrV u j 8)) (vp_updL (cbE u) j (hrE u j 8))))) H := hP
  have hD : va_D A (cb_w ct ad ((cb_sE (cb_sV u (hrV u j 8)) (vp_updL (cbE u) j (hrE u j 8))))) := hD
  have e9 : cbHear u j = (cb_sE (cb_sV u (hrV u j 8)) (vp_updL (cbE u) j (hrE u j 8))) := rfl
  exact W.vret hx hb hr (fun t ht hW => ⟨⟨(), rfl, trivial, by rw [ht, e9]; exact hP, va_K.moved hW.alike hK, by rw [e9]; exact hD⟩, hS.F ht⟩) hS.2.2 dX0_hear_87

set_option maxHeartbeats 4000000 in
set_option maxRecDepth 100000 in
theorem lpX0_ramp_12 {p : Program} {l : Launch} {e : Env} {s : State} {m : MethodId} {args : Array Value} {below : List Frame} {meth : Method} {c : Code} {Q : State → Prop} {A : Nat → Prop} {dC : Nat → ClassId} {dI : Nat → Nat → Nat} {ct : Nat → ClassId} {ad : Nat → Nat} (hx : p.tables.exec = Jvm.exec) (hb : c.code = cX0_ramp) (hml : c.maxLocals = 7) (hown : s.vm.findClass RX0 = some m.cls) (hts : ∀ w ∈ wsX0_ramp, w.before args s = true) (hin0 : ∀ w ∈ u_ws RX0 TX0 9, w ∈ wsX0_ramp) (hK : va_K (dC, dI) vwCl (cb_ty ct) s) (hA : ∀ q : Nat, s.heap.size ≤ q → A q) (u : cb_U) (j : Nat) (hj : j < 8) (a2 a3 : Int32)
    (kk : ∀ (H : Heap) (locs : List Loc) (ls : Array Slot), va_P (dC, dI) vwCl (cb_w ct ad ((cb_sC u (rpC u j a2 a3 8)))) H → va_D A (cb_w ct ad ((cb_sC u (rpC u j a2 a3 8)))) → va_S A s.heap H locs → lv_has ls 7 [(0, .ref (ad 0)), (1, .int (nI j)), (2, .int (a2)), (3, .int (a3)), (4, .int (nI 8))] → W p l e ({ frames := 4, cells := 0, slots := 0, locals := 86 }) s m args below meth c H locs 0 0 Q (F0 m 59 ls [])) :
    ∀ (n k : Nat), k ≤ 8 → 9 ≤ k + n → ∀ (H : Heap) (locs : List Loc) (ls : Array Slot), va_P (dC, dI) vwCl (cb_w ct ad ((cb_sC u (rpC u j a2 a3 k)))) H → va_D A (cb_w ct ad ((cb_sC u (rpC u j a2 a3 k)))) → va_S A s.heap H locs → lv_has ls 7 [(0, .ref (ad 0)), (1, .int (nI j)), (2, .int (a2)), (3, .int (a3)), (4, .int (nI k))] → W p l e ({ frames := 4, cells := 0, slots := 0, locals := 86 }) s m args below meth c H locs 0 0 Q (F0 m 12 ls []) := by
  intro n
  induction n with
  | zero => intro k h1 h2; exact absurd h2 (by omega)
  | succ n ih =>
    intro k h1 h2 H locs ls hP hD hS hl
    refine lv_iload hx hb dX0_ramp_12 (lv_at hl 4 rfl) ?_
    refine lv_bipush (v := 8) hx hb dX0_ramp_14 (by decide) ?_
    refine lv_icmp_ge (tgt := 59) hx hb dX0_ramp_16 (by decide) (fun c_1 => ?_) (fun c_1 => ?_)
    · have hk8 : k = 8 := Nat.le_antisymm h1 ((nI_leI (a := 8) (by decide) (by omega)).mp c_1)
      subst hk8
      exact kk H locs ls hP hD hS (lv_sub hl [0, 1, 2, 3, 4] rfl)
    · have hk : k < 8 := Nat.lt_of_not_le (fun q => c_1 (nI_le (a := 8) q (by omega)))
      refine lv_iload_n hx hb dX0_ramp_19 rfl (lv_at hl 2 rfl) ?_
      refine lv_i2l (v := a2.toInt64) hx hb dX0_ramp_20 rfl ?_
      refine lv_iload hx hb dX0_ramp_21 (lv_at hl 4 rfl) ?_
      refine lv_i2l (v := (nI k).toInt64) hx hb dX0_ramp_23 rfl ?_
      refine lv_iload_n hx hb dX0_ramp_24 rfl (lv_at hl 3 rfl) ?_
      refine lv_i2l (v := a3.toInt64) hx hb dX0_ramp_25 rfl ?_
      refine lv_lmul hx hb dX0_ramp_26 ?_
      refine lv_ladd hx hb dX0_ramp_27 ?_
      refine lv_lstore (lv' := [(5, .long (((a2.toInt64) + (((nI k).toInt64) * (a3.toInt64))))), (0, .ref (ad 0)), (1, .int (nI j)), (2, .int (a2)), (3, .int (a3)), (4, .int (nI k))]) hx hb dX0_ramp_28 hl (by decide) rfl (fun ls hl => ?_)
      refine lv_aload_n hx hb dX0_ramp_30 rfl (lv_at hl 1 rfl) ?_
      refine cb_get hx hb hts hin0 hown hK hP 3 (by decide) (hts (.fieldLink RX0 22 "ConferenceBridge" "coming" "[[I") (by decide +kernel)) (z := .ref (ad 4)) rfl dX0_ramp_31 ?_
      refine lv_iload_n hx hb dX0_ramp_34 rfl (lv_at hl 2 rfl) ?_
      refine cb_aaldN hx hb hK hP 4 2 rfl rfl hj (by decide) (b := ad (9 + j)) (cb_o_at hj) dX0_ramp_35 ?_
      refine lv_iload hx hb dX0_ramp_36 (lv_at hl 5 rfl) ?_
      refine lv_aload_n hx hb dX0_ramp_38 rfl (lv_at hl 1 rfl) ?_
      refine cb_get hx hb hts hin0 hown hK hP 0 (by decide) (hts (.fieldLink RX0 9 "ConferenceBridge" "laws" "[I") (by decide +kernel)) (z := .ref (ad 1)) rfl dX0_ramp_39 ?_
      refine lv_iload_n hx hb dX0_ramp_42 rfl (lv_at hl 2 rfl) ?_
      refine cb_iald hx hb hK hP 1 0 (f := cbL u) rfl rfl hj (by decide) dX0_ramp_43 ?_
      refine lv_lload hx hb dX0_ramp_44 (lv_at hl 0 rfl) ?_
      refine vp_callSi (W.runS (As := [.long (((a2.toInt64) + (((nI k).toInt64) * (a3.toInt64))))]) (rest := [.int ((cbL u j)), .int (nI k), .ref (ad (9 + j))]) ⟨hx, hb, hml, hown, hts⟩ (metX0_saturated l ((a2.toInt64) + (((nI k).toInt64) * (a3.toInt64)))) (va_cwS 1 hts gX0_ramp_X0_saturated rfl rfl rfl (by decide +kernel) ⟨(Nat.le_of_ble_eq_true rfl), (Nat.le_of_ble_eq_true rfl)⟩) ⟨fun a U g mk q => q, fun U hU hW => ⟨rfl, trivial⟩⟩ rfl rfl hl.1 rfl (lv_room (Nat.le_of_ble_eq_true rfl)) dX0_ramp_46 ⟨(Nat.zero_le _), (Nat.zero_le _)⟩) (fun r_2 er_2 => ?_)
      subst er_2
      refine vp_callSi (W.runS (As := [.int ((cbL u j)), .int ((fnX0_saturated ((a2.toInt64) + (((nI k).toInt64) * (a3.toInt64)))))]) (rest := [.int (nI k), .ref (ad (9 + j))]) ⟨hx, hb, hml, hown, hts⟩ (metX0_codeOf l (cbL u j) (fnX0_saturated ((a2.toInt64) + (((nI k).toInt64) * (a3.toInt64))))) (va_cwS 2 hts gX0_ramp_X0_codeOf rfl rfl rfl (by decide +kernel) ⟨(Nat.le_of_ble_eq_true rfl), (Nat.le_of_ble_eq_true rfl)⟩) ⟨fun a U g mk q => q, fun U hU hW => ⟨rfl, trivial⟩⟩ rfl rfl hl.1 rfl (lv_room (Nat.le_of_ble_eq_true rfl)) dX0_ramp_49 ⟨(Nat.zero_le _), (Nat.zero_le _)⟩) (fun r_3 er_3 => ?_)
      subst er_3
      refine cb_iast hx hb hK hP hD hS (9 + j) 0 (f := (rpC u j a2 a3 k) j) (cb_atC ct ad ((cb_sC u (rpC u j a2 a3 k))) j hj) rfl hk (by decide) (cb_putC ct ad ((cb_sC u (rpC u j a2 a3 k))) _ j hj) dX0_ramp_52 (fun H locs hP hD hS => ?_)
      have hP : va_P (dC, dI) vwCl (cb_w ct ad ((cb_sC u (va_up (rpC u j a2 a3 k) j (upd ((rpC u j a2 a3 k) j) k (fnX0_codeOf (cbL u j) (fnX0_saturated ((a2.toInt64) + (((nI k).toInt64) * (a3.toInt64)))))))))) H := hP
      have hD : va_D A (cb_w ct ad ((cb_sC u (va_up (rpC u j a2 a3 k) j (upd ((rpC u j a2 a3 k) j) k (fnX0_codeOf (cbL u j) (fnX0_saturated ((a2.toInt64) + (((nI k).toInt64) * (a3.toInt64)))))))))) := hD
      refine lv_iinc (v := ((nI k) + (1 : Int32))) (lv' := [(4, .int (((nI k) + (1 : Int32)))), (5, .long (((a2.toInt64) + (((nI k).toInt64) * (a3.toInt64))))), (0, .ref (ad 0)), (1, .int (nI j)), (2, .int (a2)), (3, .int (a3))]) hx hb dX0_ramp_53 hl (k := 5) rfl rfl (by decide) rfl (fun ls hl => ?_)
      refine lv_goto (tgt := 12) hx hb dX0_ramp_56 (by decide) ?_
      exact ih (k + 1) (by omega) (by omega) H locs ls hP hD hS (by rw [← nI_1]; exact lv_sub hl [2, 3, 4, 5, 0] rfl)

set_option maxHeartbeats 4000000 in
set_option maxRecDepth 100000 in
theorem metX0_ramp (l : Launch) (dC : Nat → ClassId) (dI : Nat → Nat → Nat) (ct : Nat → ClassId) (ad : Nat → Nat) (sz : Nat) (u : cb_U) (a1 a2 a3 : Int32) : Met l yX0_ramp wsX0_ramp ({ frames := 4, cells := 0, slots := 0, locals := 86 }) (va_Pc [.ref (ad 0), .int (a1), .int (a2), .int (a3)] (fun U => U.heap.size = sz ∧ cb_B dC dI ct ad (fun _ => True) u U)) (va_Qi (fun r (_ : Unit) => r = anX0_ramp a1) (fun _ => cb_B dC dI ct ad (va_A (cb_w ct ad u) sz) (stX0_ramp u a1 a2 a3)) (va_A (cb_w ct ad u) sz)) 0 0 (va_A (cb_w ct ad u) sz) := by
  refine Met.ofW (cc := cX0_ramp) (maxL := 7) (ret := (some .boolean)) (by decide) rfl ?_
  intro p e s m args below meth c s₁ B hml hv
  obtain ⟨rfl, hsz, hP, hK, hD0⟩ := hv
  have hx := B.exec
  have hb := B.bytes
  have hr := B.returns
  have hts := atoms_spec (ws := wsX0_ramp) B.pre
  have hown : s.vm.findClass RX0 = some m.cls := findClass_of_methodNamed B.named
  have hlocks := B.notSynchronized
  have hin0 : ∀ w ∈ u_ws RX0 TX0 9, w ∈ wsX0_ramp := by decide +kernel
  subst hsz
  have hD := hD0.self (sz := s.heap.size)
  generalize hAe : va_A (cb_w ct ad u) s.heap.size = A at hD ⊢
  have hA : ∀ q : Nat, s.heap.size ≤ q → A q := fun q h => by rw [← hAe]; exact Or.inr h
  have hS : va_S A s.heap s.heap [] := va_S.rf
  have hl := lv_entry ([.ref (ad 0), .int (a1), .int (a2), .int (a3)]) (n := 7) (Nat.le_of_ble_eq_true rfl)
  rw [lg_entry_eq]
  generalize (lg_sl ([.ref (ad 0), .int (a1), .int (a2), .int (a3)]) ++ List.replicate (7 - (lg_sl ([.ref (ad 0), .int (a1), .int (a2), .int (a3)])).length) Slot.unset).toArray = ls at hl ⊢
  have hl : lv_has ls 7 [(0, .ref (ad 0)), (1, .int (a1)), (2, .int (a2)), (3, .int (a3))] := hl
  refine lv_iload_n hx hb dX0_ramp_0 rfl (lv_at hl 1 rfl) ?_
  refine vp_callSi (W.runS (As := [.int (a1)]) (rest := []) ⟨hx, hb, hml, hown, hts⟩ (metX0_isParty l a1) (va_cwS 1 hts gX0_ramp_X0_isParty rfl rfl rfl (by decide +kernel) ⟨(Nat.le_of_ble_eq_true rfl), (Nat.le_of_ble_eq_true rfl)⟩) ⟨fun a U g mk q => q, fun U hU hW => ⟨rfl, trivial⟩⟩ rfl rfl hl.1 rfl (lv_room (Nat.le_of_ble_eq_true rfl)) dX0_ramp_1 ⟨(Nat.zero_le _), (Nat.zero_le _)⟩) (fun r_1 er_1 => ?_)
  subst er_1
  refine lv_if_ne (tgt := 9) hx hb dX0_ramp_4 (by decide) (fun c_2 => ?_) (fun c_2 => ?_)
  · obtain ⟨j, hj, rfl⟩ := vp_in_of (cb_party c_2) (by decide)
    refine lv_iconst (v := 0) hx hb dX0_ramp_9 (by decide) ?_
    refine lv_istore (lv' := [(4, .int (0)), (0, .ref (ad 0)), (1, .int (nI j)), (2, .int (a2)), (3, .int (a3))]) hx hb dX0_ramp_10 hl (by decide) rfl (fun ls hl => ?_)
    refine lpX0_ramp_12 hx hb hml hown hts hin0 hK hA u j hj a2 a3 (fun H locs ls hP hD hS hl => ?_) 9 0 (by decide) (by decide) _ _ ls hP hD hS (lv_sub hl [1, 2, 3, 4, 0] rfl)
    refine lv_iconst (v := 1) hx hb dX0_ramp_59 (by decide) ?_
    have e9 : stX0_ramp u (nI j) a2 a3 = (cb_sC u (rpC u j a2 a3 8)) := by unfold stX0_ramp; rw [if_neg c_2, nI_clamp (by omega)]
    exact W.zret (v := 1) hx hb hr (by decide) (fun t ht hW => ⟨⟨1, (), rfl, by unfold anX0_ramp; rw [if_neg c_2], by rw [ht, e9]; exact hP, va_K.moved hW.alike hK, by rw [e9]; exact hD⟩, hS.F ht⟩) hS.2.2 dX0_ramp_60
  · refine lv_iconst (v := 0) hx hb dX0_ramp_7 (by decide) ?_
    have e9 : stX0_ramp u a1 a2 a3 = u := by unfold stX0_ramp; rw [if_pos c_2]
    exact W.zret (v := 0) hx hb hr (by decide) (fun t ht hW => ⟨⟨0, (), rfl, by unfold anX0_ramp; rw [if_pos c_2], by rw [ht, e9]; exact hP, va_K.moved hW.alike hK, by rw [e9]; exact hD⟩, hS.F ht⟩) hS.2.2 dX0_ramp_8

set_option maxHeartbeats 4000000 in
set_option maxRecDepth 100000 in
theorem lpX0_loudestBeside_7 {p : Program} {l : Launch} {e : Env} {s : State} {m : MethodId} {args : Array Value} {below : List Frame} {meth : Method} {c : Code} {Q : State → Prop} {A : Nat → Prop} {dC : Nat → ClassId} {dI : Nat → Nat → Nat} {ct : Nat → ClassId} {ad : Nat → Nat} (hx : p.tables.exec = Jvm.exec) (hb : c.code = cX0_loudestBeside) (hml : c.maxLocals = 6) (hown : s.vm.findClass RX0 = some m.cls) (hts : ∀ w ∈ wsX0_loudestBeside, w.before args s = true) (hin0 : ∀ w ∈ u_ws RX0 TX0 9, w ∈ wsX0_loudestBeside) (hK : va_K (dC, dI) vwCl (cb_ty ct) s) (hA : ∀ q : Nat, s.heap.size ≤ q → A q) (u : cb_U) (a1 : Int32)
    (kk : ∀ (H : Heap) (locs : List Loc) (ls : Array Slot), va_P (dC, dI) vwCl (cb_w ct ad u) H → va_D A (cb_w ct ad u) → va_S A s.heap H locs → lv_has ls 6 [(0, .ref (ad 0)), (1, .int (a1)), (2, .int ((lbF u a1 8).1)), (3, .long ((lbF u a1 8).2)), (5, .int (nI 8))] → W p l e ({ frames := 1, cells := 0, slots := 0, locals := 21 }) s m args below meth c H locs 0 0 Q (F0 m 62 ls [])) :
    ∀ (n k : Nat), k ≤ 8 → 9 ≤ k + n → ∀ (H : Heap) (locs : List Loc) (ls : Array Slot), va_P (dC, dI) vwCl (cb_w ct ad u) H → va_D A (cb_w ct ad u) → va_S A s.heap H locs → lv_has ls 6 [(0, .ref (ad 0)), (1, .int (a1)), (2, .int ((lbF u a1 k).1)), (3, .long ((lbF u a1 k).2)), (5, .int (nI k))] → W p l e ({ frames := 1, cells := 0, slots := 0, locals := 21 }) s m args below meth c H locs 0 0 Q (F0 m 7 ls []) := by
  intro n
  induction n with
  | zero => intro k h1 h2; exact absurd h2 (by omega)
  | succ n ih =>
    intro k h1 h2 H locs ls hP hD hS hl
    refine lv_iload hx hb dX0_loudestBeside_7 (lv_at hl 4 rfl) ?_
    refine lv_bipush (v := 8) hx hb dX0_loudestBeside_9 (by decide) ?_
    refine lv_icmp_ge (tgt := 62) hx hb dX0_loudestBeside_11 (by decide) (fun c_1 => ?_) (fun c_1 => ?_)
    · have hk8 : k = 8 := Nat.le_antisymm h1 ((nI_leI (a := 8) (by decide) (by omega)).mp c_1)
      subst hk8
      exact kk H locs ls hP hD hS (lv_sub hl [0, 1, 2, 3, 4] rfl)
    · have hk : k < 8 := Nat.lt_of_not_le (fun q => c_1 (nI_le (a := 8) q (by omega)))
      refine lv_aload_n hx hb dX0_loudestBeside_14 rfl (lv_at hl 0 rfl) ?_
      refine cb_get hx hb hts hin0 hown hK hP 2 (by decide) (hts (.fieldLink RX0 16 "ConferenceBridge" "silenced" "[Z") (by decide +kernel)) (z := .ref (ad 3)) rfl dX0_loudestBeside_15 ?_
      refine lv_iload hx hb dX0_loudestBeside_18 (lv_at hl 4 rfl) ?_
      refine cb_zald hx hb hK hP 3 1 (f := cbS u) rfl rfl hk (by decide) dX0_loudestBeside_20 ?_
      refine lv_if_ne (tgt := 56) hx hb dX0_loudestBeside_21 (by decide) (fun c_2 => ?_) (fun c_2 => ?_)
      · refine lv_iinc (v := ((nI k) + (1 : Int32))) (lv' := [(5, .int (((nI k) + (1 : Int32)))), (0, .ref (ad 0)), (1, .int (a1)), (2, .int ((lbF u a1 k).1)), (3, .long ((lbF u a1 k).2))]) hx hb dX0_loudestBeside_56 hl (k := 4) rfl rfl (by decide) rfl (fun ls hl => ?_)
        refine lv_goto (tgt := 7) hx hb dX0_loudestBeside_59 (by decide) ?_
        have e9 : lbF u a1 (k + 1) = lbF u a1 k := by rw [lbF, if_neg c_2]
        exact ih (k + 1) (by omega) (by omega) H locs ls hP hD hS (by rw [← nI_1, e9]; exact lv_sub hl [1, 2, 3, 4, 0] rfl)
      · refine lv_iload_n hx hb dX0_loudestBeside_24 rfl (lv_at hl 1 rfl) ?_
        refine lv_iload hx hb dX0_loudestBeside_25 (lv_at hl 4 rfl) ?_
        refine vp_callSi (W.runS (As := [.int (a1), .int (nI k)]) (rest := []) ⟨hx, hb, hml, hown, hts⟩ (metX0_speaks l a1 (nI k)) (va_cwS 2 hts gX0_loudestBeside_X0_speaks rfl rfl rfl (by decide +kernel) ⟨(Nat.le_of_ble_eq_true rfl), (Nat.le_of_ble_eq_true rfl)⟩) ⟨fun a U g mk q => q, fun U hU hW => ⟨rfl, trivial⟩⟩ rfl rfl hl.1 rfl (lv_room (Nat.le_of_ble_eq_true rfl)) dX0_loudestBeside_27 ⟨(Nat.zero_le _), (Nat.zero_le _)⟩) (fun r_3 er_3 => ?_)
        subst er_3
        refine lv_if_ne (tgt := 56) hx hb dX0_loudestBeside_30 (by decide) (fun c_4 => ?_) (fun c_4 => ?_)
        · refine lv_iinc (v := ((nI k) + (1 : Int32))) (lv' := [(5, .int (((nI k) + (1 : Int32)))), (0, .ref (ad 0)), (1, .int (a1)), (2, .int ((lbF u a1 k).1)), (3, .long ((lbF u a1 k).2))]) hx hb dX0_loudestBeside_56 hl (k := 4) rfl rfl (by decide) rfl (fun ls hl => ?_)
          refine lv_goto (tgt := 7) hx hb dX0_loudestBeside_59 (by decide) ?_
          have e9 : lbF u a1 (k + 1) = lbF u a1 k := by rw [lbF, if_pos c_2, if_neg c_4]
          exact ih (k + 1) (by omega) (by omega) H locs ls hP hD hS (by rw [← nI_1, e9]; exact lv_sub hl [1, 2, 3, 4, 0] rfl)
        · refine lv_aload_n hx hb dX0_loudestBeside_33 rfl (lv_at hl 0 rfl) ?_
          refine cb_get hx hb hts hin0 hown hK hP 7 (by decide) (hts (.fieldLink RX0 35 "ConferenceBridge" "energies" "[J") (by decide +kernel)) (z := .ref (ad 7)) rfl dX0_loudestBeside_34 ?_
          refine lv_iload hx hb dX0_loudestBeside_37 (lv_at hl 4 rfl) ?_
          refine cb_lald hx hb hK hP 7 3 (f := cbE u) rfl rfl hk (by decide) dX0_loudestBeside_39 ?_
          refine lv_lload_n hx hb dX0_loudestBeside_40 rfl (lv_at hl 3 rfl) ?_
          refine W.lcmp hx hb dX0_loudestBeside_41 ?_
          refine lv_if_le (tgt := 56) hx hb dX0_loudestBeside_42 (by decide) (fun c_5 => ?_) (fun c_5 => ?_)
          · refine lv_iinc (v := ((nI k) + (1 : Int32))) (lv' := [(5, .int (((nI k) + (1 : Int32)))), (0, .ref (ad 0)), (1, .int (a1)), (2, .int ((lbF u a1 k).1)), (3, .long ((lbF u a1 k).2))]) hx hb dX0_loudestBeside_56 hl (k := 4) rfl rfl (by decide) rfl (fun ls hl => ?_)
            refine lv_goto (tgt := 7) hx hb dX0_loudestBeside_59 (by decide) ?_
            have e9 : lbF u a1 (k + 1) = lbF u a1 k := by rw [lbF, if_pos c_2, if_pos c_4, if_pos c_5]
            exact ih (k + 1) (by omega) (by omega) H locs ls hP hD hS (by rw [← nI_1, e9]; exact lv_sub hl [1, 2, 3, 4, 0] rfl)
          · refine lv_iload hx hb dX0_loudestBeside_45 (lv_at hl 4 rfl) ?_
            refine lv_istore_n (lv' := [(2, .int (nI k)), (0, .ref (ad 0)), (1, .int (a1)), (3, .long ((lbF u a1 k).2)), (5, .int (nI k))]) hx hb dX0_loudestBeside_47 rfl hl (by decide) rfl (fun ls hl => ?_)
            refine lv_aload_n hx hb dX0_loudestBeside_48 rfl (lv_at hl 1 rfl) ?_
            refine cb_get hx hb hts hin0 hown hK hP 7 (by decide) (hts (.fieldLink RX0 35 "ConferenceBridge" "energies" "[J") (by decide +kernel)) (z := .ref (ad 7)) rfl dX0_loudestBeside_49 ?_
            refine lv_iload hx hb dX0_loudestBeside_52 (lv_at hl 4 rfl) ?_
            refine cb_lald hx hb hK hP 7 3 (f := cbE u) rfl rfl hk (by decide) dX0_loudestBeside_54 ?_
            refine lv_lstore_n (lv' := [(3, .long ((cbE u k))), (2, .int (nI k)), (0, .ref (ad 0)), (1, .int (a1)), (5, .int (nI k))]) hx hb dX0_loudestBeside_55 rfl hl (by decide) rfl (fun ls hl => ?_)
            refine lv_iinc (v := ((nI k) + (1 : Int32))) (lv' := [(5, .int (((nI k) + (1 : Int32)))), (3, .long ((cbE u k))), (2, .int (nI k)), (0, .ref (ad 0)), (1, .int (a1))]) hx hb dX0_loudestBeside_56 hl (k := 4) rfl rfl (by decide) rfl (fun ls hl => ?_)
            refine lv_goto (tgt := 7) hx hb dX0_loudestBeside_59 (by decide) ?_
            have e9 : lbF u a1 (k + 1) = (nI k, cbE u k) := by rw [lbF, if_pos c_2, if_pos c_4, if_neg c_5]
            exact ih (k + 1) (by omega) (by omega) H locs ls hP hD hS (by rw [← nI_1, e9]; exact lv_sub hl [3, 4, 2, 1, 0] rfl)

set_option maxHeartbeats 4000000 in
set_option maxRecDepth 100000 in
theorem metX0_loudestBeside (l : Launch) (dC : Nat → ClassId) (dI : Nat → Nat → Nat) (ct : Nat → ClassId) (ad : Nat → Nat) (sz : Nat) (u : cb_U) (a1 : Int32) : Met l yX0_loudestBeside wsX0_loudestBeside ({ frames := 1, cells := 0, slots := 0, locals := 21 }) (va_Pc [.ref (ad 0), .int (a1)] (fun U => U.heap.size = sz ∧ cb_B dC dI ct ad (fun _ => True) u U)) (va_Qi (fun r (_ : Unit) => r = (lbF u a1 8).1) (fun _ => cb_B dC dI ct ad (va_A (cb_w ct ad u) sz) u) (va_A (cb_w ct ad u) sz)) 0 0 (va_A (cb_w ct ad u) sz) := by
  refine Met.ofW (cc := cX0_loudestBeside) (maxL := 6) (ret := (some .int)) (by decide) rfl ?_
  intro p e s m args below meth c s₁ B hml hv
  obtain ⟨rfl, hsz, hP, hK, hD0⟩ := hv
  have hx := B.exec
  have hb := B.bytes
  have hr := B.returns
  have hts := atoms_spec (ws := wsX0_loudestBeside) B.pre
  have hown : s.vm.findClass RX0 = some m.cls := findClass_of_methodNamed B.named
  have hlocks := B.notSynchronized
  have hin0 : ∀ w ∈ u_ws RX0 TX0 9, w ∈ wsX0_loudestBeside := by decide +kernel
  subst hsz
  have hD := hD0.self (sz := s.heap.size)
  generalize hAe : va_A (cb_w ct ad u) s.heap.size = A at hD ⊢
  have hA : ∀ q : Nat, s.heap.size ≤ q → A q := fun q h => by rw [← hAe]; exact Or.inr h
  have hS : va_S A s.heap s.heap [] := va_S.rf
  have hl := lv_entry ([.ref (ad 0), .int (a1)]) (n := 6) (Nat.le_of_ble_eq_true rfl)
  rw [lg_entry_eq]
  generalize (lg_sl ([.ref (ad 0), .int (a1)]) ++ List.replicate (6 - (lg_sl ([.ref (ad 0), .int (a1)])).length) Slot.unset).toArray = ls at hl ⊢
  have hl : lv_has ls 6 [(0, .ref (ad 0)), (1, .int (a1))] := hl
  refine lv_iconst (v := (-1)) hx hb dX0_loudestBeside_0 (by decide) ?_
  refine lv_istore_n (lv' := [(2, .int ((-1))), (0, .ref (ad 0)), (1, .int (a1))]) hx hb dX0_loudestBeside_1 rfl hl (by decide) rfl (fun ls hl => ?_)
  refine lv_lconst (v := 0) hx hb dX0_loudestBeside_2 (by decide) ?_
  refine lv_lstore_n (lv' := [(3, .long (0)), (2, .int ((-1))), (0, .ref (ad 0)), (1, .int (a1))]) hx hb dX0_loudestBeside_3 rfl hl (by decide) rfl (fun ls hl => ?_)
  refine lv_iconst (v := 0) hx hb dX0_loudestBeside_4 (by decide) ?_
  refine lv_istore (lv' := [(5, .int (0)), (3, .long (0)), (2, .int ((-1))), (0, .ref (ad 0)), (1, .int (a1))]) hx hb dX0_loudestBeside_5 hl (by decide) rfl (fun ls hl => ?_)
  refine lpX0_loudestBeside_7 hx hb hml hown hts hin0 hK hA u a1 (fun H locs ls hP hD hS hl => ?_) 9 0 (by decide) (by decide) _ _ ls hP hD hS (lv_sub hl [3, 4, 2, 1, 0] rfl)
  refine lv_iload_n hx hb dX0_loudestBeside_62 rfl (lv_at hl 2 rfl) ?_
  have e9 : u = u := rfl
  exact W.iret (v := (lbF u a1 8).1) hx hb hr (fun t ht hW => ⟨⟨(lbF u a1 8).1, (), rfl, rfl, by rw [ht, e9]; exact hP, va_K.moved hW.alike hK, by rw [e9]; exact hD⟩, hS.F ht⟩) hS.2.2 dX0_loudestBeside_63

set_option maxHeartbeats 4000000 in
set_option maxRecDepth 100000 in
theorem lpX0_chooseSpeakers_4 {p : Program} {l : Launch} {e : Env} {s : State} {m : MethodId} {args : Array Value} {below : List Frame} {meth : Method} {c : Code} {Q : State → Prop} {A : Nat → Prop} {dC : Nat → ClassId} {dI : Nat → Nat → Nat} {ct : Nat → ClassId} {ad : Nat → Nat} (hx : p.tables.exec = Jvm.exec) (hb : c.code = cX0_chooseSpeakers) (hml : c.maxLocals = 4) (hown : s.vm.findClass RX0 = some m.cls) (hts : ∀ w ∈ wsX0_chooseSpeakers, w.before args s = true) (hin0 : ∀ w ∈ u_ws RX0 TX0 9, w ∈ wsX0_chooseSpeakers) (hK : va_K (dC, dI) vwCl (cb_ty ct) s) (hA : ∀ q : Nat, s.heap.size ≤ q → A q) (u : cb_U) (M : Nat) (hM : M ≤ 8) (eM : cbM u = nI M) (F : Int32)
    (kk : ∀ (i : Nat) (H : Heap) (locs : List Loc) (ls : Array Slot), va_P (dC, dI) vwCl (cb_w ct ad u) H → va_D A (cb_w ct ad u) → va_S A s.heap H locs → lv_has ls 4 [(0, .ref (ad 0)), (1, .int (F)), (2, .int (nI i))] → W p l e ({ frames := 2, cells := 0, slots := 0, locals := 46 }) s m args below meth c H locs 0 0 Q (F0 m 38 ls [])) :
    ∀ (n i : Nat) (ch : Int32), i ≤ M → M + 1 ≤ i + n → chF u (M - i) ch = F → ∀ (H : Heap) (locs : List Loc) (ls : Array Slot), va_P (dC, dI) vwCl (cb_w ct ad u) H → va_D A (cb_w ct ad u) → va_S A s.heap H locs → lv_has ls 4 [(0, .ref (ad 0)), (1, .int (ch)), (2, .int (nI i))] → W p l e ({ frames := 2, cells := 0, slots := 0, locals := 46 }) s m args below meth c H locs 0 0 Q (F0 m 4 ls []) := by
  intro n
  induction n with
  | zero => intro i ch h1 h2; exact absurd h2 (by omega)
  | succ n ih =>
    intro i ch h1 h2 hF H locs ls hP hD hS hl
    refine lv_iload_n hx hb dX0_chooseSpeakers_4 rfl (lv_at hl 2 rfl) ?_
    refine lv_aload_n hx hb dX0_chooseSpeakers_5 rfl (lv_at hl 0 rfl) ?_
    refine cb_get hx hb hts hin0 hown hK hP 5 (by decide) (hts (.fieldLink RX0 28 "ConferenceBridge" "mostSpeakers" "I") (by decide +kernel)) (z := .int (cbM u)) rfl dX0_chooseSpeakers_6 ?_
    refine lv_topi (fun y9 ey9 => ?_)
    obtain rfl : y9 = nI M := ey9.trans eM
    refine lv_icmp_ge (tgt := 38) hx hb dX0_chooseSpeakers_9 (by decide) (fun c_1 => ?_) (fun c_1 => ?_)
    · have hi : M = i := Nat.le_antisymm ((nI_leI (by omega) (by omega)).mp c_1) h1
      subst hi
      have e9 : ch = F := by rw [← hF, Nat.sub_self]; rfl
      subst e9
      exact kk _ H locs ls hP hD hS (lv_sub hl [0, 1, 2] rfl)
    · refine lv_aload_n hx hb dX0_chooseSpeakers_12 rfl (lv_at hl 0 rfl) ?_
      refine lv_iload_n hx hb dX0_chooseSpeakers_13 rfl (lv_at hl 1 rfl) ?_
      have hFc := cb_free hD hS hA
      refine va_calli (va_runV (As := [.int (ch)]) (rest := []) ⟨hx, hb, hml, hown, hts⟩ (metX0_loudestBeside l dC dI ct ad H.size u ch) (cwV 1 hts gX0_chooseSpeakers_X0_loudestBeside rfl rfl rfl (by decide +kernel) ⟨(Nat.le_of_ble_eq_true rfl), (Nat.le_of_ble_eq_true rfl)⟩) ⟨fun a U g mk q => by obtain ⟨q0, q1, qP, qK, qD⟩ := q; exact ⟨q0, q1, qP, va_K.moved (u := U) (U := U.calling g mk a) (Vm.Alike.refl U.vm) qK, qD⟩, va_recv hK hP (ci := 0) (q0 := 0) rfl rfl, fun U hU hW => ⟨rfl, by rw [hU], by rw [hU]; exact hP, va_K.moved hW.alike hK, hD.weaken (fun _ _ _ _ => trivial)⟩⟩ rfl rfl hl.1 rfl (lv_room (Nat.le_of_ble_eq_true rfl)) dX0_chooseSpeakers_14 ⟨(Nat.zero_le _), (Nat.zero_le _)⟩) hS (fun q _ h => hFc q h) hFc (fun r_2 u9 t9 H1 locs ht9 hvm hw9 hB hz1 hk1 hS => ?_)
      obtain ⟨hP1, -, hD1⟩ := hB
      rw [ht9] at hP1
      subst hw9
      generalize H1 = H at hP1 hS ⊢
      have hP : va_P (dC, dI) vwCl (cb_w ct ad u) H := hP1
      have hD : va_D A (cb_w ct ad u) := hD1.weaken (fun _ _ _ h => hFc _ h)
      refine lv_istore_n (lv' := [(3, .int ((lbF u ch 8).1)), (0, .ref (ad 0)), (1, .int (ch)), (2, .int (nI i))]) hx hb dX0_chooseSpeakers_17 rfl hl (by decide) rfl (fun ls hl => ?_)
      refine lv_iload_n hx hb dX0_chooseSpeakers_18 rfl (lv_at hl 0 rfl) ?_
      refine lv_iconst (v := (-1)) hx hb dX0_chooseSpeakers_19 (by decide) ?_
      refine lv_icmp_ne (tgt := 26) hx hb dX0_chooseSpeakers_20 (by decide) (fun c_3 => ?_) (fun c_3 => ?_)
      · refine lv_iload_n hx hb dX0_chooseSpeakers_26 rfl (lv_at hl 2 rfl) ?_
        refine lv_iconst (v := 1) hx hb dX0_chooseSpeakers_27 (by decide) ?_
        refine lv_iload_n hx hb dX0_chooseSpeakers_28 rfl (lv_at hl 0 rfl) ?_
        refine lv_ishl hx hb dX0_chooseSpeakers_29 ?_
        refine lv_ior hx hb dX0_chooseSpeakers_30 ?_
        refine lv_istore_n (lv' := [(1, .int ((ch ||| ((1 : Int32) <<< (((lbF u ch 8).1) &&& 31))))), (3, .int ((lbF u ch 8).1)), (0, .ref (ad 0)), (2, .int (nI i))]) hx hb dX0_chooseSpeakers_31 rfl hl (by decide) rfl (fun ls hl => ?_)
        refine lv_iinc (v := ((nI i) + (1 : Int32))) (lv' := [(2, .int (((nI i) + (1 : Int32)))), (1, .int ((ch ||| ((1 : Int32) <<< (((lbF u ch 8).1) &&& 31))))), (3, .int ((lbF u ch 8).1)), (0, .ref (ad 0))]) hx hb dX0_chooseSpeakers_32 hl (k := 3) rfl rfl (by decide) rfl (fun ls hl => ?_)
        refine lv_goto (tgt := 4) hx hb dX0_chooseSpeakers_35 (by decide) ?_
        have hi : i < M := Nat.lt_of_not_le (fun q => c_1 (nI_le q (by omega)))
        have e9 : chF u (M - (i + 1)) (ch ||| ((1 : Int32) <<< ((lbF u ch 8).1 &&& 31))) = F := by
          rw [← hF, show M - i = (M - (i + 1)) + 1 by omega, chF, if_neg c_3]
        exact ih (i + 1) _ (by omega) (by omega) e9 H locs ls hP hD hS (by rw [← nI_1]; exact lv_sub hl [3, 1, 0] rfl)
      · refine lv_goto (tgt := 38) hx hb dX0_chooseSpeakers_23 (by decide) ?_
        have hi : i < M := Nat.lt_of_not_le (fun q => c_1 (nI_le q (by omega)))
        have e9 : ch = F := by
          rw [← hF, show M - i = (M - (i + 1)) + 1 by omega, chF, if_pos c_3]
        subst e9
        exact kk _ H locs ls hP hD hS (lv_sub hl [1, 2, 3] rfl)

set_option maxHeartbeats 4000000 in
set_option maxRecDepth 100000 in
theorem metX0_chooseSpeakers (l : Launch) (dC : Nat → ClassId) (dI : Nat → Nat → Nat) (ct : Nat → ClassId) (ad : Nat → Nat) (sz : Nat) (u : cb_U) (M : Nat) (hM : M ≤ 8) (eM : cbM u = nI M) : Met l yX0_chooseSpeakers wsX0_chooseSpeakers ({ frames := 2, cells := 0, slots := 0, locals := 46 }) (va_Pc [.ref (ad 0)] (fun U => U.heap.size = sz ∧ cb_B dC dI ct ad (fun _ => True) u U)) (va_Qi (fun r (_ : Unit) => r = chF u M 0) (fun _ => cb_B dC dI ct ad (va_A (cb_w ct ad u) sz) u) (va_A (cb_w ct ad u) sz)) 0 0 (va_A (cb_w ct ad u) sz) := by
  refine Met.ofW (cc := cX0_chooseSpeakers) (maxL := 4) (ret := (some .int)) (by decide) rfl ?_
  intro p e s m args below meth c s₁ B hml hv
  obtain ⟨rfl, hsz, hP, hK, hD0⟩ := hv
  have hx := B.exec
  have hb := B.bytes
  have hr := B.returns
  have hts := atoms_spec (ws := wsX0_chooseSpeakers) B.pre
  have hown : s.vm.findClass RX0 = some m.cls := findClass_of_methodNamed B.named
  have hlocks := B.notSynchronized
  have hin0 : ∀ w ∈ u_ws RX0 TX0 9, w ∈ wsX0_chooseSpeakers := by decide +kernel
  subst hsz
  have hD := hD0.self (sz := s.heap.size)
  generalize hAe : va_A (cb_w ct ad u) s.heap.size = A at hD ⊢
  have hA : ∀ q : Nat, s.heap.size ≤ q → A q := fun q h => by rw [← hAe]; exact Or.inr h
  have hS : va_S A s.heap s.heap [] := va_S.rf
  have hl := lv_entry ([.ref (ad 0)]) (n := 4) (Nat.le_of_ble_eq_true rfl)
  rw [lg_entry_eq]
  generalize (lg_sl ([.ref (ad 0)]) ++ List.replicate (4 - (lg_sl ([.ref (ad 0)])).length) Slot.unset).toArray = ls at hl ⊢
  have hl : lv_has ls 4 [(0, .ref (ad 0))] := hl
  refine lv_iconst (v := 0) hx hb dX0_chooseSpeakers_0 (by decide) ?_
  refine lv_istore_n (lv' := [(1, .int (0)), (0, .ref (ad 0))]) hx hb dX0_chooseSpeakers_1 rfl hl (by decide) rfl (fun ls hl => ?_)
  refine lv_iconst (v := 0) hx hb dX0_chooseSpeakers_2 (by decide) ?_
  refine lv_istore_n (lv' := [(2, .int (0)), (1, .int (0)), (0, .ref (ad 0))]) hx hb dX0_chooseSpeakers_3 rfl hl (by decide) rfl (fun ls hl => ?_)
  refine lpX0_chooseSpeakers_4 hx hb hml hown hts hin0 hK hA u M hM eM (chF u M 0) (fun i H locs ls hP hD hS hl => ?_) (M + 1) 0 0 (by omega) (by omega) rfl _ _ ls hP hD hS (lv_sub hl [2, 1, 0] rfl)
  refine lv_iload_n hx hb dX0_chooseSpeakers_38 rfl (lv_at hl 1 rfl) ?_
  have e9 : u = u := rfl
  exact W.iret (v := chF u M 0) hx hb hr (fun t ht hW => ⟨⟨chF u M 0, (), rfl, rfl, by rw [ht, e9]; exact hP, va_K.moved hW.alike hK, by rw [e9]; exact hD⟩, hS.F ht⟩) hS.2.2 dX0_chooseSpeakers_39

set_option maxHeartbeats 4000000 in
set_option maxRecDepth 100000 in
theorem lpX0_sumUp_13 {p : Program} {l : Launch} {e : Env} {s : State} {m : MethodId} {args : Array Value} {below : List Frame} {meth : Method} {c : Code} {Q : State → Prop} {A : Nat → Prop} {dC : Nat → ClassId} {dI : Nat → Nat → Nat} {ct : Nat → ClassId} {ad : Nat → Nat} (hx : p.tables.exec = Jvm.exec) (hb : c.code = cX0_sumUp) (hml : c.maxLocals = 5) (hown : s.vm.findClass RX0 = some m.cls) (hts : ∀ w ∈ wsX0_sumUp, w.before args s = true) (hin0 : ∀ w ∈ u_ws RX0 TX0 9, w ∈ wsX0_sumUp) (hK : va_K (dC, dI) vwCl (cb_ty ct) s) (hA : ∀ q : Nat, s.heap.size ≤ q → A q) (u : cb_U) (a1 : Int32) (k : Nat) (hk : k < 8)
    (kk : ∀ (H : Heap) (locs : List Loc) (ls : Array Slot), va_P (dC, dI) vwCl (cb_w ct ad ((cb_sZ u (suZ u a1 k)))) H → va_D A (cb_w ct ad ((cb_sZ u (suZ u a1 k)))) → va_S A s.heap H locs → lv_has ls 5 [(0, .ref (ad 0)), (1, .int (a1)), (2, .int (nI k)), (3, .int (suF u a1 k 8)), (4, .int (nI 8))] → W p l e ({ frames := 1, cells := 0, slots := 0, locals := 21 }) s m args below meth c H locs 0 0 Q (F0 m 47 ls [])) :
    ∀ (n q : Nat), q ≤ 8 → 9 ≤ q + n → ∀ (H : Heap) (locs : List Loc) (ls : Array Slot), va_P (dC, dI) vwCl (cb_w ct ad ((cb_sZ u (suZ u a1 k)))) H → va_D A (cb_w ct ad ((cb_sZ u (suZ u a1 k)))) → va_S A s.heap H locs → lv_has ls 5 [(0, .ref (ad 0)), (1, .int (a1)), (2, .int (nI k)), (3, .int (suF u a1 k q)), (4, .int (nI q))] → W p l e ({ frames := 1, cells := 0, slots := 0, locals := 21 }) s m args below meth c H locs 0 0 Q (F0 m 13 ls []) := by
  intro n
  induction n with
  | zero => intro q h1 h2; exact absurd h2 (by omega)
  | succ n ih =>
    intro q h1 h2 H locs ls hP hD hS hl
    refine lv_iload hx hb dX0_sumUp_13 (lv_at hl 4 rfl) ?_
    refine lv_bipush (v := 8) hx hb dX0_sumUp_15 (by decide) ?_
    refine lv_icmp_ge (tgt := 47) hx hb dX0_sumUp_17 (by decide) (fun c_1 => ?_) (fun c_1 => ?_)
    · have hk8 : q = 8 := Nat.le_antisymm h1 ((nI_leI (a := 8) (by decide) (by omega)).mp c_1)
      subst hk8
      exact kk H locs ls hP hD hS (lv_sub hl [0, 1, 2, 3, 4] rfl)
    · have hq : q < 8 := Nat.lt_of_not_le (fun q => c_1 (nI_le (a := 8) q (by omega)))
      refine lv_iload_n hx hb dX0_sumUp_20 rfl (lv_at hl 1 rfl) ?_
      refine lv_iload hx hb dX0_sumUp_21 (lv_at hl 4 rfl) ?_
      refine vp_callSi (W.runS (As := [.int (a1), .int (nI q)]) (rest := []) ⟨hx, hb, hml, hown, hts⟩ (metX0_speaks l a1 (nI q)) (va_cwS 2 hts gX0_sumUp_X0_speaks rfl rfl rfl (by decide +kernel) ⟨(Nat.le_of_ble_eq_true rfl), (Nat.le_of_ble_eq_true rfl)⟩) ⟨fun a U g mk q => q, fun U hU hW => ⟨rfl, trivial⟩⟩ rfl rfl hl.1 rfl (lv_room (Nat.le_of_ble_eq_true rfl)) dX0_sumUp_23 ⟨(Nat.zero_le _), (Nat.zero_le _)⟩) (fun r_2 er_2 => ?_)
      subst er_2
      refine lv_if_eq (tgt := 41) hx hb dX0_sumUp_26 (by decide) (fun c_3 => ?_) (fun c_3 => ?_)
      · refine lv_iinc (v := ((nI q) + (1 : Int32))) (lv' := [(4, .int (((nI q) + (1 : Int32)))), (0, .ref (ad 0)), (1, .int (a1)), (2, .int (nI k)), (3, .int (suF u a1 k q))]) hx hb dX0_sumUp_41 hl (k := 4) rfl rfl (by decide) rfl (fun ls hl => ?_)
        refine lv_goto (tgt := 13) hx hb dX0_sumUp_44 (by decide) ?_
        have e9 : suF u a1 k (q + 1) = suF u a1 k q := by rw [suF, if_pos c_3]
        exact ih (q + 1) (by omega) (by omega) H locs ls hP hD hS (by rw [← nI_1, e9]; exact lv_sub hl [1, 2, 3, 4, 0] rfl)
      · refine lv_iload_n hx hb dX0_sumUp_29 rfl (lv_at hl 3 rfl) ?_
        refine lv_aload_n hx hb dX0_sumUp_30 rfl (lv_at hl 0 rfl) ?_
        refine cb_get hx hb hts hin0 hown hK hP 6 (by decide) (hts (.fieldLink RX0 32 "ConferenceBridge" "voices" "[[I") (by decide +kernel)) (z := .ref (ad 6)) rfl dX0_sumUp_31 ?_
        refine lv_iload hx hb dX0_sumUp_34 (lv_at hl 4 rfl) ?_
        refine cb_aaldN hx hb hK hP 6 2 rfl rfl hq (by decide) (b := ad (25 + q)) (cb_o_at hq) dX0_sumUp_36 ?_
        refine lv_iload_n hx hb dX0_sumUp_37 rfl (lv_at hl 2 rfl) ?_
        refine cb_iald hx hb hK hP (25 + q) 0 (f := cbV u q) (cb_atV ct ad ((cb_sZ u (suZ u a1 k))) q hq) rfl hk (by decide) dX0_sumUp_38 ?_
        refine lv_iadd hx hb dX0_sumUp_39 ?_
        refine lv_istore_n (lv' := [(3, .int (((suF u a1 k q) + (cbV u q k)))), (0, .ref (ad 0)), (1, .int (a1)), (2, .int (nI k)), (4, .int (nI q))]) hx hb dX0_sumUp_40 rfl hl (by decide) rfl (fun ls hl => ?_)
        refine lv_iinc (v := ((nI q) + (1 : Int32))) (lv' := [(4, .int (((nI q) + (1 : Int32)))), (3, .int (((suF u a1 k q) + (cbV u q k)))), (0, .ref (ad 0)), (1, .int (a1)), (2, .int (nI k))]) hx hb dX0_sumUp_41 hl (k := 4) rfl rfl (by decide) rfl (fun ls hl => ?_)
        refine lv_goto (tgt := 13) hx hb dX0_sumUp_44 (by decide) ?_
        have e9 : suF u a1 k (q + 1) = ((suF u a1 k q) + (cbV u q k)) := by rw [suF, if_neg c_3]
        exact ih (q + 1) (by omega) (by omega) H locs ls hP hD hS (by rw [← nI_1, e9]; exact lv_sub hl [2, 3, 4, 1, 0] rfl)

set_option maxHeartbeats 4000000 in
set_option maxRecDepth 100000 in
theorem lpX0_sumUp_2 {p : Program} {l : Launch} {e : Env} {s : State} {m : MethodId} {args : Array Value} {below : List Frame} {meth : Method} {c : Code} {Q : State → Prop} {A : Nat → Prop} {dC : Nat → ClassId} {dI : Nat → Nat → Nat} {ct : Nat → ClassId} {ad : Nat → Nat} (hx : p.tables.exec = Jvm.exec) (hb : c.code = cX0_sumUp) (hml : c.maxLocals = 5) (hown : s.vm.findClass RX0 = some m.cls) (hts : ∀ w ∈ wsX0_sumUp, w.before args s = true) (hin0 : ∀ w ∈ u_ws RX0 TX0 9, w ∈ wsX0_sumUp) (hK : va_K (dC, dI) vwCl (cb_ty ct) s) (hA : ∀ q : Nat, s.heap.size ≤ q → A q) (u : cb_U) (a1 : Int32)
    (kk : ∀ (H : Heap) (locs : List Loc) (ls : Array Slot), va_P (dC, dI) vwCl (cb_w ct ad ((cb_sZ u (suZ u a1 8)))) H → va_D A (cb_w ct ad ((cb_sZ u (suZ u a1 8)))) → va_S A s.heap H locs → lv_has ls 5 [(0, .ref (ad 0)), (1, .int (a1)), (2, .int (nI 8))] → W p l e ({ frames := 1, cells := 0, slots := 0, locals := 21 }) s m args below meth c H locs 0 0 Q (F0 m 60 ls [])) :
    ∀ (n k : Nat), k ≤ 8 → 9 ≤ k + n → ∀ (H : Heap) (locs : List Loc) (ls : Array Slot), va_P (dC, dI) vwCl (cb_w ct ad ((cb_sZ u (suZ u a1 k)))) H → va_D A (cb_w ct ad ((cb_sZ u (suZ u a1 k)))) → va_S A s.heap H locs → lv_has ls 5 [(0, .ref (ad 0)), (1, .int (a1)), (2, .int (nI k))] → W p l e ({ frames := 1, cells := 0, slots := 0, locals := 21 }) s m args below meth c H locs 0 0 Q (F0 m 2 ls []) := by
  intro n
  induction n with
  | zero => intro k h1 h2; exact absurd h2 (by omega)
  | succ n ih =>
    intro k h1 h2 H locs ls hP hD hS hl
    refine lv_iload_n hx hb dX0_sumUp_2 rfl (lv_at hl 2 rfl) ?_
    refine lv_bipush (v := 8) hx hb dX0_sumUp_3 (by decide) ?_
    refine lv_icmp_ge (tgt := 60) hx hb dX0_sumUp_5 (by decide) (fun c_1 => ?_) (fun c_1 => ?_)
    · have hk8 : k = 8 := Nat.le_antisymm h1 ((nI_leI (a := 8) (by decide) (by omega)).mp c_1)
      subst hk8
      exact kk H locs ls hP hD hS (lv_sub hl [0, 1, 2] rfl)
    · have hk : k < 8 := Nat.lt_of_not_le (fun q => c_1 (nI_le (a := 8) q (by omega)))
      refine lv_iconst (v := 0) hx hb dX0_sumUp_8 (by decide) ?_
      refine lv_istore_n (lv' := [(3, .int (0)), (0, .ref (ad 0)), (1, .int (a1)), (2, .int (nI k))]) hx hb dX0_sumUp_9 rfl hl (by decide) rfl (fun ls hl => ?_)
      refine lv_iconst (v := 0) hx hb dX0_sumUp_10 (by decide) ?_
      refine lv_istore (lv' := [(4, .int (0)), (3, .int (0)), (0, .ref (ad 0)), (1, .int (a1)), (2, .int (nI k))]) hx hb dX0_sumUp_11 hl (by decide) rfl (fun ls hl => ?_)
      refine lpX0_sumUp_13 hx hb hml hown hts hin0 hK hA u a1 k hk (fun H locs ls hP hD hS hl => ?_) 9 0 (by decide) (by decide) _ _ ls hP hD hS (lv_sub hl [2, 3, 4, 1, 0] rfl)
      refine lv_aload_n hx hb dX0_sumUp_47 rfl (lv_at hl 0 rfl) ?_
      refine cb_get hx hb hts hin0 hown hK hP 8 (by decide) (hts (.fieldLink RX0 39 "ConferenceBridge" "sums" "[I") (by decide +kernel)) (z := .ref (ad 8)) rfl dX0_sumUp_48 ?_
      refine lv_iload_n hx hb dX0_sumUp_51 rfl (lv_at hl 2 rfl) ?_
      refine lv_iload_n hx hb dX0_sumUp_52 rfl (lv_at hl 3 rfl) ?_
      refine cb_iast hx hb hK hP hD hS 8 0 (f := suZ u a1 k) rfl rfl hk (by decide) (ws1 := cb_w ct ad ((cb_sZ u (upd (suZ u a1 k) k (suF u a1 k 8))))) rfl dX0_sumUp_53 (fun H locs hP hD hS => ?_)
      have hP : va_P (dC, dI) vwCl (cb_w ct ad ((cb_sZ u (upd (suZ u a1 k) k (suF u a1 k 8))))) H := hP
      have hD : va_D A (cb_w ct ad ((cb_sZ u (upd (suZ u a1 k) k (suF u a1 k 8))))) := hD
      refine lv_iinc (v := ((nI k) + (1 : Int32))) (lv' := [(2, .int (((nI k) + (1 : Int32)))), (0, .ref (ad 0)), (1, .int (a1)), (3, .int (suF u a1 k 8)), (4, .int (nI 8))]) hx hb dX0_sumUp_54 hl (k := 2) rfl rfl (by decide) rfl (fun ls hl => ?_)
      refine lv_goto (tgt := 2) hx hb dX0_sumUp_57 (by decide) ?_
      exact ih (k + 1) (by omega) (by omega) H locs ls hP hD hS (by rw [← nI_1]; exact lv_sub hl [1, 2, 0] rfl)

set_option maxHeartbeats 4000000 in
set_option maxRecDepth 100000 in
theorem metX0_sumUp (l : Launch) (dC : Nat → ClassId) (dI : Nat → Nat → Nat) (ct : Nat → ClassId) (ad : Nat → Nat) (sz : Nat) (u : cb_U) (a1 : Int32) : Met l yX0_sumUp wsX0_sumUp ({ frames := 1, cells := 0, slots := 0, locals := 21 }) (va_Pc [.ref (ad 0), .int (a1)] (fun U => U.heap.size = sz ∧ cb_B dC dI ct ad (fun _ => True) u U)) (va_Qv (fun (_ : Unit) => True) (fun _ => cb_B dC dI ct ad (va_A (cb_w ct ad u) sz) (cbSumUp u a1)) (va_A (cb_w ct ad u) sz)) 0 0 (va_A (cb_w ct ad u) sz) := by
  refine Met.ofW (cc := cX0_sumUp) (maxL := 5) (ret := none) (by decide) rfl ?_
  intro p e s m args below meth c s₁ B hml hv
  obtain ⟨rfl, hsz, hP, hK, hD0⟩ := hv
  have hx := B.exec
  have hb := B.bytes
  have hr := B.returns
  have hts := atoms_spec (ws := wsX0_sumUp) B.pre
  have hown : s.vm.findClass RX0 = some m.cls := findClass_of_methodNamed B.named
  have hlocks := B.notSynchronized
  have hin0 : ∀ w ∈ u_ws RX0 TX0 9, w ∈ wsX0_sumUp := by decide +kernel
  subst hsz
  have hD := hD0.self (sz := s.heap.size)
  generalize hAe : va_A (cb_w ct ad u) s.heap.size = A at hD ⊢
  have hA : ∀ q : Nat, s.heap.size ≤ q → A q := fun q h => by rw [← hAe]; exact Or.inr h
  have hS : va_S A s.heap s.heap [] := va_S.rf
  have hl := lv_entry ([.ref (ad 0), .int (a1)]) (n := 5) (Nat.le_of_ble_eq_true rfl)
  rw [lg_entry_eq]
  generalize (lg_sl ([.ref (ad 0), .int (a1)]) ++ List.replicate (5 - (lg_sl ([.ref (ad 0), .int (a1)])).length) Slot.unset).toArray = ls at hl ⊢
  have hl : lv_has ls 5 [(0, .ref (ad 0)), (1, .int (a1))] := hl
  refine lv_iconst (v := 0) hx hb dX0_sumUp_0 (by decide) ?_
  refine lv_istore_n (lv' := [(2, .int (0)), (0, .ref (ad 0)), (1, .int (a1))]) hx hb dX0_sumUp_1 rfl hl (by decide) rfl (fun ls hl => ?_)
  refine lpX0_sumUp_2 hx hb hml hown hts hin0 hK hA u a1 (fun H locs ls hP hD hS hl => ?_) 9 0 (by decide) (by decide) _ _ ls hP hD hS (lv_sub hl [1, 2, 0] rfl)
  have e9 : cbSumUp u a1 = (cb_sZ u (suZ u a1 8)) := rfl
  exact W.vret hx hb hr (fun t ht hW => ⟨⟨(), rfl, trivial, by rw [ht, e9]; exact hP, va_K.moved hW.alike hK, by rw [e9]; exact hD⟩, hS.F ht⟩) hS.2.2 dX0_sumUp_60

set_option maxHeartbeats 4000000 in
set_option maxRecDepth 100000 in
theorem lpX0_answer_2 {p : Program} {l : Launch} {e : Env} {s : State} {m : MethodId} {args : Array Value} {below : List Frame} {meth : Method} {c : Code} {Q : State → Prop} {A : Nat → Prop} {dC : Nat → ClassId} {dI : Nat → Nat → Nat} {ct : Nat → ClassId} {ad : Nat → Nat} (hx : p.tables.exec = Jvm.exec) (hb : c.code = cX0_answer) (hml : c.maxLocals = 5) (hown : s.vm.findClass RX0 = some m.cls) (hts : ∀ w ∈ wsX0_answer, w.before args s = true) (hin0 : ∀ w ∈ u_ws RX0 TX0 9, w ∈ wsX0_answer) (hK : va_K (dC, dI) vwCl (cb_ty ct) s) (hA : ∀ q : Nat, s.heap.size ≤ q → A q) (u : cb_U) (j : Nat) (hj : j < 8) (a2 : Int32)
    (kk : ∀ (H : Heap) (locs : List Loc) (ls : Array Slot), va_P (dC, dI) vwCl (cb_w ct ad ((cb_sO u (anO u j a2 8)))) H → va_D A (cb_w ct ad ((cb_sO u (anO u j a2 8)))) → va_S A s.heap H locs → lv_has ls 5 [(0, .ref (ad 0)), (1, .int (nI j)), (2, .int (a2)), (3, .int (nI 8))] → W p l e ({ frames := 4, cells := 0, slots := 0, locals := 86 }) s m args below meth c H locs 0 0 Q (F0 m 67 ls [])) :
    ∀ (n k : Nat), k ≤ 8 → 9 ≤ k + n → ∀ (H : Heap) (locs : List Loc) (ls : Array Slot), va_P (dC, dI) vwCl (cb_w ct ad ((cb_sO u (anO u j a2 k)))) H → va_D A (cb_w ct ad ((cb_sO u (anO u j a2 k)))) → va_S A s.heap H locs → lv_has ls 5 [(0, .ref (ad 0)), (1, .int (nI j)), (2, .int (a2)), (3, .int (nI k))] → W p l e ({ frames := 4, cells := 0, slots := 0, locals := 86 }) s m args below meth c H locs 0 0 Q (F0 m 2 ls []) := by
  intro n
  induction n with
  | zero => intro k h1 h2; exact absurd h2 (by omega)
  | succ n ih =>
    intro k h1 h2 H locs ls hP hD hS hl
    refine lv_iload_n hx hb dX0_answer_2 rfl (lv_at hl 3 rfl) ?_
    refine lv_bipush (v := 8) hx hb dX0_answer_3 (by decide) ?_
    refine lv_icmp_ge (tgt := 67) hx hb dX0_answer_5 (by decide) (fun c_1 => ?_) (fun c_1 => ?_)
    · have hk8 : k = 8 := Nat.le_antisymm h1 ((nI_leI (a := 8) (by decide) (by omega)).mp c_1)
      subst hk8
      exact kk H locs ls hP hD hS (lv_sub hl [0, 1, 2, 3] rfl)
    · have hk : k < 8 := Nat.lt_of_not_le (fun q => c_1 (nI_le (a := 8) q (by omega)))
      refine lv_iload_n hx hb dX0_answer_8 rfl (lv_at hl 2 rfl) ?_
      refine lv_if_eq (tgt := 30) hx hb dX0_answer_9 (by decide) (fun c_2 => ?_) (fun c_2 => ?_)
      · refine lv_aload_n hx hb dX0_answer_30 rfl (lv_at hl 0 rfl) ?_
        refine cb_get hx hb hts hin0 hown hK hP 8 (by decide) (hts (.fieldLink RX0 39 "ConferenceBridge" "sums" "[I") (by decide +kernel)) (z := .ref (ad 8)) rfl dX0_answer_31 ?_
        refine lv_iload_n hx hb dX0_answer_34 rfl (lv_at hl 3 rfl) ?_
        refine cb_iald hx hb hK hP 8 0 (f := cbZ u) rfl rfl hk (by decide) dX0_answer_35 ?_
        refine lv_istore (lv' := [(4, .int ((cbZ u k))), (0, .ref (ad 0)), (1, .int (nI j)), (2, .int (a2)), (3, .int (nI k))]) hx hb dX0_answer_36 hl (by decide) rfl (fun ls hl => ?_)
        refine lv_aload_n hx hb dX0_answer_38 rfl (lv_at hl 1 rfl) ?_
        refine cb_get hx hb hts hin0 hown hK hP 4 (by decide) (hts (.fieldLink RX0 25 "ConferenceBridge" "going" "[[I") (by decide +kernel)) (z := .ref (ad 5)) rfl dX0_answer_39 ?_
        refine lv_iload_n hx hb dX0_answer_42 rfl (lv_at hl 2 rfl) ?_
        refine cb_aaldN hx hb hK hP 5 2 rfl rfl hj (by decide) (b := ad (17 + j)) (cb_o_at hj) dX0_answer_43 ?_
        refine lv_iload_n hx hb dX0_answer_44 rfl (lv_at hl 4 rfl) ?_
        refine lv_aload_n hx hb dX0_answer_45 rfl (lv_at hl 1 rfl) ?_
        refine cb_get hx hb hts hin0 hown hK hP 0 (by decide) (hts (.fieldLink RX0 9 "ConferenceBridge" "laws" "[I") (by decide +kernel)) (z := .ref (ad 1)) rfl dX0_answer_46 ?_
        refine lv_iload_n hx hb dX0_answer_49 rfl (lv_at hl 2 rfl) ?_
        refine cb_iald hx hb hK hP 1 0 (f := cbL u) rfl rfl hj (by decide) dX0_answer_50 ?_
        refine lv_iload hx hb dX0_answer_51 (lv_at hl 0 rfl) ?_
        refine lv_i2l (v := (cbZ u k).toInt64) hx hb dX0_answer_53 rfl ?_
        refine vp_callSi (W.runS (As := [.long ((cbZ u k).toInt64)]) (rest := [.int ((cbL u j)), .int (nI k), .ref (ad (17 + j))]) ⟨hx, hb, hml, hown, hts⟩ (metX0_saturated l ((cbZ u k).toInt64)) (va_cwS 1 hts gX0_answer_X0_saturated rfl rfl rfl (by decide +kernel) ⟨(Nat.le_of_ble_eq_true rfl), (Nat.le_of_ble_eq_true rfl)⟩) ⟨fun a U g mk q => q, fun U hU hW => ⟨rfl, trivial⟩⟩ rfl rfl hl.1 rfl (lv_room (Nat.le_of_ble_eq_true rfl)) dX0_answer_54 ⟨(Nat.zero_le _), (Nat.zero_le _)⟩) (fun r_3 er_3 => ?_)
        subst er_3
        refine vp_callSi (W.runS (As := [.int ((cbL u j)), .int ((fnX0_saturated ((cbZ u k).toInt64)))]) (rest := [.int (nI k), .ref (ad (17 + j))]) ⟨hx, hb, hml, hown, hts⟩ (metX0_codeOf l (cbL u j) (fnX0_saturated ((cbZ u k).toInt64))) (va_cwS 2 hts gX0_answer_X0_codeOf rfl rfl rfl (by decide +kernel) ⟨(Nat.le_of_ble_eq_true rfl), (Nat.le_of_ble_eq_true rfl)⟩) ⟨fun a U g mk q => q, fun U hU hW => ⟨rfl, trivial⟩⟩ rfl rfl hl.1 rfl (lv_room (Nat.le_of_ble_eq_true rfl)) dX0_answer_57 ⟨(Nat.zero_le _), (Nat.zero_le _)⟩) (fun r_4 er_4 => ?_)
        subst er_4
        refine cb_iast hx hb hK hP hD hS (17 + j) 0 (f := (anO u j a2 k) j) (cb_atO ct ad ((cb_sO u (anO u j a2 k))) j hj) rfl hk (by decide) (cb_putO ct ad ((cb_sO u (anO u j a2 k))) _ j hj) dX0_answer_60 (fun H locs hP hD hS => ?_)
        have hP : va_P (dC, dI) vwCl (cb_w ct ad ((cb_sO u (va_up (anO u j a2 k) j (upd ((anO u j a2 k) j) k (fnX0_codeOf (cbL u j) (fnX0_saturated ((cbZ u k).toInt64)))))))) H := hP
        have hD : va_D A (cb_w ct ad ((cb_sO u (va_up (anO u j a2 k) j (upd ((anO u j a2 k) j) k (fnX0_codeOf (cbL u j) (fnX0_saturated ((cbZ u k).toInt64)))))))) := hD
        refine lv_iinc (v := ((nI k) + (1 : Int32))) (lv' := [(3, .int (((nI k) + (1 : Int32)))), (4, .int ((cbZ u k))), (0, .ref (ad 0)), (1, .int (nI j)), (2, .int (a2))]) hx hb dX0_answer_61 hl (k := 4) rfl rfl (by decide) rfl (fun ls hl => ?_)
        refine lv_goto (tgt := 2) hx hb dX0_answer_64 (by decide) ?_
        have e8 : anO u j a2 (k + 1) = va_up (anO u j a2 k) j (upd ((anO u j a2 k) j) k (fnX0_codeOf (cbL u j) (fnX0_saturated ((cbZ u k).toInt64)))) := by rw [anO, cbAns, if_pos c_2]
        have hP : va_P (dC, dI) vwCl (cb_w ct ad ((cb_sO u (anO u j a2 (k + 1))))) H := by rw [e8]; exact hP
        have hD : va_D A (cb_w ct ad ((cb_sO u (anO u j a2 (k + 1))))) := by rw [e8]; exact hD
        exact ih (k + 1) (by omega) (by omega) H locs ls hP hD hS (by rw [← nI_1]; exact lv_sub hl [2, 3, 4, 0] rfl)
      · refine lv_aload_n hx hb dX0_answer_12 rfl (lv_at hl 0 rfl) ?_
        refine cb_get hx hb hts hin0 hown hK hP 8 (by decide) (hts (.fieldLink RX0 39 "ConferenceBridge" "sums" "[I") (by decide +kernel)) (z := .ref (ad 8)) rfl dX0_answer_13 ?_
        refine lv_iload_n hx hb dX0_answer_16 rfl (lv_at hl 3 rfl) ?_
        refine cb_iald hx hb hK hP 8 0 (f := cbZ u) rfl rfl hk (by decide) dX0_answer_17 ?_
        refine lv_aload_n hx hb dX0_answer_18 rfl (lv_at hl 0 rfl) ?_
        refine cb_get hx hb hts hin0 hown hK hP 6 (by decide) (hts (.fieldLink RX0 32 "ConferenceBridge" "voices" "[[I") (by decide +kernel)) (z := .ref (ad 6)) rfl dX0_answer_19 ?_
        refine lv_iload_n hx hb dX0_answer_22 rfl (lv_at hl 1 rfl) ?_
        refine cb_aaldN hx hb hK hP 6 2 rfl rfl hj (by decide) (b := ad (25 + j)) (cb_o_at hj) dX0_answer_23 ?_
        refine lv_iload_n hx hb dX0_answer_24 rfl (lv_at hl 3 rfl) ?_
        refine cb_iald hx hb hK hP (25 + j) 0 (f := cbV u j) (cb_atV ct ad ((cb_sO u (anO u j a2 k))) j hj) rfl hk (by decide) dX0_answer_25 ?_
        refine lv_isub hx hb dX0_answer_26 ?_
        refine lv_goto (tgt := 36) hx hb dX0_answer_27 (by decide) ?_
        refine lv_istore (lv' := [(4, .int (((cbZ u k) - (cbV u j k)))), (0, .ref (ad 0)), (1, .int (nI j)), (2, .int (a2)), (3, .int (nI k))]) hx hb dX0_answer_36 hl (by decide) rfl (fun ls hl => ?_)
        refine lv_aload_n hx hb dX0_answer_38 rfl (lv_at hl 1 rfl) ?_
        refine cb_get hx hb hts hin0 hown hK hP 4 (by decide) (hts (.fieldLink RX0 25 "ConferenceBridge" "going" "[[I") (by decide +kernel)) (z := .ref (ad 5)) rfl dX0_answer_39 ?_
        refine lv_iload_n hx hb dX0_answer_42 rfl (lv_at hl 2 rfl) ?_
        refine cb_aaldN hx hb hK hP 5 2 rfl rfl hj (by decide) (b := ad (17 + j)) (cb_o_at hj) dX0_answer_43 ?_
        refine lv_iload_n hx hb dX0_answer_44 rfl (lv_at hl 4 rfl) ?_
        refine lv_aload_n hx hb dX0_answer_45 rfl (lv_at hl 1 rfl) ?_
        refine cb_get hx hb hts hin0 hown hK hP 0 (by decide) (hts (.fieldLink RX0 9 "ConferenceBridge" "laws" "[I") (by decide +kernel)) (z := .ref (ad 1)) rfl dX0_answer_46 ?_
        refine lv_iload_n hx hb dX0_answer_49 rfl (lv_at hl 2 rfl) ?_
        refine cb_iald hx hb hK hP 1 0 (f := cbL u) rfl rfl hj (by decide) dX0_answer_50 ?_
        refine lv_iload hx hb dX0_answer_51 (lv_at hl 0 rfl) ?_
        refine lv_i2l (v := ((cbZ u k) - (cbV u j k)).toInt64) hx hb dX0_answer_53 rfl ?_
        refine vp_callSi (W.runS (As := [.long (((cbZ u k) - (cbV u j k)).toInt64)]) (rest := [.int ((cbL u j)), .int (nI k), .ref (ad (17 + j))]) ⟨hx, hb, hml, hown, hts⟩ (metX0_saturated l (((cbZ u k) - (cbV u j k)).toInt64)) (va_cwS 1 hts gX0_answer_X0_saturated rfl rfl rfl (by decide +kernel) ⟨(Nat.le_of_ble_eq_true rfl), (Nat.le_of_ble_eq_true rfl)⟩) ⟨fun a U g mk q => q, fun U hU hW => ⟨rfl, trivial⟩⟩ rfl rfl hl.1 rfl (lv_room (Nat.le_of_ble_eq_true rfl)) dX0_answer_54 ⟨(Nat.zero_le _), (Nat.zero_le _)⟩) (fun r_5 er_5 => ?_)
        subst er_5
        refine vp_callSi (W.runS (As := [.int ((cbL u j)), .int ((fnX0_saturated (((cbZ u k) - (cbV u j k)).toInt64)))]) (rest := [.int (nI k), .ref (ad (17 + j))]) ⟨hx, hb, hml, hown, hts⟩ (metX0_codeOf l (cbL u j) (fnX0_saturated (((cbZ u k) - (cbV u j k)).toInt64))) (va_cwS 2 hts gX0_answer_X0_codeOf rfl rfl rfl (by decide +kernel) ⟨(Nat.le_of_ble_eq_true rfl), (Nat.le_of_ble_eq_true rfl)⟩) ⟨fun a U g mk q => q, fun U hU hW => ⟨rfl, trivial⟩⟩ rfl rfl hl.1 rfl (lv_room (Nat.le_of_ble_eq_true rfl)) dX0_answer_57 ⟨(Nat.zero_le _), (Nat.zero_le _)⟩) (fun r_6 er_6 => ?_)
        subst er_6
        refine cb_iast hx hb hK hP hD hS (17 + j) 0 (f := (anO u j a2 k) j) (cb_atO ct ad ((cb_sO u (anO u j a2 k))) j hj) rfl hk (by decide) (cb_putO ct ad ((cb_sO u (anO u j a2 k))) _ j hj) dX0_answer_60 (fun H locs hP hD hS => ?_)
        have hP : va_P (dC, dI) vwCl (cb_w ct ad ((cb_sO u (va_up (anO u j a2 k) j (upd ((anO u j a2 k) j) k (fnX0_codeOf (cbL u j) (fnX0_saturated (((cbZ u k) - (cbV u j k)).toInt64)))))))) H := hP
        have hD : va_D A (cb_w ct ad ((cb_sO u (va_up (anO u j a2 k) j (upd ((anO u j a2 k) j) k (fnX0_codeOf (cbL u j) (fnX0_saturated (((cbZ u k) - (cbV u j k)).toInt64)))))))) := hD
        refine lv_iinc (v := ((nI k) + (1 : Int32))) (lv' := [(3, .int (((nI k) + (1 : Int32)))), (4, .int (((cbZ u k) - (cbV u j k)))), (0, .ref (ad 0)), (1, .int (nI j)), (2, .int (a2))]) hx hb dX0_answer_61 hl (k := 4) rfl rfl (by decide) rfl (fun ls hl => ?_)
        refine lv_goto (tgt := 2) hx hb dX0_answer_64 (by decide) ?_
        have e8 : anO u j a2 (k + 1) = va_up (anO u j a2 k) j (upd ((anO u j a2 k) j) k (fnX0_codeOf (cbL u j) (fnX0_saturated (((cbZ u k) - (cbV u j k)).toInt64)))) := by rw [anO, cbAns, if_neg c_2]
        have hP : va_P (dC, dI) vwCl (cb_w ct ad ((cb_sO u (anO u j a2 (k + 1))))) H := by rw [e8]; exact hP
        have hD : va_D A (cb_w ct ad ((cb_sO u (anO u j a2 (k + 1))))) := by rw [e8]; exact hD
        exact ih (k + 1) (by omega) (by omega) H locs ls hP hD hS (by rw [← nI_1]; exact lv_sub hl [2, 3, 4, 0] rfl)

set_option maxHeartbeats 4000000 in
set_option maxRecDepth 100000 in
theorem metX0_answer (l : Launch) (dC : Nat → ClassId) (dI : Nat → Nat → Nat) (ct : Nat → ClassId) (ad : Nat → Nat) (sz : Nat) (u : cb_U) (j : Nat) (hj : j < 8) (a2 : Int32) : Met l yX0_answer wsX0_answer ({ frames := 4, cells := 0, slots := 0, locals := 86 }) (va_Pc [.ref (ad 0), .int (nI j), .int (a2)] (fun U => U.heap.size = sz ∧ cb_B dC dI ct ad (fun _ => True) u U)) (va_Qv (fun (_ : Unit) => True) (fun _ => cb_B dC dI ct ad (va_A (cb_w ct ad u) sz) (cbAnswer u j a2)) (va_A (cb_w ct ad u) sz)) 0 0 (va_A (cb_w ct ad u) sz) := by
  refine Met.ofW (cc := cX0_answer) (maxL := 5) (ret := none) (by decide) rfl ?_
  intro p e s m args below meth c s₁ B hml hv
  obtain ⟨rfl, hsz, hP, hK, hD0⟩ := hv
  have hx := B.exec
  have hb := B.bytes
  have hr := B.returns
  have hts := atoms_spec (ws := wsX0_answer) B.pre
  have hown : s.vm.findClass RX0 = some m.cls := findClass_of_methodNamed B.named
  have hlocks := B.notSynchronized
  have hin0 : ∀ w ∈ u_ws RX0 TX0 9, w ∈ wsX0_answer := by decide +kernel
  subst hsz
  have hD := hD0.self (sz := s.heap.size)
  generalize hAe : va_A (cb_w ct ad u) s.heap.size = A at hD ⊢
  have hA : ∀ q : Nat, s.heap.size ≤ q → A q := fun q h => by rw [← hAe]; exact Or.inr h
  have hS : va_S A s.heap s.heap [] := va_S.rf
  have hl := lv_entry ([.ref (ad 0), .int (nI j), .int (a2)]) (n := 5) (Nat.le_of_ble_eq_true rfl)
  rw [lg_entry_eq]
  generalize (lg_sl ([.ref (ad 0), .int (nI j), .int (a2)]) ++ List.replicate (5 - (lg_sl ([.ref (ad 0), .int (nI j), .int (a2)])).length) Slot.unset).toArray = ls at hl ⊢
  have hl : lv_has ls 5 [(0, .ref (ad 0)), (1, .int (nI j)), (2, .int (a2))] := hl
  refine lv_iconst (v := 0) hx hb dX0_answer_0 (by decide) ?_
  refine lv_istore_n (lv' := [(3, .int (0)), (0, .ref (ad 0)), (1, .int (nI j)), (2, .int (a2))]) hx hb dX0_answer_1 rfl hl (by decide) rfl (fun ls hl => ?_)
  refine lpX0_answer_2 hx hb hml hown hts hin0 hK hA u j hj a2 (fun H locs ls hP hD hS hl => ?_) 9 0 (by decide) (by decide) _ _ ls hP hD hS (lv_sub hl [1, 2, 3, 0] rfl)
  have e9 : cbAnswer u j a2 = (cb_sO u (anO u j a2 8)) := rfl
  exact W.vret hx hb hr (fun t ht hW => ⟨⟨(), rfl, trivial, by rw [ht, e9]; exact hP, va_K.moved hW.alike hK, by rw [e9]; exact hD⟩, hS.F ht⟩) hS.2.2 dX0_answer_67

set_option maxHeartbeats 4000000 in
set_option maxRecDepth 100000 in
theorem lpX0_mix_2 {p : Program} {l : Launch} {e : Env} {s : State} {m : MethodId} {args : Array Value} {below : List Frame} {meth : Method} {c : Code} {Q : State → Prop} {A : Nat → Prop} {dC : Nat → ClassId} {dI : Nat → Nat → Nat} {ct : Nat → ClassId} {ad : Nat → Nat} (hx : p.tables.exec = Jvm.exec) (hb : c.code = cX0_mix) (hml : c.maxLocals = 3) (hown : s.vm.findClass RX0 = some m.cls) (hts : ∀ w ∈ wsX0_mix, w.before args s = true) (hin0 : ∀ w ∈ u_ws RX0 TX0 9, w ∈ wsX0_mix) (hK : va_K (dC, dI) vwCl (cb_ty ct) s) (hA : ∀ q : Nat, s.heap.size ≤ q → A q) (u : cb_U)
    (kk : ∀ (H : Heap) (locs : List Loc) (ls : Array Slot), va_P (dC, dI) vwCl (cb_w ct ad ((mxH u 8))) H → va_D A (cb_w ct ad ((mxH u 8))) → va_S A s.heap H locs → lv_has ls 3 [(0, .ref (ad 0)), (1, .int (nI 8))] → W p l e ({ frames := 5, cells := 0, slots := 0, locals := 110 }) s m args below meth c H locs 0 0 Q (F0 m 19 ls [])) :
    ∀ (n k : Nat), k ≤ 8 → 9 ≤ k + n → ∀ (H : Heap) (locs : List Loc) (ls : Array Slot), va_P (dC, dI) vwCl (cb_w ct ad ((mxH u k))) H → va_D A (cb_w ct ad ((mxH u k))) → va_S A s.heap H locs → lv_has ls 3 [(0, .ref (ad 0)), (1, .int (nI k))] → W p l e ({ frames := 5, cells := 0, slots := 0, locals := 110 }) s m args below meth c H locs 0 0 Q (F0 m 2 ls []) := by
  intro n
  induction n with
  | zero => intro k h1 h2; exact absurd h2 (by omega)
  | succ n ih =>
    intro k h1 h2 H locs ls hP hD hS hl
    refine lv_iload_n hx hb dX0_mix_2 rfl (lv_at hl 1 rfl) ?_
    refine lv_bipush (v := 8) hx hb dX0_mix_3 (by decide) ?_
    refine lv_icmp_ge (tgt := 19) hx hb dX0_mix_5 (by decide) (fun c_1 => ?_) (fun c_1 => ?_)
    · have hk8 : k = 8 := Nat.le_antisymm h1 ((nI_leI (a := 8) (by decide) (by omega)).mp c_1)
      subst hk8
      exact kk H locs ls hP hD hS (lv_sub hl [0, 1] rfl)
    · have hk : k < 8 := Nat.lt_of_not_le (fun q => c_1 (nI_le (a := 8) q (by omega)))
      refine lv_aload_n hx hb dX0_mix_8 rfl (lv_at hl 0 rfl) ?_
      refine lv_iload_n hx hb dX0_mix_9 rfl (lv_at hl 1 rfl) ?_
      have hFc := cb_free hD hS hA
      refine va_callv (va_runV (As := [.int (nI k)]) (rest := []) ⟨hx, hb, hml, hown, hts⟩ (metX0_hear l dC dI ct ad H.size ((mxH u k)) k hk) (cwV 1 hts gX0_mix_X0_hear rfl rfl rfl (by decide +kernel) ⟨(Nat.le_of_ble_eq_true rfl), (Nat.le_of_ble_eq_true rfl)⟩) ⟨fun a U g mk q => by obtain ⟨q0, q1, qP, qK, qD⟩ := q; exact ⟨q0, q1, qP, va_K.moved (u := U) (U := U.calling g mk a) (Vm.Alike.refl U.vm) qK, qD⟩, va_recv hK hP (ci := 0) (q0 := 0) rfl rfl, fun U hU hW => ⟨rfl, by rw [hU], by rw [hU]; exact hP, va_K.moved hW.alike hK, hD.weaken (fun _ _ _ _ => trivial)⟩⟩ rfl rfl hl.1 rfl (lv_room (Nat.le_of_ble_eq_true rfl)) dX0_mix_10 ⟨(Nat.zero_le _), (Nat.zero_le _)⟩) hS (fun q _ h => hFc q h) hFc (fun u9 t9 H1 locs ht9 hvm hw9 hB hz1 hk1 hS => ?_)
      obtain ⟨hP1, -, hD1⟩ := hB
      rw [ht9] at hP1
      generalize H1 = H at hP1 hS ⊢
      have hP : va_P (dC, dI) vwCl (cb_w ct ad ((cbHear ((mxH u k)) k))) H := hP1
      have hD : va_D A (cb_w ct ad ((cbHear ((mxH u k)) k))) := hD1.weaken (fun _ _ _ h => hFc _ h)
      refine lv_iinc (v := ((nI k) + (1 : Int32))) (lv' := [(1, .int (((nI k) + (1 : Int32)))), (0, .ref (ad 0))]) hx hb dX0_mix_13 hl (k := 1) rfl rfl (by decide) rfl (fun ls hl => ?_)
      refine lv_goto (tgt := 2) hx hb dX0_mix_16 (by decide) ?_
      exact ih (k + 1) (by omega) (by omega) H locs ls hP hD hS (by rw [← nI_1]; exact lv_sub hl [1, 0] rfl)

set_option maxHeartbeats 4000000 in
set_option maxRecDepth 100000 in
theorem lpX0_mix_31 {p : Program} {l : Launch} {e : Env} {s : State} {m : MethodId} {args : Array Value} {below : List Frame} {meth : Method} {c : Code} {Q : State → Prop} {A : Nat → Prop} {dC : Nat → ClassId} {dI : Nat → Nat → Nat} {ct : Nat → ClassId} {ad : Nat → Nat} (hx : p.tables.exec = Jvm.exec) (hb : c.code = cX0_mix) (hml : c.maxLocals = 3) (hown : s.vm.findClass RX0 = some m.cls) (hts : ∀ w ∈ wsX0_mix, w.before args s = true) (hin0 : ∀ w ∈ u_ws RX0 TX0 9, w ∈ wsX0_mix) (hK : va_K (dC, dI) vwCl (cb_ty ct) s) (hA : ∀ q : Nat, s.heap.size ≤ q → A q) (u : cb_U) (a1 : Int32)
    (kk : ∀ (H : Heap) (locs : List Loc) (ls : Array Slot), va_P (dC, dI) vwCl (cb_w ct ad ((mxA u a1 8))) H → va_D A (cb_w ct ad ((mxA u a1 8))) → va_S A s.heap H locs → lv_has ls 3 [(0, .ref (ad 0)), (1, .int (a1)), (2, .int (nI 8))] → W p l e ({ frames := 5, cells := 0, slots := 0, locals := 110 }) s m args below meth c H locs 0 0 Q (F0 m 53 ls [])) :
    ∀ (n k : Nat), k ≤ 8 → 9 ≤ k + n → ∀ (H : Heap) (locs : List Loc) (ls : Array Slot), va_P (dC, dI) vwCl (cb_w ct ad ((mxA u a1 k))) H → va_D A (cb_w ct ad ((mxA u a1 k))) → va_S A s.heap H locs → lv_has ls 3 [(0, .ref (ad 0)), (1, .int (a1)), (2, .int (nI k))] → W p l e ({ frames := 5, cells := 0, slots := 0, locals := 110 }) s m args below meth c H locs 0 0 Q (F0 m 31 ls []) := by
  intro n
  induction n with
  | zero => intro k h1 h2; exact absurd h2 (by omega)
  | succ n ih =>
    intro k h1 h2 H locs ls hP hD hS hl
    refine lv_iload_n hx hb dX0_mix_31 rfl (lv_at hl 2 rfl) ?_
    refine lv_bipush (v := 8) hx hb dX0_mix_32 (by decide) ?_
    refine lv_icmp_ge (tgt := 53) hx hb dX0_mix_34 (by decide) (fun c_1 => ?_) (fun c_1 => ?_)
    · have hk8 : k = 8 := Nat.le_antisymm h1 ((nI_leI (a := 8) (by decide) (by omega)).mp c_1)
      subst hk8
      exact kk H locs ls hP hD hS (lv_sub hl [0, 1, 2] rfl)
    · have hk : k < 8 := Nat.lt_of_not_le (fun q => c_1 (nI_le (a := 8) q (by omega)))
      refine lv_aload_n hx hb dX0_mix_37 rfl (lv_at hl 0 rfl) ?_
      refine lv_iload_n hx hb dX0_mix_38 rfl (lv_at hl 2 rfl) ?_
      refine lv_iload_n hx hb dX0_mix_39 rfl (lv_at hl 1 rfl) ?_
      refine lv_iload_n hx hb dX0_mix_40 rfl (lv_at hl 2 rfl) ?_
      refine vp_callSi (W.runS (As := [.int (a1), .int (nI k)]) (rest := [.int (nI k), .ref (ad 0)]) ⟨hx, hb, hml, hown, hts⟩ (metX0_speaks l a1 (nI k)) (va_cwS 2 hts gX0_mix_X0_speaks rfl rfl rfl (by decide +kernel) ⟨(Nat.le_of_ble_eq_true rfl), (Nat.le_of_ble_eq_true rfl)⟩) ⟨fun a U g mk q => q, fun U hU hW => ⟨rfl, trivial⟩⟩ rfl rfl hl.1 rfl (lv_room (Nat.le_of_ble_eq_true rfl)) dX0_mix_41 ⟨(Nat.zero_le _), (Nat.zero_le _)⟩) (fun r_2 er_2 => ?_)
      subst er_2
      have hFc := cb_free hD hS hA
      refine va_callv (va_runV (As := [.int (nI k), .int ((fnX0_speaks a1 (nI k)))]) (rest := []) ⟨hx, hb, hml, hown, hts⟩ (metX0_answer l dC dI ct ad H.size ((mxA u a1 k)) k hk (fnX0_speaks a1 (nI k))) (cwV 2 hts gX0_mix_X0_answer rfl rfl rfl (by decide +kernel) ⟨(Nat.le_of_ble_eq_true rfl), (Nat.le_of_ble_eq_true rfl)⟩) ⟨fun a U g mk q => by obtain ⟨q0, q1, qP, qK, qD⟩ := q; exact ⟨q0, q1, qP, va_K.moved (u := U) (U := U.calling g mk a) (Vm.Alike.refl U.vm) qK, qD⟩, va_recv hK hP (ci := 0) (q0 := 0) rfl rfl, fun U hU hW => ⟨rfl, by rw [hU], by rw [hU]; exact hP, va_K.moved hW.alike hK, hD.weaken (fun _ _ _ _ => trivial)⟩⟩ rfl rfl hl.1 rfl (lv_room (Nat.le_of_ble_eq_true rfl)) dX0_mix_44 ⟨(Nat.zero_le _), (Nat.zero_le _)⟩) hS (fun q _ h => hFc q h) hFc (fun u9 t9 H1 locs ht9 hvm hw9 hB hz1 hk1 hS => ?_)
      obtain ⟨hP1, -, hD1⟩ := hB
      rw [ht9] at hP1
      generalize H1 = H at hP1 hS ⊢
      have hP : va_P (dC, dI) vwCl (cb_w ct ad ((cbAnswer ((mxA u a1 k)) k (fnX0_speaks a1 (nI k))))) H := hP1
      have hD : va_D A (cb_w ct ad ((cbAnswer ((mxA u a1 k)) k (fnX0_speaks a1 (nI k))))) := hD1.weaken (fun _ _ _ h => hFc _ h)
      refine lv_iinc (v := ((nI k) + (1 : Int32))) (lv' := [(2, .int (((nI k) + (1 : Int32)))), (0, .ref (ad 0)), (1, .int (a1))]) hx hb dX0_mix_47 hl (k := 2) rfl rfl (by decide) rfl (fun ls hl => ?_)
      refine lv_goto (tgt := 31) hx hb dX0_mix_50 (by decide) ?_
      exact ih (k + 1) (by omega) (by omega) H locs ls hP hD hS (by rw [← nI_1]; exact lv_sub hl [1, 2, 0] rfl)

set_option maxHeartbeats 4000000 in
set_option maxRecDepth 100000 in
theorem metX0_mix (l : Launch) (dC : Nat → ClassId) (dI : Nat → Nat → Nat) (ct : Nat → ClassId) (ad : Nat → Nat) (sz : Nat) (u : cb_U) (M : Nat) (hM : M ≤ 8) (eM : cbM u = nI M) : Met l yX0_mix wsX0_mix ({ frames := 5, cells := 0, slots := 0, locals := 110 }) (va_Pc [.ref (ad 0)] (fun U => U.heap.size = sz ∧ cb_B dC dI ct ad (fun _ => True) u U)) (va_Qi (fun r (_ : Unit) => r = anX0_mix u M) (fun _ => cb_B dC dI ct ad (va_A (cb_w ct ad u) sz) (stX0_mix u M)) (va_A (cb_w ct ad u) sz)) 0 0 (va_A (cb_w ct ad u) sz) := by
  refine Met.ofW (cc := cX0_mix) (maxL := 3) (ret := (some .int)) (by decide) rfl ?_
  intro p e s m args below meth c s₁ B hml hv
  obtain ⟨rfl, hsz, hP, hK, hD0⟩ := hv
  have hx := B.exec
  have hb := B.bytes
  have hr := B.returns
  have hts := atoms_spec (ws := wsX0_mix) B.pre
  have hown : s.vm.findClass RX0 = some m.cls := findClass_of_methodNamed B.named
  have hlocks := B.notSynchronized
  have hin0 : ∀ w ∈ u_ws RX0 TX0 9, w ∈ wsX0_mix := by decide +kernel
  subst hsz
  have hD := hD0.self (sz := s.heap.size)
  generalize hAe : va_A (cb_w ct ad u) s.heap.size = A at hD ⊢
  have hA : ∀ q : Nat, s.heap.size ≤ q → A q := fun q h => by rw [← hAe]; exact Or.inr h
  have hS : va_S A s.heap s.heap [] := va_S.rf
  have hl := lv_entry ([.ref (ad 0)]) (n := 3) (Nat.le_of_ble_eq_true rfl)
  rw [lg_entry_eq]
  generalize (lg_sl ([.ref (ad 0)]) ++ List.replicate (3 - (lg_sl ([.ref (ad 0)])).length) Slot.unset).toArray = ls at hl ⊢
  have hl : lv_has ls 3 [(0, .ref (ad 0))] := hl
  refine lv_iconst (v := 0) hx hb dX0_mix_0 (by decide) ?_
  refine lv_istore_n (lv' := [(1, .int (0)), (0, .ref (ad 0))]) hx hb dX0_mix_1 rfl hl (by decide) rfl (fun ls hl => ?_)
  refine lpX0_mix_2 hx hb hml hown hts hin0 hK hA u (fun H locs ls hP hD hS hl => ?_) 9 0 (by decide) (by decide) _ _ ls hP hD hS (lv_sub hl [1, 0] rfl)
  refine lv_aload_n hx hb dX0_mix_19 rfl (lv_at hl 0 rfl) ?_
  have hFc := cb_free hD hS hA
  refine va_calli (va_runV (As := []) (rest := []) ⟨hx, hb, hml, hown, hts⟩ (metX0_chooseSpeakers l dC dI ct ad H.size ((mxH u 8)) M hM ((mxH_M u 8).trans eM)) (cwV 0 hts gX0_mix_X0_chooseSpeakers rfl rfl rfl (by decide +kernel) ⟨(Nat.le_of_ble_eq_true rfl), (Nat.le_of_ble_eq_true rfl)⟩) ⟨fun a U g mk q => by obtain ⟨q0, q1, qP, qK, qD⟩ := q; exact ⟨q0, q1, qP, va_K.moved (u := U) (U := U.calling g mk a) (Vm.Alike.refl U.vm) qK, qD⟩, va_recv hK hP (ci := 0) (q0 := 0) rfl rfl, fun U hU hW => ⟨rfl, by rw [hU], by rw [hU]; exact hP, va_K.moved hW.alike hK, hD.weaken (fun _ _ _ _ => trivial)⟩⟩ rfl rfl hl.1 rfl (lv_room (Nat.le_of_ble_eq_true rfl)) dX0_mix_20 ⟨(Nat.zero_le _), (Nat.zero_le _)⟩) hS (fun q _ h => hFc q h) hFc (fun r_1 u9 t9 H1 locs ht9 hvm hw9 hB hz1 hk1 hS => ?_)
  obtain ⟨hP1, -, hD1⟩ := hB
  rw [ht9] at hP1
  subst hw9
  generalize H1 = H at hP1 hS ⊢
  have hP : va_P (dC, dI) vwCl (cb_w ct ad ((mxH u 8))) H := hP1
  have hD : va_D A (cb_w ct ad ((mxH u 8))) := hD1.weaken (fun _ _ _ h => hFc _ h)
  refine lv_istore_n (lv' := [(1, .int ((chF ((mxH u 8)) M 0))), (0, .ref (ad 0))]) hx hb dX0_mix_23 rfl hl (by decide) rfl (fun ls hl => ?_)
  refine lv_aload_n hx hb dX0_mix_24 rfl (lv_at hl 1 rfl) ?_
  refine lv_iload_n hx hb dX0_mix_25 rfl (lv_at hl 0 rfl) ?_
  have hFc := cb_free hD hS hA
  refine va_callv (va_runV (As := [.int ((chF ((mxH u 8)) M 0))]) (rest := []) ⟨hx, hb, hml, hown, hts⟩ (metX0_sumUp l dC dI ct ad H.size ((mxH u 8)) (chF ((mxH u 8)) M 0)) (cwV 1 hts gX0_mix_X0_sumUp rfl rfl rfl (by decide +kernel) ⟨(Nat.le_of_ble_eq_true rfl), (Nat.le_of_ble_eq_true rfl)⟩) ⟨fun a U g mk q => by obtain ⟨q0, q1, qP, qK, qD⟩ := q; exact ⟨q0, q1, qP, va_K.moved (u := U) (U := U.calling g mk a) (Vm.Alike.refl U.vm) qK, qD⟩, va_recv hK hP (ci := 0) (q0 := 0) rfl rfl, fun U hU hW => ⟨rfl, by rw [hU], by rw [hU]; exact hP, va_K.moved hW.alike hK, hD.weaken (fun _ _ _ _ => trivial)⟩⟩ rfl rfl hl.1 rfl (lv_room (Nat.le_of_ble_eq_true rfl)) dX0_mix_26 ⟨(Nat.zero_le _), (Nat.zero_le _)⟩) hS (fun q _ h => hFc q h) hFc (fun u9 t9 H1 locs ht9 hvm hw9 hB hz1 hk1 hS => ?_)
  obtain ⟨hP1, -, hD1⟩ := hB
  rw [ht9] at hP1
  generalize H1 = H at hP1 hS ⊢
  have hP : va_P (dC, dI) vwCl (cb_w ct ad ((cbSumUp ((mxH u 8)) (chF ((mxH u 8)) M 0)))) H := hP1
  have hD : va_D A (cb_w ct ad ((cbSumUp ((mxH u 8)) (chF ((mxH u 8)) M 0)))) := hD1.weaken (fun _ _ _ h => hFc _ h)
  refine lv_iconst (v := 0) hx hb dX0_mix_29 (by decide) ?_
  refine lv_istore_n (lv' := [(2, .int (0)), (1, .int ((chF ((mxH u 8)) M 0))), (0, .ref (ad 0))]) hx hb dX0_mix_30 rfl hl (by decide) rfl (fun ls hl => ?_)
  refine lpX0_mix_31 hx hb hml hown hts hin0 hK hA ((cbSumUp ((mxH u 8)) (chF ((mxH u 8)) M 0))) (chF ((mxH u 8)) M 0) (fun H locs ls hP hD hS hl => ?_) 9 0 (by decide) (by decide) H locs ls hP hD hS (lv_sub hl [2, 1, 0] rfl)
  refine lv_iload_n hx hb dX0_mix_53 rfl (lv_at hl 1 rfl) ?_
  have e9 : stX0_mix u M = (mxA ((cbSumUp ((mxH u 8)) (chF ((mxH u 8)) M 0))) (chF ((mxH u 8)) M 0) 8) := rfl
  exact W.iret (v := (chF ((mxH u 8)) M 0)) hx hb hr (fun t ht hW => ⟨⟨(chF ((mxH u 8)) M 0), (), rfl, rfl, by rw [ht, e9]; exact hP, va_K.moved hW.alike hK, by rw [e9]; exact hD⟩, hS.F ht⟩) hS.2.2 dX0_mix_54
end
section
/-! the reference's methods with loops: what each does to the values -/
def mdVoice (a b g : Int32) : Int32 := fnX1_scaled (fnX1_meaning a b) g
def rmI (v : md_U) (j : Nat) (a2 a3 : Int32) : Nat → Nat → Int32
  | 0 => mdI v
  | k + 1 => upd (rmI v j a2 a3 k) (8 * j + k) (fnX1_codeOf (mdL v j) (fnX1_held (a2.toInt64 + (nI k).toInt64 * a3.toInt64)))
def anX1_ramp (a1 : Int32) : Int32 := if fnX1_not a1 (8 : Int32) = 0 then 1 else 0
def stX1_ramp (v : md_U) (a1 a2 a3 : Int32) : md_U := if fnX1_not a1 (8 : Int32) = 0 then md_sI (md_sT v 0) (rmI v a1.toNatClampNeg a2 a3 8) else md_sT v 0
def miV (v : md_U) (j : Nat) (V0 : Nat → Int32) : Nat → Nat → Int32
  | 0 => V0
  | k + 1 => upd (miV v j V0 k) (8 * j + k) (mdVoice (mdL v j) (mdI v (8 * j + k)) (mdG v j))
def miE (v : md_U) (j : Nat) (E0 : Nat → Int64) : Nat → Nat → Int64
  | 0 => E0
  | k + 1 => vp_updL (miE v j E0 k) j (miE v j E0 k j + (mdVoice (mdL v j) (mdI v (8 * j + k)) (mdG v j)).toInt64 * (mdVoice (mdL v j) (mdI v (8 * j + k)) (mdG v j)).toInt64)
def moV (v : md_U) : Nat → Nat → Int32
  | 0 => mdV v
  | j + 1 => miV v j (moV v j) 8
def moE (v : md_U) : Nat → Nat → Int64
  | 0 => mdE v
  | j + 1 => miE v j (vp_updL (moE v j) j 0) 8
def mdHear (v : md_U) : md_U := md_sE (md_sV (md_sT v 0) (moV v 8)) (moE v 8)
def mbF (v : md_U) (st : Int32) : Nat → Int32
  | 0 => -1
  | k + 1 => if ((st >>> ((nI k) &&& 31)) &&& (1 : Int32)) = 0 then (if mdS v k = 0 then (if lg_cmp (mdE v k) 0 ≤ 0 then mbF v st k else (if mbF v st k < 0 then nI k else (if lg_cmp (mdE v k) (mdE v (mbF v st k).toNatClampNeg) ≤ 0 then mbF v st k else nI k))) else mbF v st k) else mbF v st k
theorem mbF_cases (v : md_U) (st : Int32) : ∀ k, mbF v st k = -1 ∨ ∃ b, b < k ∧ mbF v st k = nI b
  | 0 => Or.inl rfl
  | k + 1 => by
    have h : mbF v st (k + 1) = mbF v st k ∨ mbF v st (k + 1) = nI k := by
      rw [mbF]
      repeat' split
      all_goals first | exact Or.inl rfl | exact Or.inr rfl
    rcases h with h | h
    · rcases mbF_cases v st k with e | ⟨b, hb, e⟩
      · exact Or.inl (h.trans e)
      · exact Or.inr ⟨b, by omega, h.trans e⟩
    · exact Or.inr ⟨k, by omega, h⟩
theorem md_best {v : md_U} {st : Int32} {k : Nat} (h : ¬ mbF v st k < 0) (hk : k ≤ 8) : vp_in (mbF v st k) 8 := by
  rcases mbF_cases v st k with e | ⟨b, hb, e⟩
  · rw [e] at h; exact absurd (by decide) h
  · rw [e]; exact vp_in_nI (by omega) (by decide)
def msF (v : md_U) : Nat → Int32 → Int32
  | 0, st => st
  | r + 1, st => msF v r (if mbF v st 8 < 0 then st else (st ||| ((1 : Int32) <<< ((mbF v st 8) &&& 31))))
def mcF (v : md_U) (st : Int32) (j k : Nat) : Nat → Int32
  | 0 => 0
  | o + 1 => if nI o = nI j then mcF v st j k o + (0 : Int32) else (if ((st >>> ((nI o) &&& 31)) &&& (1 : Int32)) = 1 then mcF v st j k o + mdV v (8 * o + k) else mcF v st j k o + (0 : Int32))
def mcO (v : md_U) (st : Int32) (j : Nat) (O0 : Nat → Int32) : Nat → Nat → Int32
  | 0 => O0
  | k + 1 => upd (mcO v st j O0 k) (8 * j + k) (fnX1_codeOf (mdL v j) (fnX1_held (mcF v st j k 8).toInt64))
def mcP (v : md_U) (st : Int32) : Nat → Nat → Int32
  | 0 => mdO v
  | j + 1 => mcO v st j (mcP v st j) 8
def anX1_mix (v : md_U) (M : Nat) : Int32 := msF (mdHear v) M 0
def stX1_mix (v : md_U) (M : Nat) : md_U := md_sO (mdHear v) (mcP (mdHear v) (anX1_mix v M) 8)

set_option maxHeartbeats 4000000 in
set_option maxRecDepth 100000 in
theorem lpX1_ramp_19 {p : Program} {l : Launch} {e : Env} {s : State} {m : MethodId} {args : Array Value} {below : List Frame} {meth : Method} {c : Code} {Q : State → Prop} {A : Nat → Prop} {dC : Nat → ClassId} {dI : Nat → Nat → Nat} {ct : Nat → ClassId} {ad : Nat → Nat} (hx : p.tables.exec = Jvm.exec) (hb : c.code = cX1_ramp) (hml : c.maxLocals = 5) (hown : s.vm.findClass RX1 = some m.cls) (hts : ∀ w ∈ wsX1_ramp, w.before args s = true) (hin0 : ∀ w ∈ u_ws RX1 TX1 9, w ∈ wsX1_ramp) (hK : va_K (dC, dI) vwCl (cb_ty ct) s) (hA : ∀ q : Nat, s.heap.size ≤ q → A q) (v : md_U) (hL : ∀ i, i < 8 → mdL v i = 0 ∨ mdL v i = 1) (j : Nat) (hj : j < 8) (a2 a3 : Int32)
    (kk : ∀ (H : Heap) (locs : List Loc) (ls : Array Slot), va_P (dC, dI) vwCl (md_w ct ad ((md_sI (md_sT v (0)) (rmI v j a2 a3 8)))) H → va_D A (md_w ct ad ((md_sI (md_sT v (0)) (rmI v j a2 a3 8)))) → va_S A s.heap H locs → lv_has ls 5 [(0, .ref (ad 0)), (1, .int (nI j)), (2, .int (a2)), (3, .int (a3)), (4, .int (nI 8))] → W p l e ({ frames := 1, cells := 0, slots := 0, locals := 23 }) s m args below meth c H locs 0 0 Q (F0 m 65 ls [])) :
    ∀ (n k : Nat), k ≤ 8 → 9 ≤ k + n → ∀ (H : Heap) (locs : List Loc) (ls : Array Slot), va_P (dC, dI) vwCl (md_w ct ad ((md_sI (md_sT v (0)) (rmI v j a2 a3 k)))) H → va_D A (md_w ct ad ((md_sI (md_sT v (0)) (rmI v j a2 a3 k)))) → va_S A s.heap H locs → lv_has ls 5 [(0, .ref (ad 0)), (1, .int (nI j)), (2, .int (a2)), (3, .int (a3)), (4, .int (nI k))] → W p l e ({ frames := 1, cells := 0, slots := 0, locals := 23 }) s m args below meth c H locs 0 0 Q (F0 m 19 ls []) := by
  intro n
  induction n with
  | zero => intro k h1 h2; exact absurd h2 (by omega)
  | succ n ih =>
    intro k h1 h2 H locs ls hP hD hS hl
    refine lv_iload hx hb dX1_ramp_19 (lv_at hl 4 rfl) ?_
    refine lv_bipush (v := 8) hx hb dX1_ramp_21 (by decide) ?_
    refine lv_icmp_ge (tgt := 65) hx hb dX1_ramp_23 (by decide) (fun c_1 => ?_) (fun c_1 => ?_)
    · have hk8 : k = 8 := Nat.le_antisymm h1 ((nI_leI (a := 8) (by decide) (by omega)).mp c_1)
      subst hk8
      exact kk H locs ls hP hD hS (lv_sub hl [0, 1, 2, 3, 4] rfl)
    · have hk : k < 8 := Nat.lt_of_not_le (fun q => c_1 (nI_le (a := 8) q (by omega)))
      refine lv_aload_n hx hb dX1_ramp_26 rfl (lv_at hl 0 rfl) ?_
      refine md_get hx hb hts hin0 hown hK hP 4 (by decide) (hts (.fieldLink RX1 24 "ConferenceBridgeModel" "in" "[I") (by decide +kernel)) (z := .ref (ad 4)) rfl dX1_ramp_27 ?_
      refine lv_bipush (v := 8) hx hb dX1_ramp_30 (by decide) ?_
      refine lv_iload_n hx hb dX1_ramp_32 rfl (lv_at hl 1 rfl) ?_
      refine lv_imul hx hb dX1_ramp_33 ?_
      refine lv_iload hx hb dX1_ramp_34 (lv_at hl 4 rfl) ?_
      refine lv_iadd hx hb dX1_ramp_36 ?_
      refine lv_topi (fun x_2 ex_2 => ?_)
      obtain rfl : x_2 = nI (8 * j + k) := ex_2.trans md_ixN
      refine lv_aload_n hx hb dX1_ramp_37 rfl (lv_at hl 0 rfl) ?_
      refine md_get hx hb hts hin0 hown hK hP 1 (by decide) (hts (.fieldLink RX1 13 "ConferenceBridgeModel" "law" "[I") (by decide +kernel)) (z := .ref (ad 1)) rfl dX1_ramp_38 ?_
      refine lv_iload_n hx hb dX1_ramp_41 rfl (lv_at hl 1 rfl) ?_
      refine cb_iald hx hb hK hP 1 0 (f := mdL v) rfl rfl hj (by decide) dX1_ramp_42 ?_
      refine lv_iload_n hx hb dX1_ramp_43 rfl (lv_at hl 2 rfl) ?_
      refine lv_i2l (v := a2.toInt64) hx hb dX1_ramp_44 rfl ?_
      refine lv_iload hx hb dX1_ramp_45 (lv_at hl 4 rfl) ?_
      refine lv_i2l (v := (nI k).toInt64) hx hb dX1_ramp_47 rfl ?_
      refine lv_iload_n hx hb dX1_ramp_48 rfl (lv_at hl 3 rfl) ?_
      refine lv_i2l (v := a3.toInt64) hx hb dX1_ramp_49 rfl ?_
      refine lv_lmul hx hb dX1_ramp_50 ?_
      refine lv_ladd hx hb dX1_ramp_51 ?_
      refine vp_callSi (W.runS (As := [.long (((a2.toInt64) + (((nI k).toInt64) * (a3.toInt64))))]) (rest := [.int ((mdL v j)), .int (nI (8 * j + k)), .ref (ad 4)]) ⟨hx, hb, hml, hown, hts⟩ (metX1_held l ((a2.toInt64) + (((nI k).toInt64) * (a3.toInt64)))) (va_cwS 1 hts gX1_ramp_X1_held rfl rfl rfl (by decide +kernel) ⟨(Nat.le_of_ble_eq_true rfl), (Nat.le_of_ble_eq_true rfl)⟩) ⟨fun a U g mk q => q, fun U hU hW => ⟨rfl, trivial⟩⟩ rfl rfl hl.1 rfl (lv_room (Nat.le_of_ble_eq_true rfl)) dX1_ramp_52 ⟨(Nat.zero_le _), (Nat.zero_le _)⟩) (fun r_3 er_3 => ?_)
      subst er_3
      refine vp_callSi (W.runS (As := [.int ((mdL v j)), .int ((fnX1_held ((a2.toInt64) + (((nI k).toInt64) * (a3.toInt64)))))]) (rest := [.int (nI (8 * j + k)), .ref (ad 4)]) ⟨hx, hb, hml, hown, hts⟩ (metX1_codeOf l (mdL v j) (fnX1_held ((a2.toInt64) + (((nI k).toInt64) * (a3.toInt64)))) (hL _ hj) (md_held_lo _) (md_held_hi _)) (va_cwS 2 hts gX1_ramp_X1_codeOf rfl rfl rfl (by decide +kernel) ⟨(Nat.le_of_ble_eq_true rfl), (Nat.le_of_ble_eq_true rfl)⟩) ⟨fun a U g mk q => q, fun U hU hW => ⟨rfl, trivial⟩⟩ rfl rfl hl.1 rfl (lv_room (Nat.le_of_ble_eq_true rfl)) dX1_ramp_55 ⟨(Nat.zero_le _), (Nat.zero_le _)⟩) (fun r_4 er_4 => ?_)
      subst er_4
      refine cb_iast hx hb hK hP hD hS 4 0 (f := rmI v j a2 a3 k) rfl rfl (show 8 * j + k < 64 by have h8 := hj; have h9 := hk; omega) (by decide) (ws1 := md_w ct ad ((md_sI (md_sT v (0)) (upd (rmI v j a2 a3 k) ((8 * j + k)) (fnX1_codeOf (mdL v j) (fnX1_held ((a2.toInt64) + (((nI k).toInt64) * (a3.toInt64))))))))) rfl dX1_ramp_58 (fun H locs hP hD hS => ?_)
      have hP : va_P (dC, dI) vwCl (md_w ct ad ((md_sI (md_sT v (0)) (upd (rmI v j a2 a3 k) ((8 * j + k)) (fnX1_codeOf (mdL v j) (fnX1_held ((a2.toInt64) + (((nI k).toInt64) * (a3.toInt64))))))))) H := hP
      have hD : va_D A (md_w ct ad ((md_sI (md_sT v (0)) (upd (rmI v j a2 a3 k) ((8 * j + k)) (fnX1_codeOf (mdL v j) (fnX1_held ((a2.toInt64) + (((nI k).toInt64) * (a3.toInt64))))))))) := hD
      refine lv_iinc (v := ((nI k) + (1 : Int32))) (lv' := [(4, .int (((nI k) + (1 : Int32)))), (0, .ref (ad 0)), (1, .int (nI j)), (2, .int (a2)), (3, .int (a3))]) hx hb dX1_ramp_59 hl (k := 4) rfl rfl (by decide) rfl (fun ls hl => ?_)
      refine lv_goto (tgt := 19) hx hb dX1_ramp_62 (by decide) ?_
      exact ih (k + 1) (by omega) (by omega) H locs ls hP hD hS (by rw [← nI_1]; exact lv_sub hl [1, 2, 3, 4, 0] rfl)

set_option maxHeartbeats 4000000 in
set_option maxRecDepth 100000 in
theorem metX1_ramp (l : Launch) (dC : Nat → ClassId) (dI : Nat → Nat → Nat) (ct : Nat → ClassId) (ad : Nat → Nat) (sz : Nat) (v : md_U) (hL : ∀ i, i < 8 → mdL v i = 0 ∨ mdL v i = 1) (a1 a2 a3 : Int32) : Met l yX1_ramp wsX1_ramp ({ frames := 1, cells := 0, slots := 0, locals := 23 }) (va_Pc [.ref (ad 0), .int (a1), .int (a2), .int (a3)] (fun U => U.heap.size = sz ∧ md_B dC dI ct ad (fun _ => True) v U)) (va_Qi (fun r (_ : Unit) => r = anX1_ramp a1) (fun _ => md_B dC dI ct ad (va_A (md_w ct ad v) sz) (stX1_ramp v a1 a2 a3)) (va_A (md_w ct ad v) sz)) 0 0 (va_A (md_w ct ad v) sz) := by
  refine Met.ofW (cc := cX1_ramp) (maxL := 5) (ret := (some .boolean)) (by decide) rfl ?_
  intro p e s m args below meth c s₁ B hml hv
  obtain ⟨rfl, hsz, hP, hK, hD0⟩ := hv
  have hx := B.exec
  have hb := B.bytes
  have hr := B.returns
  have hts := atoms_spec (ws := wsX1_ramp) B.pre
  have hown : s.vm.findClass RX1 = some m.cls := findClass_of_methodNamed B.named
  have hlocks := B.notSynchronized
  have hin0 : ∀ w ∈ u_ws RX1 TX1 9, w ∈ wsX1_ramp := by decide +kernel
  subst hsz
  have hD := hD0.self (sz := s.heap.size)
  generalize hAe : va_A (md_w ct ad v) s.heap.size = A at hD ⊢
  have hA : ∀ q : Nat, s.heap.size ≤ q → A q := fun q h => by rw [← hAe]; exact Or.inr h
  have hS : va_S A s.heap s.heap [] := va_S.rf
  have hl := lv_entry ([.ref (ad 0), .int (a1), .int (a2), .int (a3)]) (n := 5) (Nat.le_of_ble_eq_true rfl)
  rw [lg_entry_eq]
  generalize (lg_sl ([.ref (ad 0), .int (a1), .int (a2), .int (a3)]) ++ List.replicate (5 - (lg_sl ([.ref (ad 0), .int (a1), .int (a2), .int (a3)])).length) Slot.unset).toArray = ls at hl ⊢
  have hl : lv_has ls 5 [(0, .ref (ad 0)), (1, .int (a1)), (2, .int (a2)), (3, .int (a3))] := hl
  refine lv_aload_n hx hb dX1_ramp_0 rfl (lv_at hl 0 rfl) ?_
  refine lv_iconst (v := 0) hx hb dX1_ramp_1 (by decide) ?_
  refine md_putT hx hb hts hin0 hown hK hP hD hS (hts (.fieldLink RX1 7 "ConferenceBridgeModel" "thrownCode" "I") (by decide +kernel)) dX1_ramp_2 (fun H locs hP hD hS => ?_)
  have hP : va_P (dC, dI) vwCl (md_w ct ad ((md_sT v (0)))) H := hP
  have hD : va_D A (md_w ct ad ((md_sT v (0)))) := hD
  refine lv_iload_n hx hb dX1_ramp_5 rfl (lv_at hl 1 rfl) ?_
  refine lv_bipush (v := 8) hx hb dX1_ramp_6 (by decide) ?_
  refine vp_callSi (W.runS (As := [.int (a1), .int (8)]) (rest := []) ⟨hx, hb, hml, hown, hts⟩ (metX1_not l a1 (8 : Int32)) (va_cwS 2 hts gX1_ramp_X1_not rfl rfl rfl (by decide +kernel) ⟨(Nat.le_of_ble_eq_true rfl), (Nat.le_of_ble_eq_true rfl)⟩) ⟨fun a U g mk q => q, fun U hU hW => ⟨rfl, trivial⟩⟩ rfl rfl hl.1 rfl (lv_room (Nat.le_of_ble_eq_true rfl)) dX1_ramp_8 ⟨(Nat.zero_le _), (Nat.zero_le _)⟩) (fun r_1 er_1 => ?_)
  subst er_1
  refine lv_if_eq (tgt := 16) hx hb dX1_ramp_11 (by decide) (fun c_2 => ?_) (fun c_2 => ?_)
  · obtain ⟨j, hj, rfl⟩ := vp_in_of (md_not (n := 8) c_2 (by decide)) (by decide)
    refine lv_iconst (v := 0) hx hb dX1_ramp_16 (by decide) ?_
    refine lv_istore (lv' := [(4, .int (0)), (0, .ref (ad 0)), (1, .int (nI j)), (2, .int (a2)), (3, .int (a3))]) hx hb dX1_ramp_17 hl (by decide) rfl (fun ls hl => ?_)
    refine lpX1_ramp_19 hx hb hml hown hts hin0 hK hA v hL j hj a2 a3 (fun H locs ls hP hD hS hl => ?_) 9 0 (by decide) (by decide) _ _ ls hP hD hS (lv_sub hl [1, 2, 3, 4, 0] rfl)
    refine lv_iconst (v := 1) hx hb dX1_ramp_65 (by decide) ?_
    have e9 : stX1_ramp v (nI j) a2 a3 = (md_sI (md_sT v (0)) (rmI v j a2 a3 8)) := by unfold stX1_ramp; rw [if_pos c_2, nI_clamp (by omega)]
    exact W.zret (v := 1) hx hb hr (by decide) (fun t ht hW => ⟨⟨1, (), rfl, by unfold anX1_ramp; rw [if_pos c_2], by rw [ht, e9]; exact hP, va_K.moved hW.alike hK, by rw [e9]; exact hD⟩, hS.F ht⟩) hS.2.2 dX1_ramp_66
  · refine lv_iconst (v := 0) hx hb dX1_ramp_14 (by decide) ?_
    have e9 : stX1_ramp v a1 a2 a3 = (md_sT v (0)) := by unfold stX1_ramp; rw [if_neg c_2]
    exact W.zret (v := 0) hx hb hr (by decide) (fun t ht hW => ⟨⟨0, (), rfl, by unfold anX1_ramp; rw [if_neg c_2], by rw [ht, e9]; exact hP, va_K.moved hW.alike hK, by rw [e9]; exact hD⟩, hS.F ht⟩) hS.2.2 dX1_ramp_15

set_option maxHeartbeats 4000000 in
set_option maxRecDepth 100000 in
theorem lpX1_mix_22 {p : Program} {l : Launch} {e : Env} {s : State} {m : MethodId} {args : Array Value} {below : List Frame} {meth : Method} {c : Code} {Q : State → Prop} {A : Nat → Prop} {dC : Nat → ClassId} {dI : Nat → Nat → Nat} {ct : Nat → ClassId} {ad : Nat → Nat} (hx : p.tables.exec = Jvm.exec) (hb : c.code = cX1_mix) (hml : c.maxLocals = 6) (hown : s.vm.findClass RX1 = some m.cls) (hts : ∀ w ∈ wsX1_mix, w.before args s = true) (hin0 : ∀ w ∈ u_ws RX1 TX1 9, w ∈ wsX1_mix) (hK : va_K (dC, dI) vwCl (cb_ty ct) s) (hA : ∀ q : Nat, s.heap.size ≤ q → A q) (v : md_U) (hL : ∀ i, i < 8 → mdL v i = 0 ∨ mdL v i = 1) (hI : ∀ i, i < 64 → vp_in (mdI v i) 256) (j : Nat) (hj : j < 8) (V0 : Nat → Int32) (E0 : Nat → Int64)
    (kk : ∀ (H : Heap) (locs : List Loc) (ls : Array Slot), va_P (dC, dI) vwCl (md_w ct ad ((md_sE (md_sV (md_sT v (0)) (miV v j V0 8)) (miE v j E0 8)))) H → va_D A (md_w ct ad ((md_sE (md_sV (md_sT v (0)) (miV v j V0 8)) (miE v j E0 8)))) → va_S A s.heap H locs → lv_has ls 6 [(0, .ref (ad 0)), (1, .int (nI j)), (2, .int (nI 8))] → W p l e ({ frames := 2, cells := 0, slots := 0, locals := 43 }) s m args below meth c H locs 0 0 Q (F0 m 94 ls [])) :
    ∀ (n k : Nat), k ≤ 8 → 9 ≤ k + n → ∀ (H : Heap) (locs : List Loc) (ls : Array Slot), va_P (dC, dI) vwCl (md_w ct ad ((md_sE (md_sV (md_sT v (0)) (miV v j V0 k)) (miE v j E0 k)))) H → va_D A (md_w ct ad ((md_sE (md_sV (md_sT v (0)) (miV v j V0 k)) (miE v j E0 k)))) → va_S A s.heap H locs → lv_has ls 6 [(0, .ref (ad 0)), (1, .int (nI j)), (2, .int (nI k))] → W p l e ({ frames := 2, cells := 0, slots := 0, locals := 43 }) s m args below meth c H locs 0 0 Q (F0 m 22 ls []) := by
  intro n
  induction n with
  | zero => intro k h1 h2; exact absurd h2 (by omega)
  | succ n ih =>
    intro k h1 h2 H locs ls hP hD hS hl
    refine lv_iload_n hx hb dX1_mix_22 rfl (lv_at hl 2 rfl) ?_
    refine lv_bipush (v := 8) hx hb dX1_mix_23 (by decide) ?_
    refine lv_icmp_ge (tgt := 94) hx hb dX1_mix_25 (by decide) (fun c_1 => ?_) (fun c_1 => ?_)
    · have hk8 : k = 8 := Nat.le_antisymm h1 ((nI_leI (a := 8) (by decide) (by omega)).mp c_1)
      subst hk8
      exact kk H locs ls hP hD hS (lv_sub hl [0, 1, 2] rfl)
    · have hk : k < 8 := Nat.lt_of_not_le (fun q => c_1 (nI_le (a := 8) q (by omega)))
      refine lv_aload_n hx hb dX1_mix_28 rfl (lv_at hl 0 rfl) ?_
      refine md_get hx hb hts hin0 hown hK hP 1 (by decide) (hts (.fieldLink RX1 13 "ConferenceBridgeModel" "law" "[I") (by decide +kernel)) (z := .ref (ad 1)) rfl dX1_mix_29 ?_
      refine lv_iload_n hx hb dX1_mix_32 rfl (lv_at hl 1 rfl) ?_
      refine cb_iald hx hb hK hP 1 0 (f := mdL v) rfl rfl hj (by decide) dX1_mix_33 ?_
      refine lv_aload_n hx hb dX1_mix_34 rfl (lv_at hl 0 rfl) ?_
      refine md_get hx hb hts hin0 hown hK hP 4 (by decide) (hts (.fieldLink RX1 24 "ConferenceBridgeModel" "in" "[I") (by decide +kernel)) (z := .ref (ad 4)) rfl dX1_mix_35 ?_
      refine lv_bipush (v := 8) hx hb dX1_mix_38 (by decide) ?_
      refine lv_iload_n hx hb dX1_mix_40 rfl (lv_at hl 1 rfl) ?_
      refine lv_imul hx hb dX1_mix_41 ?_
      refine lv_iload_n hx hb dX1_mix_42 rfl (lv_at hl 2 rfl) ?_
      refine lv_iadd hx hb dX1_mix_43 ?_
      refine lv_topi (fun x_2 ex_2 => ?_)
      obtain rfl : x_2 = nI (8 * j + k) := ex_2.trans md_ixN
      refine cb_iald hx hb hK hP 4 0 (f := mdI v) rfl rfl (show 8 * j + k < 64 by have h8 := hj; have h9 := hk; omega) (by decide) dX1_mix_44 ?_
      refine vp_callSi (W.runS (As := [.int ((mdL v j)), .int ((mdI v ((8 * j + k))))]) (rest := []) ⟨hx, hb, hml, hown, hts⟩ (metX1_meaning l (mdL v j) (mdI v ((8 * j + k))) (hL _ hj) (hI _ (show 8 * j + k < 64 by have h8 := hj; have h9 := hk; omega))) (va_cwS 2 hts gX1_mix_X1_meaning rfl rfl rfl (by decide +kernel) ⟨(Nat.le_of_ble_eq_true rfl), (Nat.le_of_ble_eq_true rfl)⟩) ⟨fun a U g mk q => q, fun U hU hW => ⟨rfl, trivial⟩⟩ rfl rfl hl.1 rfl (lv_room (Nat.le_of_ble_eq_true rfl)) dX1_mix_45 ⟨(Nat.zero_le _), (Nat.zero_le _)⟩) (fun r_3 er_3 => ?_)
      subst er_3
      refine lv_aload_n hx hb dX1_mix_48 rfl (lv_at hl 0 rfl) ?_
      refine md_get hx hb hts hin0 hown hK hP 2 (by decide) (hts (.fieldLink RX1 17 "ConferenceBridgeModel" "gain" "[I") (by decide +kernel)) (z := .ref (ad 2)) rfl dX1_mix_49 ?_
      refine lv_iload_n hx hb dX1_mix_52 rfl (lv_at hl 1 rfl) ?_
      refine cb_iald hx hb hK hP 2 0 (f := mdG v) rfl rfl hj (by decide) dX1_mix_53 ?_
      refine vp_callSi (W.runS (As := [.int ((fnX1_meaning (mdL v j) (mdI v ((8 * j + k))))), .int ((mdG v j))]) (rest := []) ⟨hx, hb, hml, hown, hts⟩ (metX1_scaled l (fnX1_meaning (mdL v j) (mdI v ((8 * j + k)))) (mdG v j)) (va_cwS 2 hts gX1_mix_X1_scaled rfl rfl rfl (by decide +kernel) ⟨(Nat.le_of_ble_eq_true rfl), (Nat.le_of_ble_eq_true rfl)⟩) ⟨fun a U g mk q => q, fun U hU hW => ⟨rfl, trivial⟩⟩ rfl rfl hl.1 rfl (lv_room (Nat.le_of_ble_eq_true rfl)) dX1_mix_54 ⟨(Nat.zero_le _), (Nat.zero_le _)⟩) (fun r_4 er_4 => ?_)
      subst er_4
      refine lv_istore_n (lv' := [(3, .int ((fnX1_scaled (fnX1_meaning (mdL v j) (mdI v ((8 * j + k)))) (mdG v j)))), (0, .ref (ad 0)), (1, .int (nI j)), (2, .int (nI k))]) hx hb dX1_mix_57 rfl hl (by decide) rfl (fun ls hl => ?_)
      refine lv_aload_n hx hb dX1_mix_58 rfl (lv_at hl 1 rfl) ?_
      refine md_get hx hb hts hin0 hown hK hP 6 (by decide) (hts (.fieldLink RX1 30 "ConferenceBridgeModel" "sample" "[I") (by decide +kernel)) (z := .ref (ad 6)) rfl dX1_mix_59 ?_
      refine lv_bipush (v := 8) hx hb dX1_mix_62 (by decide) ?_
      refine lv_iload_n hx hb dX1_mix_64 rfl (lv_at hl 2 rfl) ?_
      refine lv_imul hx hb dX1_mix_65 ?_
      refine lv_iload_n hx hb dX1_mix_66 rfl (lv_at hl 3 rfl) ?_
      refine lv_iadd hx hb dX1_mix_67 ?_
      refine lv_topi (fun x_5 ex_5 => ?_)
      obtain rfl : x_5 = nI (8 * j + k) := ex_5.trans md_ixN
      refine lv_iload_n hx hb dX1_mix_68 rfl (lv_at hl 0 rfl) ?_
      refine cb_iast hx hb hK hP hD hS 6 0 (f := miV v j V0 k) rfl rfl (show 8 * j + k < 64 by have h8 := hj; have h9 := hk; omega) (by decide) (ws1 := md_w ct ad ((md_sE (md_sV (md_sT v (0)) (upd (miV v j V0 k) ((8 * j + k)) (fnX1_scaled (fnX1_meaning (mdL v j) (mdI v ((8 * j + k)))) (mdG v j)))) (miE v j E0 k)))) rfl dX1_mix_69 (fun H locs hP hD hS => ?_)
      have hP : va_P (dC, dI) vwCl (md_w ct ad ((md_sE (md_sV (md_sT v (0)) (upd (miV v j V0 k) ((8 * j + k)) (fnX1_scaled (fnX1_meaning (mdL v j) (mdI v ((8 * j + k)))) (mdG v j)))) (miE v j E0 k)))) H := hP
      have hD : va_D A (md_w ct ad ((md_sE (md_sV (md_sT v (0)) (upd (miV v j V0 k) ((8 * j + k)) (fnX1_scaled (fnX1_meaning (mdL v j) (mdI v ((8 * j + k)))) (mdG v j)))) (miE v j E0 k)))) := hD
      refine lv_aload_n hx hb dX1_mix_70 rfl (lv_at hl 1 rfl) ?_
      refine md_get hx hb hts hin0 hown hK hP 7 (by decide) (hts (.fieldLink RX1 33 "ConferenceBridgeModel" "energy" "[J") (by decide +kernel)) (z := .ref (ad 7)) rfl dX1_mix_71 ?_
      refine lv_iload_n hx hb dX1_mix_74 rfl (lv_at hl 2 rfl) ?_
      refine lv_aload_n hx hb dX1_mix_75 rfl (lv_at hl 1 rfl) ?_
      refine md_get hx hb hts hin0 hown hK hP 7 (by decide) (hts (.fieldLink RX1 33 "ConferenceBridgeModel" "energy" "[J") (by decide +kernel)) (z := .ref (ad 7)) rfl dX1_mix_76 ?_
      refine lv_iload_n hx hb dX1_mix_79 rfl (lv_at hl 2 rfl) ?_
      refine cb_lald hx hb hK hP 7 3 (f := miE v j E0 k) rfl rfl hj (by decide) dX1_mix_80 ?_
      refine lv_iload_n hx hb dX1_mix_81 rfl (lv_at hl 0 rfl) ?_
      refine lv_i2l (v := (fnX1_scaled (fnX1_meaning (mdL v j) (mdI v ((8 * j + k)))) (mdG v j)).toInt64) hx hb dX1_mix_82 rfl ?_
      refine lv_iload_n hx hb dX1_mix_83 rfl (lv_at hl 0 rfl) ?_
      refine lv_i2l (v := (fnX1_scaled (fnX1_meaning (mdL v j) (mdI v ((8 * j + k)))) (mdG v j)).toInt64) hx hb dX1_mix_84 rfl ?_
      refine lv_lmul hx hb dX1_mix_85 ?_
      refine lv_ladd hx hb dX1_mix_86 ?_
      refine cb_last hx hb hK hP hD hS 7 3 (f := miE v j E0 k) rfl rfl hj (by decide) (ws1 := md_w ct ad ((md_sE (md_sV (md_sT v (0)) (upd (miV v j V0 k) ((8 * j + k)) (fnX1_scaled (fnX1_meaning (mdL v j) (mdI v ((8 * j + k)))) (mdG v j)))) (vp_updL (miE v j E0 k) j (((miE v j E0 k) j) + (((fnX1_scaled (fnX1_meaning (mdL v j) (mdI v ((8 * j + k)))) (mdG v j)).toInt64) * ((fnX1_scaled (fnX1_meaning (mdL v j) (mdI v ((8 * j + k)))) (mdG v j)).toInt64))))))) rfl dX1_mix_87 (fun H locs hP hD hS => ?_)
      have hP : va_P (dC, dI) vwCl (md_w ct ad ((md_sE (md_sV (md_sT v (0)) (upd (miV v j V0 k) ((8 * j + k)) (fnX1_scaled (fnX1_meaning (mdL v j) (mdI v ((8 * j + k)))) (mdG v j)))) (vp_updL (miE v j E0 k) j (((miE v j E0 k) j) + (((fnX1_scaled (fnX1_meaning (mdL v j) (mdI v ((8 * j + k)))) (mdG v j)).toInt64) * ((fnX1_scaled (fnX1_meaning (mdL v j) (mdI v ((8 * j + k)))) (mdG v j)).toInt64))))))) H := hP
      have hD : va_D A (md_w ct ad ((md_sE (md_sV (md_sT v (0)) (upd (miV v j V0 k) ((8 * j + k)) (fnX1_scaled (fnX1_meaning (mdL v j) (mdI v ((8 * j + k)))) (mdG v j)))) (vp_updL (miE v j E0 k) j (((miE v j E0 k) j) + (((fnX1_scaled (fnX1_meaning (mdL v j) (mdI v ((8 * j + k)))) (mdG v j)).toInt64) * ((fnX1_scaled (fnX1_meaning (mdL v j) (mdI v ((8 * j + k)))) (mdG v j)).toInt64))))))) := hD
      refine lv_iinc (v := ((nI k) + (1 : Int32))) (lv' := [(2, .int (((nI k) + (1 : Int32)))), (3, .int ((fnX1_scaled (fnX1_meaning (mdL v j) (mdI v ((8 * j + k)))) (mdG v j)))), (0, .ref (ad 0)), (1, .int (nI j))]) hx hb dX1_mix_88 hl (k := 3) rfl rfl (by decide) rfl (fun ls hl => ?_)
      refine lv_goto (tgt := 22) hx hb dX1_mix_91 (by decide) ?_
      exact ih (k + 1) (by omega) (by omega) H locs ls hP hD hS (by rw [← nI_1]; exact lv_sub hl [2, 3, 0] rfl)

set_option maxHeartbeats 4000000 in
set_option maxRecDepth 100000 in
theorem lpX1_mix_7 {p : Program} {l : Launch} {e : Env} {s : State} {m : MethodId} {args : Array Value} {below : List Frame} {meth : Method} {c : Code} {Q : State → Prop} {A : Nat → Prop} {dC : Nat → ClassId} {dI : Nat → Nat → Nat} {ct : Nat → ClassId} {ad : Nat → Nat} (hx : p.tables.exec = Jvm.exec) (hb : c.code = cX1_mix) (hml : c.maxLocals = 6) (hown : s.vm.findClass RX1 = some m.cls) (hts : ∀ w ∈ wsX1_mix, w.before args s = true) (hin0 : ∀ w ∈ u_ws RX1 TX1 9, w ∈ wsX1_mix) (hK : va_K (dC, dI) vwCl (cb_ty ct) s) (hA : ∀ q : Nat, s.heap.size ≤ q → A q) (v : md_U) (hL : ∀ i, i < 8 → mdL v i = 0 ∨ mdL v i = 1) (hI : ∀ i, i < 64 → vp_in (mdI v i) 256)
    (kk : ∀ (H : Heap) (locs : List Loc) (ls : Array Slot), va_P (dC, dI) vwCl (md_w ct ad ((md_sE (md_sV (md_sT v (0)) (moV v 8)) (moE v 8)))) H → va_D A (md_w ct ad ((md_sE (md_sV (md_sT v (0)) (moV v 8)) (moE v 8)))) → va_S A s.heap H locs → lv_has ls 6 [(0, .ref (ad 0)), (1, .int (nI 8))] → W p l e ({ frames := 2, cells := 0, slots := 0, locals := 43 }) s m args below meth c H locs 0 0 Q (F0 m 100 ls [])) :
    ∀ (n j : Nat), j ≤ 8 → 9 ≤ j + n → ∀ (H : Heap) (locs : List Loc) (ls : Array Slot), va_P (dC, dI) vwCl (md_w ct ad ((md_sE (md_sV (md_sT v (0)) (moV v j)) (moE v j)))) H → va_D A (md_w ct ad ((md_sE (md_sV (md_sT v (0)) (moV v j)) (moE v j)))) → va_S A s.heap H locs → lv_has ls 6 [(0, .ref (ad 0)), (1, .int (nI j))] → W p l e ({ frames := 2, cells := 0, slots := 0, locals := 43 }) s m args below meth c H locs 0 0 Q (F0 m 7 ls []) := by
  intro n
  induction n with
  | zero => intro j h1 h2; exact absurd h2 (by omega)
  | succ n ih =>
    intro j h1 h2 H locs ls hP hD hS hl
    refine lv_iload_n hx hb dX1_mix_7 rfl (lv_at hl 1 rfl) ?_
    refine lv_bipush (v := 8) hx hb dX1_mix_8 (by decide) ?_
    refine lv_icmp_ge (tgt := 100) hx hb dX1_mix_10 (by decide) (fun c_1 => ?_) (fun c_1 => ?_)
    · have hk8 : j = 8 := Nat.le_antisymm h1 ((nI_leI (a := 8) (by decide) (by omega)).mp c_1)
      subst hk8
      exact kk H locs ls hP hD hS (lv_sub hl [0, 1] rfl)
    · have hj : j < 8 := Nat.lt_of_not_le (fun q => c_1 (nI_le (a := 8) q (by omega)))
      refine lv_aload_n hx hb dX1_mix_13 rfl (lv_at hl 0 rfl) ?_
      refine md_get hx hb hts hin0 hown hK hP 7 (by decide) (hts (.fieldLink RX1 33 "ConferenceBridgeModel" "energy" "[J") (by decide +kernel)) (z := .ref (ad 7)) rfl dX1_mix_14 ?_
      refine lv_iload_n hx hb dX1_mix_17 rfl (lv_at hl 1 rfl) ?_
      refine lv_lconst (v := 0) hx hb dX1_mix_18 (by decide) ?_
      refine cb_last hx hb hK hP hD hS 7 3 (f := moE v j) rfl rfl hj (by decide) (ws1 := md_w ct ad ((md_sE (md_sV (md_sT v (0)) (moV v j)) (vp_updL (moE v j) j (0 : Int64))))) rfl dX1_mix_19 (fun H locs hP hD hS => ?_)
      have hP : va_P (dC, dI) vwCl (md_w ct ad ((md_sE (md_sV (md_sT v (0)) (moV v j)) (vp_updL (moE v j) j (0 : Int64))))) H := hP
      have hD : va_D A (md_w ct ad ((md_sE (md_sV (md_sT v (0)) (moV v j)) (vp_updL (moE v j) j (0 : Int64))))) := hD
      refine lv_iconst (v := 0) hx hb dX1_mix_20 (by decide) ?_
      refine lv_istore_n (lv' := [(2, .int (0)), (0, .ref (ad 0)), (1, .int (nI j))]) hx hb dX1_mix_21 rfl hl (by decide) rfl (fun ls hl => ?_)
      refine lpX1_mix_22 hx hb hml hown hts hin0 hK hA v hL hI j hj (moV v j) (vp_updL (moE v j) j (0 : Int64)) (fun H locs ls hP hD hS hl => ?_) 9 0 (by decide) (by decide) _ _ ls hP hD hS (lv_sub hl [1, 2, 0] rfl)
      refine lv_iinc (v := ((nI j) + (1 : Int32))) (lv' := [(1, .int (((nI j) + (1 : Int32)))), (0, .ref (ad 0)), (2, .int (nI 8))]) hx hb dX1_mix_94 hl (k := 1) rfl rfl (by decide) rfl (fun ls hl => ?_)
      refine lv_goto (tgt := 7) hx hb dX1_mix_97 (by decide) ?_
      exact ih (j + 1) (by omega) (by omega) H locs ls hP hD hS (by rw [← nI_1]; exact lv_sub hl [1, 0] rfl)

set_option maxHeartbeats 4000000 in
set_option maxRecDepth 100000 in
theorem lpX1_mix_117 {p : Program} {l : Launch} {e : Env} {s : State} {m : MethodId} {args : Array Value} {below : List Frame} {meth : Method} {c : Code} {Q : State → Prop} {A : Nat → Prop} {dC : Nat → ClassId} {dI : Nat → Nat → Nat} {ct : Nat → ClassId} {ad : Nat → Nat} (hx : p.tables.exec = Jvm.exec) (hb : c.code = cX1_mix) (hml : c.maxLocals = 6) (hown : s.vm.findClass RX1 = some m.cls) (hts : ∀ w ∈ wsX1_mix, w.before args s = true) (hin0 : ∀ w ∈ u_ws RX1 TX1 9, w ∈ wsX1_mix) (hK : va_K (dC, dI) vwCl (cb_ty ct) s) (hA : ∀ q : Nat, s.heap.size ≤ q → A q) (v : md_U) (st x2 : Int32)
    (kk : ∀ (H : Heap) (locs : List Loc) (ls : Array Slot), va_P (dC, dI) vwCl (md_w ct ad v) H → va_D A (md_w ct ad v) → va_S A s.heap H locs → lv_has ls 6 [(0, .ref (ad 0)), (1, .int (st)), (2, .int (x2)), (3, .int (mbF v st 8)), (4, .int (nI 8))] → W p l e ({ frames := 2, cells := 0, slots := 0, locals := 43 }) s m args below meth c H locs 0 0 Q (F0 m 197 ls [])) :
    ∀ (n q : Nat), q ≤ 8 → 9 ≤ q + n → ∀ (H : Heap) (locs : List Loc) (ls : Array Slot), va_P (dC, dI) vwCl (md_w ct ad v) H → va_D A (md_w ct ad v) → va_S A s.heap H locs → lv_has ls 6 [(0, .ref (ad 0)), (1, .int (st)), (2, .int (x2)), (3, .int (mbF v st q)), (4, .int (nI q))] → W p l e ({ frames := 2, cells := 0, slots := 0, locals := 43 }) s m args below meth c H locs 0 0 Q (F0 m 117 ls []) := by
  intro n
  induction n with
  | zero => intro q h1 h2; exact absurd h2 (by omega)
  | succ n ih =>
    intro q h1 h2 H locs ls hP hD hS hl
    refine lv_iload hx hb dX1_mix_117 (lv_at hl 4 rfl) ?_
    refine lv_bipush (v := 8) hx hb dX1_mix_119 (by decide) ?_
    refine lv_icmp_ge (tgt := 197) hx hb dX1_mix_121 (by decide) (fun c_1 => ?_) (fun c_1 => ?_)
    · have hk8 : q = 8 := Nat.le_antisymm h1 ((nI_leI (a := 8) (by decide) (by omega)).mp c_1)
      subst hk8
      exact kk H locs ls hP hD hS (lv_sub hl [0, 1, 2, 3, 4] rfl)
    · have hq : q < 8 := Nat.lt_of_not_le (fun q => c_1 (nI_le (a := 8) q (by omega)))
      refine lv_iload_n hx hb dX1_mix_124 rfl (lv_at hl 1 rfl) ?_
      refine lv_iload hx hb dX1_mix_125 (lv_at hl 4 rfl) ?_
      refine lv_ishr hx hb dX1_mix_127 ?_
      refine lv_iconst (v := 1) hx hb dX1_mix_128 (by decide) ?_
      refine lv_iand hx hb dX1_mix_129 ?_
      refine lv_if_ne (tgt := 159) hx hb dX1_mix_130 (by decide) (fun c_2 => ?_) (fun c_2 => ?_)
      · refine lv_iconst (v := 0) hx hb dX1_mix_159 (by decide) ?_
        refine lv_istore (lv' := [(5, .int (0)), (0, .ref (ad 0)), (1, .int (st)), (2, .int (x2)), (3, .int (mbF v st q)), (4, .int (nI q))]) hx hb dX1_mix_160 hl (by decide) rfl (fun ls hl => ?_)
        refine lv_iload hx hb dX1_mix_162 (lv_at hl 0 rfl) ?_
        refine lv_if_eq (tgt := 191) hx hb dX1_mix_164 (by decide) (fun _ => ?_) (fun c9 => absurd (by decide) c9)
        refine lv_iinc (v := ((nI q) + (1 : Int32))) (lv' := [(4, .int (((nI q) + (1 : Int32)))), (5, .int (0)), (0, .ref (ad 0)), (1, .int (st)), (2, .int (x2)), (3, .int (mbF v st q))]) hx hb dX1_mix_191 hl (k := 5) rfl rfl (by decide) rfl (fun ls hl => ?_)
        refine lv_goto (tgt := 117) hx hb dX1_mix_194 (by decide) ?_
        have e9 : mbF v st (q + 1) = mbF v st q := by rw [mbF, if_neg c_2]
        exact ih (q + 1) (by omega) (by omega) H locs ls hP hD hS (by rw [← nI_1, e9]; exact lv_sub hl [2, 3, 4, 5, 0] rfl)
      · refine lv_aload_n hx hb dX1_mix_133 rfl (lv_at hl 0 rfl) ?_
        refine md_get hx hb hts hin0 hown hK hP 3 (by decide) (hts (.fieldLink RX1 20 "ConferenceBridgeModel" "muted" "[Z") (by decide +kernel)) (z := .ref (ad 3)) rfl dX1_mix_134 ?_
        refine lv_iload hx hb dX1_mix_137 (lv_at hl 4 rfl) ?_
        refine cb_zald hx hb hK hP 3 1 (f := mdS v) rfl rfl hq (by decide) dX1_mix_139 ?_
        refine lv_if_ne (tgt := 159) hx hb dX1_mix_140 (by decide) (fun c_4 => ?_) (fun c_4 => ?_)
        · refine lv_iconst (v := 0) hx hb dX1_mix_159 (by decide) ?_
          refine lv_istore (lv' := [(5, .int (0)), (0, .ref (ad 0)), (1, .int (st)), (2, .int (x2)), (3, .int (mbF v st q)), (4, .int (nI q))]) hx hb dX1_mix_160 hl (by decide) rfl (fun ls hl => ?_)
          refine lv_iload hx hb dX1_mix_162 (lv_at hl 0 rfl) ?_
          refine lv_if_eq (tgt := 191) hx hb dX1_mix_164 (by decide) (fun _ => ?_) (fun c9 => absurd (by decide) c9)
          refine lv_iinc (v := ((nI q) + (1 : Int32))) (lv' := [(4, .int (((nI q) + (1 : Int32)))), (5, .int (0)), (0, .ref (ad 0)), (1, .int (st)), (2, .int (x2)), (3, .int (mbF v st q))]) hx hb dX1_mix_191 hl (k := 5) rfl rfl (by decide) rfl (fun ls hl => ?_)
          refine lv_goto (tgt := 117) hx hb dX1_mix_194 (by decide) ?_
          have e9 : mbF v st (q + 1) = mbF v st q := by rw [mbF, if_pos c_2, if_neg c_4]
          exact ih (q + 1) (by omega) (by omega) H locs ls hP hD hS (by rw [← nI_1, e9]; exact lv_sub hl [2, 3, 4, 5, 0] rfl)
        · refine lv_aload_n hx hb dX1_mix_143 rfl (lv_at hl 0 rfl) ?_
          refine md_get hx hb hts hin0 hown hK hP 7 (by decide) (hts (.fieldLink RX1 33 "ConferenceBridgeModel" "energy" "[J") (by decide +kernel)) (z := .ref (ad 7)) rfl dX1_mix_144 ?_
          refine lv_iload hx hb dX1_mix_147 (lv_at hl 4 rfl) ?_
          refine cb_lald hx hb hK hP 7 3 (f := mdE v) rfl rfl hq (by decide) dX1_mix_149 ?_
          refine lv_lconst (v := 0) hx hb dX1_mix_150 (by decide) ?_
          refine W.lcmp hx hb dX1_mix_151 ?_
          refine lv_if_le (tgt := 159) hx hb dX1_mix_152 (by decide) (fun c_6 => ?_) (fun c_6 => ?_)
          · refine lv_iconst (v := 0) hx hb dX1_mix_159 (by decide) ?_
            refine lv_istore (lv' := [(5, .int (0)), (0, .ref (ad 0)), (1, .int (st)), (2, .int (x2)), (3, .int (mbF v st q)), (4, .int (nI q))]) hx hb dX1_mix_160 hl (by decide) rfl (fun ls hl => ?_)
            refine lv_iload hx hb dX1_mix_162 (lv_at hl 0 rfl) ?_
            refine lv_if_eq (tgt := 191) hx hb dX1_mix_164 (by decide) (fun _ => ?_) (fun c9 => absurd (by decide) c9)
            refine lv_iinc (v := ((nI q) + (1 : Int32))) (lv' := [(4, .int (((nI q) + (1 : Int32)))), (5, .int (0)), (0, .ref (ad 0)), (1, .int (st)), (2, .int (x2)), (3, .int (mbF v st q))]) hx hb dX1_mix_191 hl (k := 5) rfl rfl (by decide) rfl (fun ls hl => ?_)
            refine lv_goto (tgt := 117) hx hb dX1_mix_194 (by decide) ?_
            have e9 : mbF v st (q + 1) = mbF v st q := by rw [mbF, if_pos c_2, if_pos c_4, if_pos c_6]
            exact ih (q + 1) (by omega) (by omega) H locs ls hP hD hS (by rw [← nI_1, e9]; exact lv_sub hl [2, 3, 4, 5, 0] rfl)
          · refine lv_iconst (v := 1) hx hb dX1_mix_155 (by decide) ?_
            refine lv_goto (tgt := 160) hx hb dX1_mix_156 (by decide) ?_
            refine lv_istore (lv' := [(5, .int (1)), (0, .ref (ad 0)), (1, .int (st)), (2, .int (x2)), (3, .int (mbF v st q)), (4, .int (nI q))]) hx hb dX1_mix_160 hl (by decide) rfl (fun ls hl => ?_)
            refine lv_iload hx hb dX1_mix_162 (lv_at hl 0 rfl) ?_
            refine lv_if_eq (tgt := 191) hx hb dX1_mix_164 (by decide) (fun c9 => absurd c9 (by decide)) (fun _ => ?_)
            refine lv_iload_n hx hb dX1_mix_167 rfl (lv_at hl 4 rfl) ?_
            refine lv_if_lt (tgt := 188) hx hb dX1_mix_168 (by decide) (fun c_9 => ?_) (fun c_9 => ?_)
            · refine lv_iload hx hb dX1_mix_188 (lv_at hl 5 rfl) ?_
              refine lv_istore_n (lv' := [(3, .int (nI q)), (5, .int (1)), (0, .ref (ad 0)), (1, .int (st)), (2, .int (x2)), (4, .int (nI q))]) hx hb dX1_mix_190 rfl hl (by decide) rfl (fun ls hl => ?_)
              refine lv_iinc (v := ((nI q) + (1 : Int32))) (lv' := [(4, .int (((nI q) + (1 : Int32)))), (3, .int (nI q)), (5, .int (1)), (0, .ref (ad 0)), (1, .int (st)), (2, .int (x2))]) hx hb dX1_mix_191 hl (k := 5) rfl rfl (by decide) rfl (fun ls hl => ?_)
              refine lv_goto (tgt := 117) hx hb dX1_mix_194 (by decide) ?_
              have e9 : mbF v st (q + 1) = nI q := by rw [mbF, if_pos c_2, if_pos c_4, if_neg c_6, if_pos c_9]
              exact ih (q + 1) (by omega) (by omega) H locs ls hP hD hS (by rw [← nI_1, e9]; exact lv_sub hl [3, 4, 5, 1, 0] rfl)
            · refine lv_aload_n hx hb dX1_mix_171 rfl (lv_at hl 1 rfl) ?_
              refine md_get hx hb hts hin0 hown hK hP 7 (by decide) (hts (.fieldLink RX1 33 "ConferenceBridgeModel" "energy" "[J") (by decide +kernel)) (z := .ref (ad 7)) rfl dX1_mix_172 ?_
              refine lv_iload hx hb dX1_mix_175 (lv_at hl 5 rfl) ?_
              refine cb_lald hx hb hK hP 7 3 (f := mdE v) rfl rfl hq (by decide) dX1_mix_177 ?_
              refine lv_aload_n hx hb dX1_mix_178 rfl (lv_at hl 1 rfl) ?_
              refine md_get hx hb hts hin0 hown hK hP 7 (by decide) (hts (.fieldLink RX1 33 "ConferenceBridgeModel" "energy" "[J") (by decide +kernel)) (z := .ref (ad 7)) rfl dX1_mix_179 ?_
              refine lv_iload_n hx hb dX1_mix_182 rfl (lv_at hl 4 rfl) ?_
              refine va_lald hx hb hK hP 7 3 (f := mdE v) rfl rfl (md_best c_9 (by omega)) dX1_mix_183 ?_
              refine W.lcmp hx hb dX1_mix_184 ?_
              refine lv_if_le (tgt := 191) hx hb dX1_mix_185 (by decide) (fun c_10 => ?_) (fun c_10 => ?_)
              · refine lv_iinc (v := ((nI q) + (1 : Int32))) (lv' := [(4, .int (((nI q) + (1 : Int32)))), (5, .int (1)), (0, .ref (ad 0)), (1, .int (st)), (2, .int (x2)), (3, .int (mbF v st q))]) hx hb dX1_mix_191 hl (k := 5) rfl rfl (by decide) rfl (fun ls hl => ?_)
                refine lv_goto (tgt := 117) hx hb dX1_mix_194 (by decide) ?_
                have e9 : mbF v st (q + 1) = mbF v st q := by rw [mbF, if_pos c_2, if_pos c_4, if_neg c_6, if_neg c_9, if_pos c_10]
                exact ih (q + 1) (by omega) (by omega) H locs ls hP hD hS (by rw [← nI_1, e9]; exact lv_sub hl [2, 3, 4, 5, 0] rfl)
              · refine lv_iload hx hb dX1_mix_188 (lv_at hl 5 rfl) ?_
                refine lv_istore_n (lv' := [(3, .int (nI q)), (5, .int (1)), (0, .ref (ad 0)), (1, .int (st)), (2, .int (x2)), (4, .int (nI q))]) hx hb dX1_mix_190 rfl hl (by decide) rfl (fun ls hl => ?_)
                refine lv_iinc (v := ((nI q) + (1 : Int32))) (lv' := [(4, .int (((nI q) + (1 : Int32)))), (3, .int (nI q)), (5, .int (1)), (0, .ref (ad 0)), (1, .int (st)), (2, .int (x2))]) hx hb dX1_mix_191 hl (k := 5) rfl rfl (by decide) rfl (fun ls hl => ?_)
                refine lv_goto (tgt := 117) hx hb dX1_mix_194 (by decide) ?_
                have e9 : mbF v st (q + 1) = nI q := by rw [mbF, if_pos c_2, if_pos c_4, if_neg c_6, if_neg c_9, if_neg c_10]
                exact ih (q + 1) (by omega) (by omega) H locs ls hP hD hS (by rw [← nI_1, e9]; exact lv_sub hl [3, 4, 5, 1, 0] rfl)

set_option maxHeartbeats 4000000 in
set_option maxRecDepth 100000 in
theorem lpX1_mix_104 {p : Program} {l : Launch} {e : Env} {s : State} {m : MethodId} {args : Array Value} {below : List Frame} {meth : Method} {c : Code} {Q : State → Prop} {A : Nat → Prop} {dC : Nat → ClassId} {dI : Nat → Nat → Nat} {ct : Nat → ClassId} {ad : Nat → Nat} (hx : p.tables.exec = Jvm.exec) (hb : c.code = cX1_mix) (hml : c.maxLocals = 6) (hown : s.vm.findClass RX1 = some m.cls) (hts : ∀ w ∈ wsX1_mix, w.before args s = true) (hin0 : ∀ w ∈ u_ws RX1 TX1 9, w ∈ wsX1_mix) (hK : va_K (dC, dI) vwCl (cb_ty ct) s) (hA : ∀ q : Nat, s.heap.size ≤ q → A q) (v : md_U) (M : Nat) (hM : M ≤ 8) (eM : mdM v = nI M) (F : Int32)
    (kk : ∀ (i : Nat) (H : Heap) (locs : List Loc) (ls : Array Slot), va_P (dC, dI) vwCl (md_w ct ad v) H → va_D A (md_w ct ad v) → va_S A s.heap H locs → lv_has ls 6 [(0, .ref (ad 0)), (1, .int (F)), (2, .int (nI i))] → W p l e ({ frames := 2, cells := 0, slots := 0, locals := 43 }) s m args below meth c H locs 0 0 Q (F0 m 213 ls [])) :
    ∀ (n i : Nat) (st : Int32), i ≤ M → M + 1 ≤ i + n → msF v (M - i) st = F → ∀ (H : Heap) (locs : List Loc) (ls : Array Slot), va_P (dC, dI) vwCl (md_w ct ad v) H → va_D A (md_w ct ad v) → va_S A s.heap H locs → lv_has ls 6 [(0, .ref (ad 0)), (1, .int (st)), (2, .int (nI i))] → W p l e ({ frames := 2, cells := 0, slots := 0, locals := 43 }) s m args below meth c H locs 0 0 Q (F0 m 104 ls []) := by
  intro n
  induction n with
  | zero => intro i st h1 h2; exact absurd h2 (by omega)
  | succ n ih =>
    intro i st h1 h2 hF H locs ls hP hD hS hl
    refine lv_iload_n hx hb dX1_mix_104 rfl (lv_at hl 2 rfl) ?_
    refine lv_aload_n hx hb dX1_mix_105 rfl (lv_at hl 0 rfl) ?_
    refine md_get hx hb hts hin0 hown hK hP 8 (by decide) (hts (.fieldLink RX1 37 "ConferenceBridgeModel" "most" "I") (by decide +kernel)) (z := .int (mdM v)) rfl dX1_mix_106 ?_
    refine lv_topi (fun y9 ey9 => ?_)
    obtain rfl : y9 = nI M := ey9.trans eM
    refine lv_icmp_ge (tgt := 213) hx hb dX1_mix_109 (by decide) (fun c_1 => ?_) (fun c_1 => ?_)
    · have hi : M = i := Nat.le_antisymm ((nI_leI (by omega) (by omega)).mp c_1) h1
      subst hi
      have e9 : st = F := by rw [← hF, Nat.sub_self]; rfl
      subst e9
      exact kk _ H locs ls hP hD hS (lv_sub hl [0, 1, 2] rfl)
    · refine lv_iconst (v := (-1)) hx hb dX1_mix_112 (by decide) ?_
      refine lv_istore_n (lv' := [(3, .int ((-1))), (0, .ref (ad 0)), (1, .int (st)), (2, .int (nI i))]) hx hb dX1_mix_113 rfl hl (by decide) rfl (fun ls hl => ?_)
      refine lv_iconst (v := 0) hx hb dX1_mix_114 (by decide) ?_
      refine lv_istore (lv' := [(4, .int (0)), (3, .int ((-1))), (0, .ref (ad 0)), (1, .int (st)), (2, .int (nI i))]) hx hb dX1_mix_115 hl (by decide) rfl (fun ls hl => ?_)
      refine lpX1_mix_117 hx hb hml hown hts hin0 hK hA v st (nI i) (fun H locs ls hP hD hS hl => ?_) 9 0 (by decide) (by decide) _ _ ls hP hD hS (lv_sub hl [2, 3, 4, 1, 0] rfl)
      refine lv_iload_n hx hb dX1_mix_197 rfl (lv_at hl 3 rfl) ?_
      refine lv_if_lt (tgt := 207) hx hb dX1_mix_198 (by decide) (fun c_2 => ?_) (fun c_2 => ?_)
      · refine lv_iinc (v := ((nI i) + (1 : Int32))) (lv' := [(2, .int (((nI i) + (1 : Int32)))), (0, .ref (ad 0)), (1, .int (st)), (3, .int (mbF v st 8)), (4, .int (nI 8))]) hx hb dX1_mix_207 hl (k := 2) rfl rfl (by decide) rfl (fun ls hl => ?_)
        refine lv_goto (tgt := 104) hx hb dX1_mix_210 (by decide) ?_
        have hi : i < M := Nat.lt_of_not_le (fun q => c_1 (nI_le q (by omega)))
        have e9 : msF v (M - (i + 1)) (st) = F := by
          rw [← hF, show M - i = (M - (i + 1)) + 1 by omega, msF, if_pos c_2]
        exact ih (i + 1) _ (by omega) (by omega) e9 H locs ls hP hD hS (by rw [← nI_1]; exact lv_sub hl [1, 2, 0] rfl)
      · refine lv_iload_n hx hb dX1_mix_201 rfl (lv_at hl 1 rfl) ?_
        refine lv_iconst (v := 1) hx hb dX1_mix_202 (by decide) ?_
        refine lv_iload_n hx hb dX1_mix_203 rfl (lv_at hl 3 rfl) ?_
        refine lv_ishl hx hb dX1_mix_204 ?_
        refine lv_ior hx hb dX1_mix_205 ?_
        refine lv_istore_n (lv' := [(1, .int ((st ||| ((1 : Int32) <<< ((mbF v st 8) &&& 31))))), (0, .ref (ad 0)), (2, .int (nI i)), (3, .int (mbF v st 8)), (4, .int (nI 8))]) hx hb dX1_mix_206 rfl hl (by decide) rfl (fun ls hl => ?_)
        refine lv_iinc (v := ((nI i) + (1 : Int32))) (lv' := [(2, .int (((nI i) + (1 : Int32)))), (1, .int ((st ||| ((1 : Int32) <<< ((mbF v st 8) &&& 31))))), (0, .ref (ad 0)), (3, .int (mbF v st 8)), (4, .int (nI 8))]) hx hb dX1_mix_207 hl (k := 2) rfl rfl (by decide) rfl (fun ls hl => ?_)
        refine lv_goto (tgt := 104) hx hb dX1_mix_210 (by decide) ?_
        have hi : i < M := Nat.lt_of_not_le (fun q => c_1 (nI_le q (by omega)))
        have e9 : msF v (M - (i + 1)) ((st ||| ((1 : Int32) <<< ((mbF v st 8) &&& 31)))) = F := by
          rw [← hF, show M - i = (M - (i + 1)) + 1 by omega, msF, if_neg c_2]
        exact ih (i + 1) _ (by omega) (by omega) e9 H locs ls hP hD hS (by rw [← nI_1]; exact lv_sub hl [2, 1, 0] rfl)

set_option maxHeartbeats 4000000 in
set_option maxRecDepth 100000 in
theorem lpX1_mix_235 {p : Program} {l : Launch} {e : Env} {s : State} {m : MethodId} {args : Array Value} {below : List Frame} {meth : Method} {c : Code} {Q : State → Prop} {A : Nat → Prop} {dC : Nat → ClassId} {dI : Nat → Nat → Nat} {ct : Nat → ClassId} {ad : Nat → Nat} (hx : p.tables.exec = Jvm.exec) (hb : c.code = cX1_mix) (hml : c.maxLocals = 6) (hown : s.vm.findClass RX1 = some m.cls) (hts : ∀ w ∈ wsX1_mix, w.before args s = true) (hin0 : ∀ w ∈ u_ws RX1 TX1 9, w ∈ wsX1_mix) (hK : va_K (dC, dI) vwCl (cb_ty ct) s) (hA : ∀ q : Nat, s.heap.size ≤ q → A q) (v : md_U) (st : Int32) (j k : Nat) (hj : j < 8) (hk : k < 8) (O0 : Nat → Int32)
    (kk : ∀ (H : Heap) (locs : List Loc) (ls : Array Slot), va_P (dC, dI) vwCl (md_w ct ad ((md_sO v (O0)))) H → va_D A (md_w ct ad ((md_sO v (O0)))) → va_S A s.heap H locs → lv_has ls 6 [(0, .ref (ad 0)), (1, .int (st)), (2, .int (nI j)), (3, .int (nI k)), (4, .int (mcF v st j k 8)), (5, .int (nI 8))] → W p l e ({ frames := 2, cells := 0, slots := 0, locals := 43 }) s m args below meth c H locs 0 0 Q (F0 m 285 ls [])) :
    ∀ (n o : Nat), o ≤ 8 → 9 ≤ o + n → ∀ (H : Heap) (locs : List Loc) (ls : Array Slot), va_P (dC, dI) vwCl (md_w ct ad ((md_sO v (O0)))) H → va_D A (md_w ct ad ((md_sO v (O0)))) → va_S A s.heap H locs → lv_has ls 6 [(0, .ref (ad 0)), (1, .int (st)), (2, .int (nI j)), (3, .int (nI k)), (4, .int (mcF v st j k o)), (5, .int (nI o))] → W p l e ({ frames := 2, cells := 0, slots := 0, locals := 43 }) s m args below meth c H locs 0 0 Q (F0 m 235 ls []) := by
  intro n
  induction n with
  | zero => intro o h1 h2; exact absurd h2 (by omega)
  | succ n ih =>
    intro o h1 h2 H locs ls hP hD hS hl
    refine lv_iload hx hb dX1_mix_235 (lv_at hl 5 rfl) ?_
    refine lv_bipush (v := 8) hx hb dX1_mix_237 (by decide) ?_
    refine lv_icmp_ge (tgt := 285) hx hb dX1_mix_239 (by decide) (fun c_1 => ?_) (fun c_1 => ?_)
    · have hk8 : o = 8 := Nat.le_antisymm h1 ((nI_leI (a := 8) (by decide) (by omega)).mp c_1)
      subst hk8
      exact kk H locs ls hP hD hS (lv_sub hl [0, 1, 2, 3, 4, 5] rfl)
    · have ho : o < 8 := Nat.lt_of_not_le (fun q => c_1 (nI_le (a := 8) q (by omega)))
      refine lv_iload hx hb dX1_mix_242 (lv_at hl 4 rfl) ?_
      refine lv_iload hx hb dX1_mix_244 (lv_at hl 5 rfl) ?_
      refine lv_iload_n hx hb dX1_mix_246 rfl (lv_at hl 2 rfl) ?_
      refine lv_icmp_eq (tgt := 275) hx hb dX1_mix_247 (by decide) (fun c_2 => ?_) (fun c_2 => ?_)
      · refine lv_iconst (v := 0) hx hb dX1_mix_275 (by decide) ?_
        refine lv_iadd hx hb dX1_mix_276 ?_
        refine lv_istore (lv' := [(4, .int (((mcF v st j k o) + (0 : Int32)))), (0, .ref (ad 0)), (1, .int (st)), (2, .int (nI j)), (3, .int (nI k)), (5, .int (nI o))]) hx hb dX1_mix_277 hl (by decide) rfl (fun ls hl => ?_)
        refine lv_iinc (v := ((nI o) + (1 : Int32))) (lv' := [(5, .int (((nI o) + (1 : Int32)))), (4, .int (((mcF v st j k o) + (0 : Int32)))), (0, .ref (ad 0)), (1, .int (st)), (2, .int (nI j)), (3, .int (nI k))]) hx hb dX1_mix_279 hl (k := 5) rfl rfl (by decide) rfl (fun ls hl => ?_)
        refine lv_goto (tgt := 235) hx hb dX1_mix_282 (by decide) ?_
        have e9 : mcF v st j k (o + 1) = ((mcF v st j k o) + (0 : Int32)) := by rw [mcF, if_pos c_2]
        exact ih (o + 1) (by omega) (by omega) H locs ls hP hD hS (by rw [← nI_1, e9]; exact lv_sub hl [2, 3, 4, 5, 1, 0] rfl)
      · refine lv_iload_n hx hb dX1_mix_250 rfl (lv_at hl 1 rfl) ?_
        refine lv_iload hx hb dX1_mix_251 (lv_at hl 5 rfl) ?_
        refine lv_ishr hx hb dX1_mix_253 ?_
        refine lv_iconst (v := 1) hx hb dX1_mix_254 (by decide) ?_
        refine lv_iand hx hb dX1_mix_255 ?_
        refine lv_iconst (v := 1) hx hb dX1_mix_256 (by decide) ?_
        refine lv_icmp_ne (tgt := 275) hx hb dX1_mix_257 (by decide) (fun c_3 => ?_) (fun c_3 => ?_)
        · refine lv_iconst (v := 0) hx hb dX1_mix_275 (by decide) ?_
          refine lv_iadd hx hb dX1_mix_276 ?_
          refine lv_istore (lv' := [(4, .int (((mcF v st j k o) + (0 : Int32)))), (0, .ref (ad 0)), (1, .int (st)), (2, .int (nI j)), (3, .int (nI k)), (5, .int (nI o))]) hx hb dX1_mix_277 hl (by decide) rfl (fun ls hl => ?_)
          refine lv_iinc (v := ((nI o) + (1 : Int32))) (lv' := [(5, .int (((nI o) + (1 : Int32)))), (4, .int (((mcF v st j k o) + (0 : Int32)))), (0, .ref (ad 0)), (1, .int (st)), (2, .int (nI j)), (3, .int (nI k))]) hx hb dX1_mix_279 hl (k := 5) rfl rfl (by decide) rfl (fun ls hl => ?_)
          refine lv_goto (tgt := 235) hx hb dX1_mix_282 (by decide) ?_
          have e9 : mcF v st j k (o + 1) = ((mcF v st j k o) + (0 : Int32)) := by rw [mcF, if_neg c_2, if_neg c_3]
          exact ih (o + 1) (by omega) (by omega) H locs ls hP hD hS (by rw [← nI_1, e9]; exact lv_sub hl [2, 3, 4, 5, 1, 0] rfl)
        · refine lv_aload_n hx hb dX1_mix_260 rfl (lv_at hl 0 rfl) ?_
          refine md_get hx hb hts hin0 hown hK hP 6 (by decide) (hts (.fieldLink RX1 30 "ConferenceBridgeModel" "sample" "[I") (by decide +kernel)) (z := .ref (ad 6)) rfl dX1_mix_261 ?_
          refine lv_bipush (v := 8) hx hb dX1_mix_264 (by decide) ?_
          refine lv_iload hx hb dX1_mix_266 (lv_at hl 5 rfl) ?_
          refine lv_imul hx hb dX1_mix_268 ?_
          refine lv_iload_n hx hb dX1_mix_269 rfl (lv_at hl 3 rfl) ?_
          refine lv_iadd hx hb dX1_mix_270 ?_
          refine lv_topi (fun x_4 ex_4 => ?_)
          obtain rfl : x_4 = nI (8 * o + k) := ex_4.trans md_ixN
          refine cb_iald hx hb hK hP 6 0 (f := mdV v) rfl rfl (show 8 * o + k < 64 by have h8 := ho; have h9 := hk; omega) (by decide) dX1_mix_271 ?_
          refine lv_goto (tgt := 276) hx hb dX1_mix_272 (by decide) ?_
          refine lv_iadd hx hb dX1_mix_276 ?_
          refine lv_istore (lv' := [(4, .int (((mcF v st j k o) + (mdV v ((8 * o + k)))))), (0, .ref (ad 0)), (1, .int (st)), (2, .int (nI j)), (3, .int (nI k)), (5, .int (nI o))]) hx hb dX1_mix_277 hl (by decide) rfl (fun ls hl => ?_)
          refine lv_iinc (v := ((nI o) + (1 : Int32))) (lv' := [(5, .int (((nI o) + (1 : Int32)))), (4, .int (((mcF v st j k o) + (mdV v ((8 * o + k)))))), (0, .ref (ad 0)), (1, .int (st)), (2, .int (nI j)), (3, .int (nI k))]) hx hb dX1_mix_279 hl (k := 5) rfl rfl (by decide) rfl (fun ls hl => ?_)
          refine lv_goto (tgt := 235) hx hb dX1_mix_282 (by decide) ?_
          have e9 : mcF v st j k (o + 1) = ((mcF v st j k o) + (mdV v ((8 * o + k)))) := by rw [mcF, if_neg c_2, if_pos c_3]
          exact ih (o + 1) (by omega) (by omega) H locs ls hP hD hS (by rw [← nI_1, e9]; exact lv_sub hl [2, 3, 4, 5, 1, 0] rfl)

set_option maxHeartbeats 4000000 in
set_option maxRecDepth 100000 in
theorem lpX1_mix_223 {p : Program} {l : Launch} {e : Env} {s : State} {m : MethodId} {args : Array Value} {below : List Frame} {meth : Method} {c : Code} {Q : State → Prop} {A : Nat → Prop} {dC : Nat → ClassId} {dI : Nat → Nat → Nat} {ct : Nat → ClassId} {ad : Nat → Nat} (hx : p.tables.exec = Jvm.exec) (hb : c.code = cX1_mix) (hml : c.maxLocals = 6) (hown : s.vm.findClass RX1 = some m.cls) (hts : ∀ w ∈ wsX1_mix, w.before args s = true) (hin0 : ∀ w ∈ u_ws RX1 TX1 9, w ∈ wsX1_mix) (hK : va_K (dC, dI) vwCl (cb_ty ct) s) (hA : ∀ q : Nat, s.heap.size ≤ q → A q) (v : md_U) (hL : ∀ i, i < 8 → mdL v i = 0 ∨ mdL v i = 1) (st : Int32) (j : Nat) (hj : j < 8) (O0 : Nat → Int32)
    (kk : ∀ (H : Heap) (locs : List Loc) (ls : Array Slot), va_P (dC, dI) vwCl (md_w ct ad ((md_sO v (mcO v st j O0 8)))) H → va_D A (md_w ct ad ((md_sO v (mcO v st j O0 8)))) → va_S A s.heap H locs → lv_has ls 6 [(0, .ref (ad 0)), (1, .int (st)), (2, .int (nI j)), (3, .int (nI 8))] → W p l e ({ frames := 2, cells := 0, slots := 0, locals := 43 }) s m args below meth c H locs 0 0 Q (F0 m 317 ls [])) :
    ∀ (n k : Nat), k ≤ 8 → 9 ≤ k + n → ∀ (H : Heap) (locs : List Loc) (ls : Array Slot), va_P (dC, dI) vwCl (md_w ct ad ((md_sO v (mcO v st j O0 k)))) H → va_D A (md_w ct ad ((md_sO v (mcO v st j O0 k)))) → va_S A s.heap H locs → lv_has ls 6 [(0, .ref (ad 0)), (1, .int (st)), (2, .int (nI j)), (3, .int (nI k))] → W p l e ({ frames := 2, cells := 0, slots := 0, locals := 43 }) s m args below meth c H locs 0 0 Q (F0 m 223 ls []) := by
  intro n
  induction n with
  | zero => intro k h1 h2; exact absurd h2 (by omega)
  | succ n ih =>
    intro k h1 h2 H locs ls hP hD hS hl
    refine lv_iload_n hx hb dX1_mix_223 rfl (lv_at hl 3 rfl) ?_
    refine lv_bipush (v := 8) hx hb dX1_mix_224 (by decide) ?_
    refine lv_icmp_ge (tgt := 317) hx hb dX1_mix_226 (by decide) (fun c_1 => ?_) (fun c_1 => ?_)
    · have hk8 : k = 8 := Nat.le_antisymm h1 ((nI_leI (a := 8) (by decide) (by omega)).mp c_1)
      subst hk8
      exact kk H locs ls hP hD hS (lv_sub hl [0, 1, 2, 3] rfl)
    · have hk : k < 8 := Nat.lt_of_not_le (fun q => c_1 (nI_le (a := 8) q (by omega)))
      refine lv_iconst (v := 0) hx hb dX1_mix_229 (by decide) ?_
      refine lv_istore (lv' := [(4, .int (0)), (0, .ref (ad 0)), (1, .int (st)), (2, .int (nI j)), (3, .int (nI k))]) hx hb dX1_mix_230 hl (by decide) rfl (fun ls hl => ?_)
      refine lv_iconst (v := 0) hx hb dX1_mix_232 (by decide) ?_
      refine lv_istore (lv' := [(5, .int (0)), (4, .int (0)), (0, .ref (ad 0)), (1, .int (st)), (2, .int (nI j)), (3, .int (nI k))]) hx hb dX1_mix_233 hl (by decide) rfl (fun ls hl => ?_)
      refine lpX1_mix_235 hx hb hml hown hts hin0 hK hA v st j k hj hk (mcO v st j O0 k) (fun H locs ls hP hD hS hl => ?_) 9 0 (by decide) (by decide) _ _ ls hP hD hS (lv_sub hl [2, 3, 4, 5, 1, 0] rfl)
      refine lv_aload_n hx hb dX1_mix_285 rfl (lv_at hl 0 rfl) ?_
      refine md_get hx hb hts hin0 hown hK hP 5 (by decide) (hts (.fieldLink RX1 27 "ConferenceBridgeModel" "out" "[I") (by decide +kernel)) (z := .ref (ad 5)) rfl dX1_mix_286 ?_
      refine lv_bipush (v := 8) hx hb dX1_mix_289 (by decide) ?_
      refine lv_iload_n hx hb dX1_mix_291 rfl (lv_at hl 2 rfl) ?_
      refine lv_imul hx hb dX1_mix_292 ?_
      refine lv_iload_n hx hb dX1_mix_293 rfl (lv_at hl 3 rfl) ?_
      refine lv_iadd hx hb dX1_mix_294 ?_
      refine lv_topi (fun x_2 ex_2 => ?_)
      obtain rfl : x_2 = nI (8 * j + k) := ex_2.trans md_ixN
      refine lv_aload_n hx hb dX1_mix_295 rfl (lv_at hl 0 rfl) ?_
      refine md_get hx hb hts hin0 hown hK hP 1 (by decide) (hts (.fieldLink RX1 13 "ConferenceBridgeModel" "law" "[I") (by decide +kernel)) (z := .ref (ad 1)) rfl dX1_mix_296 ?_
      refine lv_iload_n hx hb dX1_mix_299 rfl (lv_at hl 2 rfl) ?_
      refine cb_iald hx hb hK hP 1 0 (f := mdL v) rfl rfl hj (by decide) dX1_mix_300 ?_
      refine lv_iload hx hb dX1_mix_301 (lv_at hl 4 rfl) ?_
      refine lv_i2l (v := (mcF v st j k 8).toInt64) hx hb dX1_mix_303 rfl ?_
      refine vp_callSi (W.runS (As := [.long ((mcF v st j k 8).toInt64)]) (rest := [.int ((mdL v j)), .int (nI (8 * j + k)), .ref (ad 5)]) ⟨hx, hb, hml, hown, hts⟩ (metX1_held l ((mcF v st j k 8).toInt64)) (va_cwS 1 hts gX1_mix_X1_held rfl rfl rfl (by decide +kernel) ⟨(Nat.le_of_ble_eq_true rfl), (Nat.le_of_ble_eq_true rfl)⟩) ⟨fun a U g mk q => q, fun U hU hW => ⟨rfl, trivial⟩⟩ rfl rfl hl.1 rfl (lv_room (Nat.le_of_ble_eq_true rfl)) dX1_mix_304 ⟨(Nat.zero_le _), (Nat.zero_le _)⟩) (fun r_3 er_3 => ?_)
      subst er_3
      refine vp_callSi (W.runS (As := [.int ((mdL v j)), .int ((fnX1_held ((mcF v st j k 8).toInt64)))]) (rest := [.int (nI (8 * j + k)), .ref (ad 5)]) ⟨hx, hb, hml, hown, hts⟩ (metX1_codeOf l (mdL v j) (fnX1_held ((mcF v st j k 8).toInt64)) (hL _ hj) (md_held_lo _) (md_held_hi _)) (va_cwS 2 hts gX1_mix_X1_codeOf rfl rfl rfl (by decide +kernel) ⟨(Nat.le_of_ble_eq_true rfl), (Nat.le_of_ble_eq_true rfl)⟩) ⟨fun a U g mk q => q, fun U hU hW => ⟨rfl, trivial⟩⟩ rfl rfl hl.1 rfl (lv_room (Nat.le_of_ble_eq_true rfl)) dX1_mix_307 ⟨(Nat.zero_le _), (Nat.zero_le _)⟩) (fun r_4 er_4 => ?_)
      subst er_4
      refine cb_iast hx hb hK hP hD hS 5 0 (f := mcO v st j O0 k) rfl rfl (show 8 * j + k < 64 by have h8 := hj; have h9 := hk; omega) (by decide) (ws1 := md_w ct ad ((md_sO v (upd (mcO v st j O0 k) ((8 * j + k)) (fnX1_codeOf (mdL v j) (fnX1_held ((mcF v st j k 8).toInt64))))))) rfl dX1_mix_310 (fun H locs hP hD hS => ?_)
      have hP : va_P (dC, dI) vwCl (md_w ct ad ((md_sO v (upd (mcO v st j O0 k) ((8 * j + k)) (fnX1_codeOf (mdL v j) (fnX1_held ((mcF v st j k 8).toInt64))))))) H := hP
      have hD : va_D A (md_w ct ad ((md_sO v (upd (mcO v st j O0 k) ((8 * j + k)) (fnX1_codeOf (mdL v j) (fnX1_held ((mcF v st j k 8).toInt64))))))) := hD
      refine lv_iinc (v := ((nI k) + (1 : Int32))) (lv' := [(3, .int (((nI k) + (1 : Int32)))), (0, .ref (ad 0)), (1, .int (st)), (2, .int (nI j)), (4, .int (mcF v st j k 8)), (5, .int (nI 8))]) hx hb dX1_mix_311 hl (k := 3) rfl rfl (by decide) rfl (fun ls hl => ?_)
      refine lv_goto (tgt := 223) hx hb dX1_mix_314 (by decide) ?_
      exact ih (k + 1) (by omega) (by omega) H locs ls hP hD hS (by rw [← nI_1]; exact lv_sub hl [1, 2, 3, 0] rfl)

set_option maxHeartbeats 4000000 in
set_option maxRecDepth 100000 in
theorem lpX1_mix_215 {p : Program} {l : Launch} {e : Env} {s : State} {m : MethodId} {args : Array Value} {below : List Frame} {meth : Method} {c : Code} {Q : State → Prop} {A : Nat → Prop} {dC : Nat → ClassId} {dI : Nat → Nat → Nat} {ct : Nat → ClassId} {ad : Nat → Nat} (hx : p.tables.exec = Jvm.exec) (hb : c.code = cX1_mix) (hml : c.maxLocals = 6) (hown : s.vm.findClass RX1 = some m.cls) (hts : ∀ w ∈ wsX1_mix, w.before args s = true) (hin0 : ∀ w ∈ u_ws RX1 TX1 9, w ∈ wsX1_mix) (hK : va_K (dC, dI) vwCl (cb_ty ct) s) (hA : ∀ q : Nat, s.heap.size ≤ q → A q) (v : md_U) (hL : ∀ i, i < 8 → mdL v i = 0 ∨ mdL v i = 1) (st : Int32)
    (kk : ∀ (H : Heap) (locs : List Loc) (ls : Array Slot), va_P (dC, dI) vwCl (md_w ct ad ((md_sO v (mcP v st 8)))) H → va_D A (md_w ct ad ((md_sO v (mcP v st 8)))) → va_S A s.heap H locs → lv_has ls 6 [(0, .ref (ad 0)), (1, .int (st)), (2, .int (nI 8))] → W p l e ({ frames := 2, cells := 0, slots := 0, locals := 43 }) s m args below meth c H locs 0 0 Q (F0 m 323 ls [])) :
    ∀ (n j : Nat), j ≤ 8 → 9 ≤ j + n → ∀ (H : Heap) (locs : List Loc) (ls : Array Slot), va_P (dC, dI) vwCl (md_w ct ad ((md_sO v (mcP v st j)))) H → va_D A (md_w ct ad ((md_sO v (mcP v st j)))) → va_S A s.heap H locs → lv_has ls 6 [(0, .ref (ad 0)), (1, .int (st)), (2, .int (nI j))] → W p l e ({ frames := 2, cells := 0, slots := 0, locals := 43 }) s m args below meth c H locs 0 0 Q (F0 m 215 ls []) := by
  intro n
  induction n with
  | zero => intro j h1 h2; exact absurd h2 (by omega)
  | succ n ih =>
    intro j h1 h2 H locs ls hP hD hS hl
    refine lv_iload_n hx hb dX1_mix_215 rfl (lv_at hl 2 rfl) ?_
    refine lv_bipush (v := 8) hx hb dX1_mix_216 (by decide) ?_
    refine lv_icmp_ge (tgt := 323) hx hb dX1_mix_218 (by decide) (fun c_1 => ?_) (fun c_1 => ?_)
    · have hk8 : j = 8 := Nat.le_antisymm h1 ((nI_leI (a := 8) (by decide) (by omega)).mp c_1)
      subst hk8
      exact kk H locs ls hP hD hS (lv_sub hl [0, 1, 2] rfl)
    · have hj : j < 8 := Nat.lt_of_not_le (fun q => c_1 (nI_le (a := 8) q (by omega)))
      refine lv_iconst (v := 0) hx hb dX1_mix_221 (by decide) ?_
      refine lv_istore_n (lv' := [(3, .int (0)), (0, .ref (ad 0)), (1, .int (st)), (2, .int (nI j))]) hx hb dX1_mix_222 rfl hl (by decide) rfl (fun ls hl => ?_)
      refine lpX1_mix_223 hx hb hml hown hts hin0 hK hA v hL st j hj (mcP v st j) (fun H locs ls hP hD hS hl => ?_) 9 0 (by decide) (by decide) _ _ ls hP hD hS (lv_sub hl [1, 2, 3, 0] rfl)
      refine lv_iinc (v := ((nI j) + (1 : Int32))) (lv' := [(2, .int (((nI j) + (1 : Int32)))), (0, .ref (ad 0)), (1, .int (st)), (3, .int (nI 8))]) hx hb dX1_mix_317 hl (k := 2) rfl rfl (by decide) rfl (fun ls hl => ?_)
      refine lv_goto (tgt := 215) hx hb dX1_mix_320 (by decide) ?_
      exact ih (j + 1) (by omega) (by omega) H locs ls hP hD hS (by rw [← nI_1]; exact lv_sub hl [1, 2, 0] rfl)

set_option maxHeartbeats 4000000 in
set_option maxRecDepth 100000 in
theorem metX1_mix (l : Launch) (dC : Nat → ClassId) (dI : Nat → Nat → Nat) (ct : Nat → ClassId) (ad : Nat → Nat) (sz : Nat) (v : md_U) (hL : ∀ i, i < 8 → mdL v i = 0 ∨ mdL v i = 1) (hI : ∀ i, i < 64 → vp_in (mdI v i) 256) (M : Nat) (hM : M ≤ 8) (eM : mdM v = nI M) : Met l yX1_mix wsX1_mix ({ frames := 2, cells := 0, slots := 0, locals := 43 }) (va_Pc [.ref (ad 0)] (fun U => U.heap.size = sz ∧ md_B dC dI ct ad (fun _ => True) v U)) (va_Qi (fun r (_ : Unit) => r = anX1_mix v M) (fun _ => md_B dC dI ct ad (va_A (md_w ct ad v) sz) (stX1_mix v M)) (va_A (md_w ct ad v) sz)) 0 0 (va_A (md_w ct ad v) sz) := by
  refine Met.ofW (cc := cX1_mix) (maxL := 6) (ret := (some .int)) (by decide) rfl ?_
  intro p e s m args below meth c s₁ B hml hv
  obtain ⟨rfl, hsz, hP, hK, hD0⟩ := hv
  have hx := B.exec
  have hb := B.bytes
  have hr := B.returns
  have hts := atoms_spec (ws := wsX1_mix) B.pre
  have hown : s.vm.findClass RX1 = some m.cls := findClass_of_methodNamed B.named
  have hlocks := B.notSynchronized
  have hin0 : ∀ w ∈ u_ws RX1 TX1 9, w ∈ wsX1_mix := by decide +kernel
  subst hsz
  have hD := hD0.self (sz := s.heap.size)
  generalize hAe : va_A (md_w ct ad v) s.heap.size = A at hD ⊢
  have hA : ∀ q : Nat, s.heap.size ≤ q → A q := fun q h => by rw [← hAe]; exact Or.inr h
  have hS : va_S A s.heap s.heap [] := va_S.rf
  have hl := lv_entry ([.ref (ad 0)]) (n := 6) (Nat.le_of_ble_eq_true rfl)
  rw [lg_entry_eq]
  generalize (lg_sl ([.ref (ad 0)]) ++ List.replicate (6 - (lg_sl ([.ref (ad 0)])).length) Slot.unset).toArray = ls at hl ⊢
  have hl : lv_has ls 6 [(0, .ref (ad 0))] := hl
  refine lv_aload_n hx hb dX1_mix_0 rfl (lv_at hl 0 rfl) ?_
  refine lv_iconst (v := 0) hx hb dX1_mix_1 (by decide) ?_
  refine md_putT hx hb hts hin0 hown hK hP hD hS (hts (.fieldLink RX1 7 "ConferenceBridgeModel" "thrownCode" "I") (by decide +kernel)) dX1_mix_2 (fun H locs hP hD hS => ?_)
  have hP : va_P (dC, dI) vwCl (md_w ct ad ((md_sT v (0)))) H := hP
  have hD : va_D A (md_w ct ad ((md_sT v (0)))) := hD
  refine lv_iconst (v := 0) hx hb dX1_mix_5 (by decide) ?_
  refine lv_istore_n (lv' := [(1, .int (0)), (0, .ref (ad 0))]) hx hb dX1_mix_6 rfl hl (by decide) rfl (fun ls hl => ?_)
  refine lpX1_mix_7 hx hb hml hown hts hin0 hK hA v hL hI (fun H locs ls hP hD hS hl => ?_) 9 0 (by decide) (by decide) _ _ ls hP hD hS (lv_sub hl [1, 0] rfl)
  have hP : va_P (dC, dI) vwCl (md_w ct ad (mdHear v)) H := hP
  have hD : va_D A (md_w ct ad (mdHear v)) := hD
  refine lv_iconst (v := 0) hx hb dX1_mix_100 (by decide) ?_
  refine lv_istore_n (lv' := [(1, .int (0)), (0, .ref (ad 0))]) hx hb dX1_mix_101 rfl hl (by decide) rfl (fun ls hl => ?_)
  refine lv_iconst (v := 0) hx hb dX1_mix_102 (by decide) ?_
  refine lv_istore_n (lv' := [(2, .int (0)), (1, .int (0)), (0, .ref (ad 0))]) hx hb dX1_mix_103 rfl hl (by decide) rfl (fun ls hl => ?_)
  refine lpX1_mix_104 hx hb hml hown hts hin0 hK hA (mdHear v) M hM eM (msF (mdHear v) M 0) (fun i H locs ls hP hD hS hl => ?_) (M + 1) 0 0 (by omega) (by omega) rfl _ _ ls hP hD hS (lv_sub hl [2, 1, 0] rfl)
  refine lv_iconst (v := 0) hx hb dX1_mix_213 (by decide) ?_
  refine lv_istore_n (lv' := [(2, .int (0)), (0, .ref (ad 0)), (1, .int (msF (mdHear v) M 0))]) hx hb dX1_mix_214 rfl hl (by decide) rfl (fun ls hl => ?_)
  refine lpX1_mix_215 hx hb hml hown hts hin0 hK hA (mdHear v) hL (msF (mdHear v) M 0) (fun H locs ls hP hD hS hl => ?_) 9 0 (by decide) (by decide) _ _ ls hP hD hS (lv_sub hl [1, 2, 0] rfl)
  refine lv_iload_n hx hb dX1_mix_323 rfl (lv_at hl 1 rfl) ?_
  have e9 : stX1_mix v M = (md_sO (mdHear v) (mcP (mdHear v) (msF (mdHear v) M 0) 8)) := rfl
  exact W.iret (v := msF (mdHear v) M 0) hx hb hr (fun t ht hW => ⟨⟨msF (mdHear v) M 0, (), rfl, rfl, by rw [ht, e9]; exact hP, va_K.moved hW.alike hK, by rw [e9]; exact hD⟩, hS.F ht⟩) hS.2.2 dX1_mix_324
end
section
/-! the two sides' numbers agree -/
theorem pr_mean0 : ∀ n, n < 256 → fnX0_sampleByA (nI n) = fnX1_meaning_0 n ∧ -32768 ≤ (fnX0_sampleByA (nI n)).toInt ∧ (fnX0_sampleByA (nI n)).toInt ≤ 32767 := by decide +kernel
theorem pr_mean1 : ∀ n, n < 256 → fnX0_sampleByMu (nI n) = fnX1_meaning_1 n ∧ -32768 ≤ (fnX0_sampleByMu (nI n)).toInt ∧ (fnX0_sampleByMu (nI n)).toInt ≤ 32767 := by decide +kernel
def pcA (top p : Int32) : Int32 := if 16 ≤ p then (if (((fnX0_highestPlace p) - (4 : Int32)) + (1 : Int32)) = 0 then ((((top ||| ((((fnX0_highestPlace p) - (4 : Int32)) + (1 : Int32)) <<< ((4 : Int32) &&& 31))) ||| (p &&& (15 : Int32))) ^^^ (85 : Int32))) else ((((top ||| ((((fnX0_highestPlace p) - (4 : Int32)) + (1 : Int32)) <<< ((4 : Int32) &&& 31))) ||| ((p >>> (((((fnX0_highestPlace p) - (4 : Int32)) + (1 : Int32)) - (1 : Int32)) &&& 31)) &&& (15 : Int32))) ^^^ (85 : Int32)))) else ((((top ||| ((0 : Int32) <<< ((4 : Int32) &&& 31))) ||| (p &&& (15 : Int32))) ^^^ (85 : Int32)))
theorem pcA_is (x : Int32) : fnX0_codeByA x = if 0 ≤ x then pcA 128 (x / 16) else pcA 0 (((-1) - x) / 16) := rfl
def pmA (top : Int32) (v : Nat) : Int32 := if nI (mdHalf 32 6 v 0).1 < 16 then ((((top + ((16 : Int32) * (nI (mdHalf 32 6 v 0).2))) + ((nI (mdHalf 32 6 v 0).1) - (nI (mdHalf 32 6 v 0).1) / (16 : Int32) * (16 : Int32))) ^^^ (85 : Int32))) else ((((top + ((16 : Int32) * ((nI (mdHalf 32 6 v 0).2) + (1 : Int32)))) + ((nI (mdHalf 32 6 v 0).1) - (nI (mdHalf 32 6 v 0).1) / (16 : Int32) * (16 : Int32))) ^^^ (85 : Int32)))
theorem pmA_is (x : Int32) : fnX1_codeOf_0 x = if 0 ≤ x then pmA 128 (x.toInt.toNat / 16) else pmA 0 ((-1 - x.toInt).toNat / 16) := rfl
theorem pr_A : ∀ v, v < 2048 → (pcA 128 (nI v) = pmA 128 v ∧ 0 ≤ (pmA 128 v).toInt ∧ (pmA 128 v).toInt < 256) ∧ (pcA 0 (nI v) = pmA 0 v ∧ 0 ≤ (pmA 0 v).toInt ∧ (pmA 0 v).toInt < 256) := by decide +kernel
end
section
/-! mu-law: the segment by its place; gains; the two coders over any law -/
theorem pr_hp0 {v : Nat} (h1 : 128 ≤ v) (h2 : v < 256) : fnX0_highestPlace (nI v) = 7 := by
  unfold fnX0_highestPlace fnJ6_numberOfLeadingZeros_0f7a4
  have c0 : (0 : Int32) < nI v := (nI_ltI (a := 0) (by decide) (by omega)).mpr (by omega)
  have c1 : nI (v) < (65536 : Int32) := (nI_ltI (b := 65536) (by omega) (by decide)).mpr (by omega)
  have c2 : nI (v) < (256 : Int32) := (nI_ltI (b := 256) (by omega) (by decide)).mpr (by omega)
  have c3 : ¬ nI (v) < (16 : Int32) := fun q => absurd ((nI_ltI (b := 16) (by omega) (by decide)).mp q) (by omega)
  have w0 : ((nI (v)).toUInt32 >>> ((4 : Int32).toUInt32 &&& Int32.toUInt32 31)).toInt32 = nI (v / 16) := pk_ushrN (by omega) 4 4 (by decide)
  have c4 : ¬ nI (v / 16) < (4 : Int32) := fun q => absurd ((nI_ltI (b := 4) (by omega) (by decide)).mp q) (by omega)
  have w1 : ((nI (v / 16)).toUInt32 >>> ((2 : Int32).toUInt32 &&& Int32.toUInt32 31)).toInt32 = nI (v / 16 / 4) := pk_ushrN (by omega) 2 2 (by decide)
  have w2 : ((nI (v / 16 / 4)).toUInt32 >>> ((1 : Int32).toUInt32 &&& Int32.toUInt32 31)).toInt32 = nI (v / 16 / 4 / 2) := pk_ushrN (by omega) 1 1 (by decide)
  simp only [w0, w1, w2]
  rw [if_pos c0, if_pos c1, if_pos c2, if_neg c3, if_neg c4]
  have e9 : v / 16 / 4 / 2 = 1 := by omega
  rw [e9]
  rfl
theorem pr_hp1 {v : Nat} (h1 : 256 ≤ v) (h2 : v < 512) : fnX0_highestPlace (nI v) = 8 := by
  unfold fnX0_highestPlace fnJ6_numberOfLeadingZeros_0f7a4
  have c0 : (0 : Int32) < nI v := (nI_ltI (a := 0) (by decide) (by omega)).mpr (by omega)
  have c1 : nI (v) < (65536 : Int32) := (nI_ltI (b := 65536) (by omega) (by decide)).mpr (by omega)
  have c2 : ¬ nI (v) < (256 : Int32) := fun q => absurd ((nI_ltI (b := 256) (by omega) (by decide)).mp q) (by omega)
  have w0 : ((nI (v)).toUInt32 >>> ((8 : Int32).toUInt32 &&& Int32.toUInt32 31)).toInt32 = nI (v / 256) := pk_ushrN (by omega) 8 8 (by decide)
  have c3 : nI (v / 256) < (16 : Int32) := (nI_ltI (b := 16) (by omega) (by decide)).mpr (by omega)
  have c4 : nI (v / 256) < (4 : Int32) := (nI_ltI (b := 4) (by omega) (by decide)).mpr (by omega)
  have w1 : ((nI (v / 256)).toUInt32 >>> ((1 : Int32).toUInt32 &&& Int32.toUInt32 31)).toInt32 = nI (v / 256 / 2) := pk_ushrN (by omega) 1 1 (by decide)
  simp only [w0, w1]
  rw [if_pos c0, if_pos c1, if_neg c2, if_pos c3, if_pos c4]
  have e9 : v / 256 / 2 = 0 := by omega
  rw [e9]
  rfl
theorem pr_hp2 {v : Nat} (h1 : 512 ≤ v) (h2 : v < 1024) : fnX0_highestPlace (nI v) = 9 := by
  unfold fnX0_highestPlace fnJ6_numberOfLeadingZeros_0f7a4
  have c0 : (0 : Int32) < nI v := (nI_ltI (a := 0) (by decide) (by omega)).mpr (by omega)
  have c1 : nI (v) < (65536 : Int32) := (nI_ltI (b := 65536) (by omega) (by decide)).mpr (by omega)
  have c2 : ¬ nI (v) < (256 : Int32) := fun q => absurd ((nI_ltI (b := 256) (by omega) (by decide)).mp q) (by omega)
  have w0 : ((nI (v)).toUInt32 >>> ((8 : Int32).toUInt32 &&& Int32.toUInt32 31)).toInt32 = nI (v / 256) := pk_ushrN (by omega) 8 8 (by decide)
  have c3 : nI (v / 256) < (16 : Int32) := (nI_ltI (b := 16) (by omega) (by decide)).mpr (by omega)
  have c4 : nI (v / 256) < (4 : Int32) := (nI_ltI (b := 4) (by omega) (by decide)).mpr (by omega)
  have w1 : ((nI (v / 256)).toUInt32 >>> ((1 : Int32).toUInt32 &&& Int32.toUInt32 31)).toInt32 = nI (v / 256 / 2) := pk_ushrN (by omega) 1 1 (by decide)
  simp only [w0, w1]
  rw [if_pos c0, if_pos c1, if_neg c2, if_pos c3, if_pos c4]
  have e9 : v / 256 / 2 = 1 := by omega
  rw [e9]
  rfl
theorem pr_hp3 {v : Nat} (h1 : 1024 ≤ v) (h2 : v < 2048) : fnX0_highestPlace (nI v) = 10 := by
  unfold fnX0_highestPlace fnJ6_numberOfLeadingZeros_0f7a4
  have c0 : (0 : Int32) < nI v := (nI_ltI (a := 0) (by decide) (by omega)).mpr (by omega)
  have c1 : nI (v) < (65536 : Int32) := (nI_ltI (b := 65536) (by omega) (by decide)).mpr (by omega)
  have c2 : ¬ nI (v) < (256 : Int32) := fun q => absurd ((nI_ltI (b := 256) (by omega) (by decide)).mp q) (by omega)
  have w0 : ((nI (v)).toUInt32 >>> ((8 : Int32).toUInt32 &&& Int32.toUInt32 31)).toInt32 = nI (v / 256) := pk_ushrN (by omega) 8 8 (by decide)
  have c3 : nI (v / 256) < (16 : Int32) := (nI_ltI (b := 16) (by omega) (by decide)).mpr (by omega)
  have c4 : ¬ nI (v / 256) < (4 : Int32) := fun q => absurd ((nI_ltI (b := 4) (by omega) (by decide)).mp q) (by omega)
  have w1 : ((nI (v / 256)).toUInt32 >>> ((2 : Int32).toUInt32 &&& Int32.toUInt32 31)).toInt32 = nI (v / 256 / 4) := pk_ushrN (by omega) 2 2 (by decide)
  have w2 : ((nI (v / 256 / 4)).toUInt32 >>> ((1 : Int32).toUInt32 &&& Int32.toUInt32 31)).toInt32 = nI (v / 256 / 4 / 2) := pk_ushrN (by omega) 1 1 (by decide)
  simp only [w0, w1, w2]
  rw [if_pos c0, if_pos c1, if_neg c2, if_pos c3, if_neg c4]
  have e9 : v / 256 / 4 / 2 = 0 := by omega
  rw [e9]
  rfl
theorem pr_hp4 {v : Nat} (h1 : 2048 ≤ v) (h2 : v < 4096) : fnX0_highestPlace (nI v) = 11 := by
  unfold fnX0_highestPlace fnJ6_numberOfLeadingZeros_0f7a4
  have c0 : (0 : Int32) < nI v := (nI_ltI (a := 0) (by decide) (by omega)).mpr (by omega)
  have c1 : nI (v) < (65536 : Int32) := (nI_ltI (b := 65536) (by omega) (by decide)).mpr (by omega)
  have c2 : ¬ nI (v) < (256 : Int32) := fun q => absurd ((nI_ltI (b := 256) (by omega) (by decide)).mp q) (by omega)
  have w0 : ((nI (v)).toUInt32 >>> ((8 : Int32).toUInt32 &&& Int32.toUInt32 31)).toInt32 = nI (v / 256) := pk_ushrN (by omega) 8 8 (by decide)
  have c3 : nI (v / 256) < (16 : Int32) := (nI_ltI (b := 16) (by omega) (by decide)).mpr (by omega)
  have c4 : ¬ nI (v / 256) < (4 : Int32) := fun q => absurd ((nI_ltI (b := 4) (by omega) (by decide)).mp q) (by omega)
  have w1 : ((nI (v / 256)).toUInt32 >>> ((2 : Int32).toUInt32 &&& Int32.toUInt32 31)).toInt32 = nI (v / 256 / 4) := pk_ushrN (by omega) 2 2 (by decide)
  have w2 : ((nI (v / 256 / 4)).toUInt32 >>> ((1 : Int32).toUInt32 &&& Int32.toUInt32 31)).toInt32 = nI (v / 256 / 4 / 2) := pk_ushrN (by omega) 1 1 (by decide)
  simp only [w0, w1, w2]
  rw [if_pos c0, if_pos c1, if_neg c2, if_pos c3, if_neg c4]
  have e9 : v / 256 / 4 / 2 = 1 := by omega
  rw [e9]
  rfl
theorem pr_hp5 {v : Nat} (h1 : 4096 ≤ v) (h2 : v < 8192) : fnX0_highestPlace (nI v) = 12 := by
  unfold fnX0_highestPlace fnJ6_numberOfLeadingZeros_0f7a4
  have c0 : (0 : Int32) < nI v := (nI_ltI (a := 0) (by decide) (by omega)).mpr (by omega)
  have c1 : nI (v) < (65536 : Int32) := (nI_ltI (b := 65536) (by omega) (by decide)).mpr (by omega)
  have c2 : ¬ nI (v) < (256 : Int32) := fun q => absurd ((nI_ltI (b := 256) (by omega) (by decide)).mp q) (by omega)
  have w0 : ((nI (v)).toUInt32 >>> ((8 : Int32).toUInt32 &&& Int32.toUInt32 31)).toInt32 = nI (v / 256) := pk_ushrN (by omega) 8 8 (by decide)
  have c3 : ¬ nI (v / 256) < (16 : Int32) := fun q => absurd ((nI_ltI (b := 16) (by omega) (by decide)).mp q) (by omega)
  have w1 : ((nI (v / 256)).toUInt32 >>> ((4 : Int32).toUInt32 &&& Int32.toUInt32 31)).toInt32 = nI (v / 256 / 16) := pk_ushrN (by omega) 4 4 (by decide)
  have c4 : nI (v / 256 / 16) < (4 : Int32) := (nI_ltI (b := 4) (by omega) (by decide)).mpr (by omega)
  have w2 : ((nI (v / 256 / 16)).toUInt32 >>> ((1 : Int32).toUInt32 &&& Int32.toUInt32 31)).toInt32 = nI (v / 256 / 16 / 2) := pk_ushrN (by omega) 1 1 (by decide)
  simp only [w0, w1, w2]
  rw [if_pos c0, if_pos c1, if_neg c2, if_neg c3, if_pos c4]
  have e9 : v / 256 / 16 / 2 = 0 := by omega
  rw [e9]
  rfl
theorem pr_hp6 {v : Nat} (h1 : 8192 ≤ v) (h2 : v < 16384) : fnX0_highestPlace (nI v) = 13 := by
  unfold fnX0_highestPlace fnJ6_numberOfLeadingZeros_0f7a4
  have c0 : (0 : Int32) < nI v := (nI_ltI (a := 0) (by decide) (by omega)).mpr (by omega)
  have c1 : nI (v) < (65536 : Int32) := (nI_ltI (b := 65536) (by omega) (by decide)).mpr (by omega)
  have c2 : ¬ nI (v) < (256 : Int32) := fun q => absurd ((nI_ltI (b := 256) (by omega) (by decide)).mp q) (by omega)
  have w0 : ((nI (v)).toUInt32 >>> ((8 : Int32).toUInt32 &&& Int32.toUInt32 31)).toInt32 = nI (v / 256) := pk_ushrN (by omega) 8 8 (by decide)
  have c3 : ¬ nI (v / 256) < (16 : Int32) := fun q => absurd ((nI_ltI (b := 16) (by omega) (by decide)).mp q) (by omega)
  have w1 : ((nI (v / 256)).toUInt32 >>> ((4 : Int32).toUInt32 &&& Int32.toUInt32 31)).toInt32 = nI (v / 256 / 16) := pk_ushrN (by omega) 4 4 (by decide)
  have c4 : nI (v / 256 / 16) < (4 : Int32) := (nI_ltI (b := 4) (by omega) (by decide)).mpr (by omega)
  have w2 : ((nI (v / 256 / 16)).toUInt32 >>> ((1 : Int32).toUInt32 &&& Int32.toUInt32 31)).toInt32 = nI (v / 256 / 16 / 2) := pk_ushrN (by omega) 1 1 (by decide)
  simp only [w0, w1, w2]
  rw [if_pos c0, if_pos c1, if_neg c2, if_neg c3, if_pos c4]
  have e9 : v / 256 / 16 / 2 = 1 := by omega
  rw [e9]
  rfl
theorem pr_hp7 {v : Nat} (h1 : 16384 ≤ v) (h2 : v < 32768) : fnX0_highestPlace (nI v) = 14 := by
  unfold fnX0_highestPlace fnJ6_numberOfLeadingZeros_0f7a4
  have c0 : (0 : Int32) < nI v := (nI_ltI (a := 0) (by decide) (by omega)).mpr (by omega)
  have c1 : nI (v) < (65536 : Int32) := (nI_ltI (b := 65536) (by omega) (by decide)).mpr (by omega)
  have c2 : ¬ nI (v) < (256 : Int32) := fun q => absurd ((nI_ltI (b := 256) (by omega) (by decide)).mp q) (by omega)
  have w0 : ((nI (v)).toUInt32 >>> ((8 : Int32).toUInt32 &&& Int32.toUInt32 31)).toInt32 = nI (v / 256) := pk_ushrN (by omega) 8 8 (by decide)
  have c3 : ¬ nI (v / 256) < (16 : Int32) := fun q => absurd ((nI_ltI (b := 16) (by omega) (by decide)).mp q) (by omega)
  have w1 : ((nI (v / 256)).toUInt32 >>> ((4 : Int32).toUInt32 &&& Int32.toUInt32 31)).toInt32 = nI (v / 256 / 16) := pk_ushrN (by omega) 4 4 (by decide)
  have c4 : ¬ nI (v / 256 / 16) < (4 : Int32) := fun q => absurd ((nI_ltI (b := 4) (by omega) (by decide)).mp q) (by omega)
  have w2 : ((nI (v / 256 / 16)).toUInt32 >>> ((2 : Int32).toUInt32 &&& Int32.toUInt32 31)).toInt32 = nI (v / 256 / 16 / 4) := pk_ushrN (by omega) 2 2 (by decide)
  have w3 : ((nI (v / 256 / 16 / 4)).toUInt32 >>> ((1 : Int32).toUInt32 &&& Int32.toUInt32 31)).toInt32 = nI (v / 256 / 16 / 4 / 2) := pk_ushrN (by omega) 1 1 (by decide)
  simp only [w0, w1, w2, w3]
  rw [if_pos c0, if_pos c1, if_neg c2, if_neg c3, if_neg c4]
  have e9 : v / 256 / 16 / 4 / 2 = 0 := by omega
  rw [e9]
  rfl
def pcM (top w : Int32) : Int32 := ((((top ||| (((fnX0_highestPlace w) - (7 : Int32)) <<< ((4 : Int32) &&& 31))) ||| ((w >>> ((((fnX0_highestPlace w) - (7 : Int32)) + (3 : Int32)) &&& 31)) &&& (15 : Int32))) ^^^ (255 : Int32)))
def pcW (x : Int32) : Int32 := (if (32635 : Int32) < (if 0 ≤ x then x else 0 - x) then (32635 : Int32) else (if 0 ≤ x then x else 0 - x)) + (132 : Int32)
theorem pcM_is (x : Int32) : fnX0_codeByMu x = if 0 ≤ x then pcM 0 (pcW x) else pcM 128 (pcW x) := rfl
def pmM (top : Int32) (v : Nat) : Int32 := (255 : Int32) - ((top + ((16 : Int32) * (nI (mdHalf 256 8 v 0).2))) + (((nI (mdHalf 256 8 v 0).1) / (8 : Int32)) - ((nI (mdHalf 256 8 v 0).1) / (8 : Int32)) / (16 : Int32) * (16 : Int32)))
theorem pmM_is (x : Int32) : fnX1_codeOf_1 x = if 0 ≤ x then (if nI (x.toInt.toNat) ≤ 32635 then pmM 0 (x.toInt.toNat + 132) else pmM 0 32767) else (if nI ((-x.toInt).toNat) ≤ 32635 then pmM 128 ((-x.toInt).toNat + 132) else pmM 128 32767) := rfl
theorem pr_Mtab : ∀ s, s < 8 → ∀ m, m < 16 → ∀ t, t < 2 → ((((nI (128 * t) ||| ((nI (7 + s) - (7 : Int32)) <<< ((4 : Int32) &&& 31))) ||| nI m) ^^^ (255 : Int32)) = (255 : Int32) - ((nI (128 * t) + ((16 : Int32) * nI s)) + nI m)) ∧ 0 ≤ ((255 : Int32) - ((nI (128 * t) + ((16 : Int32) * nI s)) + nI m)).toInt ∧ ((255 : Int32) - ((nI (128 * t) + ((16 : Int32) * nI s)) + nI m)).toInt < 256 := by decide +kernel
theorem pr_half : ∀ (s f v j : Nat), s ≤ f → 2 ^ (7 + s) ≤ v → v < 2 ^ (8 + s) → mdHalf 256 f v j = (v / 2 ^ s, j + s)
  | 0, f, v, j, _, _, h2 => by rw [md_half_end (by simpa using h2)]; simp
  | s + 1, f, v, j, h, h1, h2 => by
    have e1 : 2 ^ (7 + (s + 1)) = 2 * 2 ^ (7 + s) := by rw [show 7 + (s + 1) = (7 + s) + 1 by omega, Nat.pow_succ]; omega
    have e2 : 2 ^ (8 + (s + 1)) = 2 * 2 ^ (8 + s) := by rw [show 8 + (s + 1) = (8 + s) + 1 by omega, Nat.pow_succ]; omega
    have p1 : 2 ^ 7 ≤ 2 ^ (7 + s) := Nat.pow_le_pow_right (by decide) (by omega)
    rw [e1] at h1; rw [e2] at h2
    match f, h with
    | f + 1, h =>
      rw [md_half_step (by omega), pr_half s f (v / 2) (j + 1) (by omega) (by omega) (by omega)]
      rw [Nat.div_div_eq_div_mul, show 2 * 2 ^ s = 2 ^ (s + 1) by rw [Nat.pow_succ]; omega, show j + 1 + s = j + (s + 1) by omega]
theorem pr_hpN : ∀ s, s < 8 → ∀ v, 2 ^ (7 + s) ≤ v → v < 2 ^ (8 + s) → fnX0_highestPlace (nI v) = nI (7 + s) := by
  intro s hs v h1 h2
  match s, hs, h1, h2 with
  | 0, _, h1, h2 => exact pr_hp0 h1 h2
  | 1, _, h1, h2 => exact pr_hp1 h1 h2
  | 2, _, h1, h2 => exact pr_hp2 h1 h2
  | 3, _, h1, h2 => exact pr_hp3 h1 h2
  | 4, _, h1, h2 => exact pr_hp4 h1 h2
  | 5, _, h1, h2 => exact pr_hp5 h1 h2
  | 6, _, h1, h2 => exact pr_hp6 h1 h2
  | 7, _, h1, h2 => exact pr_hp7 h1 h2
theorem pr_seg {v : Nat} (h1 : 132 ≤ v) (h2 : v < 32768) : ∃ s, s < 8 ∧ 2 ^ (7 + s) ≤ v ∧ v < 2 ^ (8 + s) := by
  by_cases a0 : v < 256
  · exact ⟨0, by omega, by omega, by omega⟩
  by_cases a1 : v < 512
  · exact ⟨1, by omega, by omega, by omega⟩
  by_cases a2 : v < 1024
  · exact ⟨2, by omega, by omega, by omega⟩
  by_cases a3 : v < 2048
  · exact ⟨3, by omega, by omega, by omega⟩
  by_cases a4 : v < 4096
  · exact ⟨4, by omega, by omega, by omega⟩
  by_cases a5 : v < 8192
  · exact ⟨5, by omega, by omega, by omega⟩
  by_cases a6 : v < 16384
  · exact ⟨6, by omega, by omega, by omega⟩
  · exact ⟨7, by omega, by omega, by omega⟩
theorem pr_sh : ∀ s, s < 8 → (((nI (7 + s) - (7 : Int32)) + (3 : Int32)) &&& 31).toBitVec.smod 32 = BitVec.ofNat 32 (s + 3) := by decide +kernel
theorem pr_M {v : Nat} (h1 : 132 ≤ v) (h2 : v < 32768) (t : Nat) (ht : t < 2) : pcM (nI (128 * t)) (nI v) = pmM (nI (128 * t)) v ∧ 0 ≤ (pmM (nI (128 * t)) v).toInt ∧ (pmM (nI (128 * t)) v).toInt < 256 := by
  obtain ⟨s, hs, a1, a2⟩ := pr_seg h1 h2
  have e1 : fnX0_highestPlace (nI v) = nI (7 + s) := pr_hpN s hs v a1 a2
  have e2 : mdHalf 256 8 v 0 = (v / 2 ^ s, 0 + s) := pr_half s 8 v 0 (by omega) a1 a2
  have hp : 0 < 2 ^ s := Nat.pow_pos (by decide)
  have hle : v / 2 ^ s ≤ v := Nat.div_le_self _ _
  have e3 : nI v >>> (((nI (7 + s) - (7 : Int32)) + (3 : Int32)) &&& 31) = nI (v / 2 ^ (s + 3)) := pk_shrN (by omega) _ (s + 3) (by rw [pr_sh s hs, BitVec.toNat_ofNat]; exact Nat.mod_eq_of_lt (by omega))
  have hle2 : v / 2 ^ (s + 3) ≤ v := Nat.div_le_self _ _
  have e4 : nI (v / 2 ^ (s + 3)) &&& (15 : Int32) = nI (v / 2 ^ (s + 3) % 16) := pk_andN (by omega) 4 (by decide)
  have e5 : nI (v / 2 ^ s) / (8 : Int32) = nI (v / 2 ^ s / 8) := pk_div (d := 8) (by omega) (by decide) (by decide)
  have e6 : nI (v / 2 ^ s / 8) - nI (v / 2 ^ s / 8) / (16 : Int32) * (16 : Int32) = nI (v / 2 ^ s / 8 % 16) := pk_rem (d := 16) (by omega) (by decide) (by decide)
  have e7 : v / 2 ^ s / 8 = v / 2 ^ (s + 3) := by rw [Nat.div_div_eq_div_mul, show 2 ^ s * 8 = 2 ^ (s + 3) by rw [Nat.pow_add]]
  obtain ⟨t1, t2, t3⟩ := pr_Mtab s hs (v / 2 ^ (s + 3) % 16) (Nat.mod_lt _ (by decide)) t ht
  have em : pmM (nI (128 * t)) v = (255 : Int32) - ((nI (128 * t) + ((16 : Int32) * nI s)) + nI (v / 2 ^ (s + 3) % 16)) := by
    unfold pmM
    rw [e2]
    show (255 : Int32) - ((nI (128 * t) + ((16 : Int32) * nI (0 + s))) + (nI (v / 2 ^ s) / (8 : Int32) - nI (v / 2 ^ s) / (8 : Int32) / (16 : Int32) * (16 : Int32))) = _
    rw [Nat.zero_add, e5, e6, e7]
  refine ⟨?_, by rw [em]; exact t2, by rw [em]; exact t3⟩
  rw [em, ← t1]
  unfold pcM
  rw [e1, e3, e4]
theorem pr_M0 {v : Nat} (h1 : 132 ≤ v) (h2 : v < 32768) : pcM 0 (nI v) = pmM 0 v ∧ 0 ≤ (pmM 0 v).toInt ∧ (pmM 0 v).toInt < 256 := by
  have h := pr_M h1 h2 0 (by decide)
  rw [show nI (128 * 0) = 0 by decide] at h
  exact h
theorem pr_M1 {v : Nat} (h1 : 132 ≤ v) (h2 : v < 32768) : pcM 128 (nI v) = pmM 128 v ∧ 0 ≤ (pmM 128 v).toInt ∧ (pmM 128 v).toInt < 256 := by
  have h := pr_M h1 h2 1 (by decide)
  rw [show nI (128 * 1) = 128 by decide] at h
  exact h
theorem pr_top : (32635 : Int32) + (132 : Int32) = nI 32767 := by decide
theorem pr_c0 (x : Int32) : fnX0_codeOf 0 x = fnX0_codeByA x := by unfold fnX0_codeOf; rw [if_pos rfl]
theorem pr_c1 (x : Int32) : fnX0_codeOf 1 x = fnX0_codeByMu x := by unfold fnX0_codeOf; rw [if_neg (by decide)]
theorem pr_d0 (x : Int32) : fnX1_codeOf 0 x = fnX1_codeOf_0 x := by unfold fnX1_codeOf; rw [if_pos rfl]
theorem pr_d1 (x : Int32) : fnX1_codeOf 1 x = fnX1_codeOf_1 x := by unfold fnX1_codeOf; rw [if_neg (by decide)]
theorem pr_nI0 (x : Int32) (h : 0 ≤ x.toInt) (h2 : x.toInt < 256) : vp_in x 256 := vp_in_iff.mpr ⟨h, h2⟩
theorem pr_code {a x : Int32} (ha : a = 0 ∨ a = 1) (hx1 : -32768 ≤ x.toInt) (hx2 : x.toInt ≤ 32767) : fnX0_codeOf a x = fnX1_codeOf a x ∧ vp_in (fnX1_codeOf a x) 256 := by
  rcases ha with rfl | rfl
  · rw [pr_c0, pr_d0, pcA_is, pmA_is]
    by_cases h : 0 ≤ x
    · rw [if_pos h, if_pos h]
      obtain ⟨ev, lv9⟩ := md_pos h hx2
      have e3 : x / 16 = nI (x.toInt.toNat / 16) := (congrArg (fun z : Int32 => z / 16) ev).trans (pk_div (d := 16) (by omega) (by decide) (by decide))
      obtain ⟨⟨q1, q2, q3⟩, -⟩ := pr_A (x.toInt.toNat / 16) (by omega)
      rw [e3]
      exact ⟨q1, pr_nI0 _ q2 q3⟩
    · rw [if_neg h, if_neg h]
      obtain ⟨ev, lv9⟩ := md_neg h hx1
      have e3 : ((-1) - x) / 16 = nI ((-1 - x.toInt).toNat / 16) := (congrArg (fun z : Int32 => z / 16) ev).trans (pk_div (d := 16) (by omega) (by decide) (by decide))
      obtain ⟨-, q1, q2, q3⟩ := pr_A ((-1 - x.toInt).toNat / 16) (by omega)
      rw [e3]
      exact ⟨q1, pr_nI0 _ q2 q3⟩
  · rw [pr_c1, pr_d1, pcM_is, pmM_is]
    by_cases h : 0 ≤ x
    · rw [if_pos h, if_pos h]
      obtain ⟨ev, lv9⟩ := md_pos h hx2
      unfold pcW
      rw [if_pos h]
      by_cases h3 : nI (x.toInt.toNat) ≤ 32635
      · rw [if_pos h3]
        have h3n : x.toInt.toNat ≤ 32635 := (nI_leI (b := 32635) (by omega) (by decide)).mp h3
        have h4 : ¬ (32635 : Int32) < x := by rw [ev]; exact fun q => absurd ((nI_ltI (a := 32635) (by decide) (by omega)).mp q) (by omega)
        have e5 : x + (132 : Int32) = nI (x.toInt.toNat + 132) := (congrArg (fun z : Int32 => z + 132) ev).trans (nI_add _ 132)
        rw [if_neg h4, e5]
        obtain ⟨q1, q2, q3⟩ := pr_M0 (v := x.toInt.toNat + 132) (by omega) (by omega)
        exact ⟨q1, pr_nI0 _ q2 q3⟩
      · rw [if_neg h3]
        have h3n : ¬ x.toInt.toNat ≤ 32635 := fun q => h3 ((nI_leI (b := 32635) (by omega) (by decide)).mpr q)
        have h4 : (32635 : Int32) < x := by rw [ev]; exact (nI_ltI (a := 32635) (by decide) (by omega)).mpr (by omega)
        rw [if_pos h4, pr_top]
        obtain ⟨q1, q2, q3⟩ := pr_M0 (v := 32767) (by omega) (by omega)
        exact ⟨q1, pr_nI0 _ q2 q3⟩
    · rw [if_neg h, if_neg h]
      obtain ⟨ev0, lv9⟩ := md_neg0 h hx1
      have ev : 0 - x = nI ((-x.toInt).toNat) := by rw [← ev0]; exact Int32.zero_sub x
      unfold pcW
      rw [if_neg h]
      by_cases h3 : nI ((-x.toInt).toNat) ≤ 32635
      · rw [if_pos h3]
        have h3n : (-x.toInt).toNat ≤ 32635 := (nI_leI (b := 32635) (by omega) (by decide)).mp h3
        have h4 : ¬ (32635 : Int32) < 0 - x := by rw [ev]; exact fun q => absurd ((nI_ltI (a := 32635) (by decide) (by omega)).mp q) (by omega)
        have e5 : 0 - x + (132 : Int32) = nI ((-x.toInt).toNat + 132) := (congrArg (fun z : Int32 => z + 132) ev).trans (nI_add _ 132)
        rw [if_neg h4, e5]
        obtain ⟨q1, q2, q3⟩ := pr_M1 (v := (-x.toInt).toNat + 132) (by omega) (by omega)
        exact ⟨q1, pr_nI0 _ q2 q3⟩
      · rw [if_neg h3]
        have h3n : ¬ (-x.toInt).toNat ≤ 32635 := fun q => h3 ((nI_leI (b := 32635) (by omega) (by decide)).mpr q)
        have h4 : (32635 : Int32) < 0 - x := by rw [ev]; exact (nI_ltI (a := 32635) (by decide) (by omega)).mpr (by omega)
        rw [if_pos h4, pr_top]
        obtain ⟨q1, q2, q3⟩ := pr_M1 (v := 32767) (by omega) (by omega)
        exact ⟨q1, pr_nI0 _ q2 q3⟩
theorem pr_mean {a b : Int32} (ha : a = 0 ∨ a = 1) (hb : vp_in b 256) : fnX0_sampleOf a b = fnX1_meaning a b ∧ -32768 ≤ (fnX1_meaning a b).toInt ∧ (fnX1_meaning a b).toInt ≤ 32767 := by
  obtain ⟨n, hn, rfl⟩ := vp_in_of hb (by decide)
  rcases ha with rfl | rfl
  · obtain ⟨q1, q2, q3⟩ := pr_mean0 n hn
    have e1 : fnX0_sampleOf 0 (nI n) = fnX0_sampleByA (nI n) := rfl
    have e2 : fnX1_meaning 0 (nI n) = fnX1_meaning_0 n := by unfold fnX1_meaning; rw [if_pos rfl, nI_clamp (by omega)]
    rw [e1, e2, ← q1]
    exact ⟨rfl, q2, q3⟩
  · obtain ⟨q1, q2, q3⟩ := pr_mean1 n hn
    have e1 : fnX0_sampleOf 1 (nI n) = fnX0_sampleByMu (nI n) := rfl
    have e2 : fnX1_meaning 1 (nI n) = fnX1_meaning_1 n := by unfold fnX1_meaning; rw [if_neg (by decide), nI_clamp (by omega)]
    rw [e1, e2, ← q1]
    exact ⟨rfl, q2, q3⟩
theorem pr_sat (x : Int64) : fnX0_saturated x = fnX1_held x := by
  unfold fnX0_saturated
  rcases md_held_cases x with ⟨h, e⟩ | ⟨h, e⟩ | ⟨h1, h2, e⟩
  · rw [e]
    have h1 : ¬ x < 32767 := by rw [Int64.lt_iff_toInt_lt]; show ¬ x.toInt < 32767; omega
    rw [if_neg h1]
    rfl
  · rw [e]
    have h1 : x < 32767 := by rw [Int64.lt_iff_toInt_lt]; show x.toInt < 32767; omega
    have h2 : x < -32768 := by rw [Int64.lt_iff_toInt_lt]; show x.toInt < -32768; omega
    rw [if_pos h1, if_pos h2]
    rfl
  · rw [e]
    by_cases h3 : x < 32767
    · have h4 : ¬ x < -32768 := by rw [Int64.lt_iff_toInt_lt]; show ¬ x.toInt < -32768; omega
      rw [if_pos h3, if_neg h4]
    · have h5 : x = 32767 := Int64.toInt_inj.mp (by rw [Int64.lt_iff_toInt_lt] at h3; have h3' : ¬ x.toInt < 32767 := h3; show x.toInt = 32767; omega)
      rw [if_neg h3, h5]
      rfl
theorem pr_xor (x : Int32) : 0 ≤ (x ^^^ (256 : Int32)) ↔ 0 ≤ x := by
  rw [Int32.le_iff_toInt_le, Int32.le_iff_toInt_le]
  show 0 ≤ (x.toBitVec ^^^ 256#32).toInt ↔ 0 ≤ x.toBitVec.toInt
  have h (b : BitVec 32) : 0 ≤ b.toInt ↔ b.msb = false := by
    rw [BitVec.toInt_eq_msb_cond]
    have := b.isLt
    cases hb : b.msb
    · simp
    · simp; omega
  rw [h, h, BitVec.msb_xor]
  have : (256#32).msb = false := by decide
  rw [this, Bool.xor_false]
theorem pr_tdiv {x : Int32} (h1 : -1073741824 < x.toInt) (h2 : x.toInt < 1073741824) : (x / (256 : Int32)).toInt = x.toInt.tdiv 256 := by
  rw [Int32.toInt_div]
  show (x.toInt.tdiv 256).bmod (2 ^ 32) = _
  have ha : (x.toInt.tdiv 256).natAbs ≤ x.toInt.natAbs := Int.natAbs_tdiv_le_natAbs _ _
  exact Int.bmod_eq_of_le (by omega) (by omega)
theorem pr_fdiv {x : Int32} (h1 : -1000000000 < x.toInt) (h2 : x.toInt < 1000000000) : fnJ9_floorDiv_7cf53 x 256 = if 0 ≤ x then x / 256 else -(((255 : Int32) - x) / 256) := by
  unfold fnJ9_floorDiv_7cf53
  by_cases h : 0 ≤ x
  · rw [if_pos ((pr_xor x).mpr h), if_pos h]
  · rw [if_neg (fun q => h ((pr_xor x).mp q)), if_neg h]
    have h0 : ¬ 0 ≤ x.toInt := by rw [Int32.le_iff_toInt_le] at h; exact h
    have hq := pr_tdiv (x := x) (by omega) (by omega)
    have hs : ((255 : Int32) - x).toInt = 255 - x.toInt := by
      rw [Int32.toInt_sub]
      show (255 - x.toInt).bmod (2 ^ 32) = _
      exact Int.bmod_eq_of_le (by omega) (by omega)
    have hq2 : (((255 : Int32) - x) / (256 : Int32)).toInt = (255 - x.toInt).tdiv 256 := by
      rw [pr_tdiv (by rw [hs]; omega) (by rw [hs]; omega), hs]
    have t1 : x.toInt.tdiv 256 = -((-x.toInt) / 256) := by
      rw [← Int.neg_neg x.toInt, Int.neg_tdiv, Int.tdiv_eq_ediv_of_nonneg (by omega), Int.neg_neg]
    have t2 : (255 - x.toInt).tdiv 256 = (255 - x.toInt) / 256 := Int.tdiv_eq_ediv_of_nonneg (by omega)
    have hm : (x / (256 : Int32) * (256 : Int32)).toInt = x.toInt.tdiv 256 * 256 := by
      rw [Int32.toInt_mul, hq]
      show (x.toInt.tdiv 256 * 256).bmod (2 ^ 32) = _
      exact Int.bmod_eq_of_le (by omega) (by omega)
    have hn : (-(((255 : Int32) - x) / (256 : Int32))).toInt = -((255 - x.toInt) / 256) := by
      rw [Int32.toInt_neg, hq2, t2]
      exact Int.bmod_eq_of_le (by omega) (by omega)
    by_cases h3 : x / (256 : Int32) * (256 : Int32) = x
    · rw [if_pos h3]
      have h3' := congrArg Int32.toInt h3
      rw [hm] at h3'
      apply Int32.toInt_inj.mp
      rw [hq, hn, t1]
      omega
    · rw [if_neg h3]
      have h3' : ¬ x.toInt.tdiv 256 * 256 = x.toInt := fun q => h3 (Int32.toInt_inj.mp (by rw [hm]; exact q))
      have hd : (x / (256 : Int32) - (1 : Int32)).toInt = x.toInt.tdiv 256 - 1 := by
        rw [Int32.toInt_sub, hq]
        show (x.toInt.tdiv 256 - 1).bmod (2 ^ 32) = _
        exact Int.bmod_eq_of_le (by omega) (by omega)
      apply Int32.toInt_inj.mp
      rw [hd, hn, t1]
      omega
theorem pr_voice {a b g : Int32} (ha : a = 0 ∨ a = 1) (hb : vp_in b 256) (hg : vp_in g 1025) : cbVoice a b g = mdVoice a b g := by
  obtain ⟨e1, s1, s2⟩ := pr_mean ha hb
  unfold cbVoice mdVoice fnX1_scaled
  rw [e1]
  obtain ⟨g0, g1⟩ := vp_in_iff.mp hg
  generalize fnX1_meaning a b = x at s1 s2 ⊢
  have hm : (x * g).toInt = x.toInt * g.toInt := by
    rw [Int32.toInt_mul]
    have q1 : x.toInt * g.toInt ≤ 32767 * 1024 := by
      rcases Int.le_total 0 x.toInt with h | h
      · exact Int.mul_le_mul s2 (by omega) g0 (by omega)
      · have := Int.mul_nonpos_of_nonpos_of_nonneg h g0; omega
    have q2 : -(32768 * 1024) ≤ x.toInt * g.toInt := by
      rcases Int.le_total 0 x.toInt with h | h
      · have := Int.mul_nonneg h g0; omega
      · have h5 : (-x.toInt) * g.toInt ≤ 32768 * 1024 := Int.mul_le_mul (by omega) (by omega) g0 (by omega)
        rw [Int.neg_mul] at h5; omega
    exact Int.bmod_eq_of_le (by omega) (by omega)
  have q1 : (x * g).toInt ≤ 32767 * 1024 := by
    rw [hm]
    rcases Int.le_total 0 x.toInt with h | h
    · exact Int.mul_le_mul s2 (by omega) g0 (by omega)
    · have := Int.mul_nonpos_of_nonpos_of_nonneg h g0; omega
  have q2 : -(32768 * 1024) ≤ (x * g).toInt := by
    rw [hm]
    rcases Int.le_total 0 x.toInt with h | h
    · have := Int.mul_nonneg h g0; omega
    · have h5 : (-x.toInt) * g.toInt ≤ 32768 * 1024 := Int.mul_le_mul (by omega) (by omega) g0 (by omega)
      rw [Int.neg_mul] at h5; omega
  rw [pr_fdiv (by omega) (by omega), pr_sat]
  by_cases h : 0 ≤ x * g
  · rw [if_pos h, if_pos h]
  · rw [if_neg h, if_neg h]
theorem pr_party (x : Int32) : fnX0_isParty x = 0 ↔ ¬ fnX1_not x (8 : Int32) = 0 := by
  unfold fnX0_isParty fnX1_not
  by_cases h1 : x < 0
  · rw [if_pos h1, if_pos h1]; decide
  · rw [if_neg h1, if_neg h1]
    by_cases h2 : x < 8
    · rw [if_pos h2, if_neg (Int32.not_le.mpr h2)]; decide
    · rw [if_neg h2, if_pos (Int32.not_lt.mp h2)]; decide
theorem pr_place (x : Int32) : fnX0_isPlace x = 0 ↔ ¬ fnX1_not x (8 : Int32) = 0 := pr_party x
theorem pr_law (x : Int32) : fnX0_isLaw x = 0 ↔ ¬ fnX1_not x (2 : Int32) = 0 := by
  constructor
  · intro h q
    rcases md_law01 q with rfl | rfl
    · exact absurd h (by decide)
    · exact absurd h (by decide)
  · intro h
    unfold fnX0_isLaw
    by_cases h1 : x = 0
    · exact absurd (by rw [h1]; decide) h
    · rw [if_neg h1]
      by_cases h2 : x = 1
      · exact absurd (by rw [h2]; decide) h
      · rw [if_neg h2]
end
section
/-! the class's values u and the reference's v belong together -/
def pr_R (u : cb_U) (v : md_U) : Prop :=
  (∀ i, i < 8 → cbL u i = mdL v i ∧ (mdL v i = 0 ∨ mdL v i = 1)) ∧ (∀ i, i < 8 → cbG u i = mdG v i ∧ vp_in (mdG v i) 1025) ∧ (∀ i, i < 8 → cbS u i = mdS v i) ∧
  (∀ i, i < 8 → ∀ k, k < 8 → cbC u i k = mdI v (8 * i + k) ∧ vp_in (mdI v (8 * i + k)) 256) ∧ (∀ i, i < 8 → ∀ k, k < 8 → cbO u i k = mdO v (8 * i + k)) ∧
  (∃ M, M ≤ 8 ∧ cbM u = nI M ∧ mdM v = nI M) ∧ (∀ i, i < 8 → cbE u i = mdE v i)
theorem pr_hL {u : cb_U} {v : md_U} (h : pr_R u v) : ∀ i, i < 8 → mdL v i = 0 ∨ mdL v i = 1 := fun i hi => (h.1 i hi).2
theorem pr_hI {u : cb_U} {v : md_U} (h : pr_R u v) : ∀ i, i < 64 → vp_in (mdI v i) 256 := fun i hi => by
  have q := (h.2.2.2.1 (i / 8) (by omega) (i % 8) (by omega)).2
  rw [show 8 * (i / 8) + i % 8 = i by omega] at q
  exact q
theorem pr_T {u : cb_U} {v : md_U} (x : Int32) (h : pr_R u v) : pr_R u (md_sT v x) := h
theorem pr_upd {f g : Nat → Int32} {j i : Nat} {x : Int32} (h : f i = g i) : upd f j x i = upd g j x i := by
  by_cases e : i = j
  · subst e; rw [pk_us, pk_us]
  · rw [pk_un e, pk_un e]; exact h
theorem pr_ixc {x y : Int32} (h : vp_in x 8) (h2 : vp_in y 8) : ((8 : Int32) * x + y).toNatClampNeg = 8 * x.toNatClampNeg + y.toNatClampNeg := by
  obtain ⟨a, ha, rfl⟩ := vp_in_of h (by decide)
  obtain ⟨b, hb, rfl⟩ := vp_in_of h2 (by decide)
  rw [md_ixN, nI_clamp (by omega), nI_clamp (by omega), nI_clamp (by omega)]
theorem pr_no {a : Int32} (h : fnX1_not a (8 : Int32) = 0) : ¬ fnX0_isParty a = 0 := fun q => (pr_party a).mp q h
theorem pr_yes {a : Int32} (h : ¬ fnX1_not a (8 : Int32) = 0) : fnX0_isParty a = 0 := (pr_party a).mpr h
theorem pr_noP {a : Int32} (h : fnX1_not a (8 : Int32) = 0) : ¬ fnX0_isPlace a = 0 := fun q => (pr_place a).mp q h
theorem pr_yesP {a : Int32} (h : ¬ fnX1_not a (8 : Int32) = 0) : fnX0_isPlace a = 0 := (pr_place a).mpr h
theorem pr_noL {a : Int32} (h : fnX1_not a (2 : Int32) = 0) : ¬ fnX0_isLaw a = 0 := fun q => (pr_law a).mp q h
theorem pr_yesL {a : Int32} (h : ¬ fnX1_not a (2 : Int32) = 0) : fnX0_isLaw a = 0 := (pr_law a).mpr h
theorem pr_encode {u : cb_U} {v : md_U} (R : pr_R u v) (a1 a2 : Int32) : anX0_encode u a1 a2 = anX1_encode v a1 a2 ∧ pr_R (stX0_encode u a1 a2) (stX1_encode v a1 a2) := by
  unfold anX0_encode anX1_encode stX0_encode stX1_encode
  by_cases h : fnX1_not a1 (2 : Int32) = 0
  · have h' := pr_noL h
    simp only [if_neg h', if_pos h]
    rw [pr_sat]
    exact ⟨(pr_code (md_law01 h) (md_held_lo _) (md_held_hi _)).1, R⟩
  · have h' := pr_yesL h
    simp only [if_pos h', if_neg h]
    exact ⟨by trivial, R⟩
theorem pr_lawC {u : cb_U} {v : md_U} (R : pr_R u v) (a1 a2 : Int32) : anX0_law u a1 a2 = anX1_law v a1 a2 ∧ pr_R (stX0_law u a1 a2) (stX1_law v a1 a2) := by
  unfold anX0_law anX1_law stX0_law stX1_law
  by_cases h : fnX1_not a1 (8 : Int32) = 0
  · have h' := pr_no h
    by_cases g : fnX1_not a2 (2 : Int32) = 0
    · have g' := pr_noL g
      simp only [if_neg h', if_pos h, if_neg g', if_pos g]
      refine ⟨by trivial, fun i hi => ⟨pr_upd (R.1 i hi).1, ?_⟩, R.2⟩
      show upd (mdL v) a1.toNatClampNeg a2 i = 0 ∨ upd (mdL v) a1.toNatClampNeg a2 i = 1
      by_cases e : i = a1.toNatClampNeg
      · subst e; rw [pk_us]; exact md_law01 g
      · rw [pk_un e]; exact (R.1 i hi).2
    · have g' := pr_yesL g
      simp only [if_neg h', if_pos h, if_pos g', if_neg g]
      exact ⟨by trivial, R⟩
  · have h' := pr_yes h
    simp only [if_pos h', if_neg h]
    exact ⟨by trivial, R⟩
theorem pr_gain1 (a2 : Int32) : fnX1_not a2 (1025 : Int32) = 0 ↔ (¬ a2 < 0 ∧ a2 ≤ 1024) := by
  constructor
  · intro h
    obtain ⟨j, hj, rfl⟩ := vp_in_of (md_not (n := 1025) h (by decide)) (by decide)
    exact ⟨nI_pos (by omega), nI_le (b := 1024) (by omega) (by decide)⟩
  · intro ⟨h1, h2⟩
    obtain ⟨j, hj, rfl⟩ := nI_of h1
    have h3 : j ≤ 1024 := (nI_leI (b := 1024) hj (by decide)).mp h2
    unfold fnX1_not
    rw [if_neg h1, if_pos (show nI j < (1025 : Int32) from (nI_ltI (b := 1025) hj (by decide)).mpr (by omega))]
theorem pr_gainC {u : cb_U} {v : md_U} (R : pr_R u v) (a1 a2 : Int32) : anX0_gain u a1 a2 = anX1_gain v a1 a2 ∧ pr_R (stX0_gain u a1 a2) (stX1_gain v a1 a2) := by
  unfold anX0_gain anX1_gain stX0_gain stX1_gain
  by_cases h : fnX1_not a1 (8 : Int32) = 0
  · have h' := pr_no h
    by_cases g : fnX1_not a2 (1025 : Int32) = 0
    · obtain ⟨g1, g2⟩ := (pr_gain1 a2).mp g
      simp only [if_neg h', if_pos h, if_neg g1, if_pos g2, if_pos g]
      refine ⟨by trivial, R.1, fun i hi => ⟨pr_upd (R.2.1 i hi).1, ?_⟩, R.2.2⟩
      show vp_in (upd (mdG v) a1.toNatClampNeg a2 i) 1025
      by_cases e : i = a1.toNatClampNeg
      · subst e; rw [pk_us]; exact md_not (n := 1025) g (by decide)
      · rw [pk_un e]; exact (R.2.1 i hi).2
    · simp only [if_neg h', if_pos h, if_neg g]
      by_cases g1 : a2 < 0
      · simp only [if_pos g1]; exact ⟨by trivial, R⟩
      · by_cases g2 : a2 ≤ 1024
        · exact absurd ((pr_gain1 a2).mpr ⟨g1, g2⟩) g
        · simp only [if_neg g1, if_neg g2]; exact ⟨by trivial, R⟩
  · have h' := pr_yes h
    simp only [if_pos h', if_neg h]
    exact ⟨by trivial, R⟩
theorem pr_muteC {u : cb_U} {v : md_U} (R : pr_R u v) (a1 a2 : Int32) : anX0_mute u a1 a2 = anX1_mute v a1 a2 ∧ pr_R (stX0_mute u a1 a2) (stX1_mute v a1 a2) := by
  unfold anX0_mute anX1_mute stX0_mute stX1_mute
  by_cases h : fnX1_not a1 (8 : Int32) = 0
  · have h' := pr_no h
    simp only [if_neg h', if_pos h]
    exact ⟨by trivial, R.1, R.2.1, fun i hi => pr_upd (R.2.2.1 i hi), R.2.2.2⟩
  · have h' := pr_yes h
    simp only [if_pos h', if_neg h]
    exact ⟨by trivial, R⟩
theorem pr_speakersC {u : cb_U} {v : md_U} (R : pr_R u v) (a1 : Int32) : anX0_speakers u a1 = anX1_speakers v a1 ∧ pr_R (stX0_speakers u a1) (stX1_speakers v a1) := by
  unfold anX0_speakers anX1_speakers stX0_speakers stX1_speakers
  by_cases h : a1 < 1
  · simp only [if_pos h]; exact ⟨by trivial, R⟩
  · by_cases g : a1 ≤ 8
    · simp only [if_neg h, if_pos g]
      have h0 : ¬ a1 < 0 := fun q => h (by rw [Int32.lt_iff_toInt_lt] at q ⊢; have q' : a1.toInt < 0 := q; show a1.toInt < 1; omega)
      obtain ⟨j, hj, rfl⟩ := nI_of h0
      exact ⟨by trivial, R.1, R.2.1, R.2.2.1, R.2.2.2.1, R.2.2.2.2.1, ⟨j, (nI_leI (b := 8) hj (by decide)).mp g, rfl, rfl⟩, R.2.2.2.2.2.2⟩
    · simp only [if_neg h, if_neg g]; exact ⟨by trivial, R⟩
theorem pr_putC {u : cb_U} {v : md_U} (R : pr_R u v) (a1 a2 a3 : Int32) : anX0_put u a1 a2 a3 = anX1_put v a1 a2 a3 ∧ pr_R (stX0_put u a1 a2 a3) (stX1_put v a1 a2 a3) := by
  unfold anX0_put anX1_put stX0_put stX1_put
  by_cases h : fnX1_not a1 (8 : Int32) = 0
  · have h' := pr_no h
    by_cases g : fnX1_not a2 (8 : Int32) = 0
    · have g' := pr_noP g
      simp only [if_neg h', if_pos h, if_neg g', if_pos g]
      have v1 := md_not (n := 8) h (by decide)
      have v2 := md_not (n := 8) g (by decide)
      have l1 := cb_vin v1
      have l2 := cb_vin v2
      refine ⟨by trivial, R.1, R.2.1, R.2.2.1, fun i hi k hk => ?_, R.2.2.2.2⟩
      show va_up (cbC u) a1.toNatClampNeg (upd (cbC u a1.toNatClampNeg) a2.toNatClampNeg (a3 &&& (255 : Int32))) i k = upd (mdI v) ((8 : Int32) * a1 + a2).toNatClampNeg (a3 &&& (255 : Int32)) (8 * i + k) ∧ vp_in (upd (mdI v) ((8 : Int32) * a1 + a2).toNatClampNeg (a3 &&& (255 : Int32)) (8 * i + k)) 256
      rw [pr_ixc v1 v2]
      generalize a1.toNatClampNeg = x at l1 ⊢
      generalize a2.toNatClampNeg = y at l2 ⊢
      by_cases e : 8 * i + k = 8 * x + y
      · obtain ⟨rfl, rfl⟩ : i = x ∧ k = y := by omega
        rw [pk_us]
        refine ⟨?_, md_255 a3⟩
        unfold va_up
        rw [if_pos rfl, pk_us]
      · rw [pk_un e]
        refine ⟨?_, (R.2.2.2.1 i hi k hk).2⟩
        rw [← (R.2.2.2.1 i hi k hk).1]
        unfold va_up
        by_cases ei : i = x
        · subst ei
          rw [if_pos rfl, pk_un (by omega)]
        · rw [if_neg ei]
    · have g' := pr_yesP g
      simp only [if_neg h', if_pos h, if_pos g', if_neg g]
      exact ⟨by trivial, R⟩
  · have h' := pr_yes h
    simp only [if_pos h', if_neg h]
    exact ⟨by trivial, R⟩
theorem pr_outC {u : cb_U} {v : md_U} (R : pr_R u v) (a1 a2 : Int32) : anX0_out u a1 a2 = anX1_out v a1 a2 ∧ pr_R (stX0_out u a1 a2) (stX1_out v a1 a2) := by
  unfold anX0_out anX1_out stX0_out stX1_out
  by_cases h : fnX1_not a1 (8 : Int32) = 0
  · have h' := pr_no h
    by_cases g : fnX1_not a2 (8 : Int32) = 0
    · have g' := pr_noP g
      simp only [if_neg h', if_pos h, if_neg g', if_pos g]
      have v1 := md_not (n := 8) h (by decide)
      have v2 := md_not (n := 8) g (by decide)
      refine ⟨?_, R⟩
      rw [pr_ixc v1 v2]
      exact R.2.2.2.2.1 _ (cb_vin v1) _ (cb_vin v2)
    · have g' := pr_yesP g
      simp only [if_neg h', if_pos h, if_pos g', if_neg g]
      exact ⟨by trivial, R⟩
  · have h' := pr_yes h
    simp only [if_pos h', if_neg h]
    exact ⟨by trivial, R⟩
theorem rpC_at (u : cb_U) (j : Nat) (a2 a3 : Int32) : ∀ n i k, rpC u j a2 a3 n i k = if i = j ∧ k < n then fnX0_codeOf (cbL u j) (fnX0_saturated (a2.toInt64 + (nI k).toInt64 * a3.toInt64)) else cbC u i k
  | 0, i, k => by rw [if_neg (by omega)]; rfl
  | n + 1, i, k => by
    show va_up (rpC u j a2 a3 n) j (upd (rpC u j a2 a3 n j) n (fnX0_codeOf (cbL u j) (fnX0_saturated (a2.toInt64 + (nI n).toInt64 * a3.toInt64)))) i k = _
    unfold va_up
    by_cases e : i = j
    · rw [if_pos e]
      by_cases f : k = n
      · subst f; rw [pk_us, if_pos ⟨e, by omega⟩]
      · rw [pk_un f, rpC_at u j a2 a3 n j k]
        by_cases g : k < n
        · rw [if_pos ⟨rfl, g⟩, if_pos ⟨e, by omega⟩]
        · rw [if_neg (by omega), if_neg (by omega), e]
    · rw [if_neg e, rpC_at u j a2 a3 n i k, if_neg (by omega), if_neg (by omega)]
theorem rmI_at (v : md_U) (j : Nat) (a2 a3 : Int32) : ∀ n x, rmI v j a2 a3 n x = if 8 * j ≤ x ∧ x < 8 * j + n then fnX1_codeOf (mdL v j) (fnX1_held (a2.toInt64 + (nI (x - 8 * j)).toInt64 * a3.toInt64)) else mdI v x
  | 0, x => by rw [if_neg (by omega)]; rfl
  | n + 1, x => by
    show upd (rmI v j a2 a3 n) (8 * j + n) (fnX1_codeOf (mdL v j) (fnX1_held (a2.toInt64 + (nI n).toInt64 * a3.toInt64))) x = _
    by_cases e : x = 8 * j + n
    · subst e; rw [pk_us, if_pos (by omega), show 8 * j + n - 8 * j = n by omega]
    · rw [pk_un e, rmI_at v j a2 a3 n x]
      by_cases g : 8 * j ≤ x ∧ x < 8 * j + n
      · rw [if_pos g, if_pos (by omega)]
      · rw [if_neg g, if_neg (by omega)]
theorem pr_rampC {u : cb_U} {v : md_U} (R : pr_R u v) (a1 a2 a3 : Int32) : anX0_ramp a1 = anX1_ramp a1 ∧ pr_R (stX0_ramp u a1 a2 a3) (stX1_ramp v a1 a2 a3) := by
  unfold anX0_ramp anX1_ramp stX0_ramp stX1_ramp
  by_cases h : fnX1_not a1 (8 : Int32) = 0
  · have h' := pr_no h
    simp only [if_neg h', if_pos h]
    have l1 := cb_vin (md_not (n := 8) h (by decide))
    refine ⟨by trivial, R.1, R.2.1, R.2.2.1, fun i hi k hk => ?_, R.2.2.2.2⟩
    show rpC u a1.toNatClampNeg a2 a3 8 i k = rmI v a1.toNatClampNeg a2 a3 8 (8 * i + k) ∧ vp_in (rmI v a1.toNatClampNeg a2 a3 8 (8 * i + k)) 256
    generalize a1.toNatClampNeg = j at l1 ⊢
    rw [rpC_at, rmI_at]
    by_cases e : i = j
    · subst e
      rw [if_pos ⟨rfl, hk⟩, if_pos (by omega), show 8 * i + k - 8 * i = k by omega, pr_sat, (R.1 i hi).1]
      exact pr_code (R.1 i hi).2 (md_held_lo _) (md_held_hi _)
    · rw [if_neg (by omega), if_neg (by omega)]
      exact R.2.2.2.1 i hi k hk
  · have h' := pr_yes h
    simp only [if_pos h', if_neg h]
    exact ⟨by trivial, R⟩
end
section
/-! a mixing keeps what belongs together -/
theorem hrV_at (u : cb_U) (j : Nat) : ∀ n i k, hrV u j n i k = if i = j ∧ k < n then cbVoice (cbL u j) (cbC u j k) (cbG u j) else cbV u i k
  | 0, i, k => by rw [if_neg (by omega)]; rfl
  | n + 1, i, k => by
    show va_up (hrV u j n) j (upd (hrV u j n j) n (cbVoice (cbL u j) (cbC u j n) (cbG u j))) i k = _
    unfold va_up
    by_cases e : i = j
    · rw [if_pos e]
      by_cases f : k = n
      · subst f; rw [pk_us, if_pos ⟨e, by omega⟩]
      · rw [pk_un f, hrV_at u j n j k]
        by_cases g : k < n
        · rw [if_pos ⟨rfl, g⟩, if_pos ⟨e, by omega⟩]
        · rw [if_neg (by omega), if_neg (by omega), e]
    · rw [if_neg e, hrV_at u j n i k, if_neg (by omega), if_neg (by omega)]
theorem mxH_L (u : cb_U) : ∀ n, cbL (mxH u n) = cbL u
  | 0 => rfl
  | n + 1 => mxH_L u n
theorem mxH_G (u : cb_U) : ∀ n, cbG (mxH u n) = cbG u
  | 0 => rfl
  | n + 1 => mxH_G u n
theorem mxH_S (u : cb_U) : ∀ n, cbS (mxH u n) = cbS u
  | 0 => rfl
  | n + 1 => mxH_S u n
theorem mxH_C (u : cb_U) : ∀ n, cbC (mxH u n) = cbC u
  | 0 => rfl
  | n + 1 => mxH_C u n
theorem mxH_O (u : cb_U) : ∀ n, cbO (mxH u n) = cbO u
  | 0 => rfl
  | n + 1 => mxH_O u n
theorem mxH_V (u : cb_U) : ∀ n i k, cbV (mxH u n) i k = if i < n ∧ k < 8 then cbVoice (cbL u i) (cbC u i k) (cbG u i) else cbV u i k
  | 0, i, k => by rw [if_neg (by omega)]; rfl
  | n + 1, i, k => by
    show hrV (mxH u n) n 8 i k = _
    rw [hrV_at, mxH_L, mxH_C, mxH_G, mxH_V u n i k]
    by_cases e : i = n
    · subst e
      by_cases f : k < 8
      · rw [if_pos ⟨rfl, f⟩, if_pos ⟨by omega, f⟩]
      · rw [if_neg (by omega), if_neg (by omega), if_neg (by omega)]
    · rw [if_neg (by omega)]
      by_cases f : i < n ∧ k < 8
      · rw [if_pos f, if_pos (by omega)]
      · rw [if_neg f, if_neg (by omega)]
theorem hrE_congr {u w : cb_U} (h1 : cbL u = cbL w) (h2 : cbC u = cbC w) (h3 : cbG u = cbG w) (j : Nat) : ∀ k, hrE u j k = hrE w j k
  | 0 => rfl
  | k + 1 => by rw [hrE, hrE, hrE_congr h1 h2 h3 j k, h1, h2, h3]
theorem mxH_E (u : cb_U) : ∀ n i, cbE (mxH u n) i = if i < n then hrE u i 8 else cbE u i
  | 0, i => by rw [if_neg (by omega)]; rfl
  | n + 1, i => by
    show vp_updL (cbE (mxH u n)) n (hrE (mxH u n) n 8) i = _
    rw [hrE_congr (mxH_L u n) (mxH_C u n) (mxH_G u n)]
    by_cases e : i = n
    · subst e; rw [pk_uLs, if_pos (by omega)]
    · rw [pk_uLn e, mxH_E u n i]
      by_cases f : i < n
      · rw [if_pos f, if_pos (by omega)]
      · rw [if_neg f, if_neg (by omega)]
theorem miV_at (v : md_U) (j : Nat) (V0 : Nat → Int32) : ∀ n x, miV v j V0 n x = if 8 * j ≤ x ∧ x < 8 * j + n then mdVoice (mdL v j) (mdI v x) (mdG v j) else V0 x
  | 0, x => by rw [if_neg (by omega)]; rfl
  | n + 1, x => by
    show upd (miV v j V0 n) (8 * j + n) (mdVoice (mdL v j) (mdI v (8 * j + n)) (mdG v j)) x = _
    by_cases e : x = 8 * j + n
    · subst e; rw [pk_us, if_pos (by omega)]
    · rw [pk_un e, miV_at v j V0 n x]
      by_cases g : 8 * j ≤ x ∧ x < 8 * j + n
      · rw [if_pos g, if_pos (by omega)]
      · rw [if_neg g, if_neg (by omega)]
theorem moV_at (v : md_U) : ∀ n i k, k < 8 → moV v n (8 * i + k) = if i < n then mdVoice (mdL v i) (mdI v (8 * i + k)) (mdG v i) else mdV v (8 * i + k)
  | 0, i, k, _ => by rw [if_neg (by omega)]; rfl
  | n + 1, i, k, hk => by
    show miV v n (moV v n) 8 (8 * i + k) = _
    rw [miV_at, moV_at v n i k hk]
    by_cases e : i = n
    · subst e; rw [if_pos (by omega), if_pos (by omega)]
    · rw [if_neg (by omega)]
      by_cases f : i < n
      · rw [if_pos f, if_pos (by omega)]
      · rw [if_neg f, if_neg (by omega)]
def mSum (v : md_U) (j : Nat) (e0 : Int64) : Nat → Int64
  | 0 => e0
  | k + 1 => mSum v j e0 k + (mdVoice (mdL v j) (mdI v (8 * j + k)) (mdG v j)).toInt64 * (mdVoice (mdL v j) (mdI v (8 * j + k)) (mdG v j)).toInt64
theorem miE_at (v : md_U) (j : Nat) (E0 : Nat → Int64) : ∀ n i, miE v j E0 n i = if i = j then mSum v j (E0 j) n else E0 i
  | 0, i => by
    by_cases e : i = j
    · rw [if_pos e, e]; rfl
    · rw [if_neg e]; rfl
  | n + 1, i => by
    show vp_updL (miE v j E0 n) j (miE v j E0 n j + (mdVoice (mdL v j) (mdI v (8 * j + n)) (mdG v j)).toInt64 * (mdVoice (mdL v j) (mdI v (8 * j + n)) (mdG v j)).toInt64) i = _
    by_cases e : i = j
    · subst e
      rw [pk_uLs, if_pos rfl, miE_at v i E0 n i, if_pos rfl]
      rfl
    · rw [pk_uLn e, if_neg e, miE_at v j E0 n i, if_neg e]
theorem moE_at (v : md_U) : ∀ n i, moE v n i = if i < n then mSum v i 0 8 else mdE v i
  | 0, i => by rw [if_neg (by omega)]; rfl
  | n + 1, i => by
    show miE v n (vp_updL (moE v n) n 0) 8 i = _
    rw [miE_at]
    by_cases e : i = n
    · subst e; rw [if_pos rfl, if_pos (by omega), pk_uLs]
    · rw [if_neg e, pk_uLn e, moE_at v n i]
      by_cases f : i < n
      · rw [if_pos f, if_pos (by omega)]
      · rw [if_neg f, if_neg (by omega)]
theorem pr_v {u : cb_U} {v : md_U} (R : pr_R u v) {i k : Nat} (hi : i < 8) (hk : k < 8) : cbVoice (cbL u i) (cbC u i k) (cbG u i) = mdVoice (mdL v i) (mdI v (8 * i + k)) (mdG v i) := by
  rw [(R.1 i hi).1, (R.2.2.2.1 i hi k hk).1, (R.2.1 i hi).1]
  exact pr_voice (R.1 i hi).2 (R.2.2.2.1 i hi k hk).2 (R.2.1 i hi).2
theorem pr_e {u : cb_U} {v : md_U} (R : pr_R u v) {i : Nat} (hi : i < 8) : ∀ k, k ≤ 8 → hrE u i k = mSum v i 0 k
  | 0, _ => rfl
  | k + 1, h => by rw [hrE, mSum, pr_e R hi k (by omega), pr_v R hi (by omega)]
theorem pr_sp (ch x : Int32) : fnX0_speaks ch x = 0 ↔ ((ch >>> (x &&& 31)) &&& (1 : Int32)) = 0 := by
  unfold fnX0_speaks
  by_cases h : ((ch >>> (x &&& 31)) &&& (1 : Int32)) = 0
  · rw [if_pos h]; exact ⟨fun _ => h, fun _ => rfl⟩
  · rw [if_neg h]; exact ⟨fun q => absurd q (by decide), fun q => absurd q h⟩
theorem lb_mb {u : cb_U} {v : md_U} (hS : ∀ i, i < 8 → cbS u i = mdS v i) (hE : ∀ i, i < 8 → cbE u i = mdE v i) (ch : Int32) : ∀ k, k ≤ 8 →
    (lbF u ch k = (-1, 0) ∧ mbF v ch k = -1) ∨ ∃ b, b < k ∧ lbF u ch k = (nI b, mdE v b) ∧ mbF v ch k = nI b ∧ 0 < mdE v b
  | 0, _ => Or.inl ⟨rfl, rfl⟩
  | k + 1, hk => by
    have ih := lb_mb hS hE ch k (by omega)
    rw [lbF, mbF, hS k (by omega), hE k (by omega)]
    have keep : (lbF u ch k = (-1, 0) ∧ mbF v ch k = -1) ∨ ∃ b, b < k + 1 ∧ lbF u ch k = (nI b, mdE v b) ∧ mbF v ch k = nI b ∧ 0 < mdE v b := by
      rcases ih with h | ⟨b, hb, h⟩
      · exact Or.inl h
      · exact Or.inr ⟨b, by omega, h⟩
    by_cases s0 : mdS v k = 0
    · by_cases x0 : ((ch >>> ((nI k) &&& 31)) &&& (1 : Int32)) = 0
      · simp only [if_pos s0, if_pos x0, if_pos ((pr_sp ch (nI k)).mpr x0)]
        rcases ih with ⟨h1, h2⟩ | ⟨b, hb, h1, h2, h3⟩
        · rw [h1, h2]
          by_cases c : lg_cmp (mdE v k) 0 ≤ 0
          · rw [if_pos c, if_pos c]; exact Or.inl ⟨rfl, rfl⟩
          · rw [if_neg c, if_neg c, if_pos (by decide)]
            refine Or.inr ⟨k, by omega, rfl, rfl, ?_⟩
            rw [lg_cmp_le] at c
            exact Int64.not_le.mp c
        · rw [h1, h2, if_neg (nI_pos (by omega) : ¬ nI b < 0), nI_clamp (by omega)]
          by_cases c : lg_cmp (mdE v k) (mdE v b) ≤ 0
          · rw [if_pos c, if_pos c, ite_self]; exact Or.inr ⟨b, by omega, rfl, rfl, h3⟩
          · have c0 : ¬ lg_cmp (mdE v k) 0 ≤ 0 := by
              rw [lg_cmp_le] at c ⊢
              exact fun q => c (Int64.le_trans q (Int64.le_of_lt h3))
            rw [if_neg c, if_neg c0, if_neg c]
            refine Or.inr ⟨k, by omega, rfl, rfl, ?_⟩
            rw [lg_cmp_le] at c0
            exact Int64.not_le.mp c0
      · simp only [if_pos s0, if_neg x0, if_neg (fun q => x0 ((pr_sp ch (nI k)).mp q))]
        exact keep
    · simp only [if_neg s0, ite_self]
      exact keep
theorem ms_fix {v : md_U} {ch : Int32} (h : mbF v ch 8 = -1) : ∀ r, msF v r ch = ch
  | 0 => rfl
  | r + 1 => by rw [msF, h, if_pos (by decide)]; exact ms_fix h r
theorem ch_ms {u : cb_U} {v : md_U} (hS : ∀ i, i < 8 → cbS u i = mdS v i) (hE : ∀ i, i < 8 → cbE u i = mdE v i) : ∀ r ch, chF u r ch = msF v r ch
  | 0, ch => rfl
  | r + 1, ch => by
    rcases lb_mb hS hE ch 8 (by omega) with ⟨h1, h2⟩ | ⟨b, hb, h1, h2, h3⟩
    · rw [chF, h1, if_pos rfl, ms_fix h2]
    · rw [chF, msF, h1, h2, if_neg (nI_pos (by omega) : ¬ nI b < 0)]
      have hn : ¬ nI b = -1 := by
        intro q
        exact absurd (show nI b < 0 by rw [q]; decide) (nI_pos (by omega))
      rw [if_neg hn]
      exact ch_ms hS hE r _
theorem pr_bit (x : Int32) : (x &&& (1 : Int32)) = 1 ↔ ¬ (x &&& (1 : Int32)) = 0 := by
  obtain ⟨j, hj, e⟩ := pk_andE x (m := 1) 1 (by decide)
  rw [e]
  match j, hj with
  | 0, _ => decide
  | 1, _ => decide
theorem pr_i1 (a b c : Int32) : a - b + c = a + c - b := by
  rw [Int32.sub_eq_add_neg, Int32.sub_eq_add_neg, Int32.add_assoc, Int32.add_comm (-b) c, ← Int32.add_assoc]
theorem pr_i2 (a b : Int32) : a + b - b = a := by
  rw [Int32.sub_eq_add_neg, Int32.add_assoc, Int32.add_right_neg, Int32.add_zero]
theorem su_mc {u : cb_U} {v : md_U} {k : Nat} (hV : ∀ o, o < 8 → cbV u o k = mdV v (8 * o + k)) (ch : Int32) {j : Nat} (hj : j < 8) : ∀ n, n ≤ 8 →
    mcF v ch j k n = if j < n ∧ ¬ fnX0_speaks ch (nI j) = 0 then suF u ch k n - cbV u j k else suF u ch k n
  | 0, _ => by rw [if_neg (by omega)]; rfl
  | n + 1, hn => by
    have ih := su_mc hV ch hj n (by omega)
    rw [mcF, suF]
    by_cases e : n = j
    · subst e
      rw [if_pos rfl, Int32.add_zero, ih, if_neg (by omega)]
      by_cases s : fnX0_speaks ch (nI n) = 0
      · rw [if_pos s, if_neg (fun q => q.2 s)]
      · rw [if_neg s, if_pos ⟨by omega, s⟩, pr_i2]
    · rw [if_neg (fun q => e ((nI_eq (by omega) (by omega)).mp q)), ih, ← hV n (by omega)]
      by_cases s : fnX0_speaks ch (nI n) = 0
      · have hb : ¬ ((ch >>> ((nI n) &&& 31)) &&& (1 : Int32)) = 1 := fun q => (pr_bit _).mp q ((pr_sp ch (nI n)).mp s)
        rw [if_neg hb, if_pos s, Int32.add_zero]
        by_cases g : j < n ∧ ¬ fnX0_speaks ch (nI j) = 0
        · rw [if_pos g, if_pos ⟨by omega, g.2⟩]
        · rw [if_neg g, if_neg (fun q => g ⟨by omega, q.2⟩)]
      · have hb : ((ch >>> ((nI n) &&& 31)) &&& (1 : Int32)) = 1 := (pr_bit _).mpr (fun q => s ((pr_sp ch (nI n)).mpr q))
        rw [if_pos hb, if_neg s]
        by_cases g : j < n ∧ ¬ fnX0_speaks ch (nI j) = 0
        · rw [if_pos g, if_pos ⟨by omega, g.2⟩, pr_i1]
        · rw [if_neg g, if_neg (fun q => g ⟨by omega, q.2⟩)]
theorem suZ_at (u : cb_U) (ch : Int32) : ∀ n k, suZ u ch n k = if k < n then suF u ch k 8 else cbZ u k
  | 0, k => by rw [if_neg (by omega)]; rfl
  | n + 1, k => by
    show upd (suZ u ch n) n (suF u ch n 8) k = _
    by_cases e : k = n
    · subst e; rw [pk_us, if_pos (by omega)]
    · rw [pk_un e, suZ_at u ch n k]
      by_cases f : k < n
      · rw [if_pos f, if_pos (by omega)]
      · rw [if_neg f, if_neg (by omega)]
theorem anO_at (u : cb_U) (j : Nat) (sp : Int32) : ∀ n i k, anO u j sp n i k = if i = j ∧ k < n then fnX0_codeOf (cbL u j) (fnX0_saturated (cbAns u j sp k).toInt64) else cbO u i k
  | 0, i, k => by rw [if_neg (by omega)]; rfl
  | n + 1, i, k => by
    show va_up (anO u j sp n) j (upd (anO u j sp n j) n (fnX0_codeOf (cbL u j) (fnX0_saturated (cbAns u j sp n).toInt64))) i k = _
    unfold va_up
    by_cases e : i = j
    · rw [if_pos e]
      by_cases f : k = n
      · subst f; rw [pk_us, if_pos ⟨e, by omega⟩]
      · rw [pk_un f, anO_at u j sp n j k]
        by_cases g : k < n
        · rw [if_pos ⟨rfl, g⟩, if_pos ⟨e, by omega⟩]
        · rw [if_neg (by omega), if_neg (by omega), e]
    · rw [if_neg e, anO_at u j sp n i k, if_neg (by omega), if_neg (by omega)]
theorem mxA_keep (u : cb_U) (ch : Int32) : ∀ n, cbL (mxA u ch n) = cbL u ∧ cbG (mxA u ch n) = cbG u ∧ cbS (mxA u ch n) = cbS u ∧ cbC (mxA u ch n) = cbC u ∧ cbM (mxA u ch n) = cbM u ∧ cbV (mxA u ch n) = cbV u ∧ cbE (mxA u ch n) = cbE u ∧ cbZ (mxA u ch n) = cbZ u
  | 0 => ⟨rfl, rfl, rfl, rfl, rfl, rfl, rfl, rfl⟩
  | n + 1 => mxA_keep u ch n
theorem cbAns_congr {u w : cb_U} (h1 : cbZ u = cbZ w) (h2 : cbV u = cbV w) (j : Nat) (sp : Int32) (k : Nat) : cbAns u j sp k = cbAns w j sp k := by unfold cbAns; rw [h1, h2]
theorem mxA_O (u : cb_U) (ch : Int32) : ∀ n i k, cbO (mxA u ch n) i k = if i < n ∧ k < 8 then fnX0_codeOf (cbL u i) (fnX0_saturated (cbAns u i (fnX0_speaks ch (nI i)) k).toInt64) else cbO u i k
  | 0, i, k => by rw [if_neg (by omega)]; rfl
  | n + 1, i, k => by
    show anO (mxA u ch n) n (fnX0_speaks ch (nI n)) 8 i k = _
    obtain ⟨kL, -, -, -, -, kV, -, kZ⟩ := mxA_keep u ch n
    rw [anO_at, kL, cbAns_congr kZ kV, mxA_O u ch n i k]
    by_cases e : i = n
    · subst e
      by_cases f : k < 8
      · rw [if_pos ⟨rfl, f⟩, if_pos ⟨by omega, f⟩]
      · rw [if_neg (by omega), if_neg (by omega), if_neg (by omega)]
    · rw [if_neg (by omega)]
      by_cases f : i < n ∧ k < 8
      · rw [if_pos f, if_pos (by omega)]
      · rw [if_neg f, if_neg (by omega)]
theorem mcO_at (v : md_U) (st : Int32) (j : Nat) (O0 : Nat → Int32) : ∀ n x, mcO v st j O0 n x = if 8 * j ≤ x ∧ x < 8 * j + n then fnX1_codeOf (mdL v j) (fnX1_held (mcF v st j (x - 8 * j) 8).toInt64) else O0 x
  | 0, x => by rw [if_neg (by omega)]; rfl
  | n + 1, x => by
    show upd (mcO v st j O0 n) (8 * j + n) (fnX1_codeOf (mdL v j) (fnX1_held (mcF v st j n 8).toInt64)) x = _
    by_cases e : x = 8 * j + n
    · subst e; rw [pk_us, if_pos (by omega), show 8 * j + n - 8 * j = n by omega]
    · rw [pk_un e, mcO_at v st j O0 n x]
      by_cases g : 8 * j ≤ x ∧ x < 8 * j + n
      · rw [if_pos g, if_pos (by omega)]
      · rw [if_neg g, if_neg (by omega)]
theorem mcP_at (v : md_U) (st : Int32) : ∀ n i k, k < 8 → mcP v st n (8 * i + k) = if i < n then fnX1_codeOf (mdL v i) (fnX1_held (mcF v st i k 8).toInt64) else mdO v (8 * i + k)
  | 0, i, k, _ => by rw [if_neg (by omega)]; rfl
  | n + 1, i, k, hk => by
    show mcO v st n (mcP v st n) 8 (8 * i + k) = _
    rw [mcO_at, mcP_at v st n i k hk]
    by_cases e : i = n
    · subst e; rw [if_pos (by omega), if_pos (by omega), show 8 * i + k - 8 * i = k by omega]
    · rw [if_neg (by omega)]
      by_cases f : i < n
      · rw [if_pos f, if_pos (by omega)]
      · rw [if_neg f, if_neg (by omega)]
theorem pr_hear {u : cb_U} {v : md_U} (R : pr_R u v) : pr_R (mxH u 8) (mdHear v) ∧ ∀ i, i < 8 → ∀ k, k < 8 → cbV (mxH u 8) i k = mdV (mdHear v) (8 * i + k) := by
  refine ⟨⟨fun i hi => ?_, fun i hi => ?_, fun i hi => ?_, fun i hi k hk => ?_, fun i hi k hk => ?_, ?_, fun i hi => ?_⟩, fun i hi k hk => ?_⟩
  · rw [mxH_L]; exact R.1 i hi
  · rw [mxH_G]; exact R.2.1 i hi
  · rw [mxH_S]; exact R.2.2.1 i hi
  · rw [mxH_C]; exact R.2.2.2.1 i hi k hk
  · rw [mxH_O]; exact R.2.2.2.2.1 i hi k hk
  · rw [mxH_M]; exact R.2.2.2.2.2.1
  · rw [mxH_E, if_pos hi]
    show hrE u i 8 = moE v 8 i
    rw [moE_at, if_pos hi]
    exact pr_e R hi 8 (by omega)
  · rw [mxH_V, if_pos ⟨hi, hk⟩]
    show _ = moV v 8 (8 * i + k)
    rw [moV_at v 8 i k hk, if_pos hi]
    exact pr_v R hi hk
theorem pr_mixD {x : cb_U} {y : md_U} (R1 : pr_R x y) (hV : ∀ i, i < 8 → ∀ k, k < 8 → cbV x i k = mdV y (8 * i + k)) (ch : Int32) : pr_R (mxA (cbSumUp x ch) ch 8) (md_sO y (mcP y ch 8)) := by
  generalize hw : cbSumUp x ch = w
  have wL : cbL w = cbL x := by rw [← hw]; rfl
  have wG : cbG w = cbG x := by rw [← hw]; rfl
  have wS : cbS w = cbS x := by rw [← hw]; rfl
  have wC : cbC w = cbC x := by rw [← hw]; rfl
  have wM : cbM w = cbM x := by rw [← hw]; rfl
  have wV : cbV w = cbV x := by rw [← hw]; rfl
  have wE : cbE w = cbE x := by rw [← hw]; rfl
  have wZ : cbZ w = suZ x ch 8 := by rw [← hw]; rfl
  obtain ⟨kL, kG, kS, kC, kM, kV, kE, kZ⟩ := mxA_keep w ch 8
  refine ⟨fun i hi => ?_, fun i hi => ?_, fun i hi => ?_, fun i hi k hk => ?_, fun i hi k hk => ?_, ?_, fun i hi => ?_⟩
  · rw [kL, wL]; exact R1.1 i hi
  · rw [kG, wG]; exact R1.2.1 i hi
  · rw [kS, wS]; exact R1.2.2.1 i hi
  · rw [kC, wC]; exact R1.2.2.2.1 i hi k hk
  · rw [mxA_O, if_pos ⟨hi, hk⟩, wL]
    show _ = mcP y ch 8 (8 * i + k)
    rw [mcP_at y ch 8 i k hk, if_pos hi, (R1.1 i hi).1, pr_sat]
    have e1 : cbAns w i (fnX0_speaks ch (nI i)) k = mcF y ch i k 8 := by
      rw [su_mc (u := x) (fun o ho => hV o ho k hk) ch hi 8 (by omega)]
      unfold cbAns
      rw [wZ, wV, suZ_at, if_pos hk]
      by_cases s : fnX0_speaks ch (nI i) = 0
      · rw [if_pos s, if_neg (fun q => q.2 s)]
      · rw [if_neg s, if_pos ⟨hi, s⟩]
    rw [e1]
    exact (pr_code (R1.1 i hi).2 (md_held_lo _) (md_held_hi _)).1
  · rw [kM, wM]; exact R1.2.2.2.2.2.1
  · rw [kE, wE]; exact R1.2.2.2.2.2.2 i hi
theorem pr_mixC {u : cb_U} {v : md_U} (R : pr_R u v) (M : Nat) : anX0_mix u M = anX1_mix v M ∧ pr_R (stX0_mix u M) (stX1_mix v M) := by
  obtain ⟨R1, hV⟩ := pr_hear R
  have ea : anX0_mix u M = anX1_mix v M := by
    unfold anX0_mix anX1_mix
    exact ch_ms R1.2.2.1 R1.2.2.2.2.2.2 M 0
  refine ⟨ea, ?_⟩
  unfold stX0_mix stX1_mix
  rw [ea]
  exact pr_mixD R1 hV _
end
section
/-! own rows: joining worlds that stand side by side; an array's class by its name -/
theorem cb_all {α : Type} (l : List α) : (List.range l.length).map (fun i => l[i]?) = l.map some := by
  apply List.ext_getElem?
  intro i
  rw [List.getElem?_map, List.getElem?_map]
  by_cases h : i < l.length
  · rw [List.getElem?_range h, List.getElem?_eq_getElem h]
    simp [h]
  · rw [List.getElem?_eq_none (by rw [List.length_range]; omega), List.getElem?_eq_none (by omega)]
    rfl
theorem cb_joinL {A0 : Nat → Prop} {D : va_G} {cl : List vw_C} {wa wb w1 : va_W} {H H1 : Heap} (hP : va_P D cl (wa ++ wb) H) (hD : va_D A0 (wa ++ wb))
    (hk : ∀ q : Nat, q < H.size → ¬ va_A wa H.size q → H1[q]? = H[q]?) (hF : ∀ q, va_A wa H.size q → A0 q) (hP1 : va_P D cl w1 H1) (hD1 : va_D (va_A wa H.size) w1) : va_P D cl (w1 ++ wb) H1 ∧ va_D A0 (w1 ++ wb) := by
  have h := va_joinQ (X := wa) (cx := wa) (wr := []) (w1 := w1) (pl := wb) hP hD (List.range wa.length) [] (cb_all wa) rfl rfl (fun _ h => absurd h List.not_mem_nil) hk hF hP1 hD1
  exact h
theorem cb_P1 {D : va_G} {cl : List vw_C} {wa wb : va_W} {H : Heap} (hP : va_P D cl (wa ++ wb) H) : va_P D cl wa H := fun k q hk => hP k q (by rw [List.getElem?_append_left (List.getElem?_eq_some_iff.mp hk).1]; exact hk)
theorem cb_D1 {A : Nat → Prop} {wa wb : va_W} (hD : va_D A (wa ++ wb)) : va_D A wa :=
  ⟨fun i j p q hi hj e => hD.1 i j p q (by rw [List.getElem?_append_left (List.getElem?_eq_some_iff.mp hi).1]; exact hi) (by rw [List.getElem?_append_left (List.getElem?_eq_some_iff.mp hj).1]; exact hj) e,
   fun k q hk => hD.2 k q (by rw [List.getElem?_append_left (List.getElem?_eq_some_iff.mp hk).1]; exact hk)⟩
/-- two lists change places -/
theorem cb_Pc {D : va_G} {cl : List vw_C} {a b : va_W} {H : Heap} (h : va_P D cl (a ++ b) H) : va_P D cl (b ++ a) H := va_P.swap (a := []) h
theorem cb_Dc {A : Nat → Prop} {a b : va_W} (h : va_D A (a ++ b)) : va_D A (b ++ a) := va_D.swap (a := []) h
theorem cb_freeL {A0 : Nat → Prop} {wa wb : va_W} {H0 H : Heap} {locs : List Loc} (hD : va_D A0 (wa ++ wb)) (hS : va_S A0 H0 H locs) (hA : ∀ q, H0.size ≤ q → A0 q) : ∀ q, va_A wa H.size q → A0 q := cb_free (cb_D1 hD) hS hA
/-- an array's class out of the tables' word -/
theorem cb_arr {args : Array Value} {s : State} {ty : FieldType} (h : (Cond.arrayClass ty).before args s = true) : ∃ c, ArrOfT s c ty ∧ s.vm.findClass ("[" ++ ty.toString) = some c := by
  obtain ⟨c, k, comp, h1, h2, h3⟩ := Cond.arrayClass_spec h
  exact ⟨c, fun n z => ⟨fun k9 h9 => (by cases h9), k, h2, comp, h3⟩, h1⟩
/-- rows of ints: the class of their outer array -/
def cb_AO (U : State) : Prop := ∃ comp c k, U.vm.findClass (FieldType.array .int).toString = some comp ∧ (U.vm.classes.findIdx? fun (x : Class) => match x.kind with | .array component _ => component == comp | _ => false) = some c ∧ U.vm.classes[c]? = some k ∧ k.kind = .array comp (.array .int) ∧ U.vm.findClass ("[" ++ (FieldType.array .int).toString) = some c
theorem cb_AO.of {args : Array Value} {s : State} (h : (Cond.arrayOver (.array .int)).before args s = true) : cb_AO s := by
  unfold Cond.before at h
  simp only [Cond.holds, Cond.value, beq_iff_eq] at h
  cases hc : s.vm.findClass (FieldType.array .int).toString with
  | none => simp [hc] at h
  | some comp =>
    simp only [hc, Option.bind_some, Option.bind_eq_some_iff, Option.map_eq_some_iff] at h
    obtain ⟨c, hi, k, hk, hb⟩ := h
    obtain ⟨hlt, hp, -⟩ := Array.findIdx?_eq_some_iff_getElem.mp hi
    have hkk : s.vm.classes[c] = k := (Array.getElem?_eq_some_iff.mp hk).2
    rw [hkk] at hp
    cases hkind : k.kind with
    | array component ty =>
      rw [hkind] at hb hp
      simp at hb hp
      exact ⟨comp, c, k, hc, hi, hk, by rw [hkind, hp, hb.1], hb.2⟩
    | _ => rw [hkind] at hb; simp at hb
theorem cb_AO.moved {u U : State} (hvm : u.vm.Alike U.vm) (h : cb_AO u) : cb_AO U := by
  obtain ⟨comp, c, k, h1, h2, h3, h4, h5⟩ := h
  obtain ⟨k', hk', he⟩ := hvm.2.2 _ _ h3
  refine ⟨comp, c, k', by rw [hvm.findClass]; exact h1, ?_, hk', by rw [he]; exact h4, by rw [hvm.findClass]; exact h5⟩
  refine Eq.trans (va_idx_bare U.vm comp).symm ?_
  first | rw [hvm.bare_eq] | rw [← hvm.bare_eq]
  exact Eq.trans (va_idx_bare u.vm comp) h2
theorem cb_AO.use {args : Array Value} {s : State} (h : cb_AO s) : (Cond.arrayOver (.array .int)).before args s = true := by
  obtain ⟨comp, c, k, h1, h2, h3, h4, h5⟩ := h
  unfold Cond.before Cond.holds
  simp only [Cond.value]
  rw [h1, Option.bind_some]
  refine (congrArg (fun o : Option Nat => (o.bind (fun c => (s.vm.classes[c]?).map fun (k : Class) => match k.kind with | .array _ ty => decide (ty = FieldType.array .int) && decide (s.vm.findClass ("[" ++ (FieldType.array .int).toString) = some c) | _ => false) == some true)) h2).trans ?_
  simp [h3, h4, h5]
theorem cb_AO.cls {s : State} (h : cb_AO s) : ∃ c, ArrOfT s c (.array .int) ∧ s.vm.findClass ("[" ++ (FieldType.array .int).toString) = some c := by
  obtain ⟨comp, c, k, -, -, h3, h4, h5⟩ := h
  exact ⟨c, fun n z => ⟨fun k9 h9 => (by cases h9), k, h3, comp, h4⟩, h5⟩
section CBN
variable {p : Program} {l : Launch} {e : Env} {R : Room} {s : State} {m : MethodId} {args : Array Value} {below : List Frame} {meth : Method} {c : Code} {H : Heap} {locs : List Loc} {cells slots : Nat} {Q : State → Prop}
variable {cc : ByteArray} {pc : Nat} {ls : Array Slot} {rest : List Value} {D : va_G} {cl : List vw_C} {A : Nat → Prop} {tys : List (ClassId × FieldType)} {ws : va_W} {H0 : Heap}
theorem cb_newa (hexec : p.tables.exec = Jvm.exec) (hb : c.code = cc) {atype : ArrayType} (harr : (Cond.arrayClass (newarray.typeOf atype)).before args s = true) {ty : FieldType} (hty : newarray.typeOf atype = ty) (hK : va_K D cl tys s) (hP : va_P D cl ws H) (hD : va_D A ws) (hS : va_S A H0 H locs) (hA : ∀ q, H0.size ≤ q → A q)
    (t0 : Nat) {c0 : ClassId} (ht : tys[t0]? = some (c0, ty)) (hra : ∀ c, va_RA s c ty → s.vm.findClass ("[" ++ ty.toString) = some c)
    {n : Int32} {N' : Nat} {a0 : vp_A} (ha : ∀ cA : ClassId, vp_cell cA a0 = arrV cA N' (fun _ => defaultValue ty)) (hn : ¬ n < 0) (hN : n.toNatClampNeg = N') (hbytes : N' * componentBytes ty ≤ 536870912) (hcells : cells + 1 ≤ R.cells) (hslots : slots + N' ≤ R.slots) (hdg : decode cc pc = .ok (.newarray atype, 2))
    (kk : ∀ (q : Nat) (H1 : Heap), va_P D cl (ws ++ [(q, .inl (c0, a0))]) H1 → va_D A (ws ++ [(q, .inl (c0, a0))]) → va_S A H0 H1 locs →
      W p l e R s m args below meth c H1 locs (cells + 1) (slots + N') Q (F0 m (pc + 2) ls (.ref q :: rest))) : W p l e R s m args below meth c H locs cells slots Q (F0 m pc ls (.int n :: rest)) := by
  refine va_newa hexec hb harr hty hK hP hD hS hA ha hn hN hbytes hcells hslots hdg (fun q cA H1 hK1 hP1 hD1 hS1 => ?_)
  have e1 := hra _ (hK1.2 tys.length (cA, ty) (by rw [List.getElem?_append_right (Nat.le_refl _), Nat.sub_self]; rfl)).2
  have e2 := hra _ (hK.2 t0 _ ht).2
  obtain rfl : cA = c0 := Option.some.inj (e1.symm.trans e2)
  exact kk q H1 hP1 hD1 hS1
end CBN
end
section
/-! the reference's constructor -/
def inL (f : Nat → Int32) : Nat → Nat → Int32
  | 0 => f
  | j + 1 => upd (inL f j) j ((nI j) - (nI j) / (2 : Int32) * (2 : Int32))
def inG (f : Nat → Int32) : Nat → Nat → Int32
  | 0 => f
  | j + 1 => upd (inG f j) j (256 : Int32)
def inI (j : Nat) (c : Int32) (f : Nat → Int32) : Nat → Nat → Int32
  | 0 => f
  | k + 1 => upd (inI j c f k) (8 * j + k) c
def inO (j : Nat) (c : Int32) (f g : Nat → Int32) : Nat → Nat → Int32
  | 0 => g
  | k + 1 => upd (inO j c f g k) (8 * j + k) (upd (inI j c f k) (8 * j + k) c (8 * j + k))
def inC (v : md_U) (j : Nat) : Int32 := fnX1_codeOf (inL (mdL v) (j + 1) j) (0 : Int32)
def inIo (v : md_U) : Nat → Nat → Int32
  | 0 => mdI v
  | j + 1 => inI j (inC v j) (inIo v j) 8
def inOo (v : md_U) : Nat → Nat → Int32
  | 0 => mdO v
  | j + 1 => inO j (inC v j) (inIo v j) (inOo v j) 8
theorem in_par (j : Nat) (hj : j < 8) : ((nI j) - (nI j) / (2 : Int32) * (2 : Int32)) = nI (j % 2) := pk_rem (d := 2) (by omega) (by decide) (by decide)
theorem in_law01 (f : Nat → Int32) {j : Nat} (hj : j < 8) : inL f (j + 1) j = 0 ∨ inL f (j + 1) j = 1 := by
  have e : inL f (j + 1) j = nI (j % 2) := by
    show upd (inL f j) j ((nI j) - (nI j) / (2 : Int32) * (2 : Int32)) j = _
    rw [pk_us, in_par j hj]
  rw [e]
  rcases Nat.mod_two_eq_zero_or_one j with h | h
  · rw [h]; exact Or.inl rfl
  · rw [h]; exact Or.inr rfl
def md_0 : md_U := (0, fun _ => 0, fun _ => 0, fun _ => 0, fun _ => 0, fun _ => 0, fun _ => 0, fun _ => 0, 3)
def md_1 : md_U := md_sO (md_sI (md_sG (md_sL md_0 (inL (mdL md_0) 8)) (inG (mdG md_0) 8)) (inIo md_0 8)) (inOo md_0 8)

set_option maxHeartbeats 4000000 in
set_option maxRecDepth 100000 in
theorem lpX1_init_98 {p : Program} {l : Launch} {e : Env} {s : State} {m : MethodId} {args : Array Value} {below : List Frame} {meth : Method} {c : Code} {Q : State → Prop} {A : Nat → Prop} {dC : Nat → ClassId} {dI : Nat → Nat → Nat} {ct : Nat → ClassId} {ad : Nat → Nat} (hx : p.tables.exec = Jvm.exec) (hb : c.code = cX1_init) (hml : c.maxLocals = 3) (hown : s.vm.findClass RX1 = some m.cls) (hts : ∀ w ∈ wsX1_init, w.before args s = true) (hin0 : ∀ w ∈ u_ws RX1 TX1 9, w ∈ wsX1_init) (hK : va_K (dC, dI) vwCl (cb_ty ct) s) (hA : ∀ q : Nat, s.heap.size ≤ q → A q) (v : md_U) (j : Nat) (hj : j < 8) (I0 O0 : Nat → Int32)
    (kk : ∀ (H : Heap) (locs : List Loc) (ls : Array Slot), va_P (dC, dI) vwCl (md_w ct ad ((md_sO (md_sI (md_sG (md_sL v (inL (mdL v) (j + 1))) (inG (mdG v) (j + 1))) (inI j (inC v j) I0 8)) (inO j (inC v j) I0 O0 8)))) H → va_D A (md_w ct ad ((md_sO (md_sI (md_sG (md_sL v (inL (mdL v) (j + 1))) (inG (mdG v) (j + 1))) (inI j (inC v j) I0 8)) (inO j (inC v j) I0 O0 8)))) → va_S A s.heap H locs → lv_has ls 3 [(0, .ref (ad 0)), (1, .int (nI j)), (2, .int (nI 8))] → W p l e ({ frames := 1, cells := 7, slots := 224, locals := 23 }) s m args below meth c H locs 7 224 Q (F0 m 153 ls [])) :
    ∀ (n k : Nat), k ≤ 8 → 9 ≤ k + n → ∀ (H : Heap) (locs : List Loc) (ls : Array Slot), va_P (dC, dI) vwCl (md_w ct ad ((md_sO (md_sI (md_sG (md_sL v (inL (mdL v) (j + 1))) (inG (mdG v) (j + 1))) (inI j (inC v j) I0 k)) (inO j (inC v j) I0 O0 k)))) H → va_D A (md_w ct ad ((md_sO (md_sI (md_sG (md_sL v (inL (mdL v) (j + 1))) (inG (mdG v) (j + 1))) (inI j (inC v j) I0 k)) (inO j (inC v j) I0 O0 k)))) → va_S A s.heap H locs → lv_has ls 3 [(0, .ref (ad 0)), (1, .int (nI j)), (2, .int (nI k))] → W p l e ({ frames := 1, cells := 7, slots := 224, locals := 23 }) s m args below meth c H locs 7 224 Q (F0 m 98 ls []) := by
  intro n
  induction n with
  | zero => intro k h1 h2; exact absurd h2 (by omega)
  | succ n ih =>
    intro k h1 h2 H locs ls hP hD hS hl
    refine lv_iload_n hx hb dX1_init_98 rfl (lv_at hl 2 rfl) ?_
    refine lv_bipush (v := 8) hx hb dX1_init_99 (by decide) ?_
    refine lv_icmp_ge (tgt := 153) hx hb dX1_init_101 (by decide) (fun c_1 => ?_) (fun c_1 => ?_)
    · have hk8 : k = 8 := Nat.le_antisymm h1 ((nI_leI (a := 8) (by decide) (by omega)).mp c_1)
      subst hk8
      exact kk H locs ls hP hD hS (lv_sub hl [0, 1, 2] rfl)
    · have hk : k < 8 := Nat.lt_of_not_le (fun q => c_1 (nI_le (a := 8) q (by omega)))
      refine lv_aload_n hx hb dX1_init_104 rfl (lv_at hl 0 rfl) ?_
      refine md_get hx hb hts hin0 hown hK hP 4 (by decide) (hts (.fieldLink RX1 24 "ConferenceBridgeModel" "in" "[I") (by decide +kernel)) (z := .ref (ad 4)) rfl dX1_init_105 ?_
      refine lv_bipush (v := 8) hx hb dX1_init_108 (by decide) ?_
      refine lv_iload_n hx hb dX1_init_110 rfl (lv_at hl 1 rfl) ?_
      refine lv_imul hx hb dX1_init_111 ?_
      refine lv_iload_n hx hb dX1_init_112 rfl (lv_at hl 2 rfl) ?_
      refine lv_iadd hx hb dX1_init_113 ?_
      refine lv_topi (fun x_2 ex_2 => ?_)
      obtain rfl : x_2 = nI (8 * j + k) := ex_2.trans md_ixN
      refine lv_aload_n hx hb dX1_init_114 rfl (lv_at hl 0 rfl) ?_
      refine md_get hx hb hts hin0 hown hK hP 1 (by decide) (hts (.fieldLink RX1 13 "ConferenceBridgeModel" "law" "[I") (by decide +kernel)) (z := .ref (ad 1)) rfl dX1_init_115 ?_
      refine lv_iload_n hx hb dX1_init_118 rfl (lv_at hl 1 rfl) ?_
      refine cb_iald hx hb hK hP 1 0 (f := inL (mdL v) (j + 1)) rfl rfl hj (by decide) dX1_init_119 ?_
      refine lv_iconst (v := 0) hx hb dX1_init_120 (by decide) ?_
      refine vp_callSi (W.runS (As := [.int (((inL (mdL v) (j + 1)) j)), .int (0)]) (rest := [.int (nI (8 * j + k)), .ref (ad 4)]) ⟨hx, hb, hml, hown, hts⟩ (metX1_codeOf l ((inL (mdL v) (j + 1)) j) (0 : Int32) (in_law01 _ hj) (by decide) (by decide)) (va_cwS 2 hts gX1_init_X1_codeOf rfl rfl rfl (by decide +kernel) ⟨(Nat.le_of_ble_eq_true rfl), (Nat.le_of_ble_eq_true rfl)⟩) ⟨fun a U g mk q => q, fun U hU hW => ⟨rfl, trivial⟩⟩ rfl rfl hl.1 rfl (lv_room (Nat.le_of_ble_eq_true rfl)) dX1_init_121 ⟨(Nat.le_of_ble_eq_true rfl), (Nat.le_of_ble_eq_true rfl)⟩) (fun r_3 er_3 => ?_)
      subst er_3
      refine cb_iast hx hb hK hP hD hS 4 0 (f := inI j (inC v j) I0 k) rfl rfl (show 8 * j + k < 64 by have h8 := hj; have h9 := hk; omega) (by decide) (ws1 := md_w ct ad ((md_sO (md_sI (md_sG (md_sL v (inL (mdL v) (j + 1))) (inG (mdG v) (j + 1))) (upd (inI j (inC v j) I0 k) ((8 * j + k)) (fnX1_codeOf ((inL (mdL v) (j + 1)) j) (0 : Int32)))) (inO j (inC v j) I0 O0 k)))) rfl dX1_init_124 (fun H locs hP hD hS => ?_)
      have hP : va_P (dC, dI) vwCl (md_w ct ad ((md_sO (md_sI (md_sG (md_sL v (inL (mdL v) (j + 1))) (inG (mdG v) (j + 1))) (upd (inI j (inC v j) I0 k) ((8 * j + k)) (fnX1_codeOf ((inL (mdL v) (j + 1)) j) (0 : Int32)))) (inO j (inC v j) I0 O0 k)))) H := hP
      have hD : va_D A (md_w ct ad ((md_sO (md_sI (md_sG (md_sL v (inL (mdL v) (j + 1))) (inG (mdG v) (j + 1))) (upd (inI j (inC v j) I0 k) ((8 * j + k)) (fnX1_codeOf ((inL (mdL v) (j + 1)) j) (0 : Int32)))) (inO j (inC v j) I0 O0 k)))) := hD
      refine lv_aload_n hx hb dX1_init_125 rfl (lv_at hl 0 rfl) ?_
      refine md_get hx hb hts hin0 hown hK hP 5 (by decide) (hts (.fieldLink RX1 27 "ConferenceBridgeModel" "out" "[I") (by decide +kernel)) (z := .ref (ad 5)) rfl dX1_init_126 ?_
      refine lv_bipush (v := 8) hx hb dX1_init_129 (by decide) ?_
      refine lv_iload_n hx hb dX1_init_131 rfl (lv_at hl 1 rfl) ?_
      refine lv_imul hx hb dX1_init_132 ?_
      refine lv_iload_n hx hb dX1_init_133 rfl (lv_at hl 2 rfl) ?_
      refine lv_iadd hx hb dX1_init_134 ?_
      refine lv_topi (fun x_4 ex_4 => ?_)
      obtain rfl : x_4 = nI (8 * j + k) := ex_4.trans md_ixN
      refine lv_aload_n hx hb dX1_init_135 rfl (lv_at hl 0 rfl) ?_
      refine md_get hx hb hts hin0 hown hK hP 4 (by decide) (hts (.fieldLink RX1 24 "ConferenceBridgeModel" "in" "[I") (by decide +kernel)) (z := .ref (ad 4)) rfl dX1_init_136 ?_
      refine lv_bipush (v := 8) hx hb dX1_init_139 (by decide) ?_
      refine lv_iload_n hx hb dX1_init_141 rfl (lv_at hl 1 rfl) ?_
      refine lv_imul hx hb dX1_init_142 ?_
      refine lv_iload_n hx hb dX1_init_143 rfl (lv_at hl 2 rfl) ?_
      refine lv_iadd hx hb dX1_init_144 ?_
      refine lv_topi (fun x_5 ex_5 => ?_)
      obtain rfl : x_5 = nI (8 * j + k) := ex_5.trans md_ixN
      refine cb_iald hx hb hK hP 4 0 (f := upd (inI j (inC v j) I0 k) ((8 * j + k)) (fnX1_codeOf ((inL (mdL v) (j + 1)) j) (0 : Int32))) rfl rfl (show 8 * j + k < 64 by have h8 := hj; have h9 := hk; omega) (by decide) dX1_init_145 ?_
      refine cb_iast hx hb hK hP hD hS 5 0 (f := inO j (inC v j) I0 O0 k) rfl rfl (show 8 * j + k < 64 by have h8 := hj; have h9 := hk; omega) (by decide) (ws1 := md_w ct ad ((md_sO (md_sI (md_sG (md_sL v (inL (mdL v) (j + 1))) (inG (mdG v) (j + 1))) (upd (inI j (inC v j) I0 k) ((8 * j + k)) (fnX1_codeOf ((inL (mdL v) (j + 1)) j) (0 : Int32)))) (upd (inO j (inC v j) I0 O0 k) ((8 * j + k)) ((upd (inI j (inC v j) I0 k) ((8 * j + k)) (fnX1_codeOf ((inL (mdL v) (j + 1)) j) (0 : Int32))) ((8 * j + k))))))) rfl dX1_init_146 (fun H locs hP hD hS => ?_)
      have hP : va_P (dC, dI) vwCl (md_w ct ad ((md_sO (md_sI (md_sG (md_sL v (inL (mdL v) (j + 1))) (inG (mdG v) (j + 1))) (upd (inI j (inC v j) I0 k) ((8 * j + k)) (fnX1_codeOf ((inL (mdL v) (j + 1)) j) (0 : Int32)))) (upd (inO j (inC v j) I0 O0 k) ((8 * j + k)) ((upd (inI j (inC v j) I0 k) ((8 * j + k)) (fnX1_codeOf ((inL (mdL v) (j + 1)) j) (0 : Int32))) ((8 * j + k))))))) H := hP
      have hD : va_D A (md_w ct ad ((md_sO (md_sI (md_sG (md_sL v (inL (mdL v) (j + 1))) (inG (mdG v) (j + 1))) (upd (inI j (inC v j) I0 k) ((8 * j + k)) (fnX1_codeOf ((inL (mdL v) (j + 1)) j) (0 : Int32)))) (upd (inO j (inC v j) I0 O0 k) ((8 * j + k)) ((upd (inI j (inC v j) I0 k) ((8 * j + k)) (fnX1_codeOf ((inL (mdL v) (j + 1)) j) (0 : Int32))) ((8 * j + k))))))) := hD
      refine lv_iinc (v := ((nI k) + (1 : Int32))) (lv' := [(2, .int (((nI k) + (1 : Int32)))), (0, .ref (ad 0)), (1, .int (nI j))]) hx hb dX1_init_147 hl (k := 2) rfl rfl (by decide) rfl (fun ls hl => ?_)
      refine lv_goto (tgt := 98) hx hb dX1_init_150 (by decide) ?_
      exact ih (k + 1) (by omega) (by omega) H locs ls hP hD hS (by rw [← nI_1]; exact lv_sub hl [1, 2, 0] rfl)

set_option maxHeartbeats 4000000 in
set_option maxRecDepth 100000 in
theorem lpX1_init_72 {p : Program} {l : Launch} {e : Env} {s : State} {m : MethodId} {args : Array Value} {below : List Frame} {meth : Method} {c : Code} {Q : State → Prop} {A : Nat → Prop} {dC : Nat → ClassId} {dI : Nat → Nat → Nat} {ct : Nat → ClassId} {ad : Nat → Nat} (hx : p.tables.exec = Jvm.exec) (hb : c.code = cX1_init) (hml : c.maxLocals = 3) (hown : s.vm.findClass RX1 = some m.cls) (hts : ∀ w ∈ wsX1_init, w.before args s = true) (hin0 : ∀ w ∈ u_ws RX1 TX1 9, w ∈ wsX1_init) (hK : va_K (dC, dI) vwCl (cb_ty ct) s) (hA : ∀ q : Nat, s.heap.size ≤ q → A q) (v : md_U)
    (kk : ∀ (H : Heap) (locs : List Loc) (ls : Array Slot), va_P (dC, dI) vwCl (md_w ct ad ((md_sO (md_sI (md_sG (md_sL v (inL (mdL v) 8)) (inG (mdG v) 8)) (inIo v 8)) (inOo v 8)))) H → va_D A (md_w ct ad ((md_sO (md_sI (md_sG (md_sL v (inL (mdL v) 8)) (inG (mdG v) 8)) (inIo v 8)) (inOo v 8)))) → va_S A s.heap H locs → lv_has ls 3 [(0, .ref (ad 0)), (1, .int (nI 8))] → W p l e ({ frames := 1, cells := 7, slots := 224, locals := 23 }) s m args below meth c H locs 7 224 Q (F0 m 159 ls [])) :
    ∀ (n j : Nat), j ≤ 8 → 9 ≤ j + n → ∀ (H : Heap) (locs : List Loc) (ls : Array Slot), va_P (dC, dI) vwCl (md_w ct ad ((md_sO (md_sI (md_sG (md_sL v (inL (mdL v) j)) (inG (mdG v) j)) (inIo v j)) (inOo v j)))) H → va_D A (md_w ct ad ((md_sO (md_sI (md_sG (md_sL v (inL (mdL v) j)) (inG (mdG v) j)) (inIo v j)) (inOo v j)))) → va_S A s.heap H locs → lv_has ls 3 [(0, .ref (ad 0)), (1, .int (nI j))] → W p l e ({ frames := 1, cells := 7, slots := 224, locals := 23 }) s m args below meth c H locs 7 224 Q (F0 m 72 ls []) := by
  intro n
  induction n with
  | zero => intro j h1 h2; exact absurd h2 (by omega)
  | succ n ih =>
    intro j h1 h2 H locs ls hP hD hS hl
    refine lv_iload_n hx hb dX1_init_72 rfl (lv_at hl 1 rfl) ?_
    refine lv_bipush (v := 8) hx hb dX1_init_73 (by decide) ?_
    refine lv_icmp_ge (tgt := 159) hx hb dX1_init_75 (by decide) (fun c_1 => ?_) (fun c_1 => ?_)
    · have hk8 : j = 8 := Nat.le_antisymm h1 ((nI_leI (a := 8) (by decide) (by omega)).mp c_1)
      subst hk8
      exact kk H locs ls hP hD hS (lv_sub hl [0, 1] rfl)
    · have hj : j < 8 := Nat.lt_of_not_le (fun q => c_1 (nI_le (a := 8) q (by omega)))
      refine lv_aload_n hx hb dX1_init_78 rfl (lv_at hl 0 rfl) ?_
      refine md_get hx hb hts hin0 hown hK hP 1 (by decide) (hts (.fieldLink RX1 13 "ConferenceBridgeModel" "law" "[I") (by decide +kernel)) (z := .ref (ad 1)) rfl dX1_init_79 ?_
      refine lv_iload_n hx hb dX1_init_82 rfl (lv_at hl 1 rfl) ?_
      refine lv_iload_n hx hb dX1_init_83 rfl (lv_at hl 1 rfl) ?_
      refine lv_iconst (v := 2) hx hb dX1_init_84 (by decide) ?_
      refine lv_irem hx hb dX1_init_85 (by decide) ?_
      refine cb_iast hx hb hK hP hD hS 1 0 (f := inL (mdL v) j) rfl rfl hj (by decide) (ws1 := md_w ct ad ((md_sO (md_sI (md_sG (md_sL v (upd (inL (mdL v) j) j ((nI j) - (nI j) / (2 : Int32) * (2 : Int32)))) (inG (mdG v) j)) (inIo v j)) (inOo v j)))) rfl dX1_init_86 (fun H locs hP hD hS => ?_)
      have hP : va_P (dC, dI) vwCl (md_w ct ad ((md_sO (md_sI (md_sG (md_sL v (upd (inL (mdL v) j) j ((nI j) - (nI j) / (2 : Int32) * (2 : Int32)))) (inG (mdG v) j)) (inIo v j)) (inOo v j)))) H := hP
      have hD : va_D A (md_w ct ad ((md_sO (md_sI (md_sG (md_sL v (upd (inL (mdL v) j) j ((nI j) - (nI j) / (2 : Int32) * (2 : Int32)))) (inG (mdG v) j)) (inIo v j)) (inOo v j)))) := hD
      refine lv_aload_n hx hb dX1_init_87 rfl (lv_at hl 0 rfl) ?_
      refine md_get hx hb hts hin0 hown hK hP 2 (by decide) (hts (.fieldLink RX1 17 "ConferenceBridgeModel" "gain" "[I") (by decide +kernel)) (z := .ref (ad 2)) rfl dX1_init_88 ?_
      refine lv_iload_n hx hb dX1_init_91 rfl (lv_at hl 1 rfl) ?_
      refine lv_sipush (v := 256) hx hb dX1_init_92 (by decide) ?_
      refine cb_iast hx hb hK hP hD hS 2 0 (f := inG (mdG v) j) rfl rfl hj (by decide) (ws1 := md_w ct ad ((md_sO (md_sI (md_sG (md_sL v (upd (inL (mdL v) j) j ((nI j) - (nI j) / (2 : Int32) * (2 : Int32)))) (upd (inG (mdG v) j) j (256 : Int32))) (inIo v j)) (inOo v j)))) rfl dX1_init_95 (fun H locs hP hD hS => ?_)
      have hP : va_P (dC, dI) vwCl (md_w ct ad ((md_sO (md_sI (md_sG (md_sL v (upd (inL (mdL v) j) j ((nI j) - (nI j) / (2 : Int32) * (2 : Int32)))) (upd (inG (mdG v) j) j (256 : Int32))) (inIo v j)) (inOo v j)))) H := hP
      have hD : va_D A (md_w ct ad ((md_sO (md_sI (md_sG (md_sL v (upd (inL (mdL v) j) j ((nI j) - (nI j) / (2 : Int32) * (2 : Int32)))) (upd (inG (mdG v) j) j (256 : Int32))) (inIo v j)) (inOo v j)))) := hD
      refine lv_iconst (v := 0) hx hb dX1_init_96 (by decide) ?_
      refine lv_istore_n (lv' := [(2, .int (0)), (0, .ref (ad 0)), (1, .int (nI j))]) hx hb dX1_init_97 rfl hl (by decide) rfl (fun ls hl => ?_)
      refine lpX1_init_98 hx hb hml hown hts hin0 hK hA v j hj (inIo v j) (inOo v j) (fun H locs ls hP hD hS hl => ?_) 9 0 (by decide) (by decide) _ _ ls hP hD hS (lv_sub hl [1, 2, 0] rfl)
      refine lv_iinc (v := ((nI j) + (1 : Int32))) (lv' := [(1, .int (((nI j) + (1 : Int32)))), (0, .ref (ad 0)), (2, .int (nI 8))]) hx hb dX1_init_153 hl (k := 1) rfl rfl (by decide) rfl (fun ls hl => ?_)
      refine lv_goto (tgt := 72) hx hb dX1_init_156 (by decide) ?_
      exact ih (j + 1) (by omega) (by omega) H locs ls hP hD hS (by rw [← nI_1]; exact lv_sub hl [1, 0] rfl)

set_option maxHeartbeats 4000000 in
set_option maxRecDepth 100000 in
theorem metX1_init (l : Launch) (dC : Nat → ClassId) (dI : Nat → Nat → Nat) (ct : Nat → ClassId) (h0 : Nat) (sz : Nat) : Met l yX1_init wsX1_init ({ frames := 1, cells := 7, slots := 224, locals := 23 }) (va_Pc [.ref h0] (fun U => U.heap.size = sz ∧ va_P (dC, dI) vwCl [(h0, .inr (1, [.int 0, .null, .null, .null, .null, .null, .null, .null, .int 0]))] U.heap ∧ va_K (dC, dI) vwCl (cb_ty ct) U ∧ va_D (fun _ => True) [(h0, .inr (1, [.int 0, .null, .null, .null, .null, .null, .null, .null, .int 0]))])) (va_Qv (fun ad : Nat → Nat => ad 0 = h0) (fun ad => md_B dC dI ct ad (va_A [(h0, .inr (1, [.int 0, .null, .null, .null, .null, .null, .null, .null, .int 0]))] sz) md_1) (va_A [(h0, .inr (1, [.int 0, .null, .null, .null, .null, .null, .null, .null, .int 0]))] sz)) 7 224 (va_A [(h0, .inr (1, [.int 0, .null, .null, .null, .null, .null, .null, .null, .int 0]))] sz) := by
  refine Met.ofW (cc := cX1_init) (maxL := 3) (ret := none) (by decide) rfl ?_
  intro p e s m args below meth c s₁ B hml hv
  obtain ⟨rfl, hsz, hP, hK, hD0⟩ := hv
  have hx := B.exec
  have hb := B.bytes
  have hr := B.returns
  have hts := atoms_spec (ws := wsX1_init) B.pre
  have hown : s.vm.findClass RX1 = some m.cls := findClass_of_methodNamed B.named
  have hlocks := B.notSynchronized
  have hin : meth.name = "<init>" := (name_of_methodNamed B.named B.method).1
  have hin0 : ∀ w ∈ u_ws RX1 TX1 9, w ∈ wsX1_init := by decide +kernel
  subst hsz
  have hD := hD0.self (sz := s.heap.size)
  generalize hAe : va_A [(h0, .inr (1, [.int 0, .null, .null, .null, .null, .null, .null, .null, .int 0]))] s.heap.size = A at hD ⊢
  have hA : ∀ q : Nat, s.heap.size ≤ q → A q := fun q h => by rw [← hAe]; exact Or.inr h
  have hS : va_S A s.heap s.heap [] := va_S.rf
  have hP : va_P (dC, dI) vwCl [(h0, .inr (1, [.int 0, .null, .null, .null, .null, .null, .null, .null, .int 0]))] s.heap := hP
  have hl := lv_entry ([.ref h0]) (n := 3) (Nat.le_of_ble_eq_true rfl)
  rw [lg_entry_eq]
  generalize (lg_sl ([.ref h0]) ++ List.replicate (3 - (lg_sl ([.ref h0])).length) Slot.unset).toArray = ls at hl ⊢
  have hl : lv_has ls 3 [(0, .ref h0)] := hl
  refine lv_aload_n hx hb dX1_init_0 rfl (lv_at hl 0 rfl) ?_
  refine W.objInit hx hb hown (hts (.methodLink RX1 1 objectInit) (by decide +kernel)) (hts (.instanceMethod objectInit) (by decide +kernel)) (hts (.code objectInit ⟨#[0xb1]⟩ 1 none) (by decide +kernel)) rfl (by rw [hml]; exact hl.1) rfl dX1_init_1 (Nat.le_of_ble_eq_true rfl) (Nat.le_of_ble_eq_true rfl) ?_
  refine W.eq (g2 := F0 m 4 ls []) rfl ?_
  refine lv_aload_n hx hb dX1_init_4 rfl (lv_at hl 0 rfl) ?_
  refine lv_iconst (v := 0) hx hb dX1_init_5 (by decide) ?_
  refine va_put (D := (dC, dI)) (ci := 1) (v := .int (0)) (ty := .int) (C := RX1) (T := TX1) (N := 9) hx hb hts hin0 tyX1 tyX1_ok nmX1 hown hK hP hD hS 0 rfl rfl 0 (by decide) (hts (.fieldLink RX1 7 "ConferenceBridgeModel" "thrownCode" "I") (by decide +kernel)) (fun _ h9 => h9) rfl (by decide +kernel) rfl rfl (Nat.le_of_ble_eq_true rfl) dX1_init_6 (fun H locs hP hD hS => ?_)
  have hP : va_P (dC, dI) vwCl [(h0, .inr (1, [.int (0), .null, .null, .null, .null, .null, .null, .null, .int 0]))] H := hP
  have hD : va_D A [(h0, .inr (1, [.int (0), .null, .null, .null, .null, .null, .null, .null, .int 0]))] := hD
  refine lv_aload_n hx hb dX1_init_9 rfl (lv_at hl 0 rfl) ?_
  refine lv_bipush (v := 8) hx hb dX1_init_10 (by decide) ?_
  refine cb_newa (atype := .int) hx hb (hts (.arrayClass .int) (by decide +kernel)) (ty := .int) rfl hK hP hD hS hA 0 rfl (fun _ h9 => h9) (a0 := (8, .inl (fun _ => 0))) (fun _ => rfl) (by decide) (N' := 8) (by decide) (Nat.le_of_ble_eq_true rfl) (Nat.le_of_ble_eq_true rfl) (Nat.le_of_ble_eq_true rfl) dX1_init_12 (fun q12 H hP hD hS => ?_)
  have hP : va_P (dC, dI) vwCl [(h0, .inr (1, [.int (0), .null, .null, .null, .null, .null, .null, .null, .int 0])), (q12, .inl (ct 0, (8, .inl (fun _ => 0))))] H := hP
  have hD : va_D A [(h0, .inr (1, [.int (0), .null, .null, .null, .null, .null, .null, .null, .int 0])), (q12, .inl (ct 0, (8, .inl (fun _ => 0))))] := hD
  refine W.widen (k := 1) (n := 8) (Nat.le_of_ble_eq_true rfl) (Nat.le_of_ble_eq_true rfl) ?_
  refine va_putF (D := (dC, dI)) (ci := 1) (v := .ref q12) (ty := .array .int) (C := RX1) (T := TX1) (N := 9) hx hb hts hin0 tyX1 tyX1_ok nmX1 hown hK hP hD hS 0 rfl rfl 1 (by decide) (hts (.fieldLink RX1 13 "ConferenceBridgeModel" "law" "[I") (by decide +kernel)) (fun _ h9 => h9) rfl hin rfl (by decide +kernel) rfl rfl (Nat.le_of_ble_eq_true rfl) dX1_init_14 (fun H locs hP hD hS => ?_)
  have hP : va_P (dC, dI) vwCl [(h0, .inr (1, [.int (0), .ref q12, .null, .null, .null, .null, .null, .null, .int 0])), (q12, .inl (ct 0, (8, .inl (fun _ => 0))))] H := hP
  have hD : va_D A [(h0, .inr (1, [.int (0), .ref q12, .null, .null, .null, .null, .null, .null, .int 0])), (q12, .inl (ct 0, (8, .inl (fun _ => 0))))] := hD
  refine lv_aload_n hx hb dX1_init_17 rfl (lv_at hl 0 rfl) ?_
  refine lv_bipush (v := 8) hx hb dX1_init_18 (by decide) ?_
  refine cb_newa (atype := .int) hx hb (hts (.arrayClass .int) (by decide +kernel)) (ty := .int) rfl hK hP hD hS hA 0 rfl (fun _ h9 => h9) (a0 := (8, .inl (fun _ => 0))) (fun _ => rfl) (by decide) (N' := 8) (by decide) (Nat.le_of_ble_eq_true rfl) (Nat.le_of_ble_eq_true rfl) (Nat.le_of_ble_eq_true rfl) dX1_init_20 (fun q20 H hP hD hS => ?_)
  have hP : va_P (dC, dI) vwCl [(h0, .inr (1, [.int (0), .ref q12, .null, .null, .null, .null, .null, .null, .int 0])), (q12, .inl (ct 0, (8, .inl (fun _ => 0)))), (q20, .inl (ct 0, (8, .inl (fun _ => 0))))] H := hP
  have hD : va_D A [(h0, .inr (1, [.int (0), .ref q12, .null, .null, .null, .null, .null, .null, .int 0])), (q12, .inl (ct 0, (8, .inl (fun _ => 0)))), (q20, .inl (ct 0, (8, .inl (fun _ => 0))))] := hD
  refine W.widen (k := 2) (n := 16) (Nat.le_of_ble_eq_true rfl) (Nat.le_of_ble_eq_true rfl) ?_
  refine va_putF (D := (dC, dI)) (ci := 1) (v := .ref q20) (ty := .array .int) (C := RX1) (T := TX1) (N := 9) hx hb hts hin0 tyX1 tyX1_ok nmX1 hown hK hP hD hS 0 rfl rfl 2 (by decide) (hts (.fieldLink RX1 17 "ConferenceBridgeModel" "gain" "[I") (by decide +kernel)) (fun _ h9 => h9) rfl hin rfl (by decide +kernel) rfl rfl (Nat.le_of_ble_eq_true rfl) dX1_init_22 (fun H locs hP hD hS => ?_)
  have hP : va_P (dC, dI) vwCl [(h0, .inr (1, [.int (0), .ref q12, .ref q20, .null, .null, .null, .null, .null, .int 0])), (q12, .inl (ct 0, (8, .inl (fun _ => 0)))), (q20, .inl (ct 0, (8, .inl (fun _ => 0))))] H := hP
  have hD : va_D A [(h0, .inr (1, [.int (0), .ref q12, .ref q20, .null, .null, .null, .null, .null, .int 0])), (q12, .inl (ct 0, (8, .inl (fun _ => 0)))), (q20, .inl (ct 0, (8, .inl (fun _ => 0))))] := hD
  refine lv_aload_n hx hb dX1_init_25 rfl (lv_at hl 0 rfl) ?_
  refine lv_bipush (v := 8) hx hb dX1_init_26 (by decide) ?_
  refine cb_newa (atype := .boolean) hx hb (hts (.arrayClass .boolean) (by decide +kernel)) (ty := .boolean) rfl hK hP hD hS hA 1 rfl (fun _ h9 => h9) (a0 := (8, .inl (fun _ => 0))) (fun _ => rfl) (by decide) (N' := 8) (by decide) (Nat.le_of_ble_eq_true rfl) (Nat.le_of_ble_eq_true rfl) (Nat.le_of_ble_eq_true rfl) dX1_init_28 (fun q28 H hP hD hS => ?_)
  have hP : va_P (dC, dI) vwCl [(h0, .inr (1, [.int (0), .ref q12, .ref q20, .null, .null, .null, .null, .null, .int 0])), (q12, .inl (ct 0, (8, .inl (fun _ => 0)))), (q20, .inl (ct 0, (8, .inl (fun _ => 0)))), (q28, .inl (ct 1, (8, .inl (fun _ => 0))))] H := hP
  have hD : va_D A [(h0, .inr (1, [.int (0), .ref q12, .ref q20, .null, .null, .null, .null, .null, .int 0])), (q12, .inl (ct 0, (8, .inl (fun _ => 0)))), (q20, .inl (ct 0, (8, .inl (fun _ => 0)))), (q28, .inl (ct 1, (8, .inl (fun _ => 0))))] := hD
  refine W.widen (k := 3) (n := 24) (Nat.le_of_ble_eq_true rfl) (Nat.le_of_ble_eq_true rfl) ?_
  refine va_putF (D := (dC, dI)) (ci := 1) (v := .ref q28) (ty := .array .boolean) (C := RX1) (T := TX1) (N := 9) hx hb hts hin0 tyX1 tyX1_ok nmX1 hown hK hP hD hS 0 rfl rfl 3 (by decide) (hts (.fieldLink RX1 20 "ConferenceBridgeModel" "muted" "[Z") (by decide +kernel)) (fun _ h9 => h9) rfl hin rfl (by decide +kernel) rfl rfl (Nat.le_of_ble_eq_true rfl) dX1_init_30 (fun H locs hP hD hS => ?_)
  have hP : va_P (dC, dI) vwCl [(h0, .inr (1, [.int (0), .ref q12, .ref q20, .ref q28, .null, .null, .null, .null, .int 0])), (q12, .inl (ct 0, (8, .inl (fun _ => 0)))), (q20, .inl (ct 0, (8, .inl (fun _ => 0)))), (q28, .inl (ct 1, (8, .inl (fun _ => 0))))] H := hP
  have hD : va_D A [(h0, .inr (1, [.int (0), .ref q12, .ref q20, .ref q28, .null, .null, .null, .null, .int 0])), (q12, .inl (ct 0, (8, .inl (fun _ => 0)))), (q20, .inl (ct 0, (8, .inl (fun _ => 0)))), (q28, .inl (ct 1, (8, .inl (fun _ => 0))))] := hD
  refine lv_aload_n hx hb dX1_init_33 rfl (lv_at hl 0 rfl) ?_
  refine lv_bipush (v := 64) hx hb dX1_init_34 (by decide) ?_
  refine cb_newa (atype := .int) hx hb (hts (.arrayClass .int) (by decide +kernel)) (ty := .int) rfl hK hP hD hS hA 0 rfl (fun _ h9 => h9) (a0 := (64, .inl (fun _ => 0))) (fun _ => rfl) (by decide) (N' := 64) (by decide) (Nat.le_of_ble_eq_true rfl) (Nat.le_of_ble_eq_true rfl) (Nat.le_of_ble_eq_true rfl) dX1_init_36 (fun q36 H hP hD hS => ?_)
  have hP : va_P (dC, dI) vwCl [(h0, .inr (1, [.int (0), .ref q12, .ref q20, .ref q28, .null, .null, .null, .null, .int 0])), (q12, .inl (ct 0, (8, .inl (fun _ => 0)))), (q20, .inl (ct 0, (8, .inl (fun _ => 0)))), (q28, .inl (ct 1, (8, .inl (fun _ => 0)))), (q36, .inl (ct 0, (64, .inl (fun _ => 0))))] H := hP
  have hD : va_D A [(h0, .inr (1, [.int (0), .ref q12, .ref q20, .ref q28, .null, .null, .null, .null, .int 0])), (q12, .inl (ct 0, (8, .inl (fun _ => 0)))), (q20, .inl (ct 0, (8, .inl (fun _ => 0)))), (q28, .inl (ct 1, (8, .inl (fun _ => 0)))), (q36, .inl (ct 0, (64, .inl (fun _ => 0))))] := hD
  refine W.widen (k := 4) (n := 88) (Nat.le_of_ble_eq_true rfl) (Nat.le_of_ble_eq_true rfl) ?_
  refine va_putF (D := (dC, dI)) (ci := 1) (v := .ref q36) (ty := .array .int) (C := RX1) (T := TX1) (N := 9) hx hb hts hin0 tyX1 tyX1_ok nmX1 hown hK hP hD hS 0 rfl rfl 4 (by decide) (hts (.fieldLink RX1 24 "ConferenceBridgeModel" "in" "[I") (by decide +kernel)) (fun _ h9 => h9) rfl hin rfl (by decide +kernel) rfl rfl (Nat.le_of_ble_eq_true rfl) dX1_init_38 (fun H locs hP hD hS => ?_)
  have hP : va_P (dC, dI) vwCl [(h0, .inr (1, [.int (0), .ref q12, .ref q20, .ref q28, .ref q36, .null, .null, .null, .int 0])), (q12, .inl (ct 0, (8, .inl (fun _ => 0)))), (q20, .inl (ct 0, (8, .inl (fun _ => 0)))), (q28, .inl (ct 1, (8, .inl (fun _ => 0)))), (q36, .inl (ct 0, (64, .inl (fun _ => 0))))] H := hP
  have hD : va_D A [(h0, .inr (1, [.int (0), .ref q12, .ref q20, .ref q28, .ref q36, .null, .null, .null, .int 0])), (q12, .inl (ct 0, (8, .inl (fun _ => 0)))), (q20, .inl (ct 0, (8, .inl (fun _ => 0)))), (q28, .inl (ct 1, (8, .inl (fun _ => 0)))), (q36, .inl (ct 0, (64, .inl (fun _ => 0))))] := hD
  refine lv_aload_n hx hb dX1_init_41 rfl (lv_at hl 0 rfl) ?_
  refine lv_bipush (v := 64) hx hb dX1_init_42 (by decide) ?_
  refine cb_newa (atype := .int) hx hb (hts (.arrayClass .int) (by decide +kernel)) (ty := .int) rfl hK hP hD hS hA 0 rfl (fun _ h9 => h9) (a0 := (64, .inl (fun _ => 0))) (fun _ => rfl) (by decide) (N' := 64) (by decide) (Nat.le_of_ble_eq_true rfl) (Nat.le_of_ble_eq_true rfl) (Nat.le_of_ble_eq_true rfl) dX1_init_44 (fun q44 H hP hD hS => ?_)
  have hP : va_P (dC, dI) vwCl [(h0, .inr (1, [.int (0), .ref q12, .ref q20, .ref q28, .ref q36, .null, .null, .null, .int 0])), (q12, .inl (ct 0, (8, .inl (fun _ => 0)))), (q20, .inl (ct 0, (8, .inl (fun _ => 0)))), (q28, .inl (ct 1, (8, .inl (fun _ => 0)))), (q36, .inl (ct 0, (64, .inl (fun _ => 0)))), (q44, .inl (ct 0, (64, .inl (fun _ => 0))))] H := hP
  have hD : va_D A [(h0, .inr (1, [.int (0), .ref q12, .ref q20, .ref q28, .ref q36, .null, .null, .null, .int 0])), (q12, .inl (ct 0, (8, .inl (fun _ => 0)))), (q20, .inl (ct 0, (8, .inl (fun _ => 0)))), (q28, .inl (ct 1, (8, .inl (fun _ => 0)))), (q36, .inl (ct 0, (64, .inl (fun _ => 0)))), (q44, .inl (ct 0, (64, .inl (fun _ => 0))))] := hD
  refine W.widen (k := 5) (n := 152) (Nat.le_of_ble_eq_true rfl) (Nat.le_of_ble_eq_true rfl) ?_
  refine va_putF (D := (dC, dI)) (ci := 1) (v := .ref q44) (ty := .array .int) (C := RX1) (T := TX1) (N := 9) hx hb hts hin0 tyX1 tyX1_ok nmX1 hown hK hP hD hS 0 rfl rfl 5 (by decide) (hts (.fieldLink RX1 27 "ConferenceBridgeModel" "out" "[I") (by decide +kernel)) (fun _ h9 => h9) rfl hin rfl (by decide +kernel) rfl rfl (Nat.le_of_ble_eq_true rfl) dX1_init_46 (fun H locs hP hD hS => ?_)
  have hP : va_P (dC, dI) vwCl [(h0, .inr (1, [.int (0), .ref q12, .ref q20, .ref q28, .ref q36, .ref q44, .null, .null, .int 0])), (q12, .inl (ct 0, (8, .inl (fun _ => 0)))), (q20, .inl (ct 0, (8, .inl (fun _ => 0)))), (q28, .inl (ct 1, (8, .inl (fun _ => 0)))), (q36, .inl (ct 0, (64, .inl (fun _ => 0)))), (q44, .inl (ct 0, (64, .inl (fun _ => 0))))] H := hP
  have hD : va_D A [(h0, .inr (1, [.int (0), .ref q12, .ref q20, .ref q28, .ref q36, .ref q44, .null, .null, .int 0])), (q12, .inl (ct 0, (8, .inl (fun _ => 0)))), (q20, .inl (ct 0, (8, .inl (fun _ => 0)))), (q28, .inl (ct 1, (8, .inl (fun _ => 0)))), (q36, .inl (ct 0, (64, .inl (fun _ => 0)))), (q44, .inl (ct 0, (64, .inl (fun _ => 0))))] := hD
  refine lv_aload_n hx hb dX1_init_49 rfl (lv_at hl 0 rfl) ?_
  refine lv_bipush (v := 64) hx hb dX1_init_50 (by decide) ?_
  refine cb_newa (atype := .int) hx hb (hts (.arrayClass .int) (by decide +kernel)) (ty := .int) rfl hK hP hD hS hA 0 rfl (fun _ h9 => h9) (a0 := (64, .inl (fun _ => 0))) (fun _ => rfl) (by decide) (N' := 64) (by decide) (Nat.le_of_ble_eq_true rfl) (Nat.le_of_ble_eq_true rfl) (Nat.le_of_ble_eq_true rfl) dX1_init_52 (fun q52 H hP hD hS => ?_)
  have hP : va_P (dC, dI) vwCl [(h0, .inr (1, [.int (0), .ref q12, .ref q20, .ref q28, .ref q36, .ref q44, .null, .null, .int 0])), (q12, .inl (ct 0, (8, .inl (fun _ => 0)))), (q20, .inl (ct 0, (8, .inl (fun _ => 0)))), (q28, .inl (ct 1, (8, .inl (fun _ => 0)))), (q36, .inl (ct 0, (64, .inl (fun _ => 0)))), (q44, .inl (ct 0, (64, .inl (fun _ => 0)))), (q52, .inl (ct 0, (64, .inl (fun _ => 0))))] H := hP
  have hD : va_D A [(h0, .inr (1, [.int (0), .ref q12, .ref q20, .ref q28, .ref q36, .ref q44, .null, .null, .int 0])), (q12, .inl (ct 0, (8, .inl (fun _ => 0)))), (q20, .inl (ct 0, (8, .inl (fun _ => 0)))), (q28, .inl (ct 1, (8, .inl (fun _ => 0)))), (q36, .inl (ct 0, (64, .inl (fun _ => 0)))), (q44, .inl (ct 0, (64, .inl (fun _ => 0)))), (q52, .inl (ct 0, (64, .inl (fun _ => 0))))] := hD
  refine W.widen (k := 6) (n := 216) (Nat.le_of_ble_eq_true rfl) (Nat.le_of_ble_eq_true rfl) ?_
  refine va_putF (D := (dC, dI)) (ci := 1) (v := .ref q52) (ty := .array .int) (C := RX1) (T := TX1) (N := 9) hx hb hts hin0 tyX1 tyX1_ok nmX1 hown hK hP hD hS 0 rfl rfl 6 (by decide) (hts (.fieldLink RX1 30 "ConferenceBridgeModel" "sample" "[I") (by decide +kernel)) (fun _ h9 => h9) rfl hin rfl (by decide +kernel) rfl rfl (Nat.le_of_ble_eq_true rfl) dX1_init_54 (fun H locs hP hD hS => ?_)
  have hP : va_P (dC, dI) vwCl [(h0, .inr (1, [.int (0), .ref q12, .ref q20, .ref q28, .ref q36, .ref q44, .ref q52, .null, .int 0])), (q12, .inl (ct 0, (8, .inl (fun _ => 0)))), (q20, .inl (ct 0, (8, .inl (fun _ => 0)))), (q28, .inl (ct 1, (8, .inl (fun _ => 0)))), (q36, .inl (ct 0, (64, .inl (fun _ => 0)))), (q44, .inl (ct 0, (64, .inl (fun _ => 0)))), (q52, .inl (ct 0, (64, .inl (fun _ => 0))))] H := hP
  have hD : va_D A [(h0, .inr (1, [.int (0), .ref q12, .ref q20, .ref q28, .ref q36, .ref q44, .ref q52, .null, .int 0])), (q12, .inl (ct 0, (8, .inl (fun _ => 0)))), (q20, .inl (ct 0, (8, .inl (fun _ => 0)))), (q28, .inl (ct 1, (8, .inl (fun _ => 0)))), (q36, .inl (ct 0, (64, .inl (fun _ => 0)))), (q44, .inl (ct 0, (64, .inl (fun _ => 0)))), (q52, .inl (ct 0, (64, .inl (fun _ => 0))))] := hD
  refine lv_aload_n hx hb dX1_init_57 rfl (lv_at hl 0 rfl) ?_
  refine lv_bipush (v := 8) hx hb dX1_init_58 (by decide) ?_
  refine cb_newa (atype := .long) hx hb (hts (.arrayClass .long) (by decide +kernel)) (ty := .long) rfl hK hP hD hS hA 3 rfl (fun _ h9 => h9) (a0 := (8, .inr (.inl (fun _ => 0)))) (fun _ => rfl) (by decide) (N' := 8) (by decide) (Nat.le_of_ble_eq_true rfl) (Nat.le_of_ble_eq_true rfl) (Nat.le_of_ble_eq_true rfl) dX1_init_60 (fun q60 H hP hD hS => ?_)
  have hP : va_P (dC, dI) vwCl [(h0, .inr (1, [.int (0), .ref q12, .ref q20, .ref q28, .ref q36, .ref q44, .ref q52, .null, .int 0])), (q12, .inl (ct 0, (8, .inl (fun _ => 0)))), (q20, .inl (ct 0, (8, .inl (fun _ => 0)))), (q28, .inl (ct 1, (8, .inl (fun _ => 0)))), (q36, .inl (ct 0, (64, .inl (fun _ => 0)))), (q44, .inl (ct 0, (64, .inl (fun _ => 0)))), (q52, .inl (ct 0, (64, .inl (fun _ => 0)))), (q60, .inl (ct 3, (8, .inr (.inl (fun _ => 0)))))] H := hP
  have hD : va_D A [(h0, .inr (1, [.int (0), .ref q12, .ref q20, .ref q28, .ref q36, .ref q44, .ref q52, .null, .int 0])), (q12, .inl (ct 0, (8, .inl (fun _ => 0)))), (q20, .inl (ct 0, (8, .inl (fun _ => 0)))), (q28, .inl (ct 1, (8, .inl (fun _ => 0)))), (q36, .inl (ct 0, (64, .inl (fun _ => 0)))), (q44, .inl (ct 0, (64, .inl (fun _ => 0)))), (q52, .inl (ct 0, (64, .inl (fun _ => 0)))), (q60, .inl (ct 3, (8, .inr (.inl (fun _ => 0)))))] := hD
  refine W.widen (k := 7) (n := 224) (Nat.le_of_ble_eq_true rfl) (Nat.le_of_ble_eq_true rfl) ?_
  refine va_putF (D := (dC, dI)) (ci := 1) (v := .ref q60) (ty := .array .long) (C := RX1) (T := TX1) (N := 9) hx hb hts hin0 tyX1 tyX1_ok nmX1 hown hK hP hD hS 0 rfl rfl 7 (by decide) (hts (.fieldLink RX1 33 "ConferenceBridgeModel" "energy" "[J") (by decide +kernel)) (fun _ h9 => h9) rfl hin rfl (by decide +kernel) rfl rfl (Nat.le_of_ble_eq_true rfl) dX1_init_62 (fun H locs hP hD hS => ?_)
  have hP : va_P (dC, dI) vwCl [(h0, .inr (1, [.int (0), .ref q12, .ref q20, .ref q28, .ref q36, .ref q44, .ref q52, .ref q60, .int 0])), (q12, .inl (ct 0, (8, .inl (fun _ => 0)))), (q20, .inl (ct 0, (8, .inl (fun _ => 0)))), (q28, .inl (ct 1, (8, .inl (fun _ => 0)))), (q36, .inl (ct 0, (64, .inl (fun _ => 0)))), (q44, .inl (ct 0, (64, .inl (fun _ => 0)))), (q52, .inl (ct 0, (64, .inl (fun _ => 0)))), (q60, .inl (ct 3, (8, .inr (.inl (fun _ => 0)))))] H := hP
  have hD : va_D A [(h0, .inr (1, [.int (0), .ref q12, .ref q20, .ref q28, .ref q36, .ref q44, .ref q52, .ref q60, .int 0])), (q12, .inl (ct 0, (8, .inl (fun _ => 0)))), (q20, .inl (ct 0, (8, .inl (fun _ => 0)))), (q28, .inl (ct 1, (8, .inl (fun _ => 0)))), (q36, .inl (ct 0, (64, .inl (fun _ => 0)))), (q44, .inl (ct 0, (64, .inl (fun _ => 0)))), (q52, .inl (ct 0, (64, .inl (fun _ => 0)))), (q60, .inl (ct 3, (8, .inr (.inl (fun _ => 0)))))] := hD
  refine lv_aload_n hx hb dX1_init_65 rfl (lv_at hl 0 rfl) ?_
  refine lv_iconst (v := 3) hx hb dX1_init_66 (by decide) ?_
  refine va_put (D := (dC, dI)) (ci := 1) (v := .int (3)) (ty := .int) (C := RX1) (T := TX1) (N := 9) hx hb hts hin0 tyX1 tyX1_ok nmX1 hown hK hP hD hS 0 rfl rfl 8 (by decide) (hts (.fieldLink RX1 37 "ConferenceBridgeModel" "most" "I") (by decide +kernel)) (fun _ h9 => h9) rfl (by decide +kernel) rfl rfl (Nat.le_of_ble_eq_true rfl) dX1_init_67 (fun H locs hP hD hS => ?_)
  have hP : va_P (dC, dI) vwCl [(h0, .inr (1, [.int (0), .ref q12, .ref q20, .ref q28, .ref q36, .ref q44, .ref q52, .ref q60, .int (3)])), (q12, .inl (ct 0, (8, .inl (fun _ => 0)))), (q20, .inl (ct 0, (8, .inl (fun _ => 0)))), (q28, .inl (ct 1, (8, .inl (fun _ => 0)))), (q36, .inl (ct 0, (64, .inl (fun _ => 0)))), (q44, .inl (ct 0, (64, .inl (fun _ => 0)))), (q52, .inl (ct 0, (64, .inl (fun _ => 0)))), (q60, .inl (ct 3, (8, .inr (.inl (fun _ => 0)))))] H := hP
  have hD : va_D A [(h0, .inr (1, [.int (0), .ref q12, .ref q20, .ref q28, .ref q36, .ref q44, .ref q52, .ref q60, .int (3)])), (q12, .inl (ct 0, (8, .inl (fun _ => 0)))), (q20, .inl (ct 0, (8, .inl (fun _ => 0)))), (q28, .inl (ct 1, (8, .inl (fun _ => 0)))), (q36, .inl (ct 0, (64, .inl (fun _ => 0)))), (q44, .inl (ct 0, (64, .inl (fun _ => 0)))), (q52, .inl (ct 0, (64, .inl (fun _ => 0)))), (q60, .inl (ct 3, (8, .inr (.inl (fun _ => 0)))))] := hD
  refine lv_iconst (v := 0) hx hb dX1_init_70 (by decide) ?_
  refine lv_istore_n (lv' := [(1, .int (0)), (0, .ref h0)]) hx hb dX1_init_71 rfl hl (by decide) rfl (fun ls hl => ?_)
  obtain ⟨ad, had⟩ : ∃ ad : Nat → Nat, ad = fun n => ([h0, q12, q20, q28, q36, q44, q52, q60] : List Nat).getD n 0 := ⟨_, rfl⟩
  have ha0 : ad 0 = h0 := by rw [had]; rfl
  have hP : va_P (dC, dI) vwCl (md_w ct ad md_0) H := by rw [had]; exact hP
  have hD : va_D A (md_w ct ad md_0) := by rw [had]; exact hD
  have hl : lv_has ls 3 [(0, .ref (ad 0)), (1, .int 0)] := by rw [ha0]; exact lv_sub hl [1, 0] rfl
  refine lpX1_init_72 hx hb hml hown hts hin0 hK hA md_0 (fun H locs ls hP hD hS hl => ?_) 9 0 (by decide) (by decide) _ _ ls hP hD hS hl
  exact W.vret hx hb hr (fun t ht hW => ⟨⟨ad, rfl, ha0, by rw [ht]; exact hP, va_K.moved hW.alike hK, hD⟩, hS.F ht⟩) hS.2.2 dX1_init_159
end
section
/-! the catching of an exception; new int[8][8] -/
section CBX
variable {p : Program} {l : Launch} {e : Env} {R : Room} {s : State} {m : MethodId} {args : Array Value} {below : List Frame} {meth : Method} {c : Code} {H : Heap} {locs : List Loc} {cells slots : Nat} {Q : State → Prop}
variable {pc : Nat} {ls : Array Slot} {rest : List Value}
theorem vx_catch {own name : String} {E : String} {ce : Cell} {q : Addr} (hown : s.vm.findClass own = some m.cls) (pre : List ExceptionTableEntry) (x : ExceptionTableEntry) (suf : List ExceptionTableEntry) (hsplit : c.exceptionTable.toList = pre ++ x :: suf)
    (hpass : ∀ z ∈ pre, covers z pc = false ∨ (z.catchType ≠ 0 ∧ ∃ nm : String, (Cond.classLink own z.catchType nm).before args s = true ∧ va_Nc E nm s)) (hx : covers x pc = true) (h0 : x.catchType ≠ 0)
    (hlink : (Cond.classLink own x.catchType name).before args s = true) (hcast : (Cond.castable E name).before args s = true) (hcell : H[q]? = some ce) (hv : ce.vm = .none) (hcl : s.vm.findClass E = some ce.cls)
    (kk : W p l e R s m args below meth c H locs cells slots Q (F0 m x.handlerPc ls [.ref q])) : vx_W p l e R s m args below meth c H locs cells slots Q (F0 m pc ls rest) q := by
  sorry
end CBX
section CBY
variable {p : Program} {l : Launch} {e : Env} {R : Room} {s : State} {m : MethodId} {args : Array Value} {below : List Frame} {meth : Method} {c : Code} {H : Heap} {locs : List Loc} {cells slots : Nat} {Q : State → Prop}
variable {cc : ByteArray} {pc : Nat} {ls : Array Slot} {rest : List Value} {D : va_G} {cl : List vw_C} {A : Nat → Prop} {tys : List (ClassId × FieldType)} {ws : va_W} {H0 : Heap}
theorem cb_mna (hexec : p.tables.exec = Jvm.exec) (hb : c.code = cc) {own : String} {index : Nat} (hown : s.vm.findClass own = some m.cls) (hclink : (Cond.classLink own index "[[I").before args s = true) (hAO : cb_AO s) (harr : (Cond.arrayClass .int).before args s = true)
    (hK : va_K D cl tys s) (hP : va_P D cl ws H) (hD : va_D A ws) (hS : va_S A H0 H locs) (hA : ∀ q, H0.size ≤ q → A q) (t0 t2 : Nat) {cI cO : ClassId} (ht0 : tys[t0]? = some (cI, .int)) (ht2 : tys[t2]? = some (cO, .array .int))
    (hcells : cells + 9 ≤ R.cells) (hslots : slots + 72 ≤ R.slots) (hdg : decode cc pc = .ok (.multianewarray index 2, 4))
    (kk : ∀ (q : Nat) (r : Nat → Nat) (H1 : Heap), va_P D cl (ws ++ ((q, .inl (cO, 8, .inr (.inr (.inr (.inr (cb_o r)))))) :: [(r 0, .inl (cI, 8, .inl (fun _ => 0))), (r 1, .inl (cI, 8, .inl (fun _ => 0))), (r 2, .inl (cI, 8, .inl (fun _ => 0))), (r 3, .inl (cI, 8, .inl (fun _ => 0))), (r 4, .inl (cI, 8, .inl (fun _ => 0))), (r 5, .inl (cI, 8, .inl (fun _ => 0))), (r 6, .inl (cI, 8, .inl (fun _ => 0))), (r 7, .inl (cI, 8, .inl (fun _ => 0)))])) H1 → va_D A (ws ++ ((q, .inl (cO, 8, .inr (.inr (.inr (.inr (cb_o r)))))) :: [(r 0, .inl (cI, 8, .inl (fun _ => 0))), (r 1, .inl (cI, 8, .inl (fun _ => 0))), (r 2, .inl (cI, 8, .inl (fun _ => 0))), (r 3, .inl (cI, 8, .inl (fun _ => 0))), (r 4, .inl (cI, 8, .inl (fun _ => 0))), (r 5, .inl (cI, 8, .inl (fun _ => 0))), (r 6, .inl (cI, 8, .inl (fun _ => 0))), (r 7, .inl (cI, 8, .inl (fun _ => 0)))])) → va_S A H0 H1 locs →
      W p l e R s m args below meth c H1 locs (cells + 9) (slots + 72) Q (F0 m (pc + 4) ls (.ref q :: rest))) : W p l e R s m args below meth c H locs cells slots Q (F0 m pc ls (.int 8 :: .int 8 :: rest)) := by
  sorry
end CBY
end
section
/-! the class's constructor -/
def icL (f : Nat → Int32) : Nat → Nat → Int32
  | 0 => f
  | j + 1 => upd (icL f j) j (if ((nI j) - (nI j) / (2 : Int32) * (2 : Int32)) = 0 then 0 else 1)
def icC (u : cb_U) (j : Nat) : Int32 := fnX0_codeOf (icL (cbL u) (j + 1) j) (0 : Int32)
def icR (j : Nat) (c : Int32) (f : Nat → Nat → Int32) : Nat → Nat → Nat → Int32
  | 0 => f
  | k + 1 => va_up (icR j c f k) j (upd (icR j c f k j) k c)
def icRo (u : cb_U) (f : Nat → Nat → Int32) : Nat → Nat → Nat → Int32
  | 0 => f
  | j + 1 => icR j (icC u j) (icRo u f j) 8
def cb_0 : cb_U := (fun _ => 0, fun _ => 0, fun _ => 0, fun _ _ => 0, fun _ _ => 0, 3, fun _ _ => 0, fun _ => 0, fun _ => 0)
def cb_1 : cb_U := cb_sO (cb_sC (cb_sG (cb_sL cb_0 (icL (cbL cb_0) 8)) (inG (cbG cb_0) 8)) (icRo cb_0 (cbC cb_0) 8)) (icRo cb_0 (cbO cb_0) 8)
theorem cb_o_congr {f g : Nat → Nat} (h : ∀ i, i < 8 → f i = g i) : cb_o f = cb_o g := by
  funext i
  unfold cb_o
  by_cases hi : i < 8
  · rw [if_pos hi, if_pos hi, h i hi]
  · rw [if_neg hi, if_neg hi]

set_option maxHeartbeats 4000000 in
set_option maxRecDepth 100000 in
theorem lpX0_init_132 {p : Program} {l : Launch} {e : Env} {s : State} {m : MethodId} {args : Array Value} {below : List Frame} {meth : Method} {c : Code} {Q : State → Prop} {A : Nat → Prop} {dC : Nat → ClassId} {dI : Nat → Nat → Nat} {ct : Nat → ClassId} {ad : Nat → Nat} (hx : p.tables.exec = Jvm.exec) (hb : c.code = cX0_init) (hml : c.maxLocals = 4) (hown : s.vm.findClass RX0 = some m.cls) (hts : ∀ w ∈ wsX0_init, w.before args s = true) (hin0 : ∀ w ∈ u_ws RX0 TX0 9, w ∈ wsX0_init) (hK : va_K (dC, dI) vwCl (cb_ty ct) s) (hA : ∀ q : Nat, s.heap.size ≤ q → A q) (u : cb_U) (j : Nat) (hj : j < 8) (C0 O0 : Nat → Nat → Int32)
    (kk : ∀ (H : Heap) (locs : List Loc) (ls : Array Slot), va_P (dC, dI) vwCl (cb_w ct ad ((cb_sO (cb_sC (cb_sG (cb_sL u (icL (cbL u) (j + 1))) (inG (cbG u) (j + 1))) (icR j (icC u j) C0 8)) (icR j (icC u j) O0 8)))) H → va_D A (cb_w ct ad ((cb_sO (cb_sC (cb_sG (cb_sL u (icL (cbL u) (j + 1))) (inG (cbG u) (j + 1))) (icR j (icC u j) C0 8)) (icR j (icC u j) O0 8)))) → va_S A s.heap H locs → lv_has ls 4 [(0, .ref (ad 0)), (1, .int (nI j)), (2, .int (icC u j)), (3, .int (nI 8))] → W p l e ({ frames := 4, cells := 32, slots := 256, locals := 86 }) s m args below meth c H locs 32 256 Q (F0 m 162 ls [])) :
    ∀ (n k : Nat), k ≤ 8 → 9 ≤ k + n → ∀ (H : Heap) (locs : List Loc) (ls : Array Slot), va_P (dC, dI) vwCl (cb_w ct ad ((cb_sO (cb_sC (cb_sG (cb_sL u (icL (cbL u) (j + 1))) (inG (cbG u) (j + 1))) (icR j (icC u j) C0 k)) (icR j (icC u j) O0 k)))) H → va_D A (cb_w ct ad ((cb_sO (cb_sC (cb_sG (cb_sL u (icL (cbL u) (j + 1))) (inG (cbG u) (j + 1))) (icR j (icC u j) C0 k)) (icR j (icC u j) O0 k)))) → va_S A s.heap H locs → lv_has ls 4 [(0, .ref (ad 0)), (1, .int (nI j)), (2, .int (icC u j)), (3, .int (nI k))] → W p l e ({ frames := 4, cells := 32, slots := 256, locals := 86 }) s m args below meth c H locs 32 256 Q (F0 m 132 ls []) := by
  intro n
  induction n with
  | zero => intro k h1 h2; exact absurd h2 (by omega)
  | succ n ih =>
    intro k h1 h2 H locs ls hP hD hS hl
    refine lv_iload_n hx hb dX0_init_132 rfl (lv_at hl 3 rfl) ?_
    refine lv_bipush (v := 8) hx hb dX0_init_133 (by decide) ?_
    refine lv_icmp_ge (tgt := 162) hx hb dX0_init_135 (by decide) (fun c_1 => ?_) (fun c_1 => ?_)
    · have hk8 : k = 8 := Nat.le_antisymm h1 ((nI_leI (a := 8) (by decide) (by omega)).mp c_1)
      subst hk8
      exact kk H locs ls hP hD hS (lv_sub hl [0, 1, 2, 3] rfl)
    · have hk : k < 8 := Nat.lt_of_not_le (fun q => c_1 (nI_le (a := 8) q (by omega)))
      refine lv_aload_n hx hb dX0_init_138 rfl (lv_at hl 0 rfl) ?_
      refine cb_get hx hb hts hin0 hown hK hP 3 (by decide) (hts (.fieldLink RX0 22 "ConferenceBridge" "coming" "[[I") (by decide +kernel)) (z := .ref (ad 4)) rfl dX0_init_139 ?_
      refine lv_iload_n hx hb dX0_init_142 rfl (lv_at hl 1 rfl) ?_
      refine cb_aaldN hx hb hK hP 4 2 rfl rfl hj (by decide) (b := ad (9 + j)) (cb_o_at hj) dX0_init_143 ?_
      refine lv_iload_n hx hb dX0_init_144 rfl (lv_at hl 3 rfl) ?_
      refine lv_iload_n hx hb dX0_init_145 rfl (lv_at hl 2 rfl) ?_
      refine cb_iast hx hb hK hP hD hS (9 + j) 0 (f := (icR j (icC u j) C0 k) j) (cb_atC ct ad ((cb_sO (cb_sC (cb_sG (cb_sL u (icL (cbL u) (j + 1))) (inG (cbG u) (j + 1))) (icR j (icC u j) C0 k)) (icR j (icC u j) O0 k))) j hj) rfl hk (by decide) (cb_putC ct ad ((cb_sO (cb_sC (cb_sG (cb_sL u (icL (cbL u) (j + 1))) (inG (cbG u) (j + 1))) (icR j (icC u j) C0 k)) (icR j (icC u j) O0 k))) _ j hj) dX0_init_146 (fun H locs hP hD hS => ?_)
      have hP : va_P (dC, dI) vwCl (cb_w ct ad ((cb_sO (cb_sC (cb_sG (cb_sL u (icL (cbL u) (j + 1))) (inG (cbG u) (j + 1))) (va_up (icR j (icC u j) C0 k) j (upd ((icR j (icC u j) C0 k) j) k (icC u j)))) (icR j (icC u j) O0 k)))) H := hP
      have hD : va_D A (cb_w ct ad ((cb_sO (cb_sC (cb_sG (cb_sL u (icL (cbL u) (j + 1))) (inG (cbG u) (j + 1))) (va_up (icR j (icC u j) C0 k) j (upd ((icR j (icC u j) C0 k) j) k (icC u j)))) (icR j (icC u j) O0 k)))) := hD
      refine lv_aload_n hx hb dX0_init_147 rfl (lv_at hl 0 rfl) ?_
      refine cb_get hx hb hts hin0 hown hK hP 4 (by decide) (hts (.fieldLink RX0 25 "ConferenceBridge" "going" "[[I") (by decide +kernel)) (z := .ref (ad 5)) rfl dX0_init_148 ?_
      refine lv_iload_n hx hb dX0_init_151 rfl (lv_at hl 1 rfl) ?_
      refine cb_aaldN hx hb hK hP 5 2 rfl rfl hj (by decide) (b := ad (17 + j)) (cb_o_at hj) dX0_init_152 ?_
      refine lv_iload_n hx hb dX0_init_153 rfl (lv_at hl 3 rfl) ?_
      refine lv_iload_n hx hb dX0_init_154 rfl (lv_at hl 2 rfl) ?_
      refine cb_iast hx hb hK hP hD hS (17 + j) 0 (f := (icR j (icC u j) O0 k) j) (cb_atO ct ad ((cb_sO (cb_sC (cb_sG (cb_sL u (icL (cbL u) (j + 1))) (inG (cbG u) (j + 1))) (va_up (icR j (icC u j) C0 k) j (upd ((icR j (icC u j) C0 k) j) k (icC u j)))) (icR j (icC u j) O0 k))) j hj) rfl hk (by decide) (cb_putO ct ad ((cb_sO (cb_sC (cb_sG (cb_sL u (icL (cbL u) (j + 1))) (inG (cbG u) (j + 1))) (va_up (icR j (icC u j) C0 k) j (upd ((icR j (icC u j) C0 k) j) k (icC u j)))) (icR j (icC u j) O0 k))) _ j hj) dX0_init_155 (fun H locs hP hD hS => ?_)
      have hP : va_P (dC, dI) vwCl (cb_w ct ad ((cb_sO (cb_sC (cb_sG (cb_sL u (icL (cbL u) (j + 1))) (inG (cbG u) (j + 1))) (va_up (icR j (icC u j) C0 k) j (upd ((icR j (icC u j) C0 k) j) k (icC u j)))) (va_up (icR j (icC u j) O0 k) j (upd ((icR j (icC u j) O0 k) j) k (icC u j)))))) H := hP
      have hD : va_D A (cb_w ct ad ((cb_sO (cb_sC (cb_sG (cb_sL u (icL (cbL u) (j + 1))) (inG (cbG u) (j + 1))) (va_up (icR j (icC u j) C0 k) j (upd ((icR j (icC u j) C0 k) j) k (icC u j)))) (va_up (icR j (icC u j) O0 k) j (upd ((icR j (icC u j) O0 k) j) k (icC u j)))))) := hD
      refine lv_iinc (v := ((nI k) + (1 : Int32))) (lv' := [(3, .int (((nI k) + (1 : Int32)))), (0, .ref (ad 0)), (1, .int (nI j)), (2, .int (icC u j))]) hx hb dX0_init_156 hl (k := 3) rfl rfl (by decide) rfl (fun ls hl => ?_)
      refine lv_goto (tgt := 132) hx hb dX0_init_159 (by decide) ?_
      exact ih (k + 1) (by omega) (by omega) H locs ls hP hD hS (by rw [← nI_1]; exact lv_sub hl [1, 2, 3, 0] rfl)

set_option maxHeartbeats 4000000 in
set_option maxRecDepth 100000 in
theorem lpX0_init_87 {p : Program} {l : Launch} {e : Env} {s : State} {m : MethodId} {args : Array Value} {below : List Frame} {meth : Method} {c : Code} {Q : State → Prop} {A : Nat → Prop} {dC : Nat → ClassId} {dI : Nat → Nat → Nat} {ct : Nat → ClassId} {ad : Nat → Nat} (hx : p.tables.exec = Jvm.exec) (hb : c.code = cX0_init) (hml : c.maxLocals = 4) (hown : s.vm.findClass RX0 = some m.cls) (hts : ∀ w ∈ wsX0_init, w.before args s = true) (hin0 : ∀ w ∈ u_ws RX0 TX0 9, w ∈ wsX0_init) (hK : va_K (dC, dI) vwCl (cb_ty ct) s) (hA : ∀ q : Nat, s.heap.size ≤ q → A q) (u : cb_U)
    (kk : ∀ (H : Heap) (locs : List Loc) (ls : Array Slot), va_P (dC, dI) vwCl (cb_w ct ad ((cb_sO (cb_sC (cb_sG (cb_sL u (icL (cbL u) 8)) (inG (cbG u) 8)) (icRo u (cbC u) 8)) (icRo u (cbO u) 8)))) H → va_D A (cb_w ct ad ((cb_sO (cb_sC (cb_sG (cb_sL u (icL (cbL u) 8)) (inG (cbG u) 8)) (icRo u (cbC u) 8)) (icRo u (cbO u) 8)))) → va_S A s.heap H locs → lv_has ls 4 [(0, .ref (ad 0)), (1, .int (nI 8))] → W p l e ({ frames := 4, cells := 32, slots := 256, locals := 86 }) s m args below meth c H locs 32 256 Q (F0 m 168 ls [])) :
    ∀ (n j : Nat), j ≤ 8 → 9 ≤ j + n → ∀ (H : Heap) (locs : List Loc) (ls : Array Slot), va_P (dC, dI) vwCl (cb_w ct ad ((cb_sO (cb_sC (cb_sG (cb_sL u (icL (cbL u) j)) (inG (cbG u) j)) (icRo u (cbC u) j)) (icRo u (cbO u) j)))) H → va_D A (cb_w ct ad ((cb_sO (cb_sC (cb_sG (cb_sL u (icL (cbL u) j)) (inG (cbG u) j)) (icRo u (cbC u) j)) (icRo u (cbO u) j)))) → va_S A s.heap H locs → lv_has ls 4 [(0, .ref (ad 0)), (1, .int (nI j))] → W p l e ({ frames := 4, cells := 32, slots := 256, locals := 86 }) s m args below meth c H locs 32 256 Q (F0 m 87 ls []) := by
  intro n
  induction n with
  | zero => intro j h1 h2; exact absurd h2 (by omega)
  | succ n ih =>
    intro j h1 h2 H locs ls hP hD hS hl
    refine lv_iload_n hx hb dX0_init_87 rfl (lv_at hl 1 rfl) ?_
    refine lv_bipush (v := 8) hx hb dX0_init_88 (by decide) ?_
    refine lv_icmp_ge (tgt := 168) hx hb dX0_init_90 (by decide) (fun c_1 => ?_) (fun c_1 => ?_)
    · have hk8 : j = 8 := Nat.le_antisymm h1 ((nI_leI (a := 8) (by decide) (by omega)).mp c_1)
      subst hk8
      exact kk H locs ls hP hD hS (lv_sub hl [0, 1] rfl)
    · have hj : j < 8 := Nat.lt_of_not_le (fun q => c_1 (nI_le (a := 8) q (by omega)))
      refine lv_aload_n hx hb dX0_init_93 rfl (lv_at hl 0 rfl) ?_
      refine cb_get hx hb hts hin0 hown hK hP 0 (by decide) (hts (.fieldLink RX0 9 "ConferenceBridge" "laws" "[I") (by decide +kernel)) (z := .ref (ad 1)) rfl dX0_init_94 ?_
      refine lv_iload_n hx hb dX0_init_97 rfl (lv_at hl 1 rfl) ?_
      refine lv_iload_n hx hb dX0_init_98 rfl (lv_at hl 1 rfl) ?_
      refine lv_iconst (v := 2) hx hb dX0_init_99 (by decide) ?_
      refine lv_irem hx hb dX0_init_100 (by decide) ?_
      refine lv_if_ne (tgt := 108) hx hb dX0_init_101 (by decide) (fun c_2 => ?_) (fun c_2 => ?_)
      · refine lv_iconst (v := 1) hx hb dX0_init_108 (by decide) ?_
        refine cb_iast hx hb hK hP hD hS 1 0 (f := icL (cbL u) j) rfl rfl hj (by decide) (ws1 := cb_w ct ad ((cb_sO (cb_sC (cb_sG (cb_sL u (upd (icL (cbL u) j) j (1 : Int32))) (inG (cbG u) j)) (icRo u (cbC u) j)) (icRo u (cbO u) j)))) rfl dX0_init_109 (fun H locs hP hD hS => ?_)
        have hP : va_P (dC, dI) vwCl (cb_w ct ad ((cb_sO (cb_sC (cb_sG (cb_sL u (upd (icL (cbL u) j) j (1 : Int32))) (inG (cbG u) j)) (icRo u (cbC u) j)) (icRo u (cbO u) j)))) H := hP
        have hD : va_D A (cb_w ct ad ((cb_sO (cb_sC (cb_sG (cb_sL u (upd (icL (cbL u) j) j (1 : Int32))) (inG (cbG u) j)) (icRo u (cbC u) j)) (icRo u (cbO u) j)))) := hD
        have e8 : icL (cbL u) (j + 1) = upd (icL (cbL u) j) j (1 : Int32) := by rw [icL, if_neg c_2]
        have hP : va_P (dC, dI) vwCl (cb_w ct ad ((cb_sO (cb_sC (cb_sG (cb_sL u (icL (cbL u) (j + 1))) (inG (cbG u) j)) (icRo u (cbC u) j)) (icRo u (cbO u) j)))) H := by rw [e8]; exact hP
        have hD : va_D A (cb_w ct ad ((cb_sO (cb_sC (cb_sG (cb_sL u (icL (cbL u) (j + 1))) (inG (cbG u) j)) (icRo u (cbC u) j)) (icRo u (cbO u) j)))) := by rw [e8]; exact hD
        refine lv_aload_n hx hb dX0_init_110 rfl (lv_at hl 0 rfl) ?_
        refine cb_get hx hb hts hin0 hown hK hP 1 (by decide) (hts (.fieldLink RX0 13 "ConferenceBridge" "gains" "[I") (by decide +kernel)) (z := .ref (ad 2)) rfl dX0_init_111 ?_
        refine lv_iload_n hx hb dX0_init_114 rfl (lv_at hl 1 rfl) ?_
        refine lv_sipush (v := 256) hx hb dX0_init_115 (by decide) ?_
        refine cb_iast hx hb hK hP hD hS 2 0 (f := inG (cbG u) j) rfl rfl hj (by decide) (ws1 := cb_w ct ad ((cb_sO (cb_sC (cb_sG (cb_sL u (icL (cbL u) (j + 1))) (upd (inG (cbG u) j) j (256 : Int32))) (icRo u (cbC u) j)) (icRo u (cbO u) j)))) rfl dX0_init_118 (fun H locs hP hD hS => ?_)
        have hP : va_P (dC, dI) vwCl (cb_w ct ad ((cb_sO (cb_sC (cb_sG (cb_sL u (icL (cbL u) (j + 1))) (upd (inG (cbG u) j) j (256 : Int32))) (icRo u (cbC u) j)) (icRo u (cbO u) j)))) H := hP
        have hD : va_D A (cb_w ct ad ((cb_sO (cb_sC (cb_sG (cb_sL u (icL (cbL u) (j + 1))) (upd (inG (cbG u) j) j (256 : Int32))) (icRo u (cbC u) j)) (icRo u (cbO u) j)))) := hD
        refine lv_aload_n hx hb dX0_init_119 rfl (lv_at hl 0 rfl) ?_
        refine cb_get hx hb hts hin0 hown hK hP 0 (by decide) (hts (.fieldLink RX0 9 "ConferenceBridge" "laws" "[I") (by decide +kernel)) (z := .ref (ad 1)) rfl dX0_init_120 ?_
        refine lv_iload_n hx hb dX0_init_123 rfl (lv_at hl 1 rfl) ?_
        refine cb_iald hx hb hK hP 1 0 (f := icL (cbL u) (j + 1)) rfl rfl hj (by decide) dX0_init_124 ?_
        refine lv_iconst (v := 0) hx hb dX0_init_125 (by decide) ?_
        refine vp_callSi (W.runS (As := [.int (((icL (cbL u) (j + 1)) j)), .int (0)]) (rest := []) ⟨hx, hb, hml, hown, hts⟩ (metX0_codeOf l ((icL (cbL u) (j + 1)) j) (0 : Int32)) (va_cwS 2 hts gX0_init_X0_codeOf rfl rfl rfl (by decide +kernel) ⟨(Nat.le_of_ble_eq_true rfl), (Nat.le_of_ble_eq_true rfl)⟩) ⟨fun a U g mk q => q, fun U hU hW => ⟨rfl, trivial⟩⟩ rfl rfl hl.1 rfl (lv_room (Nat.le_of_ble_eq_true rfl)) dX0_init_126 ⟨(Nat.le_of_ble_eq_true rfl), (Nat.le_of_ble_eq_true rfl)⟩) (fun r_3 er_3 => ?_)
        subst er_3
        refine lv_istore_n (lv' := [(2, .int ((fnX0_codeOf ((icL (cbL u) (j + 1)) j) (0 : Int32)))), (0, .ref (ad 0)), (1, .int (nI j))]) hx hb dX0_init_129 rfl hl (by decide) rfl (fun ls hl => ?_)
        refine lv_iconst (v := 0) hx hb dX0_init_130 (by decide) ?_
        refine lv_istore_n (lv' := [(3, .int (0)), (2, .int ((fnX0_codeOf ((icL (cbL u) (j + 1)) j) (0 : Int32)))), (0, .ref (ad 0)), (1, .int (nI j))]) hx hb dX0_init_131 rfl hl (by decide) rfl (fun ls hl => ?_)
        refine lpX0_init_132 hx hb hml hown hts hin0 hK hA u j hj (icRo u (cbC u) j) (icRo u (cbO u) j) (fun H locs ls hP hD hS hl => ?_) 9 0 (by decide) (by decide) _ _ ls hP hD hS (lv_sub hl [2, 3, 1, 0] rfl)
        refine lv_iinc (v := ((nI j) + (1 : Int32))) (lv' := [(1, .int (((nI j) + (1 : Int32)))), (0, .ref (ad 0)), (2, .int (icC u j)), (3, .int (nI 8))]) hx hb dX0_init_162 hl (k := 1) rfl rfl (by decide) rfl (fun ls hl => ?_)
        refine lv_goto (tgt := 87) hx hb dX0_init_165 (by decide) ?_
        exact ih (j + 1) (by omega) (by omega) H locs ls hP hD hS (by rw [← nI_1]; exact lv_sub hl [1, 0] rfl)
      · refine lv_iconst (v := 0) hx hb dX0_init_104 (by decide) ?_
        refine lv_goto (tgt := 109) hx hb dX0_init_105 (by decide) ?_
        refine cb_iast hx hb hK hP hD hS 1 0 (f := icL (cbL u) j) rfl rfl hj (by decide) (ws1 := cb_w ct ad ((cb_sO (cb_sC (cb_sG (cb_sL u (upd (icL (cbL u) j) j (0 : Int32))) (inG (cbG u) j)) (icRo u (cbC u) j)) (icRo u (cbO u) j)))) rfl dX0_init_109 (fun H locs hP hD hS => ?_)
        have hP : va_P (dC, dI) vwCl (cb_w ct ad ((cb_sO (cb_sC (cb_sG (cb_sL u (upd (icL (cbL u) j) j (0 : Int32))) (inG (cbG u) j)) (icRo u (cbC u) j)) (icRo u (cbO u) j)))) H := hP
        have hD : va_D A (cb_w ct ad ((cb_sO (cb_sC (cb_sG (cb_sL u (upd (icL (cbL u) j) j (0 : Int32))) (inG (cbG u) j)) (icRo u (cbC u) j)) (icRo u (cbO u) j)))) := hD
        have e8 : icL (cbL u) (j + 1) = upd (icL (cbL u) j) j (0 : Int32) := by rw [icL, if_pos c_2]
        have hP : va_P (dC, dI) vwCl (cb_w ct ad ((cb_sO (cb_sC (cb_sG (cb_sL u (icL (cbL u) (j + 1))) (inG (cbG u) j)) (icRo u (cbC u) j)) (icRo u (cbO u) j)))) H := by rw [e8]; exact hP
        have hD : va_D A (cb_w ct ad ((cb_sO (cb_sC (cb_sG (cb_sL u (icL (cbL u) (j + 1))) (inG (cbG u) j)) (icRo u (cbC u) j)) (icRo u (cbO u) j)))) := by rw [e8]; exact hD
        refine lv_aload_n hx hb dX0_init_110 rfl (lv_at hl 0 rfl) ?_
        refine cb_get hx hb hts hin0 hown hK hP 1 (by decide) (hts (.fieldLink RX0 13 "ConferenceBridge" "gains" "[I") (by decide +kernel)) (z := .ref (ad 2)) rfl dX0_init_111 ?_
        refine lv_iload_n hx hb dX0_init_114 rfl (lv_at hl 1 rfl) ?_
        refine lv_sipush (v := 256) hx hb dX0_init_115 (by decide) ?_
        refine cb_iast hx hb hK hP hD hS 2 0 (f := inG (cbG u) j) rfl rfl hj (by decide) (ws1 := cb_w ct ad ((cb_sO (cb_sC (cb_sG (cb_sL u (icL (cbL u) (j + 1))) (upd (inG (cbG u) j) j (256 : Int32))) (icRo u (cbC u) j)) (icRo u (cbO u) j)))) rfl dX0_init_118 (fun H locs hP hD hS => ?_)
        have hP : va_P (dC, dI) vwCl (cb_w ct ad ((cb_sO (cb_sC (cb_sG (cb_sL u (icL (cbL u) (j + 1))) (upd (inG (cbG u) j) j (256 : Int32))) (icRo u (cbC u) j)) (icRo u (cbO u) j)))) H := hP
        have hD : va_D A (cb_w ct ad ((cb_sO (cb_sC (cb_sG (cb_sL u (icL (cbL u) (j + 1))) (upd (inG (cbG u) j) j (256 : Int32))) (icRo u (cbC u) j)) (icRo u (cbO u) j)))) := hD
        refine lv_aload_n hx hb dX0_init_119 rfl (lv_at hl 0 rfl) ?_
        refine cb_get hx hb hts hin0 hown hK hP 0 (by decide) (hts (.fieldLink RX0 9 "ConferenceBridge" "laws" "[I") (by decide +kernel)) (z := .ref (ad 1)) rfl dX0_init_120 ?_
        refine lv_iload_n hx hb dX0_init_123 rfl (lv_at hl 1 rfl) ?_
        refine cb_iald hx hb hK hP 1 0 (f := icL (cbL u) (j + 1)) rfl rfl hj (by decide) dX0_init_124 ?_
        refine lv_iconst (v := 0) hx hb dX0_init_125 (by decide) ?_
        refine vp_callSi (W.runS (As := [.int (((icL (cbL u) (j + 1)) j)), .int (0)]) (rest := []) ⟨hx, hb, hml, hown, hts⟩ (metX0_codeOf l ((icL (cbL u) (j + 1)) j) (0 : Int32)) (va_cwS 2 hts gX0_init_X0_codeOf rfl rfl rfl (by decide +kernel) ⟨(Nat.le_of_ble_eq_true rfl), (Nat.le_of_ble_eq_true rfl)⟩) ⟨fun a U g mk q => q, fun U hU hW => ⟨rfl, trivial⟩⟩ rfl rfl hl.1 rfl (lv_room (Nat.le_of_ble_eq_true rfl)) dX0_init_126 ⟨(Nat.le_of_ble_eq_true rfl), (Nat.le_of_ble_eq_true rfl)⟩) (fun r_4 er_4 => ?_)
        subst er_4
        refine lv_istore_n (lv' := [(2, .int ((fnX0_codeOf ((icL (cbL u) (j + 1)) j) (0 : Int32)))), (0, .ref (ad 0)), (1, .int (nI j))]) hx hb dX0_init_129 rfl hl (by decide) rfl (fun ls hl => ?_)
        refine lv_iconst (v := 0) hx hb dX0_init_130 (by decide) ?_
        refine lv_istore_n (lv' := [(3, .int (0)), (2, .int ((fnX0_codeOf ((icL (cbL u) (j + 1)) j) (0 : Int32)))), (0, .ref (ad 0)), (1, .int (nI j))]) hx hb dX0_init_131 rfl hl (by decide) rfl (fun ls hl => ?_)
        refine lpX0_init_132 hx hb hml hown hts hin0 hK hA u j hj (icRo u (cbC u) j) (icRo u (cbO u) j) (fun H locs ls hP hD hS hl => ?_) 9 0 (by decide) (by decide) _ _ ls hP hD hS (lv_sub hl [2, 3, 1, 0] rfl)
        refine lv_iinc (v := ((nI j) + (1 : Int32))) (lv' := [(1, .int (((nI j) + (1 : Int32)))), (0, .ref (ad 0)), (2, .int (icC u j)), (3, .int (nI 8))]) hx hb dX0_init_162 hl (k := 1) rfl rfl (by decide) rfl (fun ls hl => ?_)
        refine lv_goto (tgt := 87) hx hb dX0_init_165 (by decide) ?_
        exact ih (j + 1) (by omega) (by omega) H locs ls hP hD hS (by rw [← nI_1]; exact lv_sub hl [1, 0] rfl)

set_option maxHeartbeats 4000000 in
set_option maxRecDepth 100000 in
theorem metX0_init (l : Launch) (dC : Nat → ClassId) (dI : Nat → Nat → Nat) (ct : Nat → ClassId) (h0 : Nat) (sz : Nat) : Met l yX0_init wsX0_init ({ frames := 4, cells := 32, slots := 256, locals := 86 }) (va_Pc [.ref h0] (fun U => U.heap.size = sz ∧ va_P (dC, dI) vwCl [(h0, .inr (0, [.null, .null, .null, .null, .null, .int 0, .null, .null, .null]))] U.heap ∧ va_K (dC, dI) vwCl (cb_ty ct) U ∧ va_D (fun _ => True) [(h0, .inr (0, [.null, .null, .null, .null, .null, .int 0, .null, .null, .null]))] ∧ cb_AO U)) (va_Qv (fun ad : Nat → Nat => ad 0 = h0) (fun ad => cb_B dC dI ct ad (va_A [(h0, .inr (0, [.null, .null, .null, .null, .null, .int 0, .null, .null, .null]))] sz) cb_1) (va_A [(h0, .inr (0, [.null, .null, .null, .null, .null, .int 0, .null, .null, .null]))] sz)) 32 256 (va_A [(h0, .inr (0, [.null, .null, .null, .null, .null, .int 0, .null, .null, .null]))] sz) := by
  refine Met.ofW (cc := cX0_init) (maxL := 4) (ret := none) (by decide) rfl ?_
  intro p e s m args below meth c s₁ B hml hv
  obtain ⟨rfl, hsz, hP, hK, hD0, hAO⟩ := hv
  have hx := B.exec
  have hb := B.bytes
  have hr := B.returns
  have hts := atoms_spec (ws := wsX0_init) B.pre
  have hown : s.vm.findClass RX0 = some m.cls := findClass_of_methodNamed B.named
  have hlocks := B.notSynchronized
  have hin : meth.name = "<init>" := (name_of_methodNamed B.named B.method).1
  have hin0 : ∀ w ∈ u_ws RX0 TX0 9, w ∈ wsX0_init := by decide +kernel
  subst hsz
  have hD := hD0.self (sz := s.heap.size)
  generalize hAe : va_A [(h0, .inr (0, [.null, .null, .null, .null, .null, .int 0, .null, .null, .null]))] s.heap.size = A at hD ⊢
  have hA : ∀ q : Nat, s.heap.size ≤ q → A q := fun q h => by rw [← hAe]; exact Or.inr h
  have hS : va_S A s.heap s.heap [] := va_S.rf
  have hP : va_P (dC, dI) vwCl [(h0, .inr (0, [.null, .null, .null, .null, .null, .int 0, .null, .null, .null]))] s.heap := hP
  have hl := lv_entry ([.ref h0]) (n := 4) (Nat.le_of_ble_eq_true rfl)
  rw [lg_entry_eq]
  generalize (lg_sl ([.ref h0]) ++ List.replicate (4 - (lg_sl ([.ref h0])).length) Slot.unset).toArray = ls at hl ⊢
  have hl : lv_has ls 4 [(0, .ref h0)] := hl
  refine lv_aload_n hx hb dX0_init_0 rfl (lv_at hl 0 rfl) ?_
  refine W.objInit hx hb hown (hts (.methodLink RX0 1 objectInit) (by decide +kernel)) (hts (.instanceMethod objectInit) (by decide +kernel)) (hts (.code objectInit ⟨#[0xb1]⟩ 1 none) (by decide +kernel)) rfl (by rw [hml]; exact hl.1) rfl dX0_init_1 (Nat.le_of_ble_eq_true rfl) (Nat.le_of_ble_eq_true rfl) ?_
  refine W.eq (g2 := F0 m 4 ls []) rfl ?_
  refine lv_aload_n hx hb dX0_init_4 rfl (lv_at hl 0 rfl) ?_
  refine lv_bipush (v := 8) hx hb dX0_init_5 (by decide) ?_
  refine cb_newa (atype := .int) hx hb (hts (.arrayClass .int) (by decide +kernel)) (ty := .int) rfl hK hP hD hS hA 0 rfl (fun _ h9 => h9) (a0 := (8, .inl (fun _ => 0))) (fun _ => rfl) (by decide) (N' := 8) (by decide) (Nat.le_of_ble_eq_true rfl) (Nat.le_of_ble_eq_true rfl) (Nat.le_of_ble_eq_true rfl) dX0_init_7 (fun q7 H hP hD hS => ?_)
  have hP : va_P (dC, dI) vwCl [(h0, .inr (0, [.null, .null, .null, .null, .null, .int 0, .null, .null, .null])), (q7, .inl (ct 0, (8, .inl (fun _ => 0))))] H := hP
  have hD : va_D A [(h0, .inr (0, [.null, .null, .null, .null, .null, .int 0, .null, .null, .null])), (q7, .inl (ct 0, (8, .inl (fun _ => 0))))] := hD
  refine W.widen (k := 1) (n := 8) (Nat.le_of_ble_eq_true rfl) (Nat.le_of_ble_eq_true rfl) ?_
  refine va_putF (D := (dC, dI)) (ci := 0) (v := .ref q7) (ty := .array .int) (C := RX0) (T := TX0) (N := 9) hx hb hts hin0 tyX0 tyX0_ok nmX0 hown hK hP hD hS 0 rfl rfl 0 (by decide) (hts (.fieldLink RX0 9 "ConferenceBridge" "laws" "[I") (by decide +kernel)) (fun _ h9 => h9) rfl hin rfl (by decide +kernel) rfl rfl (Nat.le_of_ble_eq_true rfl) dX0_init_9 (fun H locs hP hD hS => ?_)
  have hP : va_P (dC, dI) vwCl [(h0, .inr (0, [.ref q7, .null, .null, .null, .null, .int 0, .null, .null, .null])), (q7, .inl (ct 0, (8, .inl (fun _ => 0))))] H := hP
  have hD : va_D A [(h0, .inr (0, [.ref q7, .null, .null, .null, .null, .int 0, .null, .null, .null])), (q7, .inl (ct 0, (8, .inl (fun _ => 0))))] := hD
  refine lv_aload_n hx hb dX0_init_12 rfl (lv_at hl 0 rfl) ?_
  refine lv_bipush (v := 8) hx hb dX0_init_13 (by decide) ?_
  refine cb_newa (atype := .int) hx hb (hts (.arrayClass .int) (by decide +kernel)) (ty := .int) rfl hK hP hD hS hA 0 rfl (fun _ h9 => h9) (a0 := (8, .inl (fun _ => 0))) (fun _ => rfl) (by decide) (N' := 8) (by decide) (Nat.le_of_ble_eq_true rfl) (Nat.le_of_ble_eq_true rfl) (Nat.le_of_ble_eq_true rfl) dX0_init_15 (fun q15 H hP hD hS => ?_)
  have hP : va_P (dC, dI) vwCl [(h0, .inr (0, [.ref q7, .null, .null, .null, .null, .int 0, .null, .null, .null])), (q7, .inl (ct 0, (8, .inl (fun _ => 0)))), (q15, .inl (ct 0, (8, .inl (fun _ => 0))))] H := hP
  have hD : va_D A [(h0, .inr (0, [.ref q7, .null, .null, .null, .null, .int 0, .null, .null, .null])), (q7, .inl (ct 0, (8, .inl (fun _ => 0)))), (q15, .inl (ct 0, (8, .inl (fun _ => 0))))] := hD
  refine W.widen (k := 2) (n := 16) (Nat.le_of_ble_eq_true rfl) (Nat.le_of_ble_eq_true rfl) ?_
  refine va_putF (D := (dC, dI)) (ci := 0) (v := .ref q15) (ty := .array .int) (C := RX0) (T := TX0) (N := 9) hx hb hts hin0 tyX0 tyX0_ok nmX0 hown hK hP hD hS 0 rfl rfl 1 (by decide) (hts (.fieldLink RX0 13 "ConferenceBridge" "gains" "[I") (by decide +kernel)) (fun _ h9 => h9) rfl hin rfl (by decide +kernel) rfl rfl (Nat.le_of_ble_eq_true rfl) dX0_init_17 (fun H locs hP hD hS => ?_)
  have hP : va_P (dC, dI) vwCl [(h0, .inr (0, [.ref q7, .ref q15, .null, .null, .null, .int 0, .null, .null, .null])), (q7, .inl (ct 0, (8, .inl (fun _ => 0)))), (q15, .inl (ct 0, (8, .inl (fun _ => 0))))] H := hP
  have hD : va_D A [(h0, .inr (0, [.ref q7, .ref q15, .null, .null, .null, .int 0, .null, .null, .null])), (q7, .inl (ct 0, (8, .inl (fun _ => 0)))), (q15, .inl (ct 0, (8, .inl (fun _ => 0))))] := hD
  refine lv_aload_n hx hb dX0_init_20 rfl (lv_at hl 0 rfl) ?_
  refine lv_bipush (v := 8) hx hb dX0_init_21 (by decide) ?_
  refine cb_newa (atype := .boolean) hx hb (hts (.arrayClass .boolean) (by decide +kernel)) (ty := .boolean) rfl hK hP hD hS hA 1 rfl (fun _ h9 => h9) (a0 := (8, .inl (fun _ => 0))) (fun _ => rfl) (by decide) (N' := 8) (by decide) (Nat.le_of_ble_eq_true rfl) (Nat.le_of_ble_eq_true rfl) (Nat.le_of_ble_eq_true rfl) dX0_init_23 (fun q23 H hP hD hS => ?_)
  have hP : va_P (dC, dI) vwCl [(h0, .inr (0, [.ref q7, .ref q15, .null, .null, .null, .int 0, .null, .null, .null])), (q7, .inl (ct 0, (8, .inl (fun _ => 0)))), (q15, .inl (ct 0, (8, .inl (fun _ => 0)))), (q23, .inl (ct 1, (8, .inl (fun _ => 0))))] H := hP
  have hD : va_D A [(h0, .inr (0, [.ref q7, .ref q15, .null, .null, .null, .int 0, .null, .null, .null])), (q7, .inl (ct 0, (8, .inl (fun _ => 0)))), (q15, .inl (ct 0, (8, .inl (fun _ => 0)))), (q23, .inl (ct 1, (8, .inl (fun _ => 0))))] := hD
  refine W.widen (k := 3) (n := 24) (Nat.le_of_ble_eq_true rfl) (Nat.le_of_ble_eq_true rfl) ?_
  refine va_putF (D := (dC, dI)) (ci := 0) (v := .ref q23) (ty := .array .boolean) (C := RX0) (T := TX0) (N := 9) hx hb hts hin0 tyX0 tyX0_ok nmX0 hown hK hP hD hS 0 rfl rfl 2 (by decide) (hts (.fieldLink RX0 16 "ConferenceBridge" "silenced" "[Z") (by decide +kernel)) (fun _ h9 => h9) rfl hin rfl (by decide +kernel) rfl rfl (Nat.le_of_ble_eq_true rfl) dX0_init_25 (fun H locs hP hD hS => ?_)
  have hP : va_P (dC, dI) vwCl [(h0, .inr (0, [.ref q7, .ref q15, .ref q23, .null, .null, .int 0, .null, .null, .null])), (q7, .inl (ct 0, (8, .inl (fun _ => 0)))), (q15, .inl (ct 0, (8, .inl (fun _ => 0)))), (q23, .inl (ct 1, (8, .inl (fun _ => 0))))] H := hP
  have hD : va_D A [(h0, .inr (0, [.ref q7, .ref q15, .ref q23, .null, .null, .int 0, .null, .null, .null])), (q7, .inl (ct 0, (8, .inl (fun _ => 0)))), (q15, .inl (ct 0, (8, .inl (fun _ => 0)))), (q23, .inl (ct 1, (8, .inl (fun _ => 0))))] := hD
  refine lv_aload_n hx hb dX0_init_28 rfl (lv_at hl 0 rfl) ?_
  refine lv_bipush (v := 8) hx hb dX0_init_29 (by decide) ?_
  refine lv_bipush (v := 8) hx hb dX0_init_31 (by decide) ?_
  refine cb_mna hx hb hown (hts (.classLink RX0 20 "[[I") (by decide +kernel)) hAO (hts (.arrayClass .int) (by decide +kernel)) hK hP hD hS hA 0 2 rfl rfl (Nat.le_of_ble_eq_true rfl) (Nat.le_of_ble_eq_true rfl) dX0_init_33 (fun q33 r33 H hP hD hS => ?_)
  have hP : va_P (dC, dI) vwCl [(h0, .inr (0, [.ref q7, .ref q15, .ref q23, .null, .null, .int 0, .null, .null, .null])), (q7, .inl (ct 0, (8, .inl (fun _ => 0)))), (q15, .inl (ct 0, (8, .inl (fun _ => 0)))), (q23, .inl (ct 1, (8, .inl (fun _ => 0)))), (q33, .inl (ct 2, 8, .inr (.inr (.inr (.inr (cb_o r33)))))), (r33 0, .inl (ct 0, 8, .inl (fun _ => 0))), (r33 1, .inl (ct 0, 8, .inl (fun _ => 0))), (r33 2, .inl (ct 0, 8, .inl (fun _ => 0))), (r33 3, .inl (ct 0, 8, .inl (fun _ => 0))), (r33 4, .inl (ct 0, 8, .inl (fun _ => 0))), (r33 5, .inl (ct 0, 8, .inl (fun _ => 0))), (r33 6, .inl (ct 0, 8, .inl (fun _ => 0))), (r33 7, .inl (ct 0, 8, .inl (fun _ => 0)))] H := hP
  have hD : va_D A [(h0, .inr (0, [.ref q7, .ref q15, .ref q23, .null, .null, .int 0, .null, .null, .null])), (q7, .inl (ct 0, (8, .inl (fun _ => 0)))), (q15, .inl (ct 0, (8, .inl (fun _ => 0)))), (q23, .inl (ct 1, (8, .inl (fun _ => 0)))), (q33, .inl (ct 2, 8, .inr (.inr (.inr (.inr (cb_o r33)))))), (r33 0, .inl (ct 0, 8, .inl (fun _ => 0))), (r33 1, .inl (ct 0, 8, .inl (fun _ => 0))), (r33 2, .inl (ct 0, 8, .inl (fun _ => 0))), (r33 3, .inl (ct 0, 8, .inl (fun _ => 0))), (r33 4, .inl (ct 0, 8, .inl (fun _ => 0))), (r33 5, .inl (ct 0, 8, .inl (fun _ => 0))), (r33 6, .inl (ct 0, 8, .inl (fun _ => 0))), (r33 7, .inl (ct 0, 8, .inl (fun _ => 0)))] := hD
  refine W.widen (k := 12) (n := 96) (Nat.le_of_ble_eq_true rfl) (Nat.le_of_ble_eq_true rfl) ?_
  refine va_putF (D := (dC, dI)) (ci := 0) (v := .ref q33) (ty := .array (.array .int)) (C := RX0) (T := TX0) (N := 9) hx hb hts hin0 tyX0 tyX0_ok nmX0 hown hK hP hD hS 0 rfl rfl 3 (by decide) (hts (.fieldLink RX0 22 "ConferenceBridge" "coming" "[[I") (by decide +kernel)) (fun _ h9 => h9) rfl hin rfl (by decide +kernel) rfl rfl (Nat.le_of_ble_eq_true rfl) dX0_init_37 (fun H locs hP hD hS => ?_)
  have hP : va_P (dC, dI) vwCl [(h0, .inr (0, [.ref q7, .ref q15, .ref q23, .ref q33, .null, .int 0, .null, .null, .null])), (q7, .inl (ct 0, (8, .inl (fun _ => 0)))), (q15, .inl (ct 0, (8, .inl (fun _ => 0)))), (q23, .inl (ct 1, (8, .inl (fun _ => 0)))), (q33, .inl (ct 2, 8, .inr (.inr (.inr (.inr (cb_o r33)))))), (r33 0, .inl (ct 0, 8, .inl (fun _ => 0))), (r33 1, .inl (ct 0, 8, .inl (fun _ => 0))), (r33 2, .inl (ct 0, 8, .inl (fun _ => 0))), (r33 3, .inl (ct 0, 8, .inl (fun _ => 0))), (r33 4, .inl (ct 0, 8, .inl (fun _ => 0))), (r33 5, .inl (ct 0, 8, .inl (fun _ => 0))), (r33 6, .inl (ct 0, 8, .inl (fun _ => 0))), (r33 7, .inl (ct 0, 8, .inl (fun _ => 0)))] H := hP
  have hD : va_D A [(h0, .inr (0, [.ref q7, .ref q15, .ref q23, .ref q33, .null, .int 0, .null, .null, .null])), (q7, .inl (ct 0, (8, .inl (fun _ => 0)))), (q15, .inl (ct 0, (8, .inl (fun _ => 0)))), (q23, .inl (ct 1, (8, .inl (fun _ => 0)))), (q33, .inl (ct 2, 8, .inr (.inr (.inr (.inr (cb_o r33)))))), (r33 0, .inl (ct 0, 8, .inl (fun _ => 0))), (r33 1, .inl (ct 0, 8, .inl (fun _ => 0))), (r33 2, .inl (ct 0, 8, .inl (fun _ => 0))), (r33 3, .inl (ct 0, 8, .inl (fun _ => 0))), (r33 4, .inl (ct 0, 8, .inl (fun _ => 0))), (r33 5, .inl (ct 0, 8, .inl (fun _ => 0))), (r33 6, .inl (ct 0, 8, .inl (fun _ => 0))), (r33 7, .inl (ct 0, 8, .inl (fun _ => 0)))] := hD
  refine lv_aload_n hx hb dX0_init_40 rfl (lv_at hl 0 rfl) ?_
  refine lv_bipush (v := 8) hx hb dX0_init_41 (by decide) ?_
  refine lv_bipush (v := 8) hx hb dX0_init_43 (by decide) ?_
  refine cb_mna hx hb hown (hts (.classLink RX0 20 "[[I") (by decide +kernel)) hAO (hts (.arrayClass .int) (by decide +kernel)) hK hP hD hS hA 0 2 rfl rfl (Nat.le_of_ble_eq_true rfl) (Nat.le_of_ble_eq_true rfl) dX0_init_45 (fun q45 r45 H hP hD hS => ?_)
  have hP : va_P (dC, dI) vwCl [(h0, .inr (0, [.ref q7, .ref q15, .ref q23, .ref q33, .null, .int 0, .null, .null, .null])), (q7, .inl (ct 0, (8, .inl (fun _ => 0)))), (q15, .inl (ct 0, (8, .inl (fun _ => 0)))), (q23, .inl (ct 1, (8, .inl (fun _ => 0)))), (q33, .inl (ct 2, 8, .inr (.inr (.inr (.inr (cb_o r33)))))), (r33 0, .inl (ct 0, 8, .inl (fun _ => 0))), (r33 1, .inl (ct 0, 8, .inl (fun _ => 0))), (r33 2, .inl (ct 0, 8, .inl (fun _ => 0))), (r33 3, .inl (ct 0, 8, .inl (fun _ => 0))), (r33 4, .inl (ct 0, 8, .inl (fun _ => 0))), (r33 5, .inl (ct 0, 8, .inl (fun _ => 0))), (r33 6, .inl (ct 0, 8, .inl (fun _ => 0))), (r33 7, .inl (ct 0, 8, .inl (fun _ => 0))), (q45, .inl (ct 2, 8, .inr (.inr (.inr (.inr (cb_o r45)))))), (r45 0, .inl (ct 0, 8, .inl (fun _ => 0))), (r45 1, .inl (ct 0, 8, .inl (fun _ => 0))), (r45 2, .inl (ct 0, 8, .inl (fun _ => 0))), (r45 3, .inl (ct 0, 8, .inl (fun _ => 0))), (r45 4, .inl (ct 0, 8, .inl (fun _ => 0))), (r45 5, .inl (ct 0, 8, .inl (fun _ => 0))), (r45 6, .inl (ct 0, 8, .inl (fun _ => 0))), (r45 7, .inl (ct 0, 8, .inl (fun _ => 0)))] H := hP
  have hD : va_D A [(h0, .inr (0, [.ref q7, .ref q15, .ref q23, .ref q33, .null, .int 0, .null, .null, .null])), (q7, .inl (ct 0, (8, .inl (fun _ => 0)))), (q15, .inl (ct 0, (8, .inl (fun _ => 0)))), (q23, .inl (ct 1, (8, .inl (fun _ => 0)))), (q33, .inl (ct 2, 8, .inr (.inr (.inr (.inr (cb_o r33)))))), (r33 0, .inl (ct 0, 8, .inl (fun _ => 0))), (r33 1, .inl (ct 0, 8, .inl (fun _ => 0))), (r33 2, .inl (ct 0, 8, .inl (fun _ => 0))), (r33 3, .inl (ct 0, 8, .inl (fun _ => 0))), (r33 4, .inl (ct 0, 8, .inl (fun _ => 0))), (r33 5, .inl (ct 0, 8, .inl (fun _ => 0))), (r33 6, .inl (ct 0, 8, .inl (fun _ => 0))), (r33 7, .inl (ct 0, 8, .inl (fun _ => 0))), (q45, .inl (ct 2, 8, .inr (.inr (.inr (.inr (cb_o r45)))))), (r45 0, .inl (ct 0, 8, .inl (fun _ => 0))), (r45 1, .inl (ct 0, 8, .inl (fun _ => 0))), (r45 2, .inl (ct 0, 8, .inl (fun _ => 0))), (r45 3, .inl (ct 0, 8, .inl (fun _ => 0))), (r45 4, .inl (ct 0, 8, .inl (fun _ => 0))), (r45 5, .inl (ct 0, 8, .inl (fun _ => 0))), (r45 6, .inl (ct 0, 8, .inl (fun _ => 0))), (r45 7, .inl (ct 0, 8, .inl (fun _ => 0)))] := hD
  refine W.widen (k := 21) (n := 168) (Nat.le_of_ble_eq_true rfl) (Nat.le_of_ble_eq_true rfl) ?_
  refine va_putF (D := (dC, dI)) (ci := 0) (v := .ref q45) (ty := .array (.array .int)) (C := RX0) (T := TX0) (N := 9) hx hb hts hin0 tyX0 tyX0_ok nmX0 hown hK hP hD hS 0 rfl rfl 4 (by decide) (hts (.fieldLink RX0 25 "ConferenceBridge" "going" "[[I") (by decide +kernel)) (fun _ h9 => h9) rfl hin rfl (by decide +kernel) rfl rfl (Nat.le_of_ble_eq_true rfl) dX0_init_49 (fun H locs hP hD hS => ?_)
  have hP : va_P (dC, dI) vwCl [(h0, .inr (0, [.ref q7, .ref q15, .ref q23, .ref q33, .ref q45, .int 0, .null, .null, .null])), (q7, .inl (ct 0, (8, .inl (fun _ => 0)))), (q15, .inl (ct 0, (8, .inl (fun _ => 0)))), (q23, .inl (ct 1, (8, .inl (fun _ => 0)))), (q33, .inl (ct 2, 8, .inr (.inr (.inr (.inr (cb_o r33)))))), (r33 0, .inl (ct 0, 8, .inl (fun _ => 0))), (r33 1, .inl (ct 0, 8, .inl (fun _ => 0))), (r33 2, .inl (ct 0, 8, .inl (fun _ => 0))), (r33 3, .inl (ct 0, 8, .inl (fun _ => 0))), (r33 4, .inl (ct 0, 8, .inl (fun _ => 0))), (r33 5, .inl (ct 0, 8, .inl (fun _ => 0))), (r33 6, .inl (ct 0, 8, .inl (fun _ => 0))), (r33 7, .inl (ct 0, 8, .inl (fun _ => 0))), (q45, .inl (ct 2, 8, .inr (.inr (.inr (.inr (cb_o r45)))))), (r45 0, .inl (ct 0, 8, .inl (fun _ => 0))), (r45 1, .inl (ct 0, 8, .inl (fun _ => 0))), (r45 2, .inl (ct 0, 8, .inl (fun _ => 0))), (r45 3, .inl (ct 0, 8, .inl (fun _ => 0))), (r45 4, .inl (ct 0, 8, .inl (fun _ => 0))), (r45 5, .inl (ct 0, 8, .inl (fun _ => 0))), (r45 6, .inl (ct 0, 8, .inl (fun _ => 0))), (r45 7, .inl (ct 0, 8, .inl (fun _ => 0)))] H := hP
  have hD : va_D A [(h0, .inr (0, [.ref q7, .ref q15, .ref q23, .ref q33, .ref q45, .int 0, .null, .null, .null])), (q7, .inl (ct 0, (8, .inl (fun _ => 0)))), (q15, .inl (ct 0, (8, .inl (fun _ => 0)))), (q23, .inl (ct 1, (8, .inl (fun _ => 0)))), (q33, .inl (ct 2, 8, .inr (.inr (.inr (.inr (cb_o r33)))))), (r33 0, .inl (ct 0, 8, .inl (fun _ => 0))), (r33 1, .inl (ct 0, 8, .inl (fun _ => 0))), (r33 2, .inl (ct 0, 8, .inl (fun _ => 0))), (r33 3, .inl (ct 0, 8, .inl (fun _ => 0))), (r33 4, .inl (ct 0, 8, .inl (fun _ => 0))), (r33 5, .inl (ct 0, 8, .inl (fun _ => 0))), (r33 6, .inl (ct 0, 8, .inl (fun _ => 0))), (r33 7, .inl (ct 0, 8, .inl (fun _ => 0))), (q45, .inl (ct 2, 8, .inr (.inr (.inr (.inr (cb_o r45)))))), (r45 0, .inl (ct 0, 8, .inl (fun _ => 0))), (r45 1, .inl (ct 0, 8, .inl (fun _ => 0))), (r45 2, .inl (ct 0, 8, .inl (fun _ => 0))), (r45 3, .inl (ct 0, 8, .inl (fun _ => 0))), (r45 4, .inl (ct 0, 8, .inl (fun _ => 0))), (r45 5, .inl (ct 0, 8, .inl (fun _ => 0))), (r45 6, .inl (ct 0, 8, .inl (fun _ => 0))), (r45 7, .inl (ct 0, 8, .inl (fun _ => 0)))] := hD
  refine lv_aload_n hx hb dX0_init_52 rfl (lv_at hl 0 rfl) ?_
  refine lv_iconst (v := 3) hx hb dX0_init_53 (by decide) ?_
  refine va_put (D := (dC, dI)) (ci := 0) (v := .int (3)) (ty := .int) (C := RX0) (T := TX0) (N := 9) hx hb hts hin0 tyX0 tyX0_ok nmX0 hown hK hP hD hS 0 rfl rfl 5 (by decide) (hts (.fieldLink RX0 28 "ConferenceBridge" "mostSpeakers" "I") (by decide +kernel)) (fun _ h9 => h9) rfl (by decide +kernel) rfl rfl (Nat.le_of_ble_eq_true rfl) dX0_init_54 (fun H locs hP hD hS => ?_)
  have hP : va_P (dC, dI) vwCl [(h0, .inr (0, [.ref q7, .ref q15, .ref q23, .ref q33, .ref q45, .int (3), .null, .null, .null])), (q7, .inl (ct 0, (8, .inl (fun _ => 0)))), (q15, .inl (ct 0, (8, .inl (fun _ => 0)))), (q23, .inl (ct 1, (8, .inl (fun _ => 0)))), (q33, .inl (ct 2, 8, .inr (.inr (.inr (.inr (cb_o r33)))))), (r33 0, .inl (ct 0, 8, .inl (fun _ => 0))), (r33 1, .inl (ct 0, 8, .inl (fun _ => 0))), (r33 2, .inl (ct 0, 8, .inl (fun _ => 0))), (r33 3, .inl (ct 0, 8, .inl (fun _ => 0))), (r33 4, .inl (ct 0, 8, .inl (fun _ => 0))), (r33 5, .inl (ct 0, 8, .inl (fun _ => 0))), (r33 6, .inl (ct 0, 8, .inl (fun _ => 0))), (r33 7, .inl (ct 0, 8, .inl (fun _ => 0))), (q45, .inl (ct 2, 8, .inr (.inr (.inr (.inr (cb_o r45)))))), (r45 0, .inl (ct 0, 8, .inl (fun _ => 0))), (r45 1, .inl (ct 0, 8, .inl (fun _ => 0))), (r45 2, .inl (ct 0, 8, .inl (fun _ => 0))), (r45 3, .inl (ct 0, 8, .inl (fun _ => 0))), (r45 4, .inl (ct 0, 8, .inl (fun _ => 0))), (r45 5, .inl (ct 0, 8, .inl (fun _ => 0))), (r45 6, .inl (ct 0, 8, .inl (fun _ => 0))), (r45 7, .inl (ct 0, 8, .inl (fun _ => 0)))] H := hP
  have hD : va_D A [(h0, .inr (0, [.ref q7, .ref q15, .ref q23, .ref q33, .ref q45, .int (3), .null, .null, .null])), (q7, .inl (ct 0, (8, .inl (fun _ => 0)))), (q15, .inl (ct 0, (8, .inl (fun _ => 0)))), (q23, .inl (ct 1, (8, .inl (fun _ => 0)))), (q33, .inl (ct 2, 8, .inr (.inr (.inr (.inr (cb_o r33)))))), (r33 0, .inl (ct 0, 8, .inl (fun _ => 0))), (r33 1, .inl (ct 0, 8, .inl (fun _ => 0))), (r33 2, .inl (ct 0, 8, .inl (fun _ => 0))), (r33 3, .inl (ct 0, 8, .inl (fun _ => 0))), (r33 4, .inl (ct 0, 8, .inl (fun _ => 0))), (r33 5, .inl (ct 0, 8, .inl (fun _ => 0))), (r33 6, .inl (ct 0, 8, .inl (fun _ => 0))), (r33 7, .inl (ct 0, 8, .inl (fun _ => 0))), (q45, .inl (ct 2, 8, .inr (.inr (.inr (.inr (cb_o r45)))))), (r45 0, .inl (ct 0, 8, .inl (fun _ => 0))), (r45 1, .inl (ct 0, 8, .inl (fun _ => 0))), (r45 2, .inl (ct 0, 8, .inl (fun _ => 0))), (r45 3, .inl (ct 0, 8, .inl (fun _ => 0))), (r45 4, .inl (ct 0, 8, .inl (fun _ => 0))), (r45 5, .inl (ct 0, 8, .inl (fun _ => 0))), (r45 6, .inl (ct 0, 8, .inl (fun _ => 0))), (r45 7, .inl (ct 0, 8, .inl (fun _ => 0)))] := hD
  refine lv_aload_n hx hb dX0_init_57 rfl (lv_at hl 0 rfl) ?_
  refine lv_bipush (v := 8) hx hb dX0_init_58 (by decide) ?_
  refine lv_bipush (v := 8) hx hb dX0_init_60 (by decide) ?_
  refine cb_mna hx hb hown (hts (.classLink RX0 20 "[[I") (by decide +kernel)) hAO (hts (.arrayClass .int) (by decide +kernel)) hK hP hD hS hA 0 2 rfl rfl (Nat.le_of_ble_eq_true rfl) (Nat.le_of_ble_eq_true rfl) dX0_init_62 (fun q62 r62 H hP hD hS => ?_)
  have hP : va_P (dC, dI) vwCl [(h0, .inr (0, [.ref q7, .ref q15, .ref q23, .ref q33, .ref q45, .int (3), .null, .null, .null])), (q7, .inl (ct 0, (8, .inl (fun _ => 0)))), (q15, .inl (ct 0, (8, .inl (fun _ => 0)))), (q23, .inl (ct 1, (8, .inl (fun _ => 0)))), (q33, .inl (ct 2, 8, .inr (.inr (.inr (.inr (cb_o r33)))))), (r33 0, .inl (ct 0, 8, .inl (fun _ => 0))), (r33 1, .inl (ct 0, 8, .inl (fun _ => 0))), (r33 2, .inl (ct 0, 8, .inl (fun _ => 0))), (r33 3, .inl (ct 0, 8, .inl (fun _ => 0))), (r33 4, .inl (ct 0, 8, .inl (fun _ => 0))), (r33 5, .inl (ct 0, 8, .inl (fun _ => 0))), (r33 6, .inl (ct 0, 8, .inl (fun _ => 0))), (r33 7, .inl (ct 0, 8, .inl (fun _ => 0))), (q45, .inl (ct 2, 8, .inr (.inr (.inr (.inr (cb_o r45)))))), (r45 0, .inl (ct 0, 8, .inl (fun _ => 0))), (r45 1, .inl (ct 0, 8, .inl (fun _ => 0))), (r45 2, .inl (ct 0, 8, .inl (fun _ => 0))), (r45 3, .inl (ct 0, 8, .inl (fun _ => 0))), (r45 4, .inl (ct 0, 8, .inl (fun _ => 0))), (r45 5, .inl (ct 0, 8, .inl (fun _ => 0))), (r45 6, .inl (ct 0, 8, .inl (fun _ => 0))), (r45 7, .inl (ct 0, 8, .inl (fun _ => 0))), (q62, .inl (ct 2, 8, .inr (.inr (.inr (.inr (cb_o r62)))))), (r62 0, .inl (ct 0, 8, .inl (fun _ => 0))), (r62 1, .inl (ct 0, 8, .inl (fun _ => 0))), (r62 2, .inl (ct 0, 8, .inl (fun _ => 0))), (r62 3, .inl (ct 0, 8, .inl (fun _ => 0))), (r62 4, .inl (ct 0, 8, .inl (fun _ => 0))), (r62 5, .inl (ct 0, 8, .inl (fun _ => 0))), (r62 6, .inl (ct 0, 8, .inl (fun _ => 0))), (r62 7, .inl (ct 0, 8, .inl (fun _ => 0)))] H := hP
  have hD : va_D A [(h0, .inr (0, [.ref q7, .ref q15, .ref q23, .ref q33, .ref q45, .int (3), .null, .null, .null])), (q7, .inl (ct 0, (8, .inl (fun _ => 0)))), (q15, .inl (ct 0, (8, .inl (fun _ => 0)))), (q23, .inl (ct 1, (8, .inl (fun _ => 0)))), (q33, .inl (ct 2, 8, .inr (.inr (.inr (.inr (cb_o r33)))))), (r33 0, .inl (ct 0, 8, .inl (fun _ => 0))), (r33 1, .inl (ct 0, 8, .inl (fun _ => 0))), (r33 2, .inl (ct 0, 8, .inl (fun _ => 0))), (r33 3, .inl (ct 0, 8, .inl (fun _ => 0))), (r33 4, .inl (ct 0, 8, .inl (fun _ => 0))), (r33 5, .inl (ct 0, 8, .inl (fun _ => 0))), (r33 6, .inl (ct 0, 8, .inl (fun _ => 0))), (r33 7, .inl (ct 0, 8, .inl (fun _ => 0))), (q45, .inl (ct 2, 8, .inr (.inr (.inr (.inr (cb_o r45)))))), (r45 0, .inl (ct 0, 8, .inl (fun _ => 0))), (r45 1, .inl (ct 0, 8, .inl (fun _ => 0))), (r45 2, .inl (ct 0, 8, .inl (fun _ => 0))), (r45 3, .inl (ct 0, 8, .inl (fun _ => 0))), (r45 4, .inl (ct 0, 8, .inl (fun _ => 0))), (r45 5, .inl (ct 0, 8, .inl (fun _ => 0))), (r45 6, .inl (ct 0, 8, .inl (fun _ => 0))), (r45 7, .inl (ct 0, 8, .inl (fun _ => 0))), (q62, .inl (ct 2, 8, .inr (.inr (.inr (.inr (cb_o r62)))))), (r62 0, .inl (ct 0, 8, .inl (fun _ => 0))), (r62 1, .inl (ct 0, 8, .inl (fun _ => 0))), (r62 2, .inl (ct 0, 8, .inl (fun _ => 0))), (r62 3, .inl (ct 0, 8, .inl (fun _ => 0))), (r62 4, .inl (ct 0, 8, .inl (fun _ => 0))), (r62 5, .inl (ct 0, 8, .inl (fun _ => 0))), (r62 6, .inl (ct 0, 8, .inl (fun _ => 0))), (r62 7, .inl (ct 0, 8, .inl (fun _ => 0)))] := hD
  refine W.widen (k := 30) (n := 240) (Nat.le_of_ble_eq_true rfl) (Nat.le_of_ble_eq_true rfl) ?_
  refine va_putF (D := (dC, dI)) (ci := 0) (v := .ref q62) (ty := .array (.array .int)) (C := RX0) (T := TX0) (N := 9) hx hb hts hin0 tyX0 tyX0_ok nmX0 hown hK hP hD hS 0 rfl rfl 6 (by decide) (hts (.fieldLink RX0 32 "ConferenceBridge" "voices" "[[I") (by decide +kernel)) (fun _ h9 => h9) rfl hin rfl (by decide +kernel) rfl rfl (Nat.le_of_ble_eq_true rfl) dX0_init_66 (fun H locs hP hD hS => ?_)
  have hP : va_P (dC, dI) vwCl [(h0, .inr (0, [.ref q7, .ref q15, .ref q23, .ref q33, .ref q45, .int (3), .ref q62, .null, .null])), (q7, .inl (ct 0, (8, .inl (fun _ => 0)))), (q15, .inl (ct 0, (8, .inl (fun _ => 0)))), (q23, .inl (ct 1, (8, .inl (fun _ => 0)))), (q33, .inl (ct 2, 8, .inr (.inr (.inr (.inr (cb_o r33)))))), (r33 0, .inl (ct 0, 8, .inl (fun _ => 0))), (r33 1, .inl (ct 0, 8, .inl (fun _ => 0))), (r33 2, .inl (ct 0, 8, .inl (fun _ => 0))), (r33 3, .inl (ct 0, 8, .inl (fun _ => 0))), (r33 4, .inl (ct 0, 8, .inl (fun _ => 0))), (r33 5, .inl (ct 0, 8, .inl (fun _ => 0))), (r33 6, .inl (ct 0, 8, .inl (fun _ => 0))), (r33 7, .inl (ct 0, 8, .inl (fun _ => 0))), (q45, .inl (ct 2, 8, .inr (.inr (.inr (.inr (cb_o r45)))))), (r45 0, .inl (ct 0, 8, .inl (fun _ => 0))), (r45 1, .inl (ct 0, 8, .inl (fun _ => 0))), (r45 2, .inl (ct 0, 8, .inl (fun _ => 0))), (r45 3, .inl (ct 0, 8, .inl (fun _ => 0))), (r45 4, .inl (ct 0, 8, .inl (fun _ => 0))), (r45 5, .inl (ct 0, 8, .inl (fun _ => 0))), (r45 6, .inl (ct 0, 8, .inl (fun _ => 0))), (r45 7, .inl (ct 0, 8, .inl (fun _ => 0))), (q62, .inl (ct 2, 8, .inr (.inr (.inr (.inr (cb_o r62)))))), (r62 0, .inl (ct 0, 8, .inl (fun _ => 0))), (r62 1, .inl (ct 0, 8, .inl (fun _ => 0))), (r62 2, .inl (ct 0, 8, .inl (fun _ => 0))), (r62 3, .inl (ct 0, 8, .inl (fun _ => 0))), (r62 4, .inl (ct 0, 8, .inl (fun _ => 0))), (r62 5, .inl (ct 0, 8, .inl (fun _ => 0))), (r62 6, .inl (ct 0, 8, .inl (fun _ => 0))), (r62 7, .inl (ct 0, 8, .inl (fun _ => 0)))] H := hP
  have hD : va_D A [(h0, .inr (0, [.ref q7, .ref q15, .ref q23, .ref q33, .ref q45, .int (3), .ref q62, .null, .null])), (q7, .inl (ct 0, (8, .inl (fun _ => 0)))), (q15, .inl (ct 0, (8, .inl (fun _ => 0)))), (q23, .inl (ct 1, (8, .inl (fun _ => 0)))), (q33, .inl (ct 2, 8, .inr (.inr (.inr (.inr (cb_o r33)))))), (r33 0, .inl (ct 0, 8, .inl (fun _ => 0))), (r33 1, .inl (ct 0, 8, .inl (fun _ => 0))), (r33 2, .inl (ct 0, 8, .inl (fun _ => 0))), (r33 3, .inl (ct 0, 8, .inl (fun _ => 0))), (r33 4, .inl (ct 0, 8, .inl (fun _ => 0))), (r33 5, .inl (ct 0, 8, .inl (fun _ => 0))), (r33 6, .inl (ct 0, 8, .inl (fun _ => 0))), (r33 7, .inl (ct 0, 8, .inl (fun _ => 0))), (q45, .inl (ct 2, 8, .inr (.inr (.inr (.inr (cb_o r45)))))), (r45 0, .inl (ct 0, 8, .inl (fun _ => 0))), (r45 1, .inl (ct 0, 8, .inl (fun _ => 0))), (r45 2, .inl (ct 0, 8, .inl (fun _ => 0))), (r45 3, .inl (ct 0, 8, .inl (fun _ => 0))), (r45 4, .inl (ct 0, 8, .inl (fun _ => 0))), (r45 5, .inl (ct 0, 8, .inl (fun _ => 0))), (r45 6, .inl (ct 0, 8, .inl (fun _ => 0))), (r45 7, .inl (ct 0, 8, .inl (fun _ => 0))), (q62, .inl (ct 2, 8, .inr (.inr (.inr (.inr (cb_o r62)))))), (r62 0, .inl (ct 0, 8, .inl (fun _ => 0))), (r62 1, .inl (ct 0, 8, .inl (fun _ => 0))), (r62 2, .inl (ct 0, 8, .inl (fun _ => 0))), (r62 3, .inl (ct 0, 8, .inl (fun _ => 0))), (r62 4, .inl (ct 0, 8, .inl (fun _ => 0))), (r62 5, .inl (ct 0, 8, .inl (fun _ => 0))), (r62 6, .inl (ct 0, 8, .inl (fun _ => 0))), (r62 7, .inl (ct 0, 8, .inl (fun _ => 0)))] := hD
  refine lv_aload_n hx hb dX0_init_69 rfl (lv_at hl 0 rfl) ?_
  refine lv_bipush (v := 8) hx hb dX0_init_70 (by decide) ?_
  refine cb_newa (atype := .long) hx hb (hts (.arrayClass .long) (by decide +kernel)) (ty := .long) rfl hK hP hD hS hA 3 rfl (fun _ h9 => h9) (a0 := (8, .inr (.inl (fun _ => 0)))) (fun _ => rfl) (by decide) (N' := 8) (by decide) (Nat.le_of_ble_eq_true rfl) (Nat.le_of_ble_eq_true rfl) (Nat.le_of_ble_eq_true rfl) dX0_init_72 (fun q72 H hP hD hS => ?_)
  have hP : va_P (dC, dI) vwCl [(h0, .inr (0, [.ref q7, .ref q15, .ref q23, .ref q33, .ref q45, .int (3), .ref q62, .null, .null])), (q7, .inl (ct 0, (8, .inl (fun _ => 0)))), (q15, .inl (ct 0, (8, .inl (fun _ => 0)))), (q23, .inl (ct 1, (8, .inl (fun _ => 0)))), (q33, .inl (ct 2, 8, .inr (.inr (.inr (.inr (cb_o r33)))))), (r33 0, .inl (ct 0, 8, .inl (fun _ => 0))), (r33 1, .inl (ct 0, 8, .inl (fun _ => 0))), (r33 2, .inl (ct 0, 8, .inl (fun _ => 0))), (r33 3, .inl (ct 0, 8, .inl (fun _ => 0))), (r33 4, .inl (ct 0, 8, .inl (fun _ => 0))), (r33 5, .inl (ct 0, 8, .inl (fun _ => 0))), (r33 6, .inl (ct 0, 8, .inl (fun _ => 0))), (r33 7, .inl (ct 0, 8, .inl (fun _ => 0))), (q45, .inl (ct 2, 8, .inr (.inr (.inr (.inr (cb_o r45)))))), (r45 0, .inl (ct 0, 8, .inl (fun _ => 0))), (r45 1, .inl (ct 0, 8, .inl (fun _ => 0))), (r45 2, .inl (ct 0, 8, .inl (fun _ => 0))), (r45 3, .inl (ct 0, 8, .inl (fun _ => 0))), (r45 4, .inl (ct 0, 8, .inl (fun _ => 0))), (r45 5, .inl (ct 0, 8, .inl (fun _ => 0))), (r45 6, .inl (ct 0, 8, .inl (fun _ => 0))), (r45 7, .inl (ct 0, 8, .inl (fun _ => 0))), (q62, .inl (ct 2, 8, .inr (.inr (.inr (.inr (cb_o r62)))))), (r62 0, .inl (ct 0, 8, .inl (fun _ => 0))), (r62 1, .inl (ct 0, 8, .inl (fun _ => 0))), (r62 2, .inl (ct 0, 8, .inl (fun _ => 0))), (r62 3, .inl (ct 0, 8, .inl (fun _ => 0))), (r62 4, .inl (ct 0, 8, .inl (fun _ => 0))), (r62 5, .inl (ct 0, 8, .inl (fun _ => 0))), (r62 6, .inl (ct 0, 8, .inl (fun _ => 0))), (r62 7, .inl (ct 0, 8, .inl (fun _ => 0))), (q72, .inl (ct 3, (8, .inr (.inl (fun _ => 0)))))] H := hP
  have hD : va_D A [(h0, .inr (0, [.ref q7, .ref q15, .ref q23, .ref q33, .ref q45, .int (3), .ref q62, .null, .null])), (q7, .inl (ct 0, (8, .inl (fun _ => 0)))), (q15, .inl (ct 0, (8, .inl (fun _ => 0)))), (q23, .inl (ct 1, (8, .inl (fun _ => 0)))), (q33, .inl (ct 2, 8, .inr (.inr (.inr (.inr (cb_o r33)))))), (r33 0, .inl (ct 0, 8, .inl (fun _ => 0))), (r33 1, .inl (ct 0, 8, .inl (fun _ => 0))), (r33 2, .inl (ct 0, 8, .inl (fun _ => 0))), (r33 3, .inl (ct 0, 8, .inl (fun _ => 0))), (r33 4, .inl (ct 0, 8, .inl (fun _ => 0))), (r33 5, .inl (ct 0, 8, .inl (fun _ => 0))), (r33 6, .inl (ct 0, 8, .inl (fun _ => 0))), (r33 7, .inl (ct 0, 8, .inl (fun _ => 0))), (q45, .inl (ct 2, 8, .inr (.inr (.inr (.inr (cb_o r45)))))), (r45 0, .inl (ct 0, 8, .inl (fun _ => 0))), (r45 1, .inl (ct 0, 8, .inl (fun _ => 0))), (r45 2, .inl (ct 0, 8, .inl (fun _ => 0))), (r45 3, .inl (ct 0, 8, .inl (fun _ => 0))), (r45 4, .inl (ct 0, 8, .inl (fun _ => 0))), (r45 5, .inl (ct 0, 8, .inl (fun _ => 0))), (r45 6, .inl (ct 0, 8, .inl (fun _ => 0))), (r45 7, .inl (ct 0, 8, .inl (fun _ => 0))), (q62, .inl (ct 2, 8, .inr (.inr (.inr (.inr (cb_o r62)))))), (r62 0, .inl (ct 0, 8, .inl (fun _ => 0))), (r62 1, .inl (ct 0, 8, .inl (fun _ => 0))), (r62 2, .inl (ct 0, 8, .inl (fun _ => 0))), (r62 3, .inl (ct 0, 8, .inl (fun _ => 0))), (r62 4, .inl (ct 0, 8, .inl (fun _ => 0))), (r62 5, .inl (ct 0, 8, .inl (fun _ => 0))), (r62 6, .inl (ct 0, 8, .inl (fun _ => 0))), (r62 7, .inl (ct 0, 8, .inl (fun _ => 0))), (q72, .inl (ct 3, (8, .inr (.inl (fun _ => 0)))))] := hD
  refine W.widen (k := 31) (n := 248) (Nat.le_of_ble_eq_true rfl) (Nat.le_of_ble_eq_true rfl) ?_
  refine va_putF (D := (dC, dI)) (ci := 0) (v := .ref q72) (ty := .array .long) (C := RX0) (T := TX0) (N := 9) hx hb hts hin0 tyX0 tyX0_ok nmX0 hown hK hP hD hS 0 rfl rfl 7 (by decide) (hts (.fieldLink RX0 35 "ConferenceBridge" "energies" "[J") (by decide +kernel)) (fun _ h9 => h9) rfl hin rfl (by decide +kernel) rfl rfl (Nat.le_of_ble_eq_true rfl) dX0_init_74 (fun H locs hP hD hS => ?_)
  have hP : va_P (dC, dI) vwCl [(h0, .inr (0, [.ref q7, .ref q15, .ref q23, .ref q33, .ref q45, .int (3), .ref q62, .ref q72, .null])), (q7, .inl (ct 0, (8, .inl (fun _ => 0)))), (q15, .inl (ct 0, (8, .inl (fun _ => 0)))), (q23, .inl (ct 1, (8, .inl (fun _ => 0)))), (q33, .inl (ct 2, 8, .inr (.inr (.inr (.inr (cb_o r33)))))), (r33 0, .inl (ct 0, 8, .inl (fun _ => 0))), (r33 1, .inl (ct 0, 8, .inl (fun _ => 0))), (r33 2, .inl (ct 0, 8, .inl (fun _ => 0))), (r33 3, .inl (ct 0, 8, .inl (fun _ => 0))), (r33 4, .inl (ct 0, 8, .inl (fun _ => 0))), (r33 5, .inl (ct 0, 8, .inl (fun _ => 0))), (r33 6, .inl (ct 0, 8, .inl (fun _ => 0))), (r33 7, .inl (ct 0, 8, .inl (fun _ => 0))), (q45, .inl (ct 2, 8, .inr (.inr (.inr (.inr (cb_o r45)))))), (r45 0, .inl (ct 0, 8, .inl (fun _ => 0))), (r45 1, .inl (ct 0, 8, .inl (fun _ => 0))), (r45 2, .inl (ct 0, 8, .inl (fun _ => 0))), (r45 3, .inl (ct 0, 8, .inl (fun _ => 0))), (r45 4, .inl (ct 0, 8, .inl (fun _ => 0))), (r45 5, .inl (ct 0, 8, .inl (fun _ => 0))), (r45 6, .inl (ct 0, 8, .inl (fun _ => 0))), (r45 7, .inl (ct 0, 8, .inl (fun _ => 0))), (q62, .inl (ct 2, 8, .inr (.inr (.inr (.inr (cb_o r62)))))), (r62 0, .inl (ct 0, 8, .inl (fun _ => 0))), (r62 1, .inl (ct 0, 8, .inl (fun _ => 0))), (r62 2, .inl (ct 0, 8, .inl (fun _ => 0))), (r62 3, .inl (ct 0, 8, .inl (fun _ => 0))), (r62 4, .inl (ct 0, 8, .inl (fun _ => 0))), (r62 5, .inl (ct 0, 8, .inl (fun _ => 0))), (r62 6, .inl (ct 0, 8, .inl (fun _ => 0))), (r62 7, .inl (ct 0, 8, .inl (fun _ => 0))), (q72, .inl (ct 3, (8, .inr (.inl (fun _ => 0)))))] H := hP
  have hD : va_D A [(h0, .inr (0, [.ref q7, .ref q15, .ref q23, .ref q33, .ref q45, .int (3), .ref q62, .ref q72, .null])), (q7, .inl (ct 0, (8, .inl (fun _ => 0)))), (q15, .inl (ct 0, (8, .inl (fun _ => 0)))), (q23, .inl (ct 1, (8, .inl (fun _ => 0)))), (q33, .inl (ct 2, 8, .inr (.inr (.inr (.inr (cb_o r33)))))), (r33 0, .inl (ct 0, 8, .inl (fun _ => 0))), (r33 1, .inl (ct 0, 8, .inl (fun _ => 0))), (r33 2, .inl (ct 0, 8, .inl (fun _ => 0))), (r33 3, .inl (ct 0, 8, .inl (fun _ => 0))), (r33 4, .inl (ct 0, 8, .inl (fun _ => 0))), (r33 5, .inl (ct 0, 8, .inl (fun _ => 0))), (r33 6, .inl (ct 0, 8, .inl (fun _ => 0))), (r33 7, .inl (ct 0, 8, .inl (fun _ => 0))), (q45, .inl (ct 2, 8, .inr (.inr (.inr (.inr (cb_o r45)))))), (r45 0, .inl (ct 0, 8, .inl (fun _ => 0))), (r45 1, .inl (ct 0, 8, .inl (fun _ => 0))), (r45 2, .inl (ct 0, 8, .inl (fun _ => 0))), (r45 3, .inl (ct 0, 8, .inl (fun _ => 0))), (r45 4, .inl (ct 0, 8, .inl (fun _ => 0))), (r45 5, .inl (ct 0, 8, .inl (fun _ => 0))), (r45 6, .inl (ct 0, 8, .inl (fun _ => 0))), (r45 7, .inl (ct 0, 8, .inl (fun _ => 0))), (q62, .inl (ct 2, 8, .inr (.inr (.inr (.inr (cb_o r62)))))), (r62 0, .inl (ct 0, 8, .inl (fun _ => 0))), (r62 1, .inl (ct 0, 8, .inl (fun _ => 0))), (r62 2, .inl (ct 0, 8, .inl (fun _ => 0))), (r62 3, .inl (ct 0, 8, .inl (fun _ => 0))), (r62 4, .inl (ct 0, 8, .inl (fun _ => 0))), (r62 5, .inl (ct 0, 8, .inl (fun _ => 0))), (r62 6, .inl (ct 0, 8, .inl (fun _ => 0))), (r62 7, .inl (ct 0, 8, .inl (fun _ => 0))), (q72, .inl (ct 3, (8, .inr (.inl (fun _ => 0)))))] := hD
  refine lv_aload_n hx hb dX0_init_77 rfl (lv_at hl 0 rfl) ?_
  refine lv_bipush (v := 8) hx hb dX0_init_78 (by decide) ?_
  refine cb_newa (atype := .int) hx hb (hts (.arrayClass .int) (by decide +kernel)) (ty := .int) rfl hK hP hD hS hA 0 rfl (fun _ h9 => h9) (a0 := (8, .inl (fun _ => 0))) (fun _ => rfl) (by decide) (N' := 8) (by decide) (Nat.le_of_ble_eq_true rfl) (Nat.le_of_ble_eq_true rfl) (Nat.le_of_ble_eq_true rfl) dX0_init_80 (fun q80 H hP hD hS => ?_)
  have hP : va_P (dC, dI) vwCl [(h0, .inr (0, [.ref q7, .ref q15, .ref q23, .ref q33, .ref q45, .int (3), .ref q62, .ref q72, .null])), (q7, .inl (ct 0, (8, .inl (fun _ => 0)))), (q15, .inl (ct 0, (8, .inl (fun _ => 0)))), (q23, .inl (ct 1, (8, .inl (fun _ => 0)))), (q33, .inl (ct 2, 8, .inr (.inr (.inr (.inr (cb_o r33)))))), (r33 0, .inl (ct 0, 8, .inl (fun _ => 0))), (r33 1, .inl (ct 0, 8, .inl (fun _ => 0))), (r33 2, .inl (ct 0, 8, .inl (fun _ => 0))), (r33 3, .inl (ct 0, 8, .inl (fun _ => 0))), (r33 4, .inl (ct 0, 8, .inl (fun _ => 0))), (r33 5, .inl (ct 0, 8, .inl (fun _ => 0))), (r33 6, .inl (ct 0, 8, .inl (fun _ => 0))), (r33 7, .inl (ct 0, 8, .inl (fun _ => 0))), (q45, .inl (ct 2, 8, .inr (.inr (.inr (.inr (cb_o r45)))))), (r45 0, .inl (ct 0, 8, .inl (fun _ => 0))), (r45 1, .inl (ct 0, 8, .inl (fun _ => 0))), (r45 2, .inl (ct 0, 8, .inl (fun _ => 0))), (r45 3, .inl (ct 0, 8, .inl (fun _ => 0))), (r45 4, .inl (ct 0, 8, .inl (fun _ => 0))), (r45 5, .inl (ct 0, 8, .inl (fun _ => 0))), (r45 6, .inl (ct 0, 8, .inl (fun _ => 0))), (r45 7, .inl (ct 0, 8, .inl (fun _ => 0))), (q62, .inl (ct 2, 8, .inr (.inr (.inr (.inr (cb_o r62)))))), (r62 0, .inl (ct 0, 8, .inl (fun _ => 0))), (r62 1, .inl (ct 0, 8, .inl (fun _ => 0))), (r62 2, .inl (ct 0, 8, .inl (fun _ => 0))), (r62 3, .inl (ct 0, 8, .inl (fun _ => 0))), (r62 4, .inl (ct 0, 8, .inl (fun _ => 0))), (r62 5, .inl (ct 0, 8, .inl (fun _ => 0))), (r62 6, .inl (ct 0, 8, .inl (fun _ => 0))), (r62 7, .inl (ct 0, 8, .inl (fun _ => 0))), (q72, .inl (ct 3, (8, .inr (.inl (fun _ => 0))))), (q80, .inl (ct 0, (8, .inl (fun _ => 0))))] H := hP
  have hD : va_D A [(h0, .inr (0, [.ref q7, .ref q15, .ref q23, .ref q33, .ref q45, .int (3), .ref q62, .ref q72, .null])), (q7, .inl (ct 0, (8, .inl (fun _ => 0)))), (q15, .inl (ct 0, (8, .inl (fun _ => 0)))), (q23, .inl (ct 1, (8, .inl (fun _ => 0)))), (q33, .inl (ct 2, 8, .inr (.inr (.inr (.inr (cb_o r33)))))), (r33 0, .inl (ct 0, 8, .inl (fun _ => 0))), (r33 1, .inl (ct 0, 8, .inl (fun _ => 0))), (r33 2, .inl (ct 0, 8, .inl (fun _ => 0))), (r33 3, .inl (ct 0, 8, .inl (fun _ => 0))), (r33 4, .inl (ct 0, 8, .inl (fun _ => 0))), (r33 5, .inl (ct 0, 8, .inl (fun _ => 0))), (r33 6, .inl (ct 0, 8, .inl (fun _ => 0))), (r33 7, .inl (ct 0, 8, .inl (fun _ => 0))), (q45, .inl (ct 2, 8, .inr (.inr (.inr (.inr (cb_o r45)))))), (r45 0, .inl (ct 0, 8, .inl (fun _ => 0))), (r45 1, .inl (ct 0, 8, .inl (fun _ => 0))), (r45 2, .inl (ct 0, 8, .inl (fun _ => 0))), (r45 3, .inl (ct 0, 8, .inl (fun _ => 0))), (r45 4, .inl (ct 0, 8, .inl (fun _ => 0))), (r45 5, .inl (ct 0, 8, .inl (fun _ => 0))), (r45 6, .inl (ct 0, 8, .inl (fun _ => 0))), (r45 7, .inl (ct 0, 8, .inl (fun _ => 0))), (q62, .inl (ct 2, 8, .inr (.inr (.inr (.inr (cb_o r62)))))), (r62 0, .inl (ct 0, 8, .inl (fun _ => 0))), (r62 1, .inl (ct 0, 8, .inl (fun _ => 0))), (r62 2, .inl (ct 0, 8, .inl (fun _ => 0))), (r62 3, .inl (ct 0, 8, .inl (fun _ => 0))), (r62 4, .inl (ct 0, 8, .inl (fun _ => 0))), (r62 5, .inl (ct 0, 8, .inl (fun _ => 0))), (r62 6, .inl (ct 0, 8, .inl (fun _ => 0))), (r62 7, .inl (ct 0, 8, .inl (fun _ => 0))), (q72, .inl (ct 3, (8, .inr (.inl (fun _ => 0))))), (q80, .inl (ct 0, (8, .inl (fun _ => 0))))] := hD
  refine W.widen (k := 32) (n := 256) (Nat.le_of_ble_eq_true rfl) (Nat.le_of_ble_eq_true rfl) ?_
  refine va_putF (D := (dC, dI)) (ci := 0) (v := .ref q80) (ty := .array .int) (C := RX0) (T := TX0) (N := 9) hx hb hts hin0 tyX0 tyX0_ok nmX0 hown hK hP hD hS 0 rfl rfl 8 (by decide) (hts (.fieldLink RX0 39 "ConferenceBridge" "sums" "[I") (by decide +kernel)) (fun _ h9 => h9) rfl hin rfl (by decide +kernel) rfl rfl (Nat.le_of_ble_eq_true rfl) dX0_init_82 (fun H locs hP hD hS => ?_)
  have hP : va_P (dC, dI) vwCl [(h0, .inr (0, [.ref q7, .ref q15, .ref q23, .ref q33, .ref q45, .int (3), .ref q62, .ref q72, .ref q80])), (q7, .inl (ct 0, (8, .inl (fun _ => 0)))), (q15, .inl (ct 0, (8, .inl (fun _ => 0)))), (q23, .inl (ct 1, (8, .inl (fun _ => 0)))), (q33, .inl (ct 2, 8, .inr (.inr (.inr (.inr (cb_o r33)))))), (r33 0, .inl (ct 0, 8, .inl (fun _ => 0))), (r33 1, .inl (ct 0, 8, .inl (fun _ => 0))), (r33 2, .inl (ct 0, 8, .inl (fun _ => 0))), (r33 3, .inl (ct 0, 8, .inl (fun _ => 0))), (r33 4, .inl (ct 0, 8, .inl (fun _ => 0))), (r33 5, .inl (ct 0, 8, .inl (fun _ => 0))), (r33 6, .inl (ct 0, 8, .inl (fun _ => 0))), (r33 7, .inl (ct 0, 8, .inl (fun _ => 0))), (q45, .inl (ct 2, 8, .inr (.inr (.inr (.inr (cb_o r45)))))), (r45 0, .inl (ct 0, 8, .inl (fun _ => 0))), (r45 1, .inl (ct 0, 8, .inl (fun _ => 0))), (r45 2, .inl (ct 0, 8, .inl (fun _ => 0))), (r45 3, .inl (ct 0, 8, .inl (fun _ => 0))), (r45 4, .inl (ct 0, 8, .inl (fun _ => 0))), (r45 5, .inl (ct 0, 8, .inl (fun _ => 0))), (r45 6, .inl (ct 0, 8, .inl (fun _ => 0))), (r45 7, .inl (ct 0, 8, .inl (fun _ => 0))), (q62, .inl (ct 2, 8, .inr (.inr (.inr (.inr (cb_o r62)))))), (r62 0, .inl (ct 0, 8, .inl (fun _ => 0))), (r62 1, .inl (ct 0, 8, .inl (fun _ => 0))), (r62 2, .inl (ct 0, 8, .inl (fun _ => 0))), (r62 3, .inl (ct 0, 8, .inl (fun _ => 0))), (r62 4, .inl (ct 0, 8, .inl (fun _ => 0))), (r62 5, .inl (ct 0, 8, .inl (fun _ => 0))), (r62 6, .inl (ct 0, 8, .inl (fun _ => 0))), (r62 7, .inl (ct 0, 8, .inl (fun _ => 0))), (q72, .inl (ct 3, (8, .inr (.inl (fun _ => 0))))), (q80, .inl (ct 0, (8, .inl (fun _ => 0))))] H := hP
  have hD : va_D A [(h0, .inr (0, [.ref q7, .ref q15, .ref q23, .ref q33, .ref q45, .int (3), .ref q62, .ref q72, .ref q80])), (q7, .inl (ct 0, (8, .inl (fun _ => 0)))), (q15, .inl (ct 0, (8, .inl (fun _ => 0)))), (q23, .inl (ct 1, (8, .inl (fun _ => 0)))), (q33, .inl (ct 2, 8, .inr (.inr (.inr (.inr (cb_o r33)))))), (r33 0, .inl (ct 0, 8, .inl (fun _ => 0))), (r33 1, .inl (ct 0, 8, .inl (fun _ => 0))), (r33 2, .inl (ct 0, 8, .inl (fun _ => 0))), (r33 3, .inl (ct 0, 8, .inl (fun _ => 0))), (r33 4, .inl (ct 0, 8, .inl (fun _ => 0))), (r33 5, .inl (ct 0, 8, .inl (fun _ => 0))), (r33 6, .inl (ct 0, 8, .inl (fun _ => 0))), (r33 7, .inl (ct 0, 8, .inl (fun _ => 0))), (q45, .inl (ct 2, 8, .inr (.inr (.inr (.inr (cb_o r45)))))), (r45 0, .inl (ct 0, 8, .inl (fun _ => 0))), (r45 1, .inl (ct 0, 8, .inl (fun _ => 0))), (r45 2, .inl (ct 0, 8, .inl (fun _ => 0))), (r45 3, .inl (ct 0, 8, .inl (fun _ => 0))), (r45 4, .inl (ct 0, 8, .inl (fun _ => 0))), (r45 5, .inl (ct 0, 8, .inl (fun _ => 0))), (r45 6, .inl (ct 0, 8, .inl (fun _ => 0))), (r45 7, .inl (ct 0, 8, .inl (fun _ => 0))), (q62, .inl (ct 2, 8, .inr (.inr (.inr (.inr (cb_o r62)))))), (r62 0, .inl (ct 0, 8, .inl (fun _ => 0))), (r62 1, .inl (ct 0, 8, .inl (fun _ => 0))), (r62 2, .inl (ct 0, 8, .inl (fun _ => 0))), (r62 3, .inl (ct 0, 8, .inl (fun _ => 0))), (r62 4, .inl (ct 0, 8, .inl (fun _ => 0))), (r62 5, .inl (ct 0, 8, .inl (fun _ => 0))), (r62 6, .inl (ct 0, 8, .inl (fun _ => 0))), (r62 7, .inl (ct 0, 8, .inl (fun _ => 0))), (q72, .inl (ct 3, (8, .inr (.inl (fun _ => 0))))), (q80, .inl (ct 0, (8, .inl (fun _ => 0))))] := hD
  refine lv_iconst (v := 0) hx hb dX0_init_85 (by decide) ?_
  refine lv_istore_n (lv' := [(1, .int (0)), (0, .ref h0)]) hx hb dX0_init_86 rfl hl (by decide) rfl (fun ls hl => ?_)
  obtain ⟨ad, had⟩ : ∃ ad : Nat → Nat, ad = fun n => if n < 9 then ([h0, q7, q15, q23, q33, q45, q62, q72, q80] : List Nat).getD n 0 else if n < 17 then r33 (n - 9) else if n < 25 then r45 (n - 17) else r62 (n - 25) := ⟨_, rfl⟩
  have ha0 : ad 0 = h0 := by rw [had]; rfl
  have hP9 := hP.sub (ws' := [(h0, .inr (0, [.ref q7, .ref q15, .ref q23, .ref q33, .ref q45, .int (3), .ref q62, .ref q72, .ref q80])), (q7, .inl (ct 0, (8, .inl (fun _ => 0)))), (q15, .inl (ct 0, (8, .inl (fun _ => 0)))), (q23, .inl (ct 1, (8, .inl (fun _ => 0)))), (q33, .inl (ct 2, 8, .inr (.inr (.inr (.inr (cb_o r33)))))), (q45, .inl (ct 2, 8, .inr (.inr (.inr (.inr (cb_o r45)))))), (q62, .inl (ct 2, 8, .inr (.inr (.inr (.inr (cb_o r62)))))), (q72, .inl (ct 3, (8, .inr (.inl (fun _ => 0))))), (q80, .inl (ct 0, (8, .inl (fun _ => 0)))), (r33 0, .inl (ct 0, 8, .inl (fun _ => 0))), (r33 1, .inl (ct 0, 8, .inl (fun _ => 0))), (r33 2, .inl (ct 0, 8, .inl (fun _ => 0))), (r33 3, .inl (ct 0, 8, .inl (fun _ => 0))), (r33 4, .inl (ct 0, 8, .inl (fun _ => 0))), (r33 5, .inl (ct 0, 8, .inl (fun _ => 0))), (r33 6, .inl (ct 0, 8, .inl (fun _ => 0))), (r33 7, .inl (ct 0, 8, .inl (fun _ => 0))), (r45 0, .inl (ct 0, 8, .inl (fun _ => 0))), (r45 1, .inl (ct 0, 8, .inl (fun _ => 0))), (r45 2, .inl (ct 0, 8, .inl (fun _ => 0))), (r45 3, .inl (ct 0, 8, .inl (fun _ => 0))), (r45 4, .inl (ct 0, 8, .inl (fun _ => 0))), (r45 5, .inl (ct 0, 8, .inl (fun _ => 0))), (r45 6, .inl (ct 0, 8, .inl (fun _ => 0))), (r45 7, .inl (ct 0, 8, .inl (fun _ => 0))), (r62 0, .inl (ct 0, 8, .inl (fun _ => 0))), (r62 1, .inl (ct 0, 8, .inl (fun _ => 0))), (r62 2, .inl (ct 0, 8, .inl (fun _ => 0))), (r62 3, .inl (ct 0, 8, .inl (fun _ => 0))), (r62 4, .inl (ct 0, 8, .inl (fun _ => 0))), (r62 5, .inl (ct 0, 8, .inl (fun _ => 0))), (r62 6, .inl (ct 0, 8, .inl (fun _ => 0))), (r62 7, .inl (ct 0, 8, .inl (fun _ => 0)))]) [0, 1, 2, 3, 4, 13, 22, 31, 32, 5, 6, 7, 8, 9, 10, 11, 12, 14, 15, 16, 17, 18, 19, 20, 21, 23, 24, 25, 26, 27, 28, 29, 30] rfl
  have hD9 := hD.sub (ws' := [(h0, .inr (0, [.ref q7, .ref q15, .ref q23, .ref q33, .ref q45, .int (3), .ref q62, .ref q72, .ref q80])), (q7, .inl (ct 0, (8, .inl (fun _ => 0)))), (q15, .inl (ct 0, (8, .inl (fun _ => 0)))), (q23, .inl (ct 1, (8, .inl (fun _ => 0)))), (q33, .inl (ct 2, 8, .inr (.inr (.inr (.inr (cb_o r33)))))), (q45, .inl (ct 2, 8, .inr (.inr (.inr (.inr (cb_o r45)))))), (q62, .inl (ct 2, 8, .inr (.inr (.inr (.inr (cb_o r62)))))), (q72, .inl (ct 3, (8, .inr (.inl (fun _ => 0))))), (q80, .inl (ct 0, (8, .inl (fun _ => 0)))), (r33 0, .inl (ct 0, 8, .inl (fun _ => 0))), (r33 1, .inl (ct 0, 8, .inl (fun _ => 0))), (r33 2, .inl (ct 0, 8, .inl (fun _ => 0))), (r33 3, .inl (ct 0, 8, .inl (fun _ => 0))), (r33 4, .inl (ct 0, 8, .inl (fun _ => 0))), (r33 5, .inl (ct 0, 8, .inl (fun _ => 0))), (r33 6, .inl (ct 0, 8, .inl (fun _ => 0))), (r33 7, .inl (ct 0, 8, .inl (fun _ => 0))), (r45 0, .inl (ct 0, 8, .inl (fun _ => 0))), (r45 1, .inl (ct 0, 8, .inl (fun _ => 0))), (r45 2, .inl (ct 0, 8, .inl (fun _ => 0))), (r45 3, .inl (ct 0, 8, .inl (fun _ => 0))), (r45 4, .inl (ct 0, 8, .inl (fun _ => 0))), (r45 5, .inl (ct 0, 8, .inl (fun _ => 0))), (r45 6, .inl (ct 0, 8, .inl (fun _ => 0))), (r45 7, .inl (ct 0, 8, .inl (fun _ => 0))), (r62 0, .inl (ct 0, 8, .inl (fun _ => 0))), (r62 1, .inl (ct 0, 8, .inl (fun _ => 0))), (r62 2, .inl (ct 0, 8, .inl (fun _ => 0))), (r62 3, .inl (ct 0, 8, .inl (fun _ => 0))), (r62 4, .inl (ct 0, 8, .inl (fun _ => 0))), (r62 5, .inl (ct 0, 8, .inl (fun _ => 0))), (r62 6, .inl (ct 0, 8, .inl (fun _ => 0))), (r62 7, .inl (ct 0, 8, .inl (fun _ => 0)))]) [0, 1, 2, 3, 4, 13, 22, 31, 32, 5, 6, 7, 8, 9, 10, 11, 12, 14, 15, 16, 17, 18, 19, 20, 21, 23, 24, 25, 26, 27, 28, 29, 30] (by decide) rfl
  have o1 : cb_o (fun i => ad (9 + i)) = cb_o r33 := cb_o_congr (fun i hi => by rw [had]; show (if 9 + i < 9 then _ else if 9 + i < 17 then r33 (9 + i - 9) else _) = _; rw [if_neg (by omega), if_pos (by omega), show 9 + i - 9 = i by omega])
  have o2 : cb_o (fun i => ad (17 + i)) = cb_o r45 := cb_o_congr (fun i hi => by rw [had]; show (if 17 + i < 9 then _ else if 17 + i < 17 then _ else if 17 + i < 25 then r45 (17 + i - 17) else _) = _; rw [if_neg (by omega), if_neg (by omega), if_pos (by omega), show 17 + i - 17 = i by omega])
  have o3 : cb_o (fun i => ad (25 + i)) = cb_o r62 := cb_o_congr (fun i hi => by rw [had]; show (if 25 + i < 9 then _ else if 25 + i < 17 then _ else if 25 + i < 25 then _ else r62 (25 + i - 25)) = _; rw [if_neg (by omega), if_neg (by omega), if_neg (by omega), show 25 + i - 25 = i by omega])
  have ew : cb_w ct ad cb_0 = [(h0, .inr (0, [.ref q7, .ref q15, .ref q23, .ref q33, .ref q45, .int (3), .ref q62, .ref q72, .ref q80])), (q7, .inl (ct 0, (8, .inl (fun _ => 0)))), (q15, .inl (ct 0, (8, .inl (fun _ => 0)))), (q23, .inl (ct 1, (8, .inl (fun _ => 0)))), (q33, .inl (ct 2, 8, .inr (.inr (.inr (.inr (cb_o r33)))))), (q45, .inl (ct 2, 8, .inr (.inr (.inr (.inr (cb_o r45)))))), (q62, .inl (ct 2, 8, .inr (.inr (.inr (.inr (cb_o r62)))))), (q72, .inl (ct 3, (8, .inr (.inl (fun _ => 0))))), (q80, .inl (ct 0, (8, .inl (fun _ => 0)))), (r33 0, .inl (ct 0, 8, .inl (fun _ => 0))), (r33 1, .inl (ct 0, 8, .inl (fun _ => 0))), (r33 2, .inl (ct 0, 8, .inl (fun _ => 0))), (r33 3, .inl (ct 0, 8, .inl (fun _ => 0))), (r33 4, .inl (ct 0, 8, .inl (fun _ => 0))), (r33 5, .inl (ct 0, 8, .inl (fun _ => 0))), (r33 6, .inl (ct 0, 8, .inl (fun _ => 0))), (r33 7, .inl (ct 0, 8, .inl (fun _ => 0))), (r45 0, .inl (ct 0, 8, .inl (fun _ => 0))), (r45 1, .inl (ct 0, 8, .inl (fun _ => 0))), (r45 2, .inl (ct 0, 8, .inl (fun _ => 0))), (r45 3, .inl (ct 0, 8, .inl (fun _ => 0))), (r45 4, .inl (ct 0, 8, .inl (fun _ => 0))), (r45 5, .inl (ct 0, 8, .inl (fun _ => 0))), (r45 6, .inl (ct 0, 8, .inl (fun _ => 0))), (r45 7, .inl (ct 0, 8, .inl (fun _ => 0))), (r62 0, .inl (ct 0, 8, .inl (fun _ => 0))), (r62 1, .inl (ct 0, 8, .inl (fun _ => 0))), (r62 2, .inl (ct 0, 8, .inl (fun _ => 0))), (r62 3, .inl (ct 0, 8, .inl (fun _ => 0))), (r62 4, .inl (ct 0, 8, .inl (fun _ => 0))), (r62 5, .inl (ct 0, 8, .inl (fun _ => 0))), (r62 6, .inl (ct 0, 8, .inl (fun _ => 0))), (r62 7, .inl (ct 0, 8, .inl (fun _ => 0)))] := by unfold cb_w; rw [o1, o2, o3, had]; rfl
  have hP : va_P (dC, dI) vwCl (cb_w ct ad cb_0) H := by rw [ew]; exact hP9
  have hD : va_D A (cb_w ct ad cb_0) := by rw [ew]; exact hD9
  have hl : lv_has ls 4 [(0, .ref (ad 0)), (1, .int 0)] := by rw [ha0]; exact lv_sub hl [1, 0] rfl
  refine lpX0_init_87 hx hb hml hown hts hin0 hK hA cb_0 (fun H locs ls hP hD hS hl => ?_) 9 0 (by decide) (by decide) _ _ ls hP hD hS hl
  exact W.vret hx hb hr (fun t ht hW => ⟨⟨ad, rfl, ha0, by rw [ht]; exact hP, va_K.moved hW.alike hK, hD⟩, hS.F ht⟩) hS.2.2 dX0_init_168
end
