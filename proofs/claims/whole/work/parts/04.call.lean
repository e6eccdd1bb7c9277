/-! Calls that may return or throw, and catching by a class that may not be resolved yet. -/
section XC
variable {l : Launch} {R : Room} {p : Program} {e : Env} {below : List Frame} {s : State} {sargs : Array Value} {y : MethodName} {m : MethodId} {meth : Method} {c : Code} {U : State} {locs : List Loc} {cells slots : Nat}
/-- what a contract says behind it: the post, the frame (both ends) -/
def xc_Q (Qc : State → Outcome → State → Prop) (fr : List Loc → Prop) (k n : Nat) : Array Value → State → Outcome → State → Prop := fun _ st o t => Qc st o t ∧ ∃ L, fr L ∧ st.WarmedH t.vm ∧ st.sameButNew ({ t with vm := st.vm } : State) L k n
def xc_M (l : Launch) (y : MethodName) (w : Cond) (rm : Room) (P : Array Value → State → Prop) (Qc : State → Outcome → State → Prop) (fr : List Loc → Prop) : Prop := MetFree l y (headSpec [w] rm) P (fun _ _ _ _ _ => True) (xc_Q Qc fr rm.cells rm.slots)
abbrev xc_T (U t : State) : State := (({ U with heap := t.heap, slotsUsed := t.slotsUsed } : State).setVm t.vm)
theorem xc_call {P : Array Value → State → Prop} {Qc : State → Outcome → State → Prop} {fr : List Loc → Prop} {w : Cond} {rm : Room} {a : Array Value}
    (X : Stand p l e R s m sargs below meth c U locs cells slots) (hM : xc_M l y w rm P Qc fr)
    {g : JFrame} (hg : g.method = m) (hsize : g.locals.size = c.maxLocals) {ig : Instr} {len : Nat} (hdg : decode c.code g.pc = .ok (ig, len))
    {mk : MethodId} {methY : Method} {cY : Code} (hn : U.methodNamed? y = some mk) (hmY : U.vm.method? mk = some methY) (hcY : methY.code = some cY)
    {kY : Class} (hkY : U.vm.classes[mk.cls]? = some kY) (hinitY : kY.init = .initialized) (hw : w.before a U = true)
    (hframes : rm.frames + 1 ≤ R.frames) (hlocals : 2 * g.monitorRoom + (g.stack.map fun v => v.category).sum + (cY.maxLocals + 11) + rm.locals ≤ R.locals)
    (h4 : cells + rm.cells ≤ R.cells) (h5 : slots + rm.slots ≤ R.slots) (hP : P a (U.calling g mk a)) :
    ∃ (o : Outcome) (t st : State) (L : List Loc), st.heap = U.heap ∧ st.vm = U.vm ∧ Qc st o t ∧ fr L ∧ Stand p l e R s m sargs below meth c (xc_T U t) (locs ++ L) (cells + rm.cells) (slots + rm.slots) ∧
      (∀ v, o = .returned v → Steps p.tables e below (doInvoke e (U.setTop g) [] mk a).1 ((xc_T U t).setTop { g with pc := g.pc + len, stack := v.toList ++ g.stack })) ∧
      (∀ x, o = .threw x → Steps p.tables e below (doInvoke e (U.setTop g) [] mk a).1 (((xc_T U t).setTop g).pushFrame (.throwing x))) := by
  have h : At U g.method c below := by rw [hg]; exact X.here
  have hpre : (headSpec [w] rm).pre.before a U = true := atoms_intro (ws := [w]) (fun c hc => by rw [List.mem_singleton.mp hc]; exact hw)
  have happ : (headSpec [w] rm).appliesLoose y e.platform (U.calling g mk a) = true :=
    Spec.appliesLoose_calling (g := g) h hdg hn hkY hinitY (X.room_calling (g := g) (R' := rm) hsize hmY hcY hframes hlocals h4 h5) hpre
  obtain ⟨mid, hmid⟩ := h.above
  have hfr : (U.setTop g).frames = (.java g :: mid) ++ below := by rw [State.frames_setTop' g h.top, hmid]; rfl
  obtain ⟨o, s₂, hsteps, -, hend, hq⟩ := Steps.callFree hM p X.admits X.cas X.clock (acts := []) hfr happ hP trivial
  have hq' : xc_Q Qc fr rm.cells rm.slots a (U.calling g mk a) o s₂ := hq
  rw [State.frames_setTop' g h.top] at hend
  obtain ⟨hQ, L, hL, hW₂, hsb⟩ := hq'
  obtain ⟨e2, q2, q3, q4, q5, q6⟩ := id hsb
  have e3 : s₂ = ({ (U.calling g mk a).setFrames s₂.frames with heap := s₂.heap, slotsUsed := s₂.slotsUsed } : State).setVm s₂.vm := by
    have : s₂ = ({ s₂ with vm := (U.calling g mk a).vm } : State).setVm s₂.vm := rfl
    rw [e2] at this
    exact this
  have hW' : U.WarmedH s₂.vm := hW₂
  obtain ⟨g₀, hg0⟩ := Option.isSome_iff_exists.mp h.top
  obtain ⟨r, hr⟩ := State.topJava?_eq_some.mp hg0
  have hr' : (xc_T U s₂).frames = .java g₀ :: r := hr
  have hsame : U.sameButNew ({ U with heap := s₂.heap, slotsUsed := s₂.slotsUsed } : State) L rm.cells rm.slots := by
    refine ⟨?_, q2, q3, q4, q5, q6⟩
    obtain ⟨t, ht, -⟩ := State.frames_cons hr
    show ({ U with heap := s₂.heap, slotsUsed := s₂.slotsUsed } : State) = { U.setFrames U.frames with heap := s₂.heap, slotsUsed := s₂.slotsUsed }
    rw [State.setFrames_self ht]
  refine ⟨o, s₂, U.calling g mk a, L, rfl, rfl, hQ, hL,
    ⟨X.admits, X.cas, X.clock, X.frames, X.room, X.hears, X.method, X.code, (X.here.setHeapUsed s₂.heap s₂.slotsUsed).setVm hW'.alike, X.tail, State.WarmedH.trans X.warmed hW', X.limits, X.bytes, X.same.trans (hsame.setVm s.vm)⟩, ?_, ?_⟩
  · intro v hv
    subst hv
    obtain ⟨c₂, i₂, len₂, hc₂, hd₂, hf₂⟩ := hend
    have hcc : c₂ = c := by
      have h1 : s₂.code? g.method = U.code? g.method := by
        rw [State.code?_eq, State.code?_eq, hW'.alike.method?]
      exact Option.some.inj (hc₂.symm.trans (h1.trans h.code))
    subst hcc
    have hlen : len₂ = len := by rw [hdg] at hd₂; cases hd₂; rfl
    subst hlen
    have hs₂ : s₂ = (xc_T U s₂).setTop { g with pc := g.pc + len₂, stack := v.toList ++ g.stack } := by
      refine e3.trans ?_
      rw [hf₂, State.calling_eq h.top, State.setFrames_setFrames, State.setTop_of_frames _ hr', hr]
      rfl
    rw [← hs₂]
    exact hsteps
  · intro x hx
    subst hx
    have hf₂ : s₂.frames = .throwing x :: .java g :: U.frames.tail := hend
    have hs₂ : s₂ = ((xc_T U s₂).setTop g).pushFrame (.throwing x) := by
      refine e3.trans ?_
      rw [hf₂, State.calling_eq h.top, State.setFrames_setFrames, State.pushFrame, State.frames_setTop _ hr', State.setTop_of_frames _ hr', State.setFrames_setFrames, hr]
      rfl
    rw [← hs₂]
    exact hsteps
/-- the entries of a table lead to the handler t for a thing of the class cc -/
def xc_P (vm : Vm) (pl : Platform) (d : ClassId) (pc : Nat) (cc : ClassId) (t : Nat) : List ExceptionTableEntry → Prop
  | [] => False
  | x :: r => (covers x pc = false ∧ xc_P vm pl d pc cc t r) ∨ (covers x pc = true ∧ x.catchType ≠ 0 ∧ ∃ k : ClassId, vm.ClassLinks pl d x.catchType k ∧ (∃ q, vm.classes[k]? = some q) ∧
      ((vm.assignable cc k = true ∧ t = x.handlerPc) ∨ (vm.assignable cc k = false ∧ xc_P vm pl d pc cc t r)))
theorem xc_one {T : State} {f : JFrame} {a : Addr} {x : ExceptionTableEntry} {r : List ExceptionTableEntry} {k : ClassId} {vm' : Vm} {cell : Cell} (hx : covers x f.pc = true) (h0 : x.catchType ≠ 0)
    (hgv : (Jvm.resolveClass f.method.cls x.catchType).Gives e.toSetting T.vm (.ok k) vm') (hsz : vm'.classes.size ≤ T.vm.classes.size) (hcell : T.heap[a]? = some cell) (hobj : ∀ z, cell.vm ≠ .statics z)
    (hk : ∃ q, vm'.classes[cell.cls]? = some q) (hkk : ∃ q, vm'.classes[k]? = some q) {Q : Handler → Pre} {E : CtlPost} {d : Bool} {acts : List Action} :
    wp (findHandler.go f a (x :: r)) Q E e d acts T ↔ if vm'.assignable cell.cls k = true then Q (.found x.handlerPc) d acts (T.setVm vm') else wp (findHandler.go f a r) Q E e d acts (T.setVm vm') := by
  simp only [covers] at hx
  obtain ⟨ha, ht⟩ := hgv.op (op := VmOp.resolveClass f.method.cls x.catchType) rfl
  have hcell' : (T.setVm vm').heap[a]? = some cell := hcell
  cases hfit : vm'.assignable cell.cls k <;>
    simp [findHandler.go, hx, h0, ha, ht, hsz, hcell, hcell', hobj, hk, hkk, hfit, VmOp.dirties, VmOp.acts]
theorem xc_search {s₁ : State} {f : JFrame} {a : Addr} {cell : Cell} {t : Nat} (hobj : ∀ z, cell.vm ≠ .statics z) (hkc : ∃ q, s₁.vm.classes[cell.cls]? = some q) :
    ∀ (rows : List ExceptionTableEntry) (T : State), xc_P s₁.vm e.platform f.method.cls f.pc cell.cls t rows → s₁.WarmedH T.vm → T.heap[a]? = some cell →
    ∃ vm' : Vm, s₁.WarmedH vm' ∧ ∀ (Q : Handler → Pre) (E : CtlPost) (d : Bool) (acts : List Action), wp (findHandler.go f a rows) Q E e d acts T ↔ Q (.found t) d acts (T.setVm vm') := by
  intro rows
  induction rows with
  | nil => intro T h; exact h.elim
  | cons x r ih =>
    intro T h hW hcell
    rcases h with ⟨hx, h⟩ | ⟨hx, h0, k, hl, ⟨q, hq⟩, h⟩
    · obtain ⟨vm', hW', hgo⟩ := ih T h hW hcell
      exact ⟨vm', hW', fun Q E d acts => by rw [W.findHandler_go_skip hx]; exact hgo Q E d acts⟩
    · obtain ⟨hg₁, hwarm₁, -⟩ := State.classEntry (e := e) hW hl
      obtain ⟨kc, hkc⟩ := hkc
      obtain ⟨k1, hk1, -⟩ := hwarm₁.alike.2.2 _ _ hkc
      obtain ⟨k2, hk2, -⟩ := hwarm₁.alike.2.2 _ _ hq
      have hfit : (T.vm.noted f.method.cls x.catchType (.cls k)).assignable cell.cls k = s₁.vm.assignable cell.cls k := by
        first | exact (hwarm₁.alike.assignable _ _) | exact (hwarm₁.alike.assignable _ _).symm | (rw [hwarm₁.alike.assignable]) 
      have hsz : (T.vm.noted f.method.cls x.catchType (.cls k)).classes.size ≤ T.vm.classes.size := by simp
      rcases h with ⟨hf, rfl⟩ | ⟨hf, h⟩
      · refine ⟨_, hwarm₁, fun Q E d acts => ?_⟩
        rw [xc_one (cell := cell) hx h0 hg₁ hsz hcell hobj ⟨_, hk1⟩ ⟨_, hk2⟩, if_pos (by rw [hfit]; exact hf)]
      · obtain ⟨vm', hW', hgo⟩ := ih (T.setVm (T.vm.noted f.method.cls x.catchType (.cls k))) h hwarm₁ hcell
        refine ⟨vm', hW', fun Q E d acts => ?_⟩
        rw [xc_one (cell := cell) hx h0 hg₁ hsz hcell hobj ⟨_, hk1⟩ ⟨_, hk2⟩, if_neg (by rw [hfit, hf]; decide), hgo Q E d acts]
        rfl
/-- a thrown thing is caught in the walked method -/
theorem xc_catch (X : Stand p l e R s m sargs below meth c U locs cells slots) {x : Addr} {g : JFrame} (hg : g.method = m) {cell : Cell} (hcell : U.heap[x]? = some cell) (hobj : ∀ z, cell.vm ≠ .statics z)
    (hkc : ∃ q, s.vm.classes[cell.cls]? = some q) {t : Nat} (hrows : xc_P s.vm e.platform m.cls g.pc cell.cls t c.exceptionTable.toList) :
    ∃ vm' : Vm, Stand p l e R s m sargs below meth c (U.setVm vm') locs cells slots ∧
      ∀ target, Steps p.tables e below ((U.setVm vm').setTop { g with pc := t, stack := [.ref x] }) target → Steps p.tables e below ((U.setTop g).pushFrame (.throwing x)) target := by
  subst hg
  have hv : ((U.setTop g).pushFrame (.throwing x)).vm = U.vm := Stand.throwing_vm U g x
  have hh : ((U.setTop g).pushFrame (.throwing x)).heap = U.heap := Stand.throwing_heap U g x
  obtain ⟨vm', hW', hgo⟩ := xc_search (s₁ := s) (f := g) (a := x) (t := t) hobj hkc _ ((U.setTop g).pushFrame (.throwing x)) hrows (by rw [hv]; exact X.warmed) (by rw [hh]; exact hcell)
  have hmeth : ((U.setTop g).pushFrame (.throwing x)).vm.method? g.method = some meth := by rw [hv]; exact X.method'
  have hfind : ∀ (Q : Handler → Pre) (E : CtlPost) (d : Bool) (acts : List Action), wp (findHandler g x) Q E e d acts ((U.setTop g).pushFrame (.throwing x)) ↔ Q (.found t) d acts (((U.setTop g).pushFrame (.throwing x)).setVm vm') :=
    fun Q E d acts => (W.findHandler_eq hmeth X.code).trans (hgo Q E d acts)
  refine ⟨vm', X.noted hW', fun target hrest => ?_⟩
  have h : At U g.method c below := X.here
  obtain ⟨hgo2, hw⟩ := h.throwing x
  refine Steps.head hgo2 hw ?_
  obtain ⟨g₀, hg0⟩ := Option.isSome_iff_exists.mp h.top
  obtain ⟨r, hr⟩ := State.topJava?_eq_some.mp hg0
  have hstep : (stepThrowing e ((U.setTop g).pushFrame (.throwing x)) x (.java g :: U.frames.tail)).1 = (((U.setTop g).pushFrame (.throwing x)).setVm vm').setFrames (.java { g with pc := t, stack := [.ref x] } :: U.frames.tail) := by
    simp only [stepThrowing, searchFrame, vmDo]
    generalize hr2 : Sem.go _ e false [] ((U.setTop g).pushFrame (.throwing x)) = res
    obtain ⟨as, rfl, ha⟩ := Sem.eq_ok_of hr2 (a := Handler.found t) (s' := ((U.setTop g).pushFrame (.throwing x)).setVm vm') (acts' := []) (by simp [hfind _ _ _ _])
    rfl
  rw [stepThread_throwing (frames_entered h.top _), hstep]
  have hr' : (U.setVm vm').frames = .java g₀ :: r := hr
  rw [State.setTop_of_frames _ hr'] at hrest
  have e9 : ∀ A B : List Frame, ((U.setFrames A).setVm vm').setFrames B = (U.setVm vm').setFrames B := by
    intro A B
    show ((U.setVm vm').setFrames A).setFrames B = _
    rw [State.setFrames_setFrames]
  rw [State.pushFrame, State.setTop_of_frames _ hr, State.setFrames_setFrames, hr, e9]
  exact hrest
/-- the invoking instruction leads to the callee's invocation -/
def xc_I (p : Program) (l : Launch) (e : Env) (R : Room) (s : State) (m : MethodId) (sargs : Array Value) (below : List Frame) (meth : Method) (c : Code) (T : State) (locs : List Loc) (cells slots : Nat) (g : JFrame) (rest : List Value) (y : MethodName) (a : Array Value) : Prop :=
  ∃ (mk : MethodId) (vm₁ : Vm), s.WarmedH vm₁ ∧ Stand p l e R s m sargs below meth c (T.setVm vm₁) locs cells slots ∧ s.methodNamed? y = some mk ∧
    ∀ target, Steps p.tables e below (doInvoke e ((T.setVm vm₁).setTop { g with stack := rest }) [] mk a).1 target → Steps p.tables e below (T.setTop g) target
/-- a method by its word: with or without handlers -/
def xc_Y (s : State) (y : MethodName) (maxL : Nat) : Prop := ∃ (mk : MethodId) (methY : Method) (cY : Code), s.methodNamed? y = some mk ∧ s.vm.method? mk = some methY ∧ methY.code = some cY ∧ cY.maxLocals = maxL ∧ parseMethodDescriptor y.desc = some methY.sig
theorem xc_Y.code {sargs : Array Value} {bytes : ByteArray} {maxL : Nat} {ret : Option FieldType} (h : (Cond.code y bytes maxL ret).before sargs s = true) : xc_Y s y maxL := by
  obtain ⟨mk, hn⟩ := Cond.code_named h
  obtain ⟨methM, cM, h1, h2, -, h3, -, -, -, h4⟩ := Cond.code_spec hn h
  exact ⟨mk, methM, cM, hn, h1, h2, h3, h4⟩
theorem xc_Y.codeWith {sargs : Array Value} {bytes : ByteArray} {maxL : Nat} {ret : Option FieldType} {hh : List (Nat × Nat × Nat × Nat)} (h : (Cond.codeWith y bytes maxL ret hh).before sargs s = true) : xc_Y s y maxL := by
  obtain ⟨mk, methM, cM, hn, h1, h2, -, h3, -, -, -, h4⟩ := Cond.codeWith_spec h
  exact ⟨mk, methM, cM, hn, h1, h2, h3, h4⟩
/-- a link, plain or to a nest mate's private member -/
def xc_K (s : State) (sargs : Array Value) (own : String) (index : Nat) (y : MethodName) : Prop := (Cond.methodLink own index y).before sargs s = true ∨ ∃ host : String, (Cond.methodLinkNest own index y host).before sargs s = true
theorem xc_iV (X : Stand p l e R s m sargs below meth c U locs cells slots) (hexec : p.tables.exec = Jvm.exec) {own C : String} {index maxL : Nat} (hown : s.vm.findClass own = some m.cls) (hlink : xc_K s sargs own index y)
    (hinst : (Cond.instanceMethod y).before sargs s = true) (hsel : (Cond.selects C y y).before sargs s = true) (hY : xc_Y s y maxL) (hy : y.cls ≠ "java/lang/invoke/MethodHandle" ∧ y.cls ≠ "java/lang/invoke/VarHandle")
    {b : Addr} {cellB : Cell} (hcell : U.heap[b]? = some cellB) (hobj : cellB.vm.isStatics = false) (hcls : s.vm.findClass C = some cellB.cls)
    {g : JFrame} (hg : g.method = m) {argsL rest : List Value} {n : Nat} (hn : (parseMethodDescriptor y.desc).map (fun d => d.parameters.length) = some n) (hlen : argsL.length = n)
    (hstack : g.stack = argsL.reverse ++ .ref b :: rest) (hdg : decode c.code g.pc = .ok (.invokevirtual index, 3)) :
    xc_I p l e R s m sargs below meth c U locs cells slots g rest y (Value.ref b :: argsL).toArray := by
  obtain ⟨mk, methM, hnamed, hmethM, hstM, habM⟩ := Cond.instanceMethod_spec hinst
  obtain ⟨mk2, methM', cM, hn2, hm2, -, -, hsigM⟩ := hY
  cases hnamed.symm.trans hn2
  cases hmethM.symm.trans hm2
  have hl : argsL.length = methM.sig.parameters.length := by
    rw [hsigM] at hn
    exact hlen.trans (Option.some.inj hn).symm
  obtain ⟨c2, r2, m2, q1, q2, q3, q4, kP, hkP, hkPi⟩ := Cond.selects_spec hsel
  cases hcls.symm.trans q1
  cases (State.methodFound?_of_named hnamed hy).symm.trans q2
  cases hnamed.symm.trans q3
  have hselP : selectMethod e.platform s.vm cellB.cls mk = .method mk := by rw [Launch.admits_selectMethod X.admits]; exact q4
  rcases hlink with hlink | ⟨host, hlink⟩
  · obtain ⟨vm₁, X₁, hstep₁⟩ := X.invokevirtual hexec hown hlink hnamed hmethM hstM hkP hkPi hy (a := b) (cell := cellB) hcell
      (fun z h => by rw [h] at hobj; cases hobj) hselP hmethM habM hkP hkPi (g := g) hg (argsL := argsL) (rest := rest) hl hstack hdg
    exact ⟨mk, vm₁, X₁.warmed, X₁, hnamed, fun target h => hstep₁ _ fun acts => by rw [doInvoke_state]; exact h⟩
  · obtain ⟨vm₁, X₁, hstep₁⟩ := X.invokevirtualNest hexec hown hlink hnamed hmethM hstM hkP hkPi hy (a := b) (cell := cellB) hcell
      (fun z h => by rw [h] at hobj; cases hobj) hselP hmethM habM hkP hkPi (g := g) hg (argsL := argsL) (rest := rest) hl hstack hdg
    exact ⟨mk, vm₁, X₁.warmed, X₁, hnamed, fun target h => hstep₁ _ fun acts => by rw [doInvoke_state]; exact h⟩
theorem xc_iS (X : Stand p l e R s m sargs below meth c U locs cells slots) (hexec : p.tables.exec = Jvm.exec) {own : String} {index maxL : Nat} (hown : s.vm.findClass own = some m.cls) (hlink : xc_K s sargs own index y)
    (hstat : (Cond.static y).before sargs s = true) (hinit : (Cond.initialized y.cls).before sargs s = true) (hY : xc_Y s y maxL) (hy : y.cls ≠ "java/lang/invoke/MethodHandle" ∧ y.cls ≠ "java/lang/invoke/VarHandle")
    {g : JFrame} (hg : g.method = m) {argsL rest : List Value} {n : Nat} (hn : (parseMethodDescriptor y.desc).map (fun d => d.parameters.length) = some n) (hlen : argsL.length = n)
    (hstack : g.stack = argsL.reverse ++ rest) (hdg : decode c.code g.pc = .ok (.invokestatic index, 3)) :
    xc_I p l e R s m sargs below meth c U locs cells slots g rest y argsL.toArray := by
  obtain ⟨mk, methM, cM, hnamed, hmethM, -, -, hsigM⟩ := hY
  have hl : argsL.length = methM.sig.parameters.length := by
    rw [hsigM] at hn
    exact hlen.trans (Option.some.inj hn).symm
  have hstatic : methM.isStatic = true := Cond.static_spec hnamed hmethM hstat
  obtain ⟨kP, hkP, -⟩ := className_of_methodNamed hnamed
  have hinitP : kP.init = .initialized := Cond.initialized_spec (findClass_of_methodNamed hnamed) hkP hinit
  rcases hlink with hlink | ⟨host, hlink⟩
  · obtain ⟨vm₁, X₁, hstep₁⟩ := X.invokestatic hexec hown hlink hnamed hmethM hstatic hkP hinitP hy (g := g) hg (argsL := argsL) (rest := rest) hl hstack hdg
    exact ⟨mk, vm₁, X₁.warmed, X₁, hnamed, fun target h => hstep₁ _ fun acts => by rw [doInvoke_state]; exact h⟩
  · obtain ⟨vm₁, X₁, hstep₁⟩ := X.invokestaticNest hexec hown hlink hnamed hmethM hstatic hkP hinitP hy (g := g) hg (argsL := argsL) (rest := rest) hl hstack hdg
    exact ⟨mk, vm₁, X₁.warmed, X₁, hnamed, fun target h => hstep₁ _ fun acts => by rw [doInvoke_state]; exact h⟩
theorem xc_iI (X : Stand p l e R s m sargs below meth c U locs cells slots) (hexec : p.tables.exec = Jvm.exec) {own : String} {index maxL : Nat} {bytes : ByteArray} (hown : s.vm.findClass own = some m.cls) (hlink : xc_K s sargs own index y) (hy1 : y.name = "<init>")
    (hinst : (Cond.instanceMethod y).before sargs s = true) (hcode : (Cond.code y bytes maxL none).before sargs s = true) (hy : y.cls ≠ "java/lang/invoke/MethodHandle" ∧ y.cls ≠ "java/lang/invoke/VarHandle")
    {g : JFrame} (hg : g.method = m) {b : Addr} {argsL rest : List Value} {n : Nat} (hn : (parseMethodDescriptor y.desc).map (fun d => d.parameters.length) = some n) (hlen : argsL.length = n)
    (hstack : g.stack = argsL.reverse ++ .ref b :: rest) (hdg : decode c.code g.pc = .ok (.invokespecial index, 3)) :
    xc_I p l e R s m sargs below meth c U locs cells slots g rest y (Value.ref b :: argsL).toArray := by
  subst hg
  have hpl : e.platform.magicAccessors = ({} : Platform).magicAccessors := by rw [X.admits.platform]
  have hl : ∀ sig, parseMethodDescriptor y.desc = some sig → argsL.length = sig.parameters.length := by
    intro sig h
    rw [h] at hn
    exact hlen.trans (Option.some.inj hn).symm
  rcases hlink with hlink | ⟨host, hlink⟩
  · obtain ⟨mk, methM, cM, kP, vm₁, hnamed, hmethM, hcodeM, -, hlocalsM, -, hkP, -, hW₁, hstep₁⟩ := Steps.initColdArgs (e := e) X.here hexec X.warmed hpl hown hy1 hy hlink hinst hcode (f := g) rfl hl hstack hdg
    exact ⟨mk, vm₁, hW₁, X.noted hW₁, hnamed, fun target h => hstep₁ _ fun acts => by rw [doInvoke_state]; exact h⟩
  · obtain ⟨mk, methM, cM, kP, vm₁, hnamed, hmethM, hcodeM, -, hlocalsM, -, hkP, -, hW₁, hstep₁⟩ := Steps.initColdArgsNest (e := e) X.here hexec X.warmed hpl hown hy1 hy hlink hinst hcode (f := g) rfl hl hstack hdg
    exact ⟨mk, vm₁, hW₁, X.noted hW₁, hnamed, fun target h => hstep₁ _ fun acts => by rw [doInvoke_state]; exact h⟩
/-- a call in a walk: it comes back, or what it throws is caught -/
theorem xc_W {H : Heap} {Q : State → Prop} {P : Array Value → State → Prop} {Qc : State → Outcome → State → Prop} {fr : List Loc → Prop} {w : Cond} {rm : Room} {a : Array Value} {g : JFrame} {rest : List Value} {maxL : Nat} {ig : Instr}
    (hI : ∀ T : State, T.heap = H → Stand p l e R s m sargs below meth c T locs cells slots → xc_I p l e R s m sargs below meth c T locs cells slots g rest y a)
    (hM : xc_M l y w rm P Qc fr) (hg : g.method = m) (hsize : g.locals.size = c.maxLocals) (hdg : decode c.code g.pc = .ok (ig, 3)) (hY : xc_Y s y maxL)
    (hini : (Cond.initialized y.cls).before sargs s = true) (hw : ∀ U : State, s.WarmedH U.vm → w.before a U = true)
    (hframes : rm.frames + 1 ≤ R.frames) (hlocals : 2 * g.monitorRoom + (rest.map fun v => v.category).sum + (maxL + 11) + rm.locals ≤ R.locals)
    (h4 : cells + rm.cells ≤ R.cells) (h5 : slots + rm.slots ≤ R.slots) (hP : ∀ (U : State), U.heap = H → s.WarmedH U.vm → P a U)
    (kk : ∀ (st t : State) (v : Option Value) (L : List Loc), st.heap = H → Qc st (.returned v) t → s.WarmedH t.vm → fr L → W p l e R s m sargs below meth c t.heap (locs ++ L) (cells + rm.cells) (slots + rm.slots) Q { g with pc := g.pc + 3, stack := v.toList ++ rest })
    (kx : ∀ (st t : State) (x : Addr) (L : List Loc), st.heap = H → Qc st (.threw x) t → s.WarmedH t.vm → fr L → ∃ (cell : Cell) (pc' : Nat), t.heap[x]? = some cell ∧ (∀ z, cell.vm ≠ .statics z) ∧ (∃ q, s.vm.classes[cell.cls]? = some q) ∧ xc_P s.vm e.platform m.cls g.pc cell.cls pc' c.exceptionTable.toList ∧
      W p l e R s m sargs below meth c t.heap (locs ++ L) (cells + rm.cells) (slots + rm.slots) Q { g with pc := pc', stack := [.ref x] }) :
    W p l e R s m sargs below meth c H locs cells slots Q g := by
  intro T hT X
  obtain ⟨mk, vm₁, hW₁, X₁, hn, hstep⟩ := hI T hT X
  obtain ⟨mk2, methY, cY, hn2, hm2, hc2, hl2, -⟩ := hY
  cases hn.symm.trans hn2
  have hal : s.vm.Alike vm₁ := hW₁.alike
  have hmY : (T.setVm vm₁).vm.method? mk = some methY := by
    show vm₁.method? mk = some methY
    rw [hal.method?]; exact hm2
  have hnU : (T.setVm vm₁).methodNamed? y = some mk := X₁.named hn
  obtain ⟨kY, hkY, -⟩ := className_of_methodNamed hn
  have hiY : kY.init = .initialized := Cond.initialized_spec (findClass_of_methodNamed hn) hkY hini
  obtain ⟨k2, hk2, hek⟩ := hal.2.2 _ _ hkY
  obtain ⟨o, t, st, L, e1, e2, hQ, hL, X₂, hr, hx⟩ := xc_call X₁ hM (g := { g with stack := rest }) hg hsize hdg hnU hmY hc2 (kY := k2) hk2 (by rw [hek]; exact hiY) (hw (T.setVm vm₁) hW₁) hframes (by rw [hl2]; exact hlocals) h4 h5 (hP _ hT hW₁)
  have e1' : st.heap = H := e1.trans hT
  have hWt : s.WarmedH t.vm := X₂.warmed
  cases o with
  | returned v =>
    obtain ⟨t2, a2, b2⟩ := kk st t v L e1' hQ hWt hL (xc_T (T.setVm vm₁) t) rfl X₂
    exact ⟨t2, hstep _ ((hr v rfl).trans a2), b2⟩
  | threw x =>
    obtain ⟨cell, pc', hcell, hobj, hkc, hrows, hk⟩ := kx st t x L e1' hQ hWt hL
    obtain ⟨vm', X₃, hcatch⟩ := xc_catch X₂ (x := x) (g := { g with stack := rest }) hg (cell := cell) hcell hobj hkc hrows
    obtain ⟨t2, a2, b2⟩ := hk ((xc_T (T.setVm vm₁) t).setVm vm') rfl X₃
    exact ⟨t2, hstep _ ((hx x rfl).trans (hcatch _ a2)), b2⟩
end XC
