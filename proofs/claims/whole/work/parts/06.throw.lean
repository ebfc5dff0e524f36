/-! methods that throw: what is known where one has thrown; a call that throws, let through or caught -/
def tx_End (first t : State) (L : List Loc) (k n : Nat) : Prop := first.WarmedH t.vm ∧ first.sameButNew ({ t with vm := first.vm } : State) L k n
def tx_Z (below : List Frame) (Qc : Array Value → State → Addr → State → Prop) (a : Array Value) (s : State) (mc ms : Nat) (free : Addr → Prop) : State → Prop := fun t =>
  ∃ x, t.status = .running ∧ Ended t below (.threw x) ∧ Qc a s x t ∧ ∃ L, tx_End s t L mc ms ∧ ∀ q ∈ L, free q.base
/-- the contract of a method that throws -/
def MetT (l : Launch) (y : MethodName) (ws : List Cond) (rm : Room) (Pc : Array Value → State → Prop) (Qc : Array Value → State → Addr → State → Prop) (mc ms : Nat) (free : Addr → Prop) : Prop :=
  MetFree l y (headSpec ws rm) Pc (fun _ _ _ _ _ => True) (fun a st o t => ∃ x, o = .threw x ∧ Qc a st x t ∧ ∃ L, tx_End st t L mc ms ∧ ∀ q ∈ L, free q.base)
theorem MetT.ofW {l : Launch} {y : MethodName} {ws ws' : List Cond} {rm : Room} {Pc : Array Value → State → Prop} {Qc : Array Value → State → Addr → State → Prop} {mc ms : Nat} {free : Addr → Prop} {cc : ByteArray} {maxL : Nat} {ret : Option FieldType}
    (hy : plainName y.cls = true) (hw : ws = Cond.code y cc maxL ret :: ws')
    (body : ∀ p e s m args below meth c s₁, BodyLoose p l y (headSpec ws rm) cc maxL ret e s m args below meth c s₁ → c.maxLocals = maxL → Pc args s →
      W p l e (headSpec ws rm).room s m args below meth c s.heap [] 0 0 (tx_Z below Qc args s mc ms free) (entryFrame m args maxL)) : MetT l y ws rm Pc Qc mc ms free := by
  refine MetFree.of_bodyS (code := cc) (maxLocals := maxL) (ret := ret) hy ?_ ?_
  · intro args s m h hn
    obtain ⟨meth, c, h1, h2, h3, h4, h5, h6, -, -⟩ := Cond.code_spec hn (atoms_spec (ws := ws) h _ (by rw [hw]; exact List.mem_cons_self))
    exact ⟨meth, c, h1, h2, h3, h4, h5, h6⟩
  · intro p e s m args below meth c s₁ B hml hP _
    have hh0 : s₁.heap = s.heap := by rw [B.state]; rfl
    obtain ⟨t, a1, x, b1, b2, b3, b4⟩ := body p e s m args below meth c s₁ B hml hP s₁ hh0 (Stand.of_body B)
    exact ⟨t, .threw x, a1, b1, b2, x, rfl, b3, b4⟩
/-- what stands where a method has thrown: nothing old has changed, and an object of the class E is in flight -/
def tx_Q (E : String) : Array Value → State → Addr → State → Prop := fun _ st x t =>
  va_F (fun q => st.heap.size ≤ q) st t ∧ ∃ ce : Cell, t.heap[x]? = some ce ∧ ce.vm = .none ∧ t.vm.findClass E = some ce.cls
section TX
variable {p : Program} {l : Launch} {e : Env} {R : Room} {s : State} {m : MethodId} {args : Array Value} {below : List Frame} {meth : Method} {c : Code} {H : Heap} {locs : List Loc} {cells slots : Nat} {Q : State → Prop}
/-- the walk with x in flight over the frame g -/
def tx_W (p : Program) (l : Launch) (e : Env) (R : Room) (s : State) (m : MethodId) (args : Array Value) (below : List Frame) (meth : Method) (c : Code) (H : Heap) (locs : List Loc) (cells slots : Nat) (Q : State → Prop) (g : JFrame) (x : Addr) : Prop :=
  ∀ T : State, T.heap = H → Stand p l e R s m args below meth c T locs cells slots → ∃ t, Steps p.tables e below ((T.setTop g).pushFrame (.throwing x)) t ∧ Q t
theorem tx_call {T : State} (X : Stand p l e R s m args below meth c T locs cells slots) {y : MethodName} {ws : List Cond} {rm : Room} {Pc : Array Value → State → Prop} {Qc : Array Value → State → Addr → State → Prop} {mc ms : Nat} {free : Addr → Prop} {bytes : ByteArray} {maxL : Nat} {ret : Option FieldType}
    (hM : MetT l y ws rm Pc Qc mc ms free) (hblind : FrameBlind Pc) (hrc : rm.cells = mc) (hrs : rm.slots = ms) (hframes : rm.frames + 1 ≤ R.frames) (hlocals : 8 + (maxL + 11) + rm.locals ≤ R.locals)
    (hws : ∀ w ∈ ws, ∀ (a' : Array Value) (U : State), s.WarmedH U.vm → w.before a' U = true) (hcode : Cond.code y bytes maxL ret ∈ ws) (hinit : (Cond.initialized y.cls).before args s = true)
    {g : JFrame} (hg : g.method = m) (hsize : g.locals.size = c.maxLocals) {ig : Instr} {len : Nat} (hdg : decode c.code g.pc = .ok (ig, len)) (hW : 2 * g.monitorRoom + (g.stack.map fun v => v.category).sum ≤ 8)
    {mk : MethodId} (hn : T.methodNamed? y = some mk) {a : Array Value} (hf : cells + mc ≤ R.cells ∧ slots + ms ≤ R.slots) (hp : Pc a T) :
    ∃ (x : Addr) (st t T' : State) (L : List Loc), st.heap = T.heap ∧ Stand p l e R s m args below meth c T' (locs ++ L) (cells + mc) (slots + ms) ∧ (∀ q ∈ L, free q.base) ∧ T'.heap = t.heap ∧ T'.vm = t.vm ∧ Qc a st x t ∧
      Steps p.tables e below (doInvoke e (T.setTop g) [] mk a).1 ((T'.setTop g).pushFrame (.throwing x)) := by
  have h2 : (Cond.code y bytes maxL ret).before a T = true := hws _ hcode _ _ X.warmed
  have h3 : (Cond.initialized y.cls).before a T = true := word_at X.warmed (Or.inl (by first | rfl | simp [Cond.onTables, Cond.keeps, Cond.steady])) hinit
  obtain ⟨methY, cY, hmY, hcY, -, hlY, -, -, -, -⟩ := Cond.code_spec hn h2
  obtain ⟨kY, hkY, -⟩ := className_of_methodNamed hn
  have hinitY : kY.init = .initialized := Cond.initialized_spec (findClass_of_methodNamed hn) hkY h3
  have hAt : At T g.method c below := by rw [hg]; exact X.here
  have happ : (headSpec ws rm).appliesLoose y e.platform (T.calling g mk a) = true :=
    Spec.appliesLoose_calling (g := g) hAt hdg hn hkY hinitY
      (X.room_calling (g := g) (R' := rm) hsize hmY hcY hframes (by rw [hlY]; omega) (by rw [hrc]; exact hf.1) (by rw [hrs]; exact hf.2)) (atoms_intro fun w hw => hws w hw _ _ X.warmed)
  obtain ⟨mid, hmid⟩ := hAt.above
  have hfr : (T.setTop g).frames = (.java g :: mid) ++ below := by rw [State.frames_setTop' g hAt.top, hmid]; rfl
  obtain ⟨o, s₂, hsteps, -, hend, x, ho, hq, L, ⟨hWe, hsame⟩, hL⟩ := Steps.callFree hM p X.admits X.cas X.clock (acts := []) hfr happ (hblind _ _ g mk hp) trivial
  subst ho
  rw [State.frames_setTop' g hAt.top, X.tail] at hend
  obtain ⟨T', X', hW', hsame', ht⟩ := X.outOfThrown hg hend hWe hsame
  refine ⟨x, T.calling g mk a, s₂, T', L, ?_, X', hL, ?_, ?_, hq, ?_⟩
  · rw [State.calling_eq X.here.top]; rfl
  · rw [ht]; exact (Stand.throwing_heap T' g x).symm
  · rw [ht]; exact (Stand.throwing_vm T' g x).symm
  · rw [← ht]; exact hsteps
variable {y : MethodName} {bytes cc : ByteArray} {maxL nL mc ms n index : Nat} {ret : Option FieldType} {ws : List Cond} {rm : Room} {Pc : Array Value → State → Prop} {Qc : Array Value → State → Addr → State → Prop} {free : Addr → Prop} {Ts : List Cond} {own C : String} {b : Addr} {As rest : List Value} {g : JFrame}
/-- a call by the object's class that throws -/
theorem tx_runV (S : CallFix p m c cc nL s args Ts own) (hM : MetT l y ws rm Pc Qc mc ms free) (cw : CallW R s args own C index y bytes maxL ret ws rm mc ms n) (hp : PreV s H C b Pc As)
    (hg : g.method = m) (hn : As.length = n) (hsize : g.locals.size = nL) (hstack : g.stack = As.reverse ++ .ref b :: rest) (hW : 2 * g.monitorRoom + (rest.map fun v => v.category).sum ≤ 8) (hdg : decode cc g.pc = .ok (.invokevirtual index, 3)) (hf : cells + mc ≤ R.cells ∧ slots + ms ≤ R.slots)
    (kk : ∀ (x : Addr) (st t : State) (H1 : Heap) (L : List Loc), st.heap = H → t.heap = H1 → s.vm.Alike t.vm → Qc (Value.ref b :: As).toArray st x t → (∀ q ∈ L, free q.base) → tx_W p l e R s m args below meth c H1 (locs ++ L) (cells + mc) (slots + ms) Q { g with stack := rest } x) :
    W p l e R s m args below meth c H locs cells slots Q g := by
  obtain ⟨⟨hrc, hrs, hfr, hlo, hws, hcw, hcode, hini, hy, hlen, hl⟩, hin, hsel⟩ := cw
  obtain ⟨hx, hb, hml, ho, -⟩ := S
  obtain ⟨hbl, ⟨cellB, hcB, hoB, hclB⟩, hPc⟩ := hp
  intro T hT X
  obtain ⟨mk, methM, hnamed, hmethM, hstM, habM⟩ := Cond.instanceMethod_spec hin
  obtain ⟨methM', cM, hmethM', -, -, -, -, -, -, hsigM⟩ := Cond.code_spec hnamed hcode
  cases hmethM.symm.trans hmethM'
  obtain ⟨c2, r2, m2, q1, q2, q3, q4, kP, hkP, hkPi⟩ := Cond.selects_spec hsel
  cases hclB.symm.trans q1
  cases (State.methodFound?_of_named hnamed hy).symm.trans q2
  cases hnamed.symm.trans q3
  have hselP : selectMethod e.platform s.vm cellB.cls mk = .method mk := by rw [Launch.admits_selectMethod X.admits]; exact q4
  obtain ⟨vm₁, X₁, hstep₁⟩ := X.invokevirtual hx ho hl hnamed hmethM hstM hkP hkPi hy (a := b) (cell := cellB) (by rw [hT]; exact hcB)
    (fun z h => by rw [h] at hoB; cases hoB) hselP hmethM habM hkP hkPi (g := g) hg (argsL := As) (rest := rest) (hn.trans (hlen _ hsigM)) hstack (by rw [hb]; exact hdg)
  obtain ⟨x, st, t, T', L, h0, X', hL, e1, e2, hq, hsteps⟩ := tx_call X₁ hM hbl hrc hrs hfr hlo hws hcw hini (g := { g with stack := rest }) hg (hsize.trans hml.symm) (by rw [hb]; exact hdg) hW (X₁.named hnamed) hf (hPc (T.setVm vm₁) hT X₁.warmed)
  obtain ⟨t2, a1, b1⟩ := kk x st t T'.heap L (h0.trans hT) e1.symm (by rw [← e2]; exact X'.warmed.alike) hq hL T' rfl X'
  exact ⟨t2, hstep₁ _ (fun acts => by rw [doInvoke_state]; exact hsteps.trans a1), b1⟩
/-- a call of a static method that throws -/
theorem tx_runS (S : CallFix p m c cc nL s args Ts own) (hM : MetT l y ws rm Pc Qc mc ms free) (cw : CallB R s args own index y bytes maxL ret ws rm mc ms n ∧ (Cond.static y).before args s = true) (hp : PreS s H Pc As)
    (hg : g.method = m) (hn : As.length = n) (hsize : g.locals.size = nL) (hstack : g.stack = As.reverse ++ rest) (hW : 2 * g.monitorRoom + (rest.map fun v => v.category).sum ≤ 8) (hdg : decode cc g.pc = .ok (.invokestatic index, 3)) (hf : cells + mc ≤ R.cells ∧ slots + ms ≤ R.slots)
    (kk : ∀ (x : Addr) (st t : State) (H1 : Heap) (L : List Loc), st.heap = H → t.heap = H1 → s.vm.Alike t.vm → Qc As.toArray st x t → (∀ q ∈ L, free q.base) → tx_W p l e R s m args below meth c H1 (locs ++ L) (cells + mc) (slots + ms) Q { g with stack := rest } x) :
    W p l e R s m args below meth c H locs cells slots Q g := by
  obtain ⟨⟨hrc, hrs, hfr, hlo, hws, hcw, hcode, hini, hy, hlen, hl⟩, hstat⟩ := cw
  obtain ⟨hx, hb, hml, ho, -⟩ := S
  intro T hT X
  obtain ⟨mk, hnamed⟩ := Cond.code_named hcode
  obtain ⟨methM, cM, hmethM, -, -, -, -, -, -, hsigM⟩ := Cond.code_spec hnamed hcode
  have hstatic : methM.isStatic = true := Cond.static_spec hnamed hmethM hstat
  obtain ⟨kP, hkP, -⟩ := className_of_methodNamed hnamed
  have hinitP : kP.init = .initialized := Cond.initialized_spec (findClass_of_methodNamed hnamed) hkP hini
  obtain ⟨vm₁, X₁, hstep₁⟩ := X.invokestatic hx ho hl hnamed hmethM hstatic hkP hinitP hy (g := g) hg (argsL := As) (rest := rest) (hn.trans (hlen _ hsigM)) hstack (by rw [hb]; exact hdg)
  obtain ⟨x, st, t, T', L, h0, X', hL, e1, e2, hq, hsteps⟩ := tx_call X₁ hM hp.1 hrc hrs hfr hlo hws hcw hini (g := { g with stack := rest }) hg (hsize.trans hml.symm) (by rw [hb]; exact hdg) hW (X₁.named hnamed) hf (hp.2 (T.setVm vm₁) hT X₁.warmed)
  obtain ⟨t2, a1, b1⟩ := kk x st t T'.heap L (h0.trans hT) e1.symm (by rw [← e2]; exact X'.warmed.alike) hq hL T' rfl X'
  exact ⟨t2, hstep₁ _ (fun acts => by rw [doInvoke_state]; exact hsteps.trans a1), b1⟩
/-- in flight, and this method has no table: it leaves -/
theorem tx_out {Qd : Array Value → State → Addr → State → Prop} {free0 : Addr → Prop} {x : Addr} (hlocks : meth.locks = false) (hout : c.exceptionTable.isEmpty = true) {pc : Nat} {ls : Array Slot} {st : List Value}
    (hq : ∀ t : State, t.heap = H → s.WarmedH t.vm → Qd args s x t) (hf : ∀ q ∈ locs, free0 q.base) :
    tx_W p l e R s m args below meth c H locs cells slots (tx_Z below Qd args s cells slots free0) (F0 m pc ls st) x := by
  intro T hT X
  obtain ⟨st1, hrun, hend, hW, hsm⟩ := X.leaveThrown x (g := F0 m pc ls st) rfl rfl rfl (fun z hz => by
    have h0 : c.exceptionTable.toList = [] := by simpa using hout
    rw [h0] at hz; cases hz) hlocks
  exact ⟨_, st1, x, hrun, hend, hq _ hT hW, locs, ⟨hW, hsm⟩, hf⟩
theorem tx_widen {g : JFrame} {x : Addr} {k n : Nat} (h1 : cells ≤ k) (h2 : slots ≤ n) (kk : tx_W p l e R s m args below meth c H locs k n Q g x) : tx_W p l e R s m args below meth c H locs cells slots Q g x :=
  fun T hT X => kk T hT (stand_widen X h1 h2)
end TX
/-! a thrown object is caught by a row of the method's own table: rows before it that don't cover the place, or name a class that the object isn't of, are passed; the pool's entries may be cold -/
section TC
variable {Q : Handler → Pre} {E : CtlPost} {e : Env} {d : Bool} {acts : List Action} {s : State} {f : JFrame} {a : Addr}
theorem tc_one {x : ExceptionTableEntry} {t : List ExceptionTableEntry} {cx : ClassId} {cell : Cell} (hx : covers x f.pc = true) (h0 : x.catchType ≠ 0)
    (hl : s.vm.ClassLinks e.platform f.method.cls x.catchType cx) (hcell : s.heap[a]? = some cell) (hobj : ∀ k, cell.vm ≠ .statics k) (hk : ∃ k, s.vm.classes[cell.cls]? = some k) (hc : ∃ k, s.vm.classes[cx]? = some k) :
    wp (findHandler.go f a (x :: t)) Q E e d acts s ↔ if s.vm.assignable cell.cls cx = true then Q (.found x.handlerPc) d acts (s.setVm (s.vm.noted f.method.cls x.catchType (.cls cx)))
      else wp (findHandler.go f a t) Q E e d acts (s.setVm (s.vm.noted f.method.cls x.catchType (.cls cx))) := by
  have hx' := hx
  simp only [covers] at hx'
  obtain ⟨ha, ht⟩ := (resolveClass_links e.toSetting hl).op (op := VmOp.resolveClass f.method.cls x.catchType) rfl
  have hal : s.vm.Alike (s.vm.noted f.method.cls x.catchType (.cls cx)) := (Vm.Alike.refl s.vm).noted _ _ _
  obtain ⟨k1, hk1⟩ := hk
  obtain ⟨k2, hk2⟩ := hc
  obtain ⟨k1', hk1', -⟩ := hal.2.2 _ _ hk1
  obtain ⟨k2', hk2', -⟩ := hal.2.2 _ _ hk2
  have hsame : (s.vm.noted f.method.cls x.catchType (.cls cx)).assignable cell.cls cx = s.vm.assignable cell.cls cx := by rw [hal.assignable]
  cases hfit : s.vm.assignable cell.cls cx
  · rw [hfit] at hsame
    simp [findHandler.go, hx', h0, ha, ht, hcell, hobj, hk1', hk2', hsame, VmOp.dirties, VmOp.acts]
  · rw [hfit] at hsame
    simp [findHandler.go, hx', h0, ha, ht, hcell, hobj, hk1', hk2', hsame, VmOp.dirties, VmOp.acts]
/-- a row that is passed -/
def tc_pass (pl : Platform) (s₀ : State) (d : ClassId) (pc : Nat) (thrown : ClassId) (z : ExceptionTableEntry) : Prop :=
  covers z pc = false ∨ (z.catchType ≠ 0 ∧ ∃ cz, s₀.vm.ClassLinks pl d z.catchType cz ∧ s₀.vm.assignable thrown cz = false)
theorem tc_seek {s₀ : State} {cell : Cell} (hobj : ∀ k, cell.vm ≠ .statics k) (hk0 : ∃ k, s₀.vm.classes[cell.cls]? = some k) (x : ExceptionTableEntry) (suf : List ExceptionTableEntry) (hx : covers x f.pc = true) (h0 : x.catchType ≠ 0) {cx : ClassId}
    (hl : s₀.vm.ClassLinks e.platform f.method.cls x.catchType cx) (hfit : s₀.vm.assignable cell.cls cx = true) :
    ∀ (pre : List ExceptionTableEntry) (S : State), s₀.WarmedH S.vm → S.heap[a]? = some cell → (∀ z ∈ pre, tc_pass e.platform s₀ f.method.cls f.pc cell.cls z) →
      ∃ vm', s₀.WarmedH vm' ∧ ∀ (Q : Handler → Pre) (E : CtlPost) (d : Bool) (acts : List Action), wp (findHandler.go f a (pre ++ x :: suf)) Q E e d acts S ↔ Q (.found x.handlerPc) d acts (S.setVm vm') := by
  obtain ⟨k0, hk0⟩ := hk0
  intro pre
  induction pre with
  | nil =>
    intro S hW hcell _
    obtain ⟨k0', hk0', -⟩ := hW.alike.2.2 _ _ hk0
    obtain ⟨dk, _, _, kt, hd, _, _, _, _, hkt, _, hopen⟩ := hl.here
    obtain ⟨kt', hkt', -⟩ := hW.alike.2.2 _ _ hkt
    refine ⟨_, hW.noted hd hopen (State.rightAt_cls hl), fun Q E d acts => ?_⟩
    rw [List.nil_append, tc_one hx h0 (hW.classLinks hl) hcell hobj ⟨k0', hk0'⟩ ⟨kt', hkt'⟩, if_pos (by rw [hW.alike.assignable]; exact hfit)]
  | cons z zs ih =>
    intro S hW hcell hpass
    have hrest : ∀ w ∈ zs, tc_pass e.platform s₀ f.method.cls f.pc cell.cls w := fun w hw => hpass w (List.mem_cons_of_mem _ hw)
    cases hcov : covers z f.pc with
    | false =>
      obtain ⟨vm', hW', hq⟩ := ih S hW hcell hrest
      refine ⟨vm', hW', fun Q E d acts => ?_⟩
      rw [List.cons_append, W.findHandler_go_skip hcov]
      exact hq Q E d acts
    | true =>
      rcases hpass z List.mem_cons_self with h | ⟨h0z, cz, hlz, hno⟩
      · rw [h] at hcov; cases hcov
      · obtain ⟨k0', hk0', -⟩ := hW.alike.2.2 _ _ hk0
        obtain ⟨dk, _, _, kt, hd, _, _, _, _, hkt, _, hopen⟩ := hlz.here
        obtain ⟨kt', hkt', -⟩ := hW.alike.2.2 _ _ hkt
        obtain ⟨vm', hW', hq⟩ := ih (S.setVm (S.vm.noted f.method.cls z.catchType (.cls cz))) (hW.noted hd hopen (State.rightAt_cls hlz)) hcell hrest
        refine ⟨vm', hW', fun Q E d acts => ?_⟩
        rw [List.cons_append, tc_one hcov h0z (hW.classLinks hlz) hcell hobj ⟨k0', hk0'⟩ ⟨kt', hkt'⟩, if_neg (by rw [hW.alike.assignable, hno]; decide)]
        exact hq Q E d acts
/-- one step: from the note to the handler -/
theorem tc_step {r : List Frame} {pc : Nat} {vm' : Vm} (hfind : ∀ (Q : Handler → Pre) (E : CtlPost) (d : Bool) (acts : List Action), wp (findHandler f a) Q E e d acts s ↔ Q (.found pc) d acts (s.setVm vm')) :
    (stepThrowing e s a (.java f :: r)).1 = (s.setVm vm').setFrames (.java { f with pc := pc, stack := [.ref a] } :: r) := by
  simp only [stepThrowing, searchFrame, vmDo]
  generalize hr : Sem.go _ e false [] s = res
  obtain ⟨as, rfl, ha⟩ := Sem.eq_ok_of hr (a := Handler.found pc) (s' := s.setVm vm') (acts' := []) (by simp [hfind _ _ _ _])
  rfl
end TC
section TD
variable {p : Program} {l : Launch} {e : Env} {R : Room} {s : State} {m : MethodId} {args : Array Value} {below : List Frame} {meth : Method} {c : Code} {H : Heap} {locs : List Loc} {cells slots : Nat} {Q : State → Prop}
theorem tc_frames (u : State) (vm' : Vm) (F G : List Frame) : ((u.setFrames F).setVm vm').setFrames G = (u.setVm vm').setFrames G := by
  have h1 : (u.setFrames F).setVm vm' = (u.setVm vm').setFrames F := rfl
  rw [h1, State.setFrames_setFrames]
/-- caught: the walk goes on at the handler, the object alone on the stack -/
theorem tx_catch {E own name : String} {ce : Cell} {x : Addr} {pc : Nat} {ls : Array Slot} {st : List Value} (hown : s.vm.findClass own = some m.cls)
    (pre : List ExceptionTableEntry) (z : ExceptionTableEntry) (suf : List ExceptionTableEntry) (hsplit : c.exceptionTable.toList = pre ++ z :: suf)
    (hcell : H[x]? = some ce) (hv : ce.vm = .none) (hcl : s.vm.findClass E = some ce.cls)
    (hpass : ∀ w ∈ pre, covers w pc = false ∨ (w.catchType ≠ 0 ∧ ∃ nm : String, (Cond.classLink own w.catchType nm).before args s = true ∧ ∀ cT : ClassId, s.vm.findClass nm = some cT → s.vm.assignable ce.cls cT = false))
    (hz : covers z pc = true) (h0 : z.catchType ≠ 0) (hlink : (Cond.classLink own z.catchType name).before args s = true) (hcast : ∀ cT : ClassId, s.vm.findClass name = some cT → s.vm.assignable ce.cls cT = true)
    (kk : W p l e R s m args below meth c H locs cells slots Q (F0 m z.handlerPc ls [.ref x])) :
    tx_W p l e R s m args below meth c H locs cells slots Q (F0 m pc ls st) x := by
  intro T hT X
  have hpl : e.platform.magicAccessors = ({} : Platform).magicAccessors := by rw [X.admits.platform]
  obtain ⟨cT, hcT, hclT⟩ := Cond.classLink_spec hown hlink e.platform hpl
  have hasg := hcast cT hcT
  have hobj : ∀ k, ce.vm ≠ .statics k := fun k h => by rw [hv] at h; cases h
  have hk0 : ∃ k, s.vm.classes[ce.cls]? = some k := Vm.classAt_of_findClass hcl
  have hcell' : ((T.setTop (F0 m pc ls st)).pushFrame (.throwing x)).heap[x]? = some ce := by rw [Stand.throwing_heap, hT]; exact hcell
  have hWp : s.WarmedH ((T.setTop (F0 m pc ls st)).pushFrame (.throwing x)).vm := by rw [Stand.throwing_vm]; exact X.warmed
  obtain ⟨vm', hW', hq⟩ := tc_seek (e := e) (f := F0 m pc ls st) (a := x) (s₀ := s) hobj hk0 z suf hz h0 hclT hasg pre _ hWp hcell' (fun w hw => by
    rcases hpass w hw with h | ⟨h0w, nm, hlw, hno⟩
    · exact Or.inl h
    · obtain ⟨cw, hcw, hclw⟩ := Cond.classLink_spec hown hlw e.platform hpl
      exact Or.inr ⟨h0w, cw, hclw, hno cw hcw⟩)
  have hm' : ((T.setTop (F0 m pc ls st)).pushFrame (.throwing x)).vm.method? (F0 m pc ls st).method = some meth := by rw [Stand.throwing_vm]; exact X.method'
  have hfind : ∀ (Q : Handler → Pre) (E : CtlPost) (d : Bool) (acts : List Action), wp (findHandler (F0 m pc ls st) x) Q E e d acts ((T.setTop (F0 m pc ls st)).pushFrame (.throwing x)) ↔ Q (.found z.handlerPc) d acts (((T.setTop (F0 m pc ls st)).pushFrame (.throwing x)).setVm vm') :=
    fun Q E d acts => by rw [W.findHandler_eq hm' X.code, hsplit]; exact hq Q E d acts
  obtain ⟨t, a1, b1⟩ := kk (T.setVm vm') hT (X.noted hW')
  refine ⟨t, ?_, b1⟩
  have hAt : At T (F0 m pc ls st).method c below := X.here
  obtain ⟨hgo, hw⟩ := hAt.throwing x
  refine Steps.head hgo hw ?_
  rw [stepThread_throwing (frames_entered hAt.top _), tc_step (s := (T.setTop (F0 m pc ls st)).pushFrame (.throwing x)) hfind]
  obtain ⟨g₀, hg⟩ := Option.isSome_iff_exists.mp hAt.top
  obtain ⟨r, hr⟩ := State.topJava?_eq_some.mp hg
  have hr' : (T.setVm vm').frames = .java g₀ :: r := hr
  rw [State.setTop_of_frames _ hr'] at a1
  rw [hr, List.tail_cons, State.pushFrame, tc_frames, State.setTop_of_frames _ hr, tc_frames]
  exact a1
end TD
/-! 'throw new E("text")' where E's own constructor hands the text on by any entry of its pool (NoSuchElementException: 13); the library's BundleOwnThrow is followed, with another first link and a shorter end -/
def tx_rest (own : String) (ic : Nat) (X : String) : List Cond :=
  [.methodLink own ic (Bundle.initS X), .instantiable X 6, .selects X Bundle.tFill0 Bundle.tFill0, .selects X Bundle.tFill Bundle.tFill,
   .lays X Bundle.tN "cause" "Ljava/lang/Throwable;", .lays X Bundle.tN "stackTrace" Bundle.steD, .lays X Bundle.tN "suppressedExceptions" Bundle.listD, .lays X Bundle.tN "detailMessage" "Ljava/lang/String;",
   .isRef (.static Bundle.tN "UNASSIGNED_STACK" Bundle.steD), .isRef (.static Bundle.tN "SUPPRESSED_SENTINEL" Bundle.listD),
   .fieldLink Bundle.tN 198 Bundle.tN "backtrace" "Ljava/lang/Object;", .lays Bundle.tN Bundle.tN "backtrace" "Ljava/lang/Object;", .lays X Bundle.tN "backtrace" "Ljava/lang/Object;"]
def tx_own (own : String) (ic : Nat) (X sup : String) (ix : Nat) (rx : ByteArray) (names : List String) : List Cond :=
  Bundle.throwableAtoms ++ (Bundle.throwableSAtoms ++ (Bundle.passSAtoms X sup ix rx ++ (Bundle.chainSAtoms sup names ++ tx_rest own ic X)))
set_option maxHeartbeats 1000000 in
theorem tx_ctorX {p : Program} {l : Launch} {e : Env} {R : Room} {s : State} {m₀ : MethodId} {args : Array Value} {below : List Frame} {meth : Method} {c : Code} {V : State} {locs : List Loc} {cells slots : Nat}
    (X : Stand p l e R s m₀ args below meth c V locs cells slots) (hexec : p.tables.exec = Jvm.exec) (htr : e.platform.stackTraces = false) {own cls sup : String} {names : List String} {ic ix : Nat} {rx : ByteArray}
    (hown : s.vm.findClass own = some m₀.cls) (hcls : Bundle.fit cls = true) (hsup : Bundle.fit sup = true) (hnames : ∀ n ∈ names, Bundle.fit n = true)
    (r0 : decode rx 0 = .ok (.aload_n 0, 1)) (r1 : decode rx 1 = .ok (.aload_n 1, 1)) (r2 : decode rx 2 = .ok (.invokespecial ix, 3)) (r5 : decode rx 5 = .ok (.return_, 1))
    (h : ∀ a ∈ tx_own own ic cls sup ix rx names, a.before args s = true)
    (hlocs : ∀ x ∈ locs, ∀ cell, s.heap[x.base]? = some cell → cell.vm.isStatics = false)
    {a : Addr} {cX : ClassId} {kX : Class} (hfoundX : s.vm.findClass cls = some cX) (hkX : s.vm.classes[cX]? = some kX) (hcell : V.heap[a]? = some (freshCell cX kX)) (hnew : s.heap.size ≤ a)
    {msg : Value} (hmsg : msg.isRef = true)
    {g : JFrame} (hg : g.method = m₀) (hsize : g.locals.size = c.maxLocals) (hlocked : g.locked = none) (hentered : g.entered = []) {rest : List Value} (hstack : g.stack = msg :: .ref a :: .ref a :: rest)
    (hd6 : decode c.code g.pc = .ok (.invokespecial ic, 3)) (hd9 : decode c.code (g.pc + 3) = .ok (.athrow, 1)) (hout : ∀ x ∈ c.exceptionTable.toList, covers x (g.pc + 3) = false)
    (hRframes : names.length + 4 < R.frames) (hRlocals : 2 * g.monitorRoom + ((Value.ref a :: rest).map fun v => v.category).sum + (13 * (names.length + 2) + 42) ≤ R.locals) (hlocks : meth.locks = false) :
    ∃ U : State, Steps p.tables e below (V.setTop g) U ∧ U.status = .running ∧ Ended U below (.threw a) ∧ s.WarmedH U.vm ∧ s.sameButNew ({ U with vm := s.vm } : State) locs cells slots ∧
      ∃ ce, U.heap[a]? = some ce ∧ ce.vm = .none ∧ s.vm.findClass cls = some ce.cls := by
  have howns : e.platform.frameOwnsMonitors = true := by rw [X.admits.platform]
  have hfin : e.platform.finalization = false := by rw [X.admits.platform]
  have hpl : e.platform.magicAccessors = ({} : Platform).magicAccessors := by rw [X.admits.platform]
  have inR : ∀ x, x ∈ tx_rest own ic cls → x.holds args s none s [] = true := fun x hx => h x (by simp only [tx_own, List.mem_append]; exact Or.inr (Or.inr (Or.inr (Or.inr hx))))
  obtain ⟨T, Z0, L, -, Y⟩ := ThrowableC.of_atoms (args := args) howns hfin hpl (fun x hx => h x (by simp only [tx_own, List.mem_append]; exact Or.inl hx))
  obtain ⟨Z, M, LZ, LM, hnZ⟩ := Init0T.ofS_atoms (args := args) hpl L Y (fun x hx => h x (by simp only [tx_own, List.mem_append]; exact Or.inr (Or.inl hx)))
  have hpass : ∀ x ∈ Bundle.passSAtoms cls sup ix rx, x.before args s = true := fun x hx => h x (by simp only [tx_own, List.mem_append]; exact Or.inr (Or.inr (Or.inl hx)))
  obtain ⟨P0, L0, hP0m, hP0s⟩ := PassC.ofS_atoms (args := args) (s := s) hpl (Bundle.fit_spec hcls).1 (Bundle.fit_spec hsup).2 r0 r1 r2 r5 hpass
  obtain ⟨P1, Ps, hlen, L1, hL, hP1m, hlink1, hlink⟩ := Bundle.chainS (args := args) hpl hnZ names sup hsup hnames (fun x hx => h x (by simp only [tx_own, List.mem_append]; exact Or.inr (Or.inr (Or.inr (Or.inl hx)))))
  have hsup0 : P0.sup = P1.m := Option.some.inj (hP0s.symm.trans hP1m)
  have hfound : s.vm.findClass cls = some P0.m.cls := findClass_of_methodNamed hP0m
  cases Option.some.inj (hfoundX.symm.trans hfound)
  obtain ⟨c1, kX', hc1, hk, hord, -, -, hn6⟩ := Cond.instantiable_spec (inR (.instantiable cls 6) (by simp [tx_rest]))
  cases Option.some.inj (hc1.symm.trans hfound)
  cases Option.some.inj (hkX.symm.trans hk)
  have hsel0 : selectMethod e.platform s.vm P0.m.cls T.fill0 = .method T.fill0 := by
    obtain ⟨c2, r2', m2, q1, q2, q3, q4, -⟩ := Cond.selects_spec (inR (.selects cls Bundle.tFill0 Bundle.tFill0) (by simp [tx_rest]))
    cases Option.some.inj (q1.symm.trans hfound)
    cases Option.some.inj (q2.symm.trans (State.methodFound?_of_named Y.fill0 (by decide)))
    cases Option.some.inj (q3.symm.trans Y.fill0)
    rw [Launch.admits_selectMethod X.admits]; exact q4
  have hselF : selectMethod e.platform s.vm P0.m.cls T.fill = .method T.fill := by
    obtain ⟨c2, r2', m2, q1, q2, q3, q4, -⟩ := Cond.selects_spec (inR (.selects cls Bundle.tFill Bundle.tFill) (by simp [tx_rest]))
    cases Option.some.inj (q1.symm.trans hfound)
    cases Option.some.inj (q2.symm.trans (State.methodFound?_of_named Y.fill (by decide)))
    cases Option.some.inj (q3.symm.trans Y.fill)
    rw [Launch.admits_selectMethod X.admits]; exact q4
  obtain ⟨cellS0, hcS0, hiss⟩ := Y.statics
  obtain ⟨u0, hu0⟩ := Cond.staticRefV Y.unassigned L.unassignedStatic L.statics hcS0 hiss (inR (.isRef (.static Bundle.tN "UNASSIGNED_STACK" Bundle.steD)) (by simp [tx_rest]))
  obtain ⟨sen, hsen⟩ := Cond.staticRefV Y.sentinel L.sentinelStatic L.statics hcS0 hiss (inR (.isRef (.static Bundle.tN "SUPPRESSED_SENTINEL" Bundle.listD)) (by simp [tx_rest]))
  obtain ⟨ci198, i198, fB, hk198, hg198, ha198, hsB, -, hnB, htB, hffB⟩ := Cond.ownField (t := .object "java/lang/Object") Y.found L.cls (by decide +kernel) (inR (.fieldLink Bundle.tN 198 Bundle.tN "backtrace" "Ljava/lang/Object;") (by simp [tx_rest])) (inR (.lays Bundle.tN Bundle.tN "backtrace" "Ljava/lang/Object;") (by simp [tx_rest])) e.platform hpl
  obtain ⟨cellS, hcS', heS, -, hkeep⟩ := X.same.2.2.2.2.2 T.aS cellS0 hcS0
  have hcellS : V.heap[T.aS]? = some cellS := hcS'
  have hout' : ∀ i, (⟨T.aS, i⟩ : Loc) ∉ locs := fun i hmem => by
    have := hlocs _ hmem cellS0 hcS0
    rw [hiss] at this; cases this
  have hknownS : cellS.vm ≠ .unknown := by
    rw [heS]; intro hu
    rw [show cellS0.vm = .unknown from hu] at hiss
    cases hiss
  have hneS : T.aS ≠ a := Nat.ne_of_lt (Nat.lt_of_lt_of_le (Array.getElem?_eq_some_iff.mp hcS0).1 hnew)
  obtain ⟨iM, hffM⟩ := Y.msg
  obtain ⟨tyC, dC, hdC, hdnC⟩ := Cond.laysAt hfound hk Y.cause (inR (.lays cls Bundle.tN "cause" "Ljava/lang/Throwable;") (by simp [tx_rest]))
  obtain ⟨tyS, dS, hdS, hdnS⟩ := Cond.laysAt hfound hk Y.stack (inR (.lays cls Bundle.tN "stackTrace" Bundle.steD) (by simp [tx_rest]))
  obtain ⟨tyP, dP, hdP, hdnP⟩ := Cond.laysAt hfound hk Y.supp (inR (.lays cls Bundle.tN "suppressedExceptions" Bundle.listD) (by simp [tx_rest]))
  obtain ⟨tyM, dM, hdM, hdnM⟩ := Cond.laysAt hfound hk hffM (inR (.lays cls Bundle.tN "detailMessage" "Ljava/lang/String;") (by simp [tx_rest]))
  obtain ⟨tyB, dB, hdB, hdnB⟩ := Cond.laysAt hfound hk hffB (inR (.lays cls Bundle.tN "backtrace" "Ljava/lang/Object;") (by simp [tx_rest]))
  have bC := Cond.laysApart hdB hdC hdnB hdnC (by rw [hnB, Y.causeName]; decide)
  have bS := Cond.laysApart hdB hdS hdnB hdnS (by rw [hnB, Y.stackName]; decide)
  have bP := Cond.laysApart hdB hdP hdnB hdnP (by rw [hnB, Y.suppName]; decide)
  have hskip : SkipFacts T e.platform s (fun u => u) u0 ((preparedCellV T.toThrowableT (freshCell P0.m.cls kX) a u0 sen).withEntry V.cur) :=
    ⟨{ ci198 := ci198, i198 := i198, fBack := fB }, ⟨hk198, hg198, ha198, hsB⟩, by
      have := fresh_default (c := P0.m.cls) tyB
      rw [htB] at this
      simpa [preparedCellV, Cell.setSlot, Cell.withEntry, Array.getElem?_setIfInBounds, bC, bS, bP, bC.symm, bS.symm, bP.symm, defaultValue] using this, fun _ _ => rfl⟩
  obtain ⟨tm, methC, cdC, kC, vm₁, hnC, -, -, -, -, -, -, -, hW₁, st1⟩ := Steps.initColdS (tb := p.tables) (e := e) (below := below) (s := s) (U := V) X.here hexec X.warmed hpl hown (t := Bundle.initS cls) rfl rfl (Bundle.fit_spec hcls).2
    (inR (.methodLink own ic (Bundle.initS cls)) (by simp [tx_rest])) (hpass (.instanceMethod (Bundle.initS cls)) (by simp [Bundle.passSAtoms])) (bytes := rx) (maxL := 2) (hpass (.code (Bundle.initS cls) rx 2 none) (by simp [Bundle.passSAtoms]))
    (f := g) hg (a := a) (msg := msg) (rest := .ref a :: rest) hstack hd6
  cases Option.some.inj (hnC.symm.trans hP0m)
  have X₁ := X.noted hW₁
  obtain ⟨vm₂, X₂, st2⟩ := X₁.ctorMessageOffV hexec (g := { g with stack := .ref a :: rest }) hg hsize T L Z LZ M LM (P0 :: P1 :: Ps)
    (fun P hP => by
      rcases List.mem_cons.mp hP with rfl | hP
      · exact L0
      · rcases List.mem_cons.mp hP with rfl | hP
        · exact L1
        · exact hL P hP) ⟨hsup0, hlink1, hlink⟩ (u0 := u0) (sen := sen) (self := a) hmsg (cell := freshCell P0.m.cls kX) (cellS := cellS)
    hcell (fun _ => by simp) (by simp) rfl rfl hsel0 hselF hcellS hneS hknownS (by rw [hkeep _ (hout' _)]; exact hu0) (by rw [hkeep _ (hout' _)]; exact hsen)
    (Takes.of_laid hk hord tyC (by rw [Y.causeType]; rfl)) (Takes.of_laid hk hord tyS (by rw [Y.stackType]; exact fits_refV_array _ u0)) (Takes.of_laid hk hord tyP (by rw [Y.suppType]; exact fits_refV_object _ sen))
    (Takes.of_laid hk hord tyM (by rw [Y.msgType]; exact fits_refV_object _ ⟨msg, hmsg⟩)) Y.objLocals hskip htr [] hd6
    (by simp only [List.length_cons, hlen]; omega) (by simp only [List.length_cons, hlen]; exact hRlocals)
  obtain ⟨hwalk, hrun, hended, hWU, hsame⟩ := X₂.athrowLeaves hexec (g := { g with stack := .ref a :: rest, pc := g.pc + 3 }) hg hlocked hentered hout (a := a) (rest := rest) rfl hd9 hlocks
  have hlt : a < ((V.setVm vm₁).setVm vm₂).heap.size := (Array.getElem?_eq_some_iff.mp hcell).1
  have hU := heapAt_setCell_self (s := (V.setVm vm₁).setVm vm₂) (plainBareV T.toThrowableT (freshCell P0.m.cls kX) a u0 sen msg) hlt
  refine ⟨_, st1 _ (fun acts => ?_), hrun, hended, hWU, hsame.weaken (fun y hy hlt' => ?_) (Nat.le_refl _) (Nat.le_refl _), _, hU, rfl, hfound⟩
  · rw [doInvoke_state]
    exact st2 _ hwalk
  · rcases List.mem_append.mp hy with h1 | h1
    · exact h1
    · exfalso
      have hb : y.base = a := by
        simp only [List.mem_cons, List.not_mem_nil, or_false] at h1
        rcases h1 with rfl | rfl | rfl | rfl | rfl <;> rfl
      rw [hb] at hlt'
      exact Nat.not_lt.mpr hnew hlt'
/-! 'throw new E("text")': words that speak of the heap or of a resolved text stand apart from the tables' words; they hold on, as long as no old cell changes -/
def tx_four : List Cond := [.laysStatic Bundle.tN "UNASSIGNED_STACK" Bundle.steD, .laysStatic Bundle.tN "SUPPRESSED_SENTINEL" Bundle.listD, .isRef (.static Bundle.tN "UNASSIGNED_STACK" Bundle.steD), .isRef (.static Bundle.tN "SUPPRESSED_SENTINEL" Bundle.listD)]
theorem tx_layKeep {s U : State} {a a' : Array Value} {o n d : String} (h : (Cond.laysStatic o n d).before a s = true) (hW : s.WarmedH U.vm) (hh : ∀ q : Nat, q < s.heap.size → U.heap[q]? = s.heap[q]?) : (Cond.laysStatic o n d).before a' U = true := by
  have h1 : (Cond.laysStatic o n d).before a (s.setVm U.vm) = true := Cond.holds_shifted (State.Shifted.of_warmed hW) (.laysStatic o n d) [] rfl h
  simp only [Cond.before, Cond.holds, Cond.value] at h1 ⊢
  have e1 : (s.setVm U.vm).fieldFound? o n d = U.fieldFound? o n d := rfl
  rw [e1] at h1
  cases hc : (s.setVm U.vm).vm.findClass o with
  | none =>
    have hc' : U.vm.findClass o = none := hc
    simp [hc'] at h1
  | some c =>
    have hc' : U.vm.findClass o = some c := hc
    cases hf : U.fieldFound? o n d with
    | none => simp [hc, hf] at h1
    | some q =>
      obtain ⟨c', k, i, f⟩ := q
      simp only [hc, hf, hc'] at h1 ⊢
      cases hk : k.statics with
      | none => simp [hk] at h1
      | some b =>
        simp only [hk, Option.bind_some] at h1 ⊢
        have hb : b < s.heap.size := by
          cases hx : (s.setVm U.vm).heap[b]? with
          | none =>
            have hx' : s.heap[b]? = none := hx
            simp [hx'] at h1
          | some cell => exact (Array.getElem?_eq_some_iff.mp hx).1
        rw [hh b hb]
        exact h1
theorem tx_refKeep {s U : State} {a a' : Array Value} {o n d : String} (h : (Cond.isRef (.static o n d)).before a s = true) (hW : s.WarmedH U.vm) (hh : ∀ q : Nat, q < s.heap.size → U.heap[q]? = s.heap[q]?) : (Cond.isRef (.static o n d)).before a' U = true := by
  have h1 : (Cond.isRef (.static o n d)).before a (s.setVm U.vm) = true := Cond.holds_shifted (State.Shifted.of_warmed hW) (.isRef (.static o n d)) [] rfl h
  simp only [Cond.before, Cond.holds, Cond.value, Term.eval] at h1 ⊢
  have e1 : (s.setVm U.vm).fieldNamed? o n d true = U.fieldNamed? o n d true := rfl
  rw [e1] at h1
  cases hf : U.fieldNamed? o n d true with
  | none => simp [hf] at h1
  | some q =>
    obtain ⟨c', k, i⟩ := q
    simp only [hf, Option.bind_eq_bind, Option.bind_some] at h1 ⊢
    cases hk : k.statics with
    | none => simp [hk] at h1
    | some b =>
      simp only [hk, Option.bind_some] at h1 ⊢
      have hb : b < s.heap.size := by
        cases hx : (s.setVm U.vm).heap[b]? with
        | none =>
          have hx' : s.heap[b]? = none := hx
          simp [hx'] at h1
        | some cell => exact (Array.getElem?_eq_some_iff.mp hx).1
      rw [hh b hb]
      exact h1
theorem tx_strKeep {s U : State} {a a' : Array Value} {o tx : String} {k : Nat} (h : (Cond.stringRef o k tx).before a s = true) (hW : s.WarmedH U.vm) : (Cond.stringRef o k tx).before a' U = true := by
  have h1 := Cond.stringRef_warmed (vm' := U.vm) hW h
  exact h1
/-- the words that stand apart: the four, and the texts of the class's throws -/
def tx_H (tx : List (String × Nat × String)) (U : State) : Prop := (∀ w ∈ tx_four, w.before #[] U = true) ∧ ∀ q ∈ tx, (Cond.stringRef q.1 q.2.1 q.2.2).before #[] U = true
theorem tx_H.keep {tx : List (String × Nat × String)} {s U : State} (h : tx_H tx s) (hW : s.WarmedH U.vm) (hh : ∀ q : Nat, q < s.heap.size → U.heap[q]? = s.heap[q]?) : tx_H tx U := by
  refine ⟨fun w hw => ?_, fun q hq => tx_strKeep (h.2 q hq) hW⟩
  have h0 := h.1 w hw
  simp only [tx_four, List.mem_cons, List.not_mem_nil, or_false] at hw
  rcases hw with rfl | rfl | rfl | rfl
  · exact tx_layKeep h0 hW hh
  · exact tx_layKeep h0 hW hh
  · exact tx_refKeep h0 hW hh
  · exact tx_refKeep h0 hW hh
theorem tx_H.calling {tx : List (String × Nat × String)} {U : State} (h : tx_H tx U) (g : JFrame) (mk : MethodId) (a : Array Value) : tx_H tx (U.calling g mk a) :=
  ⟨fun w hw => by
    have h0 := h.1 w hw
    simp only [tx_four, List.mem_cons, List.not_mem_nil, or_false] at hw
    rcases hw with rfl | rfl | rfl | rfl <;> exact h0, fun q hq => h.2 q hq⟩
theorem tx_refl (vm : Vm) (c : ClassId) : vm.assignable c c = true := by
  show vm.assignableAux (255 + 1) c c = true
  rw [Vm.assignableAux]
  simp
theorem tx_cast {E : String} {args : Array Value} {s : State} {n : Nat} (h : (Cond.instantiable E n).before args s = true) : (Cond.castable E E).before args s = true := by
  obtain ⟨c, k, hc, -⟩ := Cond.instantiable_spec h
  simp only [Cond.before, Cond.holds, Cond.value, hc]
  simp [tx_refl]
theorem tx_decl {x : MethodName} {args : Array Value} {s : State} {b : ByteArray} {n : Nat} {r : Option FieldType} (h1 : (Cond.instanceMethod x).before args s = true) (h2 : (Cond.code x b n r).before args s = true) : (Cond.declares x).before args s = true := by
  obtain ⟨mk, methM, hn, hm, hst, hab⟩ := Cond.instanceMethod_spec h1
  obtain ⟨methM', cM, hm', -, -, -, -, -, -, hsig⟩ := Cond.code_spec hn h2
  cases hm.symm.trans hm'
  simp only [Cond.before, Cond.holds, Cond.value, hn, Option.bind_some, hm, Option.map_some]
  simp [hst, hsig]
section TN
variable {p : Program} {l : Launch} {e : Env} {R : Room} {s : State} {m : MethodId} {args : Array Value} {below : List Frame} {meth : Method} {c : Code} {H : Heap} {locs : List Loc} {cells slots : Nat}
theorem tx_throwS {cc : ByteArray} {pc : Nat} {ls : Array Slot} {rest : List Value} (hx : p.tables.exec = Jvm.exec) (hb : c.code = cc) (hl0 : l.stackTraces = false) (hlocks : meth.locks = false) (hout : c.exceptionTable.isEmpty = true) (hsize : ls.size = c.maxLocals)
    {own E sup text : String} {names : List String} {ik is ic ix : Nat} {rx : ByteArray} {tx : List (String × Nat × String)} (hown : s.vm.findClass own = some m.cls) (hE : Bundle.fit E = true) (hsup : Bundle.fit sup = true) (hnames : ∀ n ∈ names, Bundle.fit n = true)
    (r0 : decode rx 0 = .ok (.aload_n 0, 1)) (r1 : decode rx 1 = .ok (.aload_n 1, 1)) (r2 : decode rx 2 = .ok (.invokespecial ix, 3)) (r5 : decode rx 5 = .ok (.return_, 1))
    (hH : tx_H tx s) (hall : (∀ w ∈ tx_four, w.before args s = true) → ∀ w ∈ tx_own own ic E sup ix rx names, w.before args s = true) (hcl : (Cond.classLink own ik E).before args s = true) (hins : (Cond.instantiable E 6).before args s = true) (hini : (Cond.initialized E).before args s = true)
    (htx : (own, is, text) ∈ tx)
    (hS : va_S (fun q => s.heap.size ≤ q) s.heap H locs)
    (d0 : decode cc pc = .ok (.new ik, 3)) (d3 : decode cc (pc + 3) = .ok (.dup, 1)) (d4 : decode cc (pc + 4) = .ok (.ldc is, 2)) (d6 : decode cc (pc + 6) = .ok (.invokespecial ic, 3)) (d9 : decode cc (pc + 9) = .ok (.athrow, 1))
    (hfr : names.length + 4 < R.frames) (hlo : (rest.map fun v => v.category).sum + 1 + (13 * (names.length + 2) + 42) ≤ R.locals) (hc1 : cells + 1 ≤ R.cells) (hs1 : slots + 6 ≤ R.slots)
    {mc ms : Nat} (hmc : cells + 1 ≤ mc) (hms : slots + 6 ≤ ms) :
    W p l e R s m args below meth c H locs cells slots (tx_Z below (tx_Q E) args s mc ms (fun q => s.heap.size ≤ q)) (F0 m pc ls rest) := by
  have hstr := hH.2 _ htx
  obtain ⟨k, cf, i, a, -, -, -, -, -, hev⟩ := Cond.stringRef_spec (args := #[]) (first := s) (o := none) (idx := []) hown hstr
  refine W.newc hx hb hown hcl hins hini rfl d0 hc1 hs1 (fun cC kC h1 h2 h3 h4 => ?_)
  refine lv_dup hx hb d3 rfl ?_
  refine va_ldcS (own := own) (tx := text) (index := is) (q := a) hx hb hown ⟨hstr, hev⟩ d4 ?_
  intro T hT X
  have htr : e.platform.stackTraces = false := by
    have h9 := X.admits.2.2.2.2.1
    rw [h9]; exact hl0
  have hall : ∀ w ∈ tx_own own ic E sup ix rx names, w.before args s = true := hall (fun w h9 => by
    have h0 := hH.1 w h9
    simp only [tx_four, List.mem_cons, List.not_mem_nil, or_false] at h9
    rcases h9 with rfl | rfl | rfl | rfl <;> exact h0)
  have hlocs : ∀ z ∈ locs, ∀ cell, s.heap[z.base]? = some cell → cell.vm.isStatics = false := fun z hz cell hc => by
    have h9 := (Array.getElem?_eq_some_iff.mp hc).1
    exact absurd (hS.2.2 z hz) (Nat.not_le.mpr h9)
  obtain ⟨U, hst, hrun, hend, hW, hsame, ce, hce, hv, hO⟩ := tx_ctorX X hx htr (own := own) (cls := E) (sup := sup) (names := names) (ic := ic) (ix := ix) (rx := rx) hown hE hsup hnames r0 r1 r2 r5 hall hlocs (a := H.size) (cX := cC) (kX := kC) h1 h2 (by rw [hT]; simp) hS.1 (msg := .ref a) rfl
    (g := F0 m (pc + 6) ls (.ref a :: .ref H.size :: .ref H.size :: rest)) rfl hsize rfl rfl (rest := rest) rfl (by rw [hb]; exact d6) (by rw [hb]; exact d9) (fun z hz => by
      have h0 : c.exceptionTable.toList = [] := by simpa using hout
      rw [h0] at hz; cases hz) hfr (by simp [JFrame.monitorRoom, Value.category] at hlo ⊢; omega) hlocks
  have hsame' := hsame.weaken (l' := []) (c' := mc) (n' := ms) (fun y hy hlt => absurd (hS.2.2 y hy) (Nat.not_le.mpr hlt)) hmc hms
  refine ⟨U, hst, H.size, hrun, hend, ⟨⟨hsame'.2.1, fun q hq _ => ?_⟩, ce, hce, hv, ?_⟩, [], ⟨hW, hsame'⟩, fun q hq => by cases hq⟩
  · obtain ⟨c0, hc0⟩ : ∃ c0, s.heap[q]? = some c0 := ⟨_, Array.getElem?_eq_getElem hq⟩
    obtain ⟨c', hc', e1, e2, e3⟩ := hsame'.2.2.2.2.2 q c0 hc0
    have hc'' : U.heap[q]? = some c' := hc'
    rw [hc'', hc0]
    congr 1
    rw [e1]
    have e4 : c'.slots = c0.slots := by
      apply Array.ext_getElem?
      intro i
      exact e3 i (by simp)
    rw [e4]
  · rw [hW.alike.findClass]; exact hO
end TN
