/-! calls out of the law's loop: over the class's cells, the reference's, and out -/
section TWS
variable {p : Program} {l : Launch} {e : Env} {R : Room} {s : State} {m : MethodId} {args : Array Value} {below : List Frame} {meth : Method} {c : Code} {H : Heap} {locs : List Loc} {cells slots : Nat} {Q : State → Prop}
theorem callSW {T : State} (X : Stand p l e R s m args below meth c T locs cells slots) (hexec : p.tables.exec = Jvm.exec) {own : String} {index : Nat} {y : MethodName} {bytes : ByteArray} {maxL : Nat} {ret : Option FieldType} {hh : List (Nat × Nat × Nat × Nat)}
    (hown : s.vm.findClass own = some m.cls) (hlink : (Cond.methodLink own index y).before args s = true) (hstat : (Cond.static y).before args s = true) (hinit : (Cond.initialized y.cls).before args s = true)
    (hcode : (Cond.codeWith y bytes maxL ret hh).before args s = true) (hy : y.cls ≠ "java/lang/invoke/MethodHandle" ∧ y.cls ≠ "java/lang/invoke/VarHandle")
    {W : Nat} {Pre : Pt → Array Value → Prop} {Post : Pt → Array Value → Option Value → Pt → Prop} (hK : Back l R p e below s args y 3 W Pre Post)
    {g : JFrame} (hg : g.method = m) (hsize : g.locals.size = c.maxLocals) {argsL rest : List Value} (hlen : ∀ sig, parseMethodDescriptor y.desc = some sig → argsL.length = sig.parameters.length)
    (hstack : g.stack = argsL.reverse ++ rest) (hW : 2 * g.monitorRoom + (rest.map fun v => v.category).sum ≤ W) (hdg : decode c.code g.pc = .ok (.invokestatic index, 3))
    (hpre : ∀ vm₁, s.WarmedH vm₁ → Pre ⟨T.setVm vm₁, locs, cells, slots⟩ argsL.toArray) :
    ∃ (v : Option Value) (vm₁ : Vm) (B : Pt), s.WarmedH vm₁ ∧ Stand p l e R s m args below meth c B.U B.locs B.cells B.slots ∧ Post ⟨T.setVm vm₁, locs, cells, slots⟩ argsL.toArray v B ∧
      ∀ target, Steps p.tables e below (B.U.setTop { g with pc := g.pc + 3, stack := v.toList ++ rest }) target → Steps p.tables e below (T.setTop g) target := by
  obtain ⟨mk, methM, cM, hnamed, hmethM, -, -, -, -, -, -, hsigM⟩ := Cond.codeWith_spec hcode
  have hstatic : methM.isStatic = true := Cond.static_spec hnamed hmethM hstat
  obtain ⟨kP, hkP, -⟩ := className_of_methodNamed hnamed
  have hinitP : kP.init = .initialized := Cond.initialized_spec (findClass_of_methodNamed hnamed) hkP hinit
  obtain ⟨vm₁, X₁, hstep₁⟩ := X.invokestatic hexec hown hlink hnamed hmethM hstatic hkP hinitP hy (g := g) hg (argsL := argsL) (rest := rest) (hlen _ hsigM) hstack hdg
  obtain ⟨v, B, X', hpost, hsteps⟩ := hK m meth c ⟨T.setVm vm₁, locs, cells, slots⟩ { g with stack := rest } (.invokestatic index) mk argsL.toArray X₁ hg hsize hdg hW (X₁.named hnamed) (hpre vm₁ X₁.warmed)
  exact ⟨v, vm₁, B, X₁.warmed, X', hpost, fun target h => hstep₁ _ fun acts => by rw [doInvoke_state]; exact hsteps.trans h⟩
variable {y : MethodName} {bytes cc : ByteArray} {maxL nL mc ms n index : Nat} {ret : Option FieldType} {hh : List (Nat × Nat × Nat × Nat)} {ws ws' : List Cond} {rm : Room} {Pc : Array Value → State → Prop} {Qc : Array Value → State → Outcome → State → Prop} {free : Addr → Prop} {Ts : List Cond} {own : String} {As rest : List Value} {g : JFrame}
theorem tw_runS (S : CallFix p m c cc nL s args Ts own) (hM : Met l y ws rm Pc Qc mc ms free) (hT : GoodIn Ts (va_wsS own index y ws)) (hw : ws = Cond.codeWith y bytes maxL ret hh :: ws') (hrc : rm.cells = mc) (hrs : rm.slots = ms)
    (hd : y.cls ≠ "java/lang/invoke/MethodHandle" ∧ y.cls ≠ "java/lang/invoke/VarHandle" ∧ (parseMethodDescriptor y.desc).map (fun d => d.parameters.length) = some n) (hfr : rm.frames + 1 ≤ R.frames) (hlo : 8 + (maxL + 11) + rm.locals ≤ R.locals) (hp : PreS s H Pc As)
    (hg : g.method = m) (hn : As.length = n) (hsize : g.locals.size = nL) (hstack : g.stack = As.reverse ++ rest) (hW : 2 * g.monitorRoom + (rest.map fun v => v.category).sum ≤ 8) (hdg : decode cc g.pc = .ok (.invokestatic index, 3)) (hf : cells + mc ≤ R.cells ∧ slots + ms ≤ R.slots) :
    va_Run p l e R s m args below meth c H locs cells slots mc ms g rest (Qc As.toArray) (free) := by
  obtain ⟨hx, hb, hml, ho, ht⟩ := S
  have ok : ∀ w ∈ va_wsS own index y ws, w.before args s = true := fun w h => ht w (hT w h).1
  have hG : GoodIn Ts ws := fun w h => hT w (by unfold va_wsS; exact List.mem_append_right _ h)
  have hc : Cond.codeWith y bytes maxL ret hh ∈ ws := by rw [hw]; exact List.mem_cons_self
  have hini : (Cond.initialized y.cls).before args s = true := ok _ (by simp [va_wsS])
  have hK : Back l R p e below s args y 3 8 (PreOf R mc ms Pc) (PostOf Qc mc ms free) := va_backW (hh := hh) (bytes := bytes) (maxL := maxL) (ret := ret) hM hp.1 hrc hrs hfr hlo (pay_in ht hG) hc (fun a' U hW => word_at hW (Or.inl (by first | rfl | simp [Cond.onTables, Cond.keeps, Cond.steady])) hini)
  intro T hT9 X
  obtain ⟨v, vm₁, ⟨U', l2, c2, s2⟩, hW₁, X', ⟨g', mk, t, L, e1, e2, hq, h1, hL, h2, h3⟩, st⟩ := callSW X hx (hh := hh) (bytes := bytes) (maxL := maxL) (ret := ret) ho (ok (.methodLink own index y) (by simp [va_wsS])) (ok (.static y) (by simp [va_wsS])) hini (ht _ (hG _ hc).1) ⟨hd.1, hd.2.1⟩ hK hg (hsize.trans hml.symm) (argsL := As) (rest := rest)
    (fun sig h => hn.trans (by have h2 := hd.2.2; rw [h] at h2; exact (Option.some.inj h2).symm)) hstack hW (by rw [hb]; exact hdg) (fun vm₁ hW₁ => ⟨hf.1, hf.2, hp.2 (T.setVm vm₁) hT9 hW₁⟩)
  dsimp only [Pt.U, Pt.locs, Pt.cells, Pt.slots] at X' e1 e2 h1 h2 h3 st
  subst h1; subst h2; subst h3
  exact ⟨v, (T.setVm vm₁).calling g' mk As.toArray, t, U', L, hT9, X', hL, e1, e2, hq, st⟩
end TWS
def wLW (cI cJ cZ : ClassId) (h g : Nat → Nat) (o : Nat) (σ : BJ) (τ : BM) (f : Nat → Int64) : va_W := wBJ cI cJ h σ ++ (wBM cI cJ cZ g τ ++ [oC cJ o f])
section LWC
variable {p : Program} {l : Launch} {e : Env} {R : Room} {s : State} {m : MethodId} {args : Array Value} {below : List Frame} {meth : Method} {c : Code} {H : Heap} {locs : List Loc} {cells slots : Nat} {Q : State → Prop}
variable {cc bytes : ByteArray} {pc nL maxL n index : Nat} {ls : Array Slot} {As rest st0 : List Value} {Ts ws ws' : List Cond} {own : String} {y : MethodName} {ret : Option FieldType} {rm : Room} {hh : List (Nat × Nat × Nat × Nat)}
variable {dC : Nat → ClassId} {dI : Nat → Nat → Nat} {cI cJ cZ : ClassId} {h g : Nat → Nat} {o : Nat} {σ σ' : BJ} {τ τ' : BM} {f : Nat → Int64} {A : Nat → Prop}
theorem lwc_ri {r : Int32} (S : CallFix p m c cc nL s args Ts own) (hM : rBi l y ws rm σ As r) (cw : CallW R s args own RX0 index y bytes maxL ret ws rm 0 0 n)
    (hK : va_K (dC, dI) vwCl [(cI, .int), (cJ, .long), (cZ, .boolean)] s) (hP : va_P (dC, dI) vwCl (wLW cI cJ cZ h g o σ τ f) H) (hD : va_D A (wLW cI cJ cZ h g o σ τ f)) (hS : va_S A s.heap H locs) (hA : ∀ q, s.heap.size ≤ q → A q)
    (hl : ls.size = nL) (hn : As.length = n) (hst : st0 = As.reverse ++ .ref (h 0) :: rest) (hroom : (rest.map fun v => v.category).sum ≤ 8) (hdg : decode cc pc = .ok (.invokevirtual index, 3)) (hc : cells ≤ R.cells) (hs : slots ≤ R.slots)
    (kk : ∀ (H1 : Heap) (locs1 : List Loc), va_P (dC, dI) vwCl (wLW cI cJ cZ h g o σ τ f) H1 → va_D A (wLW cI cJ cZ h g o σ τ f) → va_S A s.heap H1 locs1 → W p l e R s m args below meth c H1 locs1 cells slots Q (F0 m (pc + 3) ls (.int r :: rest))) :
    W p l e R s m args below meth c H locs cells slots Q (F0 m pc ls st0) := by
  have hPc : va_P (dC, dI) vwCl (wBJ cI cJ h σ) H := hP.sub [0, 1, 2, 3, 4, 5, 6, 7, 8, 9] rfl
  have hDc : va_D A (wBJ cI cJ h σ) := hD.sub [0, 1, 2, 3, 4, 5, 6, 7, 8, 9] (by decide) rfl
  have hKc : va_K (dC, dI) vwCl [(cI, .int), (cJ, .long)] s := hK.sub [0, 1] rfl
  exact xr_roi (va_runV (As := As) (rest := rest) S (hM dC dI cI cJ h H.size) cw ⟨pBJ.blind, va_recv hKc hPc (ci := 0) (q0 := 0) rfl rfl, fun U hU hW => ⟨rfl, by rw [hU], by rw [hU]; exact hPc, va_K.moved hW.alike hKc, hDc.weaken (fun _ _ _ _ => trivial)⟩⟩ rfl hn hl hst (lv_room hroom) hdg ⟨hc, hs⟩) hP hS hA (fun H1 locs1 hP1 hS1 _ => kk H1 locs1 hP1 hD hS1)
theorem lwc_wi {r : Int32} (S : CallFix p m c cc nL s args Ts own) (hM : wBi l y ws rm σ As r σ') (cw : CallW R s args own RX0 index y bytes maxL ret ws rm 0 0 n)
    (hK : va_K (dC, dI) vwCl [(cI, .int), (cJ, .long), (cZ, .boolean)] s) (hP : va_P (dC, dI) vwCl (wLW cI cJ cZ h g o σ τ f) H) (hD : va_D A (wLW cI cJ cZ h g o σ τ f)) (hS : va_S A s.heap H locs) (hA : ∀ q, s.heap.size ≤ q → A q)
    (hl : ls.size = nL) (hn : As.length = n) (hst : st0 = As.reverse ++ .ref (h 0) :: rest) (hroom : (rest.map fun v => v.category).sum ≤ 8) (hdg : decode cc pc = .ok (.invokevirtual index, 3)) (hc : cells ≤ R.cells) (hs : slots ≤ R.slots)
    (kk : ∀ (H1 : Heap) (locs1 : List Loc), va_P (dC, dI) vwCl (wLW cI cJ cZ h g o σ' τ f) H1 → va_D A (wLW cI cJ cZ h g o σ' τ f) → va_S A s.heap H1 locs1 → W p l e R s m args below meth c H1 locs1 cells slots Q (F0 m (pc + 3) ls (.int r :: rest))) :
    W p l e R s m args below meth c H locs cells slots Q (F0 m pc ls st0) := by
  have hPc : va_P (dC, dI) vwCl (wBJ cI cJ h σ) H := hP.sub [0, 1, 2, 3, 4, 5, 6, 7, 8, 9] rfl
  have hDc : va_D A (wBJ cI cJ h σ) := hD.sub [0, 1, 2, 3, 4, 5, 6, 7, 8, 9] (by decide) rfl
  have hKc : va_K (dC, dI) vwCl [(cI, .int), (cJ, .long)] s := hK.sub [0, 1] rfl
  have hFc := va_free (wc := wBJ cI cJ h σ) hD hS hA [0, 1, 2, 3, 4, 5, 6, 7, 8, 9] rfl
  refine va_calli (va_runV (As := As) (rest := rest) S (hM dC dI cI cJ h H.size) cw ⟨pBJ.blind, va_recv hKc hPc (ci := 0) (q0 := 0) rfl rfl, fun U hU hW => ⟨rfl, by rw [hU], by rw [hU]; exact hPc, va_K.moved hW.alike hKc, hDc.weaken (fun _ _ _ _ => trivial)⟩⟩ rfl hn hl hst (lv_room hroom) hdg ⟨hc, hs⟩) hS (fun q _ h => hFc q h) hFc (fun r' u t H1 locs1 ht hvm hw hB hz1 hk1 hS1 => ?_)
  subst hw
  obtain ⟨hP1, hK1, hD1⟩ := hB
  rw [ht] at hP1
  obtain ⟨hP2, hD2⟩ := va_join (wr := wBM cI cJ cZ g τ ++ [oC cJ o f]) (w1 := wBJ cI cJ h σ') hP hD [0, 1, 2, 3, 4, 5, 6, 7, 8, 9] [10, 11, 12, 13, 14, 15, 16, 17, 18, 19, 20, 21, 22] rfl rfl (by decide) (by decide) hk1 hFc hP1 hD1
  exact kk H1 locs1 (hP2.sub [13, 14, 15, 16, 17, 18, 19, 20, 21, 22, 0, 1, 2, 3, 4, 5, 6, 7, 8, 9, 10, 11, 12] rfl) (hD2.sub [13, 14, 15, 16, 17, 18, 19, 20, 21, 22, 0, 1, 2, 3, 4, 5, 6, 7, 8, 9, 10, 11, 12] (by decide) rfl) hS1
theorem lwc_rl {r : Int64} (S : CallFix p m c cc nL s args Ts own) (hM : rBl l y ws rm σ As r) (cw : CallW R s args own RX0 index y bytes maxL ret ws rm 0 0 n)
    (hK : va_K (dC, dI) vwCl [(cI, .int), (cJ, .long), (cZ, .boolean)] s) (hP : va_P (dC, dI) vwCl (wLW cI cJ cZ h g o σ τ f) H) (hD : va_D A (wLW cI cJ cZ h g o σ τ f)) (hS : va_S A s.heap H locs) (hA : ∀ q, s.heap.size ≤ q → A q)
    (hl : ls.size = nL) (hn : As.length = n) (hst : st0 = As.reverse ++ .ref (h 0) :: rest) (hroom : (rest.map fun v => v.category).sum ≤ 8) (hdg : decode cc pc = .ok (.invokevirtual index, 3)) (hc : cells ≤ R.cells) (hs : slots ≤ R.slots)
    (kk : ∀ (H1 : Heap) (locs1 : List Loc), va_P (dC, dI) vwCl (wLW cI cJ cZ h g o σ τ f) H1 → va_D A (wLW cI cJ cZ h g o σ τ f) → va_S A s.heap H1 locs1 → W p l e R s m args below meth c H1 locs1 cells slots Q (F0 m (pc + 3) ls (.long r :: rest))) :
    W p l e R s m args below meth c H locs cells slots Q (F0 m pc ls st0) := by
  have hPc : va_P (dC, dI) vwCl (wBJ cI cJ h σ) H := hP.sub [0, 1, 2, 3, 4, 5, 6, 7, 8, 9] rfl
  have hDc : va_D A (wBJ cI cJ h σ) := hD.sub [0, 1, 2, 3, 4, 5, 6, 7, 8, 9] (by decide) rfl
  have hKc : va_K (dC, dI) vwCl [(cI, .int), (cJ, .long)] s := hK.sub [0, 1] rfl
  exact xr_rol (va_runV (As := As) (rest := rest) S (hM dC dI cI cJ h H.size) cw ⟨pBJ.blind, va_recv hKc hPc (ci := 0) (q0 := 0) rfl rfl, fun U hU hW => ⟨rfl, by rw [hU], by rw [hU]; exact hPc, va_K.moved hW.alike hKc, hDc.weaken (fun _ _ _ _ => trivial)⟩⟩ rfl hn hl hst (lv_room hroom) hdg ⟨hc, hs⟩) hP hS hA (fun H1 locs1 hP1 hS1 _ => kk H1 locs1 hP1 hD hS1)
theorem lwc_wl {r : Int64} (S : CallFix p m c cc nL s args Ts own) (hM : wBl l y ws rm σ As r σ') (cw : CallW R s args own RX0 index y bytes maxL ret ws rm 0 0 n)
    (hK : va_K (dC, dI) vwCl [(cI, .int), (cJ, .long), (cZ, .boolean)] s) (hP : va_P (dC, dI) vwCl (wLW cI cJ cZ h g o σ τ f) H) (hD : va_D A (wLW cI cJ cZ h g o σ τ f)) (hS : va_S A s.heap H locs) (hA : ∀ q, s.heap.size ≤ q → A q)
    (hl : ls.size = nL) (hn : As.length = n) (hst : st0 = As.reverse ++ .ref (h 0) :: rest) (hroom : (rest.map fun v => v.category).sum ≤ 8) (hdg : decode cc pc = .ok (.invokevirtual index, 3)) (hc : cells ≤ R.cells) (hs : slots ≤ R.slots)
    (kk : ∀ (H1 : Heap) (locs1 : List Loc), va_P (dC, dI) vwCl (wLW cI cJ cZ h g o σ' τ f) H1 → va_D A (wLW cI cJ cZ h g o σ' τ f) → va_S A s.heap H1 locs1 → W p l e R s m args below meth c H1 locs1 cells slots Q (F0 m (pc + 3) ls (.long r :: rest))) :
    W p l e R s m args below meth c H locs cells slots Q (F0 m pc ls st0) := by
  have hPc : va_P (dC, dI) vwCl (wBJ cI cJ h σ) H := hP.sub [0, 1, 2, 3, 4, 5, 6, 7, 8, 9] rfl
  have hDc : va_D A (wBJ cI cJ h σ) := hD.sub [0, 1, 2, 3, 4, 5, 6, 7, 8, 9] (by decide) rfl
  have hKc : va_K (dC, dI) vwCl [(cI, .int), (cJ, .long)] s := hK.sub [0, 1] rfl
  have hFc := va_free (wc := wBJ cI cJ h σ) hD hS hA [0, 1, 2, 3, 4, 5, 6, 7, 8, 9] rfl
  refine va_calll (va_runV (As := As) (rest := rest) S (hM dC dI cI cJ h H.size) cw ⟨pBJ.blind, va_recv hKc hPc (ci := 0) (q0 := 0) rfl rfl, fun U hU hW => ⟨rfl, by rw [hU], by rw [hU]; exact hPc, va_K.moved hW.alike hKc, hDc.weaken (fun _ _ _ _ => trivial)⟩⟩ rfl hn hl hst (lv_room hroom) hdg ⟨hc, hs⟩) hS (fun q _ h => hFc q h) hFc (fun r' u t H1 locs1 ht hvm hw hB hz1 hk1 hS1 => ?_)
  subst hw
  obtain ⟨hP1, hK1, hD1⟩ := hB
  rw [ht] at hP1
  obtain ⟨hP2, hD2⟩ := va_join (wr := wBM cI cJ cZ g τ ++ [oC cJ o f]) (w1 := wBJ cI cJ h σ') hP hD [0, 1, 2, 3, 4, 5, 6, 7, 8, 9] [10, 11, 12, 13, 14, 15, 16, 17, 18, 19, 20, 21, 22] rfl rfl (by decide) (by decide) hk1 hFc hP1 hD1
  exact kk H1 locs1 (hP2.sub [13, 14, 15, 16, 17, 18, 19, 20, 21, 22, 0, 1, 2, 3, 4, 5, 6, 7, 8, 9, 10, 11, 12] rfl) (hD2.sub [13, 14, 15, 16, 17, 18, 19, 20, 21, 22, 0, 1, 2, 3, 4, 5, 6, 7, 8, 9, 10, 11, 12] (by decide) rfl) hS1
theorem lwc_rv (S : CallFix p m c cc nL s args Ts own) (hM : rBv l y ws rm σ As) (cw : CallW R s args own RX0 index y bytes maxL ret ws rm 0 0 n)
    (hK : va_K (dC, dI) vwCl [(cI, .int), (cJ, .long), (cZ, .boolean)] s) (hP : va_P (dC, dI) vwCl (wLW cI cJ cZ h g o σ τ f) H) (hD : va_D A (wLW cI cJ cZ h g o σ τ f)) (hS : va_S A s.heap H locs) (hA : ∀ q, s.heap.size ≤ q → A q)
    (hl : ls.size = nL) (hn : As.length = n) (hst : st0 = As.reverse ++ .ref (h 0) :: rest) (hroom : (rest.map fun v => v.category).sum ≤ 8) (hdg : decode cc pc = .ok (.invokevirtual index, 3)) (hc : cells ≤ R.cells) (hs : slots ≤ R.slots)
    (kk : ∀ (H1 : Heap) (locs1 : List Loc), va_P (dC, dI) vwCl (wLW cI cJ cZ h g o σ τ f) H1 → va_D A (wLW cI cJ cZ h g o σ τ f) → va_S A s.heap H1 locs1 → W p l e R s m args below meth c H1 locs1 cells slots Q (F0 m (pc + 3) ls rest)) :
    W p l e R s m args below meth c H locs cells slots Q (F0 m pc ls st0) := by
  have hPc : va_P (dC, dI) vwCl (wBJ cI cJ h σ) H := hP.sub [0, 1, 2, 3, 4, 5, 6, 7, 8, 9] rfl
  have hDc : va_D A (wBJ cI cJ h σ) := hD.sub [0, 1, 2, 3, 4, 5, 6, 7, 8, 9] (by decide) rfl
  have hKc : va_K (dC, dI) vwCl [(cI, .int), (cJ, .long)] s := hK.sub [0, 1] rfl
  exact xr_rov (va_runV (As := As) (rest := rest) S (hM dC dI cI cJ h H.size) cw ⟨pBJ.blind, va_recv hKc hPc (ci := 0) (q0 := 0) rfl rfl, fun U hU hW => ⟨rfl, by rw [hU], by rw [hU]; exact hPc, va_K.moved hW.alike hKc, hDc.weaken (fun _ _ _ _ => trivial)⟩⟩ rfl hn hl hst (lv_room hroom) hdg ⟨hc, hs⟩) hP hS hA (fun H1 locs1 hP1 hS1 _ => kk H1 locs1 hP1 hD hS1)
theorem lwc_wv (S : CallFix p m c cc nL s args Ts own) (hM : wBv l y ws rm σ As σ') (cw : CallW R s args own RX0 index y bytes maxL ret ws rm 0 0 n)
    (hK : va_K (dC, dI) vwCl [(cI, .int), (cJ, .long), (cZ, .boolean)] s) (hP : va_P (dC, dI) vwCl (wLW cI cJ cZ h g o σ τ f) H) (hD : va_D A (wLW cI cJ cZ h g o σ τ f)) (hS : va_S A s.heap H locs) (hA : ∀ q, s.heap.size ≤ q → A q)
    (hl : ls.size = nL) (hn : As.length = n) (hst : st0 = As.reverse ++ .ref (h 0) :: rest) (hroom : (rest.map fun v => v.category).sum ≤ 8) (hdg : decode cc pc = .ok (.invokevirtual index, 3)) (hc : cells ≤ R.cells) (hs : slots ≤ R.slots)
    (kk : ∀ (H1 : Heap) (locs1 : List Loc), va_P (dC, dI) vwCl (wLW cI cJ cZ h g o σ' τ f) H1 → va_D A (wLW cI cJ cZ h g o σ' τ f) → va_S A s.heap H1 locs1 → W p l e R s m args below meth c H1 locs1 cells slots Q (F0 m (pc + 3) ls rest)) :
    W p l e R s m args below meth c H locs cells slots Q (F0 m pc ls st0) := by
  have hPc : va_P (dC, dI) vwCl (wBJ cI cJ h σ) H := hP.sub [0, 1, 2, 3, 4, 5, 6, 7, 8, 9] rfl
  have hDc : va_D A (wBJ cI cJ h σ) := hD.sub [0, 1, 2, 3, 4, 5, 6, 7, 8, 9] (by decide) rfl
  have hKc : va_K (dC, dI) vwCl [(cI, .int), (cJ, .long)] s := hK.sub [0, 1] rfl
  have hFc := va_free (wc := wBJ cI cJ h σ) hD hS hA [0, 1, 2, 3, 4, 5, 6, 7, 8, 9] rfl
  refine va_callv (va_runV (As := As) (rest := rest) S (hM dC dI cI cJ h H.size) cw ⟨pBJ.blind, va_recv hKc hPc (ci := 0) (q0 := 0) rfl rfl, fun U hU hW => ⟨rfl, by rw [hU], by rw [hU]; exact hPc, va_K.moved hW.alike hKc, hDc.weaken (fun _ _ _ _ => trivial)⟩⟩ rfl hn hl hst (lv_room hroom) hdg ⟨hc, hs⟩) hS (fun q _ h => hFc q h) hFc (fun u t H1 locs1 ht hvm hw hB hz1 hk1 hS1 => ?_)
  obtain ⟨hP1, hK1, hD1⟩ := hB
  rw [ht] at hP1
  obtain ⟨hP2, hD2⟩ := va_join (wr := wBM cI cJ cZ g τ ++ [oC cJ o f]) (w1 := wBJ cI cJ h σ') hP hD [0, 1, 2, 3, 4, 5, 6, 7, 8, 9] [10, 11, 12, 13, 14, 15, 16, 17, 18, 19, 20, 21, 22] rfl rfl (by decide) (by decide) hk1 hFc hP1 hD1
  exact kk H1 locs1 (hP2.sub [13, 14, 15, 16, 17, 18, 19, 20, 21, 22, 0, 1, 2, 3, 4, 5, 6, 7, 8, 9, 10, 11, 12] rfl) (hD2.sub [13, 14, 15, 16, 17, 18, 19, 20, 21, 22, 0, 1, 2, 3, 4, 5, 6, 7, 8, 9, 10, 11, 12] (by decide) rfl) hS1
theorem lwm_ri {r : Int32} (S : CallFix p m c cc nL s args Ts own) (hM : rMi l y ws rm τ As r) (cw : CallW R s args own RX1 index y bytes maxL ret ws rm 0 0 n)
    (hK : va_K (dC, dI) vwCl [(cI, .int), (cJ, .long), (cZ, .boolean)] s) (hP : va_P (dC, dI) vwCl (wLW cI cJ cZ h g o σ τ f) H) (hD : va_D A (wLW cI cJ cZ h g o σ τ f)) (hS : va_S A s.heap H locs) (hA : ∀ q, s.heap.size ≤ q → A q)
    (hl : ls.size = nL) (hn : As.length = n) (hst : st0 = As.reverse ++ .ref (g 0) :: rest) (hroom : (rest.map fun v => v.category).sum ≤ 8) (hdg : decode cc pc = .ok (.invokevirtual index, 3)) (hc : cells ≤ R.cells) (hs : slots ≤ R.slots)
    (kk : ∀ (H1 : Heap) (locs1 : List Loc), va_P (dC, dI) vwCl (wLW cI cJ cZ h g o σ τ f) H1 → va_D A (wLW cI cJ cZ h g o σ τ f) → va_S A s.heap H1 locs1 → W p l e R s m args below meth c H1 locs1 cells slots Q (F0 m (pc + 3) ls (.int r :: rest))) :
    W p l e R s m args below meth c H locs cells slots Q (F0 m pc ls st0) := by
  have hPc : va_P (dC, dI) vwCl (wBM cI cJ cZ g τ) H := hP.sub [10, 11, 12, 13, 14, 15, 16, 17, 18, 19, 20, 21] rfl
  have hDc : va_D A (wBM cI cJ cZ g τ) := hD.sub [10, 11, 12, 13, 14, 15, 16, 17, 18, 19, 20, 21] (by decide) rfl
  have hKc : va_K (dC, dI) vwCl [(cI, .int), (cJ, .long), (cZ, .boolean)] s := hK.sub [0, 1, 2] rfl
  exact xr_roi (va_runV (As := As) (rest := rest) S (hM dC dI cI cJ cZ g H.size) cw ⟨pBM.blind, va_recv hKc hPc (ci := 1) (q0 := 0) rfl rfl, fun U hU hW => ⟨rfl, by rw [hU], by rw [hU]; exact hPc, va_K.moved hW.alike hKc, hDc.weaken (fun _ _ _ _ => trivial)⟩⟩ rfl hn hl hst (lv_room hroom) hdg ⟨hc, hs⟩) hP hS hA (fun H1 locs1 hP1 hS1 _ => kk H1 locs1 hP1 hD hS1)
theorem lwm_wi {r : Int32} (S : CallFix p m c cc nL s args Ts own) (hM : wMi l y ws rm τ As r τ') (cw : CallW R s args own RX1 index y bytes maxL ret ws rm 0 0 n)
    (hK : va_K (dC, dI) vwCl [(cI, .int), (cJ, .long), (cZ, .boolean)] s) (hP : va_P (dC, dI) vwCl (wLW cI cJ cZ h g o σ τ f) H) (hD : va_D A (wLW cI cJ cZ h g o σ τ f)) (hS : va_S A s.heap H locs) (hA : ∀ q, s.heap.size ≤ q → A q)
    (hl : ls.size = nL) (hn : As.length = n) (hst : st0 = As.reverse ++ .ref (g 0) :: rest) (hroom : (rest.map fun v => v.category).sum ≤ 8) (hdg : decode cc pc = .ok (.invokevirtual index, 3)) (hc : cells ≤ R.cells) (hs : slots ≤ R.slots)
    (kk : ∀ (H1 : Heap) (locs1 : List Loc), va_P (dC, dI) vwCl (wLW cI cJ cZ h g o σ τ' f) H1 → va_D A (wLW cI cJ cZ h g o σ τ' f) → va_S A s.heap H1 locs1 → W p l e R s m args below meth c H1 locs1 cells slots Q (F0 m (pc + 3) ls (.int r :: rest))) :
    W p l e R s m args below meth c H locs cells slots Q (F0 m pc ls st0) := by
  have hPc : va_P (dC, dI) vwCl (wBM cI cJ cZ g τ) H := hP.sub [10, 11, 12, 13, 14, 15, 16, 17, 18, 19, 20, 21] rfl
  have hDc : va_D A (wBM cI cJ cZ g τ) := hD.sub [10, 11, 12, 13, 14, 15, 16, 17, 18, 19, 20, 21] (by decide) rfl
  have hKc : va_K (dC, dI) vwCl [(cI, .int), (cJ, .long), (cZ, .boolean)] s := hK.sub [0, 1, 2] rfl
  have hFc := va_free (wc := wBM cI cJ cZ g τ) hD hS hA [10, 11, 12, 13, 14, 15, 16, 17, 18, 19, 20, 21] rfl
  refine va_calli (va_runV (As := As) (rest := rest) S (hM dC dI cI cJ cZ g H.size) cw ⟨pBM.blind, va_recv hKc hPc (ci := 1) (q0 := 0) rfl rfl, fun U hU hW => ⟨rfl, by rw [hU], by rw [hU]; exact hPc, va_K.moved hW.alike hKc, hDc.weaken (fun _ _ _ _ => trivial)⟩⟩ rfl hn hl hst (lv_room hroom) hdg ⟨hc, hs⟩) hS (fun q _ h => hFc q h) hFc (fun r' u t H1 locs1 ht hvm hw hB hz1 hk1 hS1 => ?_)
  subst hw
  obtain ⟨hP1, hK1, hD1⟩ := hB
  rw [ht] at hP1
  obtain ⟨hP2, hD2⟩ := va_join (wr := wBJ cI cJ h σ ++ [oC cJ o f]) (w1 := wBM cI cJ cZ g τ') hP hD [10, 11, 12, 13, 14, 15, 16, 17, 18, 19, 20, 21] [0, 1, 2, 3, 4, 5, 6, 7, 8, 9, 22] rfl rfl (by decide) (by decide) hk1 hFc hP1 hD1
  exact kk H1 locs1 (hP2.sub [0, 1, 2, 3, 4, 5, 6, 7, 8, 9, 11, 12, 13, 14, 15, 16, 17, 18, 19, 20, 21, 22, 10] rfl) (hD2.sub [0, 1, 2, 3, 4, 5, 6, 7, 8, 9, 11, 12, 13, 14, 15, 16, 17, 18, 19, 20, 21, 22, 10] (by decide) rfl) hS1
theorem lwm_rl {r : Int64} (S : CallFix p m c cc nL s args Ts own) (hM : rMl l y ws rm τ As r) (cw : CallW R s args own RX1 index y bytes maxL ret ws rm 0 0 n)
    (hK : va_K (dC, dI) vwCl [(cI, .int), (cJ, .long), (cZ, .boolean)] s) (hP : va_P (dC, dI) vwCl (wLW cI cJ cZ h g o σ τ f) H) (hD : va_D A (wLW cI cJ cZ h g o σ τ f)) (hS : va_S A s.heap H locs) (hA : ∀ q, s.heap.size ≤ q → A q)
    (hl : ls.size = nL) (hn : As.length = n) (hst : st0 = As.reverse ++ .ref (g 0) :: rest) (hroom : (rest.map fun v => v.category).sum ≤ 8) (hdg : decode cc pc = .ok (.invokevirtual index, 3)) (hc : cells ≤ R.cells) (hs : slots ≤ R.slots)
    (kk : ∀ (H1 : Heap) (locs1 : List Loc), va_P (dC, dI) vwCl (wLW cI cJ cZ h g o σ τ f) H1 → va_D A (wLW cI cJ cZ h g o σ τ f) → va_S A s.heap H1 locs1 → W p l e R s m args below meth c H1 locs1 cells slots Q (F0 m (pc + 3) ls (.long r :: rest))) :
    W p l e R s m args below meth c H locs cells slots Q (F0 m pc ls st0) := by
  have hPc : va_P (dC, dI) vwCl (wBM cI cJ cZ g τ) H := hP.sub [10, 11, 12, 13, 14, 15, 16, 17, 18, 19, 20, 21] rfl
  have hDc : va_D A (wBM cI cJ cZ g τ) := hD.sub [10, 11, 12, 13, 14, 15, 16, 17, 18, 19, 20, 21] (by decide) rfl
  have hKc : va_K (dC, dI) vwCl [(cI, .int), (cJ, .long), (cZ, .boolean)] s := hK.sub [0, 1, 2] rfl
  exact xr_rol (va_runV (As := As) (rest := rest) S (hM dC dI cI cJ cZ g H.size) cw ⟨pBM.blind, va_recv hKc hPc (ci := 1) (q0 := 0) rfl rfl, fun U hU hW => ⟨rfl, by rw [hU], by rw [hU]; exact hPc, va_K.moved hW.alike hKc, hDc.weaken (fun _ _ _ _ => trivial)⟩⟩ rfl hn hl hst (lv_room hroom) hdg ⟨hc, hs⟩) hP hS hA (fun H1 locs1 hP1 hS1 _ => kk H1 locs1 hP1 hD hS1)
theorem lwm_wl {r : Int64} (S : CallFix p m c cc nL s args Ts own) (hM : wMl l y ws rm τ As r τ') (cw : CallW R s args own RX1 index y bytes maxL ret ws rm 0 0 n)
    (hK : va_K (dC, dI) vwCl [(cI, .int), (cJ, .long), (cZ, .boolean)] s) (hP : va_P (dC, dI) vwCl (wLW cI cJ cZ h g o σ τ f) H) (hD : va_D A (wLW cI cJ cZ h g o σ τ f)) (hS : va_S A s.heap H locs) (hA : ∀ q, s.heap.size ≤ q → A q)
    (hl : ls.size = nL) (hn : As.length = n) (hst : st0 = As.reverse ++ .ref (g 0) :: rest) (hroom : (rest.map fun v => v.category).sum ≤ 8) (hdg : decode cc pc = .ok (.invokevirtual index, 3)) (hc : cells ≤ R.cells) (hs : slots ≤ R.slots)
    (kk : ∀ (H1 : Heap) (locs1 : List Loc), va_P (dC, dI) vwCl (wLW cI cJ cZ h g o σ τ' f) H1 → va_D A (wLW cI cJ cZ h g o σ τ' f) → va_S A s.heap H1 locs1 → W p l e R s m args below meth c H1 locs1 cells slots Q (F0 m (pc + 3) ls (.long r :: rest))) :
    W p l e R s m args below meth c H locs cells slots Q (F0 m pc ls st0) := by
  have hPc : va_P (dC, dI) vwCl (wBM cI cJ cZ g τ) H := hP.sub [10, 11, 12, 13, 14, 15, 16, 17, 18, 19, 20, 21] rfl
  have hDc : va_D A (wBM cI cJ cZ g τ) := hD.sub [10, 11, 12, 13, 14, 15, 16, 17, 18, 19, 20, 21] (by decide) rfl
  have hKc : va_K (dC, dI) vwCl [(cI, .int), (cJ, .long), (cZ, .boolean)] s := hK.sub [0, 1, 2] rfl
  have hFc := va_free (wc := wBM cI cJ cZ g τ) hD hS hA [10, 11, 12, 13, 14, 15, 16, 17, 18, 19, 20, 21] rfl
  refine va_calll (va_runV (As := As) (rest := rest) S (hM dC dI cI cJ cZ g H.size) cw ⟨pBM.blind, va_recv hKc hPc (ci := 1) (q0 := 0) rfl rfl, fun U hU hW => ⟨rfl, by rw [hU], by rw [hU]; exact hPc, va_K.moved hW.alike hKc, hDc.weaken (fun _ _ _ _ => trivial)⟩⟩ rfl hn hl hst (lv_room hroom) hdg ⟨hc, hs⟩) hS (fun q _ h => hFc q h) hFc (fun r' u t H1 locs1 ht hvm hw hB hz1 hk1 hS1 => ?_)
  subst hw
  obtain ⟨hP1, hK1, hD1⟩ := hB
  rw [ht] at hP1
  obtain ⟨hP2, hD2⟩ := va_join (wr := wBJ cI cJ h σ ++ [oC cJ o f]) (w1 := wBM cI cJ cZ g τ') hP hD [10, 11, 12, 13, 14, 15, 16, 17, 18, 19, 20, 21] [0, 1, 2, 3, 4, 5, 6, 7, 8, 9, 22] rfl rfl (by decide) (by decide) hk1 hFc hP1 hD1
  exact kk H1 locs1 (hP2.sub [0, 1, 2, 3, 4, 5, 6, 7, 8, 9, 11, 12, 13, 14, 15, 16, 17, 18, 19, 20, 21, 22, 10] rfl) (hD2.sub [0, 1, 2, 3, 4, 5, 6, 7, 8, 9, 11, 12, 13, 14, 15, 16, 17, 18, 19, 20, 21, 22, 10] (by decide) rfl) hS1
theorem lwm_rv (S : CallFix p m c cc nL s args Ts own) (hM : rMv l y ws rm τ As) (cw : CallW R s args own RX1 index y bytes maxL ret ws rm 0 0 n)
    (hK : va_K (dC, dI) vwCl [(cI, .int), (cJ, .long), (cZ, .boolean)] s) (hP : va_P (dC, dI) vwCl (wLW cI cJ cZ h g o σ τ f) H) (hD : va_D A (wLW cI cJ cZ h g o σ τ f)) (hS : va_S A s.heap H locs) (hA : ∀ q, s.heap.size ≤ q → A q)
    (hl : ls.size = nL) (hn : As.length = n) (hst : st0 = As.reverse ++ .ref (g 0) :: rest) (hroom : (rest.map fun v => v.category).sum ≤ 8) (hdg : decode cc pc = .ok (.invokevirtual index, 3)) (hc : cells ≤ R.cells) (hs : slots ≤ R.slots)
    (kk : ∀ (H1 : Heap) (locs1 : List Loc), va_P (dC, dI) vwCl (wLW cI cJ cZ h g o σ τ f) H1 → va_D A (wLW cI cJ cZ h g o σ τ f) → va_S A s.heap H1 locs1 → W p l e R s m args below meth c H1 locs1 cells slots Q (F0 m (pc + 3) ls rest)) :
    W p l e R s m args below meth c H locs cells slots Q (F0 m pc ls st0) := by
  have hPc : va_P (dC, dI) vwCl (wBM cI cJ cZ g τ) H := hP.sub [10, 11, 12, 13, 14, 15, 16, 17, 18, 19, 20, 21] rfl
  have hDc : va_D A (wBM cI cJ cZ g τ) := hD.sub [10, 11, 12, 13, 14, 15, 16, 17, 18, 19, 20, 21] (by decide) rfl
  have hKc : va_K (dC, dI) vwCl [(cI, .int), (cJ, .long), (cZ, .boolean)] s := hK.sub [0, 1, 2] rfl
  exact xr_rov (va_runV (As := As) (rest := rest) S (hM dC dI cI cJ cZ g H.size) cw ⟨pBM.blind, va_recv hKc hPc (ci := 1) (q0 := 0) rfl rfl, fun U hU hW => ⟨rfl, by rw [hU], by rw [hU]; exact hPc, va_K.moved hW.alike hKc, hDc.weaken (fun _ _ _ _ => trivial)⟩⟩ rfl hn hl hst (lv_room hroom) hdg ⟨hc, hs⟩) hP hS hA (fun H1 locs1 hP1 hS1 _ => kk H1 locs1 hP1 hD hS1)
theorem lwm_wv (S : CallFix p m c cc nL s args Ts own) (hM : wMv l y ws rm τ As τ') (cw : CallW R s args own RX1 index y bytes maxL ret ws rm 0 0 n)
    (hK : va_K (dC, dI) vwCl [(cI, .int), (cJ, .long), (cZ, .boolean)] s) (hP : va_P (dC, dI) vwCl (wLW cI cJ cZ h g o σ τ f) H) (hD : va_D A (wLW cI cJ cZ h g o σ τ f)) (hS : va_S A s.heap H locs) (hA : ∀ q, s.heap.size ≤ q → A q)
    (hl : ls.size = nL) (hn : As.length = n) (hst : st0 = As.reverse ++ .ref (g 0) :: rest) (hroom : (rest.map fun v => v.category).sum ≤ 8) (hdg : decode cc pc = .ok (.invokevirtual index, 3)) (hc : cells ≤ R.cells) (hs : slots ≤ R.slots)
    (kk : ∀ (H1 : Heap) (locs1 : List Loc), va_P (dC, dI) vwCl (wLW cI cJ cZ h g o σ τ' f) H1 → va_D A (wLW cI cJ cZ h g o σ τ' f) → va_S A s.heap H1 locs1 → W p l e R s m args below meth c H1 locs1 cells slots Q (F0 m (pc + 3) ls rest)) :
    W p l e R s m args below meth c H locs cells slots Q (F0 m pc ls st0) := by
  have hPc : va_P (dC, dI) vwCl (wBM cI cJ cZ g τ) H := hP.sub [10, 11, 12, 13, 14, 15, 16, 17, 18, 19, 20, 21] rfl
  have hDc : va_D A (wBM cI cJ cZ g τ) := hD.sub [10, 11, 12, 13, 14, 15, 16, 17, 18, 19, 20, 21] (by decide) rfl
  have hKc : va_K (dC, dI) vwCl [(cI, .int), (cJ, .long), (cZ, .boolean)] s := hK.sub [0, 1, 2] rfl
  have hFc := va_free (wc := wBM cI cJ cZ g τ) hD hS hA [10, 11, 12, 13, 14, 15, 16, 17, 18, 19, 20, 21] rfl
  refine va_callv (va_runV (As := As) (rest := rest) S (hM dC dI cI cJ cZ g H.size) cw ⟨pBM.blind, va_recv hKc hPc (ci := 1) (q0 := 0) rfl rfl, fun U hU hW => ⟨rfl, by rw [hU], by rw [hU]; exact hPc, va_K.moved hW.alike hKc, hDc.weaken (fun _ _ _ _ => trivial)⟩⟩ rfl hn hl hst (lv_room hroom) hdg ⟨hc, hs⟩) hS (fun q _ h => hFc q h) hFc (fun u t H1 locs1 ht hvm hw hB hz1 hk1 hS1 => ?_)
  obtain ⟨hP1, hK1, hD1⟩ := hB
  rw [ht] at hP1
  obtain ⟨hP2, hD2⟩ := va_join (wr := wBJ cI cJ h σ ++ [oC cJ o f]) (w1 := wBM cI cJ cZ g τ') hP hD [10, 11, 12, 13, 14, 15, 16, 17, 18, 19, 20, 21] [0, 1, 2, 3, 4, 5, 6, 7, 8, 9, 22] rfl rfl (by decide) (by decide) hk1 hFc hP1 hD1
  exact kk H1 locs1 (hP2.sub [0, 1, 2, 3, 4, 5, 6, 7, 8, 9, 11, 12, 13, 14, 15, 16, 17, 18, 19, 20, 21, 22, 10] rfl) (hD2.sub [0, 1, 2, 3, 4, 5, 6, 7, 8, 9, 11, 12, 13, 14, 15, 16, 17, 18, 19, 20, 21, 22, 10] (by decide) rfl) hS1
theorem lw_tw {Ag : Nat → List Value} {k : Nat} {v : Option Int64} (S : CallFix p m c cc nL s args Ts own) (hM : tW l y ws σ Ag k v σ') (hT : GoodIn Ts (va_wsS own index y ws)) (hw : ws = Cond.codeWith y bytes maxL ret hh :: ws')
    (hd : y.cls ≠ "java/lang/invoke/MethodHandle" ∧ y.cls ≠ "java/lang/invoke/VarHandle" ∧ (parseMethodDescriptor y.desc).map (fun d => d.parameters.length) = some n) (hfr : 8 + 1 ≤ R.frames) (hlo : 8 + (maxL + 11) + 170 ≤ R.locals) (hH : tx_H TXL s) (hN : tx_N s) (hA9 : A = fun q => s.heap.size ≤ q) (hAs : As = .ref (h 0) :: Ag o)
    (hK : va_K (dC, dI) vwCl [(cI, .int), (cJ, .long), (cZ, .boolean)] s) (hP : va_P (dC, dI) vwCl (wLW cI cJ cZ h g o σ τ f) H) (hD : va_D A (wLW cI cJ cZ h g o σ τ f)) (hS : va_S A s.heap H locs) (hA : ∀ q, s.heap.size ≤ q → A q)
    (hl : ls.size = nL) (hn : As.length = n) (hst : st0 = As.reverse ++ rest) (hroom : (rest.map fun v => v.category).sum ≤ 8) (hdg : decode cc pc = .ok (.invokestatic index, 3)) (hc : cells + 1 ≤ R.cells) (hs : slots + 6 ≤ R.slots)
    (kk : ∀ (H1 : Heap) (locs1 : List Loc), va_P (dC, dI) vwCl (wLW cI cJ cZ h g o σ' τ (ofV v f)) H1 → va_D A (wLW cI cJ cZ h g o σ' τ (ofV v f)) → va_S A s.heap H1 locs1 → W p l e R s m args below meth c H1 locs1 (cells + 1) (slots + 6) Q (F0 m (pc + 3) ls (.int (nI k) :: rest))) :
    W p l e R s m args below meth c H locs cells slots Q (F0 m pc ls st0) := by
  subst hAs
  have hPc : va_P (dC, dI) vwCl (wBO cI cJ h σ o f) H := hP.sub [0, 1, 2, 3, 4, 5, 6, 7, 8, 9, 22] rfl
  have hDc : va_D A (wBO cI cJ h σ o f) := hD.sub [0, 1, 2, 3, 4, 5, 6, 7, 8, 9, 22] (by decide) rfl
  have hKc : va_K (dC, dI) vwCl [(cI, .int), (cJ, .long)] s := hK.sub [0, 1] rfl
  have hFc := va_free (wc := wBO cI cJ h σ o f) hD hS hA [0, 1, 2, 3, 4, 5, 6, 7, 8, 9, 22] rfl
  have hold : ∀ q : Nat, q < s.heap.size → H[q]? = s.heap[q]? := fun q hq => hS.2.1 q hq (by rw [hA9]; exact Nat.not_le.mpr hq)
  refine va_calli (tw_runS (As := .ref (h 0) :: Ag o) (rest := rest) S (hM dC dI cI cJ h o f H.size) hT hw rfl rfl hd hfr hlo ⟨pBO.blind, fun U hU hW => ⟨rfl, by rw [hU], by rw [hU]; exact hPc, va_K.moved hW.alike hKc, hDc.weaken (fun _ _ _ _ => trivial), hH.keep hW (fun q hq => by rw [hU]; exact hold q hq), hN.moved hW.alike⟩⟩ rfl hn hl hst (lv_room hroom) hdg ⟨hc, hs⟩) hS (fun q _ h => hFc q h) hFc (fun r' u t H1 locs1 ht hvm hw hB hz1 hk1 hS1 => ?_)
  subst hw
  obtain ⟨hP1, hK1, hD1⟩ := hB
  rw [ht] at hP1
  obtain ⟨hP2, hD2⟩ := va_join (wr := wBM cI cJ cZ g τ) (w1 := wBO cI cJ h σ' o (ofV v f)) hP hD [0, 1, 2, 3, 4, 5, 6, 7, 8, 9, 22] [10, 11, 12, 13, 14, 15, 16, 17, 18, 19, 20, 21] rfl rfl (by decide) (by decide) hk1 hFc hP1 hD1
  exact kk H1 locs1 (hP2.sub [12, 13, 14, 15, 16, 17, 18, 19, 20, 21, 0, 1, 2, 3, 4, 5, 6, 7, 8, 9, 10, 11, 22] rfl) (hD2.sub [12, 13, 14, 15, 16, 17, 18, 19, 20, 21, 0, 1, 2, 3, 4, 5, 6, 7, 8, 9, 10, 11, 22] (by decide) rfl) hS1
end LWC
