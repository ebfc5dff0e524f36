/-! the law's own methods: a call of the class; what it throws is caught and told by a number -/
def tcP : List (String × String) := [("java/util/NoSuchElementException", "java/lang/IllegalArgumentException"), ("java/lang/UnsupportedOperationException", "java/lang/IllegalArgumentException"), ("java/lang/UnsupportedOperationException", "java/util/NoSuchElementException"), ("java/lang/IndexOutOfBoundsException", "java/util/NoSuchElementException")]
def tx_N (U : State) : Prop := ∀ q ∈ tcP, ∀ a b : ClassId, U.vm.findClass q.1 = some a → U.vm.findClass q.2 = some b → U.vm.assignable a b = false
theorem tx_N.moved {u U : State} (hvm : u.vm.Alike U.vm) (h : tx_N u) : tx_N U := fun q hq a b h1 h2 => by
  rw [hvm.assignable]
  exact h q hq a b (by rw [← hvm.findClass]; exact h1) (by rw [← hvm.findClass]; exact h2)
theorem tx_N.of {args : Array Value} {s : State} (h : ∀ q ∈ tcP, (Cond.not (.castable q.1 q.2)).before args s = true) : tx_N s := by
  intro q hq a b h1 h2
  have h9 := h q hq
  simpa [Cond.before, Cond.holds, Cond.value, h1, h2] using h9
def oC (cJ : ClassId) (o : Nat) (f : Nat → Int64) : Nat × va_E := (o, .inl (cJ, 1, .inr (.inl f)))
def wBO (cI cJ : ClassId) (h : Nat → Nat) (σ : BJ) (o : Nat) (f : Nat → Int64) : va_W := wBJ cI cJ h σ ++ [oC cJ o f]
def pBO (dC : Nat → ClassId) (dI : Nat → Nat → Nat) (cI cJ : ClassId) (h : Nat → Nat) (o : Nat) (f : Nat → Int64) (sz : Nat) (σ : BJ) (U : State) : Prop := U.heap.size = sz ∧ va_P (dC, dI) vwCl (wBO cI cJ h σ o f) U.heap ∧ va_K (dC, dI) vwCl [(cI, .int), (cJ, .long)] U ∧ va_D (fun _ => True) (wBO cI cJ h σ o f) ∧ tx_H TXL U ∧ tx_N U
theorem pBO.blind {dC : Nat → ClassId} {dI : Nat → Nat → Nat} {cI cJ : ClassId} {h : Nat → Nat} {o : Nat} {f : Nat → Int64} {sz : Nat} {σ : BJ} {av : List Value} : FrameBlind (va_Pc av (pBO dC dI cI cJ h o f sz σ)) :=
  fun a U g mk q => ⟨q.1, q.2.1, q.2.2.1, va_K.moved (u := U) (U := U.calling g mk a) (Vm.Alike.refl U.vm) q.2.2.2.1, q.2.2.2.2.1, q.2.2.2.2.2.1.calling g mk a, tx_N.moved (u := U) (U := U.calling g mk a) (Vm.Alike.refl U.vm) q.2.2.2.2.2.2⟩
def ofV (v : Option Int64) (f : Nat → Int64) : Nat → Int64 := match v with
  | none => f
  | some x => vp_updL f 0 x
/-- one of the law's own: it answers k; the class is now σ'; out holds v -/
def tW (l : Launch) (y : MethodName) (ws : List Cond) (σ : BJ) (As : Nat → List Value) (k : Nat) (v : Option Int64) (σ' : BJ) : Prop := ∀ (dC : Nat → ClassId) (dI : Nat → Nat → Nat) (cI cJ : ClassId) (h : Nat → Nat) (o : Nat) (f : Nat → Int64) (sz : Nat),
  Met l y ws ({ frames := 8, cells := 1, slots := 6, locals := 170 } : Room) (va_Pc (.ref (h 0) :: As o) (pBO dC dI cI cJ h o f sz σ)) (va_Qi (fun (r : Int32) (_ : Unit) => r = nI k) (fun _ t => va_P (dC, dI) vwCl (wBO cI cJ h σ' o (ofV v f)) t.heap ∧ va_K (dC, dI) vwCl [(cI, .int), (cJ, .long)] t ∧ va_D (va_A (wBO cI cJ h σ o f) sz) (wBO cI cJ h σ' o (ofV v f))) (va_A (wBO cI cJ h σ o f) sz)) 1 6 (va_A (wBO cI cJ h σ o f) sz)
section BOC
variable {p : Program} {l : Launch} {e : Env} {R : Room} {s : State} {m : MethodId} {args : Array Value} {below : List Frame} {meth : Method} {c : Code} {H : Heap} {locs : List Loc} {cells slots : Nat} {Q : State → Prop}
variable {cc bytes : ByteArray} {pc nL maxL n index : Nat} {ls : Array Slot} {As rest st0 : List Value} {Ts ws : List Cond} {own : String} {y : MethodName} {ret : Option FieldType} {rm : Room}
variable {dC : Nat → ClassId} {dI : Nat → Nat → Nat} {cI cJ : ClassId} {h : Nat → Nat} {σ σ' : BJ} {A : Nat → Prop} {H0 : Heap} {o : Nat} {f : Nat → Int64}
theorem bo_ri {r : Int32} (S : CallFix p m c cc nL s args Ts own) (hM : rBi l y ws rm σ As r) (cw : CallW R s args own RX0 index y bytes maxL ret ws rm 0 0 n)
    (hK : va_K (dC, dI) vwCl [(cI, .int), (cJ, .long)] s) (hP : va_P (dC, dI) vwCl (wBO cI cJ h σ o f) H) (hD : va_D A (wBO cI cJ h σ o f)) (hS : va_S A H0 H locs) (hA : ∀ q, H0.size ≤ q → A q)
    (hl : ls.size = nL) (hn : As.length = n) (hst : st0 = As.reverse ++ .ref (h 0) :: rest) (hroom : (rest.map fun v => v.category).sum ≤ 8) (hdg : decode cc pc = .ok (.invokevirtual index, 3)) (hc : cells ≤ R.cells) (hs : slots ≤ R.slots)
    (kk : ∀ (H1 : Heap) (locs1 : List Loc), va_P (dC, dI) vwCl (wBO cI cJ h σ o f) H1 → va_D A (wBO cI cJ h σ o f) → va_S A H0 H1 locs1 → W p l e R s m args below meth c H1 locs1 cells slots Q (F0 m (pc + 3) ls (.int r :: rest))) :
    W p l e R s m args below meth c H locs cells slots Q (F0 m pc ls st0) := by
  have hPc : va_P (dC, dI) vwCl (wBJ cI cJ h σ) H := hP.sub [0, 1, 2, 3, 4, 5, 6, 7, 8, 9] rfl
  have hDc : va_D A (wBJ cI cJ h σ) := hD.sub [0, 1, 2, 3, 4, 5, 6, 7, 8, 9] (by decide) rfl
  exact xr_roi (va_runV (As := As) (rest := rest) S (hM dC dI cI cJ h H.size) cw ⟨pBJ.blind, va_recv hK hPc (ci := 0) (q0 := 0) rfl rfl, fun U hU hW => ⟨rfl, by rw [hU], by rw [hU]; exact hPc, va_K.moved hW.alike hK, hDc.weaken (fun _ _ _ _ => trivial)⟩⟩ rfl hn hl hst (lv_room hroom) hdg ⟨hc, hs⟩) hP hS hA (fun H1 locs1 hP1 hS1 _ => kk H1 locs1 hP1 hD hS1)
theorem bo_wi {r : Int32} (S : CallFix p m c cc nL s args Ts own) (hM : wBi l y ws rm σ As r σ') (cw : CallW R s args own RX0 index y bytes maxL ret ws rm 0 0 n)
    (hK : va_K (dC, dI) vwCl [(cI, .int), (cJ, .long)] s) (hP : va_P (dC, dI) vwCl (wBO cI cJ h σ o f) H) (hD : va_D A (wBO cI cJ h σ o f)) (hS : va_S A H0 H locs) (hA : ∀ q, H0.size ≤ q → A q)
    (hl : ls.size = nL) (hn : As.length = n) (hst : st0 = As.reverse ++ .ref (h 0) :: rest) (hroom : (rest.map fun v => v.category).sum ≤ 8) (hdg : decode cc pc = .ok (.invokevirtual index, 3)) (hc : cells ≤ R.cells) (hs : slots ≤ R.slots)
    (kk : ∀ (H1 : Heap) (locs1 : List Loc), va_P (dC, dI) vwCl (wBO cI cJ h σ' o f) H1 → va_D A (wBO cI cJ h σ' o f) → va_S A H0 H1 locs1 → W p l e R s m args below meth c H1 locs1 cells slots Q (F0 m (pc + 3) ls (.int r :: rest))) :
    W p l e R s m args below meth c H locs cells slots Q (F0 m pc ls st0) := by
  have hPc : va_P (dC, dI) vwCl (wBJ cI cJ h σ) H := hP.sub [0, 1, 2, 3, 4, 5, 6, 7, 8, 9] rfl
  have hDc : va_D A (wBJ cI cJ h σ) := hD.sub [0, 1, 2, 3, 4, 5, 6, 7, 8, 9] (by decide) rfl
  have hFc := va_free (wc := wBJ cI cJ h σ) hD hS hA [0, 1, 2, 3, 4, 5, 6, 7, 8, 9] rfl
  refine va_calli (va_runV (As := As) (rest := rest) S (hM dC dI cI cJ h H.size) cw ⟨pBJ.blind, va_recv hK hPc (ci := 0) (q0 := 0) rfl rfl, fun U hU hW => ⟨rfl, by rw [hU], by rw [hU]; exact hPc, va_K.moved hW.alike hK, hDc.weaken (fun _ _ _ _ => trivial)⟩⟩ rfl hn hl hst (lv_room hroom) hdg ⟨hc, hs⟩) hS (fun q _ h => hFc q h) hFc (fun r' u t H1 locs1 ht hvm hw hB hz1 hk1 hS1 => ?_)
  subst hw
  obtain ⟨hP1, hK1, hD1⟩ := hB
  rw [ht] at hP1
  obtain ⟨hP2, hD2⟩ := va_join (wr := [oC cJ o f]) (w1 := wBJ cI cJ h σ') hP hD [0, 1, 2, 3, 4, 5, 6, 7, 8, 9] [10] rfl rfl (by decide) (by decide) hk1 hFc hP1 hD1
  exact kk H1 locs1 (hP2.sub [1, 2, 3, 4, 5, 6, 7, 8, 9, 10, 0] rfl) (hD2.sub [1, 2, 3, 4, 5, 6, 7, 8, 9, 10, 0] (by decide) rfl) hS1
theorem bo_rl {r : Int64} (S : CallFix p m c cc nL s args Ts own) (hM : rBl l y ws rm σ As r) (cw : CallW R s args own RX0 index y bytes maxL ret ws rm 0 0 n)
    (hK : va_K (dC, dI) vwCl [(cI, .int), (cJ, .long)] s) (hP : va_P (dC, dI) vwCl (wBO cI cJ h σ o f) H) (hD : va_D A (wBO cI cJ h σ o f)) (hS : va_S A H0 H locs) (hA : ∀ q, H0.size ≤ q → A q)
    (hl : ls.size = nL) (hn : As.length = n) (hst : st0 = As.reverse ++ .ref (h 0) :: rest) (hroom : (rest.map fun v => v.category).sum ≤ 8) (hdg : decode cc pc = .ok (.invokevirtual index, 3)) (hc : cells ≤ R.cells) (hs : slots ≤ R.slots)
    (kk : ∀ (H1 : Heap) (locs1 : List Loc), va_P (dC, dI) vwCl (wBO cI cJ h σ o f) H1 → va_D A (wBO cI cJ h σ o f) → va_S A H0 H1 locs1 → W p l e R s m args below meth c H1 locs1 cells slots Q (F0 m (pc + 3) ls (.long r :: rest))) :
    W p l e R s m args below meth c H locs cells slots Q (F0 m pc ls st0) := by
  have hPc : va_P (dC, dI) vwCl (wBJ cI cJ h σ) H := hP.sub [0, 1, 2, 3, 4, 5, 6, 7, 8, 9] rfl
  have hDc : va_D A (wBJ cI cJ h σ) := hD.sub [0, 1, 2, 3, 4, 5, 6, 7, 8, 9] (by decide) rfl
  exact xr_rol (va_runV (As := As) (rest := rest) S (hM dC dI cI cJ h H.size) cw ⟨pBJ.blind, va_recv hK hPc (ci := 0) (q0 := 0) rfl rfl, fun U hU hW => ⟨rfl, by rw [hU], by rw [hU]; exact hPc, va_K.moved hW.alike hK, hDc.weaken (fun _ _ _ _ => trivial)⟩⟩ rfl hn hl hst (lv_room hroom) hdg ⟨hc, hs⟩) hP hS hA (fun H1 locs1 hP1 hS1 _ => kk H1 locs1 hP1 hD hS1)
theorem bo_wl {r : Int64} (S : CallFix p m c cc nL s args Ts own) (hM : wBl l y ws rm σ As r σ') (cw : CallW R s args own RX0 index y bytes maxL ret ws rm 0 0 n)
    (hK : va_K (dC, dI) vwCl [(cI, .int), (cJ, .long)] s) (hP : va_P (dC, dI) vwCl (wBO cI cJ h σ o f) H) (hD : va_D A (wBO cI cJ h σ o f)) (hS : va_S A H0 H locs) (hA : ∀ q, H0.size ≤ q → A q)
    (hl : ls.size = nL) (hn : As.length = n) (hst : st0 = As.reverse ++ .ref (h 0) :: rest) (hroom : (rest.map fun v => v.category).sum ≤ 8) (hdg : decode cc pc = .ok (.invokevirtual index, 3)) (hc : cells ≤ R.cells) (hs : slots ≤ R.slots)
    (kk : ∀ (H1 : Heap) (locs1 : List Loc), va_P (dC, dI) vwCl (wBO cI cJ h σ' o f) H1 → va_D A (wBO cI cJ h σ' o f) → va_S A H0 H1 locs1 → W p l e R s m args below meth c H1 locs1 cells slots Q (F0 m (pc + 3) ls (.long r :: rest))) :
    W p l e R s m args below meth c H locs cells slots Q (F0 m pc ls st0) := by
  have hPc : va_P (dC, dI) vwCl (wBJ cI cJ h σ) H := hP.sub [0, 1, 2, 3, 4, 5, 6, 7, 8, 9] rfl
  have hDc : va_D A (wBJ cI cJ h σ) := hD.sub [0, 1, 2, 3, 4, 5, 6, 7, 8, 9] (by decide) rfl
  have hFc := va_free (wc := wBJ cI cJ h σ) hD hS hA [0, 1, 2, 3, 4, 5, 6, 7, 8, 9] rfl
  refine va_calll (va_runV (As := As) (rest := rest) S (hM dC dI cI cJ h H.size) cw ⟨pBJ.blind, va_recv hK hPc (ci := 0) (q0 := 0) rfl rfl, fun U hU hW => ⟨rfl, by rw [hU], by rw [hU]; exact hPc, va_K.moved hW.alike hK, hDc.weaken (fun _ _ _ _ => trivial)⟩⟩ rfl hn hl hst (lv_room hroom) hdg ⟨hc, hs⟩) hS (fun q _ h => hFc q h) hFc (fun r' u t H1 locs1 ht hvm hw hB hz1 hk1 hS1 => ?_)
  subst hw
  obtain ⟨hP1, hK1, hD1⟩ := hB
  rw [ht] at hP1
  obtain ⟨hP2, hD2⟩ := va_join (wr := [oC cJ o f]) (w1 := wBJ cI cJ h σ') hP hD [0, 1, 2, 3, 4, 5, 6, 7, 8, 9] [10] rfl rfl (by decide) (by decide) hk1 hFc hP1 hD1
  exact kk H1 locs1 (hP2.sub [1, 2, 3, 4, 5, 6, 7, 8, 9, 10, 0] rfl) (hD2.sub [1, 2, 3, 4, 5, 6, 7, 8, 9, 10, 0] (by decide) rfl) hS1
theorem bo_rv (S : CallFix p m c cc nL s args Ts own) (hM : rBv l y ws rm σ As) (cw : CallW R s args own RX0 index y bytes maxL ret ws rm 0 0 n)
    (hK : va_K (dC, dI) vwCl [(cI, .int), (cJ, .long)] s) (hP : va_P (dC, dI) vwCl (wBO cI cJ h σ o f) H) (hD : va_D A (wBO cI cJ h σ o f)) (hS : va_S A H0 H locs) (hA : ∀ q, H0.size ≤ q → A q)
    (hl : ls.size = nL) (hn : As.length = n) (hst : st0 = As.reverse ++ .ref (h 0) :: rest) (hroom : (rest.map fun v => v.category).sum ≤ 8) (hdg : decode cc pc = .ok (.invokevirtual index, 3)) (hc : cells ≤ R.cells) (hs : slots ≤ R.slots)
    (kk : ∀ (H1 : Heap) (locs1 : List Loc), va_P (dC, dI) vwCl (wBO cI cJ h σ o f) H1 → va_D A (wBO cI cJ h σ o f) → va_S A H0 H1 locs1 → W p l e R s m args below meth c H1 locs1 cells slots Q (F0 m (pc + 3) ls rest)) :
    W p l e R s m args below meth c H locs cells slots Q (F0 m pc ls st0) := by
  have hPc : va_P (dC, dI) vwCl (wBJ cI cJ h σ) H := hP.sub [0, 1, 2, 3, 4, 5, 6, 7, 8, 9] rfl
  have hDc : va_D A (wBJ cI cJ h σ) := hD.sub [0, 1, 2, 3, 4, 5, 6, 7, 8, 9] (by decide) rfl
  exact xr_rov (va_runV (As := As) (rest := rest) S (hM dC dI cI cJ h H.size) cw ⟨pBJ.blind, va_recv hK hPc (ci := 0) (q0 := 0) rfl rfl, fun U hU hW => ⟨rfl, by rw [hU], by rw [hU]; exact hPc, va_K.moved hW.alike hK, hDc.weaken (fun _ _ _ _ => trivial)⟩⟩ rfl hn hl hst (lv_room hroom) hdg ⟨hc, hs⟩) hP hS hA (fun H1 locs1 hP1 hS1 _ => kk H1 locs1 hP1 hD hS1)
theorem bo_wv (S : CallFix p m c cc nL s args Ts own) (hM : wBv l y ws rm σ As σ') (cw : CallW R s args own RX0 index y bytes maxL ret ws rm 0 0 n)
    (hK : va_K (dC, dI) vwCl [(cI, .int), (cJ, .long)] s) (hP : va_P (dC, dI) vwCl (wBO cI cJ h σ o f) H) (hD : va_D A (wBO cI cJ h σ o f)) (hS : va_S A H0 H locs) (hA : ∀ q, H0.size ≤ q → A q)
    (hl : ls.size = nL) (hn : As.length = n) (hst : st0 = As.reverse ++ .ref (h 0) :: rest) (hroom : (rest.map fun v => v.category).sum ≤ 8) (hdg : decode cc pc = .ok (.invokevirtual index, 3)) (hc : cells ≤ R.cells) (hs : slots ≤ R.slots)
    (kk : ∀ (H1 : Heap) (locs1 : List Loc), va_P (dC, dI) vwCl (wBO cI cJ h σ' o f) H1 → va_D A (wBO cI cJ h σ' o f) → va_S A H0 H1 locs1 → W p l e R s m args below meth c H1 locs1 cells slots Q (F0 m (pc + 3) ls rest)) :
    W p l e R s m args below meth c H locs cells slots Q (F0 m pc ls st0) := by
  have hPc : va_P (dC, dI) vwCl (wBJ cI cJ h σ) H := hP.sub [0, 1, 2, 3, 4, 5, 6, 7, 8, 9] rfl
  have hDc : va_D A (wBJ cI cJ h σ) := hD.sub [0, 1, 2, 3, 4, 5, 6, 7, 8, 9] (by decide) rfl
  have hFc := va_free (wc := wBJ cI cJ h σ) hD hS hA [0, 1, 2, 3, 4, 5, 6, 7, 8, 9] rfl
  refine va_callv (va_runV (As := As) (rest := rest) S (hM dC dI cI cJ h H.size) cw ⟨pBJ.blind, va_recv hK hPc (ci := 0) (q0 := 0) rfl rfl, fun U hU hW => ⟨rfl, by rw [hU], by rw [hU]; exact hPc, va_K.moved hW.alike hK, hDc.weaken (fun _ _ _ _ => trivial)⟩⟩ rfl hn hl hst (lv_room hroom) hdg ⟨hc, hs⟩) hS (fun q _ h => hFc q h) hFc (fun u t H1 locs1 ht hvm hw hB hz1 hk1 hS1 => ?_)
  obtain ⟨hP1, hK1, hD1⟩ := hB
  rw [ht] at hP1
  obtain ⟨hP2, hD2⟩ := va_join (wr := [oC cJ o f]) (w1 := wBJ cI cJ h σ') hP hD [0, 1, 2, 3, 4, 5, 6, 7, 8, 9] [10] rfl rfl (by decide) (by decide) hk1 hFc hP1 hD1
  exact kk H1 locs1 (hP2.sub [1, 2, 3, 4, 5, 6, 7, 8, 9, 10, 0] rfl) (hD2.sub [1, 2, 3, 4, 5, 6, 7, 8, 9, 10, 0] (by decide) rfl) hS1
/-- a call of the class that throws an E, caught by the row z of the method's own table -/
theorem bo_t {E : String} (S : CallFix p m c cc nL s args Ts own) (hM : tB l y ws rm TXL σ As E) (cw : CallW R s args own RX0 index y bytes maxL ret ws rm 1 6 n)
    (hK : va_K (dC, dI) vwCl [(cI, .int), (cJ, .long)] s) (hP : va_P (dC, dI) vwCl (wBO cI cJ h σ o f) s.heap) (hD : va_D A (wBO cI cJ h σ o f)) (hA : ∀ q, s.heap.size ≤ q → A q) (hH : tx_H TXL s) (hN : tx_N s)
    (hl : ls.size = nL) (hn : As.length = n) (hst : st0 = As.reverse ++ .ref (h 0) :: rest) (hroom : (rest.map fun v => v.category).sum ≤ 8) (hdg : decode cc pc = .ok (.invokevirtual index, 3)) (hc : 0 + 1 ≤ R.cells) (hs : 0 + 6 ≤ R.slots)
    (pre : List ExceptionTableEntry) (z : ExceptionTableEntry) (suf : List ExceptionTableEntry) (hsplit : c.exceptionTable.toList = pre ++ z :: suf)
    (hpass : ∀ w ∈ pre, w.catchType ≠ 0 ∧ ∃ nm : String, (Cond.classLink own w.catchType nm).before args s = true ∧ (E, nm) ∈ tcP)
    (hz : covers z pc = true) (h0 : z.catchType ≠ 0) (hlink : (Cond.classLink own z.catchType E).before args s = true)
    (kk : ∀ (x : Addr) (H1 : Heap) (locs1 : List Loc), va_P (dC, dI) vwCl (wBO cI cJ h σ o f) H1 → va_S A s.heap H1 locs1 → W p l e R s m args below meth c H1 locs1 (0 + 1) (0 + 6) Q (F0 m z.handlerPc ls [.ref x])) :
    W p l e R s m args below meth c s.heap [] 0 0 Q (F0 m pc ls st0) := by
  have hPc : va_P (dC, dI) vwCl (wBJ cI cJ h σ) s.heap := hP.sub [0, 1, 2, 3, 4, 5, 6, 7, 8, 9] rfl
  have hDc : va_D A (wBJ cI cJ h σ) := hD.sub [0, 1, 2, 3, 4, 5, 6, 7, 8, 9] (by decide) rfl
  have hown := S.2.2.2.1
  refine tx_runV (As := As) (rest := rest) S (hM dC dI cI cJ h s.heap.size) cw ⟨fun a U g mk q => ⟨q.1, q.2.1.moved g mk a, q.2.2.calling g mk a⟩, va_recv hK hPc (ci := 0) (q0 := 0) rfl rfl, fun U hU hW => ⟨rfl, ⟨by rw [hU], by rw [hU]; exact hPc, va_K.moved hW.alike hK, hDc.weaken (fun _ _ _ _ => trivial)⟩, hH.keep hW (fun q hq => by rw [hU])⟩⟩ rfl hn hl hst (lv_room hroom) hdg ⟨hc, hs⟩
    (fun x st t H1 L g0 ht hvm hq hL => ?_)
  obtain ⟨⟨q1, q2⟩, ce, hce, hv, hcl⟩ := hq
  rw [g0] at q1 q2
  rw [ht] at q1 q2 hce
  have hcl' : s.vm.findClass E = some ce.cls := by rw [← hvm.findClass]; exact hcl
  have hk : ∀ q, q < s.heap.size → H1[q]? = s.heap[q]? := fun q h => q2 q h (Nat.not_le.mpr h)
  refine tx_catch hown pre z suf hsplit hce hv hcl' (fun w hw => ?_) hz h0 hlink (fun cT hcT => ?_) (kk x H1 ([] ++ L) (hP.kept fun k q hq => hk q.1 (hP k q hq).lt) ⟨q1, fun q h _ => hk q h, fun q hq => hA _ (hL q hq)⟩)
  · obtain ⟨w0, nm, w1, w2⟩ := hpass w hw
    exact Or.inr ⟨w0, nm, w1, fun cT hcT => hN _ w2 _ _ hcl' hcT⟩
  · cases hcl'.symm.trans hcT
    exact tx_refl _ _
end BOC
theorem tw_code {p : Program} {l : Launch} {x : MethodName} {S : Spec} {cc : ByteArray} {ml : Nat} {ret : Option FieldType} {e : Env} {s : State} {m : MethodId} {args : Array Value} {below : List Frame} {meth : Method} {c : Code} {s₁ : State} {hh : List (Nat × Nat × Nat × Nat)} (B : BodyLoose p l x S cc ml ret e s m args below meth c s₁) (h : (Cond.codeWith x cc ml ret hh).before args s = true) :
    c.exceptionTable.toList.map (fun h => (h.startPc, h.endPc, h.handlerPc, h.catchType)) = hh := by
  obtain ⟨m9, meth9, c9, q1, q2, q3, -, -, q6, -⟩ := Cond.codeWith_spec h
  cases B.named.symm.trans q1
  cases B.method.symm.trans q2
  cases (Stand.of_body B).code.symm.trans q3
  exact q6
theorem tw_one {L : List ExceptionTableEntry} {a b d k : Nat} {r : List (Nat × Nat × Nat × Nat)} (h : L.map (fun h => (h.startPc, h.endPc, h.handlerPc, h.catchType)) = (a, b, d, k) :: r) : ∃ (z : ExceptionTableEntry) (L' : List ExceptionTableEntry), L = z :: L' ∧ z.startPc = a ∧ z.endPc = b ∧ z.handlerPc = d ∧ z.catchType = k ∧ L'.map (fun h => (h.startPc, h.endPc, h.handlerPc, h.catchType)) = r := by
  cases L with
  | nil => cases h
  | cons z L' =>
    simp only [List.map_cons, List.cons.injEq, Prod.mk.injEq] at h
    exact ⟨z, L', rfl, h.1.1, h.1.2.1, h.1.2.2.1, h.1.2.2.2, h.2⟩
theorem tw_nil {L : List ExceptionTableEntry} (h : L.map (fun h => (h.startPc, h.endPc, h.handlerPc, h.catchType)) = []) : L = [] := List.map_eq_nil_iff.mp h
