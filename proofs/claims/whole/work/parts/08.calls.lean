/-! contracts of the class's methods in one form, and calls of them over the class's world -/
def pBJ (dC : Nat → ClassId) (dI : Nat → Nat → Nat) (cI cJ : ClassId) (h : Nat → Nat) (sz : Nat) (σ : BJ) (U : State) : Prop := U.heap.size = sz ∧ va_P (dC, dI) vwCl (wBJ cI cJ h σ) U.heap ∧ va_K (dC, dI) vwCl [(cI, .int), (cJ, .long)] U ∧ va_D (fun _ => True) (wBJ cI cJ h σ)
def aBJ (dC : Nat → ClassId) (dI : Nat → Nat → Nat) (cI cJ : ClassId) (h : Nat → Nat) (A : Nat → Prop) (σ : BJ) (t : State) : Prop := va_P (dC, dI) vwCl (wBJ cI cJ h σ) t.heap ∧ va_K (dC, dI) vwCl [(cI, .int), (cJ, .long)] t ∧ va_D A (wBJ cI cJ h σ)
theorem pBJ.moved {dC : Nat → ClassId} {dI : Nat → Nat → Nat} {cI cJ : ClassId} {h : Nat → Nat} {sz : Nat} {σ : BJ} {U : State} (q : pBJ dC dI cI cJ h sz σ U) (g : JFrame) (mk : MethodId) (a : Array Value) : pBJ dC dI cI cJ h sz σ (U.calling g mk a) := by
  obtain ⟨q1, qP, qK, qD⟩ := q
  exact ⟨q1, qP, va_K.moved (u := U) (U := U.calling g mk a) (Vm.Alike.refl U.vm) qK, qD⟩
theorem pBJ.blind {dC : Nat → ClassId} {dI : Nat → Nat → Nat} {cI cJ : ClassId} {h : Nat → Nat} {sz : Nat} {σ : BJ} {av : List Value} : FrameBlind (va_Pc av (pBJ dC dI cI cJ h sz σ)) :=
  fun a U g mk q => ⟨q.1, q.2.moved g mk a⟩
/-- reads, answers an int (a boolean) | a long -/
def rBi (l : Launch) (y : MethodName) (ws : List Cond) (rm : Room) (σ : BJ) (As : List Value) (r : Int32) : Prop := ∀ (dC : Nat → ClassId) (dI : Nat → Nat → Nat) (cI cJ : ClassId) (h : Nat → Nat) (sz : Nat),
  Met l y ws rm (va_Pc (.ref (h 0) :: As) (pBJ dC dI cI cJ h sz σ)) (va_Qi (fun (r' : Int32) (_ : Unit) => r' = r) (fun _ _ => True) (fun q => sz ≤ q)) 0 0 (fun q => sz ≤ q)
def rBl (l : Launch) (y : MethodName) (ws : List Cond) (rm : Room) (σ : BJ) (As : List Value) (r : Int64) : Prop := ∀ (dC : Nat → ClassId) (dI : Nat → Nat → Nat) (cI cJ : ClassId) (h : Nat → Nat) (sz : Nat),
  Met l y ws rm (va_Pc (.ref (h 0) :: As) (pBJ dC dI cI cJ h sz σ)) (va_Ql (fun (r' : Int64) (_ : Unit) => r' = r) (fun _ _ => True) (fun q => sz ≤ q)) 0 0 (fun q => sz ≤ q)
def rBv (l : Launch) (y : MethodName) (ws : List Cond) (rm : Room) (σ : BJ) (As : List Value) : Prop := ∀ (dC : Nat → ClassId) (dI : Nat → Nat → Nat) (cI cJ : ClassId) (h : Nat → Nat) (sz : Nat),
  Met l y ws rm (va_Pc (.ref (h 0) :: As) (pBJ dC dI cI cJ h sz σ)) (va_Qv (fun (_ : Unit) => True) (fun _ _ => True) (fun q => sz ≤ q)) 0 0 (fun q => sz ≤ q)
/-- writes, answers nothing | an int (a boolean) | a long -/
def wBv (l : Launch) (y : MethodName) (ws : List Cond) (rm : Room) (σ : BJ) (As : List Value) (σ' : BJ) : Prop := ∀ (dC : Nat → ClassId) (dI : Nat → Nat → Nat) (cI cJ : ClassId) (h : Nat → Nat) (sz : Nat),
  Met l y ws rm (va_Pc (.ref (h 0) :: As) (pBJ dC dI cI cJ h sz σ)) (va_Qv (fun (_ : Unit) => True) (fun _ => aBJ dC dI cI cJ h (va_A (wBJ cI cJ h σ) sz) σ') (va_A (wBJ cI cJ h σ) sz)) 0 0 (va_A (wBJ cI cJ h σ) sz)
def wBi (l : Launch) (y : MethodName) (ws : List Cond) (rm : Room) (σ : BJ) (As : List Value) (r : Int32) (σ' : BJ) : Prop := ∀ (dC : Nat → ClassId) (dI : Nat → Nat → Nat) (cI cJ : ClassId) (h : Nat → Nat) (sz : Nat),
  Met l y ws rm (va_Pc (.ref (h 0) :: As) (pBJ dC dI cI cJ h sz σ)) (va_Qi (fun (r' : Int32) (_ : Unit) => r' = r) (fun _ => aBJ dC dI cI cJ h (va_A (wBJ cI cJ h σ) sz) σ') (va_A (wBJ cI cJ h σ) sz)) 0 0 (va_A (wBJ cI cJ h σ) sz)
def wBl (l : Launch) (y : MethodName) (ws : List Cond) (rm : Room) (σ : BJ) (As : List Value) (r : Int64) (σ' : BJ) : Prop := ∀ (dC : Nat → ClassId) (dI : Nat → Nat → Nat) (cI cJ : ClassId) (h : Nat → Nat) (sz : Nat),
  Met l y ws rm (va_Pc (.ref (h 0) :: As) (pBJ dC dI cI cJ h sz σ)) (va_Ql (fun (r' : Int64) (_ : Unit) => r' = r) (fun _ => aBJ dC dI cI cJ h (va_A (wBJ cI cJ h σ) sz) σ') (va_A (wBJ cI cJ h σ) sz)) 0 0 (va_A (wBJ cI cJ h σ) sz)
/-- throws an E, and changes nothing -/
def tB (l : Launch) (y : MethodName) (ws : List Cond) (rm : Room) (tx : List (String × Nat × String)) (σ : BJ) (As : List Value) (E : String) : Prop := ∀ (dC : Nat → ClassId) (dI : Nat → Nat → Nat) (cI cJ : ClassId) (h : Nat → Nat) (sz : Nat),
  MetT l y ws rm (va_Pc (.ref (h 0) :: As) (fun U => pBJ dC dI cI cJ h sz σ U ∧ tx_H tx U)) (tx_Q E) 1 6 (fun q => sz ≤ q)
section BJC
variable {p : Program} {l : Launch} {e : Env} {R : Room} {s : State} {m : MethodId} {args : Array Value} {below : List Frame} {meth : Method} {c : Code} {H : Heap} {locs : List Loc} {cells slots : Nat} {Q : State → Prop}
variable {cc bytes : ByteArray} {pc nL maxL n index : Nat} {ls : Array Slot} {As rest st0 : List Value} {Ts ws : List Cond} {own : String} {y : MethodName} {ret : Option FieldType} {rm : Room}
variable {dC : Nat → ClassId} {dI : Nat → Nat → Nat} {cI cJ : ClassId} {h : Nat → Nat} {σ σ' : BJ} {A A' : Nat → Prop} {H0 : Heap}
theorem bj_ri {r : Int32} (S : CallFix p m c cc nL s args Ts own) (hM : rBi l y ws rm σ As r) (cw : CallW R s args own RX0 index y bytes maxL ret ws rm 0 0 n)
    (hK : va_K (dC, dI) vwCl [(cI, .int), (cJ, .long)] s) (hP : va_P (dC, dI) vwCl (wBJ cI cJ h σ) H) (hD : va_D A' (wBJ cI cJ h σ)) (hS : va_S A H0 H locs) (hA : ∀ q, H0.size ≤ q → A q)
    (hl : ls.size = nL) (hn : As.length = n) (hst : st0 = As.reverse ++ .ref (h 0) :: rest) (hroom : (rest.map fun v => v.category).sum ≤ 8) (hdg : decode cc pc = .ok (.invokevirtual index, 3)) (hc : cells ≤ R.cells) (hs : slots ≤ R.slots)
    (kk : ∀ (H1 : Heap) (locs1 : List Loc), va_P (dC, dI) vwCl (wBJ cI cJ h σ) H1 → va_S A H0 H1 locs1 → W p l e R s m args below meth c H1 locs1 cells slots Q (F0 m (pc + 3) ls (.int r :: rest))) :
    W p l e R s m args below meth c H locs cells slots Q (F0 m pc ls st0) :=
  xr_roi (va_runV (As := As) (rest := rest) S (hM dC dI cI cJ h H.size) cw ⟨pBJ.blind, va_recv hK hP (ci := 0) (q0 := 0) rfl rfl, fun U hU hW => ⟨rfl, by rw [hU], by rw [hU]; exact hP, va_K.moved hW.alike hK, hD.weaken (fun _ _ _ _ => trivial)⟩⟩ rfl hn hl hst (lv_room hroom) hdg ⟨hc, hs⟩) hP hS hA (fun H1 locs1 hP1 hS1 _ => kk H1 locs1 hP1 hS1)
theorem bj_rl {r : Int64} (S : CallFix p m c cc nL s args Ts own) (hM : rBl l y ws rm σ As r) (cw : CallW R s args own RX0 index y bytes maxL ret ws rm 0 0 n)
    (hK : va_K (dC, dI) vwCl [(cI, .int), (cJ, .long)] s) (hP : va_P (dC, dI) vwCl (wBJ cI cJ h σ) H) (hD : va_D A' (wBJ cI cJ h σ)) (hS : va_S A H0 H locs) (hA : ∀ q, H0.size ≤ q → A q)
    (hl : ls.size = nL) (hn : As.length = n) (hst : st0 = As.reverse ++ .ref (h 0) :: rest) (hroom : (rest.map fun v => v.category).sum ≤ 8) (hdg : decode cc pc = .ok (.invokevirtual index, 3)) (hc : cells ≤ R.cells) (hs : slots ≤ R.slots)
    (kk : ∀ (H1 : Heap) (locs1 : List Loc), va_P (dC, dI) vwCl (wBJ cI cJ h σ) H1 → va_S A H0 H1 locs1 → W p l e R s m args below meth c H1 locs1 cells slots Q (F0 m (pc + 3) ls (.long r :: rest))) :
    W p l e R s m args below meth c H locs cells slots Q (F0 m pc ls st0) :=
  xr_rol (va_runV (As := As) (rest := rest) S (hM dC dI cI cJ h H.size) cw ⟨pBJ.blind, va_recv hK hP (ci := 0) (q0 := 0) rfl rfl, fun U hU hW => ⟨rfl, by rw [hU], by rw [hU]; exact hP, va_K.moved hW.alike hK, hD.weaken (fun _ _ _ _ => trivial)⟩⟩ rfl hn hl hst (lv_room hroom) hdg ⟨hc, hs⟩) hP hS hA (fun H1 locs1 hP1 hS1 _ => kk H1 locs1 hP1 hS1)
theorem xr_rov {D : va_G} {cl : List vw_C} {wz : va_W} {a : Array Value} (hr : va_Run p l e R s m args below meth c H locs cells slots 0 0 (F0 m pc ls st0) rest (va_Qv (fun (_ : Unit) => True) (fun _ _ => True) (fun q => H.size ≤ q) a) (fun q => H.size ≤ q)) (hP : va_P D cl wz H) (hS : va_S A H0 H locs) (hA : ∀ q, H0.size ≤ q → A q) (kk : ∀ (H1 : Heap) (locs1 : List Loc), va_P D cl wz H1 → va_S A H0 H1 locs1 → H.size ≤ H1.size → W p l e R s m args below meth c H1 locs1 cells slots Q (F0 m (pc + 3) ls rest)) : W p l e R s m args below meth c H locs cells slots Q (F0 m pc ls st0) := by
  refine va_callv hr hS (fun q h1 h2 => absurd h1 (Nat.not_lt.mpr h2)) (fun q h => hA q (Nat.le_trans hS.1 h)) (fun u t H1 locs1 ht hvm hw hB hz hk hS1 => ?_)
  exact kk H1 locs1 (hP.kept fun k q hq => hk q.1 (hP k q hq).lt (fun h => absurd ((hP k q hq).lt) (Nat.not_lt.mpr h))) hS1 hz
theorem bj_rv (S : CallFix p m c cc nL s args Ts own) (hM : rBv l y ws rm σ As) (cw : CallW R s args own RX0 index y bytes maxL ret ws rm 0 0 n)
    (hK : va_K (dC, dI) vwCl [(cI, .int), (cJ, .long)] s) (hP : va_P (dC, dI) vwCl (wBJ cI cJ h σ) H) (hD : va_D A' (wBJ cI cJ h σ)) (hS : va_S A H0 H locs) (hA : ∀ q, H0.size ≤ q → A q)
    (hl : ls.size = nL) (hn : As.length = n) (hst : st0 = As.reverse ++ .ref (h 0) :: rest) (hroom : (rest.map fun v => v.category).sum ≤ 8) (hdg : decode cc pc = .ok (.invokevirtual index, 3)) (hc : cells ≤ R.cells) (hs : slots ≤ R.slots)
    (kk : ∀ (H1 : Heap) (locs1 : List Loc), va_P (dC, dI) vwCl (wBJ cI cJ h σ) H1 → va_S A H0 H1 locs1 → W p l e R s m args below meth c H1 locs1 cells slots Q (F0 m (pc + 3) ls rest)) :
    W p l e R s m args below meth c H locs cells slots Q (F0 m pc ls st0) :=
  xr_rov (va_runV (As := As) (rest := rest) S (hM dC dI cI cJ h H.size) cw ⟨pBJ.blind, va_recv hK hP (ci := 0) (q0 := 0) rfl rfl, fun U hU hW => ⟨rfl, by rw [hU], by rw [hU]; exact hP, va_K.moved hW.alike hK, hD.weaken (fun _ _ _ _ => trivial)⟩⟩ rfl hn hl hst (lv_room hroom) hdg ⟨hc, hs⟩) hP hS hA (fun H1 locs1 hP1 hS1 _ => kk H1 locs1 hP1 hS1)
theorem bj_wv (S : CallFix p m c cc nL s args Ts own) (hM : wBv l y ws rm σ As σ') (cw : CallW R s args own RX0 index y bytes maxL ret ws rm 0 0 n)
    (hK : va_K (dC, dI) vwCl [(cI, .int), (cJ, .long)] s) (hP : va_P (dC, dI) vwCl (wBJ cI cJ h σ) H) (hD : va_D A (wBJ cI cJ h σ)) (hS : va_S A H0 H locs) (hA : ∀ q, H0.size ≤ q → A q)
    (hl : ls.size = nL) (hn : As.length = n) (hst : st0 = As.reverse ++ .ref (h 0) :: rest) (hroom : (rest.map fun v => v.category).sum ≤ 8) (hdg : decode cc pc = .ok (.invokevirtual index, 3)) (hc : cells ≤ R.cells) (hs : slots ≤ R.slots)
    (kk : ∀ (H1 : Heap) (locs1 : List Loc), va_P (dC, dI) vwCl (wBJ cI cJ h σ') H1 → va_D A (wBJ cI cJ h σ') → va_S A H0 H1 locs1 → W p l e R s m args below meth c H1 locs1 cells slots Q (F0 m (pc + 3) ls rest)) :
    W p l e R s m args below meth c H locs cells slots Q (F0 m pc ls st0) := by
  have hFc := va_free (wc := wBJ cI cJ h σ) hD hS hA [0, 1, 2, 3, 4, 5, 6, 7, 8, 9] rfl
  refine va_callv (va_runV (As := As) (rest := rest) S (hM dC dI cI cJ h H.size) cw ⟨pBJ.blind, va_recv hK hP (ci := 0) (q0 := 0) rfl rfl, fun U hU hW => ⟨rfl, by rw [hU], by rw [hU]; exact hP, va_K.moved hW.alike hK, hD.weaken (fun _ _ _ _ => trivial)⟩⟩ rfl hn hl hst (lv_room hroom) hdg ⟨hc, hs⟩) hS (fun q _ h => hFc q h) hFc (fun u t H1 locs1 ht hvm hw hB hz1 hk1 hS1 => ?_)
  obtain ⟨hP1, hK1, hD1⟩ := hB
  rw [ht] at hP1
  obtain ⟨hP2, hD2⟩ := va_join (wr := []) (w1 := wBJ cI cJ h σ') hP hD [0, 1, 2, 3, 4, 5, 6, 7, 8, 9] [] rfl rfl (by decide) (by decide) hk1 hFc hP1 hD1
  exact kk H1 locs1 hP2 hD2 hS1
theorem bj_wi {r : Int32} (S : CallFix p m c cc nL s args Ts own) (hM : wBi l y ws rm σ As r σ') (cw : CallW R s args own RX0 index y bytes maxL ret ws rm 0 0 n)
    (hK : va_K (dC, dI) vwCl [(cI, .int), (cJ, .long)] s) (hP : va_P (dC, dI) vwCl (wBJ cI cJ h σ) H) (hD : va_D A (wBJ cI cJ h σ)) (hS : va_S A H0 H locs) (hA : ∀ q, H0.size ≤ q → A q)
    (hl : ls.size = nL) (hn : As.length = n) (hst : st0 = As.reverse ++ .ref (h 0) :: rest) (hroom : (rest.map fun v => v.category).sum ≤ 8) (hdg : decode cc pc = .ok (.invokevirtual index, 3)) (hc : cells ≤ R.cells) (hs : slots ≤ R.slots)
    (kk : ∀ (H1 : Heap) (locs1 : List Loc), va_P (dC, dI) vwCl (wBJ cI cJ h σ') H1 → va_D A (wBJ cI cJ h σ') → va_S A H0 H1 locs1 → W p l e R s m args below meth c H1 locs1 cells slots Q (F0 m (pc + 3) ls (.int r :: rest))) :
    W p l e R s m args below meth c H locs cells slots Q (F0 m pc ls st0) := by
  have hFc := va_free (wc := wBJ cI cJ h σ) hD hS hA [0, 1, 2, 3, 4, 5, 6, 7, 8, 9] rfl
  refine va_calli (va_runV (As := As) (rest := rest) S (hM dC dI cI cJ h H.size) cw ⟨pBJ.blind, va_recv hK hP (ci := 0) (q0 := 0) rfl rfl, fun U hU hW => ⟨rfl, by rw [hU], by rw [hU]; exact hP, va_K.moved hW.alike hK, hD.weaken (fun _ _ _ _ => trivial)⟩⟩ rfl hn hl hst (lv_room hroom) hdg ⟨hc, hs⟩) hS (fun q _ h => hFc q h) hFc (fun r' u t H1 locs1 ht hvm hw hB hz1 hk1 hS1 => ?_)
  subst hw
  obtain ⟨hP1, hK1, hD1⟩ := hB
  rw [ht] at hP1
  obtain ⟨hP2, hD2⟩ := va_join (wr := []) (w1 := wBJ cI cJ h σ') hP hD [0, 1, 2, 3, 4, 5, 6, 7, 8, 9] [] rfl rfl (by decide) (by decide) hk1 hFc hP1 hD1
  exact kk H1 locs1 hP2 hD2 hS1
/-- a callee throws, and so does the caller -/
theorem tx_thru {E : String} {a : Array Value} {x : Addr} {st t : State} {H1 : Heap} {L : List Loc} {pc : Nat} {ls : Array Slot} {stk : List Value} (hlocks : meth.locks = false) (hout : c.exceptionTable.isEmpty = true) (hS : va_S (fun q => s.heap.size ≤ q) s.heap H locs)
    (h0 : st.heap = H) (ht : t.heap = H1) (hvm : s.vm.Alike t.vm) (hq : tx_Q E a st x t) (hL : ∀ q ∈ L, H.size ≤ q.base) : tx_W p l e R s m args below meth c H1 (locs ++ L) cells slots (tx_Z below (tx_Q E) args s cells slots (fun q => s.heap.size ≤ q)) (F0 m pc ls stk) x := by
  obtain ⟨⟨q1, q2⟩, ce, hce, hv, hcl⟩ := hq
  rw [h0] at q1 q2
  refine tx_out hlocks hout (fun t2 ht2 hW2 => ⟨⟨?_, fun q hq _ => ?_⟩, ce, ?_, hv, ?_⟩) (fun q hq => ?_)
  · rw [ht2, ← ht]; exact Nat.le_trans hS.1 q1
  · rw [ht2, ← ht, q2 q (Nat.lt_of_lt_of_le hq hS.1) (Nat.not_le.mpr (Nat.lt_of_lt_of_le hq hS.1))]
    exact hS.2.1 q hq (Nat.not_le.mpr hq)
  · rw [ht2, ← ht]; exact hce
  · rw [hW2.alike.findClass, ← hvm.findClass]; exact hcl
  · rcases List.mem_append.mp hq with h | h
    · exact hS.2.2 q h
    · exact Nat.le_trans hS.1 (hL q h)
theorem bj_tv {E : String} {tx : List (String × Nat × String)} (hlocks : meth.locks = false) (hout : c.exceptionTable.isEmpty = true) (S : CallFix p m c cc nL s args Ts own) (hM : tB l y ws rm tx σ As E) (cw : CallW R s args own RX0 index y bytes maxL ret ws rm 1 6 n)
    (hK : va_K (dC, dI) vwCl [(cI, .int), (cJ, .long)] s) (hP : va_P (dC, dI) vwCl (wBJ cI cJ h σ) H) (hD : va_D A' (wBJ cI cJ h σ)) (hS : va_S (fun q => s.heap.size ≤ q) s.heap H locs) (hH : tx_H tx s)
    (hl : ls.size = nL) (hn : As.length = n) (hst : st0 = As.reverse ++ .ref (h 0) :: rest) (hroom : (rest.map fun v => v.category).sum ≤ 8) (hdg : decode cc pc = .ok (.invokevirtual index, 3)) (hc : 0 + 1 ≤ R.cells) (hs : 0 + 6 ≤ R.slots) :
    W p l e R s m args below meth c H locs 0 0 (tx_Z below (tx_Q E) args s 1 6 (fun q => s.heap.size ≤ q)) (F0 m pc ls st0) :=
  tx_runV (As := As) (rest := rest) S (hM dC dI cI cJ h H.size) cw ⟨fun a U g mk q => ⟨q.1, q.2.1.moved g mk a, q.2.2.calling g mk a⟩, va_recv hK hP (ci := 0) (q0 := 0) rfl rfl, fun U hU hW => ⟨rfl, ⟨by rw [hU], by rw [hU]; exact hP, va_K.moved hW.alike hK, hD.weaken (fun _ _ _ _ => trivial)⟩, hH.keep hW (fun q hq => by rw [hU]; exact hS.2.1 q hq (Nat.not_le.mpr hq))⟩⟩ rfl hn hl hst (lv_room hroom) hdg ⟨hc, hs⟩
    (fun x st t H1 L h0 ht hvm hq hL => tx_thru hlocks hout hS h0 ht hvm hq hL)
end BJC
