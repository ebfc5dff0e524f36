def updB (f : Nat → Bool) (k : Nat) (b : Bool) : Nat → Bool := fun j => if j = k then b else f j
theorem updB_bI (f : Nat → Bool) (k : Nat) (b : Bool) : upd (fun j => bI (f j)) k (bI b) = fun j => bI (updB f k b j) := by
  funext j
  unfold upd updB
  by_cases h : j = k
  · rw [if_pos h, if_pos h]
  · rw [if_neg h, if_neg h]
section XZ
variable {p : Program} {l : Launch} {e : Env} {R : Room} {s : State} {m : MethodId} {args : Array Value} {below : List Frame} {meth : Method} {c : Code} {H : Heap} {locs : List Loc} {cells slots : Nat} {Q : State → Prop}
variable {cc : ByteArray} {pc : Nat} {ls : Array Slot} {rest : List Value}
theorem xr_zald (hx : p.tables.exec = Jvm.exec) (hb : c.code = cc) {D : va_G} {cl : List vw_C} {tys : List (ClassId × FieldType)} {ws : va_W} (hK : va_K D cl tys s) (hP : va_P D cl ws H) (q0 t0 : Nat) {a : Nat} {cA : ClassId} {n : Nat} {f : Nat → Int32} (ha : ws[q0]? = some (a, .inl (cA, n, .inl f))) (ht : tys[t0]? = some (cA, .boolean)) {i : Nat} (hin : i < n) (hn : n < 2 ^ 31) (hdg : decode cc pc = .ok (.baload, 1)) (kk : W p l e R s m args below meth c H locs cells slots Q (F0 m (pc + 1) ls (.int (f i) :: rest))) : W p l e R s m args below meth c H locs cells slots Q (F0 m pc ls (.int (nI i) :: .ref a :: rest)) :=
  va_zald hx hb hK hP q0 t0 ha ht (vp_in_nI hin hn) hdg (by rw [nI_clamp (Nat.lt_trans hin hn)]; exact kk)
theorem xr_zast (hx : p.tables.exec = Jvm.exec) (hb : c.code = cc) {D : va_G} {cl : List vw_C} {tys : List (ClassId × FieldType)} {ws : va_W} {A : Nat → Prop} {H0 : Heap} (hK : va_K D cl tys s) (hP : va_P D cl ws H) (hD : va_D A ws) (hS : va_S A H0 H locs) (q0 t0 : Nat) {a : Nat} {cA : ClassId} {n : Nat} {f : Nat → Bool} (ha : ws[q0]? = some (a, .inl (cA, n, .inl (fun j => bI (f j))))) (ht : tys[t0]? = some (cA, .boolean)) {i : Nat} {b : Bool} (hin : i < n) (hn : n < 2 ^ 31) (hdg : decode cc pc = .ok (.bastore, 1)) (kk : ∀ (H1 : Heap) (locs1 : List Loc), va_P D cl (ws.set q0 (a, .inl (cA, n, .inl (fun j => bI (updB f i b j))))) H1 → va_D A (ws.set q0 (a, .inl (cA, n, .inl (fun j => bI (updB f i b j))))) → va_S A H0 H1 locs1 → W p l e R s m args below meth c H1 locs1 cells slots Q (F0 m (pc + 1) ls rest)) : W p l e R s m args below meth c H locs cells slots Q (F0 m pc ls (.int (bI b) :: .int (nI i) :: .ref a :: rest)) := by
  refine va_zast hx hb hK hP hD hS q0 t0 ha ht (vp_in_nI hin hn) hdg ?_
  have hv : vp_nar .boolean (bI b) = bI b := by cases b <;> decide
  rw [nI_clamp (Nat.lt_trans hin hn), hv, updB_bI]
  exact kk
end XZ
/-! the reference's state: what its fields and rows hold; the cells in which it lies -/
abbrev BM : Type := (Nat → Nat) × (Nat → Nat → Int32) × (Nat → Nat → Int64) × (Nat → Nat → Bool)
def kgTh (σ : BM) : Nat := σ.1 0
def kgT (σ : BM) : Nat → Int32 := σ.2.1 0
def kgMy (σ : BM) : Nat := σ.1 1
def kgDG (σ : BM) : Nat → Int64 := σ.2.2.1 0
def kgLN (σ : BM) : Nat → Int32 := σ.2.1 1
def kgBY (σ : BM) : Nat → Int32 := σ.2.1 2
def kgBl (σ : BM) : Nat := σ.1 2
def kgTG (σ : BM) : Nat → Int64 := σ.2.2.1 1
def kgTE (σ : BM) : Nat → Bool := σ.2.2.2 0
def kgKS (σ : BM) : Nat → Int64 := σ.2.2.1 2
def kgTO (σ : BM) : Nat → Int64 := σ.2.2.1 3
def kgKn (σ : BM) : Nat := σ.1 3
def kgPN (σ : BM) : Nat → Int64 := σ.2.2.1 4
def kgJR (σ : BM) : Nat → Int32 := σ.2.1 3
def kgSz (σ : BM) : Nat := σ.1 4
def kgSy (σ : BM) : Nat := σ.1 5
def kgRC (σ : BM) : Nat → Int32 := σ.2.1 4
def kgLe (σ : BM) : Nat := σ.1 6
def kuTh (σ : BM) (z : Nat) : BM := (setN σ.1 0 z, σ.2.1, σ.2.2.1, σ.2.2.2)
def kuT (σ : BM) (z : Nat → Int32) : BM := (σ.1, setN σ.2.1 0 z, σ.2.2.1, σ.2.2.2)
def kuMy (σ : BM) (z : Nat) : BM := (setN σ.1 1 z, σ.2.1, σ.2.2.1, σ.2.2.2)
def kuDG (σ : BM) (z : Nat → Int64) : BM := (σ.1, σ.2.1, setN σ.2.2.1 0 z, σ.2.2.2)
def kuLN (σ : BM) (z : Nat → Int32) : BM := (σ.1, setN σ.2.1 1 z, σ.2.2.1, σ.2.2.2)
def kuBY (σ : BM) (z : Nat → Int32) : BM := (σ.1, setN σ.2.1 2 z, σ.2.2.1, σ.2.2.2)
def kuBl (σ : BM) (z : Nat) : BM := (setN σ.1 2 z, σ.2.1, σ.2.2.1, σ.2.2.2)
def kuTG (σ : BM) (z : Nat → Int64) : BM := (σ.1, σ.2.1, setN σ.2.2.1 1 z, σ.2.2.2)
def kuTE (σ : BM) (z : Nat → Bool) : BM := (σ.1, σ.2.1, σ.2.2.1, setN σ.2.2.2 0 z)
def kuKS (σ : BM) (z : Nat → Int64) : BM := (σ.1, σ.2.1, setN σ.2.2.1 2 z, σ.2.2.2)
def kuTO (σ : BM) (z : Nat → Int64) : BM := (σ.1, σ.2.1, setN σ.2.2.1 3 z, σ.2.2.2)
def kuKn (σ : BM) (z : Nat) : BM := (setN σ.1 3 z, σ.2.1, σ.2.2.1, σ.2.2.2)
def kuPN (σ : BM) (z : Nat → Int64) : BM := (σ.1, σ.2.1, setN σ.2.2.1 4 z, σ.2.2.2)
def kuJR (σ : BM) (z : Nat → Int32) : BM := (σ.1, setN σ.2.1 3 z, σ.2.2.1, σ.2.2.2)
def kuSz (σ : BM) (z : Nat) : BM := (setN σ.1 4 z, σ.2.1, σ.2.2.1, σ.2.2.2)
def kuSy (σ : BM) (z : Nat) : BM := (setN σ.1 5 z, σ.2.1, σ.2.2.1, σ.2.2.2)
def kuRC (σ : BM) (z : Nat → Int32) : BM := (σ.1, setN σ.2.1 4 z, σ.2.2.1, σ.2.2.2)
def kuLe (σ : BM) (z : Nat) : BM := (setN σ.1 6 z, σ.2.1, σ.2.2.1, σ.2.2.2)
def fsBM (h : Nat → Nat) (σ : BM) : List Value := [.int (nI (kgTh σ)), .ref (h 1), .int (nI (kgMy σ)), .ref (h 2), .ref (h 3), .ref (h 4), .int (nI (kgBl σ)), .ref (h 5), .ref (h 6), .ref (h 7), .ref (h 8), .int (nI (kgKn σ)), .ref (h 9), .ref (h 10), .int (nI (kgSz σ)), .int (nI (kgSy σ)), .ref (h 11), .int (nI (kgLe σ))]
def wBM (cI cJ cZ : ClassId) (h : Nat → Nat) (σ : BM) : va_W := [(h 0, .inr (1, fsBM h σ)), (h 1, .inl (cI, 64, .inl (kgT σ))), (h 2, .inl (cJ, 20, .inr (.inl (kgDG σ)))), (h 3, .inl (cI, 20, .inl (kgLN σ))), (h 4, .inl (cI, 14000, .inl (kgBY σ))), (h 5, .inl (cJ, 8, .inr (.inl (kgTG σ)))), (h 6, .inl (cZ, 8, .inl (fun j => bI (kgTE σ j)))), (h 7, .inl (cJ, 16, .inr (.inl (kgKS σ)))), (h 8, .inl (cJ, 16, .inr (.inl (kgTO σ)))), (h 9, .inl (cJ, 4, .inr (.inl (kgPN σ)))), (h 10, .inl (cI, 700, .inl (kgJR σ))), (h 11, .inl (cI, 700, .inl (kgRC σ)))]
theorem wBM_Th (cI cJ cZ : ClassId) (h : Nat → Nat) (σ : BM) (z : Nat) : (wBM cI cJ cZ h σ).set 0 (h 0, .inr (1, (fsBM h σ).set 0 (.int (nI z)))) = wBM cI cJ cZ h (kuTh σ z) := rfl
theorem wBM_T (cI cJ cZ : ClassId) (h : Nat → Nat) (σ : BM) (z : Nat → Int32) : (wBM cI cJ cZ h σ).set 1 (h 1, .inl (cI, 64, .inl z)) = wBM cI cJ cZ h (kuT σ z) := rfl
theorem wBM_My (cI cJ cZ : ClassId) (h : Nat → Nat) (σ : BM) (z : Nat) : (wBM cI cJ cZ h σ).set 0 (h 0, .inr (1, (fsBM h σ).set 2 (.int (nI z)))) = wBM cI cJ cZ h (kuMy σ z) := rfl
theorem wBM_DG (cI cJ cZ : ClassId) (h : Nat → Nat) (σ : BM) (z : Nat → Int64) : (wBM cI cJ cZ h σ).set 2 (h 2, .inl (cJ, 20, .inr (.inl z))) = wBM cI cJ cZ h (kuDG σ z) := rfl
theorem wBM_LN (cI cJ cZ : ClassId) (h : Nat → Nat) (σ : BM) (z : Nat → Int32) : (wBM cI cJ cZ h σ).set 3 (h 3, .inl (cI, 20, .inl z)) = wBM cI cJ cZ h (kuLN σ z) := rfl
theorem wBM_BY (cI cJ cZ : ClassId) (h : Nat → Nat) (σ : BM) (z : Nat → Int32) : (wBM cI cJ cZ h σ).set 4 (h 4, .inl (cI, 14000, .inl z)) = wBM cI cJ cZ h (kuBY σ z) := rfl
theorem wBM_Bl (cI cJ cZ : ClassId) (h : Nat → Nat) (σ : BM) (z : Nat) : (wBM cI cJ cZ h σ).set 0 (h 0, .inr (1, (fsBM h σ).set 6 (.int (nI z)))) = wBM cI cJ cZ h (kuBl σ z) := rfl
theorem wBM_TG (cI cJ cZ : ClassId) (h : Nat → Nat) (σ : BM) (z : Nat → Int64) : (wBM cI cJ cZ h σ).set 5 (h 5, .inl (cJ, 8, .inr (.inl z))) = wBM cI cJ cZ h (kuTG σ z) := rfl
theorem wBM_TE (cI cJ cZ : ClassId) (h : Nat → Nat) (σ : BM) (z : Nat → Bool) : (wBM cI cJ cZ h σ).set 6 (h 6, .inl (cZ, 8, .inl (fun j => bI (z j)))) = wBM cI cJ cZ h (kuTE σ z) := rfl
theorem wBM_KS (cI cJ cZ : ClassId) (h : Nat → Nat) (σ : BM) (z : Nat → Int64) : (wBM cI cJ cZ h σ).set 7 (h 7, .inl (cJ, 16, .inr (.inl z))) = wBM cI cJ cZ h (kuKS σ z) := rfl
theorem wBM_TO (cI cJ cZ : ClassId) (h : Nat → Nat) (σ : BM) (z : Nat → Int64) : (wBM cI cJ cZ h σ).set 8 (h 8, .inl (cJ, 16, .inr (.inl z))) = wBM cI cJ cZ h (kuTO σ z) := rfl
theorem wBM_Kn (cI cJ cZ : ClassId) (h : Nat → Nat) (σ : BM) (z : Nat) : (wBM cI cJ cZ h σ).set 0 (h 0, .inr (1, (fsBM h σ).set 11 (.int (nI z)))) = wBM cI cJ cZ h (kuKn σ z) := rfl
theorem wBM_PN (cI cJ cZ : ClassId) (h : Nat → Nat) (σ : BM) (z : Nat → Int64) : (wBM cI cJ cZ h σ).set 9 (h 9, .inl (cJ, 4, .inr (.inl z))) = wBM cI cJ cZ h (kuPN σ z) := rfl
theorem wBM_JR (cI cJ cZ : ClassId) (h : Nat → Nat) (σ : BM) (z : Nat → Int32) : (wBM cI cJ cZ h σ).set 10 (h 10, .inl (cI, 700, .inl z)) = wBM cI cJ cZ h (kuJR σ z) := rfl
theorem wBM_Sz (cI cJ cZ : ClassId) (h : Nat → Nat) (σ : BM) (z : Nat) : (wBM cI cJ cZ h σ).set 0 (h 0, .inr (1, (fsBM h σ).set 14 (.int (nI z)))) = wBM cI cJ cZ h (kuSz σ z) := rfl
theorem wBM_Sy (cI cJ cZ : ClassId) (h : Nat → Nat) (σ : BM) (z : Nat) : (wBM cI cJ cZ h σ).set 0 (h 0, .inr (1, (fsBM h σ).set 15 (.int (nI z)))) = wBM cI cJ cZ h (kuSy σ z) := rfl
theorem wBM_RC (cI cJ cZ : ClassId) (h : Nat → Nat) (σ : BM) (z : Nat → Int32) : (wBM cI cJ cZ h σ).set 11 (h 11, .inl (cI, 700, .inl z)) = wBM cI cJ cZ h (kuRC σ z) := rfl
theorem wBM_Le (cI cJ cZ : ClassId) (h : Nat → Nat) (σ : BM) (z : Nat) : (wBM cI cJ cZ h σ).set 0 (h 0, .inr (1, (fsBM h σ).set 17 (.int (nI z)))) = wBM cI cJ cZ h (kuLe σ z) := rfl
/-! contracts of the reference's methods in one form, and calls of them over the reference's world -/
def pBM (dC : Nat → ClassId) (dI : Nat → Nat → Nat) (cI cJ cZ : ClassId) (h : Nat → Nat) (sz : Nat) (σ : BM) (U : State) : Prop := U.heap.size = sz ∧ va_P (dC, dI) vwCl (wBM cI cJ cZ h σ) U.heap ∧ va_K (dC, dI) vwCl [(cI, .int), (cJ, .long), (cZ, .boolean)] U ∧ va_D (fun _ => True) (wBM cI cJ cZ h σ)
def aBM (dC : Nat → ClassId) (dI : Nat → Nat → Nat) (cI cJ cZ : ClassId) (h : Nat → Nat) (A : Nat → Prop) (σ : BM) (t : State) : Prop := va_P (dC, dI) vwCl (wBM cI cJ cZ h σ) t.heap ∧ va_K (dC, dI) vwCl [(cI, .int), (cJ, .long), (cZ, .boolean)] t ∧ va_D A (wBM cI cJ cZ h σ)
theorem pBM.moved {dC : Nat → ClassId} {dI : Nat → Nat → Nat} {cI cJ cZ : ClassId} {h : Nat → Nat} {sz : Nat} {σ : BM} {U : State} (q : pBM dC dI cI cJ cZ h sz σ U) (g : JFrame) (mk : MethodId) (a : Array Value) : pBM dC dI cI cJ cZ h sz σ (U.calling g mk a) := by
  obtain ⟨q1, qP, qK, qD⟩ := q
  exact ⟨q1, qP, va_K.moved (u := U) (U := U.calling g mk a) (Vm.Alike.refl U.vm) qK, qD⟩
theorem pBM.blind {dC : Nat → ClassId} {dI : Nat → Nat → Nat} {cI cJ cZ : ClassId} {h : Nat → Nat} {sz : Nat} {σ : BM} {av : List Value} : FrameBlind (va_Pc av (pBM dC dI cI cJ cZ h sz σ)) :=
  fun a U g mk q => ⟨q.1, q.2.moved g mk a⟩
/-- reads, answers an int (a boolean) | a long -/
def rMi (l : Launch) (y : MethodName) (ws : List Cond) (rm : Room) (σ : BM) (As : List Value) (r : Int32) : Prop := ∀ (dC : Nat → ClassId) (dI : Nat → Nat → Nat) (cI cJ cZ : ClassId) (h : Nat → Nat) (sz : Nat),
  Met l y ws rm (va_Pc (.ref (h 0) :: As) (pBM dC dI cI cJ cZ h sz σ)) (va_Qi (fun (r' : Int32) (_ : Unit) => r' = r) (fun _ _ => True) (fun q => sz ≤ q)) 0 0 (fun q => sz ≤ q)
def rMl (l : Launch) (y : MethodName) (ws : List Cond) (rm : Room) (σ : BM) (As : List Value) (r : Int64) : Prop := ∀ (dC : Nat → ClassId) (dI : Nat → Nat → Nat) (cI cJ cZ : ClassId) (h : Nat → Nat) (sz : Nat),
  Met l y ws rm (va_Pc (.ref (h 0) :: As) (pBM dC dI cI cJ cZ h sz σ)) (va_Ql (fun (r' : Int64) (_ : Unit) => r' = r) (fun _ _ => True) (fun q => sz ≤ q)) 0 0 (fun q => sz ≤ q)
def rMv (l : Launch) (y : MethodName) (ws : List Cond) (rm : Room) (σ : BM) (As : List Value) : Prop := ∀ (dC : Nat → ClassId) (dI : Nat → Nat → Nat) (cI cJ cZ : ClassId) (h : Nat → Nat) (sz : Nat),
  Met l y ws rm (va_Pc (.ref (h 0) :: As) (pBM dC dI cI cJ cZ h sz σ)) (va_Qv (fun (_ : Unit) => True) (fun _ _ => True) (fun q => sz ≤ q)) 0 0 (fun q => sz ≤ q)
/-- writes, answers nothing | an int (a boolean) | a long -/
def wMv (l : Launch) (y : MethodName) (ws : List Cond) (rm : Room) (σ : BM) (As : List Value) (σ' : BM) : Prop := ∀ (dC : Nat → ClassId) (dI : Nat → Nat → Nat) (cI cJ cZ : ClassId) (h : Nat → Nat) (sz : Nat),
  Met l y ws rm (va_Pc (.ref (h 0) :: As) (pBM dC dI cI cJ cZ h sz σ)) (va_Qv (fun (_ : Unit) => True) (fun _ => aBM dC dI cI cJ cZ h (va_A (wBM cI cJ cZ h σ) sz) σ') (va_A (wBM cI cJ cZ h σ) sz)) 0 0 (va_A (wBM cI cJ cZ h σ) sz)
def wMi (l : Launch) (y : MethodName) (ws : List Cond) (rm : Room) (σ : BM) (As : List Value) (r : Int32) (σ' : BM) : Prop := ∀ (dC : Nat → ClassId) (dI : Nat → Nat → Nat) (cI cJ cZ : ClassId) (h : Nat → Nat) (sz : Nat),
  Met l y ws rm (va_Pc (.ref (h 0) :: As) (pBM dC dI cI cJ cZ h sz σ)) (va_Qi (fun (r' : Int32) (_ : Unit) => r' = r) (fun _ => aBM dC dI cI cJ cZ h (va_A (wBM cI cJ cZ h σ) sz) σ') (va_A (wBM cI cJ cZ h σ) sz)) 0 0 (va_A (wBM cI cJ cZ h σ) sz)
def wMl (l : Launch) (y : MethodName) (ws : List Cond) (rm : Room) (σ : BM) (As : List Value) (r : Int64) (σ' : BM) : Prop := ∀ (dC : Nat → ClassId) (dI : Nat → Nat → Nat) (cI cJ cZ : ClassId) (h : Nat → Nat) (sz : Nat),
  Met l y ws rm (va_Pc (.ref (h 0) :: As) (pBM dC dI cI cJ cZ h sz σ)) (va_Ql (fun (r' : Int64) (_ : Unit) => r' = r) (fun _ => aBM dC dI cI cJ cZ h (va_A (wBM cI cJ cZ h σ) sz) σ') (va_A (wBM cI cJ cZ h σ) sz)) 0 0 (va_A (wBM cI cJ cZ h σ) sz)
section BMC
variable {p : Program} {l : Launch} {e : Env} {R : Room} {s : State} {m : MethodId} {args : Array Value} {below : List Frame} {meth : Method} {c : Code} {H : Heap} {locs : List Loc} {cells slots : Nat} {Q : State → Prop}
variable {cc bytes : ByteArray} {pc nL maxL n index : Nat} {ls : Array Slot} {As rest st0 : List Value} {Ts ws : List Cond} {own : String} {y : MethodName} {ret : Option FieldType} {rm : Room}
variable {dC : Nat → ClassId} {dI : Nat → Nat → Nat} {cI cJ cZ : ClassId} {h : Nat → Nat} {σ σ' : BM} {A A' : Nat → Prop} {H0 : Heap}
theorem bm_ri {r : Int32} (S : CallFix p m c cc nL s args Ts own) (hM : rMi l y ws rm σ As r) (cw : CallW R s args own RX1 index y bytes maxL ret ws rm 0 0 n)
    (hK : va_K (dC, dI) vwCl [(cI, .int), (cJ, .long), (cZ, .boolean)] s) (hP : va_P (dC, dI) vwCl (wBM cI cJ cZ h σ) H) (hD : va_D A' (wBM cI cJ cZ h σ)) (hS : va_S A H0 H locs) (hA : ∀ q, H0.size ≤ q → A q)
    (hl : ls.size = nL) (hn : As.length = n) (hst : st0 = As.reverse ++ .ref (h 0) :: rest) (hroom : (rest.map fun v => v.category).sum ≤ 8) (hdg : decode cc pc = .ok (.invokevirtual index, 3)) (hc : cells ≤ R.cells) (hs : slots ≤ R.slots)
    (kk : ∀ (H1 : Heap) (locs1 : List Loc), va_P (dC, dI) vwCl (wBM cI cJ cZ h σ) H1 → va_S A H0 H1 locs1 → W p l e R s m args below meth c H1 locs1 cells slots Q (F0 m (pc + 3) ls (.int r :: rest))) :
    W p l e R s m args below meth c H locs cells slots Q (F0 m pc ls st0) :=
  xr_roi (va_runV (As := As) (rest := rest) S (hM dC dI cI cJ cZ h H.size) cw ⟨pBM.blind, va_recv hK hP (ci := 1) (q0 := 0) rfl rfl, fun U hU hW => ⟨rfl, by rw [hU], by rw [hU]; exact hP, va_K.moved hW.alike hK, hD.weaken (fun _ _ _ _ => trivial)⟩⟩ rfl hn hl hst (lv_room hroom) hdg ⟨hc, hs⟩) hP hS hA (fun H1 locs1 hP1 hS1 _ => kk H1 locs1 hP1 hS1)
theorem bm_rl {r : Int64} (S : CallFix p m c cc nL s args Ts own) (hM : rMl l y ws rm σ As r) (cw : CallW R s args own RX1 index y bytes maxL ret ws rm 0 0 n)
    (hK : va_K (dC, dI) vwCl [(cI, .int), (cJ, .long), (cZ, .boolean)] s) (hP : va_P (dC, dI) vwCl (wBM cI cJ cZ h σ) H) (hD : va_D A' (wBM cI cJ cZ h σ)) (hS : va_S A H0 H locs) (hA : ∀ q, H0.size ≤ q → A q)
    (hl : ls.size = nL) (hn : As.length = n) (hst : st0 = As.reverse ++ .ref (h 0) :: rest) (hroom : (rest.map fun v => v.category).sum ≤ 8) (hdg : decode cc pc = .ok (.invokevirtual index, 3)) (hc : cells ≤ R.cells) (hs : slots ≤ R.slots)
    (kk : ∀ (H1 : Heap) (locs1 : List Loc), va_P (dC, dI) vwCl (wBM cI cJ cZ h σ) H1 → va_S A H0 H1 locs1 → W p l e R s m args below meth c H1 locs1 cells slots Q (F0 m (pc + 3) ls (.long r :: rest))) :
    W p l e R s m args below meth c H locs cells slots Q (F0 m pc ls st0) :=
  xr_rol (va_runV (As := As) (rest := rest) S (hM dC dI cI cJ cZ h H.size) cw ⟨pBM.blind, va_recv hK hP (ci := 1) (q0 := 0) rfl rfl, fun U hU hW => ⟨rfl, by rw [hU], by rw [hU]; exact hP, va_K.moved hW.alike hK, hD.weaken (fun _ _ _ _ => trivial)⟩⟩ rfl hn hl hst (lv_room hroom) hdg ⟨hc, hs⟩) hP hS hA (fun H1 locs1 hP1 hS1 _ => kk H1 locs1 hP1 hS1)
theorem bm_rv (S : CallFix p m c cc nL s args Ts own) (hM : rMv l y ws rm σ As) (cw : CallW R s args own RX1 index y bytes maxL ret ws rm 0 0 n)
    (hK : va_K (dC, dI) vwCl [(cI, .int), (cJ, .long), (cZ, .boolean)] s) (hP : va_P (dC, dI) vwCl (wBM cI cJ cZ h σ) H) (hD : va_D A' (wBM cI cJ cZ h σ)) (hS : va_S A H0 H locs) (hA : ∀ q, H0.size ≤ q → A q)
    (hl : ls.size = nL) (hn : As.length = n) (hst : st0 = As.reverse ++ .ref (h 0) :: rest) (hroom : (rest.map fun v => v.category).sum ≤ 8) (hdg : decode cc pc = .ok (.invokevirtual index, 3)) (hc : cells ≤ R.cells) (hs : slots ≤ R.slots)
    (kk : ∀ (H1 : Heap) (locs1 : List Loc), va_P (dC, dI) vwCl (wBM cI cJ cZ h σ) H1 → va_S A H0 H1 locs1 → W p l e R s m args below meth c H1 locs1 cells slots Q (F0 m (pc + 3) ls rest)) :
    W p l e R s m args below meth c H locs cells slots Q (F0 m pc ls st0) :=
  xr_rov (va_runV (As := As) (rest := rest) S (hM dC dI cI cJ cZ h H.size) cw ⟨pBM.blind, va_recv hK hP (ci := 1) (q0 := 0) rfl rfl, fun U hU hW => ⟨rfl, by rw [hU], by rw [hU]; exact hP, va_K.moved hW.alike hK, hD.weaken (fun _ _ _ _ => trivial)⟩⟩ rfl hn hl hst (lv_room hroom) hdg ⟨hc, hs⟩) hP hS hA (fun H1 locs1 hP1 hS1 _ => kk H1 locs1 hP1 hS1)
theorem bm_wv (S : CallFix p m c cc nL s args Ts own) (hM : wMv l y ws rm σ As σ') (cw : CallW R s args own RX1 index y bytes maxL ret ws rm 0 0 n)
    (hK : va_K (dC, dI) vwCl [(cI, .int), (cJ, .long), (cZ, .boolean)] s) (hP : va_P (dC, dI) vwCl (wBM cI cJ cZ h σ) H) (hD : va_D A (wBM cI cJ cZ h σ)) (hS : va_S A H0 H locs) (hA : ∀ q, H0.size ≤ q → A q)
    (hl : ls.size = nL) (hn : As.length = n) (hst : st0 = As.reverse ++ .ref (h 0) :: rest) (hroom : (rest.map fun v => v.category).sum ≤ 8) (hdg : decode cc pc = .ok (.invokevirtual index, 3)) (hc : cells ≤ R.cells) (hs : slots ≤ R.slots)
    (kk : ∀ (H1 : Heap) (locs1 : List Loc), va_P (dC, dI) vwCl (wBM cI cJ cZ h σ') H1 → va_D A (wBM cI cJ cZ h σ') → va_S A H0 H1 locs1 → W p l e R s m args below meth c H1 locs1 cells slots Q (F0 m (pc + 3) ls rest)) :
    W p l e R s m args below meth c H locs cells slots Q (F0 m pc ls st0) := by
  have hFc := va_free (wc := wBM cI cJ cZ h σ) hD hS hA [0, 1, 2, 3, 4, 5, 6, 7, 8, 9, 10, 11] rfl
  refine va_callv (va_runV (As := As) (rest := rest) S (hM dC dI cI cJ cZ h H.size) cw ⟨pBM.blind, va_recv hK hP (ci := 1) (q0 := 0) rfl rfl, fun U hU hW => ⟨rfl, by rw [hU], by rw [hU]; exact hP, va_K.moved hW.alike hK, hD.weaken (fun _ _ _ _ => trivial)⟩⟩ rfl hn hl hst (lv_room hroom) hdg ⟨hc, hs⟩) hS (fun q _ h => hFc q h) hFc (fun u t H1 locs1 ht hvm hw hB hz1 hk1 hS1 => ?_)
  obtain ⟨hP1, hK1, hD1⟩ := hB
  rw [ht] at hP1
  obtain ⟨hP2, hD2⟩ := va_join (wr := []) (w1 := wBM cI cJ cZ h σ') hP hD [0, 1, 2, 3, 4, 5, 6, 7, 8, 9, 10, 11] [] rfl rfl (by decide) (by decide) hk1 hFc hP1 hD1
  exact kk H1 locs1 hP2 hD2 hS1
theorem bm_wi {r : Int32} (S : CallFix p m c cc nL s args Ts own) (hM : wMi l y ws rm σ As r σ') (cw : CallW R s args own RX1 index y bytes maxL ret ws rm 0 0 n)
    (hK : va_K (dC, dI) vwCl [(cI, .int), (cJ, .long), (cZ, .boolean)] s) (hP : va_P (dC, dI) vwCl (wBM cI cJ cZ h σ) H) (hD : va_D A (wBM cI cJ cZ h σ)) (hS : va_S A H0 H locs) (hA : ∀ q, H0.size ≤ q → A q)
    (hl : ls.size = nL) (hn : As.length = n) (hst : st0 = As.reverse ++ .ref (h 0) :: rest) (hroom : (rest.map fun v => v.category).sum ≤ 8) (hdg : decode cc pc = .ok (.invokevirtual index, 3)) (hc : cells ≤ R.cells) (hs : slots ≤ R.slots)
    (kk : ∀ (H1 : Heap) (locs1 : List Loc), va_P (dC, dI) vwCl (wBM cI cJ cZ h σ') H1 → va_D A (wBM cI cJ cZ h σ') → va_S A H0 H1 locs1 → W p l e R s m args below meth c H1 locs1 cells slots Q (F0 m (pc + 3) ls (.int r :: rest))) :
    W p l e R s m args below meth c H locs cells slots Q (F0 m pc ls st0) := by
  have hFc := va_free (wc := wBM cI cJ cZ h σ) hD hS hA [0, 1, 2, 3, 4, 5, 6, 7, 8, 9, 10, 11] rfl
  refine va_calli (va_runV (As := As) (rest := rest) S (hM dC dI cI cJ cZ h H.size) cw ⟨pBM.blind, va_recv hK hP (ci := 1) (q0 := 0) rfl rfl, fun U hU hW => ⟨rfl, by rw [hU], by rw [hU]; exact hP, va_K.moved hW.alike hK, hD.weaken (fun _ _ _ _ => trivial)⟩⟩ rfl hn hl hst (lv_room hroom) hdg ⟨hc, hs⟩) hS (fun q _ h => hFc q h) hFc (fun r' u t H1 locs1 ht hvm hw hB hz1 hk1 hS1 => ?_)
  subst hw
  obtain ⟨hP1, hK1, hD1⟩ := hB
  rw [ht] at hP1
  obtain ⟨hP2, hD2⟩ := va_join (wr := []) (w1 := wBM cI cJ cZ h σ') hP hD [0, 1, 2, 3, 4, 5, 6, 7, 8, 9, 10, 11] [] rfl rfl (by decide) (by decide) hk1 hFc hP1 hD1
  exact kk H1 locs1 hP2 hD2 hS1
end BMC
