def setN {α : Type} (f : Nat → α) (k : Nat) (v : α) : Nat → α := fun j => if j = k then v else f j
theorem setN_setN {α : Type} (f : Nat → α) (k : Nat) (a b : α) : setN (setN f k a) k b = setN f k b := by
  funext j
  unfold setN
  by_cases h : j = k
  · rw [if_pos h, if_pos h]
  · rw [if_neg h, if_neg h, if_neg h]
theorem setN_comm {α : Type} (f : Nat → α) {k l : Nat} (a b : α) (h : k ≠ l) : setN (setN f k a) l b = setN (setN f l b) k a := by
  funext j
  unfold setN
  by_cases h1 : j = k
  · by_cases h2 : j = l
    · exact absurd (h1.symm.trans h2) h
    · rw [if_neg h2, if_pos h1, if_pos h1]
  · by_cases h2 : j = l
    · rw [if_pos h2, if_neg h1, if_pos h2]
    · rw [if_neg h2, if_neg h1, if_neg h1, if_neg h2]
/-! the class's state: what its fields and rows hold; the cells in which it lies -/
abbrev BJ : Type := (Nat → Nat) × (Nat → Nat → Int32) × (Nat → Nat → Int64)
def jgT (σ : BJ) : Nat → Int32 := σ.2.1 0
def jgTc (σ : BJ) : Nat := σ.1 0
def jgW (σ : BJ) : Nat → Int32 := σ.2.1 1
def jgWc (σ : BJ) : Nat := σ.1 1
def jgSc (σ : BJ) : Nat := σ.1 2
def jgBD (σ : BJ) : Nat → Int64 := σ.2.2 0
def jgBS (σ : BJ) : Nat → Int32 := σ.2.1 2
def jgBL (σ : BJ) : Nat → Int32 := σ.2.1 3
def jgBc (σ : BJ) : Nat := σ.1 3
def jgTB (σ : BJ) : Nat → Int32 := σ.2.1 4
def jgKS (σ : BJ) : Nat → Int64 := σ.2.2 1
def jgKD (σ : BJ) : Nat → Int64 := σ.2.2 2
def jgKc (σ : BJ) : Nat := σ.1 4
def jgPD (σ : BJ) : Nat → Int64 := σ.2.2 3
def juT (σ : BJ) (z : Nat → Int32) : BJ := (σ.1, setN σ.2.1 0 z, σ.2.2)
def juTc (σ : BJ) (z : Nat) : BJ := (setN σ.1 0 z, σ.2.1, σ.2.2)
def juW (σ : BJ) (z : Nat → Int32) : BJ := (σ.1, setN σ.2.1 1 z, σ.2.2)
def juWc (σ : BJ) (z : Nat) : BJ := (setN σ.1 1 z, σ.2.1, σ.2.2)
def juSc (σ : BJ) (z : Nat) : BJ := (setN σ.1 2 z, σ.2.1, σ.2.2)
def juBD (σ : BJ) (z : Nat → Int64) : BJ := (σ.1, σ.2.1, setN σ.2.2 0 z)
def juBS (σ : BJ) (z : Nat → Int32) : BJ := (σ.1, setN σ.2.1 2 z, σ.2.2)
def juBL (σ : BJ) (z : Nat → Int32) : BJ := (σ.1, setN σ.2.1 3 z, σ.2.2)
def juBc (σ : BJ) (z : Nat) : BJ := (setN σ.1 3 z, σ.2.1, σ.2.2)
def juTB (σ : BJ) (z : Nat → Int32) : BJ := (σ.1, setN σ.2.1 4 z, σ.2.2)
def juKS (σ : BJ) (z : Nat → Int64) : BJ := (σ.1, σ.2.1, setN σ.2.2 1 z)
def juKD (σ : BJ) (z : Nat → Int64) : BJ := (σ.1, σ.2.1, setN σ.2.2 2 z)
def juKc (σ : BJ) (z : Nat) : BJ := (setN σ.1 4 z, σ.2.1, σ.2.2)
def juPD (σ : BJ) (z : Nat → Int64) : BJ := (σ.1, σ.2.1, setN σ.2.2 3 z)
def fsBJ (h : Nat → Nat) (σ : BJ) : List Value := [.ref (h 1), .int (nI (jgTc σ)), .ref (h 2), .int (nI (jgWc σ)), .int (nI (jgSc σ)), .ref (h 3), .ref (h 4), .ref (h 5), .int (nI (jgBc σ)), .ref (h 6), .ref (h 7), .ref (h 8), .int (nI (jgKc σ)), .ref (h 9)]
def wBJ (cI cJ : ClassId) (h : Nat → Nat) (σ : BJ) : va_W := [(h 0, .inr (0, fsBJ h σ)), (h 1, .inl (cI, 64, .inl (jgT σ))), (h 2, .inl (cI, 700, .inl (jgW σ))), (h 3, .inl (cJ, 20, .inr (.inl (jgBD σ)))), (h 4, .inl (cI, 20, .inl (jgBS σ))), (h 5, .inl (cI, 20, .inl (jgBL σ))), (h 6, .inl (cI, 8, .inl (jgTB σ))), (h 7, .inl (cJ, 16, .inr (.inl (jgKS σ)))), (h 8, .inl (cJ, 16, .inr (.inl (jgKD σ)))), (h 9, .inl (cJ, 4, .inr (.inl (jgPD σ))))]
theorem wBJ_T (cI cJ : ClassId) (h : Nat → Nat) (σ : BJ) (z : Nat → Int32) : (wBJ cI cJ h σ).set 1 (h 1, .inl (cI, 64, .inl z)) = wBJ cI cJ h (juT σ z) := rfl
theorem wBJ_Tc (cI cJ : ClassId) (h : Nat → Nat) (σ : BJ) (z : Nat) : (wBJ cI cJ h σ).set 0 (h 0, .inr (0, (fsBJ h σ).set 1 (.int (nI z)))) = wBJ cI cJ h (juTc σ z) := rfl
theorem wBJ_W (cI cJ : ClassId) (h : Nat → Nat) (σ : BJ) (z : Nat → Int32) : (wBJ cI cJ h σ).set 2 (h 2, .inl (cI, 700, .inl z)) = wBJ cI cJ h (juW σ z) := rfl
theorem wBJ_Wc (cI cJ : ClassId) (h : Nat → Nat) (σ : BJ) (z : Nat) : (wBJ cI cJ h σ).set 0 (h 0, .inr (0, (fsBJ h σ).set 3 (.int (nI z)))) = wBJ cI cJ h (juWc σ z) := rfl
theorem wBJ_Sc (cI cJ : ClassId) (h : Nat → Nat) (σ : BJ) (z : Nat) : (wBJ cI cJ h σ).set 0 (h 0, .inr (0, (fsBJ h σ).set 4 (.int (nI z)))) = wBJ cI cJ h (juSc σ z) := rfl
theorem wBJ_BD (cI cJ : ClassId) (h : Nat → Nat) (σ : BJ) (z : Nat → Int64) : (wBJ cI cJ h σ).set 3 (h 3, .inl (cJ, 20, .inr (.inl z))) = wBJ cI cJ h (juBD σ z) := rfl
theorem wBJ_BS (cI cJ : ClassId) (h : Nat → Nat) (σ : BJ) (z : Nat → Int32) : (wBJ cI cJ h σ).set 4 (h 4, .inl (cI, 20, .inl z)) = wBJ cI cJ h (juBS σ z) := rfl
theorem wBJ_BL (cI cJ : ClassId) (h : Nat → Nat) (σ : BJ) (z : Nat → Int32) : (wBJ cI cJ h σ).set 5 (h 5, .inl (cI, 20, .inl z)) = wBJ cI cJ h (juBL σ z) := rfl
theorem wBJ_Bc (cI cJ : ClassId) (h : Nat → Nat) (σ : BJ) (z : Nat) : (wBJ cI cJ h σ).set 0 (h 0, .inr (0, (fsBJ h σ).set 8 (.int (nI z)))) = wBJ cI cJ h (juBc σ z) := rfl
theorem wBJ_TB (cI cJ : ClassId) (h : Nat → Nat) (σ : BJ) (z : Nat → Int32) : (wBJ cI cJ h σ).set 6 (h 6, .inl (cI, 8, .inl z)) = wBJ cI cJ h (juTB σ z) := rfl
theorem wBJ_KS (cI cJ : ClassId) (h : Nat → Nat) (σ : BJ) (z : Nat → Int64) : (wBJ cI cJ h σ).set 7 (h 7, .inl (cJ, 16, .inr (.inl z))) = wBJ cI cJ h (juKS σ z) := rfl
theorem wBJ_KD (cI cJ : ClassId) (h : Nat → Nat) (σ : BJ) (z : Nat → Int64) : (wBJ cI cJ h σ).set 8 (h 8, .inl (cJ, 16, .inr (.inl z))) = wBJ cI cJ h (juKD σ z) := rfl
theorem wBJ_Kc (cI cJ : ClassId) (h : Nat → Nat) (σ : BJ) (z : Nat) : (wBJ cI cJ h σ).set 0 (h 0, .inr (0, (fsBJ h σ).set 12 (.int (nI z)))) = wBJ cI cJ h (juKc σ z) := rfl
theorem wBJ_PD (cI cJ : ClassId) (h : Nat → Nat) (σ : BJ) (z : Nat → Int64) : (wBJ cI cJ h σ).set 9 (h 9, .inl (cJ, 4, .inr (.inl z))) = wBJ cI cJ h (juPD σ z) := rfl
/-! what the class's methods do, in pure words -/
def bI : Bool → Int32
  | true => nI 1
  | false => nI 0
section XB
variable {p : Program} {l : Launch} {e : Env} {R : Room} {s : State} {m : MethodId} {args : Array Value} {below : List Frame} {meth : Method} {c : Code} {H : Heap} {locs : List Loc} {cells slots : Nat} {Q : State → Prop}
variable {cc : ByteArray} {pc : Nat} {ls : Array Slot} {rest : List Value}
theorem xr_ifeqB (hx : p.tables.exec = Jvm.exec) (hb : c.code = cc) {b : Bool} {off : Int} {tgt : Nat} (hdg : decode cc pc = .ok (.ifCond .eq off, 3)) (ht : (pc : Int) + off = (tgt : Int)) (kt : b = false → W p l e R s m args below meth c H locs cells slots Q (F0 m tgt ls rest)) (kf : b = true → W p l e R s m args below meth c H locs cells slots Q (F0 m (pc + 3) ls rest)) : W p l e R s m args below meth c H locs cells slots Q (F0 m pc ls (.int (bI b) :: rest)) :=
  lv_if_eq hx hb hdg ht (fun h => kt (by cases b with | false => rfl | true => exact absurd h (by decide))) (fun h => kf (by cases b with | true => rfl | false => exact absurd rfl h))
theorem xr_ifneB (hx : p.tables.exec = Jvm.exec) (hb : c.code = cc) {b : Bool} {off : Int} {tgt : Nat} (hdg : decode cc pc = .ok (.ifCond .ne off, 3)) (ht : (pc : Int) + off = (tgt : Int)) (kt : b = true → W p l e R s m args below meth c H locs cells slots Q (F0 m tgt ls rest)) (kf : b = false → W p l e R s m args below meth c H locs cells slots Q (F0 m (pc + 3) ls rest)) : W p l e R s m args below meth c H locs cells slots Q (F0 m pc ls (.int (bI b) :: rest)) :=
  lv_if_ne hx hb hdg ht (fun h => kt (by cases b with | true => rfl | false => exact absurd rfl h)) (fun h => kf (by cases b with | false => rfl | true => exact absurd h (by decide)))
end XB
/-- the digest of n of f's numbers from st on -/
def dgL (f : Nat → Int32) (st : Nat) : Nat → Int64
  | 0 => -7046029254386353131
  | n + 1 => (dgL f st n ^^^ (f (st + n)).toInt64) * 1099511628211
def dgE (h : Int64) (n : Nat) : Int64 := (h ^^^ (nI n).toInt64) * (-2960836687156293229)
def dgX (h : Int64) : Int64 := h ^^^ ((h).toUInt64 >>> ((nI 32).toInt64.toUInt64 &&& Int64.toUInt64 63)).toInt64
def dg (f : Nat → Int32) (st n : Nat) : Int64 := dgX (dgE (dgL f st n) n)
/-- the first place below n at which f holds d -/
def fnd (f : Nat → Int64) (d : Int64) : Nat → Option Nat
  | 0 => none
  | n + 1 => match fnd f d n with
    | some i => some i
    | none => if f n = d then some n else none
theorem fnd_lt {f : Nat → Int64} {d : Int64} : ∀ {n i : Nat}, fnd f d n = some i → i < n ∧ f i = d
  | 0, i, h => by cases h
  | n + 1, i, h => by
    unfold fnd at h
    cases hq : fnd f d n with
    | some j =>
      rw [hq] at h
      cases h
      have := fnd_lt hq
      exact ⟨by omega, this.2⟩
    | none =>
      rw [hq] at h
      by_cases hd : f n = d
      · simp [hd] at h
        subst h
        exact ⟨by omega, hd⟩
      · simp [hd] at h
theorem fnd_hit {f : Nat → Int64} {d : Int64} {i : Nat} (h : fnd f d i = none) (hd : f i = d) : ∀ {n : Nat}, i < n → fnd f d n = some i
  | 0, hn => absurd hn (by omega)
  | n + 1, hn => by
    unfold fnd
    by_cases hi : i = n
    · subst hi
      rw [h]
      simp [hd]
    · rw [fnd_hit h hd (n := n) (by omega)]
theorem fnd_miss {f : Nat → Int64} {d : Int64} {i : Nat} (h : fnd f d i = none) (hd : f i ≠ d) : fnd f d (i + 1) = none := by
  unfold fnd
  rw [h]
  simp [hd]
theorem fnd_none {f : Nat → Int64} {d : Int64} : ∀ {n : Nat}, fnd f d n = none ↔ ∀ i, i < n → f i ≠ d
  | 0 => by simp [fnd]
  | n + 1 => by
    unfold fnd
    cases hq : fnd f d n with
    | some j =>
      have := fnd_lt hq
      simp
      exact ⟨j, by omega, this.2⟩
    | none =>
      have h0 := fnd_none.mp hq
      by_cases hd : f n = d
      · simp [hd]
        exact ⟨n, by omega, hd⟩
      · simp [hd]
        intro i hi
        by_cases hi2 : i = n
        · subst hi2; exact hd
        · exact h0 i (by omega)
/-- the sum of n of f's numbers from st on -/
def smL (f : Nat → Int32) (st : Nat) : Nat → Int32
  | 0 => 0
  | n + 1 => smL f st n + f (st + n)
