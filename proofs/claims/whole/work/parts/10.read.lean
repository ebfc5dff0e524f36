set_option maxRecDepth 100000 in
set_option maxHeartbeats 4000000 in
theorem c_isTag (l : Launch) (t : Int32) (dC : Nat → ClassId) (dI : Nat → Nat → Nat) (cI : ClassId) (a sz : Nat) : Met l yX0_isTag wsX0_isTag ({ frames := 0, cells := 0, slots := 0, locals := 0 } : Room) (va_Pc [.int t] (fun U => U.heap.size = sz)) (va_Qi (fun (r' : Int32) (_ : Unit) => r' = (bI (isTg t))) (fun _ _ => True) (fun q => sz ≤ q)) 0 0 (fun q => sz ≤ q) := by
  refine Met.ofW (cc := cX0_isTag) (maxL := 1) (ret := (some .boolean)) (by decide) rfl ?_
  intro p e s m args below meth c s₁ B hml hv
  obtain ⟨rfl, hsz⟩ := hv
  have hx := B.exec
  have hb := B.bytes
  have hr := B.returns
  have hts := atoms_spec (ws := wsX0_isTag) B.pre
  have hown : s.vm.findClass RX0 = some m.cls := findClass_of_methodNamed B.named
  have htg : ∀ w ∈ GW, w.before _ s = true := fun w h => hts w (List.mem_cons_of_mem _ h)
  have hlocks := B.notSynchronized
  subst hsz
  have hA : ∀ q : Nat, s.heap.size ≤ q → (fun q => s.heap.size ≤ q) q := fun _ h => h
  have hS : va_S (fun q => s.heap.size ≤ q) s.heap s.heap [] := va_S.rf
  have hl := lv_entry [.int t] (n := 1) (Nat.le_of_ble_eq_true rfl)
  rw [lg_entry_eq]
  generalize (lg_sl [.int t] ++ List.replicate (1 - (lg_sl [.int t]).length) Slot.unset).toArray = ls at hl ⊢
  have hl : lv_has ls 1 [(0, .int t)] := hl
  refine lv_iload_n hx hb dX0_isTag_0 rfl (lv_at hl 0 rfl) ?_
  refine lv_if_lt (tgt := 14) hx hb dX0_isTag_1 (by decide) (fun c1 => ?_) (fun c1 => ?_)
  · refine lv_iconst (v := nI 0) hx hb dX0_isTag_14 (by decide) ?_
    exact W.zret (ty := .boolean) (v := nI 0) hx hb hr (by first | rfl | decide) (fun t ht hW => ⟨⟨_, (), rfl, isTg_no (by first | exact Or.inl c1 | exact Or.inr c7), trivial⟩, hS.F ht⟩) hS.2.2 dX0_isTag_15
  · refine lv_iload_n hx hb dX0_isTag_4 rfl (lv_at hl 0 rfl) ?_
    refine lv_bipush (v := nI 8) hx hb dX0_isTag_5 (by decide) ?_
    refine lv_icmp_ge (tgt := 14) hx hb dX0_isTag_7 (by decide) (fun c7 => ?_) (fun c7 => ?_)
    · refine lv_iconst (v := nI 0) hx hb dX0_isTag_14 (by decide) ?_
      exact W.zret (ty := .boolean) (v := nI 0) hx hb hr (by first | rfl | decide) (fun t ht hW => ⟨⟨_, (), rfl, isTg_no (by first | exact Or.inl c1 | exact Or.inr c7), trivial⟩, hS.F ht⟩) hS.2.2 dX0_isTag_15
    · refine lv_iconst (v := nI 1) hx hb dX0_isTag_10 (by decide) ?_
      refine lv_goto (tgt := 15) hx hb dX0_isTag_11 (by decide) ?_
      exact W.zret (ty := .boolean) (v := nI 1) hx hb hr (by first | rfl | decide) (fun t ht hW => ⟨⟨_, (), rfl, by rw [isTg, decide_eq_true c1, decide_eq_true c7]; rfl, trivial⟩, hS.F ht⟩) hS.2.2 dX0_isTag_15
set_option maxRecDepth 100000 in
set_option maxHeartbeats 4000000 in
theorem c_digestOf (l : Launch) (f : Nat → Int32) (N : Nat) (st : Nat) (n : Nat) (hn : st + n ≤ N) (hN : N < 2 ^ 31) (dC : Nat → ClassId) (dI : Nat → Nat → Nat) (cI : ClassId) (a sz : Nat) : Met l yX0_digestOf wsX0_digestOf ({ frames := 0, cells := 0, slots := 0, locals := 0 } : Room) (va_Pc [.ref a, .int (nI st), .int (nI n)] (fun U => U.heap.size = sz ∧ va_P (dC, dI) vwCl [(a, .inl (cI, N, .inl f))] U.heap ∧ va_K (dC, dI) vwCl [(cI, .int)] U)) (va_Ql (fun (r' : Int64) (_ : Unit) => r' = (dg f st n)) (fun _ _ => True) (fun q => sz ≤ q)) 0 0 (fun q => sz ≤ q) := by
  refine Met.ofW (cc := cX0_digestOf) (maxL := 6) (ret := (some .long)) (by decide) rfl ?_
  intro p e s m args below meth c s₁ B hml hv
  obtain ⟨rfl, hsz, hP, hK⟩ := hv
  have hx := B.exec
  have hb := B.bytes
  have hr := B.returns
  have hts := atoms_spec (ws := wsX0_digestOf) B.pre
  have hown : s.vm.findClass RX0 = some m.cls := findClass_of_methodNamed B.named
  have htg : ∀ w ∈ GW, w.before _ s = true := fun w h => hts w (List.mem_cons_of_mem _ h)
  have hlocks := B.notSynchronized
  subst hsz
  have hA : ∀ q : Nat, s.heap.size ≤ q → (fun q => s.heap.size ≤ q) q := fun _ h => h
  have hS : va_S (fun q => s.heap.size ≤ q) s.heap s.heap [] := va_S.rf
  have hl := lv_entry [.ref a, .int (nI st), .int (nI n)] (n := 6) (Nat.le_of_ble_eq_true rfl)
  rw [lg_entry_eq]
  generalize (lg_sl [.ref a, .int (nI st), .int (nI n)] ++ List.replicate (6 - (lg_sl [.ref a, .int (nI st), .int (nI n)]).length) Slot.unset).toArray = ls at hl ⊢
  have hl : lv_has ls 6 [(0, .ref a), (1, .int (nI st)), (2, .int (nI n))] := hl
  refine lv_ldc2 hx hb hown (htg _ qX0_151) dX0_digestOf_0 ?_
  refine lv_lstore_n (lv' := [(3, .long (-7046029254386353131)), (0, .ref a), (1, .int (nI st)), (2, .int (nI n))]) hx hb dX0_digestOf_3 rfl hl (by decide) rfl (fun ls hl => ?_)
  refine lv_iload_n hx hb dX0_digestOf_4 rfl (lv_at hl 2 rfl) ?_
  refine lv_istore (lv' := [(5, .int (nI st)), (3, .long (-7046029254386353131)), (0, .ref a), (1, .int (nI st)), (2, .int (nI n))]) hx hb dX0_digestOf_5 hl (by decide) rfl (fun ls hl => ?_)
  have loop : ∀ (k i : Nat) (x : Int64), i ≤ n → n < i + k → x = dgL f st i → ∀ (H : Heap) (locs : List Loc), va_P (dC, dI) vwCl [(a, .inl (cI, N, .inl f))] H → va_S (fun q => s.heap.size ≤ q) s.heap H locs → ∀ (ls : Array Slot), lv_has ls 6 [(5, .int (nI (st + i))), (3, .long x), (0, .ref a), (1, .int (nI st)), (2, .int (nI n))] → W p l e (headSpec wsX0_digestOf ({ frames := 0, cells := 0, slots := 0, locals := 0 } : Room)).room s m ([.ref a, .int (nI st), .int (nI n)].toArray) below meth c H locs 0 0 (MQ below (va_Ql (fun (r' : Int64) (_ : Unit) => r' = (dg f st n)) (fun _ _ => True) (fun q => s.heap.size ≤ q)) ([.ref a, .int (nI st), .int (nI n)].toArray) s 0 0 (fun q => s.heap.size ≤ q)) (F0 m 7 ls []) := by
    intro k
    induction k with
    | zero => intro i x h1 h2; exact absurd h2 (by omega)
    | succ k ih =>
      intro i x hi hin e3 H locs hP hS ls hl
      refine lv_iload hx hb dX0_digestOf_7 (lv_at hl 0 rfl) ?_
      refine lv_iload_n hx hb dX0_digestOf_9 rfl (lv_at hl 3 rfl) ?_
      refine lv_iload_n hx hb dX0_digestOf_10 rfl (lv_at hl 4 rfl) ?_
      refine xr_iadd hx hb dX0_digestOf_11 ?_
      refine xr_icmp_ge (tgt := 33) hx hb dX0_digestOf_12 (by decide) (by omega) (by omega) (fun c12 => ?_) (fun c12 => ?_)
      · refine lv_lload_n hx hb dX0_digestOf_33 rfl (lv_at hl 1 rfl) ?_
        refine lv_iload_n hx hb dX0_digestOf_34 rfl (lv_at hl 4 rfl) ?_
        refine lv_i2l (v := (nI n).toInt64) hx hb dX0_digestOf_35 rfl ?_
        refine lv_lxor hx hb dX0_digestOf_36 ?_
        refine lv_ldc2 hx hb hown (htg _ qX0_155) dX0_digestOf_37 ?_
        refine lv_lmul hx hb dX0_digestOf_40 ?_
        refine lv_lstore_n (lv' := [(3, .long ((x ^^^ ((nI n).toInt64)) * (-2960836687156293229))), (5, .int (nI (st + i))), (0, .ref a), (1, .int (nI st)), (2, .int (nI n))]) hx hb dX0_digestOf_41 rfl hl (by decide) rfl (fun ls hl => ?_)
        refine lv_lload_n hx hb dX0_digestOf_42 rfl (lv_at hl 0 rfl) ?_
        refine lv_lload_n hx hb dX0_digestOf_43 rfl (lv_at hl 0 rfl) ?_
        refine lv_bipush (v := nI 32) hx hb dX0_digestOf_44 (by decide) ?_
        refine lv_lushr (v := ((((x ^^^ ((nI n).toInt64)) * (-2960836687156293229))).toUInt64 >>> (((nI 32)).toInt64.toUInt64 &&& Int64.toUInt64 63)).toInt64) hx hb dX0_digestOf_46 rfl ?_
        refine lv_lxor hx hb dX0_digestOf_47 ?_
        exact W.lret (v := ((x ^^^ ((nI n).toInt64)) * (-2960836687156293229)) ^^^ (((((x ^^^ ((nI n).toInt64)) * (-2960836687156293229))).toUInt64 >>> (((nI 32)).toInt64.toUInt64 &&& Int64.toUInt64 63)).toInt64)) hx hb hr (fun t ht hW => ⟨⟨_, (), rfl, by rw [e3, show i = n by omega]; rfl, trivial⟩, hS.F ht⟩) hS.2.2 dX0_digestOf_48
      · refine lv_lload_n hx hb dX0_digestOf_15 rfl (lv_at hl 1 rfl) ?_
        refine lv_aload_n hx hb dX0_digestOf_16 rfl (lv_at hl 2 rfl) ?_
        refine lv_iload hx hb dX0_digestOf_17 (lv_at hl 0 rfl) ?_
        refine xr_iald (f := f) (i := st + i) hx hb hK hP 0 0 rfl rfl (by omega) hN dX0_digestOf_19 ?_
        refine lv_i2l (v := (f (st + i)).toInt64) hx hb dX0_digestOf_20 rfl ?_
        refine lv_lxor hx hb dX0_digestOf_21 ?_
        refine lv_ldc2 hx hb hown (htg _ qX0_153) dX0_digestOf_22 ?_
        refine lv_lmul hx hb dX0_digestOf_25 ?_
        refine lv_lstore_n (lv' := [(3, .long ((x ^^^ ((f (st + i)).toInt64)) * 1099511628211)), (5, .int (nI (st + i))), (0, .ref a), (1, .int (nI st)), (2, .int (nI n))]) hx hb dX0_digestOf_26 rfl hl (by decide) rfl (fun ls hl => ?_)
        refine lv_iinc (v := nI (st + i + 1)) (lv' := [(5, .int (nI (st + i + 1))), (3, .long ((x ^^^ ((f (st + i)).toInt64)) * 1099511628211)), (0, .ref a), (1, .int (nI st)), (2, .int (nI n))]) hx hb dX0_digestOf_27 hl (k := 1) rfl (nI_add _ 1) (by decide) rfl (fun ls hl => ?_)
        refine lv_goto (tgt := 7) hx hb dX0_digestOf_30 (by decide) ?_
        exact ih (i + 1) ((x ^^^ ((f (st + i)).toInt64)) * 1099511628211) (by omega) (by omega) (by rw [e3]; rfl) H locs hP hS ls (lv_sub hl [0, 1, 2, 3, 4] rfl)
  exact loop (n + 1) 0 _ (by omega) (by omega) rfl _ _ hP hS ls (lv_sub hl [0, 1, 2, 3, 4] rfl)
set_option maxRecDepth 100000 in
set_option maxHeartbeats 4000000 in
theorem c_findBlob (l : Launch) (σ : BJ) (d : Int64) (hc : jgBc σ ≤ 20) : rBi l yX0_findBlob wsX0_findBlob ({ frames := 0, cells := 0, slots := 0, locals := 0 } : Room) σ [.long d] (optI (fnd (jgBD σ) d (jgBc σ))) := by
  intro dC dI cI cJ h sz
  refine Met.ofW (cc := cX0_findBlob) (maxL := 4) (ret := (some .int)) (by decide) rfl ?_
  intro p e s m args below meth c s₁ B hml hv
  obtain ⟨rfl, hsz, hP, hK, hD0⟩ := hv
  have hx := B.exec
  have hb := B.bytes
  have hr := B.returns
  have hts := atoms_spec (ws := wsX0_findBlob) B.pre
  have hown : s.vm.findClass RX0 = some m.cls := findClass_of_methodNamed B.named
  have hlocks := B.notSynchronized
  subst hsz
  have htg : ∀ w ∈ GW, w.before _ s = true := fun w h => hts w (List.mem_cons_of_mem _ h)
  have hD := hD0
  have hA : ∀ q : Nat, s.heap.size ≤ q → (fun q => s.heap.size ≤ q) q := fun _ h => h
  have hS : va_S (fun q => s.heap.size ≤ q) s.heap s.heap [] := va_S.rf
  have hl := lv_entry [.ref (h 0), .long d] (n := 4) (Nat.le_of_ble_eq_true rfl)
  rw [lg_entry_eq]
  generalize (lg_sl [.ref (h 0), .long d] ++ List.replicate (4 - (lg_sl [.ref (h 0), .long d]).length) Slot.unset).toArray = ls at hl ⊢
  have hl : lv_has ls 4 [(0, .ref (h 0)), (1, .long d)] := hl
  have hP : va_P (dC, dI) vwCl (wBJ cI cJ h σ) s.heap := hP
  refine lv_iconst (v := nI 0) hx hb dX0_findBlob_0 (by decide) ?_
  refine lv_istore_n (lv' := [(3, .int (nI 0)), (0, .ref (h 0)), (1, .long d)]) hx hb dX0_findBlob_1 rfl hl (by decide) rfl (fun ls hl => ?_)
  have loop : ∀ (n i : Nat), i ≤ jgBc σ → jgBc σ < i + n → fnd (jgBD σ) d i = none → ∀ (H : Heap) (locs : List Loc), va_P (dC, dI) vwCl (wBJ cI cJ h σ) H → va_S (fun q => s.heap.size ≤ q) s.heap H locs → ∀ (ls : Array Slot), lv_has ls 4 [(3, .int (nI i)), (0, .ref (h 0)), (1, .long d)] → W p l e (headSpec wsX0_findBlob ({ frames := 0, cells := 0, slots := 0, locals := 0 } : Room)).room s m ([.ref (h 0), .long d].toArray) below meth c H locs 0 0 (MQ below (va_Qi (fun (r' : Int32) (_ : Unit) => r' = (optI (fnd (jgBD σ) d (jgBc σ)))) (fun _ _ => True) (fun q => s.heap.size ≤ q)) ([.ref (h 0), .long d].toArray) s 0 0 (fun q => s.heap.size ≤ q)) (F0 m 2 ls []) := by
    intro n
    induction n with
    | zero => intro i h1 h2; exact absurd h2 (by omega)
    | succ n ih =>
      intro i hi hin h0 H locs hP hS ls hl
      refine lv_iload_n hx hb dX0_findBlob_2 rfl (lv_at hl 0 rfl) ?_
      refine lv_aload_n hx hb dX0_findBlob_3 rfl (lv_at hl 1 rfl) ?_
      refine va_get (D := (dC, dI)) (ci := 0) (v := .int (nI (jgBc σ))) (C := RX0) (T := TX0) (N := 14) hx hb htg inX0 (fs := fsBJ h σ) hown hK hP 0 rfl rfl 8 (by decide) (htg _ fX0_68) (fun _ h9 => h9) rfl dX0_findBlob_4 ?_
      refine xr_icmp_ge (tgt := 29) hx hb dX0_findBlob_7 (by decide) (by omega) (by omega) (fun c7 => ?_) (fun c7 => ?_)
      · refine lv_iconst (v := -1) hx hb dX0_findBlob_29 (by decide) ?_
        exact W.iret (v := -1) hx hb hr (fun t ht hW => ⟨⟨_, (), rfl, by rw [← show i = jgBc σ by omega, h0]; rfl, trivial⟩, hS.F ht⟩) hS.2.2 dX0_findBlob_30
      · refine lv_aload_n hx hb dX0_findBlob_10 rfl (lv_at hl 1 rfl) ?_
        refine va_get (D := (dC, dI)) (ci := 0) (v := .ref (h 3)) (C := RX0) (T := TX0) (N := 14) hx hb htg inX0 (fs := fsBJ h σ) hown hK hP 0 rfl rfl 5 (by decide) (htg _ fX0_16) (fun _ h9 => h9) rfl dX0_findBlob_11 ?_
        refine lv_iload_n hx hb dX0_findBlob_14 rfl (lv_at hl 0 rfl) ?_
        refine xr_lald (f := jgBD σ) (i := i) hx hb hK hP 3 1 rfl rfl (by omega) (by decide) dX0_findBlob_15 ?_
        refine lv_lload_n hx hb dX0_findBlob_16 rfl (lv_at hl 2 rfl) ?_
        refine xr_lcmp_ne (tgt := 23) hx hb dX0_findBlob_17 dX0_findBlob_18 (by decide) (fun c17 => ?_) (fun c17 => ?_)
        · refine lv_iinc (v := nI (i + 1)) (lv' := [(3, .int (nI (i + 1))), (0, .ref (h 0)), (1, .long d)]) hx hb dX0_findBlob_23 hl (k := 0) rfl (nI_add _ 1) (by decide) rfl (fun ls hl => ?_)
          refine lv_goto (tgt := 2) hx hb dX0_findBlob_26 (by decide) ?_
          exact ih (i + 1) (by omega) (by omega) (fnd_miss h0 c17) H locs hP hS ls (lv_sub hl [0, 1, 2] rfl)
        · refine lv_iload_n hx hb dX0_findBlob_21 rfl (lv_at hl 0 rfl) ?_
          exact W.iret (v := nI i) hx hb hr (fun t ht hW => ⟨⟨_, (), rfl, by rw [fnd_hit h0 c17 c7]; rfl, trivial⟩, hS.F ht⟩) hS.2.2 dX0_findBlob_22
  exact loop (jgBc σ + 1) 0 (by omega) (by omega) (rfl) _ _ hP hS ls (lv_sub hl [0, 1, 2] rfl)
set_option maxRecDepth 100000 in
set_option maxHeartbeats 4000000 in
theorem c_findKey (l : Launch) (σ : BJ) (d : Int64) (hc : jgKc σ ≤ 16) : rBi l yX0_findKey wsX0_findKey ({ frames := 0, cells := 0, slots := 0, locals := 0 } : Room) σ [.long d] (optI (fnd (jgKS σ) d (jgKc σ))) := by
  intro dC dI cI cJ h sz
  refine Met.ofW (cc := cX0_findKey) (maxL := 4) (ret := (some .int)) (by decide) rfl ?_
  intro p e s m args below meth c s₁ B hml hv
  obtain ⟨rfl, hsz, hP, hK, hD0⟩ := hv
  have hx := B.exec
  have hb := B.bytes
  have hr := B.returns
  have hts := atoms_spec (ws := wsX0_findKey) B.pre
  have hown : s.vm.findClass RX0 = some m.cls := findClass_of_methodNamed B.named
  have hlocks := B.notSynchronized
  subst hsz
  have htg : ∀ w ∈ GW, w.before _ s = true := fun w h => hts w (List.mem_cons_of_mem _ h)
  have hD := hD0
  have hA : ∀ q : Nat, s.heap.size ≤ q → (fun q => s.heap.size ≤ q) q := fun _ h => h
  have hS : va_S (fun q => s.heap.size ≤ q) s.heap s.heap [] := va_S.rf
  have hl := lv_entry [.ref (h 0), .long d] (n := 4) (Nat.le_of_ble_eq_true rfl)
  rw [lg_entry_eq]
  generalize (lg_sl [.ref (h 0), .long d] ++ List.replicate (4 - (lg_sl [.ref (h 0), .long d]).length) Slot.unset).toArray = ls at hl ⊢
  have hl : lv_has ls 4 [(0, .ref (h 0)), (1, .long d)] := hl
  have hP : va_P (dC, dI) vwCl (wBJ cI cJ h σ) s.heap := hP
  refine lv_iconst (v := nI 0) hx hb dX0_findKey_0 (by decide) ?_
  refine lv_istore_n (lv' := [(3, .int (nI 0)), (0, .ref (h 0)), (1, .long d)]) hx hb dX0_findKey_1 rfl hl (by decide) rfl (fun ls hl => ?_)
  have loop : ∀ (n i : Nat), i ≤ jgKc σ → jgKc σ < i + n → fnd (jgKS σ) d i = none → ∀ (H : Heap) (locs : List Loc), va_P (dC, dI) vwCl (wBJ cI cJ h σ) H → va_S (fun q => s.heap.size ≤ q) s.heap H locs → ∀ (ls : Array Slot), lv_has ls 4 [(3, .int (nI i)), (0, .ref (h 0)), (1, .long d)] → W p l e (headSpec wsX0_findKey ({ frames := 0, cells := 0, slots := 0, locals := 0 } : Room)).room s m ([.ref (h 0), .long d].toArray) below meth c H locs 0 0 (MQ below (va_Qi (fun (r' : Int32) (_ : Unit) => r' = (optI (fnd (jgKS σ) d (jgKc σ)))) (fun _ _ => True) (fun q => s.heap.size ≤ q)) ([.ref (h 0), .long d].toArray) s 0 0 (fun q => s.heap.size ≤ q)) (F0 m 2 ls []) := by
    intro n
    induction n with
    | zero => intro i h1 h2; exact absurd h2 (by omega)
    | succ n ih =>
      intro i hi hin h0 H locs hP hS ls hl
      refine lv_iload_n hx hb dX0_findKey_2 rfl (lv_at hl 0 rfl) ?_
      refine lv_aload_n hx hb dX0_findKey_3 rfl (lv_at hl 1 rfl) ?_
      refine va_get (D := (dC, dI)) (ci := 0) (v := .int (nI (jgKc σ))) (C := RX0) (T := TX0) (N := 14) hx hb htg inX0 (fs := fsBJ h σ) hown hK hP 0 rfl rfl 12 (by decide) (htg _ fX0_106) (fun _ h9 => h9) rfl dX0_findKey_4 ?_
      refine xr_icmp_ge (tgt := 29) hx hb dX0_findKey_7 (by decide) (by omega) (by omega) (fun c7 => ?_) (fun c7 => ?_)
      · refine lv_iconst (v := -1) hx hb dX0_findKey_29 (by decide) ?_
        exact W.iret (v := -1) hx hb hr (fun t ht hW => ⟨⟨_, (), rfl, by rw [← show i = jgKc σ by omega, h0]; rfl, trivial⟩, hS.F ht⟩) hS.2.2 dX0_findKey_30
      · refine lv_aload_n hx hb dX0_findKey_10 rfl (lv_at hl 1 rfl) ?_
        refine va_get (D := (dC, dI)) (ci := 0) (v := .ref (h 7)) (C := RX0) (T := TX0) (N := 14) hx hb htg inX0 (fs := fsBJ h σ) hown hK hP 0 rfl rfl 10 (by decide) (htg _ fX0_35) (fun _ h9 => h9) rfl dX0_findKey_11 ?_
        refine lv_iload_n hx hb dX0_findKey_14 rfl (lv_at hl 0 rfl) ?_
        refine xr_lald (f := jgKS σ) (i := i) hx hb hK hP 7 1 rfl rfl (by omega) (by decide) dX0_findKey_15 ?_
        refine lv_lload_n hx hb dX0_findKey_16 rfl (lv_at hl 2 rfl) ?_
        refine xr_lcmp_ne (tgt := 23) hx hb dX0_findKey_17 dX0_findKey_18 (by decide) (fun c17 => ?_) (fun c17 => ?_)
        · refine lv_iinc (v := nI (i + 1)) (lv' := [(3, .int (nI (i + 1))), (0, .ref (h 0)), (1, .long d)]) hx hb dX0_findKey_23 hl (k := 0) rfl (nI_add _ 1) (by decide) rfl (fun ls hl => ?_)
          refine lv_goto (tgt := 2) hx hb dX0_findKey_26 (by decide) ?_
          exact ih (i + 1) (by omega) (by omega) (fnd_miss h0 c17) H locs hP hS ls (lv_sub hl [0, 1, 2] rfl)
        · refine lv_iload_n hx hb dX0_findKey_21 rfl (lv_at hl 0 rfl) ?_
          exact W.iret (v := nI i) hx hb hr (fun t ht hW => ⟨⟨_, (), rfl, by rw [fnd_hit h0 c17 c7]; rfl, trivial⟩, hS.F ht⟩) hS.2.2 dX0_findKey_22
  exact loop (jgKc σ + 1) 0 (by omega) (by omega) (rfl) _ _ hP hS ls (lv_sub hl [0, 1, 2] rfl)
set_option maxRecDepth 100000 in
set_option maxHeartbeats 4000000 in
theorem c_lengthAt (l : Launch) (σ : BJ) (a : Nat) (ha : a + 2 < 700) (hby : byt (jgW σ) 700) : rBi l yX0_lengthAt wsX0_lengthAt ({ frames := 0, cells := 0, slots := 0, locals := 0 } : Room) σ [.int (nI a)] (nI (lenAt (jgW σ) a)) := by
  intro dC dI cI cJ h sz
  refine Met.ofW (cc := cX0_lengthAt) (maxL := 2) (ret := (some .int)) (by decide) rfl ?_
  intro p e s m args below meth c s₁ B hml hv
  obtain ⟨rfl, hsz, hP, hK, hD0⟩ := hv
  have hx := B.exec
  have hb := B.bytes
  have hr := B.returns
  have hts := atoms_spec (ws := wsX0_lengthAt) B.pre
  have hown : s.vm.findClass RX0 = some m.cls := findClass_of_methodNamed B.named
  have hlocks := B.notSynchronized
  subst hsz
  have htg : ∀ w ∈ GW, w.before _ s = true := fun w h => hts w (List.mem_cons_of_mem _ h)
  have hD := hD0
  have hA : ∀ q : Nat, s.heap.size ≤ q → (fun q => s.heap.size ≤ q) q := fun _ h => h
  have hS : va_S (fun q => s.heap.size ≤ q) s.heap s.heap [] := va_S.rf
  have hl := lv_entry [.ref (h 0), .int (nI a)] (n := 2) (Nat.le_of_ble_eq_true rfl)
  rw [lg_entry_eq]
  generalize (lg_sl [.ref (h 0), .int (nI a)] ++ List.replicate (2 - (lg_sl [.ref (h 0), .int (nI a)]).length) Slot.unset).toArray = ls at hl ⊢
  have hl : lv_has ls 2 [(0, .ref (h 0)), (1, .int (nI a))] := hl
  have hP : va_P (dC, dI) vwCl (wBJ cI cJ h σ) s.heap := hP
  refine lv_aload_n hx hb dX0_lengthAt_0 rfl (lv_at hl 0 rfl) ?_
  refine va_get (D := (dC, dI)) (ci := 0) (v := .ref (h 2)) (C := RX0) (T := TX0) (N := 14) hx hb htg inX0 (fs := fsBJ h σ) hown hK hP 0 rfl rfl 2 (by decide) (htg _ fX0_13) (fun _ h9 => h9) rfl dX0_lengthAt_1 ?_
  refine lv_iload_n hx hb dX0_lengthAt_4 rfl (lv_at hl 1 rfl) ?_
  refine lv_iconst (v := nI 1) hx hb dX0_lengthAt_5 (by decide) ?_
  refine xr_iadd hx hb dX0_lengthAt_6 ?_
  refine xr_iald (f := jgW σ) (i := a + 1) hx hb hK hP 2 0 rfl rfl (by omega) (by decide) dX0_lengthAt_7 ?_
  refine W.eq (g2 := F0 m 8 ls [.int (nI (nb (jgW σ) (a + 1)))]) (by rw [(hby (a + 1) (by omega)).1]) ?_
  refine lv_sipush (v := nI 256) hx hb dX0_lengthAt_8 (by decide) ?_
  refine lv_aload_n hx hb dX0_lengthAt_11 rfl (lv_at hl 0 rfl) ?_
  refine va_get (D := (dC, dI)) (ci := 0) (v := .ref (h 2)) (C := RX0) (T := TX0) (N := 14) hx hb htg inX0 (fs := fsBJ h σ) hown hK hP 0 rfl rfl 2 (by decide) (htg _ fX0_13) (fun _ h9 => h9) rfl dX0_lengthAt_12 ?_
  refine lv_iload_n hx hb dX0_lengthAt_15 rfl (lv_at hl 1 rfl) ?_
  refine lv_iconst (v := nI 2) hx hb dX0_lengthAt_16 (by decide) ?_
  refine xr_iadd hx hb dX0_lengthAt_17 ?_
  refine xr_iald (f := jgW σ) (i := a + 2) hx hb hK hP 2 0 rfl rfl (by omega) (by decide) dX0_lengthAt_18 ?_
  refine W.eq (g2 := F0 m 19 ls [.int (nI (nb (jgW σ) (a + 2))), .int (nI 256), .int (nI (nb (jgW σ) (a + 1)))]) (by rw [(hby (a + 2) (by omega)).1]) ?_
  refine xr_imul hx hb dX0_lengthAt_19 ?_
  refine xr_iadd hx hb dX0_lengthAt_20 ?_
  exact W.iret (v := nI (nb (jgW σ) (a + 1) + (256 * (nb (jgW σ) (a + 2))))) hx hb hr (fun t ht hW => ⟨⟨_, (), rfl, rfl, trivial⟩, hS.F ht⟩) hS.2.2 dX0_lengthAt_21
set_option maxRecDepth 100000 in
set_option maxHeartbeats 4000000 in
theorem c_sumOf (l : Launch) (σ : BJ) (a : Nat) (b : Nat) (hab : a ≤ b) (hb7 : b ≤ 700) : rBi l yX0_sumOf wsX0_sumOf ({ frames := 0, cells := 0, slots := 0, locals := 0 } : Room) σ [.int (nI a), .int (nI b)] (sm (jgW σ) a (b - a)) := by
  intro dC dI cI cJ h sz
  refine Met.ofW (cc := cX0_sumOf) (maxL := 5) (ret := (some .int)) (by decide) rfl ?_
  intro p e s m args below meth c s₁ B hml hv
  obtain ⟨rfl, hsz, hP, hK, hD0⟩ := hv
  have hx := B.exec
  have hb := B.bytes
  have hr := B.returns
  have hts := atoms_spec (ws := wsX0_sumOf) B.pre
  have hown : s.vm.findClass RX0 = some m.cls := findClass_of_methodNamed B.named
  have hlocks := B.notSynchronized
  subst hsz
  have htg : ∀ w ∈ GW, w.before _ s = true := fun w h => hts w (List.mem_cons_of_mem _ h)
  have hD := hD0
  have hA : ∀ q : Nat, s.heap.size ≤ q → (fun q => s.heap.size ≤ q) q := fun _ h => h
  have hS : va_S (fun q => s.heap.size ≤ q) s.heap s.heap [] := va_S.rf
  have hl := lv_entry [.ref (h 0), .int (nI a), .int (nI b)] (n := 5) (Nat.le_of_ble_eq_true rfl)
  rw [lg_entry_eq]
  generalize (lg_sl [.ref (h 0), .int (nI a), .int (nI b)] ++ List.replicate (5 - (lg_sl [.ref (h 0), .int (nI a), .int (nI b)]).length) Slot.unset).toArray = ls at hl ⊢
  have hl : lv_has ls 5 [(0, .ref (h 0)), (1, .int (nI a)), (2, .int (nI b))] := hl
  have hP : va_P (dC, dI) vwCl (wBJ cI cJ h σ) s.heap := hP
  refine lv_iconst (v := nI 0) hx hb dX0_sumOf_0 (by decide) ?_
  refine lv_istore_n (lv' := [(3, .int (nI 0)), (0, .ref (h 0)), (1, .int (nI a)), (2, .int (nI b))]) hx hb dX0_sumOf_1 rfl hl (by decide) rfl (fun ls hl => ?_)
  refine lv_iload_n hx hb dX0_sumOf_2 rfl (lv_at hl 2 rfl) ?_
  refine lv_istore (lv' := [(4, .int (nI a)), (3, .int (nI 0)), (0, .ref (h 0)), (1, .int (nI a)), (2, .int (nI b))]) hx hb dX0_sumOf_3 hl (by decide) rfl (fun ls hl => ?_)
  have loop : ∀ (n i : Nat) (x : Int32), i ≤ b → b < i + n → a ≤ i → x = smL (jgW σ) a (i - a) → ∀ (H : Heap) (locs : List Loc), va_P (dC, dI) vwCl (wBJ cI cJ h σ) H → va_S (fun q => s.heap.size ≤ q) s.heap H locs → ∀ (ls : Array Slot), lv_has ls 5 [(4, .int (nI i)), (3, .int x), (0, .ref (h 0)), (1, .int (nI a)), (2, .int (nI b))] → W p l e (headSpec wsX0_sumOf ({ frames := 0, cells := 0, slots := 0, locals := 0 } : Room)).room s m ([.ref (h 0), .int (nI a), .int (nI b)].toArray) below meth c H locs 0 0 (MQ below (va_Qi (fun (r' : Int32) (_ : Unit) => r' = (sm (jgW σ) a (b - a))) (fun _ _ => True) (fun q => s.heap.size ≤ q)) ([.ref (h 0), .int (nI a), .int (nI b)].toArray) s 0 0 (fun q => s.heap.size ≤ q)) (F0 m 5 ls []) := by
    intro n
    induction n with
    | zero => intro i x h1 h2; exact absurd h2 (by omega)
    | succ n ih =>
      intro i x hi hin hai e3 H locs hP hS ls hl
      refine lv_iload hx hb dX0_sumOf_5 (lv_at hl 0 rfl) ?_
      refine lv_iload_n hx hb dX0_sumOf_7 rfl (lv_at hl 4 rfl) ?_
      refine xr_icmp_ge (tgt := 27) hx hb dX0_sumOf_8 (by decide) (by omega) (by omega) (fun c8 => ?_) (fun c8 => ?_)
      · refine lv_iload_n hx hb dX0_sumOf_27 rfl (lv_at hl 1 rfl) ?_
        refine lv_sipush (v := nI 255) hx hb dX0_sumOf_28 (by decide) ?_
        refine lv_iand hx hb dX0_sumOf_31 ?_
        exact W.iret (v := x &&& (nI 255)) hx hb hr (fun t ht hW => ⟨⟨_, (), rfl, by rw [e3, show i = b by omega]; rfl, trivial⟩, hS.F ht⟩) hS.2.2 dX0_sumOf_32
      · refine lv_iload_n hx hb dX0_sumOf_11 rfl (lv_at hl 1 rfl) ?_
        refine lv_aload_n hx hb dX0_sumOf_12 rfl (lv_at hl 2 rfl) ?_
        refine va_get (D := (dC, dI)) (ci := 0) (v := .ref (h 2)) (C := RX0) (T := TX0) (N := 14) hx hb htg inX0 (fs := fsBJ h σ) hown hK hP 0 rfl rfl 2 (by decide) (htg _ fX0_13) (fun _ h9 => h9) rfl dX0_sumOf_13 ?_
        refine lv_iload hx hb dX0_sumOf_16 (lv_at hl 0 rfl) ?_
        refine xr_iald (f := jgW σ) (i := i) hx hb hK hP 2 0 rfl rfl (by omega) (by decide) dX0_sumOf_18 ?_
        refine lv_iadd hx hb dX0_sumOf_19 ?_
        refine lv_istore_n (lv' := [(3, .int (x + ((jgW σ) i))), (4, .int (nI i)), (0, .ref (h 0)), (1, .int (nI a)), (2, .int (nI b))]) hx hb dX0_sumOf_20 rfl hl (by decide) rfl (fun ls hl => ?_)
        refine lv_iinc (v := nI (i + 1)) (lv' := [(4, .int (nI (i + 1))), (3, .int (x + ((jgW σ) i))), (0, .ref (h 0)), (1, .int (nI a)), (2, .int (nI b))]) hx hb dX0_sumOf_21 hl (k := 1) rfl (nI_add _ 1) (by decide) rfl (fun ls hl => ?_)
        refine lv_goto (tgt := 5) hx hb dX0_sumOf_24 (by decide) ?_
        exact ih (i + 1) (x + ((jgW σ) i)) (by omega) (by omega) (by omega) (by rw [show i + 1 - a = (i - a) + 1 by omega, e3]; show _ = smL _ _ _ + _; rw [show a + (i - a) = i by omega]) H locs hP hS ls (lv_sub hl [0, 1, 2, 3, 4] rfl)
  exact loop (b + 1) a (nI 0) (by omega) (by omega) (Nat.le_refl _) (by rw [Nat.sub_self]; rfl) _ _ hP hS ls (lv_sub hl [0, 1, 2, 3, 4] rfl)
set_option maxRecDepth 100000 in
set_option maxHeartbeats 4000000 in
theorem c_longAt (l : Launch) (σ : BJ) (a : Nat) (ha : a + 7 < 700) : rBl l yX0_longAt wsX0_longAt ({ frames := 0, cells := 0, slots := 0, locals := 0 } : Room) σ [.int (nI a)] (longAt (jgW σ) a) := by
  intro dC dI cI cJ h sz
  refine Met.ofW (cc := cX0_longAt) (maxL := 5) (ret := (some .long)) (by decide) rfl ?_
  intro p e s m args below meth c s₁ B hml hv
  obtain ⟨rfl, hsz, hP, hK, hD0⟩ := hv
  have hx := B.exec
  have hb := B.bytes
  have hr := B.returns
  have hts := atoms_spec (ws := wsX0_longAt) B.pre
  have hown : s.vm.findClass RX0 = some m.cls := findClass_of_methodNamed B.named
  have hlocks := B.notSynchronized
  subst hsz
  have htg : ∀ w ∈ GW, w.before _ s = true := fun w h => hts w (List.mem_cons_of_mem _ h)
  have hD := hD0
  have hA : ∀ q : Nat, s.heap.size ≤ q → (fun q => s.heap.size ≤ q) q := fun _ h => h
  have hS : va_S (fun q => s.heap.size ≤ q) s.heap s.heap [] := va_S.rf
  have hl := lv_entry [.ref (h 0), .int (nI a)] (n := 5) (Nat.le_of_ble_eq_true rfl)
  rw [lg_entry_eq]
  generalize (lg_sl [.ref (h 0), .int (nI a)] ++ List.replicate (5 - (lg_sl [.ref (h 0), .int (nI a)]).length) Slot.unset).toArray = ls at hl ⊢
  have hl : lv_has ls 5 [(0, .ref (h 0)), (1, .int (nI a))] := hl
  have hP : va_P (dC, dI) vwCl (wBJ cI cJ h σ) s.heap := hP
  refine lv_lconst (v := 0) hx hb dX0_longAt_0 (by decide) ?_
  refine lv_lstore_n (lv' := [(2, .long 0), (0, .ref (h 0)), (1, .int (nI a))]) hx hb dX0_longAt_1 rfl hl (by decide) rfl (fun ls hl => ?_)
  refine lv_bipush (v := nI 7) hx hb dX0_longAt_2 (by decide) ?_
  refine lv_istore (lv' := [(4, .int (nI 7)), (2, .long 0), (0, .ref (h 0)), (1, .int (nI a))]) hx hb dX0_longAt_4 hl (by decide) rfl (fun ls hl => ?_)
  have loop : ∀ (n i k : Nat) (x : Int64), i < n → i + k = 8 → x = laL (jgW σ) a k → ∀ (H : Heap) (locs : List Loc), va_P (dC, dI) vwCl (wBJ cI cJ h σ) H → va_S (fun q => s.heap.size ≤ q) s.heap H locs → ∀ (ls : Array Slot), lv_has ls 5 [(4, .int (nI i - 1)), (2, .long x), (0, .ref (h 0)), (1, .int (nI a))] → W p l e (headSpec wsX0_longAt ({ frames := 0, cells := 0, slots := 0, locals := 0 } : Room)).room s m ([.ref (h 0), .int (nI a)].toArray) below meth c H locs 0 0 (MQ below (va_Ql (fun (r' : Int64) (_ : Unit) => r' = (longAt (jgW σ) a)) (fun _ _ => True) (fun q => s.heap.size ≤ q)) ([.ref (h 0), .int (nI a)].toArray) s 0 0 (fun q => s.heap.size ≤ q)) (F0 m 6 ls []) := by
    intro n
    induction n with
    | zero => intro i k x h1; exact absurd h1 (by omega)
    | succ n ih =>
      intro i k x hin hik e3 H locs hP hS ls hl
      cases i with
      | zero =>
        have hl : lv_has ls 5 [(4, .int (-1)), (2, .long x), (0, .ref (h 0)), (1, .int (nI a))] := hl
        refine lv_iload hx hb dX0_longAt_6 (lv_at hl 0 rfl) ?_
        refine lv_if_lt (tgt := 33) hx hb dX0_longAt_8 (by decide) (fun c8 => ?_) (fun c8 => absurd c8 (by decide))
        refine lv_lload_n hx hb dX0_longAt_33 rfl (lv_at hl 1 rfl) ?_
        exact W.lret (v := x) hx hb hr (fun t ht hW => ⟨⟨_, (), rfl, by rw [e3, show k = 8 by omega]; rfl, trivial⟩, hS.F ht⟩) hS.2.2 dX0_longAt_34
      | succ i =>
        have hl : lv_has ls 5 [(4, .int (nI i)), (2, .long x), (0, .ref (h 0)), (1, .int (nI a))] := by rw [nI_pred] at hl; exact hl
        refine lv_iload hx hb dX0_longAt_6 (lv_at hl 0 rfl) ?_
        refine lv_if_lt (tgt := 33) hx hb dX0_longAt_8 (by decide) (fun c8 => absurd c8 (by exact nI_pos (by omega))) (fun c8 => ?_)
        refine lv_lload_n hx hb dX0_longAt_11 rfl (lv_at hl 1 rfl) ?_
        refine lv_bipush (v := nI 8) hx hb dX0_longAt_12 (by decide) ?_
        refine lv_lshl (v := x <<< (((nI 8)).toInt64 &&& 63)) hx hb dX0_longAt_14 rfl ?_
        refine lv_aload_n hx hb dX0_longAt_15 rfl (lv_at hl 2 rfl) ?_
        refine va_get (D := (dC, dI)) (ci := 0) (v := .ref (h 2)) (C := RX0) (T := TX0) (N := 14) hx hb htg inX0 (fs := fsBJ h σ) hown hK hP 0 rfl rfl 2 (by decide) (htg _ fX0_13) (fun _ h9 => h9) rfl dX0_longAt_16 ?_
        refine lv_iload_n hx hb dX0_longAt_19 rfl (lv_at hl 3 rfl) ?_
        refine lv_iload hx hb dX0_longAt_20 (lv_at hl 0 rfl) ?_
        refine xr_iadd hx hb dX0_longAt_22 ?_
        refine xr_iald (f := jgW σ) (i := a + i) hx hb hK hP 2 0 rfl rfl (by omega) (by decide) dX0_longAt_23 ?_
        refine lv_i2l (v := ((jgW σ) (a + i)).toInt64) hx hb dX0_longAt_24 rfl ?_
        refine lv_lor hx hb dX0_longAt_25 ?_
        refine lv_lstore_n (lv' := [(2, .long ((x <<< (((nI 8)).toInt64 &&& 63)) ||| (((jgW σ) (a + i)).toInt64))), (4, .int (nI i)), (0, .ref (h 0)), (1, .int (nI a))]) hx hb dX0_longAt_26 rfl hl (by decide) rfl (fun ls hl => ?_)
        refine lv_iinc (v := nI i - 1) (lv' := [(4, .int (nI i - 1)), (2, .long ((x <<< (((nI 8)).toInt64 &&& 63)) ||| (((jgW σ) (a + i)).toInt64))), (0, .ref (h 0)), (1, .int (nI a))]) hx hb dX0_longAt_27 hl (k := 1) rfl (by rw [Int32.sub_eq_add_neg]; rfl) (by decide) rfl (fun ls hl => ?_)
        refine lv_goto (tgt := 6) hx hb dX0_longAt_30 (by decide) ?_
        exact ih i (k + 1) ((x <<< (((nI 8)).toInt64 &&& 63)) ||| (((jgW σ) (a + i)).toInt64)) (by omega) (by omega) (by rw [e3]; show _ = (_ <<< _) ||| _; rw [show 7 - k = i by omega]) H locs hP hS ls (lv_sub hl [0, 1, 2, 3] rfl)
  exact loop 9 8 0 0 (by omega) (by omega) rfl _ _ hP hS ls (by have hl := lv_sub hl [0, 1, 2, 3] rfl; exact hl)
set_option maxRecDepth 100000 in
set_option maxHeartbeats 4000000 in
theorem c_isWhole (l : Launch) (σ : BJ) (a : Nat) (en : Nat) (ha : a < 2 ^ 30) (hen : en ≤ 700) (hby : byt (jgW σ) 700) : rBi l yX0_isWhole wsX0_isWhole ({ frames := 1, cells := 0, slots := 0, locals := 24 } : Room) σ [.int (nI a), .int (nI en)] (bI (isWh (jgW σ) a en)) := by
  intro dC dI cI cJ h sz
  refine Met.ofW (cc := cX0_isWhole) (maxL := 4) (ret := (some .boolean)) (by decide) rfl ?_
  intro p e s m args below meth c s₁ B hml hv
  obtain ⟨rfl, hsz, hP, hK, hD0⟩ := hv
  have hx := B.exec
  have hb := B.bytes
  have hr := B.returns
  have hts := atoms_spec (ws := wsX0_isWhole) B.pre
  have hown : s.vm.findClass RX0 = some m.cls := findClass_of_methodNamed B.named
  have hlocks := B.notSynchronized
  subst hsz
  have htg : ∀ w ∈ GW, w.before _ s = true := fun w h => hts w (List.mem_cons_of_mem _ h)
  have hD := hD0
  have hA : ∀ q : Nat, s.heap.size ≤ q → (fun q => s.heap.size ≤ q) q := fun _ h => h
  have hS : va_S (fun q => s.heap.size ≤ q) s.heap s.heap [] := va_S.rf
  have hl := lv_entry [.ref (h 0), .int (nI a), .int (nI en)] (n := 4) (Nat.le_of_ble_eq_true rfl)
  rw [lg_entry_eq]
  generalize (lg_sl [.ref (h 0), .int (nI a), .int (nI en)] ++ List.replicate (4 - (lg_sl [.ref (h 0), .int (nI a), .int (nI en)]).length) Slot.unset).toArray = ls at hl ⊢
  have hl : lv_has ls 4 [(0, .ref (h 0)), (1, .int (nI a)), (2, .int (nI en))] := hl
  have hP : va_P (dC, dI) vwCl (wBJ cI cJ h σ) s.heap := hP
  refine lv_iload_n hx hb dX0_isWhole_0 rfl (lv_at hl 1 rfl) ?_
  refine lv_iconst (v := nI 4) hx hb dX0_isWhole_1 (by decide) ?_
  refine xr_iadd hx hb dX0_isWhole_2 ?_
  refine lv_iload_n hx hb dX0_isWhole_3 rfl (lv_at hl 2 rfl) ?_
  refine xr_icmp_le (tgt := 9) hx hb dX0_isWhole_4 (by decide) (by omega) (by omega) (fun c4 => ?_) (fun c4 => ?_)
  · refine lv_iload_n hx hb dX0_isWhole_9 rfl (lv_at hl 1 rfl) ?_
    refine lv_iconst (v := nI 3) hx hb dX0_isWhole_10 (by decide) ?_
    refine xr_iadd hx hb dX0_isWhole_11 ?_
    refine lv_aload_n hx hb dX0_isWhole_12 rfl (lv_at hl 0 rfl) ?_
    refine lv_iload_n hx hb dX0_isWhole_13 rfl (lv_at hl 1 rfl) ?_
    refine bj_ri (As := [.int (nI a)]) (rest := [.int (nI (a + 3))]) (n := 1) ⟨hx, hb, hml, hown, htg⟩ (c_lengthAt l σ a (by omega) (hby)) (cwV 1 htg gX0_185 rfl rfl rfl (by decide +kernel) ⟨Nat.le_of_ble_eq_true rfl, Nat.le_of_ble_eq_true rfl⟩) hK hP hD hS hA hl.1 rfl rfl (Nat.le_of_ble_eq_true rfl) dX0_isWhole_14 (Nat.zero_le _) (Nat.zero_le _) (fun H locs hP hS => ?_)
    have hlen := lenAt_lt (a := a) hby (by omega)
    refine xr_iadd hx hb dX0_isWhole_17 ?_
    refine lv_istore_n (lv' := [(3, .int (nI (a + 3 + (lenAt (jgW σ) a)))), (0, .ref (h 0)), (1, .int (nI a)), (2, .int (nI en))]) hx hb dX0_isWhole_18 rfl hl (by decide) rfl (fun ls hl => ?_)
    refine lv_iload_n hx hb dX0_isWhole_19 rfl (lv_at hl 0 rfl) ?_
    refine lv_iload_n hx hb dX0_isWhole_20 rfl (lv_at hl 3 rfl) ?_
    refine xr_icmp_ge (tgt := 43) hx hb dX0_isWhole_21 (by decide) (by omega) (by omega) (fun c21 => ?_) (fun c21 => ?_)
    · refine lv_iconst (v := nI 0) hx hb dX0_isWhole_43 (by decide) ?_
      exact W.zret (ty := .boolean) (v := nI 0) hx hb hr (by first | rfl | decide | exact bI_nar _) (fun t ht hW => ⟨⟨_, (), rfl, by first | (rw [isWh, decide_eq_false c36, Bool.and_false, Bool.and_false]; rfl) | (rw [isWh, decide_eq_false (p := a + 3 + lenAt (jgW σ) a < en) (by omega), Bool.false_and, Bool.and_false]; rfl), trivial⟩, hS.F ht⟩) hS.2.2 dX0_isWhole_44
    · refine lv_aload_n hx hb dX0_isWhole_24 rfl (lv_at hl 1 rfl) ?_
      refine va_get (D := (dC, dI)) (ci := 0) (v := .ref (h 2)) (C := RX0) (T := TX0) (N := 14) hx hb htg inX0 (fs := fsBJ h σ) hown hK hP 0 rfl rfl 2 (by decide) (htg _ fX0_13) (fun _ h9 => h9) rfl dX0_isWhole_25 ?_
      refine lv_iload_n hx hb dX0_isWhole_28 rfl (lv_at hl 0 rfl) ?_
      refine xr_iald (f := jgW σ) (i := a + 3 + (lenAt (jgW σ) a)) hx hb hK hP 2 0 rfl rfl (by omega) (by decide) dX0_isWhole_29 ?_
      refine lv_aload_n hx hb dX0_isWhole_30 rfl (lv_at hl 1 rfl) ?_
      refine lv_iload_n hx hb dX0_isWhole_31 rfl (lv_at hl 2 rfl) ?_
      refine lv_iload_n hx hb dX0_isWhole_32 rfl (lv_at hl 0 rfl) ?_
      refine bj_ri (As := [.int (nI a), .int (nI (a + 3 + (lenAt (jgW σ) a)))]) (rest := [.int ((jgW σ) (a + 3 + (lenAt (jgW σ) a)))]) (n := 2) ⟨hx, hb, hml, hown, htg⟩ (c_sumOf l σ a (a + 3 + (lenAt (jgW σ) a)) (by omega) (by omega)) (cwV 2 htg gX0_178 rfl rfl rfl (by decide +kernel) ⟨Nat.le_of_ble_eq_true rfl, Nat.le_of_ble_eq_true rfl⟩) hK hP hD hS hA hl.1 rfl rfl (Nat.le_of_ble_eq_true rfl) dX0_isWhole_33 (Nat.zero_le _) (Nat.zero_le _) (fun H locs hP hS => ?_)
      rw [show a + 3 + lenAt (jgW σ) a - a = 3 + lenAt (jgW σ) a by omega]
      refine lv_icmp_ne (tgt := 43) hx hb dX0_isWhole_36 (by decide) (fun c36 => ?_) (fun c36 => ?_)
      · refine lv_iconst (v := nI 0) hx hb dX0_isWhole_43 (by decide) ?_
        exact W.zret (ty := .boolean) (v := nI 0) hx hb hr (by first | rfl | decide | exact bI_nar _) (fun t ht hW => ⟨⟨_, (), rfl, by first | (rw [isWh, decide_eq_false c36, Bool.and_false, Bool.and_false]; rfl) | (rw [isWh, decide_eq_false (p := a + 3 + lenAt (jgW σ) a < en) (by omega), Bool.false_and, Bool.and_false]; rfl), trivial⟩, hS.F ht⟩) hS.2.2 dX0_isWhole_44
      · refine lv_iconst (v := nI 1) hx hb dX0_isWhole_39 (by decide) ?_
        refine lv_goto (tgt := 44) hx hb dX0_isWhole_40 (by decide) ?_
        exact W.zret (ty := .boolean) (v := nI 1) hx hb hr (by first | rfl | decide | exact bI_nar _) (fun t ht hW => ⟨⟨_, (), rfl, by rw [isWh, decide_eq_true (p := a + 4 ≤ en) (by omega), decide_eq_true (p := a + 3 + lenAt (jgW σ) a < en) c21, decide_eq_true c36]; rfl, trivial⟩, hS.F ht⟩) hS.2.2 dX0_isWhole_44
  · refine lv_iconst (v := nI 0) hx hb dX0_isWhole_7 (by decide) ?_
    exact W.zret (ty := .boolean) (v := nI 0) hx hb hr (by first | rfl | decide | exact bI_nar _) (fun t ht hW => ⟨⟨_, (), rfl, by rw [isWh, decide_eq_false (p := a + 4 ≤ en) (by omega)]; rfl, trivial⟩, hS.F ht⟩) hS.2.2 dX0_isWhole_8
set_option maxRecDepth 100000 in
set_option maxHeartbeats 4000000 in
theorem c_isTold (l : Launch) (σ : BJ) (b : Nat) (hb2 : b < 20) : rBi l yX0_isTold wsX0_isTold ({ frames := 0, cells := 0, slots := 0, locals := 0 } : Room) σ [.int (nI b)] (bI (isTold σ b)) := by
  intro dC dI cI cJ h sz
  refine Met.ofW (cc := cX0_isTold) (maxL := 3) (ret := (some .boolean)) (by decide) rfl ?_
  intro p e s m args below meth c s₁ B hml hv
  obtain ⟨rfl, hsz, hP, hK, hD0⟩ := hv
  have hx := B.exec
  have hb := B.bytes
  have hr := B.returns
  have hts := atoms_spec (ws := wsX0_isTold) B.pre
  have hown : s.vm.findClass RX0 = some m.cls := findClass_of_methodNamed B.named
  have hlocks := B.notSynchronized
  subst hsz
  have htg : ∀ w ∈ GW, w.before _ s = true := fun w h => hts w (List.mem_cons_of_mem _ h)
  have hD := hD0
  have hA : ∀ q : Nat, s.heap.size ≤ q → (fun q => s.heap.size ≤ q) q := fun _ h => h
  have hS : va_S (fun q => s.heap.size ≤ q) s.heap s.heap [] := va_S.rf
  have hl := lv_entry [.ref (h 0), .int (nI b)] (n := 3) (Nat.le_of_ble_eq_true rfl)
  rw [lg_entry_eq]
  generalize (lg_sl [.ref (h 0), .int (nI b)] ++ List.replicate (3 - (lg_sl [.ref (h 0), .int (nI b)]).length) Slot.unset).toArray = ls at hl ⊢
  have hl : lv_has ls 3 [(0, .ref (h 0)), (1, .int (nI b))] := hl
  have hP : va_P (dC, dI) vwCl (wBJ cI cJ h σ) s.heap := hP
  refine lv_iconst (v := nI 0) hx hb dX0_isTold_0 (by decide) ?_
  refine lv_istore_n (lv' := [(2, .int (nI 0)), (0, .ref (h 0)), (1, .int (nI b))]) hx hb dX0_isTold_1 rfl hl (by decide) rfl (fun ls hl => ?_)
  have loop : ∀ (n i : Nat), i ≤ 8 → 8 < i + n → anyB (fun t => decide (jgTB σ t = nI b)) i = false → ∀ (H : Heap) (locs : List Loc), va_P (dC, dI) vwCl (wBJ cI cJ h σ) H → va_S (fun q => s.heap.size ≤ q) s.heap H locs → ∀ (ls : Array Slot), lv_has ls 3 [(2, .int (nI i)), (0, .ref (h 0)), (1, .int (nI b))] → W p l e (headSpec wsX0_isTold ({ frames := 0, cells := 0, slots := 0, locals := 0 } : Room)).room s m ([.ref (h 0), .int (nI b)].toArray) below meth c H locs 0 0 (MQ below (va_Qi (fun (r' : Int32) (_ : Unit) => r' = (bI (isTold σ b))) (fun _ _ => True) (fun q => s.heap.size ≤ q)) ([.ref (h 0), .int (nI b)].toArray) s 0 0 (fun q => s.heap.size ≤ q)) (F0 m 2 ls []) := by
    intro n
    induction n with
    | zero => intro i h1 h2; exact absurd h2 (by omega)
    | succ n ih =>
      intro i hi hin h0 H locs hP hS ls hl
      refine lv_iload_n hx hb dX0_isTold_2 rfl (lv_at hl 0 rfl) ?_
      refine lv_bipush (v := nI 8) hx hb dX0_isTold_3 (by decide) ?_
      refine xr_icmp_ge (tgt := 26) hx hb dX0_isTold_5 (by decide) (by omega) (by omega) (fun c5 => ?_) (fun c5 => ?_)
      · refine lv_iconst (v := nI 0) hx hb dX0_isTold_26 (by decide) ?_
        refine lv_istore_n (lv' := [(2, .int (nI 0)), (0, .ref (h 0)), (1, .int (nI b))]) hx hb dX0_isTold_27 rfl hl (by decide) rfl (fun ls hl => ?_)
        have loop : ∀ (n j : Nat), j ≤ 4 → 4 < j + n → anyB (fun t => decide (jgTB σ t = nI b)) 8 = false → anyB (fun k => decide (jgPD σ k ≠ 0) && decide (jgPD σ k = jgBD σ b)) j = false → ∀ (H : Heap) (locs : List Loc), va_P (dC, dI) vwCl (wBJ cI cJ h σ) H → va_S (fun q => s.heap.size ≤ q) s.heap H locs → ∀ (ls : Array Slot), lv_has ls 3 [(2, .int (nI j)), (0, .ref (h 0)), (1, .int (nI b))] → W p l e (headSpec wsX0_isTold ({ frames := 0, cells := 0, slots := 0, locals := 0 } : Room)).room s m ([.ref (h 0), .int (nI b)].toArray) below meth c H locs 0 0 (MQ below (va_Qi (fun (r' : Int32) (_ : Unit) => r' = (bI (isTold σ b))) (fun _ _ => True) (fun q => s.heap.size ≤ q)) ([.ref (h 0), .int (nI b)].toArray) s 0 0 (fun q => s.heap.size ≤ q)) (F0 m 28 ls []) := by
          intro n
          induction n with
          | zero => intro j h1 h2; exact absurd h2 (by omega)
          | succ n ih =>
            intro j hi hin h8 h9 H locs hP hS ls hl
            refine lv_iload_n hx hb dX0_isTold_28 rfl (lv_at hl 0 rfl) ?_
            refine lv_iconst (v := nI 4) hx hb dX0_isTold_29 (by decide) ?_
            refine xr_icmp_ge (tgt := 68) hx hb dX0_isTold_30 (by decide) (by omega) (by omega) (fun c30 => ?_) (fun c30 => ?_)
            · refine lv_iconst (v := nI 0) hx hb dX0_isTold_68 (by decide) ?_
              exact W.zret (ty := .boolean) (v := nI 0) hx hb hr (by first | rfl | decide | exact bI_nar _) (fun t ht hW => ⟨⟨_, (), rfl, by rw [isTold, h8, ← show j = 4 by omega, h9]; rfl, trivial⟩, hS.F ht⟩) hS.2.2 dX0_isTold_69
            · refine lv_aload_n hx hb dX0_isTold_33 rfl (lv_at hl 1 rfl) ?_
              refine va_get (D := (dC, dI)) (ci := 0) (v := .ref (h 9)) (C := RX0) (T := TX0) (N := 14) hx hb htg inX0 (fs := fsBJ h σ) hown hK hP 0 rfl rfl 13 (by decide) (htg _ fX0_41) (fun _ h9 => h9) rfl dX0_isTold_34 ?_
              refine lv_iload_n hx hb dX0_isTold_37 rfl (lv_at hl 0 rfl) ?_
              refine xr_lald (f := jgPD σ) (i := j) hx hb hK hP 9 1 rfl rfl (by omega) (by decide) dX0_isTold_38 ?_
              refine lv_lconst (v := 0) hx hb dX0_isTold_39 (by decide) ?_
              refine xr_lcmp_eq (tgt := 62) hx hb dX0_isTold_40 dX0_isTold_41 (by decide) (fun c40 => ?_) (fun c40 => ?_)
              · refine lv_iinc (v := nI (j + 1)) (lv' := [(2, .int (nI (j + 1))), (0, .ref (h 0)), (1, .int (nI b))]) hx hb dX0_isTold_62 hl (k := 0) rfl (nI_add _ 1) (by decide) rfl (fun ls hl => ?_)
                refine lv_goto (tgt := 28) hx hb dX0_isTold_65 (by decide) ?_
                exact ih (j + 1) (by omega) (by omega) (h8) (anyB_miss h9 (by first | (simp only [Bool.and_eq_false_iff, decide_eq_false_iff_not]; exact Or.inr c56) | (rw [show jgPD σ j = 0 from c40]; rfl))) H locs hP hS ls (lv_sub hl [0, 1, 2] rfl)
              · refine lv_aload_n hx hb dX0_isTold_44 rfl (lv_at hl 1 rfl) ?_
                refine va_get (D := (dC, dI)) (ci := 0) (v := .ref (h 9)) (C := RX0) (T := TX0) (N := 14) hx hb htg inX0 (fs := fsBJ h σ) hown hK hP 0 rfl rfl 13 (by decide) (htg _ fX0_41) (fun _ h9 => h9) rfl dX0_isTold_45 ?_
                refine lv_iload_n hx hb dX0_isTold_48 rfl (lv_at hl 0 rfl) ?_
                refine xr_lald (f := jgPD σ) (i := j) hx hb hK hP 9 1 rfl rfl (by omega) (by decide) dX0_isTold_49 ?_
                refine lv_aload_n hx hb dX0_isTold_50 rfl (lv_at hl 1 rfl) ?_
                refine va_get (D := (dC, dI)) (ci := 0) (v := .ref (h 3)) (C := RX0) (T := TX0) (N := 14) hx hb htg inX0 (fs := fsBJ h σ) hown hK hP 0 rfl rfl 5 (by decide) (htg _ fX0_16) (fun _ h9 => h9) rfl dX0_isTold_51 ?_
                refine lv_iload_n hx hb dX0_isTold_54 rfl (lv_at hl 2 rfl) ?_
                refine xr_lald (f := jgBD σ) (i := b) hx hb hK hP 3 1 rfl rfl (by omega) (by decide) dX0_isTold_55 ?_
                refine xr_lcmp_ne (tgt := 62) hx hb dX0_isTold_56 dX0_isTold_57 (by decide) (fun c56 => ?_) (fun c56 => ?_)
                · refine lv_iinc (v := nI (j + 1)) (lv' := [(2, .int (nI (j + 1))), (0, .ref (h 0)), (1, .int (nI b))]) hx hb dX0_isTold_62 hl (k := 0) rfl (nI_add _ 1) (by decide) rfl (fun ls hl => ?_)
                  refine lv_goto (tgt := 28) hx hb dX0_isTold_65 (by decide) ?_
                  exact ih (j + 1) (by omega) (by omega) (h8) (anyB_miss h9 (by first | (simp only [Bool.and_eq_false_iff, decide_eq_false_iff_not]; exact Or.inr c56) | (rw [show jgPD σ j = 0 from c40]; rfl))) H locs hP hS ls (lv_sub hl [0, 1, 2] rfl)
                · refine lv_iconst (v := nI 1) hx hb dX0_isTold_60 (by decide) ?_
                  exact W.zret (ty := .boolean) (v := nI 1) hx hb hr (by first | rfl | decide | exact bI_nar _) (fun t ht hW => ⟨⟨_, (), rfl, by rw [isTold, anyB_hit (q := (fun k => decide (jgPD σ k ≠ 0) && decide (jgPD σ k = jgBD σ b))) c30 (by simp only [Bool.and_eq_true, decide_eq_true_eq]; exact ⟨c40, c56⟩), Bool.or_true]; rfl, trivial⟩, hS.F ht⟩) hS.2.2 dX0_isTold_61
        exact loop (4 + 1) 0 (by omega) (by omega) (by rw [← show i = 8 by omega]; exact h0) (rfl) _ _ hP hS ls (lv_sub hl [0, 1, 2] rfl)
      · refine lv_aload_n hx hb dX0_isTold_8 rfl (lv_at hl 1 rfl) ?_
        refine va_get (D := (dC, dI)) (ci := 0) (v := .ref (h 6)) (C := RX0) (T := TX0) (N := 14) hx hb htg inX0 (fs := fsBJ h σ) hown hK hP 0 rfl rfl 9 (by decide) (htg _ fX0_26) (fun _ h9 => h9) rfl dX0_isTold_9 ?_
        refine lv_iload_n hx hb dX0_isTold_12 rfl (lv_at hl 0 rfl) ?_
        refine xr_iald (f := jgTB σ) (i := i) hx hb hK hP 6 0 rfl rfl (by omega) (by decide) dX0_isTold_13 ?_
        refine lv_iload_n hx hb dX0_isTold_14 rfl (lv_at hl 2 rfl) ?_
        refine lv_icmp_ne (tgt := 20) hx hb dX0_isTold_15 (by decide) (fun c15 => ?_) (fun c15 => ?_)
        · refine lv_iinc (v := nI (i + 1)) (lv' := [(2, .int (nI (i + 1))), (0, .ref (h 0)), (1, .int (nI b))]) hx hb dX0_isTold_20 hl (k := 0) rfl (nI_add _ 1) (by decide) rfl (fun ls hl => ?_)
          refine lv_goto (tgt := 2) hx hb dX0_isTold_23 (by decide) ?_
          exact ih (i + 1) (by omega) (by omega) (anyB_miss h0 (by simpa using c15)) H locs hP hS ls (lv_sub hl [0, 1, 2] rfl)
        · refine lv_iconst (v := nI 1) hx hb dX0_isTold_18 (by decide) ?_
          exact W.zret (ty := .boolean) (v := nI 1) hx hb hr (by first | rfl | decide | exact bI_nar _) (fun t ht hW => ⟨⟨_, (), rfl, by rw [isTold, anyB_hit (q := (fun t => decide (jgTB σ t = nI b))) c5 (by simpa using c15)]; rfl, trivial⟩, hS.F ht⟩) hS.2.2 dX0_isTold_19
  exact loop (8 + 1) 0 (by omega) (by omega) (rfl) _ _ hP hS ls (lv_sub hl [0, 1, 2] rfl)
