set_option maxRecDepth 100000 in
set_option maxHeartbeats 4000000 in
theorem m_ends (l : Launch) (x : Int64) (n : Int32) (sz : Nat) : Met l yX1_ends wsX1_ends ({ frames := 0, cells := 0, slots := 0, locals := 0 } : Room) (va_Pc [.long x, .int n] (fun U => U.heap.size = sz)) (va_Ql (fun (r' : Int64) (_ : Unit) => r' = (dgX ((x ^^^ n.toInt64) * (-2960836687156293229)))) (fun _ _ => True) (fun q => sz ≤ q)) 0 0 (fun q => sz ≤ q) := by
  refine Met.ofW (cc := cX1_ends) (maxL := 5) (ret := (some .long)) (by decide) rfl ?_
  intro p e s m args below meth c s₁ B hml hv
  obtain ⟨rfl, hsz⟩ := hv
  have hx := B.exec
  have hb := B.bytes
  have hr := B.returns
  have hts := atoms_spec (ws := wsX1_ends) B.pre
  have htg : ∀ w ∈ GW, w.before _ s = true := fun w h => hts w (List.mem_cons_of_mem _ h)
  have hown : s.vm.findClass RX1 = some m.cls := findClass_of_methodNamed B.named
  have hlocks := B.notSynchronized
  subst hsz
  have hS : va_S (fun q => s.heap.size ≤ q) s.heap s.heap [] := va_S.rf
  have hl := lv_entry [.long x, .int n] (n := 5) (Nat.le_of_ble_eq_true rfl)
  rw [lg_entry_eq]
  generalize (lg_sl [.long x, .int n] ++ List.replicate (5 - (lg_sl [.long x, .int n]).length) Slot.unset).toArray = ls at hl ⊢
  have hl : lv_has ls 5 [(0, .long x), (2, .int n)] := hl
  refine lv_lload_n hx hb dX1_ends_0 rfl (lv_at hl 0 rfl) ?_
  refine lv_iload_n hx hb dX1_ends_1 rfl (lv_at hl 1 rfl) ?_
  refine lv_i2l (v := n.toInt64) hx hb dX1_ends_2 rfl ?_
  refine lv_lxor hx hb dX1_ends_3 ?_
  refine lv_ldc2 hx hb hown (htg _ qX1_52) dX1_ends_4 ?_
  refine lv_lmul hx hb dX1_ends_7 ?_
  refine lv_lstore_n (lv' := [(3, .long ((x ^^^ n.toInt64) * (-2960836687156293229))), (0, .long x), (2, .int n)]) hx hb dX1_ends_8 rfl hl (by decide) rfl (fun ls hl => ?_)
  refine lv_lload_n hx hb dX1_ends_9 rfl (lv_at hl 0 rfl) ?_
  refine lv_lload_n hx hb dX1_ends_10 rfl (lv_at hl 0 rfl) ?_
  refine lv_bipush (v := nI 32) hx hb dX1_ends_11 (by decide) ?_
  refine lv_lushr (v := ((((x ^^^ n.toInt64) * (-2960836687156293229))).toUInt64 >>> (((nI 32)).toInt64.toUInt64 &&& Int64.toUInt64 63)).toInt64) hx hb dX1_ends_13 rfl ?_
  refine lv_lxor hx hb dX1_ends_14 ?_
  exact W.lret (v := ((x ^^^ n.toInt64) * (-2960836687156293229)) ^^^ (((((x ^^^ n.toInt64) * (-2960836687156293229))).toUInt64 >>> (((nI 32)).toInt64.toUInt64 &&& Int64.toUInt64 63)).toInt64)) hx hb hr (fun t ht hW => ⟨⟨_, (), rfl, rfl, trivial⟩, hS.F ht⟩) hS.2.2 dX1_ends_15
set_option maxRecDepth 100000 in
set_option maxHeartbeats 4000000 in
theorem m_goes (l : Launch) (x : Int64) (b : Int32) (sz : Nat) : Met l yX1_goes wsX1_goes ({ frames := 0, cells := 0, slots := 0, locals := 0 } : Room) (va_Pc [.long x, .int b] (fun U => U.heap.size = sz)) (va_Ql (fun (r' : Int64) (_ : Unit) => r' = ((x ^^^ b.toInt64) * 1099511628211)) (fun _ _ => True) (fun q => sz ≤ q)) 0 0 (fun q => sz ≤ q) := by
  refine Met.ofW (cc := cX1_goes) (maxL := 3) (ret := (some .long)) (by decide) rfl ?_
  intro p e s m args below meth c s₁ B hml hv
  obtain ⟨rfl, hsz⟩ := hv
  have hx := B.exec
  have hb := B.bytes
  have hr := B.returns
  have hts := atoms_spec (ws := wsX1_goes) B.pre
  have htg : ∀ w ∈ GW, w.before _ s = true := fun w h => hts w (List.mem_cons_of_mem _ h)
  have hown : s.vm.findClass RX1 = some m.cls := findClass_of_methodNamed B.named
  have hlocks := B.notSynchronized
  subst hsz
  have hS : va_S (fun q => s.heap.size ≤ q) s.heap s.heap [] := va_S.rf
  have hl := lv_entry [.long x, .int b] (n := 3) (Nat.le_of_ble_eq_true rfl)
  rw [lg_entry_eq]
  generalize (lg_sl [.long x, .int b] ++ List.replicate (3 - (lg_sl [.long x, .int b]).length) Slot.unset).toArray = ls at hl ⊢
  have hl : lv_has ls 3 [(0, .long x), (2, .int b)] := hl
  refine lv_lload_n hx hb dX1_goes_0 rfl (lv_at hl 0 rfl) ?_
  refine lv_iload_n hx hb dX1_goes_1 rfl (lv_at hl 1 rfl) ?_
  refine lv_i2l (v := b.toInt64) hx hb dX1_goes_2 rfl ?_
  refine lv_lxor hx hb dX1_goes_3 ?_
  refine lv_ldc2 hx hb hown (htg _ qX1_54) dX1_goes_4 ?_
  refine lv_lmul hx hb dX1_goes_7 ?_
  exact W.lret (v := (x ^^^ b.toInt64) * 1099511628211) hx hb hr (fun t ht hW => ⟨⟨_, (), rfl, rfl, trivial⟩, hS.F ht⟩) hS.2.2 dX1_goes_8
set_option maxRecDepth 100000 in
set_option maxHeartbeats 4000000 in
theorem m_isTag (l : Launch) (t : Int32) (sz : Nat) : Met l yX1_isTag wsX1_isTag ({ frames := 0, cells := 0, slots := 0, locals := 0 } : Room) (va_Pc [.int t] (fun U => U.heap.size = sz)) (va_Qi (fun (r' : Int32) (_ : Unit) => r' = (bI (isTg t))) (fun _ _ => True) (fun q => sz ≤ q)) 0 0 (fun q => sz ≤ q) := by
  refine Met.ofW (cc := cX1_isTag) (maxL := 1) (ret := (some .boolean)) (by decide) rfl ?_
  intro p e s m args below meth c s₁ B hml hv
  obtain ⟨rfl, hsz⟩ := hv
  have hx := B.exec
  have hb := B.bytes
  have hr := B.returns
  have hts := atoms_spec (ws := wsX1_isTag) B.pre
  have htg : ∀ w ∈ GW, w.before _ s = true := fun w h => hts w (List.mem_cons_of_mem _ h)
  have hown : s.vm.findClass RX1 = some m.cls := findClass_of_methodNamed B.named
  have hlocks := B.notSynchronized
  subst hsz
  have hS : va_S (fun q => s.heap.size ≤ q) s.heap s.heap [] := va_S.rf
  have hl := lv_entry [.int t] (n := 1) (Nat.le_of_ble_eq_true rfl)
  rw [lg_entry_eq]
  generalize (lg_sl [.int t] ++ List.replicate (1 - (lg_sl [.int t]).length) Slot.unset).toArray = ls at hl ⊢
  have hl : lv_has ls 1 [(0, .int t)] := hl
  refine lv_iload_n hx hb dX1_isTag_0 rfl (lv_at hl 0 rfl) ?_
  refine lv_if_lt (tgt := 14) hx hb dX1_isTag_1 (by decide) (fun c1 => ?_) (fun c1 => ?_)
  · refine lv_iconst (v := nI 0) hx hb dX1_isTag_14 (by decide) ?_
    exact W.zret (ty := .boolean) (v := nI 0) hx hb hr (by first | rfl | decide) (fun t9 ht hW => ⟨⟨_, (), rfl, isTg_no (by first | exact Or.inl c1 | exact Or.inr c7), trivial⟩, hS.F ht⟩) hS.2.2 dX1_isTag_15
  · refine lv_iload_n hx hb dX1_isTag_4 rfl (lv_at hl 0 rfl) ?_
    refine lv_bipush (v := nI 8) hx hb dX1_isTag_5 (by decide) ?_
    refine lv_icmp_ge (tgt := 14) hx hb dX1_isTag_7 (by decide) (fun c7 => ?_) (fun c7 => ?_)
    · refine lv_iconst (v := nI 0) hx hb dX1_isTag_14 (by decide) ?_
      exact W.zret (ty := .boolean) (v := nI 0) hx hb hr (by first | rfl | decide) (fun t9 ht hW => ⟨⟨_, (), rfl, isTg_no (by first | exact Or.inl c1 | exact Or.inr c7), trivial⟩, hS.F ht⟩) hS.2.2 dX1_isTag_15
    · refine lv_iconst (v := nI 1) hx hb dX1_isTag_10 (by decide) ?_
      refine lv_goto (tgt := 15) hx hb dX1_isTag_11 (by decide) ?_
      exact W.zret (ty := .boolean) (v := nI 1) hx hb hr (by first | rfl | decide) (fun t9 ht hW => ⟨⟨_, (), rfl, by rw [isTg, decide_eq_true c1, decide_eq_true c7]; rfl, trivial⟩, hS.F ht⟩) hS.2.2 dX1_isTag_15
set_option maxRecDepth 100000 in
set_option maxHeartbeats 4000000 in
theorem m_thrown (l : Launch) (σ : BM) : rMi l yX1_thrown wsX1_thrown ({ frames := 0, cells := 0, slots := 0, locals := 0 } : Room) σ [] (nI (kgTh σ)) := by
  intro dC dI cI cJ cZ h sz
  refine Met.ofW (cc := cX1_thrown) (maxL := 1) (ret := (some .int)) (by decide) rfl ?_
  intro p e s m args below meth c s₁ B hml hv
  obtain ⟨rfl, hsz, hP, hK, hD0⟩ := hv
  have hx := B.exec
  have hb := B.bytes
  have hr := B.returns
  have hts := atoms_spec (ws := wsX1_thrown) B.pre
  have hown : s.vm.findClass RX1 = some m.cls := findClass_of_methodNamed B.named
  have hlocks := B.notSynchronized
  subst hsz
  have htg : ∀ w ∈ GW, w.before _ s = true := fun w h => hts w (List.mem_cons_of_mem _ h)
  have hD := hD0
  have hA : ∀ q : Nat, s.heap.size ≤ q → (fun q => s.heap.size ≤ q) q := fun _ h => h
  have hS : va_S (fun q => s.heap.size ≤ q) s.heap s.heap [] := va_S.rf
  have hl := lv_entry [.ref (h 0)] (n := 1) (Nat.le_of_ble_eq_true rfl)
  rw [lg_entry_eq]
  generalize (lg_sl [.ref (h 0)] ++ List.replicate (1 - (lg_sl [.ref (h 0)]).length) Slot.unset).toArray = ls at hl ⊢
  have hl : lv_has ls 1 [(0, .ref (h 0))] := hl
  have hP : va_P (dC, dI) vwCl (wBM cI cJ cZ h σ) s.heap := hP
  refine lv_aload_n hx hb dX1_thrown_0 rfl (lv_at hl 0 rfl) ?_
  refine va_get (D := (dC, dI)) (ci := 1) (v := .int (nI (kgTh σ))) (C := RX1) (T := TX1) (N := 18) hx hb htg inX1 (fs := fsBM h σ) hown hK hP 0 rfl rfl 0 (by decide) (htg _ fX1_45) (fun _ h9 => h9) rfl dX1_thrown_1 ?_
  exact W.iret (v := nI (kgTh σ)) hx hb hr (fun t ht hW => ⟨⟨_, (), rfl, rfl, trivial⟩, hS.F ht⟩) hS.2.2 dX1_thrown_4
set_option maxRecDepth 100000 in
set_option maxHeartbeats 4000000 in
theorem m_digestOfTyped (l : Launch) (σ : BM) (hm : kgMy σ ≤ 64) : rMl l yX1_digestOfTyped wsX1_digestOfTyped ({ frames := 1, cells := 0, slots := 0, locals := 24 } : Room) σ [] (dg (kgT σ) 0 (kgMy σ)) := by
  intro dC dI cI cJ cZ h sz
  refine Met.ofW (cc := cX1_digestOfTyped) (maxL := 4) (ret := (some .long)) (by decide) rfl ?_
  intro p e s m args below meth c s₁ B hml hv
  obtain ⟨rfl, hsz, hP, hK, hD0⟩ := hv
  have hx := B.exec
  have hb := B.bytes
  have hr := B.returns
  have hts := atoms_spec (ws := wsX1_digestOfTyped) B.pre
  have hown : s.vm.findClass RX1 = some m.cls := findClass_of_methodNamed B.named
  have hlocks := B.notSynchronized
  subst hsz
  have htg : ∀ w ∈ GW, w.before _ s = true := fun w h => hts w (List.mem_cons_of_mem _ h)
  have hD := hD0
  have hA : ∀ q : Nat, s.heap.size ≤ q → (fun q => s.heap.size ≤ q) q := fun _ h => h
  have hS : va_S (fun q => s.heap.size ≤ q) s.heap s.heap [] := va_S.rf
  have hl := lv_entry [.ref (h 0)] (n := 4) (Nat.le_of_ble_eq_true rfl)
  rw [lg_entry_eq]
  generalize (lg_sl [.ref (h 0)] ++ List.replicate (4 - (lg_sl [.ref (h 0)]).length) Slot.unset).toArray = ls at hl ⊢
  have hl : lv_has ls 4 [(0, .ref (h 0))] := hl
  have hP : va_P (dC, dI) vwCl (wBM cI cJ cZ h σ) s.heap := hP
  refine lv_ldc2 hx hb hown (htg _ qX1_56) dX1_digestOfTyped_0 ?_
  refine lv_lstore_n (lv' := [(1, .long (-7046029254386353131)), (0, .ref (h 0))]) hx hb dX1_digestOfTyped_3 rfl hl (by decide) rfl (fun ls hl => ?_)
  refine lv_iconst (v := nI 0) hx hb dX1_digestOfTyped_4 (by decide) ?_
  refine lv_istore_n (lv' := [(3, .int (nI 0)), (1, .long (-7046029254386353131)), (0, .ref (h 0))]) hx hb dX1_digestOfTyped_5 rfl hl (by decide) rfl (fun ls hl => ?_)
  have loop : ∀ (fu i : Nat) (x : Int64), i ≤ kgMy σ → kgMy σ < i + fu → x = dgL (kgT σ) 0 i → ∀ (H : Heap) (locs : List Loc), va_P (dC, dI) vwCl (wBM cI cJ cZ h σ) H → va_S (fun q => s.heap.size ≤ q) s.heap H locs → ∀ (ls : Array Slot), lv_has ls 4 [(3, .int (nI i)), (1, .long x), (0, .ref (h 0))] → W p l e (headSpec wsX1_digestOfTyped ({ frames := 1, cells := 0, slots := 0, locals := 24 } : Room)).room s m ([.ref (h 0)].toArray) below meth c H locs 0 0 (MQ below (va_Ql (fun (r' : Int64) (_ : Unit) => r' = (dg (kgT σ) 0 (kgMy σ))) (fun _ _ => True) (fun q => s.heap.size ≤ q)) ([.ref (h 0)].toArray) s 0 0 (fun q => s.heap.size ≤ q)) (F0 m 6 ls []) := by
    intro fu
    induction fu with
    | zero => intro i x h1 h2; exact absurd h2 (by omega)
    | succ fu ih =>
      intro i x hi hin ex H locs hP hS ls hl
      refine lv_iload_n hx hb dX1_digestOfTyped_6 rfl (lv_at hl 0 rfl) ?_
      refine lv_aload_n hx hb dX1_digestOfTyped_7 rfl (lv_at hl 2 rfl) ?_
      refine va_get (D := (dC, dI)) (ci := 1) (v := .int (nI (kgMy σ))) (C := RX1) (T := TX1) (N := 18) hx hb htg inX1 (fs := fsBM h σ) hown hK hP 0 rfl rfl 2 (by decide) (htg _ fX1_49) (fun _ h9 => h9) rfl dX1_digestOfTyped_8 ?_
      refine xr_icmp_ge (tgt := 31) hx hb dX1_digestOfTyped_11 (by decide) (by omega) (by omega) (fun c11 => ?_) (fun c11 => ?_)
      · refine lv_lload_n hx hb dX1_digestOfTyped_31 rfl (lv_at hl 1 rfl) ?_
        refine lv_aload_n hx hb dX1_digestOfTyped_32 rfl (lv_at hl 2 rfl) ?_
        refine va_get (D := (dC, dI)) (ci := 1) (v := .int (nI (kgMy σ))) (C := RX1) (T := TX1) (N := 18) hx hb htg inX1 (fs := fsBM h σ) hown hK hP 0 rfl rfl 2 (by decide) (htg _ fX1_49) (fun _ h9 => h9) rfl dX1_digestOfTyped_33 ?_
        refine xr_rol (va_runS (As := [.long x, .int (nI (kgMy σ))]) (rest := []) ⟨hx, hb, hml, hown, htg⟩ (m_ends l x (nI (kgMy σ)) _) (va_cwS 2 htg gX1_62 rfl rfl rfl (by decide +kernel) ⟨Nat.le_of_ble_eq_true rfl, Nat.le_of_ble_eq_true rfl⟩) ⟨fun a U g mk q => q, fun U hU hW => ⟨rfl, congrArg Array.size hU⟩⟩ rfl rfl hl.1 rfl (lv_room (Nat.le_of_ble_eq_true rfl)) dX1_digestOfTyped_36 ⟨Nat.zero_le _, Nat.zero_le _⟩) hP hS hA (fun H locs hP hS _ => ?_)
        exact W.lret (v := dgX ((x ^^^ ((nI (kgMy σ))).toInt64) * (-2960836687156293229))) hx hb hr (fun t ht hW => ⟨⟨_, (), rfl, by rw [ex, show i = kgMy σ by omega]; rfl, trivial⟩, hS.F ht⟩) hS.2.2 dX1_digestOfTyped_39
      · refine lv_lload_n hx hb dX1_digestOfTyped_14 rfl (lv_at hl 1 rfl) ?_
        refine lv_aload_n hx hb dX1_digestOfTyped_15 rfl (lv_at hl 2 rfl) ?_
        refine va_get (D := (dC, dI)) (ci := 1) (v := .ref (h 1)) (C := RX1) (T := TX1) (N := 18) hx hb htg inX1 (fs := fsBM h σ) hown hK hP 0 rfl rfl 1 (by decide) (htg _ fX1_7) (fun _ h9 => h9) rfl dX1_digestOfTyped_16 ?_
        refine lv_iload_n hx hb dX1_digestOfTyped_19 rfl (lv_at hl 0 rfl) ?_
        refine xr_iald (f := kgT σ) (i := i) hx hb hK hP 1 0 rfl rfl (by omega) (by decide) dX1_digestOfTyped_20 ?_
        refine xr_rol (va_runS (As := [.long x, .int ((kgT σ) i)]) (rest := []) ⟨hx, hb, hml, hown, htg⟩ (m_goes l x ((kgT σ) i) _) (va_cwS 2 htg gX1_58 rfl rfl rfl (by decide +kernel) ⟨Nat.le_of_ble_eq_true rfl, Nat.le_of_ble_eq_true rfl⟩) ⟨fun a U g mk q => q, fun U hU hW => ⟨rfl, congrArg Array.size hU⟩⟩ rfl rfl hl.1 rfl (lv_room (Nat.le_of_ble_eq_true rfl)) dX1_digestOfTyped_21 ⟨Nat.zero_le _, Nat.zero_le _⟩) hP hS hA (fun H locs hP hS _ => ?_)
        refine lv_lstore_n (lv' := [(1, .long ((x ^^^ (((kgT σ) i)).toInt64) * 1099511628211)), (3, .int (nI i)), (0, .ref (h 0))]) hx hb dX1_digestOfTyped_24 rfl hl (by decide) rfl (fun ls hl => ?_)
        refine lv_iinc (v := nI (i + 1)) (lv' := [(3, .int (nI (i + 1))), (1, .long ((x ^^^ (((kgT σ) i)).toInt64) * 1099511628211)), (0, .ref (h 0))]) hx hb dX1_digestOfTyped_25 hl (k := 1) rfl (nI_add _ 1) (by decide) rfl (fun ls hl => ?_)
        refine lv_goto (tgt := 6) hx hb dX1_digestOfTyped_28 (by decide) ?_
        exact ih (i + 1) ((x ^^^ (((kgT σ) i)).toInt64) * 1099511628211) (by omega) (by omega) (by rw [ex]; show _ = (_ ^^^ _) * _; rw [Nat.zero_add]) H locs hP hS ls (lv_sub hl [0, 1, 2] rfl)
  exact loop (kgMy σ + 1) 0 (-7046029254386353131) (by omega) (by omega) (rfl) _ _ hP hS ls (lv_sub hl [0, 1, 2] rfl)
set_option maxRecDepth 100000 in
set_option maxHeartbeats 4000000 in
theorem m_digestOfRecord (l : Launch) (σ : BM) (hm : kgLe σ ≤ 700) : rMl l yX1_digestOfRecord wsX1_digestOfRecord ({ frames := 1, cells := 0, slots := 0, locals := 24 } : Room) σ [] (dg (kgRC σ) 0 (kgLe σ)) := by
  intro dC dI cI cJ cZ h sz
  refine Met.ofW (cc := cX1_digestOfRecord) (maxL := 4) (ret := (some .long)) (by decide) rfl ?_
  intro p e s m args below meth c s₁ B hml hv
  obtain ⟨rfl, hsz, hP, hK, hD0⟩ := hv
  have hx := B.exec
  have hb := B.bytes
  have hr := B.returns
  have hts := atoms_spec (ws := wsX1_digestOfRecord) B.pre
  have hown : s.vm.findClass RX1 = some m.cls := findClass_of_methodNamed B.named
  have hlocks := B.notSynchronized
  subst hsz
  have htg : ∀ w ∈ GW, w.before _ s = true := fun w h => hts w (List.mem_cons_of_mem _ h)
  have hD := hD0
  have hA : ∀ q : Nat, s.heap.size ≤ q → (fun q => s.heap.size ≤ q) q := fun _ h => h
  have hS : va_S (fun q => s.heap.size ≤ q) s.heap s.heap [] := va_S.rf
  have hl := lv_entry [.ref (h 0)] (n := 4) (Nat.le_of_ble_eq_true rfl)
  rw [lg_entry_eq]
  generalize (lg_sl [.ref (h 0)] ++ List.replicate (4 - (lg_sl [.ref (h 0)]).length) Slot.unset).toArray = ls at hl ⊢
  have hl : lv_has ls 4 [(0, .ref (h 0))] := hl
  have hP : va_P (dC, dI) vwCl (wBM cI cJ cZ h σ) s.heap := hP
  refine lv_ldc2 hx hb hown (htg _ qX1_56) dX1_digestOfRecord_0 ?_
  refine lv_lstore_n (lv' := [(1, .long (-7046029254386353131)), (0, .ref (h 0))]) hx hb dX1_digestOfRecord_3 rfl hl (by decide) rfl (fun ls hl => ?_)
  refine lv_iconst (v := nI 0) hx hb dX1_digestOfRecord_4 (by decide) ?_
  refine lv_istore_n (lv' := [(3, .int (nI 0)), (1, .long (-7046029254386353131)), (0, .ref (h 0))]) hx hb dX1_digestOfRecord_5 rfl hl (by decide) rfl (fun ls hl => ?_)
  have loop : ∀ (fu i : Nat) (x : Int64), i ≤ kgLe σ → kgLe σ < i + fu → x = dgL (kgRC σ) 0 i → ∀ (H : Heap) (locs : List Loc), va_P (dC, dI) vwCl (wBM cI cJ cZ h σ) H → va_S (fun q => s.heap.size ≤ q) s.heap H locs → ∀ (ls : Array Slot), lv_has ls 4 [(3, .int (nI i)), (1, .long x), (0, .ref (h 0))] → W p l e (headSpec wsX1_digestOfRecord ({ frames := 1, cells := 0, slots := 0, locals := 24 } : Room)).room s m ([.ref (h 0)].toArray) below meth c H locs 0 0 (MQ below (va_Ql (fun (r' : Int64) (_ : Unit) => r' = (dg (kgRC σ) 0 (kgLe σ))) (fun _ _ => True) (fun q => s.heap.size ≤ q)) ([.ref (h 0)].toArray) s 0 0 (fun q => s.heap.size ≤ q)) (F0 m 6 ls []) := by
    intro fu
    induction fu with
    | zero => intro i x h1 h2; exact absurd h2 (by omega)
    | succ fu ih =>
      intro i x hi hin ex H locs hP hS ls hl
      refine lv_iload_n hx hb dX1_digestOfRecord_6 rfl (lv_at hl 0 rfl) ?_
      refine lv_aload_n hx hb dX1_digestOfRecord_7 rfl (lv_at hl 2 rfl) ?_
      refine va_get (D := (dC, dI)) (ci := 1) (v := .int (nI (kgLe σ))) (C := RX1) (T := TX1) (N := 18) hx hb htg inX1 (fs := fsBM h σ) hown hK hP 0 rfl rfl 17 (by decide) (htg _ fX1_65) (fun _ h9 => h9) rfl dX1_digestOfRecord_8 ?_
      refine xr_icmp_ge (tgt := 31) hx hb dX1_digestOfRecord_11 (by decide) (by omega) (by omega) (fun c11 => ?_) (fun c11 => ?_)
      · refine lv_lload_n hx hb dX1_digestOfRecord_31 rfl (lv_at hl 1 rfl) ?_
        refine lv_aload_n hx hb dX1_digestOfRecord_32 rfl (lv_at hl 2 rfl) ?_
        refine va_get (D := (dC, dI)) (ci := 1) (v := .int (nI (kgLe σ))) (C := RX1) (T := TX1) (N := 18) hx hb htg inX1 (fs := fsBM h σ) hown hK hP 0 rfl rfl 17 (by decide) (htg _ fX1_65) (fun _ h9 => h9) rfl dX1_digestOfRecord_33 ?_
        refine xr_rol (va_runS (As := [.long x, .int (nI (kgLe σ))]) (rest := []) ⟨hx, hb, hml, hown, htg⟩ (m_ends l x (nI (kgLe σ)) _) (va_cwS 2 htg gX1_62 rfl rfl rfl (by decide +kernel) ⟨Nat.le_of_ble_eq_true rfl, Nat.le_of_ble_eq_true rfl⟩) ⟨fun a U g mk q => q, fun U hU hW => ⟨rfl, congrArg Array.size hU⟩⟩ rfl rfl hl.1 rfl (lv_room (Nat.le_of_ble_eq_true rfl)) dX1_digestOfRecord_36 ⟨Nat.zero_le _, Nat.zero_le _⟩) hP hS hA (fun H locs hP hS _ => ?_)
        exact W.lret (v := dgX ((x ^^^ ((nI (kgLe σ))).toInt64) * (-2960836687156293229))) hx hb hr (fun t ht hW => ⟨⟨_, (), rfl, by rw [ex, show i = kgLe σ by omega]; rfl, trivial⟩, hS.F ht⟩) hS.2.2 dX1_digestOfRecord_39
      · refine lv_lload_n hx hb dX1_digestOfRecord_14 rfl (lv_at hl 1 rfl) ?_
        refine lv_aload_n hx hb dX1_digestOfRecord_15 rfl (lv_at hl 2 rfl) ?_
        refine va_get (D := (dC, dI)) (ci := 1) (v := .ref (h 11)) (C := RX1) (T := TX1) (N := 18) hx hb htg inX1 (fs := fsBM h σ) hown hK hP 0 rfl rfl 16 (by decide) (htg _ fX1_42) (fun _ h9 => h9) rfl dX1_digestOfRecord_16 ?_
        refine lv_iload_n hx hb dX1_digestOfRecord_19 rfl (lv_at hl 0 rfl) ?_
        refine xr_iald (f := kgRC σ) (i := i) hx hb hK hP 11 0 rfl rfl (by omega) (by decide) dX1_digestOfRecord_20 ?_
        refine xr_rol (va_runS (As := [.long x, .int ((kgRC σ) i)]) (rest := []) ⟨hx, hb, hml, hown, htg⟩ (m_goes l x ((kgRC σ) i) _) (va_cwS 2 htg gX1_58 rfl rfl rfl (by decide +kernel) ⟨Nat.le_of_ble_eq_true rfl, Nat.le_of_ble_eq_true rfl⟩) ⟨fun a U g mk q => q, fun U hU hW => ⟨rfl, congrArg Array.size hU⟩⟩ rfl rfl hl.1 rfl (lv_room (Nat.le_of_ble_eq_true rfl)) dX1_digestOfRecord_21 ⟨Nat.zero_le _, Nat.zero_le _⟩) hP hS hA (fun H locs hP hS _ => ?_)
        refine lv_lstore_n (lv' := [(1, .long ((x ^^^ (((kgRC σ) i)).toInt64) * 1099511628211)), (3, .int (nI i)), (0, .ref (h 0))]) hx hb dX1_digestOfRecord_24 rfl hl (by decide) rfl (fun ls hl => ?_)
        refine lv_iinc (v := nI (i + 1)) (lv' := [(3, .int (nI (i + 1))), (1, .long ((x ^^^ (((kgRC σ) i)).toInt64) * 1099511628211)), (0, .ref (h 0))]) hx hb dX1_digestOfRecord_25 hl (k := 1) rfl (nI_add _ 1) (by decide) rfl (fun ls hl => ?_)
        refine lv_goto (tgt := 6) hx hb dX1_digestOfRecord_28 (by decide) ?_
        exact ih (i + 1) ((x ^^^ (((kgRC σ) i)).toInt64) * 1099511628211) (by omega) (by omega) (by rw [ex]; show _ = (_ ^^^ _) * _; rw [Nat.zero_add]) H locs hP hS ls (lv_sub hl [0, 1, 2] rfl)
  exact loop (kgLe σ + 1) 0 (-7046029254386353131) (by omega) (by omega) (rfl) _ _ hP hS ls (lv_sub hl [0, 1, 2] rfl)
set_option maxRecDepth 100000 in
set_option maxHeartbeats 4000000 in
theorem m_blobOf (l : Launch) (σ : BM) (d : Int64) (hc : kgBl σ ≤ 20) : rMi l yX1_blobOf wsX1_blobOf ({ frames := 0, cells := 0, slots := 0, locals := 0 } : Room) σ [.long d] (optI (fnd (kgDG σ) d (kgBl σ))) := by
  intro dC dI cI cJ cZ h sz
  refine Met.ofW (cc := cX1_blobOf) (maxL := 4) (ret := (some .int)) (by decide) rfl ?_
  intro p e s m args below meth c s₁ B hml hv
  obtain ⟨rfl, hsz, hP, hK, hD0⟩ := hv
  have hx := B.exec
  have hb := B.bytes
  have hr := B.returns
  have hts := atoms_spec (ws := wsX1_blobOf) B.pre
  have hown : s.vm.findClass RX1 = some m.cls := findClass_of_methodNamed B.named
  have hlocks := B.notSynchronized
  subst hsz
  have htg : ∀ w ∈ GW, w.before _ s = true := fun w h => hts w (List.mem_cons_of_mem _ h)
  have hD := hD0
  have hA : ∀ q : Nat, s.heap.size ≤ q → (fun q => s.heap.size ≤ q) q := fun _ h => h
  have hS : va_S (fun q => s.heap.size ≤ q) s.heap s.heap [] := va_S.rf
  have hl := lv_entry [.ref (h 0), .long d] (n := 4) (Nat.le_of_ble_eq_true rfl)
  rw [lg_entry_eq]
  generalize (lg_sl [.ref (h 0), .long d] ++ List.replicate (4 - (lg_sl [.ref (h 0), .long d]).length) Slot.unset).toArray = ls at hl ⊢
  have hl : lv_has ls 4 [(0, .ref (h 0)), (1, .long d)] := hl
  have hP : va_P (dC, dI) vwCl (wBM cI cJ cZ h σ) s.heap := hP
  refine lv_iconst (v := nI 0) hx hb dX1_blobOf_0 (by decide) ?_
  refine lv_istore_n (lv' := [(3, .int (nI 0)), (0, .ref (h 0)), (1, .long d)]) hx hb dX1_blobOf_1 rfl hl (by decide) rfl (fun ls hl => ?_)
  have loop : ∀ (fu i : Nat), i ≤ kgBl σ → kgBl σ < i + fu → fnd (kgDG σ) d i = none → ∀ (H : Heap) (locs : List Loc), va_P (dC, dI) vwCl (wBM cI cJ cZ h σ) H → va_S (fun q => s.heap.size ≤ q) s.heap H locs → ∀ (ls : Array Slot), lv_has ls 4 [(3, .int (nI i)), (0, .ref (h 0)), (1, .long d)] → W p l e (headSpec wsX1_blobOf ({ frames := 0, cells := 0, slots := 0, locals := 0 } : Room)).room s m ([.ref (h 0), .long d].toArray) below meth c H locs 0 0 (MQ below (va_Qi (fun (r' : Int32) (_ : Unit) => r' = (optI (fnd (kgDG σ) d (kgBl σ)))) (fun _ _ => True) (fun q => s.heap.size ≤ q)) ([.ref (h 0), .long d].toArray) s 0 0 (fun q => s.heap.size ≤ q)) (F0 m 2 ls []) := by
    intro fu
    induction fu with
    | zero => intro i h1 h2; exact absurd h2 (by omega)
    | succ fu ih =>
      intro i hi hin h0 H locs hP hS ls hl
      refine lv_iload_n hx hb dX1_blobOf_2 rfl (lv_at hl 0 rfl) ?_
      refine lv_aload_n hx hb dX1_blobOf_3 rfl (lv_at hl 1 rfl) ?_
      refine va_get (D := (dC, dI)) (ci := 1) (v := .int (nI (kgBl σ))) (C := RX1) (T := TX1) (N := 18) hx hb htg inX1 (fs := fsBM h σ) hown hK hP 0 rfl rfl 6 (by decide) (htg _ fX1_72) (fun _ h9 => h9) rfl dX1_blobOf_4 ?_
      refine xr_icmp_ge (tgt := 29) hx hb dX1_blobOf_7 (by decide) (by omega) (by omega) (fun c7 => ?_) (fun c7 => ?_)
      · refine lv_iconst (v := -1) hx hb dX1_blobOf_29 (by decide) ?_
        exact W.iret (v := -1) hx hb hr (fun t ht hW => ⟨⟨_, (), rfl, by rw [← show i = kgBl σ by omega, h0]; rfl, trivial⟩, hS.F ht⟩) hS.2.2 dX1_blobOf_30
      · refine lv_aload_n hx hb dX1_blobOf_10 rfl (lv_at hl 1 rfl) ?_
        refine va_get (D := (dC, dI)) (ci := 1) (v := .ref (h 2)) (C := RX1) (T := TX1) (N := 18) hx hb htg inX1 (fs := fsBM h σ) hown hK hP 0 rfl rfl 3 (by decide) (htg _ fX1_13) (fun _ h9 => h9) rfl dX1_blobOf_11 ?_
        refine lv_iload_n hx hb dX1_blobOf_14 rfl (lv_at hl 0 rfl) ?_
        refine xr_lald (f := kgDG σ) (i := i) hx hb hK hP 2 1 rfl rfl (by omega) (by decide) dX1_blobOf_15 ?_
        refine lv_lload_n hx hb dX1_blobOf_16 rfl (lv_at hl 2 rfl) ?_
        refine xr_lcmp_ne (tgt := 23) hx hb dX1_blobOf_17 dX1_blobOf_18 (by decide) (fun c17 => ?_) (fun c17 => ?_)
        · refine lv_iinc (v := nI (i + 1)) (lv' := [(3, .int (nI (i + 1))), (0, .ref (h 0)), (1, .long d)]) hx hb dX1_blobOf_23 hl (k := 0) rfl (nI_add _ 1) (by decide) rfl (fun ls hl => ?_)
          refine lv_goto (tgt := 2) hx hb dX1_blobOf_26 (by decide) ?_
          exact ih (i + 1) (by omega) (by omega) (fnd_miss h0 c17) H locs hP hS ls (lv_sub hl [0, 1, 2] rfl)
        · refine lv_iload_n hx hb dX1_blobOf_21 rfl (lv_at hl 0 rfl) ?_
          exact W.iret (v := nI i) hx hb hr (fun t ht hW => ⟨⟨_, (), rfl, by rw [fnd_hit h0 c17 c7]; rfl, trivial⟩, hS.F ht⟩) hS.2.2 dX1_blobOf_22
  exact loop (kgBl σ + 1) 0 (by omega) (by omega) (rfl) _ _ hP hS ls (lv_sub hl [0, 1, 2] rfl)
set_option maxRecDepth 100000 in
set_option maxHeartbeats 4000000 in
theorem m_keyOf (l : Launch) (σ : BM) (d : Int64) (hc : kgKn σ ≤ 16) : rMi l yX1_keyOf wsX1_keyOf ({ frames := 0, cells := 0, slots := 0, locals := 0 } : Room) σ [.long d] (optI (fnd (kgKS σ) d (kgKn σ))) := by
  intro dC dI cI cJ cZ h sz
  refine Met.ofW (cc := cX1_keyOf) (maxL := 4) (ret := (some .int)) (by decide) rfl ?_
  intro p e s m args below meth c s₁ B hml hv
  obtain ⟨rfl, hsz, hP, hK, hD0⟩ := hv
  have hx := B.exec
  have hb := B.bytes
  have hr := B.returns
  have hts := atoms_spec (ws := wsX1_keyOf) B.pre
  have hown : s.vm.findClass RX1 = some m.cls := findClass_of_methodNamed B.named
  have hlocks := B.notSynchronized
  subst hsz
  have htg : ∀ w ∈ GW, w.before _ s = true := fun w h => hts w (List.mem_cons_of_mem _ h)
  have hD := hD0
  have hA : ∀ q : Nat, s.heap.size ≤ q → (fun q => s.heap.size ≤ q) q := fun _ h => h
  have hS : va_S (fun q => s.heap.size ≤ q) s.heap s.heap [] := va_S.rf
  have hl := lv_entry [.ref (h 0), .long d] (n := 4) (Nat.le_of_ble_eq_true rfl)
  rw [lg_entry_eq]
  generalize (lg_sl [.ref (h 0), .long d] ++ List.replicate (4 - (lg_sl [.ref (h 0), .long d]).length) Slot.unset).toArray = ls at hl ⊢
  have hl : lv_has ls 4 [(0, .ref (h 0)), (1, .long d)] := hl
  have hP : va_P (dC, dI) vwCl (wBM cI cJ cZ h σ) s.heap := hP
  refine lv_iconst (v := nI 0) hx hb dX1_keyOf_0 (by decide) ?_
  refine lv_istore_n (lv' := [(3, .int (nI 0)), (0, .ref (h 0)), (1, .long d)]) hx hb dX1_keyOf_1 rfl hl (by decide) rfl (fun ls hl => ?_)
  have loop : ∀ (fu i : Nat), i ≤ kgKn σ → kgKn σ < i + fu → fnd (kgKS σ) d i = none → ∀ (H : Heap) (locs : List Loc), va_P (dC, dI) vwCl (wBM cI cJ cZ h σ) H → va_S (fun q => s.heap.size ≤ q) s.heap H locs → ∀ (ls : Array Slot), lv_has ls 4 [(3, .int (nI i)), (0, .ref (h 0)), (1, .long d)] → W p l e (headSpec wsX1_keyOf ({ frames := 0, cells := 0, slots := 0, locals := 0 } : Room)).room s m ([.ref (h 0), .long d].toArray) below meth c H locs 0 0 (MQ below (va_Qi (fun (r' : Int32) (_ : Unit) => r' = (optI (fnd (kgKS σ) d (kgKn σ)))) (fun _ _ => True) (fun q => s.heap.size ≤ q)) ([.ref (h 0), .long d].toArray) s 0 0 (fun q => s.heap.size ≤ q)) (F0 m 2 ls []) := by
    intro fu
    induction fu with
    | zero => intro i h1 h2; exact absurd h2 (by omega)
    | succ fu ih =>
      intro i hi hin h0 H locs hP hS ls hl
      refine lv_iload_n hx hb dX1_keyOf_2 rfl (lv_at hl 0 rfl) ?_
      refine lv_aload_n hx hb dX1_keyOf_3 rfl (lv_at hl 1 rfl) ?_
      refine va_get (D := (dC, dI)) (ci := 1) (v := .int (nI (kgKn σ))) (C := RX1) (T := TX1) (N := 18) hx hb htg inX1 (fs := fsBM h σ) hown hK hP 0 rfl rfl 11 (by decide) (htg _ fX1_75) (fun _ h9 => h9) rfl dX1_keyOf_4 ?_
      refine xr_icmp_ge (tgt := 29) hx hb dX1_keyOf_7 (by decide) (by omega) (by omega) (fun c7 => ?_) (fun c7 => ?_)
      · refine lv_iconst (v := -1) hx hb dX1_keyOf_29 (by decide) ?_
        exact W.iret (v := -1) hx hb hr (fun t ht hW => ⟨⟨_, (), rfl, by rw [← show i = kgKn σ by omega, h0]; rfl, trivial⟩, hS.F ht⟩) hS.2.2 dX1_keyOf_30
      · refine lv_aload_n hx hb dX1_keyOf_10 rfl (lv_at hl 1 rfl) ?_
        refine va_get (D := (dC, dI)) (ci := 1) (v := .ref (h 7)) (C := RX1) (T := TX1) (N := 18) hx hb htg inX1 (fs := fsBM h σ) hown hK hP 0 rfl rfl 9 (by decide) (htg _ fX1_30) (fun _ h9 => h9) rfl dX1_keyOf_11 ?_
        refine lv_iload_n hx hb dX1_keyOf_14 rfl (lv_at hl 0 rfl) ?_
        refine xr_lald (f := kgKS σ) (i := i) hx hb hK hP 7 1 rfl rfl (by omega) (by decide) dX1_keyOf_15 ?_
        refine lv_lload_n hx hb dX1_keyOf_16 rfl (lv_at hl 2 rfl) ?_
        refine xr_lcmp_ne (tgt := 23) hx hb dX1_keyOf_17 dX1_keyOf_18 (by decide) (fun c17 => ?_) (fun c17 => ?_)
        · refine lv_iinc (v := nI (i + 1)) (lv' := [(3, .int (nI (i + 1))), (0, .ref (h 0)), (1, .long d)]) hx hb dX1_keyOf_23 hl (k := 0) rfl (nI_add _ 1) (by decide) rfl (fun ls hl => ?_)
          refine lv_goto (tgt := 2) hx hb dX1_keyOf_26 (by decide) ?_
          exact ih (i + 1) (by omega) (by omega) (fnd_miss h0 c17) H locs hP hS ls (lv_sub hl [0, 1, 2] rfl)
        · refine lv_iload_n hx hb dX1_keyOf_21 rfl (lv_at hl 0 rfl) ?_
          exact W.iret (v := nI i) hx hb hr (fun t ht hW => ⟨⟨_, (), rfl, by rw [fnd_hit h0 c17 c7]; rfl, trivial⟩, hS.F ht⟩) hS.2.2 dX1_keyOf_22
  exact loop (kgKn σ + 1) 0 (by omega) (by omega) (rfl) _ _ hP hS ls (lv_sub hl [0, 1, 2] rfl)
set_option maxRecDepth 100000 in
set_option maxHeartbeats 4000000 in
theorem m_hasRoom (l : Launch) (σ : BM) (hs : kgSz σ ≤ 700) (hl7 : kgLe σ ≤ 700) : rMi l yX1_hasRoom wsX1_hasRoom ({ frames := 0, cells := 0, slots := 0, locals := 0 } : Room) σ [] (bI (decide (kgSz σ + kgLe σ + 4 ≤ 700))) := by
  intro dC dI cI cJ cZ h sz
  refine Met.ofW (cc := cX1_hasRoom) (maxL := 1) (ret := (some .boolean)) (by decide) rfl ?_
  intro p e s m args below meth c s₁ B hml hv
  obtain ⟨rfl, hsz, hP, hK, hD0⟩ := hv
  have hx := B.exec
  have hb := B.bytes
  have hr := B.returns
  have hts := atoms_spec (ws := wsX1_hasRoom) B.pre
  have hown : s.vm.findClass RX1 = some m.cls := findClass_of_methodNamed B.named
  have hlocks := B.notSynchronized
  subst hsz
  have htg : ∀ w ∈ GW, w.before _ s = true := fun w h => hts w (List.mem_cons_of_mem _ h)
  have hD := hD0
  have hA : ∀ q : Nat, s.heap.size ≤ q → (fun q => s.heap.size ≤ q) q := fun _ h => h
  have hS : va_S (fun q => s.heap.size ≤ q) s.heap s.heap [] := va_S.rf
  have hl := lv_entry [.ref (h 0)] (n := 1) (Nat.le_of_ble_eq_true rfl)
  rw [lg_entry_eq]
  generalize (lg_sl [.ref (h 0)] ++ List.replicate (1 - (lg_sl [.ref (h 0)]).length) Slot.unset).toArray = ls at hl ⊢
  have hl : lv_has ls 1 [(0, .ref (h 0))] := hl
  have hP : va_P (dC, dI) vwCl (wBM cI cJ cZ h σ) s.heap := hP
  refine lv_aload_n hx hb dX1_hasRoom_0 rfl (lv_at hl 0 rfl) ?_
  refine va_get (D := (dC, dI)) (ci := 1) (v := .int (nI (kgSz σ))) (C := RX1) (T := TX1) (N := 18) hx hb htg inX1 (fs := fsBM h σ) hown hK hP 0 rfl rfl 14 (by decide) (htg _ fX1_80) (fun _ h9 => h9) rfl dX1_hasRoom_1 ?_
  refine lv_aload_n hx hb dX1_hasRoom_4 rfl (lv_at hl 0 rfl) ?_
  refine va_get (D := (dC, dI)) (ci := 1) (v := .int (nI (kgLe σ))) (C := RX1) (T := TX1) (N := 18) hx hb htg inX1 (fs := fsBM h σ) hown hK hP 0 rfl rfl 17 (by decide) (htg _ fX1_65) (fun _ h9 => h9) rfl dX1_hasRoom_5 ?_
  refine xr_iadd hx hb dX1_hasRoom_8 ?_
  refine lv_iconst (v := nI 4) hx hb dX1_hasRoom_9 (by decide) ?_
  refine xr_iadd hx hb dX1_hasRoom_10 ?_
  refine lv_sipush (v := nI 700) hx hb dX1_hasRoom_11 (by decide) ?_
  refine xr_icmp_gt (tgt := 21) hx hb dX1_hasRoom_14 (by decide) (by omega) (by omega) (fun c14 => ?_) (fun c14 => ?_)
  · refine lv_iconst (v := nI 0) hx hb dX1_hasRoom_21 (by decide) ?_
    exact W.zret (ty := .boolean) (v := nI 0) hx hb hr (by first | rfl | decide | exact bI_nar _) (fun t ht hW => ⟨⟨_, (), rfl, by rw [decide_eq_false (by omega)]; rfl, trivial⟩, hS.F ht⟩) hS.2.2 dX1_hasRoom_22
  · refine lv_iconst (v := nI 1) hx hb dX1_hasRoom_17 (by decide) ?_
    refine lv_goto (tgt := 22) hx hb dX1_hasRoom_18 (by decide) ?_
    exact W.zret (ty := .boolean) (v := nI 1) hx hb hr (by first | rfl | decide | exact bI_nar _) (fun t ht hW => ⟨⟨_, (), rfl, by rw [decide_eq_true c14]; rfl, trivial⟩, hS.F ht⟩) hS.2.2 dX1_hasRoom_22
set_option maxRecDepth 100000 in
set_option maxHeartbeats 4000000 in
theorem m_eight (l : Launch) (σ : BM) (a : Nat) (ha : a + 7 < 700) : rMl l yX1_eight wsX1_eight ({ frames := 0, cells := 0, slots := 0, locals := 0 } : Room) σ [.int (nI a)] (longAt (kgRC σ) a) := by
  intro dC dI cI cJ cZ h sz
  refine Met.ofW (cc := cX1_eight) (maxL := 5) (ret := (some .long)) (by decide) rfl ?_
  intro p e s m args below meth c s₁ B hml hv
  obtain ⟨rfl, hsz, hP, hK, hD0⟩ := hv
  have hx := B.exec
  have hb := B.bytes
  have hr := B.returns
  have hts := atoms_spec (ws := wsX1_eight) B.pre
  have hown : s.vm.findClass RX1 = some m.cls := findClass_of_methodNamed B.named
  have hlocks := B.notSynchronized
  subst hsz
  have htg : ∀ w ∈ GW, w.before _ s = true := fun w h => hts w (List.mem_cons_of_mem _ h)
  have hD := hD0
  have hA : ∀ q : Nat, s.heap.size ≤ q → (fun q => s.heap.size ≤ q) q := fun _ h => h
  have hS : va_S (fun q => s.heap.size ≤ q) s.heap s.heap [] := va_S.rf
  have hl := lv_entry [.ref (h 0), .int (nI a)] (n := 5) (Nat.le_of_ble_eq_true rfl)
  rw [lg_entry_eq]
  generalize (lg_sl [.ref (h 0), .int (nI a)] ++ List.replicate (5 - (lg_sl [.ref (h 0), .int (nI a)]).length) Slot.unset).toArray = ls at hl ⊢
  have hl : lv_has ls 5 [(0, .ref (h 0)), (1, .int (nI a))] := hl
  have hP : va_P (dC, dI) vwCl (wBM cI cJ cZ h σ) s.heap := hP
  refine lv_lconst (v := 0) hx hb dX1_eight_0 (by decide) ?_
  refine lv_lstore_n (lv' := [(2, .long 0), (0, .ref (h 0)), (1, .int (nI a))]) hx hb dX1_eight_1 rfl hl (by decide) rfl (fun ls hl => ?_)
  refine lv_bipush (v := nI 7) hx hb dX1_eight_2 (by decide) ?_
  refine lv_istore (lv' := [(4, .int (nI 7)), (2, .long 0), (0, .ref (h 0)), (1, .int (nI a))]) hx hb dX1_eight_4 hl (by decide) rfl (fun ls hl => ?_)
  have loop : ∀ (n i k : Nat) (x : Int64), i < n → i + k = 8 → x = laL (kgRC σ) a k → ∀ (H : Heap) (locs : List Loc), va_P (dC, dI) vwCl (wBM cI cJ cZ h σ) H → va_S (fun q => s.heap.size ≤ q) s.heap H locs → ∀ (ls : Array Slot), lv_has ls 5 [(4, .int (nI i - 1)), (2, .long x), (0, .ref (h 0)), (1, .int (nI a))] → W p l e (headSpec wsX1_eight ({ frames := 0, cells := 0, slots := 0, locals := 0 } : Room)).room s m ([.ref (h 0), .int (nI a)].toArray) below meth c H locs 0 0 (MQ below (va_Ql (fun (r' : Int64) (_ : Unit) => r' = (longAt (kgRC σ) a)) (fun _ _ => True) (fun q => s.heap.size ≤ q)) ([.ref (h 0), .int (nI a)].toArray) s 0 0 (fun q => s.heap.size ≤ q)) (F0 m 6 ls []) := by
    intro n
    induction n with
    | zero => intro i k x h1; exact absurd h1 (by omega)
    | succ n ih =>
      intro i k x hin hik e3 H locs hP hS ls hl
      cases i with
      | zero =>
        have hl : lv_has ls 5 [(4, .int (-1)), (2, .long x), (0, .ref (h 0)), (1, .int (nI a))] := hl
        refine lv_iload hx hb dX1_eight_6 (lv_at hl 0 rfl) ?_
        refine lv_if_lt (tgt := 33) hx hb dX1_eight_8 (by decide) (fun c8 => ?_) (fun c8 => absurd c8 (by decide))
        refine lv_lload_n hx hb dX1_eight_33 rfl (lv_at hl 1 rfl) ?_
        exact W.lret (v := x) hx hb hr (fun t ht hW => ⟨⟨_, (), rfl, by rw [e3, show k = 8 by omega]; rfl, trivial⟩, hS.F ht⟩) hS.2.2 dX1_eight_34
      | succ i =>
        have hl : lv_has ls 5 [(4, .int (nI i)), (2, .long x), (0, .ref (h 0)), (1, .int (nI a))] := by rw [nI_pred] at hl; exact hl
        refine lv_iload hx hb dX1_eight_6 (lv_at hl 0 rfl) ?_
        refine lv_if_lt (tgt := 33) hx hb dX1_eight_8 (by decide) (fun c8 => absurd c8 (by exact nI_pos (by omega))) (fun c8 => ?_)
        refine lv_lload_n hx hb dX1_eight_11 rfl (lv_at hl 1 rfl) ?_
        refine lv_bipush (v := nI 8) hx hb dX1_eight_12 (by decide) ?_
        refine lv_lshl (v := x <<< (((nI 8)).toInt64 &&& 63)) hx hb dX1_eight_14 rfl ?_
        refine lv_aload_n hx hb dX1_eight_15 rfl (lv_at hl 2 rfl) ?_
        refine va_get (D := (dC, dI)) (ci := 1) (v := .ref (h 11)) (C := RX1) (T := TX1) (N := 18) hx hb htg inX1 (fs := fsBM h σ) hown hK hP 0 rfl rfl 16 (by decide) (htg _ fX1_42) (fun _ h9 => h9) rfl dX1_eight_16 ?_
        refine lv_iload_n hx hb dX1_eight_19 rfl (lv_at hl 3 rfl) ?_
        refine lv_iload hx hb dX1_eight_20 (lv_at hl 0 rfl) ?_
        refine xr_iadd hx hb dX1_eight_22 ?_
        refine xr_iald (f := kgRC σ) (i := a + i) hx hb hK hP 11 0 rfl rfl (by omega) (by decide) dX1_eight_23 ?_
        refine lv_i2l (v := ((kgRC σ) (a + i)).toInt64) hx hb dX1_eight_24 rfl ?_
        refine lv_lor hx hb dX1_eight_25 ?_
        refine lv_lstore_n (lv' := [(2, .long ((x <<< (((nI 8)).toInt64 &&& 63)) ||| (((kgRC σ) (a + i)).toInt64))), (4, .int (nI i)), (0, .ref (h 0)), (1, .int (nI a))]) hx hb dX1_eight_26 rfl hl (by decide) rfl (fun ls hl => ?_)
        refine lv_iinc (v := nI i - 1) (lv' := [(4, .int (nI i - 1)), (2, .long ((x <<< (((nI 8)).toInt64 &&& 63)) ||| (((kgRC σ) (a + i)).toInt64))), (0, .ref (h 0)), (1, .int (nI a))]) hx hb dX1_eight_27 hl (k := 1) rfl (by rw [Int32.sub_eq_add_neg]; rfl) (by decide) rfl (fun ls hl => ?_)
        refine lv_goto (tgt := 6) hx hb dX1_eight_30 (by decide) ?_
        exact ih i (k + 1) ((x <<< (((nI 8)).toInt64 &&& 63)) ||| (((kgRC σ) (a + i)).toInt64)) (by omega) (by omega) (by rw [e3]; show _ = (_ <<< _) ||| _; rw [show 7 - k = i by omega]) H locs hP hS ls (lv_sub hl [0, 1, 2, 3] rfl)
  exact loop 9 8 0 0 (by omega) (by omega) rfl _ _ hP hS ls (by have hl := lv_sub hl [0, 1, 2, 3] rfl; exact hl)
set_option maxRecDepth 100000 in
set_option maxHeartbeats 4000000 in
theorem m_next (l : Launch) (σ : BM) (v : Int64) (n : Nat) (hn : kgLe σ + n ≤ 700) (h8 : n ≤ 8) : wMv l yX1_next wsX1_next ({ frames := 0, cells := 0, slots := 0, locals := 0 } : Room) σ [.long v, .int (nI n)] (nxSt σ v n) := by
  intro dC dI cI cJ cZ h sz
  refine Met.ofW (cc := cX1_next) (maxL := 5) (ret := none) (by decide) rfl ?_
  intro p e s m args below meth c s₁ B hml hv
  obtain ⟨rfl, hsz, hP, hK, hD0⟩ := hv
  have hx := B.exec
  have hb := B.bytes
  have hr := B.returns
  have hts := atoms_spec (ws := wsX1_next) B.pre
  have hown : s.vm.findClass RX1 = some m.cls := findClass_of_methodNamed B.named
  have hlocks := B.notSynchronized
  subst hsz
  have htg : ∀ w ∈ GW, w.before _ s = true := fun w h => hts w (List.mem_cons_of_mem _ h)
  have hD := hD0.self (sz := s.heap.size)
  generalize hAe : va_A (wBM cI cJ cZ h σ) s.heap.size = A at hD ⊢
  have hA : ∀ q : Nat, s.heap.size ≤ q → A q := fun q h => by rw [← hAe]; exact Or.inr h
  have hS : va_S A s.heap s.heap [] := va_S.rf
  have hl := lv_entry [.ref (h 0), .long v, .int (nI n)] (n := 5) (Nat.le_of_ble_eq_true rfl)
  rw [lg_entry_eq]
  generalize (lg_sl [.ref (h 0), .long v, .int (nI n)] ++ List.replicate (5 - (lg_sl [.ref (h 0), .long v, .int (nI n)]).length) Slot.unset).toArray = ls at hl ⊢
  have hl : lv_has ls 5 [(0, .ref (h 0)), (1, .long v), (3, .int (nI n))] := hl
  have hP : va_P (dC, dI) vwCl (wBM cI cJ cZ h σ) s.heap := hP
  refine lv_iconst (v := nI 0) hx hb dX1_next_0 (by decide) ?_
  refine lv_istore (lv' := [(4, .int (nI 0)), (0, .ref (h 0)), (1, .long v), (3, .int (nI n))]) hx hb dX1_next_1 hl (by decide) rfl (fun ls hl => ?_)
  have loop : ∀ (fu i : Nat) (z : BM), i ≤ n → n < i + fu → z = nxSt σ v i → ∀ (H : Heap) (locs : List Loc), va_P (dC, dI) vwCl (wBM cI cJ cZ h z) H → va_D A (wBM cI cJ cZ h z) → va_S A s.heap H locs → ∀ (ls : Array Slot), lv_has ls 5 [(4, .int (nI i)), (0, .ref (h 0)), (1, .long v), (3, .int (nI n))] → W p l e (headSpec wsX1_next ({ frames := 0, cells := 0, slots := 0, locals := 0 } : Room)).room s m ([.ref (h 0), .long v, .int (nI n)].toArray) below meth c H locs 0 0 (MQ below (va_Qv (fun (_ : Unit) => True) (fun _ => aBM dC dI cI cJ cZ h A (nxSt σ v n)) A) ([.ref (h 0), .long v, .int (nI n)].toArray) s 0 0 A) (F0 m 3 ls []) := by
    intro fu
    induction fu with
    | zero => intro i z h1 h2; exact absurd h2 (by omega)
    | succ fu ih =>
      intro i z hi hin ez H locs hP hD hS ls hl
      refine lv_iload hx hb dX1_next_3 (lv_at hl 0 rfl) ?_
      refine lv_iload_n hx hb dX1_next_5 rfl (lv_at hl 3 rfl) ?_
      refine xr_icmp_ge (tgt := 46) hx hb dX1_next_6 (by decide) (by omega) (by omega) (fun c6 => ?_) (fun c6 => ?_)
      · have hfin : z = nxSt σ v n := by rw [ez, show i = n by omega]
        rw [hfin] at hP hD
        exact W.vret hx hb hr (fun t ht hW => ⟨⟨(), rfl, trivial, by rw [ht]; exact hP, va_K.moved hW.alike hK, hD⟩, hS.F ht⟩) hS.2.2 dX1_next_46
      · refine lv_aload_n hx hb dX1_next_9 rfl (lv_at hl 1 rfl) ?_
        have hLe : kgLe z = kgLe σ + i := by rw [ez]; rfl
        refine va_get (D := (dC, dI)) (ci := 1) (v := .ref (h 11)) (C := RX1) (T := TX1) (N := 18) hx hb htg inX1 (fs := fsBM h z) hown hK hP 0 rfl rfl 16 (by decide) (htg _ fX1_42) (fun _ h9 => h9) rfl dX1_next_10 ?_
        refine lv_aload_n hx hb dX1_next_13 rfl (lv_at hl 1 rfl) ?_
        refine va_get (D := (dC, dI)) (ci := 1) (v := .int (nI (kgLe z))) (C := RX1) (T := TX1) (N := 18) hx hb htg inX1 (fs := fsBM h z) hown hK hP 0 rfl rfl 17 (by decide) (htg _ fX1_65) (fun _ h9 => h9) rfl dX1_next_14 ?_
        refine lv_lload_n hx hb dX1_next_17 rfl (lv_at hl 2 rfl) ?_
        refine lv_bipush (v := nI 8) hx hb dX1_next_18 (by decide) ?_
        refine lv_iload hx hb dX1_next_20 (lv_at hl 0 rfl) ?_
        refine xr_imul hx hb dX1_next_22 ?_
        refine lv_lshr (v := v >>> (((nI (8 * i))).toInt64 &&& 63)) hx hb dX1_next_23 rfl ?_
        refine lv_ldc2 hx hb hown (htg _ qX1_78) dX1_next_24 ?_
        refine lv_land hx hb dX1_next_27 ?_
        refine lv_l2i (v := ((v >>> (((nI (8 * i))).toInt64 &&& 63)) &&& 255).toInt32) hx hb dX1_next_28 rfl ?_
        refine xr_iast (f := kgRC z) (i := kgLe z) (x := ((v >>> (((nI (8 * i))).toInt64 &&& 63)) &&& 255).toInt32) hx hb hK hP hD hS 11 0 rfl rfl (by omega) (by decide) dX1_next_29 (fun H locs hP hD hS => ?_)
        rw [wBM_RC] at hP hD
        refine lv_aload_n hx hb dX1_next_30 rfl (lv_at hl 1 rfl) ?_
        refine lv_dup hx hb dX1_next_31 rfl ?_
        refine va_get (D := (dC, dI)) (ci := 1) (v := .int (nI (kgLe z))) (C := RX1) (T := TX1) (N := 18) hx hb htg inX1 (fs := fsBM h (kuRC z (upd (kgRC z) (kgLe z) (((v >>> (((nI (8 * i))).toInt64 &&& 63)) &&& 255).toInt32)))) hown hK hP 0 rfl rfl 17 (by decide) (htg _ fX1_65) (fun _ h9 => h9) rfl dX1_next_32 ?_
        refine lv_iconst (v := nI 1) hx hb dX1_next_35 (by decide) ?_
        refine xr_iadd hx hb dX1_next_36 ?_
        refine va_put (D := (dC, dI)) (ci := 1) (v := .int (nI (kgLe z + 1))) (ty := .int) (C := RX1) (T := TX1) (N := 18) hx hb htg inX1 tyX1 tyX1_ok nmX1 (fs := fsBM h (kuRC z (upd (kgRC z) (kgLe z) (((v >>> (((nI (8 * i))).toInt64 &&& 63)) &&& 255).toInt32)))) hown hK hP hD hS 0 rfl rfl 17 (by decide) (htg _ fX1_65) (fun _ h9 => h9) rfl (by decide +kernel) rfl rfl (Nat.le_of_ble_eq_true rfl) dX1_next_37 (fun H locs hP hD hS => ?_)
        rw [wBM_Le] at hP hD
        refine lv_iinc (v := nI (i + 1)) (lv' := [(4, .int (nI (i + 1))), (0, .ref (h 0)), (1, .long v), (3, .int (nI n))]) hx hb dX1_next_40 hl (k := 0) rfl (nI_add _ 1) (by decide) rfl (fun ls hl => ?_)
        refine lv_goto (tgt := 3) hx hb dX1_next_43 (by decide) ?_
        exact ih (i + 1) (kuLe (kuRC z (upd (kgRC z) (kgLe z) (((v >>> (((nI (8 * i))).toInt64 &&& 63)) &&& 255).toInt32))) (kgLe z + 1)) (by omega) (by omega) (by rw [ez]; exact nxSt_step σ v i) H locs hP hD hS ls (lv_sub hl [0, 1, 2, 3] rfl)
  exact loop (n + 1) 0 σ (by omega) (by omega) ((nxSt_0 σ v).symm) _ _ hP hD hS ls (lv_sub hl [0, 1, 2, 3] rfl)
set_option maxRecDepth 100000 in
set_option maxHeartbeats 4000000 in
theorem m_write (l : Launch) (σ : BM) (k : Int32) (hw : kgSz σ + kgLe σ + 4 ≤ 700) : wMv l yX1_write wsX1_write ({ frames := 0, cells := 0, slots := 0, locals := 0 } : Room) σ [.int k] (wrM σ k) := by
  intro dC dI cI cJ cZ h sz
  refine Met.ofW (cc := cX1_write) (maxL := 5) (ret := none) (by decide) rfl ?_
  intro p e s m args below meth c s₁ B hml hv
  obtain ⟨rfl, hsz, hP, hK, hD0⟩ := hv
  have hx := B.exec
  have hb := B.bytes
  have hr := B.returns
  have hts := atoms_spec (ws := wsX1_write) B.pre
  have hown : s.vm.findClass RX1 = some m.cls := findClass_of_methodNamed B.named
  have hlocks := B.notSynchronized
  subst hsz
  have htg : ∀ w ∈ GW, w.before _ s = true := fun w h => hts w (List.mem_cons_of_mem _ h)
  have hD := hD0.self (sz := s.heap.size)
  generalize hAe : va_A (wBM cI cJ cZ h σ) s.heap.size = A at hD ⊢
  have hA : ∀ q : Nat, s.heap.size ≤ q → A q := fun q h => by rw [← hAe]; exact Or.inr h
  have hS : va_S A s.heap s.heap [] := va_S.rf
  have hl := lv_entry [.ref (h 0), .int k] (n := 5) (Nat.le_of_ble_eq_true rfl)
  rw [lg_entry_eq]
  generalize (lg_sl [.ref (h 0), .int k] ++ List.replicate (5 - (lg_sl [.ref (h 0), .int k]).length) Slot.unset).toArray = ls at hl ⊢
  have hl : lv_has ls 5 [(0, .ref (h 0)), (1, .int k)] := hl
  have hP : va_P (dC, dI) vwCl (wBM cI cJ cZ h σ) s.heap := hP
  refine lv_aload_n hx hb dX1_write_0 rfl (lv_at hl 0 rfl) ?_
  refine va_get (D := (dC, dI)) (ci := 1) (v := .int (nI (kgSz σ))) (C := RX1) (T := TX1) (N := 18) hx hb htg inX1 (fs := fsBM h σ) hown hK hP 0 rfl rfl 14 (by decide) (htg _ fX1_80) (fun _ h9 => h9) rfl dX1_write_1 ?_
  refine lv_istore_n (lv' := [(2, .int (nI (kgSz σ))), (0, .ref (h 0)), (1, .int k)]) hx hb dX1_write_4 rfl hl (by decide) rfl (fun ls hl => ?_)
  refine lv_aload_n hx hb dX1_write_5 rfl (lv_at hl 1 rfl) ?_
  refine va_get (D := (dC, dI)) (ci := 1) (v := .ref (h 10)) (C := RX1) (T := TX1) (N := 18) hx hb htg inX1 (fs := fsBM h σ) hown hK hP 0 rfl rfl 13 (by decide) (htg _ fX1_39) (fun _ h9 => h9) rfl dX1_write_6 ?_
  refine lv_aload_n hx hb dX1_write_9 rfl (lv_at hl 1 rfl) ?_
  refine va_get (D := (dC, dI)) (ci := 1) (v := .int (nI (kgSz σ))) (C := RX1) (T := TX1) (N := 18) hx hb htg inX1 (fs := fsBM h σ) hown hK hP 0 rfl rfl 14 (by decide) (htg _ fX1_80) (fun _ h9 => h9) rfl dX1_write_10 ?_
  refine lv_iload_n hx hb dX1_write_13 rfl (lv_at hl 2 rfl) ?_
  refine xr_iast (f := kgJR σ) (i := kgSz σ) (x := k) hx hb hK hP hD hS 10 0 rfl rfl (by omega) (by decide) dX1_write_14 (fun H locs hP hD hS => ?_)
  rw [wBM_JR] at hP hD
  refine lv_aload_n hx hb dX1_write_15 rfl (lv_at hl 1 rfl) ?_
  refine va_get (D := (dC, dI)) (ci := 1) (v := .ref (h 10)) (C := RX1) (T := TX1) (N := 18) hx hb htg inX1 (fs := fsBM h (kuJR σ (upd (kgJR σ) (kgSz σ) k))) hown hK hP 0 rfl rfl 13 (by decide) (htg _ fX1_39) (fun _ h9 => h9) rfl dX1_write_16 ?_
  refine lv_aload_n hx hb dX1_write_19 rfl (lv_at hl 1 rfl) ?_
  refine va_get (D := (dC, dI)) (ci := 1) (v := .int (nI (kgSz σ))) (C := RX1) (T := TX1) (N := 18) hx hb htg inX1 (fs := fsBM h (kuJR σ (upd (kgJR σ) (kgSz σ) k))) hown hK hP 0 rfl rfl 14 (by decide) (htg _ fX1_80) (fun _ h9 => h9) rfl dX1_write_20 ?_
  refine lv_iconst (v := nI 1) hx hb dX1_write_23 (by decide) ?_
  refine xr_iadd hx hb dX1_write_24 ?_
  refine lv_aload_n hx hb dX1_write_25 rfl (lv_at hl 1 rfl) ?_
  refine va_get (D := (dC, dI)) (ci := 1) (v := .int (nI (kgLe σ))) (C := RX1) (T := TX1) (N := 18) hx hb htg inX1 (fs := fsBM h (kuJR σ (upd (kgJR σ) (kgSz σ) k))) hown hK hP 0 rfl rfl 17 (by decide) (htg _ fX1_65) (fun _ h9 => h9) rfl dX1_write_26 ?_
  refine lv_sipush (v := nI 255) hx hb dX1_write_29 (by decide) ?_
  refine lv_iand hx hb dX1_write_32 ?_
  refine xr_iast (f := upd (kgJR σ) (kgSz σ) k) (i := kgSz σ + 1) (x := (nI (kgLe σ)) &&& (nI 255)) hx hb hK hP hD hS 10 0 rfl rfl (by omega) (by decide) dX1_write_33 (fun H locs hP hD hS => ?_)
  rw [wBM_JR] at hP hD
  refine lv_aload_n hx hb dX1_write_34 rfl (lv_at hl 1 rfl) ?_
  refine va_get (D := (dC, dI)) (ci := 1) (v := .ref (h 10)) (C := RX1) (T := TX1) (N := 18) hx hb htg inX1 (fs := fsBM h (kuJR (kuJR σ (upd (kgJR σ) (kgSz σ) k)) (upd (upd (kgJR σ) (kgSz σ) k) (kgSz σ + 1) ((nI (kgLe σ)) &&& (nI 255))))) hown hK hP 0 rfl rfl 13 (by decide) (htg _ fX1_39) (fun _ h9 => h9) rfl dX1_write_35 ?_
  refine lv_aload_n hx hb dX1_write_38 rfl (lv_at hl 1 rfl) ?_
  refine va_get (D := (dC, dI)) (ci := 1) (v := .int (nI (kgSz σ))) (C := RX1) (T := TX1) (N := 18) hx hb htg inX1 (fs := fsBM h (kuJR (kuJR σ (upd (kgJR σ) (kgSz σ) k)) (upd (upd (kgJR σ) (kgSz σ) k) (kgSz σ + 1) ((nI (kgLe σ)) &&& (nI 255))))) hown hK hP 0 rfl rfl 14 (by decide) (htg _ fX1_80) (fun _ h9 => h9) rfl dX1_write_39 ?_
  refine lv_iconst (v := nI 2) hx hb dX1_write_42 (by decide) ?_
  refine xr_iadd hx hb dX1_write_43 ?_
  refine lv_aload_n hx hb dX1_write_44 rfl (lv_at hl 1 rfl) ?_
  refine va_get (D := (dC, dI)) (ci := 1) (v := .int (nI (kgLe σ))) (C := RX1) (T := TX1) (N := 18) hx hb htg inX1 (fs := fsBM h (kuJR (kuJR σ (upd (kgJR σ) (kgSz σ) k)) (upd (upd (kgJR σ) (kgSz σ) k) (kgSz σ + 1) ((nI (kgLe σ)) &&& (nI 255))))) hown hK hP 0 rfl rfl 17 (by decide) (htg _ fX1_65) (fun _ h9 => h9) rfl dX1_write_45 ?_
  refine lv_bipush (v := nI 8) hx hb dX1_write_48 (by decide) ?_
  refine lv_ishr hx hb dX1_write_50 ?_
  refine xr_iast (f := upd (upd (kgJR σ) (kgSz σ) k) (kgSz σ + 1) ((nI (kgLe σ)) &&& (nI 255))) (i := kgSz σ + 2) (x := (nI (kgLe σ)) >>> ((nI 8) &&& 31)) hx hb hK hP hD hS 10 0 rfl rfl (by omega) (by decide) dX1_write_51 (fun H locs hP hD hS => ?_)
  rw [wBM_JR] at hP hD
  refine lv_aload_n hx hb dX1_write_52 rfl (lv_at hl 1 rfl) ?_
  refine lv_dup hx hb dX1_write_53 rfl ?_
  refine va_get (D := (dC, dI)) (ci := 1) (v := .int (nI (kgSz σ))) (C := RX1) (T := TX1) (N := 18) hx hb htg inX1 (fs := fsBM h (kuJR (kuJR (kuJR σ (upd (kgJR σ) (kgSz σ) k)) (upd (upd (kgJR σ) (kgSz σ) k) (kgSz σ + 1) ((nI (kgLe σ)) &&& (nI 255)))) (upd (upd (upd (kgJR σ) (kgSz σ) k) (kgSz σ + 1) ((nI (kgLe σ)) &&& (nI 255))) (kgSz σ + 2) ((nI (kgLe σ)) >>> ((nI 8) &&& 31))))) hown hK hP 0 rfl rfl 14 (by decide) (htg _ fX1_80) (fun _ h9 => h9) rfl dX1_write_54 ?_
  refine lv_iconst (v := nI 3) hx hb dX1_write_57 (by decide) ?_
  refine xr_iadd hx hb dX1_write_58 ?_
  refine va_put (D := (dC, dI)) (ci := 1) (v := .int (nI (kgSz σ + 3))) (ty := .int) (C := RX1) (T := TX1) (N := 18) hx hb htg inX1 tyX1 tyX1_ok nmX1 (fs := fsBM h (kuJR (kuJR (kuJR σ (upd (kgJR σ) (kgSz σ) k)) (upd (upd (kgJR σ) (kgSz σ) k) (kgSz σ + 1) ((nI (kgLe σ)) &&& (nI 255)))) (upd (upd (upd (kgJR σ) (kgSz σ) k) (kgSz σ + 1) ((nI (kgLe σ)) &&& (nI 255))) (kgSz σ + 2) ((nI (kgLe σ)) >>> ((nI 8) &&& 31))))) hown hK hP hD hS 0 rfl rfl 14 (by decide) (htg _ fX1_80) (fun _ h9 => h9) rfl (by decide +kernel) rfl rfl (Nat.le_of_ble_eq_true rfl) dX1_write_59 (fun H locs hP hD hS => ?_)
  rw [wBM_Sz] at hP hD
  refine lv_iconst (v := nI 0) hx hb dX1_write_62 (by decide) ?_
  refine lv_istore_n (lv' := [(3, .int (nI 0)), (2, .int (nI (kgSz σ))), (0, .ref (h 0)), (1, .int k)]) hx hb dX1_write_63 rfl hl (by decide) rfl (fun ls hl => ?_)
  have loop : ∀ (fu i : Nat) (z : BM), i ≤ kgLe σ → kgLe σ < i + fu → z = wrSt σ k i → ∀ (H : Heap) (locs : List Loc), va_P (dC, dI) vwCl (wBM cI cJ cZ h z) H → va_D A (wBM cI cJ cZ h z) → va_S A s.heap H locs → ∀ (ls : Array Slot), lv_has ls 5 [(3, .int (nI i)), (0, .ref (h 0)), (2, .int (nI (kgSz σ)))] → W p l e (headSpec wsX1_write ({ frames := 0, cells := 0, slots := 0, locals := 0 } : Room)).room s m ([.ref (h 0), .int k].toArray) below meth c H locs 0 0 (MQ below (va_Qv (fun (_ : Unit) => True) (fun _ => aBM dC dI cI cJ cZ h A (wrM σ k)) A) ([.ref (h 0), .int k].toArray) s 0 0 A) (F0 m 64 ls []) := by
    intro fu
    induction fu with
    | zero => intro i z h1 h2; exact absurd h2 (by omega)
    | succ fu ih =>
      intro i z hi hin ez H locs hP hD hS ls hl
      refine lv_iload_n hx hb dX1_write_64 rfl (lv_at hl 0 rfl) ?_
      refine lv_aload_n hx hb dX1_write_65 rfl (lv_at hl 1 rfl) ?_
      have hLe : kgLe z = kgLe σ := by rw [ez]; rfl
      have hSz : kgSz z = kgSz σ + 3 + i := by rw [ez]; rfl
      refine va_get (D := (dC, dI)) (ci := 1) (v := .int (nI (kgLe z))) (C := RX1) (T := TX1) (N := 18) hx hb htg inX1 (fs := fsBM h z) hown hK hP 0 rfl rfl 17 (by decide) (htg _ fX1_65) (fun _ h9 => h9) rfl dX1_write_66 ?_
      refine xr_icmp_ge (tgt := 103) hx hb dX1_write_69 (by decide) (by omega) (by omega) (fun c69 => ?_) (fun c69 => ?_)
      · have hi9 : i = kgLe σ := by omega
        have hSz9 : kgSz z = kgSz σ + 3 + kgLe σ := by omega
        refine lv_iconst (v := nI 0) hx hb dX1_write_103 (by decide) ?_
        refine lv_istore_n (lv' := [(3, .int (nI 0)), (0, .ref (h 0)), (2, .int (nI (kgSz σ)))]) hx hb dX1_write_104 rfl hl (by decide) rfl (fun ls hl => ?_)
        refine lv_iload_n hx hb dX1_write_105 rfl (lv_at hl 2 rfl) ?_
        refine lv_istore (lv' := [(4, .int (nI (kgSz σ))), (3, .int (nI 0)), (0, .ref (h 0)), (2, .int (nI (kgSz σ)))]) hx hb dX1_write_106 hl (by decide) rfl (fun ls hl => ?_)
        have loop : ∀ (fu j : Nat) (x : Int32), j ≤ kgSz σ + 3 + kgLe σ → kgSz σ + 3 + kgLe σ < j + fu → kgSz σ ≤ j → x = smL (kgJR z) (kgSz σ) (j - kgSz σ) → ∀ (H : Heap) (locs : List Loc), va_P (dC, dI) vwCl (wBM cI cJ cZ h z) H → va_D A (wBM cI cJ cZ h z) → va_S A s.heap H locs → ∀ (ls : Array Slot), lv_has ls 5 [(4, .int (nI j)), (3, .int x), (0, .ref (h 0)), (2, .int (nI (kgSz σ)))] → W p l e (headSpec wsX1_write ({ frames := 0, cells := 0, slots := 0, locals := 0 } : Room)).room s m ([.ref (h 0), .int k].toArray) below meth c H locs 0 0 (MQ below (va_Qv (fun (_ : Unit) => True) (fun _ => aBM dC dI cI cJ cZ h A (wrM σ k)) A) ([.ref (h 0), .int k].toArray) s 0 0 A) (F0 m 108 ls []) := by
          intro fu
          induction fu with
          | zero => intro j x h1 h2; exact absurd h2 (by omega)
          | succ fu ih =>
            intro j x hi hin hj ex H locs hP hD hS ls hl
            refine lv_iload hx hb dX1_write_108 (lv_at hl 0 rfl) ?_
            refine lv_aload_n hx hb dX1_write_110 rfl (lv_at hl 2 rfl) ?_
            refine va_get (D := (dC, dI)) (ci := 1) (v := .int (nI (kgSz z))) (C := RX1) (T := TX1) (N := 18) hx hb htg inX1 (fs := fsBM h z) hown hK hP 0 rfl rfl 14 (by decide) (htg _ fX1_80) (fun _ h9 => h9) rfl dX1_write_111 ?_
            refine xr_icmp_ge (tgt := 133) hx hb dX1_write_114 (by decide) (by omega) (by omega) (fun c114 => ?_) (fun c114 => ?_)
            · refine lv_aload_n hx hb dX1_write_133 rfl (lv_at hl 2 rfl) ?_
              refine va_get (D := (dC, dI)) (ci := 1) (v := .ref (h 10)) (C := RX1) (T := TX1) (N := 18) hx hb htg inX1 (fs := fsBM h z) hown hK hP 0 rfl rfl 13 (by decide) (htg _ fX1_39) (fun _ h9 => h9) rfl dX1_write_134 ?_
              refine lv_aload_n hx hb dX1_write_137 rfl (lv_at hl 2 rfl) ?_
              refine va_get (D := (dC, dI)) (ci := 1) (v := .int (nI (kgSz z))) (C := RX1) (T := TX1) (N := 18) hx hb htg inX1 (fs := fsBM h z) hown hK hP 0 rfl rfl 14 (by decide) (htg _ fX1_80) (fun _ h9 => h9) rfl dX1_write_138 ?_
              refine lv_iload_n hx hb dX1_write_141 rfl (lv_at hl 1 rfl) ?_
              refine lv_sipush (v := nI 255) hx hb dX1_write_142 (by decide) ?_
              refine lv_iand hx hb dX1_write_145 ?_
              refine xr_iast (f := kgJR z) (i := kgSz z) (x := x &&& (nI 255)) hx hb hK hP hD hS 10 0 rfl rfl (by omega) (by decide) dX1_write_146 (fun H locs hP hD hS => ?_)
              rw [wBM_JR] at hP hD
              refine lv_aload_n hx hb dX1_write_147 rfl (lv_at hl 2 rfl) ?_
              refine lv_dup hx hb dX1_write_148 rfl ?_
              refine va_get (D := (dC, dI)) (ci := 1) (v := .int (nI (kgSz z))) (C := RX1) (T := TX1) (N := 18) hx hb htg inX1 (fs := fsBM h (kuJR z (upd (kgJR z) (kgSz z) (x &&& (nI 255))))) hown hK hP 0 rfl rfl 14 (by decide) (htg _ fX1_80) (fun _ h9 => h9) rfl dX1_write_149 ?_
              refine lv_iconst (v := nI 1) hx hb dX1_write_152 (by decide) ?_
              refine xr_iadd hx hb dX1_write_153 ?_
              refine va_put (D := (dC, dI)) (ci := 1) (v := .int (nI (kgSz z + 1))) (ty := .int) (C := RX1) (T := TX1) (N := 18) hx hb htg inX1 tyX1 tyX1_ok nmX1 (fs := fsBM h (kuJR z (upd (kgJR z) (kgSz z) (x &&& (nI 255))))) hown hK hP hD hS 0 rfl rfl 14 (by decide) (htg _ fX1_80) (fun _ h9 => h9) rfl (by decide +kernel) rfl rfl (Nat.le_of_ble_eq_true rfl) dX1_write_154 (fun H locs hP hD hS => ?_)
              rw [wBM_Sz] at hP hD
              have hfin : kuSz (kuJR z (upd (kgJR z) (kgSz z) (x &&& (nI 255)))) (kgSz z + 1) = wrM σ k := by
                         rw [wrM, ← hi9, ← ez, ex, hSz, show j - kgSz σ = 3 + i by omega]; rfl
              rw [hfin] at hP hD
              exact W.vret hx hb hr (fun t ht hW => ⟨⟨(), rfl, trivial, by rw [ht]; exact hP, va_K.moved hW.alike hK, hD⟩, hS.F ht⟩) hS.2.2 dX1_write_157
            · refine lv_iload_n hx hb dX1_write_117 rfl (lv_at hl 1 rfl) ?_
              refine lv_aload_n hx hb dX1_write_118 rfl (lv_at hl 2 rfl) ?_
              refine va_get (D := (dC, dI)) (ci := 1) (v := .ref (h 10)) (C := RX1) (T := TX1) (N := 18) hx hb htg inX1 (fs := fsBM h z) hown hK hP 0 rfl rfl 13 (by decide) (htg _ fX1_39) (fun _ h9 => h9) rfl dX1_write_119 ?_
              refine lv_iload hx hb dX1_write_122 (lv_at hl 0 rfl) ?_
              refine xr_iald (f := kgJR z) (i := j) hx hb hK hP 10 0 rfl rfl (by omega) (by decide) dX1_write_124 ?_
              refine lv_iadd hx hb dX1_write_125 ?_
              refine lv_istore_n (lv' := [(3, .int (x + ((kgJR z) j))), (4, .int (nI j)), (0, .ref (h 0)), (2, .int (nI (kgSz σ)))]) hx hb dX1_write_126 rfl hl (by decide) rfl (fun ls hl => ?_)
              refine lv_iinc (v := nI (j + 1)) (lv' := [(4, .int (nI (j + 1))), (3, .int (x + ((kgJR z) j))), (0, .ref (h 0)), (2, .int (nI (kgSz σ)))]) hx hb dX1_write_127 hl (k := 1) rfl (nI_add _ 1) (by decide) rfl (fun ls hl => ?_)
              refine lv_goto (tgt := 108) hx hb dX1_write_130 (by decide) ?_
              exact ih (j + 1) (x + ((kgJR z) j)) (by omega) (by omega) (by omega) (by rw [show j + 1 - kgSz σ = (j - kgSz σ) + 1 by omega, ex]; show _ = smL _ _ _ + _; rw [show kgSz σ + (j - kgSz σ) = j by omega]) H locs hP hD hS ls (lv_sub hl [0, 1, 2, 3] rfl)
        exact loop (kgSz σ + 3 + kgLe σ + 1) (kgSz σ) (nI 0) (by omega) (by omega) (Nat.le_refl _) (by rw [Nat.sub_self]; rfl) _ _ hP hD hS ls (lv_sub hl [0, 1, 2, 3] rfl)
      · refine lv_aload_n hx hb dX1_write_72 rfl (lv_at hl 1 rfl) ?_
        refine va_get (D := (dC, dI)) (ci := 1) (v := .ref (h 10)) (C := RX1) (T := TX1) (N := 18) hx hb htg inX1 (fs := fsBM h z) hown hK hP 0 rfl rfl 13 (by decide) (htg _ fX1_39) (fun _ h9 => h9) rfl dX1_write_73 ?_
        refine lv_aload_n hx hb dX1_write_76 rfl (lv_at hl 1 rfl) ?_
        refine va_get (D := (dC, dI)) (ci := 1) (v := .int (nI (kgSz z))) (C := RX1) (T := TX1) (N := 18) hx hb htg inX1 (fs := fsBM h z) hown hK hP 0 rfl rfl 14 (by decide) (htg _ fX1_80) (fun _ h9 => h9) rfl dX1_write_77 ?_
        refine lv_aload_n hx hb dX1_write_80 rfl (lv_at hl 1 rfl) ?_
        refine va_get (D := (dC, dI)) (ci := 1) (v := .ref (h 11)) (C := RX1) (T := TX1) (N := 18) hx hb htg inX1 (fs := fsBM h z) hown hK hP 0 rfl rfl 16 (by decide) (htg _ fX1_42) (fun _ h9 => h9) rfl dX1_write_81 ?_
        refine lv_iload_n hx hb dX1_write_84 rfl (lv_at hl 0 rfl) ?_
        refine xr_iald (f := kgRC z) (i := i) hx hb hK hP 11 0 rfl rfl (by omega) (by decide) dX1_write_85 ?_
        refine xr_iast (f := kgJR z) (i := kgSz z) (x := (kgRC z) i) hx hb hK hP hD hS 10 0 rfl rfl (by omega) (by decide) dX1_write_86 (fun H locs hP hD hS => ?_)
        rw [wBM_JR] at hP hD
        refine lv_aload_n hx hb dX1_write_87 rfl (lv_at hl 1 rfl) ?_
        refine lv_dup hx hb dX1_write_88 rfl ?_
        refine va_get (D := (dC, dI)) (ci := 1) (v := .int (nI (kgSz z))) (C := RX1) (T := TX1) (N := 18) hx hb htg inX1 (fs := fsBM h (kuJR z (upd (kgJR z) (kgSz z) ((kgRC z) i)))) hown hK hP 0 rfl rfl 14 (by decide) (htg _ fX1_80) (fun _ h9 => h9) rfl dX1_write_89 ?_
        refine lv_iconst (v := nI 1) hx hb dX1_write_92 (by decide) ?_
        refine xr_iadd hx hb dX1_write_93 ?_
        refine va_put (D := (dC, dI)) (ci := 1) (v := .int (nI (kgSz z + 1))) (ty := .int) (C := RX1) (T := TX1) (N := 18) hx hb htg inX1 tyX1 tyX1_ok nmX1 (fs := fsBM h (kuJR z (upd (kgJR z) (kgSz z) ((kgRC z) i)))) hown hK hP hD hS 0 rfl rfl 14 (by decide) (htg _ fX1_80) (fun _ h9 => h9) rfl (by decide +kernel) rfl rfl (Nat.le_of_ble_eq_true rfl) dX1_write_94 (fun H locs hP hD hS => ?_)
        rw [wBM_Sz] at hP hD
        refine lv_iinc (v := nI (i + 1)) (lv' := [(3, .int (nI (i + 1))), (0, .ref (h 0)), (2, .int (nI (kgSz σ)))]) hx hb dX1_write_97 hl (k := 0) rfl (nI_add _ 1) (by decide) rfl (fun ls hl => ?_)
        refine lv_goto (tgt := 64) hx hb dX1_write_100 (by decide) ?_
        exact ih (i + 1) (kuSz (kuJR z (upd (kgJR z) (kgSz z) ((kgRC z) i))) (kgSz z + 1)) (by omega) (by omega) (by rw [ez]; exact wrSt_step σ k i) H locs hP hD hS ls (lv_sub hl [0, 1, 2] rfl)
  exact loop (kgLe σ + 1) 0 (kuSz (kuJR (kuJR (kuJR σ (upd (kgJR σ) (kgSz σ) k)) (upd (upd (kgJR σ) (kgSz σ) k) (kgSz σ + 1) ((nI (kgLe σ)) &&& (nI 255)))) (upd (upd (upd (kgJR σ) (kgSz σ) k) (kgSz σ + 1) ((nI (kgLe σ)) &&& (nI 255))) (kgSz σ + 2) ((nI (kgLe σ)) >>> ((nI 8) &&& 31)))) (kgSz σ + 3)) (by omega) (by omega) (wrSt_0 σ k) _ _ hP hD hS ls (lv_sub hl [0, 2, 1] rfl)
