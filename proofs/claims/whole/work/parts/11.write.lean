set_option maxRecDepth 100000 in
set_option maxHeartbeats 4000000 in
theorem c_writeByte (l : Launch) (σ : BJ) (v : Int32) (hw : jgWc σ < 700) : wBv l yX0_writeByte wsX0_writeByte ({ frames := 0, cells := 0, slots := 0, locals := 0 } : Room) σ [.int v] (wB σ v) := by
  intro dC dI cI cJ h sz
  refine Met.ofW (cc := cX0_writeByte) (maxL := 2) (ret := none) (by decide) rfl ?_
  intro p e s m args below meth c s₁ B hml hv
  obtain ⟨rfl, hsz, hP, hK, hD0⟩ := hv
  have hx := B.exec
  have hb := B.bytes
  have hr := B.returns
  have hts := atoms_spec (ws := wsX0_writeByte) B.pre
  have hown : s.vm.findClass RX0 = some m.cls := findClass_of_methodNamed B.named
  have hlocks := B.notSynchronized
  subst hsz
  have htg : ∀ w ∈ GW, w.before _ s = true := fun w h => hts w (List.mem_cons_of_mem _ h)
  have hD := hD0.self (sz := s.heap.size)
  generalize hAe : va_A (wBJ cI cJ h σ) s.heap.size = A at hD ⊢
  have hA : ∀ q : Nat, s.heap.size ≤ q → A q := fun q h => by rw [← hAe]; exact Or.inr h
  have hS : va_S A s.heap s.heap [] := va_S.rf
  have hl := lv_entry [.ref (h 0), .int v] (n := 2) (Nat.le_of_ble_eq_true rfl)
  rw [lg_entry_eq]
  generalize (lg_sl [.ref (h 0), .int v] ++ List.replicate (2 - (lg_sl [.ref (h 0), .int v]).length) Slot.unset).toArray = ls at hl ⊢
  have hl : lv_has ls 2 [(0, .ref (h 0)), (1, .int v)] := hl
  have hP : va_P (dC, dI) vwCl (wBJ cI cJ h σ) s.heap := hP
  refine lv_aload_n hx hb dX0_writeByte_0 rfl (lv_at hl 0 rfl) ?_
  refine va_get (D := (dC, dI)) (ci := 0) (v := .int (nI (jgWc σ))) (C := RX0) (T := TX0) (N := 14) hx hb htg inX0 (fs := fsBJ h σ) hown hK hP 0 rfl rfl 3 (by decide) (htg _ fX0_124) (fun _ h9 => h9) rfl dX0_writeByte_1 ?_
  refine lv_sipush (v := nI 700) hx hb dX0_writeByte_4 (by decide) ?_
  refine xr_icmp_ge (tgt := 30) hx hb dX0_writeByte_7 (by decide) (by omega) (by omega) (fun c7 => absurd c7 (by omega)) (fun c7 => ?_)
  refine lv_aload_n hx hb dX0_writeByte_10 rfl (lv_at hl 0 rfl) ?_
  refine va_get (D := (dC, dI)) (ci := 0) (v := .ref (h 2)) (C := RX0) (T := TX0) (N := 14) hx hb htg inX0 (fs := fsBJ h σ) hown hK hP 0 rfl rfl 2 (by decide) (htg _ fX0_13) (fun _ h9 => h9) rfl dX0_writeByte_11 ?_
  refine lv_aload_n hx hb dX0_writeByte_14 rfl (lv_at hl 0 rfl) ?_
  refine va_get (D := (dC, dI)) (ci := 0) (v := .int (nI (jgWc σ))) (C := RX0) (T := TX0) (N := 14) hx hb htg inX0 (fs := fsBJ h σ) hown hK hP 0 rfl rfl 3 (by decide) (htg _ fX0_124) (fun _ h9 => h9) rfl dX0_writeByte_15 ?_
  refine lv_iload_n hx hb dX0_writeByte_18 rfl (lv_at hl 1 rfl) ?_
  refine xr_iast (f := jgW σ) (i := jgWc σ) (x := v) hx hb hK hP hD hS 2 0 rfl rfl (by omega) (by decide) dX0_writeByte_19 (fun H locs hP hD hS => ?_)
  rw [wBJ_W] at hP hD
  refine lv_aload_n hx hb dX0_writeByte_20 rfl (lv_at hl 0 rfl) ?_
  refine lv_dup hx hb dX0_writeByte_21 rfl ?_
  refine va_get (D := (dC, dI)) (ci := 0) (v := .int (nI (jgWc σ))) (C := RX0) (T := TX0) (N := 14) hx hb htg inX0 (fs := fsBJ h (juW σ (upd (jgW σ) (jgWc σ) v))) hown hK hP 0 rfl rfl 3 (by decide) (htg _ fX0_124) (fun _ h9 => h9) rfl dX0_writeByte_22 ?_
  refine lv_iconst (v := nI 1) hx hb dX0_writeByte_25 (by decide) ?_
  refine xr_iadd hx hb dX0_writeByte_26 ?_
  refine va_put (D := (dC, dI)) (ci := 0) (v := .int (nI (jgWc σ + 1))) (ty := .int) (C := RX0) (T := TX0) (N := 14) hx hb htg inX0 tyX0 tyX0_ok nmX0 (fs := fsBJ h (juW σ (upd (jgW σ) (jgWc σ) v))) hown hK hP hD hS 0 rfl rfl 3 (by decide) (htg _ fX0_124) (fun _ h9 => h9) rfl (by decide +kernel) rfl rfl (Nat.le_of_ble_eq_true rfl) dX0_writeByte_27 (fun H locs hP hD hS => ?_)
  rw [wBJ_Wc] at hP hD
  have hfin : juWc (juW σ (upd (jgW σ) (jgWc σ) v)) (jgWc σ + 1) = wB σ v := rfl
  rw [hfin] at hP hD
  exact W.vret hx hb hr (fun t ht hW => ⟨⟨(), rfl, trivial, by rw [ht]; exact hP, va_K.moved hW.alike hK, hD⟩, hS.F ht⟩) hS.2.2 dX0_writeByte_30
set_option maxRecDepth 100000 in
set_option maxHeartbeats 4000000 in
theorem c_writeHead (l : Launch) (σ : BJ) (k : Int32) (n : Nat) (hw : jgWc σ + 3 ≤ 700) : wBi l yX0_writeHead wsX0_writeHead ({ frames := 1, cells := 0, slots := 0, locals := 21 } : Room) σ [.int k, .int (nI n)] (nI (jgWc σ)) (wL σ (hd k n)) := by
  intro dC dI cI cJ h sz
  refine Met.ofW (cc := cX0_writeHead) (maxL := 4) (ret := (some .int)) (by decide) rfl ?_
  intro p e s m args below meth c s₁ B hml hv
  obtain ⟨rfl, hsz, hP, hK, hD0⟩ := hv
  have hx := B.exec
  have hb := B.bytes
  have hr := B.returns
  have hts := atoms_spec (ws := wsX0_writeHead) B.pre
  have hown : s.vm.findClass RX0 = some m.cls := findClass_of_methodNamed B.named
  have hlocks := B.notSynchronized
  subst hsz
  have htg : ∀ w ∈ GW, w.before _ s = true := fun w h => hts w (List.mem_cons_of_mem _ h)
  have hD := hD0.self (sz := s.heap.size)
  generalize hAe : va_A (wBJ cI cJ h σ) s.heap.size = A at hD ⊢
  have hA : ∀ q : Nat, s.heap.size ≤ q → A q := fun q h => by rw [← hAe]; exact Or.inr h
  have hS : va_S A s.heap s.heap [] := va_S.rf
  have hl := lv_entry [.ref (h 0), .int k, .int (nI n)] (n := 4) (Nat.le_of_ble_eq_true rfl)
  rw [lg_entry_eq]
  generalize (lg_sl [.ref (h 0), .int k, .int (nI n)] ++ List.replicate (4 - (lg_sl [.ref (h 0), .int k, .int (nI n)]).length) Slot.unset).toArray = ls at hl ⊢
  have hl : lv_has ls 4 [(0, .ref (h 0)), (1, .int k), (2, .int (nI n))] := hl
  have hP : va_P (dC, dI) vwCl (wBJ cI cJ h σ) s.heap := hP
  refine lv_aload_n hx hb dX0_writeHead_0 rfl (lv_at hl 0 rfl) ?_
  refine va_get (D := (dC, dI)) (ci := 0) (v := .int (nI (jgWc σ))) (C := RX0) (T := TX0) (N := 14) hx hb htg inX0 (fs := fsBJ h σ) hown hK hP 0 rfl rfl 3 (by decide) (htg _ fX0_124) (fun _ h9 => h9) rfl dX0_writeHead_1 ?_
  refine lv_istore_n (lv' := [(3, .int (nI (jgWc σ))), (0, .ref (h 0)), (1, .int k), (2, .int (nI n))]) hx hb dX0_writeHead_4 rfl hl (by decide) rfl (fun ls hl => ?_)
  refine lv_aload_n hx hb dX0_writeHead_5 rfl (lv_at hl 1 rfl) ?_
  refine lv_iload_n hx hb dX0_writeHead_6 rfl (lv_at hl 2 rfl) ?_
  refine bj_wv (As := [.int k]) (rest := []) (n := 1) ⟨hx, hb, hml, hown, htg⟩ (c_writeByte l σ k (by omega)) (cwV 1 htg gX0_168 rfl rfl rfl (by decide +kernel) ⟨Nat.le_of_ble_eq_true rfl, Nat.le_of_ble_eq_true rfl⟩) hK hP hD hS hA hl.1 rfl rfl (Nat.le_of_ble_eq_true rfl) dX0_writeHead_7 (Nat.zero_le _) (Nat.zero_le _) (fun H locs hP hD hS => ?_)
  obtain ⟨z1, ez1⟩ : ∃ zq : BJ, zq = wB σ k := ⟨_, rfl⟩
  rw [← ez1] at hP hD
  have wz1 : jgWc z1 = jgWc σ + 1 := by rw [ez1]; rfl
  refine lv_aload_n hx hb dX0_writeHead_10 rfl (lv_at hl 1 rfl) ?_
  refine lv_iload_n hx hb dX0_writeHead_11 rfl (lv_at hl 3 rfl) ?_
  refine lv_sipush (v := nI 255) hx hb dX0_writeHead_12 (by decide) ?_
  refine lv_iand hx hb dX0_writeHead_15 ?_
  refine bj_wv (As := [.int ((nI n) &&& (nI 255))]) (rest := []) (n := 1) ⟨hx, hb, hml, hown, htg⟩ (c_writeByte l z1 ((nI n) &&& (nI 255)) (by omega)) (cwV 1 htg gX0_168 rfl rfl rfl (by decide +kernel) ⟨Nat.le_of_ble_eq_true rfl, Nat.le_of_ble_eq_true rfl⟩) hK hP hD hS hA hl.1 rfl rfl (Nat.le_of_ble_eq_true rfl) dX0_writeHead_16 (Nat.zero_le _) (Nat.zero_le _) (fun H locs hP hD hS => ?_)
  obtain ⟨z2, ez2⟩ : ∃ zq : BJ, zq = wB z1 ((nI n) &&& (nI 255)) := ⟨_, rfl⟩
  rw [← ez2] at hP hD
  have wz2 : jgWc z2 = jgWc σ + 2 := by rw [ez2]; show jgWc _ + 1 = _; omega
  refine lv_aload_n hx hb dX0_writeHead_19 rfl (lv_at hl 1 rfl) ?_
  refine lv_iload_n hx hb dX0_writeHead_20 rfl (lv_at hl 3 rfl) ?_
  refine lv_bipush (v := nI 8) hx hb dX0_writeHead_21 (by decide) ?_
  refine lv_iushr (v := (((nI n)).toUInt32 >>> (((nI 8)).toUInt32 &&& Int32.toUInt32 31)).toInt32) hx hb dX0_writeHead_23 rfl ?_
  refine bj_wv (As := [.int ((((nI n)).toUInt32 >>> (((nI 8)).toUInt32 &&& Int32.toUInt32 31)).toInt32)]) (rest := []) (n := 1) ⟨hx, hb, hml, hown, htg⟩ (c_writeByte l z2 ((((nI n)).toUInt32 >>> (((nI 8)).toUInt32 &&& Int32.toUInt32 31)).toInt32) (by omega)) (cwV 1 htg gX0_168 rfl rfl rfl (by decide +kernel) ⟨Nat.le_of_ble_eq_true rfl, Nat.le_of_ble_eq_true rfl⟩) hK hP hD hS hA hl.1 rfl rfl (Nat.le_of_ble_eq_true rfl) dX0_writeHead_24 (Nat.zero_le _) (Nat.zero_le _) (fun H locs hP hD hS => ?_)
  obtain ⟨z3, ez3⟩ : ∃ zq : BJ, zq = wB z2 ((((nI n)).toUInt32 >>> (((nI 8)).toUInt32 &&& Int32.toUInt32 31)).toInt32) := ⟨_, rfl⟩
  rw [← ez3] at hP hD
  have wz3 : jgWc z3 = jgWc σ + 3 := by rw [ez3]; show jgWc _ + 1 = _; omega
  refine lv_iload_n hx hb dX0_writeHead_27 rfl (lv_at hl 0 rfl) ?_
  have hfin : z3 = wL σ (hd k n) := by rw [ez3, ez2, ez1]; rfl
  rw [hfin] at hP hD
  exact W.iret (v := nI (jgWc σ)) hx hb hr (fun t ht hW => ⟨⟨_, (), rfl, rfl, by rw [ht]; exact hP, va_K.moved hW.alike hK, hD⟩, hS.F ht⟩) hS.2.2 dX0_writeHead_28
set_option maxRecDepth 100000 in
set_option maxHeartbeats 4000000 in
theorem c_writeLong (l : Launch) (σ : BJ) (v : Int64) (hw : jgWc σ + 8 ≤ 700) : wBv l yX0_writeLong wsX0_writeLong ({ frames := 1, cells := 0, slots := 0, locals := 21 } : Room) σ [.long v] (wL σ (l8 v)) := by
  intro dC dI cI cJ h sz
  refine Met.ofW (cc := cX0_writeLong) (maxL := 4) (ret := none) (by decide) rfl ?_
  intro p e s m args below meth c s₁ B hml hv
  obtain ⟨rfl, hsz, hP, hK, hD0⟩ := hv
  have hx := B.exec
  have hb := B.bytes
  have hr := B.returns
  have hts := atoms_spec (ws := wsX0_writeLong) B.pre
  have hown : s.vm.findClass RX0 = some m.cls := findClass_of_methodNamed B.named
  have hlocks := B.notSynchronized
  subst hsz
  have htg : ∀ w ∈ GW, w.before _ s = true := fun w h => hts w (List.mem_cons_of_mem _ h)
  have hD := hD0.self (sz := s.heap.size)
  generalize hAe : va_A (wBJ cI cJ h σ) s.heap.size = A at hD ⊢
  have hA : ∀ q : Nat, s.heap.size ≤ q → A q := fun q h => by rw [← hAe]; exact Or.inr h
  have hS : va_S A s.heap s.heap [] := va_S.rf
  have hl := lv_entry [.ref (h 0), .long v] (n := 4) (Nat.le_of_ble_eq_true rfl)
  rw [lg_entry_eq]
  generalize (lg_sl [.ref (h 0), .long v] ++ List.replicate (4 - (lg_sl [.ref (h 0), .long v]).length) Slot.unset).toArray = ls at hl ⊢
  have hl : lv_has ls 4 [(0, .ref (h 0)), (1, .long v)] := hl
  have hP : va_P (dC, dI) vwCl (wBJ cI cJ h σ) s.heap := hP
  refine lv_iconst (v := nI 0) hx hb dX0_writeLong_0 (by decide) ?_
  refine lv_istore_n (lv' := [(3, .int (nI 0)), (0, .ref (h 0)), (1, .long v)]) hx hb dX0_writeLong_1 rfl hl (by decide) rfl (fun ls hl => ?_)
  have loop : ∀ (n i : Nat) (z : BJ), i ≤ 8 → 8 < i + n → z = wL σ ((List.range i).map (b8 v)) → ∀ (H : Heap) (locs : List Loc), va_P (dC, dI) vwCl (wBJ cI cJ h z) H → va_D A (wBJ cI cJ h z) → va_S A s.heap H locs → ∀ (ls : Array Slot), lv_has ls 4 [(3, .int (nI i)), (0, .ref (h 0)), (1, .long v)] → W p l e (headSpec wsX0_writeLong ({ frames := 1, cells := 0, slots := 0, locals := 21 } : Room)).room s m ([.ref (h 0), .long v].toArray) below meth c H locs 0 0 (MQ below (va_Qv (fun (_ : Unit) => True) (fun _ => aBJ dC dI cI cJ h A (wL σ (l8 v))) A) ([.ref (h 0), .long v].toArray) s 0 0 A) (F0 m 2 ls []) := by
    intro n
    induction n with
    | zero => intro i z h1 h2; exact absurd h2 (by omega)
    | succ n ih =>
      intro i z hi hin ez H locs hP hD hS ls hl
      refine lv_iload_n hx hb dX0_writeLong_2 rfl (lv_at hl 0 rfl) ?_
      refine lv_bipush (v := nI 8) hx hb dX0_writeLong_3 (by decide) ?_
      refine xr_icmp_ge (tgt := 29) hx hb dX0_writeLong_5 (by decide) (by omega) (by omega) (fun c5 => ?_) (fun c5 => ?_)
      · have hfin : z = wL σ (l8 v) := by rw [ez, show i = 8 by omega]; rfl
        rw [hfin] at hP hD
        exact W.vret hx hb hr (fun t ht hW => ⟨⟨(), rfl, trivial, by rw [ht]; exact hP, va_K.moved hW.alike hK, hD⟩, hS.F ht⟩) hS.2.2 dX0_writeLong_29
      · refine lv_aload_n hx hb dX0_writeLong_8 rfl (lv_at hl 1 rfl) ?_
        refine lv_lload_n hx hb dX0_writeLong_9 rfl (lv_at hl 2 rfl) ?_
        refine lv_bipush (v := nI 8) hx hb dX0_writeLong_10 (by decide) ?_
        refine lv_iload_n hx hb dX0_writeLong_12 rfl (lv_at hl 0 rfl) ?_
        refine xr_imul hx hb dX0_writeLong_13 ?_
        refine lv_lushr (v := ((v).toUInt64 >>> (((nI (8 * i))).toInt64.toUInt64 &&& Int64.toUInt64 63)).toInt64) hx hb dX0_writeLong_14 rfl ?_
        refine lv_l2i (v := (((v).toUInt64 >>> (((nI (8 * i))).toInt64.toUInt64 &&& Int64.toUInt64 63)).toInt64).toInt32) hx hb dX0_writeLong_15 rfl ?_
        refine lv_sipush (v := nI 255) hx hb dX0_writeLong_16 (by decide) ?_
        refine lv_iand hx hb dX0_writeLong_19 ?_
        refine bj_wv (As := [.int (((((v).toUInt64 >>> (((nI (8 * i))).toInt64.toUInt64 &&& Int64.toUInt64 63)).toInt64).toInt32) &&& (nI 255))]) (rest := []) (n := 1) ⟨hx, hb, hml, hown, htg⟩ (c_writeByte l z (((((v).toUInt64 >>> (((nI (8 * i))).toInt64.toUInt64 &&& Int64.toUInt64 63)).toInt64).toInt32) &&& (nI 255)) (by rw [ez, wL_wc]; simp; omega)) (cwV 1 htg gX0_168 rfl rfl rfl (by decide +kernel) ⟨Nat.le_of_ble_eq_true rfl, Nat.le_of_ble_eq_true rfl⟩) hK hP hD hS hA hl.1 rfl rfl (Nat.le_of_ble_eq_true rfl) dX0_writeLong_20 (Nat.zero_le _) (Nat.zero_le _) (fun H locs hP hD hS => ?_)
        obtain ⟨z1, ez1⟩ : ∃ zq : BJ, zq = wB z (((((v).toUInt64 >>> (((nI (8 * i))).toInt64.toUInt64 &&& Int64.toUInt64 63)).toInt64).toInt32) &&& (nI 255)) := ⟨_, rfl⟩
        rw [← ez1] at hP hD
        refine lv_iinc (v := nI (i + 1)) (lv' := [(3, .int (nI (i + 1))), (0, .ref (h 0)), (1, .long v)]) hx hb dX0_writeLong_23 hl (k := 0) rfl (nI_add _ 1) (by decide) rfl (fun ls hl => ?_)
        refine lv_goto (tgt := 2) hx hb dX0_writeLong_26 (by decide) ?_
        exact ih (i + 1) z1 (by omega) (by omega) (by rw [ez1, ez, wL_snoc]; rw [List.range_succ, List.map_append]; rfl) H locs hP hD hS ls (lv_sub hl [0, 1, 2] rfl)
  exact loop (8 + 1) 0 σ (by omega) (by omega) (rfl) _ _ hP hD hS ls (lv_sub hl [0, 1, 2] rfl)
set_option maxRecDepth 100000 in
set_option maxHeartbeats 4000000 in
theorem c_writeSum (l : Launch) (σ : BJ) (a : Nat) (ha : a ≤ jgWc σ) (hw : jgWc σ < 700) : wBv l yX0_writeSum wsX0_writeSum ({ frames := 1, cells := 0, slots := 0, locals := 24 } : Room) σ [.int (nI a)] (wB σ (sm (jgW σ) a (jgWc σ - a))) := by
  intro dC dI cI cJ h sz
  refine Met.ofW (cc := cX0_writeSum) (maxL := 2) (ret := none) (by decide) rfl ?_
  intro p e s m args below meth c s₁ B hml hv
  obtain ⟨rfl, hsz, hP, hK, hD0⟩ := hv
  have hx := B.exec
  have hb := B.bytes
  have hr := B.returns
  have hts := atoms_spec (ws := wsX0_writeSum) B.pre
  have hown : s.vm.findClass RX0 = some m.cls := findClass_of_methodNamed B.named
  have hlocks := B.notSynchronized
  subst hsz
  have htg : ∀ w ∈ GW, w.before _ s = true := fun w h => hts w (List.mem_cons_of_mem _ h)
  have hD := hD0.self (sz := s.heap.size)
  generalize hAe : va_A (wBJ cI cJ h σ) s.heap.size = A at hD ⊢
  have hA : ∀ q : Nat, s.heap.size ≤ q → A q := fun q h => by rw [← hAe]; exact Or.inr h
  have hS : va_S A s.heap s.heap [] := va_S.rf
  have hl := lv_entry [.ref (h 0), .int (nI a)] (n := 2) (Nat.le_of_ble_eq_true rfl)
  rw [lg_entry_eq]
  generalize (lg_sl [.ref (h 0), .int (nI a)] ++ List.replicate (2 - (lg_sl [.ref (h 0), .int (nI a)]).length) Slot.unset).toArray = ls at hl ⊢
  have hl : lv_has ls 2 [(0, .ref (h 0)), (1, .int (nI a))] := hl
  have hP : va_P (dC, dI) vwCl (wBJ cI cJ h σ) s.heap := hP
  refine lv_aload_n hx hb dX0_writeSum_0 rfl (lv_at hl 0 rfl) ?_
  refine lv_aload_n hx hb dX0_writeSum_1 rfl (lv_at hl 0 rfl) ?_
  refine lv_iload_n hx hb dX0_writeSum_2 rfl (lv_at hl 1 rfl) ?_
  refine lv_aload_n hx hb dX0_writeSum_3 rfl (lv_at hl 0 rfl) ?_
  refine va_get (D := (dC, dI)) (ci := 0) (v := .int (nI (jgWc σ))) (C := RX0) (T := TX0) (N := 14) hx hb htg inX0 (fs := fsBJ h σ) hown hK hP 0 rfl rfl 3 (by decide) (htg _ fX0_124) (fun _ h9 => h9) rfl dX0_writeSum_4 ?_
  refine bj_ri (As := [.int (nI a), .int (nI (jgWc σ))]) (rest := [.ref (h 0)]) (n := 2) ⟨hx, hb, hml, hown, htg⟩ (c_sumOf l σ a (jgWc σ) (ha) (by omega)) (cwV 2 htg gX0_178 rfl rfl rfl (by decide +kernel) ⟨Nat.le_of_ble_eq_true rfl, Nat.le_of_ble_eq_true rfl⟩) hK hP hD hS hA hl.1 rfl rfl (Nat.le_of_ble_eq_true rfl) dX0_writeSum_7 (Nat.zero_le _) (Nat.zero_le _) (fun H locs hP hS => ?_)
  refine bj_wv (As := [.int (sm (jgW σ) a ((jgWc σ) - a))]) (rest := []) (n := 1) ⟨hx, hb, hml, hown, htg⟩ (c_writeByte l σ (sm (jgW σ) a ((jgWc σ) - a)) (by omega)) (cwV 1 htg gX0_168 rfl rfl rfl (by decide +kernel) ⟨Nat.le_of_ble_eq_true rfl, Nat.le_of_ble_eq_true rfl⟩) hK hP hD hS hA hl.1 rfl rfl (Nat.le_of_ble_eq_true rfl) dX0_writeSum_10 (Nat.zero_le _) (Nat.zero_le _) (fun H locs hP hD hS => ?_)
  obtain ⟨z1, ez1⟩ : ∃ zq : BJ, zq = wB σ (sm (jgW σ) a ((jgWc σ) - a)) := ⟨_, rfl⟩
  rw [← ez1] at hP hD
  have hfin : z1 = wB σ (sm (jgW σ) a (jgWc σ - a)) := by rw [ez1]
  rw [hfin] at hP hD
  exact W.vret hx hb hr (fun t ht hW => ⟨⟨(), rfl, trivial, by rw [ht]; exact hP, va_K.moved hW.alike hK, hD⟩, hS.F ht⟩) hS.2.2 dX0_writeSum_13
set_option maxRecDepth 100000 in
set_option maxHeartbeats 4000000 in
theorem c_writeTell (l : Launch) (σ : BJ) (t : Nat) (d : Int64) (hw : jgWc σ + 13 ≤ 700) : wBi l yX0_writeTell wsX0_writeTell ({ frames := 2, cells := 0, slots := 0, locals := 45 } : Room) σ [.int (nI t), .long d] (nI (jgWc σ)) (wR σ (rTell t d)) := by
  intro dC dI cI cJ h sz
  refine Met.ofW (cc := cX0_writeTell) (maxL := 5) (ret := (some .int)) (by decide) rfl ?_
  intro p e s m args below meth c s₁ B hml hv
  obtain ⟨rfl, hsz, hP, hK, hD0⟩ := hv
  have hx := B.exec
  have hb := B.bytes
  have hr := B.returns
  have hts := atoms_spec (ws := wsX0_writeTell) B.pre
  have hown : s.vm.findClass RX0 = some m.cls := findClass_of_methodNamed B.named
  have hlocks := B.notSynchronized
  subst hsz
  have htg : ∀ w ∈ GW, w.before _ s = true := fun w h => hts w (List.mem_cons_of_mem _ h)
  have hD := hD0.self (sz := s.heap.size)
  generalize hAe : va_A (wBJ cI cJ h σ) s.heap.size = A at hD ⊢
  have hA : ∀ q : Nat, s.heap.size ≤ q → A q := fun q h => by rw [← hAe]; exact Or.inr h
  have hS : va_S A s.heap s.heap [] := va_S.rf
  have hl := lv_entry [.ref (h 0), .int (nI t), .long d] (n := 5) (Nat.le_of_ble_eq_true rfl)
  rw [lg_entry_eq]
  generalize (lg_sl [.ref (h 0), .int (nI t), .long d] ++ List.replicate (5 - (lg_sl [.ref (h 0), .int (nI t), .long d]).length) Slot.unset).toArray = ls at hl ⊢
  have hl : lv_has ls 5 [(0, .ref (h 0)), (1, .int (nI t)), (2, .long d)] := hl
  have hP : va_P (dC, dI) vwCl (wBJ cI cJ h σ) s.heap := hP
  refine lv_aload_n hx hb dX0_writeTell_0 rfl (lv_at hl 0 rfl) ?_
  refine lv_iconst (v := nI 2) hx hb dX0_writeTell_1 (by decide) ?_
  refine lv_bipush (v := nI 9) hx hb dX0_writeTell_2 (by decide) ?_
  refine bj_wi (As := [.int (nI 2), .int (nI 9)]) (rest := []) (n := 2) ⟨hx, hb, hml, hown, htg⟩ (c_writeHead l σ (nI 2) 9 (by omega)) (cwV 2 htg gX0_164 rfl rfl rfl (by decide +kernel) ⟨Nat.le_of_ble_eq_true rfl, Nat.le_of_ble_eq_true rfl⟩) hK hP hD hS hA hl.1 rfl rfl (Nat.le_of_ble_eq_true rfl) dX0_writeTell_4 (Nat.zero_le _) (Nat.zero_le _) (fun H locs hP hD hS => ?_)
  obtain ⟨z1, ez1⟩ : ∃ zq : BJ, zq = wL σ (hd (nI 2) 9) := ⟨_, rfl⟩
  rw [← ez1] at hP hD
  have wz1 : jgWc z1 = jgWc σ + 3 := by rw [ez1, wL_wc]; rfl
  refine lv_istore (lv' := [(4, .int (nI (jgWc σ))), (0, .ref (h 0)), (1, .int (nI t)), (2, .long d)]) hx hb dX0_writeTell_7 hl (by decide) rfl (fun ls hl => ?_)
  refine lv_aload_n hx hb dX0_writeTell_9 rfl (lv_at hl 1 rfl) ?_
  refine lv_iload_n hx hb dX0_writeTell_10 rfl (lv_at hl 2 rfl) ?_
  refine bj_wv (As := [.int (nI t)]) (rest := []) (n := 1) ⟨hx, hb, hml, hown, htg⟩ (c_writeByte l z1 (nI t) (by omega)) (cwV 1 htg gX0_168 rfl rfl rfl (by decide +kernel) ⟨Nat.le_of_ble_eq_true rfl, Nat.le_of_ble_eq_true rfl⟩) hK hP hD hS hA hl.1 rfl rfl (Nat.le_of_ble_eq_true rfl) dX0_writeTell_11 (Nat.zero_le _) (Nat.zero_le _) (fun H locs hP hD hS => ?_)
  obtain ⟨z2, ez2⟩ : ∃ zq : BJ, zq = wB z1 (nI t) := ⟨_, rfl⟩
  rw [← ez2] at hP hD
  have wz2 : jgWc z2 = jgWc σ + 4 := by rw [ez2]; show jgWc _ + 1 = _; omega
  refine lv_aload_n hx hb dX0_writeTell_14 rfl (lv_at hl 1 rfl) ?_
  refine lv_lload_n hx hb dX0_writeTell_15 rfl (lv_at hl 3 rfl) ?_
  refine bj_wv (As := [.long d]) (rest := []) (n := 1) ⟨hx, hb, hml, hown, htg⟩ (c_writeLong l z2 d (by omega)) (cwV 1 htg gX0_174 rfl rfl rfl (by decide +kernel) ⟨Nat.le_of_ble_eq_true rfl, Nat.le_of_ble_eq_true rfl⟩) hK hP hD hS hA hl.1 rfl rfl (Nat.le_of_ble_eq_true rfl) dX0_writeTell_16 (Nat.zero_le _) (Nat.zero_le _) (fun H locs hP hD hS => ?_)
  obtain ⟨z3, ez3⟩ : ∃ zq : BJ, zq = wL z2 (l8 d) := ⟨_, rfl⟩
  rw [← ez3] at hP hD
  have wz3 : jgWc z3 = jgWc σ + 12 := by rw [ez3, wL_wc]; simp [l8]; omega
  refine lv_aload_n hx hb dX0_writeTell_19 rfl (lv_at hl 1 rfl) ?_
  refine lv_iload hx hb dX0_writeTell_20 (lv_at hl 0 rfl) ?_
  refine bj_wv (As := [.int (nI (jgWc σ))]) (rest := []) (n := 1) ⟨hx, hb, hml, hown, htg⟩ (c_writeSum l z3 (jgWc σ) (by omega) (by omega)) (cwV 1 htg gX0_171 rfl rfl rfl (by decide +kernel) ⟨Nat.le_of_ble_eq_true rfl, Nat.le_of_ble_eq_true rfl⟩) hK hP hD hS hA hl.1 rfl rfl (Nat.le_of_ble_eq_true rfl) dX0_writeTell_22 (Nat.zero_le _) (Nat.zero_le _) (fun H locs hP hD hS => ?_)
  obtain ⟨z4, ez4⟩ : ∃ zq : BJ, zq = wB z3 (sm (jgW z3) (jgWc σ) (jgWc z3 - (jgWc σ))) := ⟨_, rfl⟩
  rw [← ez4] at hP hD
  refine lv_iload hx hb dX0_writeTell_25 (lv_at hl 0 rfl) ?_
  have hfin : z4 = wR σ (rTell t d) := by
      have e9 : z3 = wL σ (rTell t d) := by rw [ez3, ez2, ez1, wL_snoc, ← wL_app]; rfl
      rw [ez4, wz3, e9, wR]; congr 2; simp [rTell, hd, l8]
  rw [hfin] at hP hD
  exact W.iret (v := nI (jgWc σ)) hx hb hr (fun t ht hW => ⟨⟨_, (), rfl, rfl, by rw [ht]; exact hP, va_K.moved hW.alike hK, hD⟩, hS.F ht⟩) hS.2.2 dX0_writeTell_27
set_option maxRecDepth 100000 in
set_option maxHeartbeats 4000000 in
theorem c_writeUntell (l : Launch) (σ : BJ) (t : Nat) (hw : jgWc σ + 5 ≤ 700) : wBi l yX0_writeUntell wsX0_writeUntell ({ frames := 2, cells := 0, slots := 0, locals := 45 } : Room) σ [.int (nI t)] (nI (jgWc σ)) (wR σ (rUntell t)) := by
  intro dC dI cI cJ h sz
  refine Met.ofW (cc := cX0_writeUntell) (maxL := 3) (ret := (some .int)) (by decide) rfl ?_
  intro p e s m args below meth c s₁ B hml hv
  obtain ⟨rfl, hsz, hP, hK, hD0⟩ := hv
  have hx := B.exec
  have hb := B.bytes
  have hr := B.returns
  have hts := atoms_spec (ws := wsX0_writeUntell) B.pre
  have hown : s.vm.findClass RX0 = some m.cls := findClass_of_methodNamed B.named
  have hlocks := B.notSynchronized
  subst hsz
  have htg : ∀ w ∈ GW, w.before _ s = true := fun w h => hts w (List.mem_cons_of_mem _ h)
  have hD := hD0.self (sz := s.heap.size)
  generalize hAe : va_A (wBJ cI cJ h σ) s.heap.size = A at hD ⊢
  have hA : ∀ q : Nat, s.heap.size ≤ q → A q := fun q h => by rw [← hAe]; exact Or.inr h
  have hS : va_S A s.heap s.heap [] := va_S.rf
  have hl := lv_entry [.ref (h 0), .int (nI t)] (n := 3) (Nat.le_of_ble_eq_true rfl)
  rw [lg_entry_eq]
  generalize (lg_sl [.ref (h 0), .int (nI t)] ++ List.replicate (3 - (lg_sl [.ref (h 0), .int (nI t)]).length) Slot.unset).toArray = ls at hl ⊢
  have hl : lv_has ls 3 [(0, .ref (h 0)), (1, .int (nI t))] := hl
  have hP : va_P (dC, dI) vwCl (wBJ cI cJ h σ) s.heap := hP
  refine lv_aload_n hx hb dX0_writeUntell_0 rfl (lv_at hl 0 rfl) ?_
  refine lv_iconst (v := nI 3) hx hb dX0_writeUntell_1 (by decide) ?_
  refine lv_iconst (v := nI 1) hx hb dX0_writeUntell_2 (by decide) ?_
  refine bj_wi (As := [.int (nI 3), .int (nI 1)]) (rest := []) (n := 2) ⟨hx, hb, hml, hown, htg⟩ (c_writeHead l σ (nI 3) 1 (by omega)) (cwV 2 htg gX0_164 rfl rfl rfl (by decide +kernel) ⟨Nat.le_of_ble_eq_true rfl, Nat.le_of_ble_eq_true rfl⟩) hK hP hD hS hA hl.1 rfl rfl (Nat.le_of_ble_eq_true rfl) dX0_writeUntell_3 (Nat.zero_le _) (Nat.zero_le _) (fun H locs hP hD hS => ?_)
  obtain ⟨z1, ez1⟩ : ∃ zq : BJ, zq = wL σ (hd (nI 3) 1) := ⟨_, rfl⟩
  rw [← ez1] at hP hD
  have wz1 : jgWc z1 = jgWc σ + 3 := by rw [ez1, wL_wc]; rfl
  refine lv_istore_n (lv' := [(2, .int (nI (jgWc σ))), (0, .ref (h 0)), (1, .int (nI t))]) hx hb dX0_writeUntell_6 rfl hl (by decide) rfl (fun ls hl => ?_)
  refine lv_aload_n hx hb dX0_writeUntell_7 rfl (lv_at hl 1 rfl) ?_
  refine lv_iload_n hx hb dX0_writeUntell_8 rfl (lv_at hl 2 rfl) ?_
  refine bj_wv (As := [.int (nI t)]) (rest := []) (n := 1) ⟨hx, hb, hml, hown, htg⟩ (c_writeByte l z1 (nI t) (by omega)) (cwV 1 htg gX0_168 rfl rfl rfl (by decide +kernel) ⟨Nat.le_of_ble_eq_true rfl, Nat.le_of_ble_eq_true rfl⟩) hK hP hD hS hA hl.1 rfl rfl (Nat.le_of_ble_eq_true rfl) dX0_writeUntell_9 (Nat.zero_le _) (Nat.zero_le _) (fun H locs hP hD hS => ?_)
  obtain ⟨z2, ez2⟩ : ∃ zq : BJ, zq = wB z1 (nI t) := ⟨_, rfl⟩
  rw [← ez2] at hP hD
  have wz2 : jgWc z2 = jgWc σ + 4 := by rw [ez2]; show jgWc _ + 1 = _; omega
  refine lv_aload_n hx hb dX0_writeUntell_12 rfl (lv_at hl 1 rfl) ?_
  refine lv_iload_n hx hb dX0_writeUntell_13 rfl (lv_at hl 0 rfl) ?_
  refine bj_wv (As := [.int (nI (jgWc σ))]) (rest := []) (n := 1) ⟨hx, hb, hml, hown, htg⟩ (c_writeSum l z2 (jgWc σ) (by omega) (by omega)) (cwV 1 htg gX0_171 rfl rfl rfl (by decide +kernel) ⟨Nat.le_of_ble_eq_true rfl, Nat.le_of_ble_eq_true rfl⟩) hK hP hD hS hA hl.1 rfl rfl (Nat.le_of_ble_eq_true rfl) dX0_writeUntell_14 (Nat.zero_le _) (Nat.zero_le _) (fun H locs hP hD hS => ?_)
  obtain ⟨z3, ez3⟩ : ∃ zq : BJ, zq = wB z2 (sm (jgW z2) (jgWc σ) (jgWc z2 - (jgWc σ))) := ⟨_, rfl⟩
  rw [← ez3] at hP hD
  refine lv_iload_n hx hb dX0_writeUntell_17 rfl (lv_at hl 0 rfl) ?_
  have hfin : z3 = wR σ (rUntell t) := by
      have e9 : z2 = wL σ (rUntell t) := by rw [ez2, ez1, wL_snoc]; rfl
      rw [ez3, wz2, e9, wR]; congr 2; simp [rUntell, hd]
  rw [hfin] at hP hD
  exact W.iret (v := nI (jgWc σ)) hx hb hr (fun t ht hW => ⟨⟨_, (), rfl, rfl, by rw [ht]; exact hP, va_K.moved hW.alike hK, hD⟩, hS.F ht⟩) hS.2.2 dX0_writeUntell_18
set_option maxRecDepth 100000 in
set_option maxHeartbeats 4000000 in
theorem c_writeKey (l : Launch) (σ : BJ) (k : Int64) (d : Int64) (hw : jgWc σ + 20 ≤ 700) : wBi l yX0_writeKey wsX0_writeKey ({ frames := 2, cells := 0, slots := 0, locals := 45 } : Room) σ [.long k, .long d] (nI (jgWc σ)) (wR σ (rKey k d)) := by
  intro dC dI cI cJ h sz
  refine Met.ofW (cc := cX0_writeKey) (maxL := 6) (ret := (some .int)) (by decide) rfl ?_
  intro p e s m args below meth c s₁ B hml hv
  obtain ⟨rfl, hsz, hP, hK, hD0⟩ := hv
  have hx := B.exec
  have hb := B.bytes
  have hr := B.returns
  have hts := atoms_spec (ws := wsX0_writeKey) B.pre
  have hown : s.vm.findClass RX0 = some m.cls := findClass_of_methodNamed B.named
  have hlocks := B.notSynchronized
  subst hsz
  have htg : ∀ w ∈ GW, w.before _ s = true := fun w h => hts w (List.mem_cons_of_mem _ h)
  have hD := hD0.self (sz := s.heap.size)
  generalize hAe : va_A (wBJ cI cJ h σ) s.heap.size = A at hD ⊢
  have hA : ∀ q : Nat, s.heap.size ≤ q → A q := fun q h => by rw [← hAe]; exact Or.inr h
  have hS : va_S A s.heap s.heap [] := va_S.rf
  have hl := lv_entry [.ref (h 0), .long k, .long d] (n := 6) (Nat.le_of_ble_eq_true rfl)
  rw [lg_entry_eq]
  generalize (lg_sl [.ref (h 0), .long k, .long d] ++ List.replicate (6 - (lg_sl [.ref (h 0), .long k, .long d]).length) Slot.unset).toArray = ls at hl ⊢
  have hl : lv_has ls 6 [(0, .ref (h 0)), (1, .long k), (3, .long d)] := hl
  have hP : va_P (dC, dI) vwCl (wBJ cI cJ h σ) s.heap := hP
  refine lv_aload_n hx hb dX0_writeKey_0 rfl (lv_at hl 0 rfl) ?_
  refine lv_iconst (v := nI 4) hx hb dX0_writeKey_1 (by decide) ?_
  refine lv_bipush (v := nI 16) hx hb dX0_writeKey_2 (by decide) ?_
  refine bj_wi (As := [.int (nI 4), .int (nI 16)]) (rest := []) (n := 2) ⟨hx, hb, hml, hown, htg⟩ (c_writeHead l σ (nI 4) 16 (by omega)) (cwV 2 htg gX0_164 rfl rfl rfl (by decide +kernel) ⟨Nat.le_of_ble_eq_true rfl, Nat.le_of_ble_eq_true rfl⟩) hK hP hD hS hA hl.1 rfl rfl (Nat.le_of_ble_eq_true rfl) dX0_writeKey_4 (Nat.zero_le _) (Nat.zero_le _) (fun H locs hP hD hS => ?_)
  obtain ⟨z1, ez1⟩ : ∃ zq : BJ, zq = wL σ (hd (nI 4) 16) := ⟨_, rfl⟩
  rw [← ez1] at hP hD
  have wz1 : jgWc z1 = jgWc σ + 3 := by rw [ez1, wL_wc]; rfl
  refine lv_istore (lv' := [(5, .int (nI (jgWc σ))), (0, .ref (h 0)), (1, .long k), (3, .long d)]) hx hb dX0_writeKey_7 hl (by decide) rfl (fun ls hl => ?_)
  refine lv_aload_n hx hb dX0_writeKey_9 rfl (lv_at hl 1 rfl) ?_
  refine lv_lload_n hx hb dX0_writeKey_10 rfl (lv_at hl 2 rfl) ?_
  refine bj_wv (As := [.long k]) (rest := []) (n := 1) ⟨hx, hb, hml, hown, htg⟩ (c_writeLong l z1 k (by omega)) (cwV 1 htg gX0_174 rfl rfl rfl (by decide +kernel) ⟨Nat.le_of_ble_eq_true rfl, Nat.le_of_ble_eq_true rfl⟩) hK hP hD hS hA hl.1 rfl rfl (Nat.le_of_ble_eq_true rfl) dX0_writeKey_11 (Nat.zero_le _) (Nat.zero_le _) (fun H locs hP hD hS => ?_)
  obtain ⟨z2, ez2⟩ : ∃ zq : BJ, zq = wL z1 (l8 k) := ⟨_, rfl⟩
  rw [← ez2] at hP hD
  have wz2 : jgWc z2 = jgWc σ + 11 := by rw [ez2, wL_wc]; simp [l8]; omega
  refine lv_aload_n hx hb dX0_writeKey_14 rfl (lv_at hl 1 rfl) ?_
  refine lv_lload_n hx hb dX0_writeKey_15 rfl (lv_at hl 3 rfl) ?_
  refine bj_wv (As := [.long d]) (rest := []) (n := 1) ⟨hx, hb, hml, hown, htg⟩ (c_writeLong l z2 d (by omega)) (cwV 1 htg gX0_174 rfl rfl rfl (by decide +kernel) ⟨Nat.le_of_ble_eq_true rfl, Nat.le_of_ble_eq_true rfl⟩) hK hP hD hS hA hl.1 rfl rfl (Nat.le_of_ble_eq_true rfl) dX0_writeKey_16 (Nat.zero_le _) (Nat.zero_le _) (fun H locs hP hD hS => ?_)
  obtain ⟨z3, ez3⟩ : ∃ zq : BJ, zq = wL z2 (l8 d) := ⟨_, rfl⟩
  rw [← ez3] at hP hD
  have wz3 : jgWc z3 = jgWc σ + 19 := by rw [ez3, wL_wc]; simp [l8]; omega
  refine lv_aload_n hx hb dX0_writeKey_19 rfl (lv_at hl 1 rfl) ?_
  refine lv_iload hx hb dX0_writeKey_20 (lv_at hl 0 rfl) ?_
  refine bj_wv (As := [.int (nI (jgWc σ))]) (rest := []) (n := 1) ⟨hx, hb, hml, hown, htg⟩ (c_writeSum l z3 (jgWc σ) (by omega) (by omega)) (cwV 1 htg gX0_171 rfl rfl rfl (by decide +kernel) ⟨Nat.le_of_ble_eq_true rfl, Nat.le_of_ble_eq_true rfl⟩) hK hP hD hS hA hl.1 rfl rfl (Nat.le_of_ble_eq_true rfl) dX0_writeKey_22 (Nat.zero_le _) (Nat.zero_le _) (fun H locs hP hD hS => ?_)
  obtain ⟨z4, ez4⟩ : ∃ zq : BJ, zq = wB z3 (sm (jgW z3) (jgWc σ) (jgWc z3 - (jgWc σ))) := ⟨_, rfl⟩
  rw [← ez4] at hP hD
  refine lv_iload hx hb dX0_writeKey_25 (lv_at hl 0 rfl) ?_
  have hfin : z4 = wR σ (rKey k d) := by
      have e9 : z3 = wL σ (rKey k d) := by rw [ez3, ez2, ez1, ← wL_app, ← wL_app]; rfl
      rw [ez4, wz3, e9, wR]; congr 2; simp [rKey, hd, l8]
  rw [hfin] at hP hD
  exact W.iret (v := nI (jgWc σ)) hx hb hr (fun t ht hW => ⟨⟨_, (), rfl, rfl, by rw [ht]; exact hP, va_K.moved hW.alike hK, hD⟩, hS.F ht⟩) hS.2.2 dX0_writeKey_27
set_option maxRecDepth 100000 in
set_option maxHeartbeats 4000000 in
theorem c_writeTyped (l : Launch) (σ : BJ) (ht : jgTc σ ≤ 64) (hw : jgWc σ + jgTc σ + 4 ≤ 700) : wBi l yX0_writeTyped wsX0_writeTyped ({ frames := 2, cells := 0, slots := 0, locals := 45 } : Room) σ [] (nI (jgWc σ)) (wR σ (rTyped σ)) := by
  intro dC dI cI cJ h sz
  refine Met.ofW (cc := cX0_writeTyped) (maxL := 3) (ret := (some .int)) (by decide) rfl ?_
  intro p e s m args below meth c s₁ B hml hv
  obtain ⟨rfl, hsz, hP, hK, hD0⟩ := hv
  have hx := B.exec
  have hb := B.bytes
  have hr := B.returns
  have hts := atoms_spec (ws := wsX0_writeTyped) B.pre
  have hown : s.vm.findClass RX0 = some m.cls := findClass_of_methodNamed B.named
  have hlocks := B.notSynchronized
  subst hsz
  have htg : ∀ w ∈ GW, w.before _ s = true := fun w h => hts w (List.mem_cons_of_mem _ h)
  have hD := hD0.self (sz := s.heap.size)
  generalize hAe : va_A (wBJ cI cJ h σ) s.heap.size = A at hD ⊢
  have hA : ∀ q : Nat, s.heap.size ≤ q → A q := fun q h => by rw [← hAe]; exact Or.inr h
  have hS : va_S A s.heap s.heap [] := va_S.rf
  have hl := lv_entry [.ref (h 0)] (n := 3) (Nat.le_of_ble_eq_true rfl)
  rw [lg_entry_eq]
  generalize (lg_sl [.ref (h 0)] ++ List.replicate (3 - (lg_sl [.ref (h 0)]).length) Slot.unset).toArray = ls at hl ⊢
  have hl : lv_has ls 3 [(0, .ref (h 0))] := hl
  have hP : va_P (dC, dI) vwCl (wBJ cI cJ h σ) s.heap := hP
  refine lv_aload_n hx hb dX0_writeTyped_0 rfl (lv_at hl 0 rfl) ?_
  refine lv_iconst (v := nI 1) hx hb dX0_writeTyped_1 (by decide) ?_
  refine lv_aload_n hx hb dX0_writeTyped_2 rfl (lv_at hl 0 rfl) ?_
  refine va_get (D := (dC, dI)) (ci := 0) (v := .int (nI (jgTc σ))) (C := RX0) (T := TX0) (N := 14) hx hb htg inX0 (fs := fsBJ h σ) hown hK hP 0 rfl rfl 1 (by decide) (htg _ fX0_44) (fun _ h9 => h9) rfl dX0_writeTyped_3 ?_
  refine bj_wi (As := [.int (nI 1), .int (nI (jgTc σ))]) (rest := []) (n := 2) ⟨hx, hb, hml, hown, htg⟩ (c_writeHead l σ (nI 1) (jgTc σ) (by omega)) (cwV 2 htg gX0_164 rfl rfl rfl (by decide +kernel) ⟨Nat.le_of_ble_eq_true rfl, Nat.le_of_ble_eq_true rfl⟩) hK hP hD hS hA hl.1 rfl rfl (Nat.le_of_ble_eq_true rfl) dX0_writeTyped_6 (Nat.zero_le _) (Nat.zero_le _) (fun H locs hP hD hS => ?_)
  obtain ⟨z1, ez1⟩ : ∃ zq : BJ, zq = wL σ (hd (nI 1) (jgTc σ)) := ⟨_, rfl⟩
  rw [← ez1] at hP hD
  refine lv_istore_n (lv' := [(1, .int (nI (jgWc σ))), (0, .ref (h 0))]) hx hb dX0_writeTyped_9 rfl hl (by decide) rfl (fun ls hl => ?_)
  refine lv_iconst (v := nI 0) hx hb dX0_writeTyped_10 (by decide) ?_
  refine lv_istore_n (lv' := [(2, .int (nI 0)), (1, .int (nI (jgWc σ))), (0, .ref (h 0))]) hx hb dX0_writeTyped_11 rfl hl (by decide) rfl (fun ls hl => ?_)
  have loop : ∀ (n i : Nat) (z : BJ), i ≤ jgTc σ → jgTc σ < i + n → z = wL σ (hd (nI 1) (jgTc σ) ++ (List.range i).map (jgT σ)) → ∀ (H : Heap) (locs : List Loc), va_P (dC, dI) vwCl (wBJ cI cJ h z) H → va_D A (wBJ cI cJ h z) → va_S A s.heap H locs → ∀ (ls : Array Slot), lv_has ls 3 [(2, .int (nI i)), (1, .int (nI (jgWc σ))), (0, .ref (h 0))] → W p l e (headSpec wsX0_writeTyped ({ frames := 2, cells := 0, slots := 0, locals := 45 } : Room)).room s m ([.ref (h 0)].toArray) below meth c H locs 0 0 (MQ below (va_Qi (fun (r' : Int32) (_ : Unit) => r' = (nI (jgWc σ))) (fun _ => aBJ dC dI cI cJ h A (wR σ (rTyped σ))) A) ([.ref (h 0)].toArray) s 0 0 A) (F0 m 12 ls []) := by
    intro n
    induction n with
    | zero => intro i z h1 h2; exact absurd h2 (by omega)
    | succ n ih =>
      intro i z hi hin ez H locs hP hD hS ls hl
      refine lv_iload_n hx hb dX0_writeTyped_12 rfl (lv_at hl 0 rfl) ?_
      have hTc : jgTc z = jgTc σ := by rw [ez]; exact wL_Tc _ _
      have hT : jgT z = jgT σ := by rw [ez]; exact wL_T _ _
      refine lv_aload_n hx hb dX0_writeTyped_13 rfl (lv_at hl 2 rfl) ?_
      refine va_get (D := (dC, dI)) (ci := 0) (v := .int (nI (jgTc z))) (C := RX0) (T := TX0) (N := 14) hx hb htg inX0 (fs := fsBJ h z) hown hK hP 0 rfl rfl 1 (by decide) (htg _ fX0_44) (fun _ h9 => h9) rfl dX0_writeTyped_14 ?_
      refine xr_icmp_ge (tgt := 36) hx hb dX0_writeTyped_17 (by decide) (by omega) (by omega) (fun c17 => ?_) (fun c17 => ?_)
      · refine lv_aload_n hx hb dX0_writeTyped_36 rfl (lv_at hl 2 rfl) ?_
        refine lv_iload_n hx hb dX0_writeTyped_37 rfl (lv_at hl 1 rfl) ?_
        refine bj_wv (As := [.int (nI (jgWc σ))]) (rest := []) (n := 1) ⟨hx, hb, hml, hown, htg⟩ (c_writeSum l z (jgWc σ) (by rw [ez, wL_wc]; simp [hd] <;> omega) (by rw [ez, wL_wc]; simp [hd] <;> omega)) (cwV 1 htg gX0_171 rfl rfl rfl (by decide +kernel) ⟨Nat.le_of_ble_eq_true rfl, Nat.le_of_ble_eq_true rfl⟩) hK hP hD hS hA hl.1 rfl rfl (Nat.le_of_ble_eq_true rfl) dX0_writeTyped_38 (Nat.zero_le _) (Nat.zero_le _) (fun H locs hP hD hS => ?_)
        obtain ⟨z2, ez2⟩ : ∃ zq : BJ, zq = wB z (sm (jgW z) (jgWc σ) (jgWc z - (jgWc σ))) := ⟨_, rfl⟩
        rw [← ez2] at hP hD
        refine lv_iload_n hx hb dX0_writeTyped_41 rfl (lv_at hl 1 rfl) ?_
        have hfin : z2 = wR σ (rTyped σ) := by
                   have e9 : z = wL σ (rTyped σ) := by rw [ez, show i = jgTc σ by omega]; rfl
                   rw [ez2, e9, wR, wL_wc]; congr 2; omega
        rw [hfin] at hP hD
        exact W.iret (v := nI (jgWc σ)) hx hb hr (fun t ht hW => ⟨⟨_, (), rfl, rfl, by rw [ht]; exact hP, va_K.moved hW.alike hK, hD⟩, hS.F ht⟩) hS.2.2 dX0_writeTyped_42
      · refine lv_aload_n hx hb dX0_writeTyped_20 rfl (lv_at hl 2 rfl) ?_
        refine lv_aload_n hx hb dX0_writeTyped_21 rfl (lv_at hl 2 rfl) ?_
        refine va_get (D := (dC, dI)) (ci := 0) (v := .ref (h 1)) (C := RX0) (T := TX0) (N := 14) hx hb htg inX0 (fs := fsBJ h z) hown hK hP 0 rfl rfl 0 (by decide) (htg _ fX0_9) (fun _ h9 => h9) rfl dX0_writeTyped_22 ?_
        refine lv_iload_n hx hb dX0_writeTyped_25 rfl (lv_at hl 0 rfl) ?_
        refine xr_iald (f := jgT z) (i := i) hx hb hK hP 1 0 rfl rfl (by omega) (by decide) dX0_writeTyped_26 ?_
        refine bj_wv (As := [.int ((jgT z) i)]) (rest := []) (n := 1) ⟨hx, hb, hml, hown, htg⟩ (c_writeByte l z ((jgT z) i) (by rw [ez, wL_wc]; simp [hd] <;> omega)) (cwV 1 htg gX0_168 rfl rfl rfl (by decide +kernel) ⟨Nat.le_of_ble_eq_true rfl, Nat.le_of_ble_eq_true rfl⟩) hK hP hD hS hA hl.1 rfl rfl (Nat.le_of_ble_eq_true rfl) dX0_writeTyped_27 (Nat.zero_le _) (Nat.zero_le _) (fun H locs hP hD hS => ?_)
        obtain ⟨z3, ez3⟩ : ∃ zq : BJ, zq = wB z ((jgT z) i) := ⟨_, rfl⟩
        rw [← ez3] at hP hD
        refine lv_iinc (v := nI (i + 1)) (lv' := [(2, .int (nI (i + 1))), (1, .int (nI (jgWc σ))), (0, .ref (h 0))]) hx hb dX0_writeTyped_30 hl (k := 0) rfl (nI_add _ 1) (by decide) rfl (fun ls hl => ?_)
        refine lv_goto (tgt := 12) hx hb dX0_writeTyped_33 (by decide) ?_
        exact ih (i + 1) z3 (by omega) (by omega) (by rw [ez3, hT, ez, wL_snoc, List.append_assoc, List.range_succ, List.map_append]; rfl) H locs hP hD hS ls (lv_sub hl [0, 1, 2] rfl)
  exact loop (jgTc σ + 1) 0 z1 (by omega) (by omega) (by rw [ez1, List.range_zero, List.map_nil, List.append_nil]) _ _ hP hD hS ls (lv_sub hl [0, 1, 2] rfl)
