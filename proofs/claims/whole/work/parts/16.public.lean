set_option maxRecDepth 100000 in
set_option maxHeartbeats 4000000 in
theorem c_demandRoom (l : Launch) (σ : BJ) (n : Nat) (hn : jgWc σ + 4 + n ≤ 700) : rBv l yX0_demandRoom wsX0_demandRoom ({ frames := 0, cells := 0, slots := 0, locals := 0 } : Room) σ [.int (nI n)] := by
  intro dC dI cI cJ h sz
  refine Met.ofW (cc := cX0_demandRoom) (maxL := 2) (ret := none) (by decide) rfl ?_
  intro p e s m args below meth c s₁ B hml hv
  obtain ⟨rfl, hsz, hP, hK, hD0⟩ := hv
  have hx := B.exec
  have hb := B.bytes
  have hr := B.returns
  have hts := atoms_spec (ws := wsX0_demandRoom) B.pre
  have hown : s.vm.findClass RX0 = some m.cls := findClass_of_methodNamed B.named
  have hlocks := B.notSynchronized
  subst hsz
  have htg : ∀ w ∈ GW, w.before _ s = true := fun w h => hts w (List.mem_cons_of_mem _ h)
  have hD := hD0
  have hA : ∀ q : Nat, s.heap.size ≤ q → (fun q => s.heap.size ≤ q) q := fun _ h => h
  have hS : va_S (fun q => s.heap.size ≤ q) s.heap s.heap [] := va_S.rf
  have hl := lv_entry [.ref (h 0), .int (nI n)] (n := 2) (Nat.le_of_ble_eq_true rfl)
  rw [lg_entry_eq]
  generalize (lg_sl [.ref (h 0), .int (nI n)] ++ List.replicate (2 - (lg_sl [.ref (h 0), .int (nI n)]).length) Slot.unset).toArray = ls at hl ⊢
  have hl : lv_has ls 2 [(0, .ref (h 0)), (1, .int (nI n))] := hl
  have hP : va_P (dC, dI) vwCl (wBJ cI cJ h σ) s.heap := hP
  refine lv_aload_n hx hb dX0_demandRoom_0 rfl (lv_at hl 0 rfl) ?_
  refine va_get (D := (dC, dI)) (ci := 0) (v := .int (nI (jgWc σ))) (C := RX0) (T := TX0) (N := 14) hx hb htg inX0 (fs := fsBJ h σ) hown hK hP 0 rfl rfl 3 (by decide) (htg _ fX0_124) (fun _ h9 => h9) rfl dX0_demandRoom_1 ?_
  refine lv_iconst (v := nI 4) hx hb dX0_demandRoom_4 (by decide) ?_
  refine xr_iadd hx hb dX0_demandRoom_5 ?_
  refine lv_iload_n hx hb dX0_demandRoom_6 rfl (lv_at hl 1 rfl) ?_
  refine xr_iadd hx hb dX0_demandRoom_7 ?_
  refine lv_sipush (v := nI 700) hx hb dX0_demandRoom_8 (by decide) ?_
  refine xr_icmp_le (tgt := 24) hx hb dX0_demandRoom_11 (by decide) (by omega) (by omega) (fun c11 => ?_) (fun c11 => absurd c11 (by omega))
  exact W.vret hx hb hr (fun t ht hW => ⟨⟨(), rfl, trivial, trivial⟩, hS.F ht⟩) hS.2.2 dX0_demandRoom_24
set_option maxRecDepth 100000 in
set_option maxHeartbeats 4000000 in
theorem c_demandTag (l : Launch) (t : Int32) (ht : isTg t = true) (dC : Nat → ClassId) (dI : Nat → Nat → Nat) (cI : ClassId) (a sz : Nat) : Met l yX0_demandTag wsX0_demandTag ({ frames := 1, cells := 0, slots := 0, locals := 20 } : Room) (va_Pc [.int t] (fun U => U.heap.size = sz)) (va_Qv (fun (_ : Unit) => True) (fun _ _ => True) (fun q => sz ≤ q)) 0 0 (fun q => sz ≤ q) := by
  refine Met.ofW (cc := cX0_demandTag) (maxL := 1) (ret := none) (by decide) rfl ?_
  intro p e s m args below meth c s₁ B hml hv
  obtain ⟨rfl, hsz⟩ := hv
  have hx := B.exec
  have hb := B.bytes
  have hr := B.returns
  have hts := atoms_spec (ws := wsX0_demandTag) B.pre
  have htg : ∀ w ∈ GW, w.before _ s = true := fun w h => hts w (List.mem_cons_of_mem _ h)
  have hown : s.vm.findClass RX0 = some m.cls := findClass_of_methodNamed B.named
  have hlocks := B.notSynchronized
  subst hsz
  have hA : ∀ q : Nat, s.heap.size ≤ q → (fun q => s.heap.size ≤ q) q := fun _ h => h
  have hS : va_S (fun q => s.heap.size ≤ q) s.heap s.heap [] := va_S.rf
  have hl := lv_entry [.int t] (n := 1) (Nat.le_of_ble_eq_true rfl)
  rw [lg_entry_eq]
  generalize (lg_sl [.int t] ++ List.replicate (1 - (lg_sl [.int t]).length) Slot.unset).toArray = ls at hl ⊢
  have hl : lv_has ls 1 [(0, .int t)] := hl
  have hP : va_P (dC, dI) vwCl [] s.heap := fun k q h => by simp at h
  refine lv_iload_n hx hb dX0_demandTag_0 rfl (lv_at hl 0 rfl) ?_
  refine xr_roi (va_runS (As := [.int t]) (rest := []) ⟨hx, hb, hml, hown, htg⟩ (c_isTag l t dC dI cI 0 _) (va_cwS 1 htg gX0_157 rfl rfl rfl (by decide +kernel) ⟨Nat.le_of_ble_eq_true rfl, Nat.le_of_ble_eq_true rfl⟩) ⟨fun a U g mk q => q, fun U hU hW => ⟨rfl, by show U.heap.size = _; rw [hU]⟩⟩ rfl rfl hl.1 rfl (lv_room (Nat.le_of_ble_eq_true rfl)) dX0_demandTag_1 ⟨Nat.zero_le _, Nat.zero_le _⟩) hP hS hA (fun H locs hP hS _ => ?_)
  rw [ht]
  refine xr_ifneB (tgt := 17) hx hb dX0_demandTag_4 (by decide) (fun _ => ?_) (fun c => absurd c (by decide))
  exact W.vret hx hb hr (fun t ht hW => ⟨⟨(), rfl, trivial, trivial⟩, hS.F ht⟩) hS.2.2 dX0_demandTag_17
set_option maxRecDepth 100000 in
set_option maxHeartbeats 4000000 in
theorem c_keepO (l : Launch) (σ : BJ) (i : Nat) (ht : jgTc σ ≤ 64) (hc : jgBc σ ≤ 20) (hf : fnd (jgBD σ) (dg (jgT σ) 0 (jgTc σ)) (jgBc σ) = some i) : rBl l yX0_keep wsX0_keep ({ frames := 3, cells := 0, slots := 0, locals := 72 } : Room) σ [] (dg (jgT σ) 0 (jgTc σ)) := by
  intro dC dI cI cJ h sz
  refine Met.ofW (cc := cX0_keep) (maxL := 3) (ret := (some .long)) (by decide) rfl ?_
  intro p e s m args below meth c s₁ B hml hv
  obtain ⟨rfl, hsz, hP, hK, hD0⟩ := hv
  have hx := B.exec
  have hb := B.bytes
  have hr := B.returns
  have hts := atoms_spec (ws := wsX0_keep) B.pre
  have hown : s.vm.findClass RX0 = some m.cls := findClass_of_methodNamed B.named
  have hlocks := B.notSynchronized
  subst hsz
  have htg : ∀ w ∈ GW, w.before _ s = true := fun w h => hts w (List.mem_cons_of_mem _ h)
  have hD := hD0
  have hA : ∀ q : Nat, s.heap.size ≤ q → (fun q => s.heap.size ≤ q) q := fun _ h => h
  have hS : va_S (fun q => s.heap.size ≤ q) s.heap s.heap [] := va_S.rf
  have hl := lv_entry [.ref (h 0)] (n := 3) (Nat.le_of_ble_eq_true rfl)
  rw [lg_entry_eq]
  generalize (lg_sl [.ref (h 0)] ++ List.replicate (3 - (lg_sl [.ref (h 0)]).length) Slot.unset).toArray = ls at hl ⊢
  have hl : lv_has ls 3 [(0, .ref (h 0))] := hl
  have hP : va_P (dC, dI) vwCl (wBJ cI cJ h σ) s.heap := hP
  refine lv_aload_n hx hb dX0_keep_0 rfl (lv_at hl 0 rfl) ?_
  refine va_get (D := (dC, dI)) (ci := 0) (v := .ref (h 1)) (C := RX0) (T := TX0) (N := 14) hx hb htg inX0 (fs := fsBJ h σ) hown hK hP 0 rfl rfl 0 (by decide) (htg _ fX0_9) (fun _ h9 => h9) rfl dX0_keep_1 ?_
  refine lv_iconst (v := nI 0) hx hb dX0_keep_4 (by decide) ?_
  refine lv_aload_n hx hb dX0_keep_5 rfl (lv_at hl 0 rfl) ?_
  refine va_get (D := (dC, dI)) (ci := 0) (v := .int (nI (jgTc σ))) (C := RX0) (T := TX0) (N := 14) hx hb htg inX0 (fs := fsBJ h σ) hown hK hP 0 rfl rfl 1 (by decide) (htg _ fX0_44) (fun _ h9 => h9) rfl dX0_keep_6 ?_
  refine xr_rol (va_runS (As := [.ref (h 1), .int (nI 0), .int (nI (jgTc σ))]) (rest := []) ⟨hx, hb, hml, hown, htg⟩ (c_digestOf l (jgT σ) 64 0 (jgTc σ) (by omega) (by decide) dC dI cI (h 1) _) (va_cwS 3 htg gX0_60 rfl rfl rfl (by decide +kernel) ⟨Nat.le_of_ble_eq_true rfl, Nat.le_of_ble_eq_true rfl⟩) ⟨fun a U g mk q => ⟨q.1, q.2.1, q.2.2.1, va_K.moved (u := U) (U := U.calling g mk a) (Vm.Alike.refl U.vm) q.2.2.2⟩, fun U hU hW => ⟨rfl, by rw [hU], by rw [hU]; exact hP.sub [1] rfl, va_K.moved hW.alike (hK.sub [0] rfl)⟩⟩ rfl rfl hl.1 rfl (lv_room (Nat.le_of_ble_eq_true rfl)) dX0_keep_9 ⟨Nat.zero_le _, Nat.zero_le _⟩) hP hS hA (fun H locs hP hS _ => ?_)
  refine lv_lstore_n (lv' := [(1, .long (dg (jgT σ) 0 (jgTc σ))), (0, .ref (h 0))]) hx hb dX0_keep_12 rfl hl (by decide) rfl (fun ls hl => ?_)
  refine lv_aload_n hx hb dX0_keep_13 rfl (lv_at hl 1 rfl) ?_
  refine lv_lload_n hx hb dX0_keep_14 rfl (lv_at hl 0 rfl) ?_
  refine bj_ri (As := [.long (dg (jgT σ) 0 (jgTc σ))]) (rest := []) (n := 1) ⟨hx, hb, hml, hown, htg⟩ (c_findBlob l σ (dg (jgT σ) 0 (jgTc σ)) (by omega)) (cwV 1 htg gX0_64 rfl rfl rfl (by decide +kernel) ⟨Nat.le_of_ble_eq_true rfl, Nat.le_of_ble_eq_true rfl⟩) hK hP hD hS hA hl.1 rfl rfl (Nat.le_of_ble_eq_true rfl) dX0_keep_15 (Nat.zero_le _) (Nat.zero_le _) (fun H locs hP hS => ?_)
  have hlt := (fnd_lt hf).1
  rw [hf]
  refine W.eq (g2 := F0 m 18 ls [.int (nI i)]) rfl ?_
  refine lv_iconst (v := -1) hx hb dX0_keep_18 (by decide) ?_
  refine lv_icmp_ne (tgt := 58) hx hb dX0_keep_19 (by decide) (fun _ => ?_) (fun c => absurd c (optI_none (by omega)))
  refine lv_lload_n hx hb dX0_keep_58 rfl (lv_at hl 0 rfl) ?_
  exact W.lret (v := dg (jgT σ) 0 (jgTc σ)) hx hb hr (fun t ht hW => ⟨⟨_, (), rfl, rfl, trivial⟩, hS.F ht⟩) hS.2.2 dX0_keep_59
set_option maxRecDepth 100000 in
set_option maxHeartbeats 4000000 in
theorem c_keepN (l : Launch) (σ : BJ) (ht : jgTc σ ≤ 64) (hb : jgBc σ < 20) (hf : fnd (jgBD σ) (dg (jgT σ) 0 (jgTc σ)) (jgBc σ) = none) (hw : jgWc σ + 4 + jgTc σ ≤ 700) (hr1 : jgWc σ + 2 < 700) (hr2 : jgWc σ + 3 + lenAt (jgW (wR σ (rTyped σ))) (jgWc σ) < 700) (hr3 : byt (jgW (wR σ (rTyped σ))) 700) (hr4 : jgBc (wR σ (rTyped σ)) ≤ 20) (hr5 : jgKc (wR σ (rTyped σ)) ≤ 16) : wBl l yX0_keep wsX0_keep ({ frames := 3, cells := 0, slots := 0, locals := 72 } : Room) σ [] (dg (jgT σ) 0 (jgTc σ)) (ofO (follow (wR σ (rTyped σ)) (jgWc σ)) (wR σ (rTyped σ))) := by
  intro dC dI cI cJ h sz
  refine Met.ofW (cc := cX0_keep) (maxL := 3) (ret := (some .long)) (by decide) rfl ?_
  intro p e s m args below meth c s₁ B hml hv
  obtain ⟨rfl, hsz, hP, hK, hD0⟩ := hv
  have hx := B.exec
  have hb := B.bytes
  have hr := B.returns
  have hts := atoms_spec (ws := wsX0_keep) B.pre
  have hown : s.vm.findClass RX0 = some m.cls := findClass_of_methodNamed B.named
  have hlocks := B.notSynchronized
  subst hsz
  have htg : ∀ w ∈ GW, w.before _ s = true := fun w h => hts w (List.mem_cons_of_mem _ h)
  have hD := hD0.self (sz := s.heap.size)
  generalize hAe : va_A (wBJ cI cJ h σ) s.heap.size = A at hD ⊢
  have hA : ∀ q : Nat, s.heap.size ≤ q → A q := fun q h => by rw [← hAe]; exact Or.inr h
  have hS : va_S A s.heap s.heap [] := va_S.rf
  have hl := lv_entry [.ref (h 0)] (n := 3) (Nat.le_of_ble_eq_true rfl)
  rw [lg_entry_eq]
  generalize (lg_sl [.ref (h 0)] ++ List.replicate (3 - (lg_sl [.ref (h 0)]).length) Slot.unset).toArray = ls at hl ⊢
  have hl : lv_has ls 3 [(0, .ref (h 0))] := hl
  have hP : va_P (dC, dI) vwCl (wBJ cI cJ h σ) s.heap := hP
  refine lv_aload_n hx hb dX0_keep_0 rfl (lv_at hl 0 rfl) ?_
  refine va_get (D := (dC, dI)) (ci := 0) (v := .ref (h 1)) (C := RX0) (T := TX0) (N := 14) hx hb htg inX0 (fs := fsBJ h σ) hown hK hP 0 rfl rfl 0 (by decide) (htg _ fX0_9) (fun _ h9 => h9) rfl dX0_keep_1 ?_
  refine lv_iconst (v := nI 0) hx hb dX0_keep_4 (by decide) ?_
  refine lv_aload_n hx hb dX0_keep_5 rfl (lv_at hl 0 rfl) ?_
  refine va_get (D := (dC, dI)) (ci := 0) (v := .int (nI (jgTc σ))) (C := RX0) (T := TX0) (N := 14) hx hb htg inX0 (fs := fsBJ h σ) hown hK hP 0 rfl rfl 1 (by decide) (htg _ fX0_44) (fun _ h9 => h9) rfl dX0_keep_6 ?_
  refine xr_rol (va_runS (As := [.ref (h 1), .int (nI 0), .int (nI (jgTc σ))]) (rest := []) ⟨hx, hb, hml, hown, htg⟩ (c_digestOf l (jgT σ) 64 0 (jgTc σ) (by omega) (by decide) dC dI cI (h 1) _) (va_cwS 3 htg gX0_60 rfl rfl rfl (by decide +kernel) ⟨Nat.le_of_ble_eq_true rfl, Nat.le_of_ble_eq_true rfl⟩) ⟨fun a U g mk q => ⟨q.1, q.2.1, q.2.2.1, va_K.moved (u := U) (U := U.calling g mk a) (Vm.Alike.refl U.vm) q.2.2.2⟩, fun U hU hW => ⟨rfl, by rw [hU], by rw [hU]; exact hP.sub [1] rfl, va_K.moved hW.alike (hK.sub [0] rfl)⟩⟩ rfl rfl hl.1 rfl (lv_room (Nat.le_of_ble_eq_true rfl)) dX0_keep_9 ⟨Nat.zero_le _, Nat.zero_le _⟩) hP hS hA (fun H locs hP hS _ => ?_)
  refine lv_lstore_n (lv' := [(1, .long (dg (jgT σ) 0 (jgTc σ))), (0, .ref (h 0))]) hx hb dX0_keep_12 rfl hl (by decide) rfl (fun ls hl => ?_)
  refine lv_aload_n hx hb dX0_keep_13 rfl (lv_at hl 1 rfl) ?_
  refine lv_lload_n hx hb dX0_keep_14 rfl (lv_at hl 0 rfl) ?_
  refine bj_ri (As := [.long (dg (jgT σ) 0 (jgTc σ))]) (rest := []) (n := 1) ⟨hx, hb, hml, hown, htg⟩ (c_findBlob l σ (dg (jgT σ) 0 (jgTc σ)) (by omega)) (cwV 1 htg gX0_64 rfl rfl rfl (by decide +kernel) ⟨Nat.le_of_ble_eq_true rfl, Nat.le_of_ble_eq_true rfl⟩) hK hP hD hS hA hl.1 rfl rfl (Nat.le_of_ble_eq_true rfl) dX0_keep_15 (Nat.zero_le _) (Nat.zero_le _) (fun H locs hP hS => ?_)
  rw [hf]
  refine W.eq (g2 := F0 m 18 ls [.int (-1)]) rfl ?_
  refine lv_iconst (v := -1) hx hb dX0_keep_18 (by decide) ?_
  refine lv_icmp_ne (tgt := 58) hx hb dX0_keep_19 (by decide) (fun c => absurd rfl c) (fun _ => ?_)
  refine lv_aload_n hx hb dX0_keep_22 rfl (lv_at hl 1 rfl) ?_
  refine va_get (D := (dC, dI)) (ci := 0) (v := .int (nI (jgBc σ))) (C := RX0) (T := TX0) (N := 14) hx hb htg inX0 (fs := fsBJ h σ) hown hK hP 0 rfl rfl 8 (by decide) (htg _ fX0_68) (fun _ h9 => h9) rfl dX0_keep_23 ?_
  refine lv_bipush (v := nI 20) hx hb dX0_keep_26 (by decide) ?_
  refine xr_icmp_lt (tgt := 41) hx hb dX0_keep_28 (by decide) (by omega) (by omega) (fun c28 => ?_) (fun c28 => absurd c28 (by omega))
  refine lv_aload_n hx hb dX0_keep_41 rfl (lv_at hl 1 rfl) ?_
  refine lv_aload_n hx hb dX0_keep_42 rfl (lv_at hl 1 rfl) ?_
  refine va_get (D := (dC, dI)) (ci := 0) (v := .int (nI (jgTc σ))) (C := RX0) (T := TX0) (N := 14) hx hb htg inX0 (fs := fsBJ h σ) hown hK hP 0 rfl rfl 1 (by decide) (htg _ fX0_44) (fun _ h9 => h9) rfl dX0_keep_43 ?_
  refine bj_rv (As := [.int (nI (jgTc σ))]) (rest := []) (n := 1) ⟨hx, hb, hml, hown, htg⟩ (c_demandRoom l σ (jgTc σ) (by omega)) (cwV 1 htg gX0_73 rfl rfl rfl (by decide +kernel) ⟨Nat.le_of_ble_eq_true rfl, Nat.le_of_ble_eq_true rfl⟩) hK hP hD hS hA hl.1 rfl rfl (Nat.le_of_ble_eq_true rfl) dX0_keep_46 (Nat.zero_le _) (Nat.zero_le _) (fun H locs hP hS => ?_)
  refine lv_aload_n hx hb dX0_keep_49 rfl (lv_at hl 1 rfl) ?_
  refine lv_aload_n hx hb dX0_keep_50 rfl (lv_at hl 1 rfl) ?_
  refine bj_wi (As := []) (rest := [.ref (h 0)]) (n := 0) ⟨hx, hb, hml, hown, htg⟩ (c_writeTyped l σ  (by omega) (by omega)) (cwV 0 htg gX0_77 rfl rfl rfl (by decide +kernel) ⟨Nat.le_of_ble_eq_true rfl, Nat.le_of_ble_eq_true rfl⟩) hK hP hD hS hA hl.1 rfl rfl (Nat.le_of_ble_eq_true rfl) dX0_keep_51 (Nat.zero_le _) (Nat.zero_le _) (fun H locs hP hD hS => ?_)
  obtain ⟨z1, ez1⟩ : ∃ zq : BJ, zq = wR σ (rTyped σ) := ⟨_, rfl⟩
  rw [← ez1] at hP hD
  refine bj_wi (As := [.int (nI (jgWc σ))]) (rest := []) (n := 1) ⟨hx, hb, hml, hown, htg⟩ (c_follow l z1 (jgWc σ) (hr1) (by rw [ez1]; exact hr2) (by rw [ez1]; exact hr3) (by rw [ez1]; exact hr4) (by rw [ez1]; exact hr5)) (cwV 1 htg gX0_81 rfl rfl rfl (by decide +kernel) ⟨Nat.le_of_ble_eq_true rfl, Nat.le_of_ble_eq_true rfl⟩) hK hP hD hS hA hl.1 rfl rfl (Nat.le_of_ble_eq_true rfl) dX0_keep_54 (Nat.zero_le _) (Nat.zero_le _) (fun H locs hP hD hS => ?_)
  obtain ⟨z2, ez2⟩ : ∃ zq : BJ, zq = ofO (follow z1 (jgWc σ)) z1 := ⟨_, rfl⟩
  rw [← ez2] at hP hD
  refine lv_pop hx hb dX0_keep_57 rfl ?_
  refine lv_lload_n hx hb dX0_keep_58 rfl (lv_at hl 0 rfl) ?_
  have hfin : z2 = ofO (follow (wR σ (rTyped σ)) (jgWc σ)) (wR σ (rTyped σ)) := by rw [ez2, ez1]
  rw [hfin] at hP hD
  exact W.lret (v := dg (jgT σ) 0 (jgTc σ)) hx hb hr (fun t ht hW => ⟨⟨_, (), rfl, rfl, by rw [ht]; exact hP, va_K.moved hW.alike hK, hD⟩, hS.F ht⟩) hS.2.2 dX0_keep_59
set_option maxRecDepth 100000 in
set_option maxHeartbeats 4000000 in
theorem c_tellO (l : Launch) (σ : BJ) (t : Nat) (d : Int64) (b : Nat) (ht : t < 8) (hc : jgBc σ ≤ 20) (hf : fnd (jgBD σ) d (jgBc σ) = some b) (hs : jgTB σ t = nI b) : rBv l yX0_tell wsX0_tell ({ frames := 3, cells := 0, slots := 0, locals := 72 } : Room) σ [.int (nI t), .long d] := by
  intro dC dI cI cJ h sz
  refine Met.ofW (cc := cX0_tell) (maxL := 5) (ret := none) (by decide) rfl ?_
  intro p e s m args below meth c s₁ B hml hv
  obtain ⟨rfl, hsz, hP, hK, hD0⟩ := hv
  have hx := B.exec
  have hb := B.bytes
  have hr := B.returns
  have hts := atoms_spec (ws := wsX0_tell) B.pre
  have hown : s.vm.findClass RX0 = some m.cls := findClass_of_methodNamed B.named
  have hlocks := B.notSynchronized
  subst hsz
  have htg : ∀ w ∈ GW, w.before _ s = true := fun w h => hts w (List.mem_cons_of_mem _ h)
  have hD := hD0
  have hA : ∀ q : Nat, s.heap.size ≤ q → (fun q => s.heap.size ≤ q) q := fun _ h => h
  have hS : va_S (fun q => s.heap.size ≤ q) s.heap s.heap [] := va_S.rf
  have hl := lv_entry [.ref (h 0), .int (nI t), .long d] (n := 5) (Nat.le_of_ble_eq_true rfl)
  rw [lg_entry_eq]
  generalize (lg_sl [.ref (h 0), .int (nI t), .long d] ++ List.replicate (5 - (lg_sl [.ref (h 0), .int (nI t), .long d]).length) Slot.unset).toArray = ls at hl ⊢
  have hl : lv_has ls 5 [(0, .ref (h 0)), (1, .int (nI t)), (2, .long d)] := hl
  have hP : va_P (dC, dI) vwCl (wBJ cI cJ h σ) s.heap := hP
  refine lv_iload_n hx hb dX0_tell_0 rfl (lv_at hl 1 rfl) ?_
  refine xr_rov (va_runS (As := [.int (nI t)]) (rest := []) ⟨hx, hb, hml, hown, htg⟩ (c_demandTag l (nI t) (by rw [isTg_nI (by omega)]; exact decide_eq_true ht) dC dI cI 0 _) (va_cwS 1 htg gX0_85 rfl rfl rfl (by decide +kernel) ⟨Nat.le_of_ble_eq_true rfl, Nat.le_of_ble_eq_true rfl⟩) ⟨fun a U g mk q => q, fun U hU hW => ⟨rfl, by show U.heap.size = _; rw [hU]⟩⟩ rfl rfl hl.1 rfl (lv_room (Nat.le_of_ble_eq_true rfl)) dX0_tell_1 ⟨Nat.zero_le _, Nat.zero_le _⟩) hP hS hA (fun H locs hP hS _ => ?_)
  refine lv_aload_n hx hb dX0_tell_4 rfl (lv_at hl 0 rfl) ?_
  refine lv_lload_n hx hb dX0_tell_5 rfl (lv_at hl 2 rfl) ?_
  refine bj_ri (As := [.long d]) (rest := []) (n := 1) ⟨hx, hb, hml, hown, htg⟩ (c_findBlob l σ d (by omega)) (cwV 1 htg gX0_64 rfl rfl rfl (by decide +kernel) ⟨Nat.le_of_ble_eq_true rfl, Nat.le_of_ble_eq_true rfl⟩) hK hP hD hS hA hl.1 rfl rfl (Nat.le_of_ble_eq_true rfl) dX0_tell_6 (Nat.zero_le _) (Nat.zero_le _) (fun H locs hP hS => ?_)
  have hlt := (fnd_lt hf).1
  rw [hf]
  refine W.eq (g2 := F0 m 9 ls [.int (nI b)]) rfl ?_
  refine lv_istore (lv' := [(4, .int (nI b)), (0, .ref (h 0)), (1, .int (nI t)), (2, .long d)]) hx hb dX0_tell_9 hl (by decide) rfl (fun ls hl => ?_)
  refine lv_iload hx hb dX0_tell_11 (lv_at hl 0 rfl) ?_
  refine lv_iconst (v := -1) hx hb dX0_tell_13 (by decide) ?_
  refine lv_icmp_ne (tgt := 27) hx hb dX0_tell_14 (by decide) (fun _ => ?_) (fun c => absurd c (optI_none (by omega)))
  refine lv_aload_n hx hb dX0_tell_27 rfl (lv_at hl 1 rfl) ?_
  refine va_get (D := (dC, dI)) (ci := 0) (v := .ref (h 6)) (C := RX0) (T := TX0) (N := 14) hx hb htg inX0 (fs := fsBJ h σ) hown hK hP 0 rfl rfl 9 (by decide) (htg _ fX0_26) (fun _ h9 => h9) rfl dX0_tell_28 ?_
  refine lv_iload_n hx hb dX0_tell_31 rfl (lv_at hl 2 rfl) ?_
  refine xr_iald (f := jgTB σ) (i := t) hx hb hK hP 6 0 rfl rfl (by omega) (by decide) dX0_tell_32 ?_
  refine lv_iload hx hb dX0_tell_33 (lv_at hl 0 rfl) ?_
  refine lv_icmp_eq (tgt := 55) hx hb dX0_tell_35 (by decide) (fun c35 => ?_) (fun c35 => absurd c35 (by exact fun z => z hs))
  exact W.vret hx hb hr (fun t ht hW => ⟨⟨(), rfl, trivial, trivial⟩, hS.F ht⟩) hS.2.2 dX0_tell_55
set_option maxRecDepth 100000 in
set_option maxHeartbeats 4000000 in
theorem c_tellN (l : Launch) (σ : BJ) (t : Nat) (d : Int64) (b : Nat) (ht : t < 8) (hc : jgBc σ ≤ 20) (hf : fnd (jgBD σ) d (jgBc σ) = some b) (hs : jgTB σ t ≠ nI b) (hw : jgWc σ + 13 ≤ 700) (hr1 : jgWc σ + 2 < 700) (hr2 : jgWc σ + 3 + lenAt (jgW (wR σ (rTell t d))) (jgWc σ) < 700) (hr3 : byt (jgW (wR σ (rTell t d))) 700) (hr4 : jgBc (wR σ (rTell t d)) ≤ 20) (hr5 : jgKc (wR σ (rTell t d)) ≤ 16) : wBv l yX0_tell wsX0_tell ({ frames := 3, cells := 0, slots := 0, locals := 72 } : Room) σ [.int (nI t), .long d] (ofO (follow (wR σ (rTell t d)) (jgWc σ)) (wR σ (rTell t d))) := by
  intro dC dI cI cJ h sz
  refine Met.ofW (cc := cX0_tell) (maxL := 5) (ret := none) (by decide) rfl ?_
  intro p e s m args below meth c s₁ B hml hv
  obtain ⟨rfl, hsz, hP, hK, hD0⟩ := hv
  have hx := B.exec
  have hb := B.bytes
  have hr := B.returns
  have hts := atoms_spec (ws := wsX0_tell) B.pre
  have hown : s.vm.findClass RX0 = some m.cls := findClass_of_methodNamed B.named
  have hlocks := B.notSynchronized
  subst hsz
  have htg : ∀ w ∈ GW, w.before _ s = true := fun w h => hts w (List.mem_cons_of_mem _ h)
  have hD := hD0.self (sz := s.heap.size)
  generalize hAe : va_A (wBJ cI cJ h σ) s.heap.size = A at hD ⊢
  have hA : ∀ q : Nat, s.heap.size ≤ q → A q := fun q h => by rw [← hAe]; exact Or.inr h
  have hS : va_S A s.heap s.heap [] := va_S.rf
  have hl := lv_entry [.ref (h 0), .int (nI t), .long d] (n := 5) (Nat.le_of_ble_eq_true rfl)
  rw [lg_entry_eq]
  generalize (lg_sl [.ref (h 0), .int (nI t), .long d] ++ List.replicate (5 - (lg_sl [.ref (h 0), .int (nI t), .long d]).length) Slot.unset).toArray = ls at hl ⊢
  have hl : lv_has ls 5 [(0, .ref (h 0)), (1, .int (nI t)), (2, .long d)] := hl
  have hP : va_P (dC, dI) vwCl (wBJ cI cJ h σ) s.heap := hP
  refine lv_iload_n hx hb dX0_tell_0 rfl (lv_at hl 1 rfl) ?_
  refine xr_rov (va_runS (As := [.int (nI t)]) (rest := []) ⟨hx, hb, hml, hown, htg⟩ (c_demandTag l (nI t) (by rw [isTg_nI (by omega)]; exact decide_eq_true ht) dC dI cI 0 _) (va_cwS 1 htg gX0_85 rfl rfl rfl (by decide +kernel) ⟨Nat.le_of_ble_eq_true rfl, Nat.le_of_ble_eq_true rfl⟩) ⟨fun a U g mk q => q, fun U hU hW => ⟨rfl, by show U.heap.size = _; rw [hU]⟩⟩ rfl rfl hl.1 rfl (lv_room (Nat.le_of_ble_eq_true rfl)) dX0_tell_1 ⟨Nat.zero_le _, Nat.zero_le _⟩) hP hS hA (fun H locs hP hS _ => ?_)
  refine lv_aload_n hx hb dX0_tell_4 rfl (lv_at hl 0 rfl) ?_
  refine lv_lload_n hx hb dX0_tell_5 rfl (lv_at hl 2 rfl) ?_
  refine bj_ri (As := [.long d]) (rest := []) (n := 1) ⟨hx, hb, hml, hown, htg⟩ (c_findBlob l σ d (by omega)) (cwV 1 htg gX0_64 rfl rfl rfl (by decide +kernel) ⟨Nat.le_of_ble_eq_true rfl, Nat.le_of_ble_eq_true rfl⟩) hK hP hD hS hA hl.1 rfl rfl (Nat.le_of_ble_eq_true rfl) dX0_tell_6 (Nat.zero_le _) (Nat.zero_le _) (fun H locs hP hS => ?_)
  have hlt := (fnd_lt hf).1
  rw [hf]
  refine W.eq (g2 := F0 m 9 ls [.int (nI b)]) rfl ?_
  refine lv_istore (lv' := [(4, .int (nI b)), (0, .ref (h 0)), (1, .int (nI t)), (2, .long d)]) hx hb dX0_tell_9 hl (by decide) rfl (fun ls hl => ?_)
  refine lv_iload hx hb dX0_tell_11 (lv_at hl 0 rfl) ?_
  refine lv_iconst (v := -1) hx hb dX0_tell_13 (by decide) ?_
  refine lv_icmp_ne (tgt := 27) hx hb dX0_tell_14 (by decide) (fun _ => ?_) (fun c => absurd c (optI_none (by omega)))
  refine lv_aload_n hx hb dX0_tell_27 rfl (lv_at hl 1 rfl) ?_
  refine va_get (D := (dC, dI)) (ci := 0) (v := .ref (h 6)) (C := RX0) (T := TX0) (N := 14) hx hb htg inX0 (fs := fsBJ h σ) hown hK hP 0 rfl rfl 9 (by decide) (htg _ fX0_26) (fun _ h9 => h9) rfl dX0_tell_28 ?_
  refine lv_iload_n hx hb dX0_tell_31 rfl (lv_at hl 2 rfl) ?_
  refine xr_iald (f := jgTB σ) (i := t) hx hb hK hP 6 0 rfl rfl (by omega) (by decide) dX0_tell_32 ?_
  refine lv_iload hx hb dX0_tell_33 (lv_at hl 0 rfl) ?_
  refine lv_icmp_eq (tgt := 55) hx hb dX0_tell_35 (by decide) (fun c35 => absurd c35 (by exact hs)) (fun c35 => ?_)
  refine lv_aload_n hx hb dX0_tell_38 rfl (lv_at hl 1 rfl) ?_
  refine lv_bipush (v := nI 9) hx hb dX0_tell_39 (by decide) ?_
  refine bj_rv (As := [.int (nI 9)]) (rest := []) (n := 1) ⟨hx, hb, hml, hown, htg⟩ (c_demandRoom l σ 9 (by omega)) (cwV 1 htg gX0_73 rfl rfl rfl (by decide +kernel) ⟨Nat.le_of_ble_eq_true rfl, Nat.le_of_ble_eq_true rfl⟩) hK hP hD hS hA hl.1 rfl rfl (Nat.le_of_ble_eq_true rfl) dX0_tell_41 (Nat.zero_le _) (Nat.zero_le _) (fun H locs hP hS => ?_)
  refine lv_aload_n hx hb dX0_tell_44 rfl (lv_at hl 1 rfl) ?_
  refine lv_aload_n hx hb dX0_tell_45 rfl (lv_at hl 1 rfl) ?_
  refine lv_iload_n hx hb dX0_tell_46 rfl (lv_at hl 2 rfl) ?_
  refine lv_lload_n hx hb dX0_tell_47 rfl (lv_at hl 3 rfl) ?_
  refine bj_wi (As := [.int (nI t), .long d]) (rest := [.ref (h 0)]) (n := 2) ⟨hx, hb, hml, hown, htg⟩ (c_writeTell l σ t d (by omega)) (cwV 2 htg gX0_93 rfl rfl rfl (by decide +kernel) ⟨Nat.le_of_ble_eq_true rfl, Nat.le_of_ble_eq_true rfl⟩) hK hP hD hS hA hl.1 rfl rfl (Nat.le_of_ble_eq_true rfl) dX0_tell_48 (Nat.zero_le _) (Nat.zero_le _) (fun H locs hP hD hS => ?_)
  obtain ⟨z1, ez1⟩ : ∃ zq : BJ, zq = wR σ (rTell t d) := ⟨_, rfl⟩
  rw [← ez1] at hP hD
  refine bj_wi (As := [.int (nI (jgWc σ))]) (rest := []) (n := 1) ⟨hx, hb, hml, hown, htg⟩ (c_follow l z1 (jgWc σ) (hr1) (by rw [ez1]; exact hr2) (by rw [ez1]; exact hr3) (by rw [ez1]; exact hr4) (by rw [ez1]; exact hr5)) (cwV 1 htg gX0_81 rfl rfl rfl (by decide +kernel) ⟨Nat.le_of_ble_eq_true rfl, Nat.le_of_ble_eq_true rfl⟩) hK hP hD hS hA hl.1 rfl rfl (Nat.le_of_ble_eq_true rfl) dX0_tell_51 (Nat.zero_le _) (Nat.zero_le _) (fun H locs hP hD hS => ?_)
  obtain ⟨z2, ez2⟩ : ∃ zq : BJ, zq = ofO (follow z1 (jgWc σ)) z1 := ⟨_, rfl⟩
  rw [← ez2] at hP hD
  refine lv_pop hx hb dX0_tell_54 rfl ?_
  have hfin : z2 = ofO (follow (wR σ (rTell t d)) (jgWc σ)) (wR σ (rTell t d)) := by rw [ez2, ez1]
  rw [hfin] at hP hD
  exact W.vret hx hb hr (fun t ht hW => ⟨⟨(), rfl, trivial, by rw [ht]; exact hP, va_K.moved hW.alike hK, hD⟩, hS.F ht⟩) hS.2.2 dX0_tell_55
set_option maxRecDepth 100000 in
set_option maxHeartbeats 4000000 in
theorem c_untellN (l : Launch) (σ : BJ) (t : Nat) (ht : t < 8) (hs : jgTB σ t ≠ -1) (hw : jgWc σ + 5 ≤ 700) (hr1 : jgWc σ + 2 < 700) (hr2 : jgWc σ + 3 + lenAt (jgW (wR σ (rUntell t))) (jgWc σ) < 700) (hr3 : byt (jgW (wR σ (rUntell t))) 700) (hr4 : jgBc (wR σ (rUntell t)) ≤ 20) (hr5 : jgKc (wR σ (rUntell t)) ≤ 16) : wBv l yX0_untell wsX0_untell ({ frames := 3, cells := 0, slots := 0, locals := 72 } : Room) σ [.int (nI t)] (ofO (follow (wR σ (rUntell t)) (jgWc σ)) (wR σ (rUntell t))) := by
  intro dC dI cI cJ h sz
  refine Met.ofW (cc := cX0_untell) (maxL := 2) (ret := none) (by decide) rfl ?_
  intro p e s m args below meth c s₁ B hml hv
  obtain ⟨rfl, hsz, hP, hK, hD0⟩ := hv
  have hx := B.exec
  have hb := B.bytes
  have hr := B.returns
  have hts := atoms_spec (ws := wsX0_untell) B.pre
  have hown : s.vm.findClass RX0 = some m.cls := findClass_of_methodNamed B.named
  have hlocks := B.notSynchronized
  subst hsz
  have htg : ∀ w ∈ GW, w.before _ s = true := fun w h => hts w (List.mem_cons_of_mem _ h)
  have hD := hD0.self (sz := s.heap.size)
  generalize hAe : va_A (wBJ cI cJ h σ) s.heap.size = A at hD ⊢
  have hA : ∀ q : Nat, s.heap.size ≤ q → A q := fun q h => by rw [← hAe]; exact Or.inr h
  have hS : va_S A s.heap s.heap [] := va_S.rf
  have hl := lv_entry [.ref (h 0), .int (nI t)] (n := 2) (Nat.le_of_ble_eq_true rfl)
  rw [lg_entry_eq]
  generalize (lg_sl [.ref (h 0), .int (nI t)] ++ List.replicate (2 - (lg_sl [.ref (h 0), .int (nI t)]).length) Slot.unset).toArray = ls at hl ⊢
  have hl : lv_has ls 2 [(0, .ref (h 0)), (1, .int (nI t))] := hl
  have hP : va_P (dC, dI) vwCl (wBJ cI cJ h σ) s.heap := hP
  refine lv_iload_n hx hb dX0_untell_0 rfl (lv_at hl 1 rfl) ?_
  refine xr_rov (va_runS (As := [.int (nI t)]) (rest := []) ⟨hx, hb, hml, hown, htg⟩ (c_demandTag l (nI t) (by rw [isTg_nI (by omega)]; exact decide_eq_true ht) dC dI cI 0 _) (va_cwS 1 htg gX0_85 rfl rfl rfl (by decide +kernel) ⟨Nat.le_of_ble_eq_true rfl, Nat.le_of_ble_eq_true rfl⟩) ⟨fun a U g mk q => q, fun U hU hW => ⟨rfl, by show U.heap.size = _; rw [hU]⟩⟩ rfl rfl hl.1 rfl (lv_room (Nat.le_of_ble_eq_true rfl)) dX0_untell_1 ⟨Nat.zero_le _, Nat.zero_le _⟩) hP hS hA (fun H locs hP hS _ => ?_)
  refine lv_aload_n hx hb dX0_untell_4 rfl (lv_at hl 0 rfl) ?_
  refine va_get (D := (dC, dI)) (ci := 0) (v := .ref (h 6)) (C := RX0) (T := TX0) (N := 14) hx hb htg inX0 (fs := fsBJ h σ) hown hK hP 0 rfl rfl 9 (by decide) (htg _ fX0_26) (fun _ h9 => h9) rfl dX0_untell_5 ?_
  refine lv_iload_n hx hb dX0_untell_8 rfl (lv_at hl 1 rfl) ?_
  refine xr_iald (f := jgTB σ) (i := t) hx hb hK hP 6 0 rfl rfl (by omega) (by decide) dX0_untell_9 ?_
  refine lv_iconst (v := -1) hx hb dX0_untell_10 (by decide) ?_
  refine lv_icmp_ne (tgt := 24) hx hb dX0_untell_11 (by decide) (fun c11 => ?_) (fun c11 => absurd c11 (by exact hs))
  refine lv_aload_n hx hb dX0_untell_24 rfl (lv_at hl 0 rfl) ?_
  refine lv_iconst (v := nI 1) hx hb dX0_untell_25 (by decide) ?_
  refine bj_rv (As := [.int (nI 1)]) (rest := []) (n := 1) ⟨hx, hb, hml, hown, htg⟩ (c_demandRoom l σ 1 (by omega)) (cwV 1 htg gX0_73 rfl rfl rfl (by decide +kernel) ⟨Nat.le_of_ble_eq_true rfl, Nat.le_of_ble_eq_true rfl⟩) hK hP hD hS hA hl.1 rfl rfl (Nat.le_of_ble_eq_true rfl) dX0_untell_26 (Nat.zero_le _) (Nat.zero_le _) (fun H locs hP hS => ?_)
  refine lv_aload_n hx hb dX0_untell_29 rfl (lv_at hl 0 rfl) ?_
  refine lv_aload_n hx hb dX0_untell_30 rfl (lv_at hl 0 rfl) ?_
  refine lv_iload_n hx hb dX0_untell_31 rfl (lv_at hl 1 rfl) ?_
  refine bj_wi (As := [.int (nI t)]) (rest := [.ref (h 0)]) (n := 1) ⟨hx, hb, hml, hown, htg⟩ (c_writeUntell l σ t (by omega)) (cwV 1 htg gX0_99 rfl rfl rfl (by decide +kernel) ⟨Nat.le_of_ble_eq_true rfl, Nat.le_of_ble_eq_true rfl⟩) hK hP hD hS hA hl.1 rfl rfl (Nat.le_of_ble_eq_true rfl) dX0_untell_32 (Nat.zero_le _) (Nat.zero_le _) (fun H locs hP hD hS => ?_)
  obtain ⟨z1, ez1⟩ : ∃ zq : BJ, zq = wR σ (rUntell t) := ⟨_, rfl⟩
  rw [← ez1] at hP hD
  refine bj_wi (As := [.int (nI (jgWc σ))]) (rest := []) (n := 1) ⟨hx, hb, hml, hown, htg⟩ (c_follow l z1 (jgWc σ) (hr1) (by rw [ez1]; exact hr2) (by rw [ez1]; exact hr3) (by rw [ez1]; exact hr4) (by rw [ez1]; exact hr5)) (cwV 1 htg gX0_81 rfl rfl rfl (by decide +kernel) ⟨Nat.le_of_ble_eq_true rfl, Nat.le_of_ble_eq_true rfl⟩) hK hP hD hS hA hl.1 rfl rfl (Nat.le_of_ble_eq_true rfl) dX0_untell_35 (Nat.zero_le _) (Nat.zero_le _) (fun H locs hP hD hS => ?_)
  obtain ⟨z2, ez2⟩ : ∃ zq : BJ, zq = ofO (follow z1 (jgWc σ)) z1 := ⟨_, rfl⟩
  rw [← ez2] at hP hD
  refine lv_pop hx hb dX0_untell_38 rfl ?_
  have hfin : z2 = ofO (follow (wR σ (rUntell t)) (jgWc σ)) (wR σ (rUntell t)) := by rw [ez2, ez1]
  rw [hfin] at hP hD
  exact W.vret hx hb hr (fun t ht hW => ⟨⟨(), rfl, trivial, by rw [ht]; exact hP, va_K.moved hW.alike hK, hD⟩, hS.F ht⟩) hS.2.2 dX0_untell_39
set_option maxRecDepth 100000 in
set_option maxHeartbeats 4000000 in
theorem c_learnO (l : Launch) (σ : BJ) (k : Int64) (d : Int64) (i : Nat) (hc : jgKc σ ≤ 16) (hf : fnd (jgKS σ) k (jgKc σ) = some i) (hs : jgKD σ i = d) : rBv l yX0_learn wsX0_learn ({ frames := 3, cells := 0, slots := 0, locals := 72 } : Room) σ [.long k, .long d] := by
  intro dC dI cI cJ h sz
  refine Met.ofW (cc := cX0_learn) (maxL := 6) (ret := none) (by decide) rfl ?_
  intro p e s m args below meth c s₁ B hml hv
  obtain ⟨rfl, hsz, hP, hK, hD0⟩ := hv
  have hx := B.exec
  have hb := B.bytes
  have hr := B.returns
  have hts := atoms_spec (ws := wsX0_learn) B.pre
  have hown : s.vm.findClass RX0 = some m.cls := findClass_of_methodNamed B.named
  have hlocks := B.notSynchronized
  subst hsz
  have htg : ∀ w ∈ GW, w.before _ s = true := fun w h => hts w (List.mem_cons_of_mem _ h)
  have hD := hD0
  have hA : ∀ q : Nat, s.heap.size ≤ q → (fun q => s.heap.size ≤ q) q := fun _ h => h
  have hS : va_S (fun q => s.heap.size ≤ q) s.heap s.heap [] := va_S.rf
  have hl := lv_entry [.ref (h 0), .long k, .long d] (n := 6) (Nat.le_of_ble_eq_true rfl)
  rw [lg_entry_eq]
  generalize (lg_sl [.ref (h 0), .long k, .long d] ++ List.replicate (6 - (lg_sl [.ref (h 0), .long k, .long d]).length) Slot.unset).toArray = ls at hl ⊢
  have hl : lv_has ls 6 [(0, .ref (h 0)), (1, .long k), (3, .long d)] := hl
  have hP : va_P (dC, dI) vwCl (wBJ cI cJ h σ) s.heap := hP
  refine lv_aload_n hx hb dX0_learn_0 rfl (lv_at hl 0 rfl) ?_
  refine lv_lload_n hx hb dX0_learn_1 rfl (lv_at hl 1 rfl) ?_
  refine bj_ri (As := [.long k]) (rest := []) (n := 1) ⟨hx, hb, hml, hown, htg⟩ (c_findKey l σ k (by omega)) (cwV 1 htg gX0_103 rfl rfl rfl (by decide +kernel) ⟨Nat.le_of_ble_eq_true rfl, Nat.le_of_ble_eq_true rfl⟩) hK hP hD hS hA hl.1 rfl rfl (Nat.le_of_ble_eq_true rfl) dX0_learn_2 (Nat.zero_le _) (Nat.zero_le _) (fun H locs hP hS => ?_)
  have hlt := (fnd_lt hf).1
  rw [hf]
  refine W.eq (g2 := F0 m 5 ls [.int (nI i)]) rfl ?_
  refine lv_istore (lv' := [(5, .int (nI i)), (0, .ref (h 0)), (1, .long k), (3, .long d)]) hx hb dX0_learn_5 hl (by decide) rfl (fun ls hl => ?_)
  refine lv_iload hx hb dX0_learn_7 (lv_at hl 0 rfl) ?_
  refine lv_iconst (v := -1) hx hb dX0_learn_9 (by decide) ?_
  refine lv_icmp_ne (tgt := 32) hx hb dX0_learn_10 (by decide) (fun _ => ?_) (fun c => absurd c (optI_none (by omega)))
  refine lv_iload hx hb dX0_learn_32 (lv_at hl 0 rfl) ?_
  refine lv_iconst (v := -1) hx hb dX0_learn_34 (by decide) ?_
  refine lv_icmp_eq (tgt := 50) hx hb dX0_learn_35 (by decide) (fun c => absurd c (optI_none (by omega))) (fun _ => ?_)
  refine lv_aload_n hx hb dX0_learn_38 rfl (lv_at hl 1 rfl) ?_
  refine va_get (D := (dC, dI)) (ci := 0) (v := .ref (h 8)) (C := RX0) (T := TX0) (N := 14) hx hb htg inX0 (fs := fsBJ h σ) hown hK hP 0 rfl rfl 11 (by decide) (htg _ fX0_38) (fun _ h9 => h9) rfl dX0_learn_39 ?_
  refine lv_iload hx hb dX0_learn_42 (lv_at hl 0 rfl) ?_
  refine xr_lald (f := jgKD σ) (i := i) hx hb hK hP 8 1 rfl rfl (by omega) (by decide) dX0_learn_44 ?_
  refine lv_lload_n hx hb dX0_learn_45 rfl (lv_at hl 3 rfl) ?_
  refine xr_lcmp_eq (tgt := 67) hx hb dX0_learn_46 dX0_learn_47 (by decide) (fun _ => ?_) (fun c => absurd hs c)
  exact W.vret hx hb hr (fun t ht hW => ⟨⟨(), rfl, trivial, trivial⟩, hS.F ht⟩) hS.2.2 dX0_learn_67
set_option maxRecDepth 100000 in
set_option maxHeartbeats 4000000 in
theorem c_learnM (l : Launch) (σ : BJ) (k : Int64) (d : Int64) (i : Nat) (hc : jgKc σ ≤ 16) (hf : fnd (jgKS σ) k (jgKc σ) = some i) (hs : jgKD σ i ≠ d) (hw : jgWc σ + 20 ≤ 700) (hr1 : jgWc σ + 2 < 700) (hr2 : jgWc σ + 3 + lenAt (jgW (wR σ (rKey k d))) (jgWc σ) < 700) (hr3 : byt (jgW (wR σ (rKey k d))) 700) (hr4 : jgBc (wR σ (rKey k d)) ≤ 20) (hr5 : jgKc (wR σ (rKey k d)) ≤ 16) : wBv l yX0_learn wsX0_learn ({ frames := 3, cells := 0, slots := 0, locals := 72 } : Room) σ [.long k, .long d] (ofO (follow (wR σ (rKey k d)) (jgWc σ)) (wR σ (rKey k d))) := by
  intro dC dI cI cJ h sz
  refine Met.ofW (cc := cX0_learn) (maxL := 6) (ret := none) (by decide) rfl ?_
  intro p e s m args below meth c s₁ B hml hv
  obtain ⟨rfl, hsz, hP, hK, hD0⟩ := hv
  have hx := B.exec
  have hb := B.bytes
  have hr := B.returns
  have hts := atoms_spec (ws := wsX0_learn) B.pre
  have hown : s.vm.findClass RX0 = some m.cls := findClass_of_methodNamed B.named
  have hlocks := B.notSynchronized
  subst hsz
  have htg : ∀ w ∈ GW, w.before _ s = true := fun w h => hts w (List.mem_cons_of_mem _ h)
  have hD := hD0.self (sz := s.heap.size)
  generalize hAe : va_A (wBJ cI cJ h σ) s.heap.size = A at hD ⊢
  have hA : ∀ q : Nat, s.heap.size ≤ q → A q := fun q h => by rw [← hAe]; exact Or.inr h
  have hS : va_S A s.heap s.heap [] := va_S.rf
  have hl := lv_entry [.ref (h 0), .long k, .long d] (n := 6) (Nat.le_of_ble_eq_true rfl)
  rw [lg_entry_eq]
  generalize (lg_sl [.ref (h 0), .long k, .long d] ++ List.replicate (6 - (lg_sl [.ref (h 0), .long k, .long d]).length) Slot.unset).toArray = ls at hl ⊢
  have hl : lv_has ls 6 [(0, .ref (h 0)), (1, .long k), (3, .long d)] := hl
  have hP : va_P (dC, dI) vwCl (wBJ cI cJ h σ) s.heap := hP
  refine lv_aload_n hx hb dX0_learn_0 rfl (lv_at hl 0 rfl) ?_
  refine lv_lload_n hx hb dX0_learn_1 rfl (lv_at hl 1 rfl) ?_
  refine bj_ri (As := [.long k]) (rest := []) (n := 1) ⟨hx, hb, hml, hown, htg⟩ (c_findKey l σ k (hc)) (cwV 1 htg gX0_103 rfl rfl rfl (by decide +kernel) ⟨Nat.le_of_ble_eq_true rfl, Nat.le_of_ble_eq_true rfl⟩) hK hP hD hS hA hl.1 rfl rfl (Nat.le_of_ble_eq_true rfl) dX0_learn_2 (Nat.zero_le _) (Nat.zero_le _) (fun H locs hP hS => ?_)
  have hlt := (fnd_lt hf).1
  rw [hf]
  refine W.eq (g2 := F0 m 5 ls [.int (nI i)]) rfl ?_
  refine lv_istore (lv' := [(5, .int (nI i)), (0, .ref (h 0)), (1, .long k), (3, .long d)]) hx hb dX0_learn_5 hl (by decide) rfl (fun ls hl => ?_)
  refine lv_iload hx hb dX0_learn_7 (lv_at hl 0 rfl) ?_
  refine lv_iconst (v := -1) hx hb dX0_learn_9 (by decide) ?_
  refine lv_icmp_ne (tgt := 32) hx hb dX0_learn_10 (by decide) (fun _ => ?_) (fun c => absurd c (optI_none (by omega)))
  refine lv_iload hx hb dX0_learn_32 (lv_at hl 0 rfl) ?_
  refine lv_iconst (v := -1) hx hb dX0_learn_34 (by decide) ?_
  refine lv_icmp_eq (tgt := 50) hx hb dX0_learn_35 (by decide) (fun c => absurd c (optI_none (by omega))) (fun _ => ?_)
  refine lv_aload_n hx hb dX0_learn_38 rfl (lv_at hl 1 rfl) ?_
  refine va_get (D := (dC, dI)) (ci := 0) (v := .ref (h 8)) (C := RX0) (T := TX0) (N := 14) hx hb htg inX0 (fs := fsBJ h σ) hown hK hP 0 rfl rfl 11 (by decide) (htg _ fX0_38) (fun _ h9 => h9) rfl dX0_learn_39 ?_
  refine lv_iload hx hb dX0_learn_42 (lv_at hl 0 rfl) ?_
  refine xr_lald (f := jgKD σ) (i := i) hx hb hK hP 8 1 rfl rfl (by omega) (by decide) dX0_learn_44 ?_
  refine lv_lload_n hx hb dX0_learn_45 rfl (lv_at hl 3 rfl) ?_
  refine xr_lcmp_eq (tgt := 67) hx hb dX0_learn_46 dX0_learn_47 (by decide) (fun c => absurd c hs) (fun _ => ?_)
  refine lv_aload_n hx hb dX0_learn_50 rfl (lv_at hl 1 rfl) ?_
  refine lv_bipush (v := nI 16) hx hb dX0_learn_51 (by decide) ?_
  refine bj_rv (As := [.int (nI 16)]) (rest := []) (n := 1) ⟨hx, hb, hml, hown, htg⟩ (c_demandRoom l σ 16 (by omega)) (cwV 1 htg gX0_73 rfl rfl rfl (by decide +kernel) ⟨Nat.le_of_ble_eq_true rfl, Nat.le_of_ble_eq_true rfl⟩) hK hP hD hS hA hl.1 rfl rfl (Nat.le_of_ble_eq_true rfl) dX0_learn_53 (Nat.zero_le _) (Nat.zero_le _) (fun H locs hP hS => ?_)
  refine lv_aload_n hx hb dX0_learn_56 rfl (lv_at hl 1 rfl) ?_
  refine lv_aload_n hx hb dX0_learn_57 rfl (lv_at hl 1 rfl) ?_
  refine lv_lload_n hx hb dX0_learn_58 rfl (lv_at hl 2 rfl) ?_
  refine lv_lload_n hx hb dX0_learn_59 rfl (lv_at hl 3 rfl) ?_
  refine bj_wi (As := [.long k, .long d]) (rest := [.ref (h 0)]) (n := 2) ⟨hx, hb, hml, hown, htg⟩ (c_writeKey l σ k d (by omega)) (cwV 2 htg gX0_111 rfl rfl rfl (by decide +kernel) ⟨Nat.le_of_ble_eq_true rfl, Nat.le_of_ble_eq_true rfl⟩) hK hP hD hS hA hl.1 rfl rfl (Nat.le_of_ble_eq_true rfl) dX0_learn_60 (Nat.zero_le _) (Nat.zero_le _) (fun H locs hP hD hS => ?_)
  obtain ⟨z1, ez1⟩ : ∃ zq : BJ, zq = wR σ (rKey k d) := ⟨_, rfl⟩
  rw [← ez1] at hP hD
  refine bj_wi (As := [.int (nI (jgWc σ))]) (rest := []) (n := 1) ⟨hx, hb, hml, hown, htg⟩ (c_follow l z1 (jgWc σ) (hr1) (by rw [ez1]; exact hr2) (by rw [ez1]; exact hr3) (by rw [ez1]; exact hr4) (by rw [ez1]; exact hr5)) (cwV 1 htg gX0_81 rfl rfl rfl (by decide +kernel) ⟨Nat.le_of_ble_eq_true rfl, Nat.le_of_ble_eq_true rfl⟩) hK hP hD hS hA hl.1 rfl rfl (Nat.le_of_ble_eq_true rfl) dX0_learn_63 (Nat.zero_le _) (Nat.zero_le _) (fun H locs hP hD hS => ?_)
  obtain ⟨z2, ez2⟩ : ∃ zq : BJ, zq = ofO (follow z1 (jgWc σ)) z1 := ⟨_, rfl⟩
  rw [← ez2] at hP hD
  refine lv_pop hx hb dX0_learn_66 rfl ?_
  have hfin : z2 = ofO (follow (wR σ (rKey k d)) (jgWc σ)) (wR σ (rKey k d)) := by rw [ez2, ez1]
  rw [hfin] at hP hD
  exact W.vret hx hb hr (fun t ht hW => ⟨⟨(), rfl, trivial, by rw [ht]; exact hP, va_K.moved hW.alike hK, hD⟩, hS.F ht⟩) hS.2.2 dX0_learn_67
set_option maxRecDepth 100000 in
set_option maxHeartbeats 4000000 in
theorem c_learnN (l : Launch) (σ : BJ) (k : Int64) (d : Int64) (hc : jgKc σ < 16) (hf : fnd (jgKS σ) k (jgKc σ) = none) (hw : jgWc σ + 20 ≤ 700) (hr1 : jgWc σ + 2 < 700) (hr2 : jgWc σ + 3 + lenAt (jgW (wR σ (rKey k d))) (jgWc σ) < 700) (hr3 : byt (jgW (wR σ (rKey k d))) 700) (hr4 : jgBc (wR σ (rKey k d)) ≤ 20) (hr5 : jgKc (wR σ (rKey k d)) ≤ 16) : wBv l yX0_learn wsX0_learn ({ frames := 3, cells := 0, slots := 0, locals := 72 } : Room) σ [.long k, .long d] (ofO (follow (wR σ (rKey k d)) (jgWc σ)) (wR σ (rKey k d))) := by
  intro dC dI cI cJ h sz
  refine Met.ofW (cc := cX0_learn) (maxL := 6) (ret := none) (by decide) rfl ?_
  intro p e s m args below meth c s₁ B hml hv
  obtain ⟨rfl, hsz, hP, hK, hD0⟩ := hv
  have hx := B.exec
  have hb := B.bytes
  have hr := B.returns
  have hts := atoms_spec (ws := wsX0_learn) B.pre
  have hown : s.vm.findClass RX0 = some m.cls := findClass_of_methodNamed B.named
  have hlocks := B.notSynchronized
  subst hsz
  have htg : ∀ w ∈ GW, w.before _ s = true := fun w h => hts w (List.mem_cons_of_mem _ h)
  have hD := hD0.self (sz := s.heap.size)
  generalize hAe : va_A (wBJ cI cJ h σ) s.heap.size = A at hD ⊢
  have hA : ∀ q : Nat, s.heap.size ≤ q → A q := fun q h => by rw [← hAe]; exact Or.inr h
  have hS : va_S A s.heap s.heap [] := va_S.rf
  have hl := lv_entry [.ref (h 0), .long k, .long d] (n := 6) (Nat.le_of_ble_eq_true rfl)
  rw [lg_entry_eq]
  generalize (lg_sl [.ref (h 0), .long k, .long d] ++ List.replicate (6 - (lg_sl [.ref (h 0), .long k, .long d]).length) Slot.unset).toArray = ls at hl ⊢
  have hl : lv_has ls 6 [(0, .ref (h 0)), (1, .long k), (3, .long d)] := hl
  have hP : va_P (dC, dI) vwCl (wBJ cI cJ h σ) s.heap := hP
  refine lv_aload_n hx hb dX0_learn_0 rfl (lv_at hl 0 rfl) ?_
  refine lv_lload_n hx hb dX0_learn_1 rfl (lv_at hl 1 rfl) ?_
  refine bj_ri (As := [.long k]) (rest := []) (n := 1) ⟨hx, hb, hml, hown, htg⟩ (c_findKey l σ k (by omega)) (cwV 1 htg gX0_103 rfl rfl rfl (by decide +kernel) ⟨Nat.le_of_ble_eq_true rfl, Nat.le_of_ble_eq_true rfl⟩) hK hP hD hS hA hl.1 rfl rfl (Nat.le_of_ble_eq_true rfl) dX0_learn_2 (Nat.zero_le _) (Nat.zero_le _) (fun H locs hP hS => ?_)
  rw [hf]
  refine W.eq (g2 := F0 m 5 ls [.int (-1)]) rfl ?_
  refine lv_istore (lv' := [(5, .int (-1)), (0, .ref (h 0)), (1, .long k), (3, .long d)]) hx hb dX0_learn_5 hl (by decide) rfl (fun ls hl => ?_)
  refine lv_iload hx hb dX0_learn_7 (lv_at hl 0 rfl) ?_
  refine lv_iconst (v := -1) hx hb dX0_learn_9 (by decide) ?_
  refine lv_icmp_ne (tgt := 32) hx hb dX0_learn_10 (by decide) (fun c => absurd rfl c) (fun _ => ?_)
  refine lv_aload_n hx hb dX0_learn_13 rfl (lv_at hl 1 rfl) ?_
  refine va_get (D := (dC, dI)) (ci := 0) (v := .int (nI (jgKc σ))) (C := RX0) (T := TX0) (N := 14) hx hb htg inX0 (fs := fsBJ h σ) hown hK hP 0 rfl rfl 12 (by decide) (htg _ fX0_106) (fun _ h9 => h9) rfl dX0_learn_14 ?_
  refine lv_bipush (v := nI 16) hx hb dX0_learn_17 (by decide) ?_
  refine xr_icmp_lt (tgt := 32) hx hb dX0_learn_19 (by decide) (by omega) (by omega) (fun c19 => ?_) (fun c19 => absurd c19 (by omega))
  refine lv_iload hx hb dX0_learn_32 (lv_at hl 0 rfl) ?_
  refine lv_iconst (v := -1) hx hb dX0_learn_34 (by decide) ?_
  refine lv_icmp_eq (tgt := 50) hx hb dX0_learn_35 (by decide) (fun _ => ?_) (fun c => absurd rfl c)
  refine lv_aload_n hx hb dX0_learn_50 rfl (lv_at hl 1 rfl) ?_
  refine lv_bipush (v := nI 16) hx hb dX0_learn_51 (by decide) ?_
  refine bj_rv (As := [.int (nI 16)]) (rest := []) (n := 1) ⟨hx, hb, hml, hown, htg⟩ (c_demandRoom l σ 16 (by omega)) (cwV 1 htg gX0_73 rfl rfl rfl (by decide +kernel) ⟨Nat.le_of_ble_eq_true rfl, Nat.le_of_ble_eq_true rfl⟩) hK hP hD hS hA hl.1 rfl rfl (Nat.le_of_ble_eq_true rfl) dX0_learn_53 (Nat.zero_le _) (Nat.zero_le _) (fun H locs hP hS => ?_)
  refine lv_aload_n hx hb dX0_learn_56 rfl (lv_at hl 1 rfl) ?_
  refine lv_aload_n hx hb dX0_learn_57 rfl (lv_at hl 1 rfl) ?_
  refine lv_lload_n hx hb dX0_learn_58 rfl (lv_at hl 2 rfl) ?_
  refine lv_lload_n hx hb dX0_learn_59 rfl (lv_at hl 3 rfl) ?_
  refine bj_wi (As := [.long k, .long d]) (rest := [.ref (h 0)]) (n := 2) ⟨hx, hb, hml, hown, htg⟩ (c_writeKey l σ k d (by omega)) (cwV 2 htg gX0_111 rfl rfl rfl (by decide +kernel) ⟨Nat.le_of_ble_eq_true rfl, Nat.le_of_ble_eq_true rfl⟩) hK hP hD hS hA hl.1 rfl rfl (Nat.le_of_ble_eq_true rfl) dX0_learn_60 (Nat.zero_le _) (Nat.zero_le _) (fun H locs hP hD hS => ?_)
  obtain ⟨z1, ez1⟩ : ∃ zq : BJ, zq = wR σ (rKey k d) := ⟨_, rfl⟩
  rw [← ez1] at hP hD
  refine bj_wi (As := [.int (nI (jgWc σ))]) (rest := []) (n := 1) ⟨hx, hb, hml, hown, htg⟩ (c_follow l z1 (jgWc σ) (hr1) (by rw [ez1]; exact hr2) (by rw [ez1]; exact hr3) (by rw [ez1]; exact hr4) (by rw [ez1]; exact hr5)) (cwV 1 htg gX0_81 rfl rfl rfl (by decide +kernel) ⟨Nat.le_of_ble_eq_true rfl, Nat.le_of_ble_eq_true rfl⟩) hK hP hD hS hA hl.1 rfl rfl (Nat.le_of_ble_eq_true rfl) dX0_learn_63 (Nat.zero_le _) (Nat.zero_le _) (fun H locs hP hD hS => ?_)
  obtain ⟨z2, ez2⟩ : ∃ zq : BJ, zq = ofO (follow z1 (jgWc σ)) z1 := ⟨_, rfl⟩
  rw [← ez2] at hP hD
  refine lv_pop hx hb dX0_learn_66 rfl ?_
  have hfin : z2 = ofO (follow (wR σ (rKey k d)) (jgWc σ)) (wR σ (rKey k d)) := by rw [ez2, ez1]
  rw [hfin] at hP hD
  exact W.vret hx hb hr (fun t ht hW => ⟨⟨(), rfl, trivial, by rw [ht]; exact hP, va_K.moved hW.alike hK, hD⟩, hS.F ht⟩) hS.2.2 dX0_learn_67
set_option maxRecDepth 100000 in
set_option maxHeartbeats 4000000 in
theorem c_tagO (l : Launch) (σ : BJ) (t : Nat) (ht : t < 8) (hs : jgTB σ t = -1) : rBl l yX0_tag wsX0_tag ({ frames := 2, cells := 0, slots := 0, locals := 40 } : Room) σ [.int (nI t)] 0 := by
  intro dC dI cI cJ h sz
  refine Met.ofW (cc := cX0_tag) (maxL := 3) (ret := (some .long)) (by decide) rfl ?_
  intro p e s m args below meth c s₁ B hml hv
  obtain ⟨rfl, hsz, hP, hK, hD0⟩ := hv
  have hx := B.exec
  have hb := B.bytes
  have hr := B.returns
  have hts := atoms_spec (ws := wsX0_tag) B.pre
  have hown : s.vm.findClass RX0 = some m.cls := findClass_of_methodNamed B.named
  have hlocks := B.notSynchronized
  subst hsz
  have htg : ∀ w ∈ GW, w.before _ s = true := fun w h => hts w (List.mem_cons_of_mem _ h)
  have hD := hD0
  have hA : ∀ q : Nat, s.heap.size ≤ q → (fun q => s.heap.size ≤ q) q := fun _ h => h
  have hS : va_S (fun q => s.heap.size ≤ q) s.heap s.heap [] := va_S.rf
  have hl := lv_entry [.ref (h 0), .int (nI t)] (n := 3) (Nat.le_of_ble_eq_true rfl)
  rw [lg_entry_eq]
  generalize (lg_sl [.ref (h 0), .int (nI t)] ++ List.replicate (3 - (lg_sl [.ref (h 0), .int (nI t)]).length) Slot.unset).toArray = ls at hl ⊢
  have hl : lv_has ls 3 [(0, .ref (h 0)), (1, .int (nI t))] := hl
  have hP : va_P (dC, dI) vwCl (wBJ cI cJ h σ) s.heap := hP
  refine lv_iload_n hx hb dX0_tag_0 rfl (lv_at hl 1 rfl) ?_
  refine xr_rov (va_runS (As := [.int (nI t)]) (rest := []) ⟨hx, hb, hml, hown, htg⟩ (c_demandTag l (nI t) (by rw [isTg_nI (by omega)]; exact decide_eq_true ht) dC dI cI 0 _) (va_cwS 1 htg gX0_85 rfl rfl rfl (by decide +kernel) ⟨Nat.le_of_ble_eq_true rfl, Nat.le_of_ble_eq_true rfl⟩) ⟨fun a U g mk q => q, fun U hU hW => ⟨rfl, by show U.heap.size = _; rw [hU]⟩⟩ rfl rfl hl.1 rfl (lv_room (Nat.le_of_ble_eq_true rfl)) dX0_tag_1 ⟨Nat.zero_le _, Nat.zero_le _⟩) hP hS hA (fun H locs hP hS _ => ?_)
  refine lv_aload_n hx hb dX0_tag_4 rfl (lv_at hl 0 rfl) ?_
  refine va_get (D := (dC, dI)) (ci := 0) (v := .ref (h 6)) (C := RX0) (T := TX0) (N := 14) hx hb htg inX0 (fs := fsBJ h σ) hown hK hP 0 rfl rfl 9 (by decide) (htg _ fX0_26) (fun _ h9 => h9) rfl dX0_tag_5 ?_
  refine lv_iload_n hx hb dX0_tag_8 rfl (lv_at hl 1 rfl) ?_
  refine xr_iald (f := jgTB σ) (i := t) hx hb hK hP 6 0 rfl rfl (by omega) (by decide) dX0_tag_9 ?_
  refine W.eq (g2 := F0 m 10 ls [.int (-1)]) (by rw [hs]) ?_
  refine lv_istore_n (lv' := [(2, .int (-1)), (0, .ref (h 0)), (1, .int (nI t))]) hx hb dX0_tag_10 rfl hl (by decide) rfl (fun ls hl => ?_)
  refine lv_iload_n hx hb dX0_tag_11 rfl (lv_at hl 0 rfl) ?_
  refine lv_iconst (v := -1) hx hb dX0_tag_12 (by decide) ?_
  refine lv_icmp_ne (tgt := 20) hx hb dX0_tag_13 (by decide) (fun c => absurd rfl c) (fun _ => ?_)
  refine lv_lconst (v := 0) hx hb dX0_tag_16 (by decide) ?_
  refine lv_goto (tgt := 26) hx hb dX0_tag_17 (by decide) ?_
  exact W.lret (v := 0) hx hb hr (fun t ht hW => ⟨⟨_, (), rfl, rfl, trivial⟩, hS.F ht⟩) hS.2.2 dX0_tag_26
set_option maxRecDepth 100000 in
set_option maxHeartbeats 4000000 in
theorem c_tagN (l : Launch) (σ : BJ) (t : Nat) (b : Nat) (ht : t < 8) (hs : jgTB σ t = nI b) (hb9 : b < 20) : rBl l yX0_tag wsX0_tag ({ frames := 2, cells := 0, slots := 0, locals := 40 } : Room) σ [.int (nI t)] (jgBD σ b) := by
  intro dC dI cI cJ h sz
  refine Met.ofW (cc := cX0_tag) (maxL := 3) (ret := (some .long)) (by decide) rfl ?_
  intro p e s m args below meth c s₁ B hml hv
  obtain ⟨rfl, hsz, hP, hK, hD0⟩ := hv
  have hx := B.exec
  have hb := B.bytes
  have hr := B.returns
  have hts := atoms_spec (ws := wsX0_tag) B.pre
  have hown : s.vm.findClass RX0 = some m.cls := findClass_of_methodNamed B.named
  have hlocks := B.notSynchronized
  subst hsz
  have htg : ∀ w ∈ GW, w.before _ s = true := fun w h => hts w (List.mem_cons_of_mem _ h)
  have hD := hD0
  have hA : ∀ q : Nat, s.heap.size ≤ q → (fun q => s.heap.size ≤ q) q := fun _ h => h
  have hS : va_S (fun q => s.heap.size ≤ q) s.heap s.heap [] := va_S.rf
  have hl := lv_entry [.ref (h 0), .int (nI t)] (n := 3) (Nat.le_of_ble_eq_true rfl)
  rw [lg_entry_eq]
  generalize (lg_sl [.ref (h 0), .int (nI t)] ++ List.replicate (3 - (lg_sl [.ref (h 0), .int (nI t)]).length) Slot.unset).toArray = ls at hl ⊢
  have hl : lv_has ls 3 [(0, .ref (h 0)), (1, .int (nI t))] := hl
  have hP : va_P (dC, dI) vwCl (wBJ cI cJ h σ) s.heap := hP
  refine lv_iload_n hx hb dX0_tag_0 rfl (lv_at hl 1 rfl) ?_
  refine xr_rov (va_runS (As := [.int (nI t)]) (rest := []) ⟨hx, hb, hml, hown, htg⟩ (c_demandTag l (nI t) (by rw [isTg_nI (by omega)]; exact decide_eq_true ht) dC dI cI 0 _) (va_cwS 1 htg gX0_85 rfl rfl rfl (by decide +kernel) ⟨Nat.le_of_ble_eq_true rfl, Nat.le_of_ble_eq_true rfl⟩) ⟨fun a U g mk q => q, fun U hU hW => ⟨rfl, by show U.heap.size = _; rw [hU]⟩⟩ rfl rfl hl.1 rfl (lv_room (Nat.le_of_ble_eq_true rfl)) dX0_tag_1 ⟨Nat.zero_le _, Nat.zero_le _⟩) hP hS hA (fun H locs hP hS _ => ?_)
  refine lv_aload_n hx hb dX0_tag_4 rfl (lv_at hl 0 rfl) ?_
  refine va_get (D := (dC, dI)) (ci := 0) (v := .ref (h 6)) (C := RX0) (T := TX0) (N := 14) hx hb htg inX0 (fs := fsBJ h σ) hown hK hP 0 rfl rfl 9 (by decide) (htg _ fX0_26) (fun _ h9 => h9) rfl dX0_tag_5 ?_
  refine lv_iload_n hx hb dX0_tag_8 rfl (lv_at hl 1 rfl) ?_
  refine xr_iald (f := jgTB σ) (i := t) hx hb hK hP 6 0 rfl rfl (by omega) (by decide) dX0_tag_9 ?_
  refine W.eq (g2 := F0 m 10 ls [.int (nI b)]) (by rw [hs]) ?_
  refine lv_istore_n (lv' := [(2, .int (nI b)), (0, .ref (h 0)), (1, .int (nI t))]) hx hb dX0_tag_10 rfl hl (by decide) rfl (fun ls hl => ?_)
  refine lv_iload_n hx hb dX0_tag_11 rfl (lv_at hl 0 rfl) ?_
  refine lv_iconst (v := -1) hx hb dX0_tag_12 (by decide) ?_
  refine lv_icmp_ne (tgt := 20) hx hb dX0_tag_13 (by decide) (fun _ => ?_) (fun c => absurd c (optI_none (by omega)))
  refine lv_aload_n hx hb dX0_tag_20 rfl (lv_at hl 1 rfl) ?_
  refine va_get (D := (dC, dI)) (ci := 0) (v := .ref (h 3)) (C := RX0) (T := TX0) (N := 14) hx hb htg inX0 (fs := fsBJ h σ) hown hK hP 0 rfl rfl 5 (by decide) (htg _ fX0_16) (fun _ h9 => h9) rfl dX0_tag_21 ?_
  refine lv_iload_n hx hb dX0_tag_24 rfl (lv_at hl 0 rfl) ?_
  refine xr_lald (f := jgBD σ) (i := b) hx hb hK hP 3 1 rfl rfl (by omega) (by decide) dX0_tag_25 ?_
  exact W.lret (v := (jgBD σ) b) hx hb hr (fun t ht hW => ⟨⟨_, (), rfl, rfl, trivial⟩, hS.F ht⟩) hS.2.2 dX0_tag_26
set_option maxRecDepth 100000 in
set_option maxHeartbeats 4000000 in
theorem c_count0 (l : Launch) (σ : BJ) : rBi l yX0_count wsX0_count ({ frames := 0, cells := 0, slots := 0, locals := 0 } : Room) σ [.int (nI 0)] (nI (jgBc σ)) := by
  intro dC dI cI cJ h sz
  refine Met.ofW (cc := cX0_count) (maxL := 2) (ret := (some .int)) (by decide) rfl ?_
  intro p e s m args below meth c s₁ B hml hv
  obtain ⟨rfl, hsz, hP, hK, hD0⟩ := hv
  have hx := B.exec
  have hb := B.bytes
  have hr := B.returns
  have hts := atoms_spec (ws := wsX0_count) B.pre
  have hown : s.vm.findClass RX0 = some m.cls := findClass_of_methodNamed B.named
  have hlocks := B.notSynchronized
  subst hsz
  have htg : ∀ w ∈ GW, w.before _ s = true := fun w h => hts w (List.mem_cons_of_mem _ h)
  have hD := hD0
  have hA : ∀ q : Nat, s.heap.size ≤ q → (fun q => s.heap.size ≤ q) q := fun _ h => h
  have hS : va_S (fun q => s.heap.size ≤ q) s.heap s.heap [] := va_S.rf
  have hl := lv_entry [.ref (h 0), .int (nI 0)] (n := 2) (Nat.le_of_ble_eq_true rfl)
  rw [lg_entry_eq]
  generalize (lg_sl [.ref (h 0), .int (nI 0)] ++ List.replicate (2 - (lg_sl [.ref (h 0), .int (nI 0)]).length) Slot.unset).toArray = ls at hl ⊢
  have hl : lv_has ls 2 [(0, .ref (h 0)), (1, .int (nI 0))] := hl
  have hP : va_P (dC, dI) vwCl (wBJ cI cJ h σ) s.heap := hP
  refine lv_iload_n hx hb dX0_count_0 rfl (lv_at hl 1 rfl) ?_
  refine lv_tableIn (tgt := 32) (off := 31) hx hb dX0_count_1 (by decide) (by decide) (by decide) (by decide) ?_
  refine lv_aload_n hx hb dX0_count_32 rfl (lv_at hl 0 rfl) ?_
  refine va_get (D := (dC, dI)) (ci := 0) (v := .int (nI (jgBc σ))) (C := RX0) (T := TX0) (N := 14) hx hb htg inX0 (fs := fsBJ h σ) hown hK hP 0 rfl rfl 8 (by decide) (htg _ fX0_68) (fun _ h9 => h9) rfl dX0_count_33 ?_
  exact W.iret (v := nI (jgBc σ)) hx hb hr (fun t ht hW => ⟨⟨_, (), rfl, rfl, trivial⟩, hS.F ht⟩) hS.2.2 dX0_count_36
set_option maxRecDepth 100000 in
set_option maxHeartbeats 4000000 in
theorem c_count1 (l : Launch) (σ : BJ) : rBi l yX0_count wsX0_count ({ frames := 0, cells := 0, slots := 0, locals := 0 } : Room) σ [.int (nI 1)] (nI (jgKc σ)) := by
  intro dC dI cI cJ h sz
  refine Met.ofW (cc := cX0_count) (maxL := 2) (ret := (some .int)) (by decide) rfl ?_
  intro p e s m args below meth c s₁ B hml hv
  obtain ⟨rfl, hsz, hP, hK, hD0⟩ := hv
  have hx := B.exec
  have hb := B.bytes
  have hr := B.returns
  have hts := atoms_spec (ws := wsX0_count) B.pre
  have hown : s.vm.findClass RX0 = some m.cls := findClass_of_methodNamed B.named
  have hlocks := B.notSynchronized
  subst hsz
  have htg : ∀ w ∈ GW, w.before _ s = true := fun w h => hts w (List.mem_cons_of_mem _ h)
  have hD := hD0
  have hA : ∀ q : Nat, s.heap.size ≤ q → (fun q => s.heap.size ≤ q) q := fun _ h => h
  have hS : va_S (fun q => s.heap.size ≤ q) s.heap s.heap [] := va_S.rf
  have hl := lv_entry [.ref (h 0), .int (nI 1)] (n := 2) (Nat.le_of_ble_eq_true rfl)
  rw [lg_entry_eq]
  generalize (lg_sl [.ref (h 0), .int (nI 1)] ++ List.replicate (2 - (lg_sl [.ref (h 0), .int (nI 1)]).length) Slot.unset).toArray = ls at hl ⊢
  have hl : lv_has ls 2 [(0, .ref (h 0)), (1, .int (nI 1))] := hl
  have hP : va_P (dC, dI) vwCl (wBJ cI cJ h σ) s.heap := hP
  refine lv_iload_n hx hb dX0_count_0 rfl (lv_at hl 1 rfl) ?_
  refine lv_tableIn (tgt := 37) (off := 36) hx hb dX0_count_1 (by decide) (by decide) (by decide) (by decide) ?_
  refine lv_aload_n hx hb dX0_count_37 rfl (lv_at hl 0 rfl) ?_
  refine va_get (D := (dC, dI)) (ci := 0) (v := .int (nI (jgKc σ))) (C := RX0) (T := TX0) (N := 14) hx hb htg inX0 (fs := fsBJ h σ) hown hK hP 0 rfl rfl 12 (by decide) (htg _ fX0_106) (fun _ h9 => h9) rfl dX0_count_38 ?_
  exact W.iret (v := nI (jgKc σ)) hx hb hr (fun t ht hW => ⟨⟨_, (), rfl, rfl, trivial⟩, hS.F ht⟩) hS.2.2 dX0_count_41
set_option maxRecDepth 100000 in
set_option maxHeartbeats 4000000 in
theorem c_count2 (l : Launch) (σ : BJ) : rBi l yX0_count wsX0_count ({ frames := 0, cells := 0, slots := 0, locals := 0 } : Room) σ [.int (nI 2)] (nI (jgWc σ)) := by
  intro dC dI cI cJ h sz
  refine Met.ofW (cc := cX0_count) (maxL := 2) (ret := (some .int)) (by decide) rfl ?_
  intro p e s m args below meth c s₁ B hml hv
  obtain ⟨rfl, hsz, hP, hK, hD0⟩ := hv
  have hx := B.exec
  have hb := B.bytes
  have hr := B.returns
  have hts := atoms_spec (ws := wsX0_count) B.pre
  have hown : s.vm.findClass RX0 = some m.cls := findClass_of_methodNamed B.named
  have hlocks := B.notSynchronized
  subst hsz
  have htg : ∀ w ∈ GW, w.before _ s = true := fun w h => hts w (List.mem_cons_of_mem _ h)
  have hD := hD0
  have hA : ∀ q : Nat, s.heap.size ≤ q → (fun q => s.heap.size ≤ q) q := fun _ h => h
  have hS : va_S (fun q => s.heap.size ≤ q) s.heap s.heap [] := va_S.rf
  have hl := lv_entry [.ref (h 0), .int (nI 2)] (n := 2) (Nat.le_of_ble_eq_true rfl)
  rw [lg_entry_eq]
  generalize (lg_sl [.ref (h 0), .int (nI 2)] ++ List.replicate (2 - (lg_sl [.ref (h 0), .int (nI 2)]).length) Slot.unset).toArray = ls at hl ⊢
  have hl : lv_has ls 2 [(0, .ref (h 0)), (1, .int (nI 2))] := hl
  have hP : va_P (dC, dI) vwCl (wBJ cI cJ h σ) s.heap := hP
  refine lv_iload_n hx hb dX0_count_0 rfl (lv_at hl 1 rfl) ?_
  refine lv_tableIn (tgt := 42) (off := 41) hx hb dX0_count_1 (by decide) (by decide) (by decide) (by decide) ?_
  refine lv_aload_n hx hb dX0_count_42 rfl (lv_at hl 0 rfl) ?_
  refine va_get (D := (dC, dI)) (ci := 0) (v := .int (nI (jgWc σ))) (C := RX0) (T := TX0) (N := 14) hx hb htg inX0 (fs := fsBJ h σ) hown hK hP 0 rfl rfl 3 (by decide) (htg _ fX0_124) (fun _ h9 => h9) rfl dX0_count_43 ?_
  exact W.iret (v := nI (jgWc σ)) hx hb hr (fun t ht hW => ⟨⟨_, (), rfl, rfl, trivial⟩, hS.F ht⟩) hS.2.2 dX0_count_46
set_option maxRecDepth 100000 in
set_option maxHeartbeats 4000000 in
theorem c_count3 (l : Launch) (σ : BJ) : rBi l yX0_count wsX0_count ({ frames := 0, cells := 0, slots := 0, locals := 0 } : Room) σ [.int (nI 3)] (nI (jgSc σ)) := by
  intro dC dI cI cJ h sz
  refine Met.ofW (cc := cX0_count) (maxL := 2) (ret := (some .int)) (by decide) rfl ?_
  intro p e s m args below meth c s₁ B hml hv
  obtain ⟨rfl, hsz, hP, hK, hD0⟩ := hv
  have hx := B.exec
  have hb := B.bytes
  have hr := B.returns
  have hts := atoms_spec (ws := wsX0_count) B.pre
  have hown : s.vm.findClass RX0 = some m.cls := findClass_of_methodNamed B.named
  have hlocks := B.notSynchronized
  subst hsz
  have htg : ∀ w ∈ GW, w.before _ s = true := fun w h => hts w (List.mem_cons_of_mem _ h)
  have hD := hD0
  have hA : ∀ q : Nat, s.heap.size ≤ q → (fun q => s.heap.size ≤ q) q := fun _ h => h
  have hS : va_S (fun q => s.heap.size ≤ q) s.heap s.heap [] := va_S.rf
  have hl := lv_entry [.ref (h 0), .int (nI 3)] (n := 2) (Nat.le_of_ble_eq_true rfl)
  rw [lg_entry_eq]
  generalize (lg_sl [.ref (h 0), .int (nI 3)] ++ List.replicate (2 - (lg_sl [.ref (h 0), .int (nI 3)]).length) Slot.unset).toArray = ls at hl ⊢
  have hl : lv_has ls 2 [(0, .ref (h 0)), (1, .int (nI 3))] := hl
  have hP : va_P (dC, dI) vwCl (wBJ cI cJ h σ) s.heap := hP
  refine lv_iload_n hx hb dX0_count_0 rfl (lv_at hl 1 rfl) ?_
  refine lv_tableIn (tgt := 47) (off := 46) hx hb dX0_count_1 (by decide) (by decide) (by decide) (by decide) ?_
  refine lv_aload_n hx hb dX0_count_47 rfl (lv_at hl 0 rfl) ?_
  refine va_get (D := (dC, dI)) (ci := 0) (v := .int (nI (jgSc σ))) (C := RX0) (T := TX0) (N := 14) hx hb htg inX0 (fs := fsBJ h σ) hown hK hP 0 rfl rfl 4 (by decide) (htg _ fX0_127) (fun _ h9 => h9) rfl dX0_count_48 ?_
  exact W.iret (v := nI (jgSc σ)) hx hb hr (fun t ht hW => ⟨⟨_, (), rfl, rfl, trivial⟩, hS.F ht⟩) hS.2.2 dX0_count_51
set_option maxRecDepth 100000 in
set_option maxHeartbeats 4000000 in
theorem c_crashO (l : Launch) (σ : BJ) (n : Nat) (sp : Int32) (hn : n ≤ jgWc σ - jgSc σ) (hsc : jgSc σ ≤ jgWc σ) (hw : jgWc σ ≤ 700) (hby : byt (jgW σ) 700) (hno : sp < 0 ∨ nI n ≤ sp) : wBi l yX0_crash wsX0_crash ({ frames := 4, cells := 0, slots := 0, locals := 95 } : Room) σ [.int (nI n), .int sp] (nI (jgWc (restore (juPD (juWc σ (jgSc σ + n)) (flJ (jgPD σ) 0 4))))) (restore (juPD (juWc σ (jgSc σ + n)) (flJ (jgPD σ) 0 4))) := by
  intro dC dI cI cJ h sz
  refine Met.ofW (cc := cX0_crash) (maxL := 3) (ret := (some .int)) (by decide) rfl ?_
  intro p e s m args below meth c s₁ B hml hv
  obtain ⟨rfl, hsz, hP, hK, hD0⟩ := hv
  have hx := B.exec
  have hb := B.bytes
  have hr := B.returns
  have hts := atoms_spec (ws := wsX0_crash) B.pre
  have hown : s.vm.findClass RX0 = some m.cls := findClass_of_methodNamed B.named
  have hlocks := B.notSynchronized
  subst hsz
  have htg : ∀ w ∈ GW, w.before _ s = true := fun w h => hts w (List.mem_cons_of_mem _ h)
  have hD := hD0.self (sz := s.heap.size)
  generalize hAe : va_A (wBJ cI cJ h σ) s.heap.size = A at hD ⊢
  have hA : ∀ q : Nat, s.heap.size ≤ q → A q := fun q h => by rw [← hAe]; exact Or.inr h
  have hS : va_S A s.heap s.heap [] := va_S.rf
  have hl := lv_entry [.ref (h 0), .int (nI n), .int sp] (n := 3) (Nat.le_of_ble_eq_true rfl)
  rw [lg_entry_eq]
  generalize (lg_sl [.ref (h 0), .int (nI n), .int sp] ++ List.replicate (3 - (lg_sl [.ref (h 0), .int (nI n), .int sp]).length) Slot.unset).toArray = ls at hl ⊢
  have hl : lv_has ls 3 [(0, .ref (h 0)), (1, .int (nI n)), (2, .int sp)] := hl
  have hP : va_P (dC, dI) vwCl (wBJ cI cJ h σ) s.heap := hP
  refine lv_iload_n hx hb dX0_crash_0 rfl (lv_at hl 1 rfl) ?_
  refine lv_if_lt (tgt := 17) hx hb dX0_crash_1 (by decide) (fun c1 => absurd c1 (by exact nI_pos (by omega))) (fun c1 => ?_)
  refine lv_iload_n hx hb dX0_crash_4 rfl (lv_at hl 1 rfl) ?_
  refine lv_aload_n hx hb dX0_crash_5 rfl (lv_at hl 0 rfl) ?_
  refine va_get (D := (dC, dI)) (ci := 0) (v := .int (nI (jgWc σ))) (C := RX0) (T := TX0) (N := 14) hx hb htg inX0 (fs := fsBJ h σ) hown hK hP 0 rfl rfl 3 (by decide) (htg _ fX0_124) (fun _ h9 => h9) rfl dX0_crash_6 ?_
  refine lv_aload_n hx hb dX0_crash_9 rfl (lv_at hl 0 rfl) ?_
  refine va_get (D := (dC, dI)) (ci := 0) (v := .int (nI (jgSc σ))) (C := RX0) (T := TX0) (N := 14) hx hb htg inX0 (fs := fsBJ h σ) hown hK hP 0 rfl rfl 4 (by decide) (htg _ fX0_127) (fun _ h9 => h9) rfl dX0_crash_10 ?_
  refine xr_isub hx hb (by omega) dX0_crash_13 ?_
  refine xr_icmp_le (tgt := 27) hx hb dX0_crash_14 (by decide) (by omega) (by omega) (fun c14 => ?_) (fun c14 => absurd c14 (by omega))
  refine lv_iload_n hx hb dX0_crash_27 rfl (lv_at hl 2 rfl) ?_
  refine lv_if_lt (tgt := 53) hx hb dX0_crash_28 (by decide) (fun c28 => ?_) (fun c28 => ?_)
  · refine lv_aload_n hx hb dX0_crash_53 rfl (lv_at hl 0 rfl) ?_
    refine lv_aload_n hx hb dX0_crash_54 rfl (lv_at hl 0 rfl) ?_
    refine va_get (D := (dC, dI)) (ci := 0) (v := .int (nI (jgSc σ))) (C := RX0) (T := TX0) (N := 14) hx hb htg inX0 (fs := fsBJ h σ) hown hK hP 0 rfl rfl 4 (by decide) (htg _ fX0_127) (fun _ h9 => h9) rfl dX0_crash_55 ?_
    refine lv_iload_n hx hb dX0_crash_58 rfl (lv_at hl 1 rfl) ?_
    refine xr_iadd hx hb dX0_crash_59 ?_
    refine va_put (D := (dC, dI)) (ci := 0) (v := .int (nI (jgSc σ + n))) (ty := .int) (C := RX0) (T := TX0) (N := 14) hx hb htg inX0 tyX0 tyX0_ok nmX0 (fs := fsBJ h σ) hown hK hP hD hS 0 rfl rfl 3 (by decide) (htg _ fX0_124) (fun _ h9 => h9) rfl (by decide +kernel) rfl rfl (Nat.le_of_ble_eq_true rfl) dX0_crash_60 (fun H locs hP hD hS => ?_)
    rw [wBJ_Wc] at hP hD
    refine lv_aload_n hx hb dX0_crash_63 rfl (lv_at hl 0 rfl) ?_
    refine va_get (D := (dC, dI)) (ci := 0) (v := .ref (h 9)) (C := RX0) (T := TX0) (N := 14) hx hb htg inX0 (fs := fsBJ h (juWc σ (jgSc σ + n))) hown hK hP 0 rfl rfl 13 (by decide) (htg _ fX0_41) (fun _ h9 => h9) rfl dX0_crash_64 ?_
    refine lv_lconst (v := 0) hx hb dX0_crash_67 (by decide) ?_
    refine xr_fillJ (f := jgPD σ) (v := 0) (rest := []) ⟨hx, hb, hml, hown, htg⟩ gX0_136 (Nat.le_of_ble_eq_true rfl) (Nat.le_of_ble_eq_true rfl) hK hP hD hS hA 9 1 rfl rfl (by decide) hl.1 (Nat.le_of_ble_eq_true rfl) dX0_crash_68 (Nat.zero_le _) (Nat.zero_le _) (fun H locs hP hD hS => ?_)
    rw [wBJ_PD] at hP hD
    refine lv_aload_n hx hb dX0_crash_71 rfl (lv_at hl 0 rfl) ?_
    refine bj_wv (As := []) (rest := []) (n := 0) ⟨hx, hb, hml, hown, htg⟩ (c_restore l (juPD (juWc σ (jgSc σ + n)) (flJ (jgPD σ) 0 4))  (by show jgSc σ + n ≤ 700; omega) (hby)) (cwV 0 htg gX0_139 rfl rfl rfl (by decide +kernel) ⟨Nat.le_of_ble_eq_true rfl, Nat.le_of_ble_eq_true rfl⟩) hK hP hD hS hA hl.1 rfl rfl (Nat.le_of_ble_eq_true rfl) dX0_crash_72 (Nat.zero_le _) (Nat.zero_le _) (fun H locs hP hD hS => ?_)
    obtain ⟨z1, ez1⟩ : ∃ zq : BJ, zq = restore (juPD (juWc σ (jgSc σ + n)) (flJ (jgPD σ) 0 4)) := ⟨_, rfl⟩
    rw [← ez1] at hP hD
    refine lv_aload_n hx hb dX0_crash_75 rfl (lv_at hl 0 rfl) ?_
    refine va_get (D := (dC, dI)) (ci := 0) (v := .int (nI (jgWc z1))) (C := RX0) (T := TX0) (N := 14) hx hb htg inX0 (fs := fsBJ h z1) hown hK hP 0 rfl rfl 3 (by decide) (htg _ fX0_124) (fun _ h9 => h9) rfl dX0_crash_76 ?_
    have hfin : z1 = restore (juPD (juWc σ (jgSc σ + n)) (flJ (jgPD σ) 0 4)) := ez1
    rw [hfin] at hP hD
    exact W.iret (v := nI (jgWc z1)) hx hb hr (fun t ht hW => ⟨⟨_, (), rfl, by rw [ez1], by rw [ht]; exact hP, va_K.moved hW.alike hK, hD⟩, hS.F ht⟩) hS.2.2 dX0_crash_79
  · refine lv_iload_n hx hb dX0_crash_31 rfl (lv_at hl 2 rfl) ?_
    refine lv_iload_n hx hb dX0_crash_32 rfl (lv_at hl 1 rfl) ?_
    refine lv_icmp_ge (tgt := 53) hx hb dX0_crash_33 (by decide) (fun c33 => ?_) (fun c33 => absurd c33 (by exact fun z => z (hno.resolve_left c28)))
    refine lv_aload_n hx hb dX0_crash_53 rfl (lv_at hl 0 rfl) ?_
    refine lv_aload_n hx hb dX0_crash_54 rfl (lv_at hl 0 rfl) ?_
    refine va_get (D := (dC, dI)) (ci := 0) (v := .int (nI (jgSc σ))) (C := RX0) (T := TX0) (N := 14) hx hb htg inX0 (fs := fsBJ h σ) hown hK hP 0 rfl rfl 4 (by decide) (htg _ fX0_127) (fun _ h9 => h9) rfl dX0_crash_55 ?_
    refine lv_iload_n hx hb dX0_crash_58 rfl (lv_at hl 1 rfl) ?_
    refine xr_iadd hx hb dX0_crash_59 ?_
    refine va_put (D := (dC, dI)) (ci := 0) (v := .int (nI (jgSc σ + n))) (ty := .int) (C := RX0) (T := TX0) (N := 14) hx hb htg inX0 tyX0 tyX0_ok nmX0 (fs := fsBJ h σ) hown hK hP hD hS 0 rfl rfl 3 (by decide) (htg _ fX0_124) (fun _ h9 => h9) rfl (by decide +kernel) rfl rfl (Nat.le_of_ble_eq_true rfl) dX0_crash_60 (fun H locs hP hD hS => ?_)
    rw [wBJ_Wc] at hP hD
    refine lv_aload_n hx hb dX0_crash_63 rfl (lv_at hl 0 rfl) ?_
    refine va_get (D := (dC, dI)) (ci := 0) (v := .ref (h 9)) (C := RX0) (T := TX0) (N := 14) hx hb htg inX0 (fs := fsBJ h (juWc σ (jgSc σ + n))) hown hK hP 0 rfl rfl 13 (by decide) (htg _ fX0_41) (fun _ h9 => h9) rfl dX0_crash_64 ?_
    refine lv_lconst (v := 0) hx hb dX0_crash_67 (by decide) ?_
    refine xr_fillJ (f := jgPD σ) (v := 0) (rest := []) ⟨hx, hb, hml, hown, htg⟩ gX0_136 (Nat.le_of_ble_eq_true rfl) (Nat.le_of_ble_eq_true rfl) hK hP hD hS hA 9 1 rfl rfl (by decide) hl.1 (Nat.le_of_ble_eq_true rfl) dX0_crash_68 (Nat.zero_le _) (Nat.zero_le _) (fun H locs hP hD hS => ?_)
    rw [wBJ_PD] at hP hD
    refine lv_aload_n hx hb dX0_crash_71 rfl (lv_at hl 0 rfl) ?_
    refine bj_wv (As := []) (rest := []) (n := 0) ⟨hx, hb, hml, hown, htg⟩ (c_restore l (juPD (juWc σ (jgSc σ + n)) (flJ (jgPD σ) 0 4))  (by show jgSc σ + n ≤ 700; omega) (hby)) (cwV 0 htg gX0_139 rfl rfl rfl (by decide +kernel) ⟨Nat.le_of_ble_eq_true rfl, Nat.le_of_ble_eq_true rfl⟩) hK hP hD hS hA hl.1 rfl rfl (Nat.le_of_ble_eq_true rfl) dX0_crash_72 (Nat.zero_le _) (Nat.zero_le _) (fun H locs hP hD hS => ?_)
    obtain ⟨z2, ez2⟩ : ∃ zq : BJ, zq = restore (juPD (juWc σ (jgSc σ + n)) (flJ (jgPD σ) 0 4)) := ⟨_, rfl⟩
    rw [← ez2] at hP hD
    refine lv_aload_n hx hb dX0_crash_75 rfl (lv_at hl 0 rfl) ?_
    refine va_get (D := (dC, dI)) (ci := 0) (v := .int (nI (jgWc z2))) (C := RX0) (T := TX0) (N := 14) hx hb htg inX0 (fs := fsBJ h z2) hown hK hP 0 rfl rfl 3 (by decide) (htg _ fX0_124) (fun _ h9 => h9) rfl dX0_crash_76 ?_
    have hfin : z2 = restore (juPD (juWc σ (jgSc σ + n)) (flJ (jgPD σ) 0 4)) := ez2
    rw [hfin] at hP hD
    exact W.iret (v := nI (jgWc z2)) hx hb hr (fun t ht hW => ⟨⟨_, (), rfl, by rw [ez2], by rw [ht]; exact hP, va_K.moved hW.alike hK, hD⟩, hS.F ht⟩) hS.2.2 dX0_crash_79
set_option maxRecDepth 100000 in
set_option maxHeartbeats 4000000 in
theorem c_crashN (l : Launch) (σ : BJ) (n : Nat) (k : Nat) (hn : n ≤ jgWc σ - jgSc σ) (hsc : jgSc σ ≤ jgWc σ) (hw : jgWc σ ≤ 700) (hk : k < n) (hby : byt (jgW (juW σ (upd (jgW σ) (jgSc σ + k) (((jgW σ) (jgSc σ + k)) ^^^ (nI 255))))) 700) : wBi l yX0_crash wsX0_crash ({ frames := 4, cells := 0, slots := 0, locals := 95 } : Room) σ [.int (nI n), .int (nI k)] (nI (jgWc (restore (juPD (juWc (juW σ (upd (jgW σ) (jgSc σ + k) (((jgW σ) (jgSc σ + k)) ^^^ (nI 255)))) (jgSc σ + n)) (flJ (jgPD σ) 0 4))))) (restore (juPD (juWc (juW σ (upd (jgW σ) (jgSc σ + k) (((jgW σ) (jgSc σ + k)) ^^^ (nI 255)))) (jgSc σ + n)) (flJ (jgPD σ) 0 4))) := by
  intro dC dI cI cJ h sz
  refine Met.ofW (cc := cX0_crash) (maxL := 3) (ret := (some .int)) (by decide) rfl ?_
  intro p e s m args below meth c s₁ B hml hv
  obtain ⟨rfl, hsz, hP, hK, hD0⟩ := hv
  have hx := B.exec
  have hb := B.bytes
  have hr := B.returns
  have hts := atoms_spec (ws := wsX0_crash) B.pre
  have hown : s.vm.findClass RX0 = some m.cls := findClass_of_methodNamed B.named
  have hlocks := B.notSynchronized
  subst hsz
  have htg : ∀ w ∈ GW, w.before _ s = true := fun w h => hts w (List.mem_cons_of_mem _ h)
  have hD := hD0.self (sz := s.heap.size)
  generalize hAe : va_A (wBJ cI cJ h σ) s.heap.size = A at hD ⊢
  have hA : ∀ q : Nat, s.heap.size ≤ q → A q := fun q h => by rw [← hAe]; exact Or.inr h
  have hS : va_S A s.heap s.heap [] := va_S.rf
  have hl := lv_entry [.ref (h 0), .int (nI n), .int (nI k)] (n := 3) (Nat.le_of_ble_eq_true rfl)
  rw [lg_entry_eq]
  generalize (lg_sl [.ref (h 0), .int (nI n), .int (nI k)] ++ List.replicate (3 - (lg_sl [.ref (h 0), .int (nI n), .int (nI k)]).length) Slot.unset).toArray = ls at hl ⊢
  have hl : lv_has ls 3 [(0, .ref (h 0)), (1, .int (nI n)), (2, .int (nI k))] := hl
  have hP : va_P (dC, dI) vwCl (wBJ cI cJ h σ) s.heap := hP
  refine lv_iload_n hx hb dX0_crash_0 rfl (lv_at hl 1 rfl) ?_
  refine lv_if_lt (tgt := 17) hx hb dX0_crash_1 (by decide) (fun c1 => absurd c1 (by exact nI_pos (by omega))) (fun c1 => ?_)
  refine lv_iload_n hx hb dX0_crash_4 rfl (lv_at hl 1 rfl) ?_
  refine lv_aload_n hx hb dX0_crash_5 rfl (lv_at hl 0 rfl) ?_
  refine va_get (D := (dC, dI)) (ci := 0) (v := .int (nI (jgWc σ))) (C := RX0) (T := TX0) (N := 14) hx hb htg inX0 (fs := fsBJ h σ) hown hK hP 0 rfl rfl 3 (by decide) (htg _ fX0_124) (fun _ h9 => h9) rfl dX0_crash_6 ?_
  refine lv_aload_n hx hb dX0_crash_9 rfl (lv_at hl 0 rfl) ?_
  refine va_get (D := (dC, dI)) (ci := 0) (v := .int (nI (jgSc σ))) (C := RX0) (T := TX0) (N := 14) hx hb htg inX0 (fs := fsBJ h σ) hown hK hP 0 rfl rfl 4 (by decide) (htg _ fX0_127) (fun _ h9 => h9) rfl dX0_crash_10 ?_
  refine xr_isub hx hb (by omega) dX0_crash_13 ?_
  refine xr_icmp_le (tgt := 27) hx hb dX0_crash_14 (by decide) (by omega) (by omega) (fun c14 => ?_) (fun c14 => absurd c14 (by omega))
  refine lv_iload_n hx hb dX0_crash_27 rfl (lv_at hl 2 rfl) ?_
  refine lv_if_lt (tgt := 53) hx hb dX0_crash_28 (by decide) (fun c28 => absurd c28 (by exact nI_pos (by omega))) (fun c28 => ?_)
  refine lv_iload_n hx hb dX0_crash_31 rfl (lv_at hl 2 rfl) ?_
  refine lv_iload_n hx hb dX0_crash_32 rfl (lv_at hl 1 rfl) ?_
  refine xr_icmp_ge (tgt := 53) hx hb dX0_crash_33 (by decide) (by omega) (by omega) (fun c33 => absurd c33 (by omega)) (fun c33 => ?_)
  refine lv_aload_n hx hb dX0_crash_36 rfl (lv_at hl 0 rfl) ?_
  refine va_get (D := (dC, dI)) (ci := 0) (v := .ref (h 2)) (C := RX0) (T := TX0) (N := 14) hx hb htg inX0 (fs := fsBJ h σ) hown hK hP 0 rfl rfl 2 (by decide) (htg _ fX0_13) (fun _ h9 => h9) rfl dX0_crash_37 ?_
  refine lv_aload_n hx hb dX0_crash_40 rfl (lv_at hl 0 rfl) ?_
  refine va_get (D := (dC, dI)) (ci := 0) (v := .int (nI (jgSc σ))) (C := RX0) (T := TX0) (N := 14) hx hb htg inX0 (fs := fsBJ h σ) hown hK hP 0 rfl rfl 4 (by decide) (htg _ fX0_127) (fun _ h9 => h9) rfl dX0_crash_41 ?_
  refine lv_iload_n hx hb dX0_crash_44 rfl (lv_at hl 2 rfl) ?_
  refine xr_iadd hx hb dX0_crash_45 ?_
  refine lv_dup2_11 hx hb dX0_crash_46 rfl rfl ?_
  refine xr_iald (f := jgW σ) (i := jgSc σ + k) hx hb hK hP 2 0 rfl rfl (by omega) (by decide) dX0_crash_47 ?_
  refine lv_sipush (v := nI 255) hx hb dX0_crash_48 (by decide) ?_
  refine lv_ixor hx hb dX0_crash_51 ?_
  refine xr_iast (f := jgW σ) (i := jgSc σ + k) (x := ((jgW σ) (jgSc σ + k)) ^^^ (nI 255)) hx hb hK hP hD hS 2 0 rfl rfl (by omega) (by decide) dX0_crash_52 (fun H locs hP hD hS => ?_)
  rw [wBJ_W] at hP hD
  refine lv_aload_n hx hb dX0_crash_53 rfl (lv_at hl 0 rfl) ?_
  refine lv_aload_n hx hb dX0_crash_54 rfl (lv_at hl 0 rfl) ?_
  refine va_get (D := (dC, dI)) (ci := 0) (v := .int (nI (jgSc σ))) (C := RX0) (T := TX0) (N := 14) hx hb htg inX0 (fs := fsBJ h (juW σ (upd (jgW σ) (jgSc σ + k) (((jgW σ) (jgSc σ + k)) ^^^ (nI 255))))) hown hK hP 0 rfl rfl 4 (by decide) (htg _ fX0_127) (fun _ h9 => h9) rfl dX0_crash_55 ?_
  refine lv_iload_n hx hb dX0_crash_58 rfl (lv_at hl 1 rfl) ?_
  refine xr_iadd hx hb dX0_crash_59 ?_
  refine va_put (D := (dC, dI)) (ci := 0) (v := .int (nI (jgSc σ + n))) (ty := .int) (C := RX0) (T := TX0) (N := 14) hx hb htg inX0 tyX0 tyX0_ok nmX0 (fs := fsBJ h (juW σ (upd (jgW σ) (jgSc σ + k) (((jgW σ) (jgSc σ + k)) ^^^ (nI 255))))) hown hK hP hD hS 0 rfl rfl 3 (by decide) (htg _ fX0_124) (fun _ h9 => h9) rfl (by decide +kernel) rfl rfl (Nat.le_of_ble_eq_true rfl) dX0_crash_60 (fun H locs hP hD hS => ?_)
  rw [wBJ_Wc] at hP hD
  refine lv_aload_n hx hb dX0_crash_63 rfl (lv_at hl 0 rfl) ?_
  refine va_get (D := (dC, dI)) (ci := 0) (v := .ref (h 9)) (C := RX0) (T := TX0) (N := 14) hx hb htg inX0 (fs := fsBJ h (juWc (juW σ (upd (jgW σ) (jgSc σ + k) (((jgW σ) (jgSc σ + k)) ^^^ (nI 255)))) (jgSc σ + n))) hown hK hP 0 rfl rfl 13 (by decide) (htg _ fX0_41) (fun _ h9 => h9) rfl dX0_crash_64 ?_
  refine lv_lconst (v := 0) hx hb dX0_crash_67 (by decide) ?_
  refine xr_fillJ (f := jgPD σ) (v := 0) (rest := []) ⟨hx, hb, hml, hown, htg⟩ gX0_136 (Nat.le_of_ble_eq_true rfl) (Nat.le_of_ble_eq_true rfl) hK hP hD hS hA 9 1 rfl rfl (by decide) hl.1 (Nat.le_of_ble_eq_true rfl) dX0_crash_68 (Nat.zero_le _) (Nat.zero_le _) (fun H locs hP hD hS => ?_)
  rw [wBJ_PD] at hP hD
  refine lv_aload_n hx hb dX0_crash_71 rfl (lv_at hl 0 rfl) ?_
  refine bj_wv (As := []) (rest := []) (n := 0) ⟨hx, hb, hml, hown, htg⟩ (c_restore l (juPD (juWc (juW σ (upd (jgW σ) (jgSc σ + k) (((jgW σ) (jgSc σ + k)) ^^^ (nI 255)))) (jgSc σ + n)) (flJ (jgPD σ) 0 4))  (by show jgSc σ + n ≤ 700; omega) (hby)) (cwV 0 htg gX0_139 rfl rfl rfl (by decide +kernel) ⟨Nat.le_of_ble_eq_true rfl, Nat.le_of_ble_eq_true rfl⟩) hK hP hD hS hA hl.1 rfl rfl (Nat.le_of_ble_eq_true rfl) dX0_crash_72 (Nat.zero_le _) (Nat.zero_le _) (fun H locs hP hD hS => ?_)
  obtain ⟨z1, ez1⟩ : ∃ zq : BJ, zq = restore (juPD (juWc (juW σ (upd (jgW σ) (jgSc σ + k) (((jgW σ) (jgSc σ + k)) ^^^ (nI 255)))) (jgSc σ + n)) (flJ (jgPD σ) 0 4)) := ⟨_, rfl⟩
  rw [← ez1] at hP hD
  refine lv_aload_n hx hb dX0_crash_75 rfl (lv_at hl 0 rfl) ?_
  refine va_get (D := (dC, dI)) (ci := 0) (v := .int (nI (jgWc z1))) (C := RX0) (T := TX0) (N := 14) hx hb htg inX0 (fs := fsBJ h z1) hown hK hP 0 rfl rfl 3 (by decide) (htg _ fX0_124) (fun _ h9 => h9) rfl dX0_crash_76 ?_
  have hfin : z1 = restore (juPD (juWc (juW σ (upd (jgW σ) (jgSc σ + k) (((jgW σ) (jgSc σ + k)) ^^^ (nI 255)))) (jgSc σ + n)) (flJ (jgPD σ) 0 4)) := ez1
  rw [hfin] at hP hD
  exact W.iret (v := nI (jgWc z1)) hx hb hr (fun t ht hW => ⟨⟨_, (), rfl, by rw [ez1], by rw [ht]; exact hP, va_K.moved hW.alike hK, hD⟩, hS.F ht⟩) hS.2.2 dX0_crash_79
set_option maxRecDepth 100000 in
set_option maxHeartbeats 4000000 in
theorem c_collect (l : Launch) (σ : BJ) (hc : jgBc σ ≤ 20) (hkc : jgKc σ ≤ 16) (h1 : ∀ i, i < jgBc σ → rbOk (juWc σ 0) i) (h2 : ∀ t, t < 8 → rtOk (co1 σ) t) (h3 : ∀ i, i < jgKc σ → rkOk (co2 σ) i) (h4 : jgWc (co3 σ) ≤ 700) (h5 : byt (jgW (co3 σ)) 700) (h6 : jgBc (restore (co3 σ)) ≤ jgBc σ) : wBi l yX0_collect wsX0_collect ({ frames := 4, cells := 0, slots := 0, locals := 95 } : Room) σ [] (nI (jgBc σ - jgBc (restore (co3 σ)))) (restore (co3 σ)) := by
  intro dC dI cI cJ h sz
  refine Met.ofW (cc := cX0_collect) (maxL := 2) (ret := (some .int)) (by decide) rfl ?_
  intro p e s m args below meth c s₁ B hml hv
  obtain ⟨rfl, hsz, hP, hK, hD0⟩ := hv
  have hx := B.exec
  have hb := B.bytes
  have hr := B.returns
  have hts := atoms_spec (ws := wsX0_collect) B.pre
  have hown : s.vm.findClass RX0 = some m.cls := findClass_of_methodNamed B.named
  have hlocks := B.notSynchronized
  subst hsz
  have htg : ∀ w ∈ GW, w.before _ s = true := fun w h => hts w (List.mem_cons_of_mem _ h)
  have hD := hD0.self (sz := s.heap.size)
  generalize hAe : va_A (wBJ cI cJ h σ) s.heap.size = A at hD ⊢
  have hA : ∀ q : Nat, s.heap.size ≤ q → A q := fun q h => by rw [← hAe]; exact Or.inr h
  have hS : va_S A s.heap s.heap [] := va_S.rf
  have hl := lv_entry [.ref (h 0)] (n := 2) (Nat.le_of_ble_eq_true rfl)
  rw [lg_entry_eq]
  generalize (lg_sl [.ref (h 0)] ++ List.replicate (2 - (lg_sl [.ref (h 0)]).length) Slot.unset).toArray = ls at hl ⊢
  have hl : lv_has ls 2 [(0, .ref (h 0))] := hl
  have hP : va_P (dC, dI) vwCl (wBJ cI cJ h σ) s.heap := hP
  refine lv_aload_n hx hb dX0_collect_0 rfl (lv_at hl 0 rfl) ?_
  refine va_get (D := (dC, dI)) (ci := 0) (v := .int (nI (jgBc σ))) (C := RX0) (T := TX0) (N := 14) hx hb htg inX0 (fs := fsBJ h σ) hown hK hP 0 rfl rfl 8 (by decide) (htg _ fX0_68) (fun _ h9 => h9) rfl dX0_collect_1 ?_
  refine lv_istore_n (lv' := [(1, .int (nI (jgBc σ))), (0, .ref (h 0))]) hx hb dX0_collect_4 rfl hl (by decide) rfl (fun ls hl => ?_)
  refine lv_aload_n hx hb dX0_collect_5 rfl (lv_at hl 1 rfl) ?_
  refine lv_iconst (v := nI 0) hx hb dX0_collect_6 (by decide) ?_
  refine va_put (D := (dC, dI)) (ci := 0) (v := .int (nI 0)) (ty := .int) (C := RX0) (T := TX0) (N := 14) hx hb htg inX0 tyX0 tyX0_ok nmX0 (fs := fsBJ h σ) hown hK hP hD hS 0 rfl rfl 3 (by decide) (htg _ fX0_124) (fun _ h9 => h9) rfl (by decide +kernel) rfl rfl (Nat.le_of_ble_eq_true rfl) dX0_collect_7 (fun H locs hP hD hS => ?_)
  rw [wBJ_Wc] at hP hD
  refine lv_aload_n hx hb dX0_collect_10 rfl (lv_at hl 1 rfl) ?_
  refine bj_wv (As := []) (rest := []) (n := 0) ⟨hx, hb, hml, hown, htg⟩ (c_rewriteBlobs l (juWc σ 0)  (hc) (h1)) (cwV 0 htg gX0_142 rfl rfl rfl (by decide +kernel) ⟨Nat.le_of_ble_eq_true rfl, Nat.le_of_ble_eq_true rfl⟩) hK hP hD hS hA hl.1 rfl rfl (Nat.le_of_ble_eq_true rfl) dX0_collect_11 (Nat.zero_le _) (Nat.zero_le _) (fun H locs hP hD hS => ?_)
  obtain ⟨z1, ez1⟩ : ∃ zq : BJ, zq = rbL (juWc σ 0) (jgBc (juWc σ 0)) := ⟨_, rfl⟩
  rw [← ez1] at hP hD
  have y1 : z1 = co1 σ := ez1
  refine lv_aload_n hx hb dX0_collect_14 rfl (lv_at hl 1 rfl) ?_
  refine bj_wv (As := []) (rest := []) (n := 0) ⟨hx, hb, hml, hown, htg⟩ (c_rewriteTags l z1  (by rw [y1]; exact h2)) (cwV 0 htg gX0_145 rfl rfl rfl (by decide +kernel) ⟨Nat.le_of_ble_eq_true rfl, Nat.le_of_ble_eq_true rfl⟩) hK hP hD hS hA hl.1 rfl rfl (Nat.le_of_ble_eq_true rfl) dX0_collect_15 (Nat.zero_le _) (Nat.zero_le _) (fun H locs hP hD hS => ?_)
  obtain ⟨z2, ez2⟩ : ∃ zq : BJ, zq = rtL z1 8 := ⟨_, rfl⟩
  rw [← ez2] at hP hD
  have y2 : z2 = co2 σ := by rw [ez2, y1]; rfl
  refine lv_aload_n hx hb dX0_collect_18 rfl (lv_at hl 1 rfl) ?_
  refine bj_wv (As := []) (rest := []) (n := 0) ⟨hx, hb, hml, hown, htg⟩ (c_rewriteKeys l z2  (by rw [y2, co2_bc]; exact hc) (by rw [y2, co2_kc]; exact hkc) (by rw [y2, co2_kc]; exact h3)) (cwV 0 htg gX0_148 rfl rfl rfl (by decide +kernel) ⟨Nat.le_of_ble_eq_true rfl, Nat.le_of_ble_eq_true rfl⟩) hK hP hD hS hA hl.1 rfl rfl (Nat.le_of_ble_eq_true rfl) dX0_collect_19 (Nat.zero_le _) (Nat.zero_le _) (fun H locs hP hD hS => ?_)
  obtain ⟨z3, ez3⟩ : ∃ zq : BJ, zq = rkL z2 (jgKc z2) := ⟨_, rfl⟩
  rw [← ez3] at hP hD
  have y3 : z3 = co3 σ := by rw [ez3, y2, co2_kc]; rfl
  refine lv_aload_n hx hb dX0_collect_22 rfl (lv_at hl 1 rfl) ?_
  refine bj_wv (As := []) (rest := []) (n := 0) ⟨hx, hb, hml, hown, htg⟩ (c_restore l z3  (by rw [y3]; exact h4) (by rw [y3]; exact h5)) (cwV 0 htg gX0_139 rfl rfl rfl (by decide +kernel) ⟨Nat.le_of_ble_eq_true rfl, Nat.le_of_ble_eq_true rfl⟩) hK hP hD hS hA hl.1 rfl rfl (Nat.le_of_ble_eq_true rfl) dX0_collect_23 (Nat.zero_le _) (Nat.zero_le _) (fun H locs hP hD hS => ?_)
  obtain ⟨z4, ez4⟩ : ∃ zq : BJ, zq = restore z3 := ⟨_, rfl⟩
  rw [← ez4] at hP hD
  have y4 : z4 = restore (co3 σ) := by rw [ez4, y3]
  have y5 : jgBc z4 ≤ jgBc σ := by rw [y4]; exact h6
  refine lv_iload_n hx hb dX0_collect_26 rfl (lv_at hl 0 rfl) ?_
  refine lv_aload_n hx hb dX0_collect_27 rfl (lv_at hl 1 rfl) ?_
  refine va_get (D := (dC, dI)) (ci := 0) (v := .int (nI (jgBc z4))) (C := RX0) (T := TX0) (N := 14) hx hb htg inX0 (fs := fsBJ h z4) hown hK hP 0 rfl rfl 8 (by decide) (htg _ fX0_68) (fun _ h9 => h9) rfl dX0_collect_28 ?_
  refine xr_isub hx hb (by omega) dX0_collect_31 ?_
  have hfin : z4 = restore (co3 σ) := y4
  rw [hfin] at hP hD
  exact W.iret (v := nI (jgBc σ - (jgBc z4))) hx hb hr (fun t ht hW => ⟨⟨_, (), rfl, by rw [y4], by rw [ht]; exact hP, va_K.moved hW.alike hK, hD⟩, hS.F ht⟩) hS.2.2 dX0_collect_32
