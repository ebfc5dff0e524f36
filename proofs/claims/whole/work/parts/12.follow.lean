set_option maxRecDepth 100000 in
set_option maxHeartbeats 4000000 in
theorem c_followBlob (l : Launch) (σ : BJ) (st : Nat) (n : Nat) (hn : st + n ≤ 700) (hc : jgBc σ ≤ 20) : wBi l yX0_followBlob wsX0_followBlob ({ frames := 1, cells := 0, slots := 0, locals := 25 } : Room) σ [.int (nI st), .int (nI n)] (bI ((fBlob σ st n).isSome)) (ofO (fBlob σ st n) σ) := by
  intro dC dI cI cJ h sz
  refine Met.ofW (cc := cX0_followBlob) (maxL := 5) (ret := (some .boolean)) (by decide) rfl ?_
  intro p e s m args below meth c s₁ B hml hv
  obtain ⟨rfl, hsz, hP, hK, hD0⟩ := hv
  have hx := B.exec
  have hb := B.bytes
  have hr := B.returns
  have hts := atoms_spec (ws := wsX0_followBlob) B.pre
  have hown : s.vm.findClass RX0 = some m.cls := findClass_of_methodNamed B.named
  have hlocks := B.notSynchronized
  subst hsz
  have htg : ∀ w ∈ GW, w.before _ s = true := fun w h => hts w (List.mem_cons_of_mem _ h)
  have hD := hD0.self (sz := s.heap.size)
  generalize hAe : va_A (wBJ cI cJ h σ) s.heap.size = A at hD ⊢
  have hA : ∀ q : Nat, s.heap.size ≤ q → A q := fun q h => by rw [← hAe]; exact Or.inr h
  have hS : va_S A s.heap s.heap [] := va_S.rf
  have hl := lv_entry [.ref (h 0), .int (nI st), .int (nI n)] (n := 5) (Nat.le_of_ble_eq_true rfl)
  rw [lg_entry_eq]
  generalize (lg_sl [.ref (h 0), .int (nI st), .int (nI n)] ++ List.replicate (5 - (lg_sl [.ref (h 0), .int (nI st), .int (nI n)]).length) Slot.unset).toArray = ls at hl ⊢
  have hl : lv_has ls 5 [(0, .ref (h 0)), (1, .int (nI st)), (2, .int (nI n))] := hl
  have hP : va_P (dC, dI) vwCl (wBJ cI cJ h σ) s.heap := hP
  refine lv_aload_n hx hb dX0_followBlob_0 rfl (lv_at hl 0 rfl) ?_
  refine va_get (D := (dC, dI)) (ci := 0) (v := .ref (h 2)) (C := RX0) (T := TX0) (N := 14) hx hb htg inX0 (fs := fsBJ h σ) hown hK hP 0 rfl rfl 2 (by decide) (htg _ fX0_13) (fun _ h9 => h9) rfl dX0_followBlob_1 ?_
  refine lv_iload_n hx hb dX0_followBlob_4 rfl (lv_at hl 1 rfl) ?_
  refine lv_iload_n hx hb dX0_followBlob_5 rfl (lv_at hl 2 rfl) ?_
  refine xr_rol (va_runS (As := [.ref (h 2), .int (nI st), .int (nI n)]) (rest := []) ⟨hx, hb, hml, hown, htg⟩ (c_digestOf l (jgW σ) 700 st n (by omega) (by decide) dC dI cI (h 2) _) (va_cwS 3 htg gX0_60 rfl rfl rfl (by decide +kernel) ⟨Nat.le_of_ble_eq_true rfl, Nat.le_of_ble_eq_true rfl⟩) ⟨fun a U g mk q => ⟨q.1, q.2.1, q.2.2.1, va_K.moved (u := U) (U := U.calling g mk a) (Vm.Alike.refl U.vm) q.2.2.2⟩, fun U hU hW => ⟨rfl, by rw [hU], by rw [hU]; exact hP.sub [2] rfl, va_K.moved hW.alike (hK.sub [0] rfl)⟩⟩ rfl rfl hl.1 rfl (lv_room (Nat.le_of_ble_eq_true rfl)) dX0_followBlob_6 ⟨Nat.zero_le _, Nat.zero_le _⟩) hP hS hA (fun H locs hP hS _ => ?_)
  refine lv_lstore_n (lv' := [(3, .long (dg (jgW σ) st n)), (0, .ref (h 0)), (1, .int (nI st)), (2, .int (nI n))]) hx hb dX0_followBlob_9 rfl hl (by decide) rfl (fun ls hl => ?_)
  refine lv_aload_n hx hb dX0_followBlob_10 rfl (lv_at hl 1 rfl) ?_
  refine lv_lload_n hx hb dX0_followBlob_11 rfl (lv_at hl 0 rfl) ?_
  refine bj_ri (As := [.long (dg (jgW σ) st n)]) (rest := []) (n := 1) ⟨hx, hb, hml, hown, htg⟩ (c_findBlob l σ (dg (jgW σ) st n) (by omega)) (cwV 1 htg gX0_64 rfl rfl rfl (by decide +kernel) ⟨Nat.le_of_ble_eq_true rfl, Nat.le_of_ble_eq_true rfl⟩) hK hP hD hS hA hl.1 rfl rfl (Nat.le_of_ble_eq_true rfl) dX0_followBlob_12 (Nat.zero_le _) (Nat.zero_le _) (fun H locs hP hS => ?_)
  obtain ⟨o, ho⟩ : ∃ zq, zq = fnd (jgBD σ) (dg (jgW σ) st n) (jgBc σ) := ⟨_, rfl⟩
  rw [← ho]
  cases o with
  | none =>
    refine W.eq (g2 := F0 m 15 ls [.int (-1)]) rfl ?_
    refine lv_iconst (v := -1) hx hb dX0_followBlob_15 (by decide) ?_
    refine lv_icmp_eq (tgt := 21) hx hb dX0_followBlob_16 (by decide) (fun _ => ?_) (fun c => absurd rfl c)
    refine lv_aload_n hx hb dX0_followBlob_21 rfl (lv_at hl 1 rfl) ?_
    refine va_get (D := (dC, dI)) (ci := 0) (v := .int (nI (jgBc σ))) (C := RX0) (T := TX0) (N := 14) hx hb htg inX0 (fs := fsBJ h σ) hown hK hP 0 rfl rfl 8 (by decide) (htg _ fX0_68) (fun _ h9 => h9) rfl dX0_followBlob_22 ?_
    refine lv_bipush (v := nI 20) hx hb dX0_followBlob_25 (by decide) ?_
    refine xr_icmp_lt (tgt := 32) hx hb dX0_followBlob_27 (by decide) (by omega) (by omega) (fun c27 => ?_) (fun c27 => ?_)
    · refine lv_aload_n hx hb dX0_followBlob_32 rfl (lv_at hl 1 rfl) ?_
      refine va_get (D := (dC, dI)) (ci := 0) (v := .ref (h 3)) (C := RX0) (T := TX0) (N := 14) hx hb htg inX0 (fs := fsBJ h σ) hown hK hP 0 rfl rfl 5 (by decide) (htg _ fX0_16) (fun _ h9 => h9) rfl dX0_followBlob_33 ?_
      refine lv_aload_n hx hb dX0_followBlob_36 rfl (lv_at hl 1 rfl) ?_
      refine va_get (D := (dC, dI)) (ci := 0) (v := .int (nI (jgBc σ))) (C := RX0) (T := TX0) (N := 14) hx hb htg inX0 (fs := fsBJ h σ) hown hK hP 0 rfl rfl 8 (by decide) (htg _ fX0_68) (fun _ h9 => h9) rfl dX0_followBlob_37 ?_
      refine lv_lload_n hx hb dX0_followBlob_40 rfl (lv_at hl 0 rfl) ?_
      refine xr_last (f := jgBD σ) (i := jgBc σ) (x := dg (jgW σ) st n) hx hb hK hP hD hS 3 1 rfl rfl (by omega) (by decide) dX0_followBlob_41 (fun H locs hP hD hS => ?_)
      rw [wBJ_BD] at hP hD
      refine lv_aload_n hx hb dX0_followBlob_42 rfl (lv_at hl 1 rfl) ?_
      refine va_get (D := (dC, dI)) (ci := 0) (v := .ref (h 4)) (C := RX0) (T := TX0) (N := 14) hx hb htg inX0 (fs := fsBJ h (juBD σ (vp_updL (jgBD σ) (jgBc σ) (dg (jgW σ) st n)))) hown hK hP 0 rfl rfl 6 (by decide) (htg _ fX0_20) (fun _ h9 => h9) rfl dX0_followBlob_43 ?_
      refine lv_aload_n hx hb dX0_followBlob_46 rfl (lv_at hl 1 rfl) ?_
      refine va_get (D := (dC, dI)) (ci := 0) (v := .int (nI (jgBc σ))) (C := RX0) (T := TX0) (N := 14) hx hb htg inX0 (fs := fsBJ h (juBD σ (vp_updL (jgBD σ) (jgBc σ) (dg (jgW σ) st n)))) hown hK hP 0 rfl rfl 8 (by decide) (htg _ fX0_68) (fun _ h9 => h9) rfl dX0_followBlob_47 ?_
      refine lv_iload_n hx hb dX0_followBlob_50 rfl (lv_at hl 2 rfl) ?_
      refine xr_iast (f := jgBS σ) (i := jgBc σ) (x := nI st) hx hb hK hP hD hS 4 0 rfl rfl (by omega) (by decide) dX0_followBlob_51 (fun H locs hP hD hS => ?_)
      rw [wBJ_BS] at hP hD
      refine lv_aload_n hx hb dX0_followBlob_52 rfl (lv_at hl 1 rfl) ?_
      refine va_get (D := (dC, dI)) (ci := 0) (v := .ref (h 5)) (C := RX0) (T := TX0) (N := 14) hx hb htg inX0 (fs := fsBJ h (juBS (juBD σ (vp_updL (jgBD σ) (jgBc σ) (dg (jgW σ) st n))) (upd (jgBS σ) (jgBc σ) (nI st)))) hown hK hP 0 rfl rfl 7 (by decide) (htg _ fX0_23) (fun _ h9 => h9) rfl dX0_followBlob_53 ?_
      refine lv_aload_n hx hb dX0_followBlob_56 rfl (lv_at hl 1 rfl) ?_
      refine va_get (D := (dC, dI)) (ci := 0) (v := .int (nI (jgBc σ))) (C := RX0) (T := TX0) (N := 14) hx hb htg inX0 (fs := fsBJ h (juBS (juBD σ (vp_updL (jgBD σ) (jgBc σ) (dg (jgW σ) st n))) (upd (jgBS σ) (jgBc σ) (nI st)))) hown hK hP 0 rfl rfl 8 (by decide) (htg _ fX0_68) (fun _ h9 => h9) rfl dX0_followBlob_57 ?_
      refine lv_iload_n hx hb dX0_followBlob_60 rfl (lv_at hl 3 rfl) ?_
      refine xr_iast (f := jgBL σ) (i := jgBc σ) (x := nI n) hx hb hK hP hD hS 5 0 rfl rfl (by omega) (by decide) dX0_followBlob_61 (fun H locs hP hD hS => ?_)
      rw [wBJ_BL] at hP hD
      refine lv_aload_n hx hb dX0_followBlob_62 rfl (lv_at hl 1 rfl) ?_
      refine lv_dup hx hb dX0_followBlob_63 rfl ?_
      refine va_get (D := (dC, dI)) (ci := 0) (v := .int (nI (jgBc σ))) (C := RX0) (T := TX0) (N := 14) hx hb htg inX0 (fs := fsBJ h (juBL (juBS (juBD σ (vp_updL (jgBD σ) (jgBc σ) (dg (jgW σ) st n))) (upd (jgBS σ) (jgBc σ) (nI st))) (upd (jgBL σ) (jgBc σ) (nI n)))) hown hK hP 0 rfl rfl 8 (by decide) (htg _ fX0_68) (fun _ h9 => h9) rfl dX0_followBlob_64 ?_
      refine lv_iconst (v := nI 1) hx hb dX0_followBlob_67 (by decide) ?_
      refine xr_iadd hx hb dX0_followBlob_68 ?_
      refine va_put (D := (dC, dI)) (ci := 0) (v := .int (nI (jgBc σ + 1))) (ty := .int) (C := RX0) (T := TX0) (N := 14) hx hb htg inX0 tyX0 tyX0_ok nmX0 (fs := fsBJ h (juBL (juBS (juBD σ (vp_updL (jgBD σ) (jgBc σ) (dg (jgW σ) st n))) (upd (jgBS σ) (jgBc σ) (nI st))) (upd (jgBL σ) (jgBc σ) (nI n)))) hown hK hP hD hS 0 rfl rfl 8 (by decide) (htg _ fX0_68) (fun _ h9 => h9) rfl (by decide +kernel) rfl rfl (Nat.le_of_ble_eq_true rfl) dX0_followBlob_69 (fun H locs hP hD hS => ?_)
      rw [wBJ_Bc] at hP hD
      refine lv_iconst (v := nI 1) hx hb dX0_followBlob_72 (by decide) ?_
      have hfin : juBc (juBL (juBS (juBD σ (vp_updL (jgBD σ) (jgBc σ) (dg (jgW σ) st n))) (upd (jgBS σ) (jgBc σ) (nI st))) (upd (jgBL σ) (jgBc σ) (nI n))) (jgBc σ + 1) = ofO (fBlob σ st n) σ := by rw [fBlob_new ho.symm (by omega)]; rfl
      rw [hfin] at hP hD
      exact W.zret (ty := .boolean) (v := nI 1) hx hb hr (by first | rfl | decide | exact bI_nar _) (fun t ht hW => ⟨⟨_, (), rfl, by rw [fBlob_new ho.symm (by omega)]; rfl, by rw [ht]; exact hP, va_K.moved hW.alike hK, hD⟩, hS.F ht⟩) hS.2.2 dX0_followBlob_73
    · refine lv_iconst (v := nI 0) hx hb dX0_followBlob_30 (by decide) ?_
      have hfin : σ = ofO (fBlob σ st n) σ := by rw [fBlob_full ho.symm (by omega)]; rfl
      rw [hfin] at hP hD
      exact W.zret (ty := .boolean) (v := nI 0) hx hb hr (by first | rfl | decide | exact bI_nar _) (fun t ht hW => ⟨⟨_, (), rfl, by rw [fBlob_full ho.symm (by omega)]; rfl, by rw [ht]; exact hP, va_K.moved hW.alike hK, hD⟩, hS.F ht⟩) hS.2.2 dX0_followBlob_31
  | some b =>
    have hlto := (fnd_lt ho.symm).1
    refine W.eq (g2 := F0 m 15 ls [.int (nI b)]) rfl ?_
    refine lv_iconst (v := -1) hx hb dX0_followBlob_15 (by decide) ?_
    refine lv_icmp_eq (tgt := 21) hx hb dX0_followBlob_16 (by decide) (fun c => absurd c (optI_none (by omega))) (fun _ => ?_)
    refine lv_iconst (v := nI 1) hx hb dX0_followBlob_19 (by decide) ?_
    have hfin : σ = ofO (fBlob σ st n) σ := by rw [fBlob_some ho.symm]; rfl
    rw [hfin] at hP hD
    exact W.zret (ty := .boolean) (v := nI 1) hx hb hr (by first | rfl | decide | exact bI_nar _) (fun t ht hW => ⟨⟨_, (), rfl, by rw [fBlob_some ho.symm]; rfl, by rw [ht]; exact hP, va_K.moved hW.alike hK, hD⟩, hS.F ht⟩) hS.2.2 dX0_followBlob_20
set_option maxRecDepth 100000 in
set_option maxHeartbeats 4000000 in
theorem c_followTell (l : Launch) (σ : BJ) (t : Nat) (d : Int64) (ht : t < 256) (hc : jgBc σ ≤ 20) : wBi l yX0_followTell wsX0_followTell ({ frames := 1, cells := 0, slots := 0, locals := 23 } : Room) σ [.int (nI t), .long d] (bI ((fTell σ t d).isSome)) (ofO (fTell σ t d) σ) := by
  intro dC dI cI cJ h sz
  refine Met.ofW (cc := cX0_followTell) (maxL := 5) (ret := (some .boolean)) (by decide) rfl ?_
  intro p e s m args below meth c s₁ B hml hv
  obtain ⟨rfl, hsz, hP, hK, hD0⟩ := hv
  have hx := B.exec
  have hb := B.bytes
  have hr := B.returns
  have hts := atoms_spec (ws := wsX0_followTell) B.pre
  have hown : s.vm.findClass RX0 = some m.cls := findClass_of_methodNamed B.named
  have hlocks := B.notSynchronized
  subst hsz
  have htg : ∀ w ∈ GW, w.before _ s = true := fun w h => hts w (List.mem_cons_of_mem _ h)
  have hD := hD0.self (sz := s.heap.size)
  generalize hAe : va_A (wBJ cI cJ h σ) s.heap.size = A at hD ⊢
  have hA : ∀ q : Nat, s.heap.size ≤ q → A q := fun q h => by rw [← hAe]; exact Or.inr h
  have hS : va_S A s.heap s.heap [] := va_S.rf
  have hl := lv_entry [.ref (h 0), .int (nI t), .long d] (n := 5) (Nat.le_of_ble_eq_true rfl)
  rw [lg_entry_eq]
  generalize (lg_sl [.ref (h 0), .int (nI t), .long d] ++ List.replicate (5 - (lg_sl [.ref (h 0), .int (nI t), .long d]).length) Slot.unset).toArray = ls at hl ⊢
  have hl : lv_has ls 5 [(0, .ref (h 0)), (1, .int (nI t)), (2, .long d)] := hl
  have hP : va_P (dC, dI) vwCl (wBJ cI cJ h σ) s.heap := hP
  refine lv_aload_n hx hb dX0_followTell_0 rfl (lv_at hl 0 rfl) ?_
  refine lv_lload_n hx hb dX0_followTell_1 rfl (lv_at hl 2 rfl) ?_
  refine bj_ri (As := [.long d]) (rest := []) (n := 1) ⟨hx, hb, hml, hown, htg⟩ (c_findBlob l σ d (by omega)) (cwV 1 htg gX0_64 rfl rfl rfl (by decide +kernel) ⟨Nat.le_of_ble_eq_true rfl, Nat.le_of_ble_eq_true rfl⟩) hK hP hD hS hA hl.1 rfl rfl (Nat.le_of_ble_eq_true rfl) dX0_followTell_2 (Nat.zero_le _) (Nat.zero_le _) (fun H locs hP hS => ?_)
  obtain ⟨o, ho⟩ : ∃ zq, zq = fnd (jgBD σ) d (jgBc σ) := ⟨_, rfl⟩
  rw [← ho]
  cases o with
  | none =>
    refine W.eq (g2 := F0 m 5 ls [.int (-1)]) rfl ?_
    refine lv_istore (lv' := [(4, .int (-1)), (0, .ref (h 0)), (1, .int (nI t)), (2, .long d)]) hx hb dX0_followTell_5 hl (by decide) rfl (fun ls hl => ?_)
    refine lv_iload_n hx hb dX0_followTell_7 rfl (lv_at hl 2 rfl) ?_
    refine xr_roi (va_runS (As := [.int (nI t)]) (rest := []) ⟨hx, hb, hml, hown, htg⟩ (c_isTag l (nI t) dC dI cI 0 _) (va_cwS 1 htg gX0_157 rfl rfl rfl (by decide +kernel) ⟨Nat.le_of_ble_eq_true rfl, Nat.le_of_ble_eq_true rfl⟩) ⟨fun a U g mk q => q, fun U hU hW => ⟨rfl, by show U.heap.size = _; rw [hU]⟩⟩ rfl rfl hl.1 rfl (lv_room (Nat.le_of_ble_eq_true rfl)) dX0_followTell_8 ⟨Nat.zero_le _, Nat.zero_le _⟩) hP hS hA (fun H locs hP hS _ => ?_)
    refine xr_ifeqB (tgt := 20) hx hb dX0_followTell_11 (by decide) (fun c11 => ?_) (fun c11 => ?_)
    · refine lv_iconst (v := nI 0) hx hb dX0_followTell_20 (by decide) ?_
      have hfin : σ = ofO (fTell σ t d) σ := by (first | rw [fTell_none ho.symm] | rw [fTell_out (by have h9 := c11; rw [isTg_nI (by omega)] at h9; simpa using h9)]); rfl
      rw [hfin] at hP hD
      exact W.zret (ty := .boolean) (v := nI 0) hx hb hr (by first | rfl | decide | exact bI_nar _) (fun t ht hW => ⟨⟨_, (), rfl, by (first | rw [fTell_none ho.symm] | rw [fTell_out (by have h9 := c11; rw [isTg_nI (by omega)] at h9; simpa using h9)]); rfl, by rw [ht]; exact hP, va_K.moved hW.alike hK, hD⟩, hS.F ht⟩) hS.2.2 dX0_followTell_21
    · refine lv_iload hx hb dX0_followTell_14 (lv_at hl 0 rfl) ?_
      refine lv_iconst (v := -1) hx hb dX0_followTell_16 (by decide) ?_
      refine lv_icmp_ne (tgt := 22) hx hb dX0_followTell_17 (by decide) (fun c => absurd rfl c) (fun _ => ?_)
      refine lv_iconst (v := nI 0) hx hb dX0_followTell_20 (by decide) ?_
      have hfin : σ = ofO (fTell σ t d) σ := by (first | rw [fTell_none ho.symm] | rw [fTell_out (by have h9 := c11; rw [isTg_nI (by omega)] at h9; simpa using h9)]); rfl
      rw [hfin] at hP hD
      exact W.zret (ty := .boolean) (v := nI 0) hx hb hr (by first | rfl | decide | exact bI_nar _) (fun t ht hW => ⟨⟨_, (), rfl, by (first | rw [fTell_none ho.symm] | rw [fTell_out (by have h9 := c11; rw [isTg_nI (by omega)] at h9; simpa using h9)]); rfl, by rw [ht]; exact hP, va_K.moved hW.alike hK, hD⟩, hS.F ht⟩) hS.2.2 dX0_followTell_21
  | some b =>
    have hlto := (fnd_lt ho.symm).1
    refine W.eq (g2 := F0 m 5 ls [.int (nI b)]) rfl ?_
    refine lv_istore (lv' := [(4, .int (nI b)), (0, .ref (h 0)), (1, .int (nI t)), (2, .long d)]) hx hb dX0_followTell_5 hl (by decide) rfl (fun ls hl => ?_)
    refine lv_iload_n hx hb dX0_followTell_7 rfl (lv_at hl 2 rfl) ?_
    refine xr_roi (va_runS (As := [.int (nI t)]) (rest := []) ⟨hx, hb, hml, hown, htg⟩ (c_isTag l (nI t) dC dI cI 0 _) (va_cwS 1 htg gX0_157 rfl rfl rfl (by decide +kernel) ⟨Nat.le_of_ble_eq_true rfl, Nat.le_of_ble_eq_true rfl⟩) ⟨fun a U g mk q => q, fun U hU hW => ⟨rfl, by show U.heap.size = _; rw [hU]⟩⟩ rfl rfl hl.1 rfl (lv_room (Nat.le_of_ble_eq_true rfl)) dX0_followTell_8 ⟨Nat.zero_le _, Nat.zero_le _⟩) hP hS hA (fun H locs hP hS _ => ?_)
    refine xr_ifeqB (tgt := 20) hx hb dX0_followTell_11 (by decide) (fun c11 => ?_) (fun c11 => ?_)
    · refine lv_iconst (v := nI 0) hx hb dX0_followTell_20 (by decide) ?_
      have hfin : σ = ofO (fTell σ t d) σ := by (first | rw [fTell_none ho.symm] | rw [fTell_out (by have h9 := c11; rw [isTg_nI (by omega)] at h9; simpa using h9)]); rfl
      rw [hfin] at hP hD
      exact W.zret (ty := .boolean) (v := nI 0) hx hb hr (by first | rfl | decide | exact bI_nar _) (fun t ht hW => ⟨⟨_, (), rfl, by (first | rw [fTell_none ho.symm] | rw [fTell_out (by have h9 := c11; rw [isTg_nI (by omega)] at h9; simpa using h9)]); rfl, by rw [ht]; exact hP, va_K.moved hW.alike hK, hD⟩, hS.F ht⟩) hS.2.2 dX0_followTell_21
    · refine lv_iload hx hb dX0_followTell_14 (lv_at hl 0 rfl) ?_
      refine lv_iconst (v := -1) hx hb dX0_followTell_16 (by decide) ?_
      refine lv_icmp_ne (tgt := 22) hx hb dX0_followTell_17 (by decide) (fun _ => ?_) (fun c => absurd c (optI_none (by omega)))
      refine lv_aload_n hx hb dX0_followTell_22 rfl (lv_at hl 1 rfl) ?_
      refine va_get (D := (dC, dI)) (ci := 0) (v := .ref (h 6)) (C := RX0) (T := TX0) (N := 14) hx hb htg inX0 (fs := fsBJ h σ) hown hK hP 0 rfl rfl 9 (by decide) (htg _ fX0_26) (fun _ h9 => h9) rfl dX0_followTell_23 ?_
      refine lv_iload_n hx hb dX0_followTell_26 rfl (lv_at hl 2 rfl) ?_
      refine lv_iload hx hb dX0_followTell_27 (lv_at hl 0 rfl) ?_
      have ht8 : t < 8 := by have h9 := c11; rw [isTg_nI (by omega)] at h9; simpa using h9
      refine xr_iast (f := jgTB σ) (i := t) (x := nI b) hx hb hK hP hD hS 6 0 rfl rfl (by omega) (by decide) dX0_followTell_29 (fun H locs hP hD hS => ?_)
      rw [wBJ_TB] at hP hD
      refine lv_iconst (v := nI 1) hx hb dX0_followTell_30 (by decide) ?_
      have hfin : juTB σ (upd (jgTB σ) t (nI b)) = ofO (fTell σ t d) σ := by rw [fTell_some ho.symm (by have h9 := c11; rw [isTg_nI (by omega)] at h9; simpa using h9)]; rfl
      rw [hfin] at hP hD
      exact W.zret (ty := .boolean) (v := nI 1) hx hb hr (by first | rfl | decide | exact bI_nar _) (fun t ht hW => ⟨⟨_, (), rfl, by rw [fTell_some ho.symm (by have h9 := c11; rw [isTg_nI (by omega)] at h9; simpa using h9)]; rfl, by rw [ht]; exact hP, va_K.moved hW.alike hK, hD⟩, hS.F ht⟩) hS.2.2 dX0_followTell_31
set_option maxRecDepth 100000 in
set_option maxHeartbeats 4000000 in
theorem c_followUntell (l : Launch) (σ : BJ) (t : Nat) (ht : t < 256) : wBi l yX0_followUntell wsX0_followUntell ({ frames := 1, cells := 0, slots := 0, locals := 20 } : Room) σ [.int (nI t)] (bI ((fUntell σ t).isSome)) (ofO (fUntell σ t) σ) := by
  intro dC dI cI cJ h sz
  refine Met.ofW (cc := cX0_followUntell) (maxL := 2) (ret := (some .boolean)) (by decide) rfl ?_
  intro p e s m args below meth c s₁ B hml hv
  obtain ⟨rfl, hsz, hP, hK, hD0⟩ := hv
  have hx := B.exec
  have hb := B.bytes
  have hr := B.returns
  have hts := atoms_spec (ws := wsX0_followUntell) B.pre
  have hown : s.vm.findClass RX0 = some m.cls := findClass_of_methodNamed B.named
  have hlocks := B.notSynchronized
  subst hsz
  have htg : ∀ w ∈ GW, w.before _ s = true := fun w h => hts w (List.mem_cons_of_mem _ h)
  have hD := hD0.self (sz := s.heap.size)
  generalize hAe : va_A (wBJ cI cJ h σ) s.heap.size = A at hD ⊢
  have hA : ∀ q : Nat, s.heap.size ≤ q → A q := fun q h => by rw [← hAe]; exact Or.inr h
  have hS : va_S A s.heap s.heap [] := va_S.rf
  have hl := lv_entry [.ref (h 0), .int (nI t)] (n := 2) (Nat.le_of_ble_eq_true rfl)
  rw [lg_entry_eq]
  generalize (lg_sl [.ref (h 0), .int (nI t)] ++ List.replicate (2 - (lg_sl [.ref (h 0), .int (nI t)]).length) Slot.unset).toArray = ls at hl ⊢
  have hl : lv_has ls 2 [(0, .ref (h 0)), (1, .int (nI t))] := hl
  have hP : va_P (dC, dI) vwCl (wBJ cI cJ h σ) s.heap := hP
  refine lv_iload_n hx hb dX0_followUntell_0 rfl (lv_at hl 1 rfl) ?_
  refine xr_roi (va_runS (As := [.int (nI t)]) (rest := []) ⟨hx, hb, hml, hown, htg⟩ (c_isTag l (nI t) dC dI cI 0 _) (va_cwS 1 htg gX0_157 rfl rfl rfl (by decide +kernel) ⟨Nat.le_of_ble_eq_true rfl, Nat.le_of_ble_eq_true rfl⟩) ⟨fun a U g mk q => q, fun U hU hW => ⟨rfl, by show U.heap.size = _; rw [hU]⟩⟩ rfl rfl hl.1 rfl (lv_room (Nat.le_of_ble_eq_true rfl)) dX0_followUntell_1 ⟨Nat.zero_le _, Nat.zero_le _⟩) hP hS hA (fun H locs hP hS _ => ?_)
  refine xr_ifneB (tgt := 9) hx hb dX0_followUntell_4 (by decide) (fun c4 => ?_) (fun c4 => ?_)
  · refine lv_aload_n hx hb dX0_followUntell_9 rfl (lv_at hl 0 rfl) ?_
    refine va_get (D := (dC, dI)) (ci := 0) (v := .ref (h 6)) (C := RX0) (T := TX0) (N := 14) hx hb htg inX0 (fs := fsBJ h σ) hown hK hP 0 rfl rfl 9 (by decide) (htg _ fX0_26) (fun _ h9 => h9) rfl dX0_followUntell_10 ?_
    refine lv_iload_n hx hb dX0_followUntell_13 rfl (lv_at hl 1 rfl) ?_
    refine lv_iconst (v := -1) hx hb dX0_followUntell_14 (by decide) ?_
    have ht8 : t < 8 := by have h9 := c4; rw [isTg_nI (by omega)] at h9; simpa using h9
    refine xr_iast (f := jgTB σ) (i := t) (x := -1) hx hb hK hP hD hS 6 0 rfl rfl (by omega) (by decide) dX0_followUntell_15 (fun H locs hP hD hS => ?_)
    rw [wBJ_TB] at hP hD
    refine lv_iconst (v := nI 1) hx hb dX0_followUntell_16 (by decide) ?_
    have hfin : juTB σ (upd (jgTB σ) t (-1)) = ofO (fUntell σ t) σ := by rw [fUntell, if_pos ht8]; rfl
    rw [hfin] at hP hD
    exact W.zret (ty := .boolean) (v := nI 1) hx hb hr (by first | rfl | decide | exact bI_nar _) (fun t ht hW => ⟨⟨_, (), rfl, by rw [fUntell, if_pos ht8]; rfl, by rw [ht]; exact hP, va_K.moved hW.alike hK, hD⟩, hS.F ht⟩) hS.2.2 dX0_followUntell_17
  · refine lv_iconst (v := nI 0) hx hb dX0_followUntell_7 (by decide) ?_
    have hfin : σ = ofO (fUntell σ t) σ := by rw [fUntell, if_neg (by have h9 := c4; rw [isTg_nI (by omega)] at h9; simpa using h9)]; rfl
    rw [hfin] at hP hD
    exact W.zret (ty := .boolean) (v := nI 0) hx hb hr (by first | rfl | decide | exact bI_nar _) (fun t ht hW => ⟨⟨_, (), rfl, by rw [fUntell, if_neg (by have h9 := c4; rw [isTg_nI (by omega)] at h9; simpa using h9)]; rfl, by rw [ht]; exact hP, va_K.moved hW.alike hK, hD⟩, hS.F ht⟩) hS.2.2 dX0_followUntell_8
