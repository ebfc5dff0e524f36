set_option maxRecDepth 100000 in
set_option maxHeartbeats 4000000 in
theorem c_followKey (l : Launch) (σ : BJ) (k : Int64) (d : Int64) (hc : jgKc σ ≤ 16) : wBi l yX0_followKey wsX0_followKey ({ frames := 1, cells := 0, slots := 0, locals := 23 } : Room) σ [.long k, .long d] (bI ((fKey σ k d).isSome)) (ofO (fKey σ k d) σ) := by
  intro dC dI cI cJ h sz
  refine Met.ofW (cc := cX0_followKey) (maxL := 6) (ret := (some .boolean)) (by decide) rfl ?_
  intro p e s m args below meth c s₁ B hml hv
  obtain ⟨rfl, hsz, hP, hK, hD0⟩ := hv
  have hx := B.exec
  have hb := B.bytes
  have hr := B.returns
  have hts := atoms_spec (ws := wsX0_followKey) B.pre
  have hown : s.vm.findClass RX0 = some m.cls := findClass_of_methodNamed B.named
  have hlocks := B.notSynchronized
  subst hsz
  have htg : ∀ w ∈ GW, w.before _ s = true := fun w h => hts w (List.mem_cons_of_mem _ h)
  have hD := hD0.self (sz := s.heap.size)
  generalize hAe : va_A (wBJ cI cJ h σ) s.heap.size = A at hD ⊢
  have hA : ∀ q : Nat, s.heap.size ≤ q → A q := fun q h => by rw [← hAe]; exact Or.inr h
  have hS : va_S A s.heap s.heap [] := va_S.rf
  have hl := lv_entry [.ref (h 0), .long k, .long d] (n := 6) (Nat.le_of_ble_eq_true rfl)
  rw [lg_entry_eq]
  generalize (lg_sl [.ref (h 0), .long k, .long d] ++ List.replicate (6 - (lg_sl [.ref (h 0), .long k, .long d]).length) Slot.unset).toArray = ls at hl ⊢
  have hl : lv_has ls 6 [(0, .ref (h 0)), (1, .long k), (3, .long d)] := hl
  have hP : va_P (dC, dI) vwCl (wBJ cI cJ h σ) s.heap := hP
  refine lv_aload_n hx hb dX0_followKey_0 rfl (lv_at hl 0 rfl) ?_
  refine lv_lload_n hx hb dX0_followKey_1 rfl (lv_at hl 1 rfl) ?_
  refine bj_ri (As := [.long k]) (rest := []) (n := 1) ⟨hx, hb, hml, hown, htg⟩ (c_findKey l σ k (by omega)) (cwV 1 htg gX0_103 rfl rfl rfl (by decide +kernel) ⟨Nat.le_of_ble_eq_true rfl, Nat.le_of_ble_eq_true rfl⟩) hK hP hD hS hA hl.1 rfl rfl (Nat.le_of_ble_eq_true rfl) dX0_followKey_2 (Nat.zero_le _) (Nat.zero_le _) (fun H locs hP hS => ?_)
  obtain ⟨o, ho⟩ : ∃ zq, zq = fnd (jgKS σ) k (jgKc σ) := ⟨_, rfl⟩
  rw [← ho]
  cases o with
  | none =>
    refine W.eq (g2 := F0 m 5 ls [.int (-1)]) rfl ?_
    refine lv_istore (lv' := [(5, .int (-1)), (0, .ref (h 0)), (1, .long k), (3, .long d)]) hx hb dX0_followKey_5 hl (by decide) rfl (fun ls hl => ?_)
    refine lv_iload hx hb dX0_followKey_7 (lv_at hl 0 rfl) ?_
    refine lv_iconst (v := -1) hx hb dX0_followKey_9 (by decide) ?_
    refine lv_icmp_ne (tgt := 48) hx hb dX0_followKey_10 (by decide) (fun c => absurd rfl c) (fun _ => ?_)
    refine lv_aload_n hx hb dX0_followKey_13 rfl (lv_at hl 1 rfl) ?_
    refine va_get (D := (dC, dI)) (ci := 0) (v := .int (nI (jgKc σ))) (C := RX0) (T := TX0) (N := 14) hx hb htg inX0 (fs := fsBJ h σ) hown hK hP 0 rfl rfl 12 (by decide) (htg _ fX0_106) (fun _ h9 => h9) rfl dX0_followKey_14 ?_
    refine lv_bipush (v := nI 16) hx hb dX0_followKey_17 (by decide) ?_
    refine xr_icmp_lt (tgt := 24) hx hb dX0_followKey_19 (by decide) (by omega) (by omega) (fun c19 => ?_) (fun c19 => ?_)
    · refine lv_aload_n hx hb dX0_followKey_24 rfl (lv_at hl 1 rfl) ?_
      refine va_get (D := (dC, dI)) (ci := 0) (v := .int (nI (jgKc σ))) (C := RX0) (T := TX0) (N := 14) hx hb htg inX0 (fs := fsBJ h σ) hown hK hP 0 rfl rfl 12 (by decide) (htg _ fX0_106) (fun _ h9 => h9) rfl dX0_followKey_25 ?_
      refine lv_istore (lv' := [(5, .int (nI (jgKc σ))), (0, .ref (h 0)), (1, .long k), (3, .long d)]) hx hb dX0_followKey_28 hl (by decide) rfl (fun ls hl => ?_)
      refine lv_aload_n hx hb dX0_followKey_30 rfl (lv_at hl 1 rfl) ?_
      refine va_get (D := (dC, dI)) (ci := 0) (v := .ref (h 7)) (C := RX0) (T := TX0) (N := 14) hx hb htg inX0 (fs := fsBJ h σ) hown hK hP 0 rfl rfl 10 (by decide) (htg _ fX0_35) (fun _ h9 => h9) rfl dX0_followKey_31 ?_
      refine lv_iload hx hb dX0_followKey_34 (lv_at hl 0 rfl) ?_
      refine lv_lload_n hx hb dX0_followKey_36 rfl (lv_at hl 2 rfl) ?_
      refine xr_last (f := jgKS σ) (i := jgKc σ) (x := k) hx hb hK hP hD hS 7 1 rfl rfl (by omega) (by decide) dX0_followKey_37 (fun H locs hP hD hS => ?_)
      rw [wBJ_KS] at hP hD
      refine lv_aload_n hx hb dX0_followKey_38 rfl (lv_at hl 1 rfl) ?_
      refine lv_dup hx hb dX0_followKey_39 rfl ?_
      refine va_get (D := (dC, dI)) (ci := 0) (v := .int (nI (jgKc σ))) (C := RX0) (T := TX0) (N := 14) hx hb htg inX0 (fs := fsBJ h (juKS σ (vp_updL (jgKS σ) (jgKc σ) k))) hown hK hP 0 rfl rfl 12 (by decide) (htg _ fX0_106) (fun _ h9 => h9) rfl dX0_followKey_40 ?_
      refine lv_iconst (v := nI 1) hx hb dX0_followKey_43 (by decide) ?_
      refine xr_iadd hx hb dX0_followKey_44 ?_
      refine va_put (D := (dC, dI)) (ci := 0) (v := .int (nI (jgKc σ + 1))) (ty := .int) (C := RX0) (T := TX0) (N := 14) hx hb htg inX0 tyX0 tyX0_ok nmX0 (fs := fsBJ h (juKS σ (vp_updL (jgKS σ) (jgKc σ) k))) hown hK hP hD hS 0 rfl rfl 12 (by decide) (htg _ fX0_106) (fun _ h9 => h9) rfl (by decide +kernel) rfl rfl (Nat.le_of_ble_eq_true rfl) dX0_followKey_45 (fun H locs hP hD hS => ?_)
      rw [wBJ_Kc] at hP hD
      refine lv_aload_n hx hb dX0_followKey_48 rfl (lv_at hl 1 rfl) ?_
      refine va_get (D := (dC, dI)) (ci := 0) (v := .ref (h 8)) (C := RX0) (T := TX0) (N := 14) hx hb htg inX0 (fs := fsBJ h (juKc (juKS σ (vp_updL (jgKS σ) (jgKc σ) k)) (jgKc σ + 1))) hown hK hP 0 rfl rfl 11 (by decide) (htg _ fX0_38) (fun _ h9 => h9) rfl dX0_followKey_49 ?_
      refine lv_iload hx hb dX0_followKey_52 (lv_at hl 0 rfl) ?_
      refine lv_lload_n hx hb dX0_followKey_54 rfl (lv_at hl 3 rfl) ?_
      refine xr_last (f := jgKD σ) (i := jgKc σ) (x := d) hx hb hK hP hD hS 8 1 rfl rfl (by omega) (by decide) dX0_followKey_55 (fun H locs hP hD hS => ?_)
      rw [wBJ_KD] at hP hD
      refine lv_iconst (v := nI 1) hx hb dX0_followKey_56 (by decide) ?_
      have hfin : juKD (juKc (juKS σ (vp_updL (jgKS σ) (jgKc σ) k)) (jgKc σ + 1)) (vp_updL (jgKD σ) (jgKc σ) d) = ofO (fKey σ k d) σ := by (first | rw [fKey_some ho.symm] | rw [fKey_new ho.symm (by omega)]); rfl
      rw [hfin] at hP hD
      exact W.zret (ty := .boolean) (v := nI 1) hx hb hr (by first | rfl | decide | exact bI_nar _) (fun t ht hW => ⟨⟨_, (), rfl, by (first | rw [fKey_some ho.symm] | rw [fKey_new ho.symm (by omega)]); rfl, by rw [ht]; exact hP, va_K.moved hW.alike hK, hD⟩, hS.F ht⟩) hS.2.2 dX0_followKey_57
    · refine lv_iconst (v := nI 0) hx hb dX0_followKey_22 (by decide) ?_
      have hfin : σ = ofO (fKey σ k d) σ := by (rw [fKey_full ho.symm (by omega)]); rfl
      rw [hfin] at hP hD
      exact W.zret (ty := .boolean) (v := nI 0) hx hb hr (by first | rfl | decide | exact bI_nar _) (fun t ht hW => ⟨⟨_, (), rfl, by (rw [fKey_full ho.symm (by omega)]); rfl, by rw [ht]; exact hP, va_K.moved hW.alike hK, hD⟩, hS.F ht⟩) hS.2.2 dX0_followKey_23
  | some b =>
    have hlto := (fnd_lt ho.symm).1
    refine W.eq (g2 := F0 m 5 ls [.int (nI b)]) rfl ?_
    refine lv_istore (lv' := [(5, .int (nI b)), (0, .ref (h 0)), (1, .long k), (3, .long d)]) hx hb dX0_followKey_5 hl (by decide) rfl (fun ls hl => ?_)
    refine lv_iload hx hb dX0_followKey_7 (lv_at hl 0 rfl) ?_
    refine lv_iconst (v := -1) hx hb dX0_followKey_9 (by decide) ?_
    refine lv_icmp_ne (tgt := 48) hx hb dX0_followKey_10 (by decide) (fun _ => ?_) (fun c => absurd c (optI_none (by omega)))
    refine lv_aload_n hx hb dX0_followKey_48 rfl (lv_at hl 1 rfl) ?_
    refine va_get (D := (dC, dI)) (ci := 0) (v := .ref (h 8)) (C := RX0) (T := TX0) (N := 14) hx hb htg inX0 (fs := fsBJ h σ) hown hK hP 0 rfl rfl 11 (by decide) (htg _ fX0_38) (fun _ h9 => h9) rfl dX0_followKey_49 ?_
    refine lv_iload hx hb dX0_followKey_52 (lv_at hl 0 rfl) ?_
    refine lv_lload_n hx hb dX0_followKey_54 rfl (lv_at hl 3 rfl) ?_
    refine xr_last (f := jgKD σ) (i := b) (x := d) hx hb hK hP hD hS 8 1 rfl rfl (by omega) (by decide) dX0_followKey_55 (fun H locs hP hD hS => ?_)
    rw [wBJ_KD] at hP hD
    refine lv_iconst (v := nI 1) hx hb dX0_followKey_56 (by decide) ?_
    have hfin : juKD σ (vp_updL (jgKD σ) b d) = ofO (fKey σ k d) σ := by (first | rw [fKey_some ho.symm] | rw [fKey_new ho.symm (by omega)]); rfl
    rw [hfin] at hP hD
    exact W.zret (ty := .boolean) (v := nI 1) hx hb hr (by first | rfl | decide | exact bI_nar _) (fun t ht hW => ⟨⟨_, (), rfl, by (first | rw [fKey_some ho.symm] | rw [fKey_new ho.symm (by omega)]); rfl, by rw [ht]; exact hP, va_K.moved hW.alike hK, hD⟩, hS.F ht⟩) hS.2.2 dX0_followKey_57
