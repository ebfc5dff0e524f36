set_option maxRecDepth 100000 in
set_option maxHeartbeats 4000000 in
theorem c_digest (l : Launch) (σ : BJ) (ht : jgTc σ ≤ 64) : rBl l yX0_digest wsX0_digest ({ frames := 1, cells := 0, slots := 0, locals := 25 } : Room) σ [] (dg (jgT σ) 0 (jgTc σ)) := by
  intro dC dI cI cJ h sz
  refine Met.ofW (cc := cX0_digest) (maxL := 1) (ret := (some .long)) (by decide) rfl ?_
  intro p e s m args below meth c s₁ B hml hv
  obtain ⟨rfl, hsz, hP, hK, hD0⟩ := hv
  have hx := B.exec
  have hb := B.bytes
  have hr := B.returns
  have hts := atoms_spec (ws := wsX0_digest) B.pre
  have hown : s.vm.findClass RX0 = some m.cls := findClass_of_methodNamed B.named
  have hlocks := B.notSynchronized
  subst hsz
  have htg : ∀ w ∈ GW, w.before _ s = true := fun w h => hts w (List.mem_cons_of_mem _ h)
  have hD := hD0
  have hA : ∀ q : Nat, s.heap.size ≤ q → (fun q => s.heap.size ≤ q) q := fun _ h => h
  have hS : va_S (fun q => s.heap.size ≤ q) s.heap s.heap [] := va_S.rf
  have hl := lv_entry [.ref (h 0)] (n := 1) (Nat.le_of_ble_eq_true rfl)
  rw [lg_entry_eq]
  generalize (lg_sl [.ref (h 0)] ++ List.replicate (1 - (lg_sl [.ref (h 0)]).length) Slot.unset).toArray = ls at hl ⊢
  have hl : lv_has ls 1 [(0, .ref (h 0))] := hl
  have hP : va_P (dC, dI) vwCl (wBJ cI cJ h σ) s.heap := hP
  refine lv_aload_n hx hb dX0_digest_0 rfl (lv_at hl 0 rfl) ?_
  refine va_get (D := (dC, dI)) (ci := 0) (v := .ref (h 1)) (C := RX0) (T := TX0) (N := 14) hx hb htg inX0 (fs := fsBJ h σ) hown hK hP 0 rfl rfl 0 (by decide) (htg _ fX0_9) (fun _ h9 => h9) rfl dX0_digest_1 ?_
  refine lv_iconst (v := nI 0) hx hb dX0_digest_4 (by decide) ?_
  refine lv_aload_n hx hb dX0_digest_5 rfl (lv_at hl 0 rfl) ?_
  refine va_get (D := (dC, dI)) (ci := 0) (v := .int (nI (jgTc σ))) (C := RX0) (T := TX0) (N := 14) hx hb htg inX0 (fs := fsBJ h σ) hown hK hP 0 rfl rfl 1 (by decide) (htg _ fX0_44) (fun _ h9 => h9) rfl dX0_digest_6 ?_
  refine xr_rol (va_runS (As := [.ref (h 1), .int (nI 0), .int (nI (jgTc σ))]) (rest := []) ⟨hx, hb, hml, hown, htg⟩ (c_digestOf l (jgT σ) 64 0 (jgTc σ) (by omega) (by decide) dC dI cI (h 1) _) (va_cwS 3 htg gX0_60 rfl rfl rfl (by decide +kernel) ⟨Nat.le_of_ble_eq_true rfl, Nat.le_of_ble_eq_true rfl⟩) ⟨fun a U g mk q => ⟨q.1, q.2.1, q.2.2.1, va_K.moved (u := U) (U := U.calling g mk a) (Vm.Alike.refl U.vm) q.2.2.2⟩, fun U hU hW => ⟨rfl, by rw [hU], by rw [hU]; exact hP.sub [1] rfl, va_K.moved hW.alike (hK.sub [0] rfl)⟩⟩ rfl rfl hl.1 rfl (lv_room (Nat.le_of_ble_eq_true rfl)) dX0_digest_9 ⟨Nat.zero_le _, Nat.zero_le _⟩) hP hS hA (fun H locs hP hS _ => ?_)
  exact W.lret (v := dg (jgT σ) 0 (jgTc σ)) hx hb hr (fun t ht hW => ⟨⟨_, (), rfl, rfl, trivial⟩, hS.F ht⟩) hS.2.2 dX0_digest_12
set_option maxRecDepth 100000 in
set_option maxHeartbeats 4000000 in
theorem c_cut (l : Launch) (σ : BJ) (k : Nat) (hk : k ≤ jgTc σ) (ht : jgTc σ ≤ 64) : wBv l yX0_cut wsX0_cut ({ frames := 0, cells := 0, slots := 0, locals := 0 } : Room) σ [.int (nI k)] (juTc σ k) := by
  intro dC dI cI cJ h sz
  refine Met.ofW (cc := cX0_cut) (maxL := 2) (ret := none) (by decide) rfl ?_
  intro p e s m args below meth c s₁ B hml hv
  obtain ⟨rfl, hsz, hP, hK, hD0⟩ := hv
  have hx := B.exec
  have hb := B.bytes
  have hr := B.returns
  have hts := atoms_spec (ws := wsX0_cut) B.pre
  have hown : s.vm.findClass RX0 = some m.cls := findClass_of_methodNamed B.named
  have hlocks := B.notSynchronized
  subst hsz
  have htg : ∀ w ∈ GW, w.before _ s = true := fun w h => hts w (List.mem_cons_of_mem _ h)
  have hD := hD0.self (sz := s.heap.size)
  generalize hAe : va_A (wBJ cI cJ h σ) s.heap.size = A at hD ⊢
  have hA : ∀ q : Nat, s.heap.size ≤ q → A q := fun q h => by rw [← hAe]; exact Or.inr h
  have hS : va_S A s.heap s.heap [] := va_S.rf
  have hl := lv_entry [.ref (h 0), .int (nI k)] (n := 2) (Nat.le_of_ble_eq_true rfl)
  rw [lg_entry_eq]
  generalize (lg_sl [.ref (h 0), .int (nI k)] ++ List.replicate (2 - (lg_sl [.ref (h 0), .int (nI k)]).length) Slot.unset).toArray = ls at hl ⊢
  have hl : lv_has ls 2 [(0, .ref (h 0)), (1, .int (nI k))] := hl
  have hP : va_P (dC, dI) vwCl (wBJ cI cJ h σ) s.heap := hP
  refine lv_iload_n hx hb dX0_cut_0 rfl (lv_at hl 1 rfl) ?_
  refine lv_if_lt (tgt := 12) hx hb dX0_cut_1 (by decide) (fun c1 => absurd c1 (by exact nI_pos (by omega))) (fun c1 => ?_)
  refine lv_iload_n hx hb dX0_cut_4 rfl (lv_at hl 1 rfl) ?_
  refine lv_aload_n hx hb dX0_cut_5 rfl (lv_at hl 0 rfl) ?_
  refine va_get (D := (dC, dI)) (ci := 0) (v := .int (nI (jgTc σ))) (C := RX0) (T := TX0) (N := 14) hx hb htg inX0 (fs := fsBJ h σ) hown hK hP 0 rfl rfl 1 (by decide) (htg _ fX0_44) (fun _ h9 => h9) rfl dX0_cut_6 ?_
  refine xr_icmp_le (tgt := 22) hx hb dX0_cut_9 (by decide) (by omega) (by omega) (fun c9 => ?_) (fun c9 => absurd c9 (by omega))
  refine lv_aload_n hx hb dX0_cut_22 rfl (lv_at hl 0 rfl) ?_
  refine lv_iload_n hx hb dX0_cut_23 rfl (lv_at hl 1 rfl) ?_
  refine va_put (D := (dC, dI)) (ci := 0) (v := .int (nI k)) (ty := .int) (C := RX0) (T := TX0) (N := 14) hx hb htg inX0 tyX0 tyX0_ok nmX0 (fs := fsBJ h σ) hown hK hP hD hS 0 rfl rfl 1 (by decide) (htg _ fX0_44) (fun _ h9 => h9) rfl (by decide +kernel) rfl rfl (Nat.le_of_ble_eq_true rfl) dX0_cut_24 (fun H locs hP hD hS => ?_)
  rw [wBJ_Tc] at hP hD
  have hfin : juTc σ k = juTc σ k := rfl
  rw [hfin] at hP hD
  exact W.vret hx hb hr (fun t ht hW => ⟨⟨(), rfl, trivial, by rw [ht]; exact hP, va_K.moved hW.alike hK, hD⟩, hS.F ht⟩) hS.2.2 dX0_cut_27
set_option maxRecDepth 100000 in
set_option maxHeartbeats 4000000 in
theorem c_type (l : Launch) (σ : BJ) (v : Int32) (ht : jgTc σ + 4 ≤ 64) : wBi l yX0_type wsX0_type ({ frames := 0, cells := 0, slots := 0, locals := 0 } : Room) σ [.int v] (nI (jgTc σ + 4)) (juTc (juT σ (tyL (jgT σ) (jgTc σ) v 4)) (jgTc σ + 4)) := by
  intro dC dI cI cJ h sz
  refine Met.ofW (cc := cX0_type) (maxL := 3) (ret := (some .int)) (by decide) rfl ?_
  intro p e s m args below meth c s₁ B hml hv
  obtain ⟨rfl, hsz, hP, hK, hD0⟩ := hv
  have hx := B.exec
  have hb := B.bytes
  have hr := B.returns
  have hts := atoms_spec (ws := wsX0_type) B.pre
  have hown : s.vm.findClass RX0 = some m.cls := findClass_of_methodNamed B.named
  have hlocks := B.notSynchronized
  subst hsz
  have htg : ∀ w ∈ GW, w.before _ s = true := fun w h => hts w (List.mem_cons_of_mem _ h)
  have hD := hD0.self (sz := s.heap.size)
  generalize hAe : va_A (wBJ cI cJ h σ) s.heap.size = A at hD ⊢
  have hA : ∀ q : Nat, s.heap.size ≤ q → A q := fun q h => by rw [← hAe]; exact Or.inr h
  have hS : va_S A s.heap s.heap [] := va_S.rf
  have hl := lv_entry [.ref (h 0), .int v] (n := 3) (Nat.le_of_ble_eq_true rfl)
  rw [lg_entry_eq]
  generalize (lg_sl [.ref (h 0), .int v] ++ List.replicate (3 - (lg_sl [.ref (h 0), .int v]).length) Slot.unset).toArray = ls at hl ⊢
  have hl : lv_has ls 3 [(0, .ref (h 0)), (1, .int v)] := hl
  have hP : va_P (dC, dI) vwCl (wBJ cI cJ h σ) s.heap := hP
  refine lv_aload_n hx hb dX0_type_0 rfl (lv_at hl 0 rfl) ?_
  refine va_get (D := (dC, dI)) (ci := 0) (v := .int (nI (jgTc σ))) (C := RX0) (T := TX0) (N := 14) hx hb htg inX0 (fs := fsBJ h σ) hown hK hP 0 rfl rfl 1 (by decide) (htg _ fX0_44) (fun _ h9 => h9) rfl dX0_type_1 ?_
  refine lv_iconst (v := nI 4) hx hb dX0_type_4 (by decide) ?_
  refine xr_iadd hx hb dX0_type_5 ?_
  refine lv_bipush (v := nI 64) hx hb dX0_type_6 (by decide) ?_
  refine xr_icmp_le (tgt := 21) hx hb dX0_type_8 (by decide) (by omega) (by omega) (fun c8 => ?_) (fun c8 => absurd c8 (by omega))
  refine lv_iconst (v := nI 0) hx hb dX0_type_21 (by decide) ?_
  refine lv_istore_n (lv' := [(2, .int (nI 0)), (0, .ref (h 0)), (1, .int v)]) hx hb dX0_type_22 rfl hl (by decide) rfl (fun ls hl => ?_)
  have loop : ∀ (n i : Nat) (g : Nat → Int32), i ≤ 4 → 4 < i + n → g = tyL (jgT σ) (jgTc σ) v i → ∀ (H : Heap) (locs : List Loc), va_P (dC, dI) vwCl (wBJ cI cJ h (juT σ g)) H → va_D A (wBJ cI cJ h (juT σ g)) → va_S A s.heap H locs → ∀ (ls : Array Slot), lv_has ls 3 [(2, .int (nI i)), (0, .ref (h 0)), (1, .int v)] → W p l e (headSpec wsX0_type ({ frames := 0, cells := 0, slots := 0, locals := 0 } : Room)).room s m ([.ref (h 0), .int v].toArray) below meth c H locs 0 0 (MQ below (va_Qi (fun (r' : Int32) (_ : Unit) => r' = (nI (jgTc σ + 4))) (fun _ => aBJ dC dI cI cJ h A (juTc (juT σ (tyL (jgT σ) (jgTc σ) v 4)) (jgTc σ + 4))) A) ([.ref (h 0), .int v].toArray) s 0 0 A) (F0 m 23 ls []) := by
    intro n
    induction n with
    | zero => intro i g h1 h2; exact absurd h2 (by omega)
    | succ n ih =>
      intro i g hi hin eg H locs hP hD hS ls hl
      refine lv_iload_n hx hb dX0_type_23 rfl (lv_at hl 0 rfl) ?_
      refine lv_iconst (v := nI 4) hx hb dX0_type_24 (by decide) ?_
      refine xr_icmp_ge (tgt := 55) hx hb dX0_type_25 (by decide) (by omega) (by omega) (fun c25 => ?_) (fun c25 => ?_)
      · refine lv_aload_n hx hb dX0_type_55 rfl (lv_at hl 1 rfl) ?_
        refine lv_dup hx hb dX0_type_56 rfl ?_
        refine va_get (D := (dC, dI)) (ci := 0) (v := .int (nI (jgTc σ))) (C := RX0) (T := TX0) (N := 14) hx hb htg inX0 (fs := fsBJ h (juT σ g)) hown hK hP 0 rfl rfl 1 (by decide) (htg _ fX0_44) (fun _ h9 => h9) rfl dX0_type_57 ?_
        refine lv_iconst (v := nI 4) hx hb dX0_type_60 (by decide) ?_
        refine xr_iadd hx hb dX0_type_61 ?_
        refine va_put (D := (dC, dI)) (ci := 0) (v := .int (nI (jgTc σ + 4))) (ty := .int) (C := RX0) (T := TX0) (N := 14) hx hb htg inX0 tyX0 tyX0_ok nmX0 (fs := fsBJ h (juT σ g)) hown hK hP hD hS 0 rfl rfl 1 (by decide) (htg _ fX0_44) (fun _ h9 => h9) rfl (by decide +kernel) rfl rfl (Nat.le_of_ble_eq_true rfl) dX0_type_62 (fun H locs hP hD hS => ?_)
        rw [wBJ_Tc] at hP hD
        refine lv_aload_n hx hb dX0_type_65 rfl (lv_at hl 1 rfl) ?_
        refine va_get (D := (dC, dI)) (ci := 0) (v := .int (nI (jgTc σ + 4))) (C := RX0) (T := TX0) (N := 14) hx hb htg inX0 (fs := fsBJ h (juTc (juT σ g) (jgTc σ + 4))) hown hK hP 0 rfl rfl 1 (by decide) (htg _ fX0_44) (fun _ h9 => h9) rfl dX0_type_66 ?_
        have hfin : juTc (juT σ g) (jgTc σ + 4) = juTc (juT σ (tyL (jgT σ) (jgTc σ) v 4)) (jgTc σ + 4) := by rw [eg, show i = 4 by omega]
        rw [hfin] at hP hD
        exact W.iret (v := nI (jgTc σ + 4)) hx hb hr (fun t ht hW => ⟨⟨_, (), rfl, rfl, by rw [ht]; exact hP, va_K.moved hW.alike hK, hD⟩, hS.F ht⟩) hS.2.2 dX0_type_69
      · refine lv_aload_n hx hb dX0_type_28 rfl (lv_at hl 1 rfl) ?_
        refine va_get (D := (dC, dI)) (ci := 0) (v := .ref (h 1)) (C := RX0) (T := TX0) (N := 14) hx hb htg inX0 (fs := fsBJ h (juT σ g)) hown hK hP 0 rfl rfl 0 (by decide) (htg _ fX0_9) (fun _ h9 => h9) rfl dX0_type_29 ?_
        refine lv_aload_n hx hb dX0_type_32 rfl (lv_at hl 1 rfl) ?_
        refine va_get (D := (dC, dI)) (ci := 0) (v := .int (nI (jgTc σ))) (C := RX0) (T := TX0) (N := 14) hx hb htg inX0 (fs := fsBJ h (juT σ g)) hown hK hP 0 rfl rfl 1 (by decide) (htg _ fX0_44) (fun _ h9 => h9) rfl dX0_type_33 ?_
        refine lv_iload_n hx hb dX0_type_36 rfl (lv_at hl 0 rfl) ?_
        refine xr_iadd hx hb dX0_type_37 ?_
        refine lv_iload_n hx hb dX0_type_38 rfl (lv_at hl 2 rfl) ?_
        refine lv_bipush (v := nI 8) hx hb dX0_type_39 (by decide) ?_
        refine lv_iload_n hx hb dX0_type_41 rfl (lv_at hl 0 rfl) ?_
        refine xr_imul hx hb dX0_type_42 ?_
        refine lv_iushr (v := ((v).toUInt32 >>> (((nI (8 * i))).toUInt32 &&& Int32.toUInt32 31)).toInt32) hx hb dX0_type_43 rfl ?_
        refine lv_sipush (v := nI 255) hx hb dX0_type_44 (by decide) ?_
        refine lv_iand hx hb dX0_type_47 ?_
        refine xr_iast (f := g) (i := jgTc σ + i) (x := (((v).toUInt32 >>> (((nI (8 * i))).toUInt32 &&& Int32.toUInt32 31)).toInt32) &&& (nI 255)) hx hb hK hP hD hS 1 0 rfl rfl (by omega) (by decide) dX0_type_48 (fun H locs hP hD hS => ?_)
        rw [wBJ_T] at hP hD
        refine lv_iinc (v := nI (i + 1)) (lv' := [(2, .int (nI (i + 1))), (0, .ref (h 0)), (1, .int v)]) hx hb dX0_type_49 hl (k := 0) rfl (nI_add _ 1) (by decide) rfl (fun ls hl => ?_)
        refine lv_goto (tgt := 23) hx hb dX0_type_52 (by decide) ?_
        exact ih (i + 1) (upd g (jgTc σ + i) ((((v).toUInt32 >>> (((nI (8 * i))).toUInt32 &&& Int32.toUInt32 31)).toInt32) &&& (nI 255))) (by omega) (by omega) (by rw [eg]; rfl) H locs hP hD hS ls (lv_sub hl [0, 1, 2] rfl)
  exact loop (4 + 1) 0 (jgT σ) (by omega) (by omega) (rfl) _ _ hP hD hS ls (lv_sub hl [0, 1, 2] rfl)
set_option maxRecDepth 100000 in
set_option maxHeartbeats 4000000 in
theorem c_pin (l : Launch) (σ : BJ) (k : Nat) (d : Int64) (hk : k < 4) : wBv l yX0_pin wsX0_pin ({ frames := 0, cells := 0, slots := 0, locals := 0 } : Room) σ [.int (nI k), .long d] (juPD σ (vp_updL (jgPD σ) k d)) := by
  intro dC dI cI cJ h sz
  refine Met.ofW (cc := cX0_pin) (maxL := 4) (ret := none) (by decide) rfl ?_
  intro p e s m args below meth c s₁ B hml hv
  obtain ⟨rfl, hsz, hP, hK, hD0⟩ := hv
  have hx := B.exec
  have hb := B.bytes
  have hr := B.returns
  have hts := atoms_spec (ws := wsX0_pin) B.pre
  have hown : s.vm.findClass RX0 = some m.cls := findClass_of_methodNamed B.named
  have hlocks := B.notSynchronized
  subst hsz
  have htg : ∀ w ∈ GW, w.before _ s = true := fun w h => hts w (List.mem_cons_of_mem _ h)
  have hD := hD0.self (sz := s.heap.size)
  generalize hAe : va_A (wBJ cI cJ h σ) s.heap.size = A at hD ⊢
  have hA : ∀ q : Nat, s.heap.size ≤ q → A q := fun q h => by rw [← hAe]; exact Or.inr h
  have hS : va_S A s.heap s.heap [] := va_S.rf
  have hl := lv_entry [.ref (h 0), .int (nI k), .long d] (n := 4) (Nat.le_of_ble_eq_true rfl)
  rw [lg_entry_eq]
  generalize (lg_sl [.ref (h 0), .int (nI k), .long d] ++ List.replicate (4 - (lg_sl [.ref (h 0), .int (nI k), .long d]).length) Slot.unset).toArray = ls at hl ⊢
  have hl : lv_has ls 4 [(0, .ref (h 0)), (1, .int (nI k)), (2, .long d)] := hl
  have hP : va_P (dC, dI) vwCl (wBJ cI cJ h σ) s.heap := hP
  refine lv_iload_n hx hb dX0_pin_0 rfl (lv_at hl 1 rfl) ?_
  refine lv_if_lt (tgt := 9) hx hb dX0_pin_1 (by decide) (fun c1 => absurd c1 (by exact nI_pos (by omega))) (fun c1 => ?_)
  refine lv_iload_n hx hb dX0_pin_4 rfl (lv_at hl 1 rfl) ?_
  refine lv_iconst (v := nI 4) hx hb dX0_pin_5 (by decide) ?_
  refine xr_icmp_lt (tgt := 19) hx hb dX0_pin_6 (by decide) (by omega) (by omega) (fun c6 => ?_) (fun c6 => absurd c6 (by omega))
  refine lv_aload_n hx hb dX0_pin_19 rfl (lv_at hl 0 rfl) ?_
  refine va_get (D := (dC, dI)) (ci := 0) (v := .ref (h 9)) (C := RX0) (T := TX0) (N := 14) hx hb htg inX0 (fs := fsBJ h σ) hown hK hP 0 rfl rfl 13 (by decide) (htg _ fX0_41) (fun _ h9 => h9) rfl dX0_pin_20 ?_
  refine lv_iload_n hx hb dX0_pin_23 rfl (lv_at hl 1 rfl) ?_
  refine lv_lload_n hx hb dX0_pin_24 rfl (lv_at hl 2 rfl) ?_
  refine xr_last (f := jgPD σ) (i := k) (x := d) hx hb hK hP hD hS 9 1 rfl rfl (by omega) (by decide) dX0_pin_25 (fun H locs hP hD hS => ?_)
  rw [wBJ_PD] at hP hD
  have hfin : juPD σ (vp_updL (jgPD σ) k d) = juPD σ (vp_updL (jgPD σ) k d) := rfl
  rw [hfin] at hP hD
  exact W.vret hx hb hr (fun t ht hW => ⟨⟨(), rfl, trivial, by rw [ht]; exact hP, va_K.moved hW.alike hK, hD⟩, hS.F ht⟩) hS.2.2 dX0_pin_26
set_option maxRecDepth 100000 in
set_option maxHeartbeats 4000000 in
theorem c_sync (l : Launch) (σ : BJ) : wBv l yX0_sync wsX0_sync ({ frames := 0, cells := 0, slots := 0, locals := 0 } : Room) σ [] (juSc σ (jgWc σ)) := by
  intro dC dI cI cJ h sz
  refine Met.ofW (cc := cX0_sync) (maxL := 1) (ret := none) (by decide) rfl ?_
  intro p e s m args below meth c s₁ B hml hv
  obtain ⟨rfl, hsz, hP, hK, hD0⟩ := hv
  have hx := B.exec
  have hb := B.bytes
  have hr := B.returns
  have hts := atoms_spec (ws := wsX0_sync) B.pre
  have hown : s.vm.findClass RX0 = some m.cls := findClass_of_methodNamed B.named
  have hlocks := B.notSynchronized
  subst hsz
  have htg : ∀ w ∈ GW, w.before _ s = true := fun w h => hts w (List.mem_cons_of_mem _ h)
  have hD := hD0.self (sz := s.heap.size)
  generalize hAe : va_A (wBJ cI cJ h σ) s.heap.size = A at hD ⊢
  have hA : ∀ q : Nat, s.heap.size ≤ q → A q := fun q h => by rw [← hAe]; exact Or.inr h
  have hS : va_S A s.heap s.heap [] := va_S.rf
  have hl := lv_entry [.ref (h 0)] (n := 1) (Nat.le_of_ble_eq_true rfl)
  rw [lg_entry_eq]
  generalize (lg_sl [.ref (h 0)] ++ List.replicate (1 - (lg_sl [.ref (h 0)]).length) Slot.unset).toArray = ls at hl ⊢
  have hl : lv_has ls 1 [(0, .ref (h 0))] := hl
  have hP : va_P (dC, dI) vwCl (wBJ cI cJ h σ) s.heap := hP
  refine lv_aload_n hx hb dX0_sync_0 rfl (lv_at hl 0 rfl) ?_
  refine lv_aload_n hx hb dX0_sync_1 rfl (lv_at hl 0 rfl) ?_
  refine va_get (D := (dC, dI)) (ci := 0) (v := .int (nI (jgWc σ))) (C := RX0) (T := TX0) (N := 14) hx hb htg inX0 (fs := fsBJ h σ) hown hK hP 0 rfl rfl 3 (by decide) (htg _ fX0_124) (fun _ h9 => h9) rfl dX0_sync_2 ?_
  refine va_put (D := (dC, dI)) (ci := 0) (v := .int (nI (jgWc σ))) (ty := .int) (C := RX0) (T := TX0) (N := 14) hx hb htg inX0 tyX0 tyX0_ok nmX0 (fs := fsBJ h σ) hown hK hP hD hS 0 rfl rfl 4 (by decide) (htg _ fX0_127) (fun _ h9 => h9) rfl (by decide +kernel) rfl rfl (Nat.le_of_ble_eq_true rfl) dX0_sync_5 (fun H locs hP hD hS => ?_)
  rw [wBJ_Sc] at hP hD
  have hfin : juSc σ (jgWc σ) = juSc σ (jgWc σ) := rfl
  rw [hfin] at hP hD
  exact W.vret hx hb hr (fun t ht hW => ⟨⟨(), rfl, trivial, by rw [ht]; exact hP, va_K.moved hW.alike hK, hD⟩, hS.F ht⟩) hS.2.2 dX0_sync_8
set_option maxRecDepth 100000 in
set_option maxHeartbeats 4000000 in
theorem c_journal (l : Launch) (σ : BJ) (k : Nat) (hk : k < jgWc σ) (hw : jgWc σ ≤ 700) : rBi l yX0_journal wsX0_journal ({ frames := 0, cells := 0, slots := 0, locals := 0 } : Room) σ [.int (nI k)] (jgW σ k) := by
  intro dC dI cI cJ h sz
  refine Met.ofW (cc := cX0_journal) (maxL := 2) (ret := (some .int)) (by decide) rfl ?_
  intro p e s m args below meth c s₁ B hml hv
  obtain ⟨rfl, hsz, hP, hK, hD0⟩ := hv
  have hx := B.exec
  have hb := B.bytes
  have hr := B.returns
  have hts := atoms_spec (ws := wsX0_journal) B.pre
  have hown : s.vm.findClass RX0 = some m.cls := findClass_of_methodNamed B.named
  have hlocks := B.notSynchronized
  subst hsz
  have htg : ∀ w ∈ GW, w.before _ s = true := fun w h => hts w (List.mem_cons_of_mem _ h)
  have hD := hD0
  have hA : ∀ q : Nat, s.heap.size ≤ q → (fun q => s.heap.size ≤ q) q := fun _ h => h
  have hS : va_S (fun q => s.heap.size ≤ q) s.heap s.heap [] := va_S.rf
  have hl := lv_entry [.ref (h 0), .int (nI k)] (n := 2) (Nat.le_of_ble_eq_true rfl)
  rw [lg_entry_eq]
  generalize (lg_sl [.ref (h 0), .int (nI k)] ++ List.replicate (2 - (lg_sl [.ref (h 0), .int (nI k)]).length) Slot.unset).toArray = ls at hl ⊢
  have hl : lv_has ls 2 [(0, .ref (h 0)), (1, .int (nI k))] := hl
  have hP : va_P (dC, dI) vwCl (wBJ cI cJ h σ) s.heap := hP
  refine lv_iload_n hx hb dX0_journal_0 rfl (lv_at hl 1 rfl) ?_
  refine lv_if_lt (tgt := 12) hx hb dX0_journal_1 (by decide) (fun c1 => absurd c1 (by exact nI_pos (by omega))) (fun c1 => ?_)
  refine lv_iload_n hx hb dX0_journal_4 rfl (lv_at hl 1 rfl) ?_
  refine lv_aload_n hx hb dX0_journal_5 rfl (lv_at hl 0 rfl) ?_
  refine va_get (D := (dC, dI)) (ci := 0) (v := .int (nI (jgWc σ))) (C := RX0) (T := TX0) (N := 14) hx hb htg inX0 (fs := fsBJ h σ) hown hK hP 0 rfl rfl 3 (by decide) (htg _ fX0_124) (fun _ h9 => h9) rfl dX0_journal_6 ?_
  refine xr_icmp_lt (tgt := 22) hx hb dX0_journal_9 (by decide) (by omega) (by omega) (fun c9 => ?_) (fun c9 => absurd c9 (by omega))
  refine lv_aload_n hx hb dX0_journal_22 rfl (lv_at hl 0 rfl) ?_
  refine va_get (D := (dC, dI)) (ci := 0) (v := .ref (h 2)) (C := RX0) (T := TX0) (N := 14) hx hb htg inX0 (fs := fsBJ h σ) hown hK hP 0 rfl rfl 2 (by decide) (htg _ fX0_13) (fun _ h9 => h9) rfl dX0_journal_23 ?_
  refine lv_iload_n hx hb dX0_journal_26 rfl (lv_at hl 1 rfl) ?_
  refine xr_iald (f := jgW σ) (i := k) hx hb hK hP 2 0 rfl rfl (by omega) (by decide) dX0_journal_27 ?_
  exact W.iret (v := (jgW σ) k) hx hb hr (fun t ht hW => ⟨⟨_, (), rfl, rfl, trivial⟩, hS.F ht⟩) hS.2.2 dX0_journal_28
set_option maxRecDepth 100000 in
set_option maxHeartbeats 4000000 in
theorem c_length (l : Launch) (σ : BJ) (d : Int64) (hc : jgBc σ ≤ 20) : rBi l yX0_length wsX0_length ({ frames := 1, cells := 0, slots := 0, locals := 23 } : Room) σ [.long d] (lenS σ d) := by
  intro dC dI cI cJ h sz
  refine Met.ofW (cc := cX0_length) (maxL := 4) (ret := (some .int)) (by decide) rfl ?_
  intro p e s m args below meth c s₁ B hml hv
  obtain ⟨rfl, hsz, hP, hK, hD0⟩ := hv
  have hx := B.exec
  have hb := B.bytes
  have hr := B.returns
  have hts := atoms_spec (ws := wsX0_length) B.pre
  have hown : s.vm.findClass RX0 = some m.cls := findClass_of_methodNamed B.named
  have hlocks := B.notSynchronized
  subst hsz
  have htg : ∀ w ∈ GW, w.before _ s = true := fun w h => hts w (List.mem_cons_of_mem _ h)
  have hD := hD0
  have hA : ∀ q : Nat, s.heap.size ≤ q → (fun q => s.heap.size ≤ q) q := fun _ h => h
  have hS : va_S (fun q => s.heap.size ≤ q) s.heap s.heap [] := va_S.rf
  have hl := lv_entry [.ref (h 0), .long d] (n := 4) (Nat.le_of_ble_eq_true rfl)
  rw [lg_entry_eq]
  generalize (lg_sl [.ref (h 0), .long d] ++ List.replicate (4 - (lg_sl [.ref (h 0), .long d]).length) Slot.unset).toArray = ls at hl ⊢
  have hl : lv_has ls 4 [(0, .ref (h 0)), (1, .long d)] := hl
  have hP : va_P (dC, dI) vwCl (wBJ cI cJ h σ) s.heap := hP
  refine lv_aload_n hx hb dX0_length_0 rfl (lv_at hl 0 rfl) ?_
  refine lv_lload_n hx hb dX0_length_1 rfl (lv_at hl 1 rfl) ?_
  refine bj_ri (As := [.long d]) (rest := []) (n := 1) ⟨hx, hb, hml, hown, htg⟩ (c_findBlob l σ d (by omega)) (cwV 1 htg gX0_64 rfl rfl rfl (by decide +kernel) ⟨Nat.le_of_ble_eq_true rfl, Nat.le_of_ble_eq_true rfl⟩) hK hP hD hS hA hl.1 rfl rfl (Nat.le_of_ble_eq_true rfl) dX0_length_2 (Nat.zero_le _) (Nat.zero_le _) (fun H locs hP hS => ?_)
  obtain ⟨o, ho⟩ : ∃ zq, zq = fnd (jgBD σ) d (jgBc σ) := ⟨_, rfl⟩
  rw [← ho]
  cases o with
  | none =>
    refine W.eq (g2 := F0 m 5 ls [.int (-1)]) rfl ?_
    refine lv_istore_n (lv' := [(3, .int (-1)), (0, .ref (h 0)), (1, .long d)]) hx hb dX0_length_5 rfl hl (by decide) rfl (fun ls hl => ?_)
    refine lv_iload_n hx hb dX0_length_6 rfl (lv_at hl 0 rfl) ?_
    refine lv_iconst (v := -1) hx hb dX0_length_7 (by decide) ?_
    refine lv_icmp_ne (tgt := 15) hx hb dX0_length_8 (by decide) (fun c => absurd rfl c) (fun _ => ?_)
    refine lv_iconst (v := -1) hx hb dX0_length_11 (by decide) ?_
    refine lv_goto (tgt := 21) hx hb dX0_length_12 (by decide) ?_
    exact W.iret (v := -1) hx hb hr (fun t ht hW => ⟨⟨_, (), rfl, by rw [lenS, ← ho], trivial⟩, hS.F ht⟩) hS.2.2 dX0_length_21
  | some b =>
    have hlto := (fnd_lt ho.symm).1
    refine W.eq (g2 := F0 m 5 ls [.int (nI b)]) rfl ?_
    refine lv_istore_n (lv' := [(3, .int (nI b)), (0, .ref (h 0)), (1, .long d)]) hx hb dX0_length_5 rfl hl (by decide) rfl (fun ls hl => ?_)
    refine lv_iload_n hx hb dX0_length_6 rfl (lv_at hl 0 rfl) ?_
    refine lv_iconst (v := -1) hx hb dX0_length_7 (by decide) ?_
    refine lv_icmp_ne (tgt := 15) hx hb dX0_length_8 (by decide) (fun _ => ?_) (fun c => absurd c (optI_none (by omega)))
    refine lv_aload_n hx hb dX0_length_15 rfl (lv_at hl 1 rfl) ?_
    refine va_get (D := (dC, dI)) (ci := 0) (v := .ref (h 5)) (C := RX0) (T := TX0) (N := 14) hx hb htg inX0 (fs := fsBJ h σ) hown hK hP 0 rfl rfl 7 (by decide) (htg _ fX0_23) (fun _ h9 => h9) rfl dX0_length_16 ?_
    refine lv_iload_n hx hb dX0_length_19 rfl (lv_at hl 0 rfl) ?_
    refine xr_iald (f := jgBL σ) (i := b) hx hb hK hP 5 0 rfl rfl (by omega) (by decide) dX0_length_20 ?_
    exact W.iret (v := (jgBL σ) b) hx hb hr (fun t ht hW => ⟨⟨_, (), rfl, by rw [lenS, ← ho], trivial⟩, hS.F ht⟩) hS.2.2 dX0_length_21
set_option maxRecDepth 100000 in
set_option maxHeartbeats 4000000 in
theorem c_look (l : Launch) (σ : BJ) (k : Int64) (i : Nat) (hc : jgKc σ ≤ 16) (hf : fnd (jgKS σ) k (jgKc σ) = some i) : rBl l yX0_look wsX0_look ({ frames := 1, cells := 0, slots := 0, locals := 23 } : Room) σ [.long k] (jgKD σ i) := by
  intro dC dI cI cJ h sz
  refine Met.ofW (cc := cX0_look) (maxL := 4) (ret := (some .long)) (by decide) rfl ?_
  intro p e s m args below meth c s₁ B hml hv
  obtain ⟨rfl, hsz, hP, hK, hD0⟩ := hv
  have hx := B.exec
  have hb := B.bytes
  have hr := B.returns
  have hts := atoms_spec (ws := wsX0_look) B.pre
  have hown : s.vm.findClass RX0 = some m.cls := findClass_of_methodNamed B.named
  have hlocks := B.notSynchronized
  subst hsz
  have htg : ∀ w ∈ GW, w.before _ s = true := fun w h => hts w (List.mem_cons_of_mem _ h)
  have hD := hD0
  have hA : ∀ q : Nat, s.heap.size ≤ q → (fun q => s.heap.size ≤ q) q := fun _ h => h
  have hS : va_S (fun q => s.heap.size ≤ q) s.heap s.heap [] := va_S.rf
  have hl := lv_entry [.ref (h 0), .long k] (n := 4) (Nat.le_of_ble_eq_true rfl)
  rw [lg_entry_eq]
  generalize (lg_sl [.ref (h 0), .long k] ++ List.replicate (4 - (lg_sl [.ref (h 0), .long k]).length) Slot.unset).toArray = ls at hl ⊢
  have hl : lv_has ls 4 [(0, .ref (h 0)), (1, .long k)] := hl
  have hP : va_P (dC, dI) vwCl (wBJ cI cJ h σ) s.heap := hP
  refine lv_aload_n hx hb dX0_look_0 rfl (lv_at hl 0 rfl) ?_
  refine lv_lload_n hx hb dX0_look_1 rfl (lv_at hl 1 rfl) ?_
  refine bj_ri (As := [.long k]) (rest := []) (n := 1) ⟨hx, hb, hml, hown, htg⟩ (c_findKey l σ k (by omega)) (cwV 1 htg gX0_103 rfl rfl rfl (by decide +kernel) ⟨Nat.le_of_ble_eq_true rfl, Nat.le_of_ble_eq_true rfl⟩) hK hP hD hS hA hl.1 rfl rfl (Nat.le_of_ble_eq_true rfl) dX0_look_2 (Nat.zero_le _) (Nat.zero_le _) (fun H locs hP hS => ?_)
  have hlt := (fnd_lt hf).1
  rw [hf]
  refine W.eq (g2 := F0 m 5 ls [.int (nI i)]) rfl ?_
  refine lv_istore_n (lv' := [(3, .int (nI i)), (0, .ref (h 0)), (1, .long k)]) hx hb dX0_look_5 rfl hl (by decide) rfl (fun ls hl => ?_)
  refine lv_iload_n hx hb dX0_look_6 rfl (lv_at hl 0 rfl) ?_
  refine lv_iconst (v := -1) hx hb dX0_look_7 (by decide) ?_
  refine lv_icmp_ne (tgt := 21) hx hb dX0_look_8 (by decide) (fun _ => ?_) (fun c => absurd c (optI_none (by omega)))
  refine lv_aload_n hx hb dX0_look_21 rfl (lv_at hl 1 rfl) ?_
  refine va_get (D := (dC, dI)) (ci := 0) (v := .ref (h 8)) (C := RX0) (T := TX0) (N := 14) hx hb htg inX0 (fs := fsBJ h σ) hown hK hP 0 rfl rfl 11 (by decide) (htg _ fX0_38) (fun _ h9 => h9) rfl dX0_look_22 ?_
  refine lv_iload_n hx hb dX0_look_25 rfl (lv_at hl 0 rfl) ?_
  refine xr_lald (f := jgKD σ) (i := i) hx hb hK hP 8 1 rfl rfl (by omega) (by decide) dX0_look_26 ?_
  exact W.lret (v := (jgKD σ) i) hx hb hr (fun t ht hW => ⟨⟨_, (), rfl, rfl, trivial⟩, hS.F ht⟩) hS.2.2 dX0_look_27
set_option maxRecDepth 100000 in
set_option maxHeartbeats 4000000 in
theorem c_byteOf (l : Launch) (σ : BJ) (d : Int64) (k : Nat) (b : Nat) (st : Nat) (n : Nat) (hc : jgBc σ ≤ 20) (hf : fnd (jgBD σ) d (jgBc σ) = some b) (hs : jgBS σ b = nI st) (hn : jgBL σ b = nI n) (hk : k < n) (hsn : st + n ≤ 700) : rBi l yX0_byteOf wsX0_byteOf ({ frames := 1, cells := 0, slots := 0, locals := 23 } : Room) σ [.long d, .int (nI k)] (jgW σ (st + k)) := by
  intro dC dI cI cJ h sz
  refine Met.ofW (cc := cX0_byteOf) (maxL := 5) (ret := (some .int)) (by decide) rfl ?_
  intro p e s m args below meth c s₁ B hml hv
  obtain ⟨rfl, hsz, hP, hK, hD0⟩ := hv
  have hx := B.exec
  have hb := B.bytes
  have hr := B.returns
  have hts := atoms_spec (ws := wsX0_byteOf) B.pre
  have hown : s.vm.findClass RX0 = some m.cls := findClass_of_methodNamed B.named
  have hlocks := B.notSynchronized
  subst hsz
  have htg : ∀ w ∈ GW, w.before _ s = true := fun w h => hts w (List.mem_cons_of_mem _ h)
  have hD := hD0
  have hA : ∀ q : Nat, s.heap.size ≤ q → (fun q => s.heap.size ≤ q) q := fun _ h => h
  have hS : va_S (fun q => s.heap.size ≤ q) s.heap s.heap [] := va_S.rf
  have hl := lv_entry [.ref (h 0), .long d, .int (nI k)] (n := 5) (Nat.le_of_ble_eq_true rfl)
  rw [lg_entry_eq]
  generalize (lg_sl [.ref (h 0), .long d, .int (nI k)] ++ List.replicate (5 - (lg_sl [.ref (h 0), .long d, .int (nI k)]).length) Slot.unset).toArray = ls at hl ⊢
  have hl : lv_has ls 5 [(0, .ref (h 0)), (1, .long d), (3, .int (nI k))] := hl
  have hP : va_P (dC, dI) vwCl (wBJ cI cJ h σ) s.heap := hP
  refine lv_aload_n hx hb dX0_byteOf_0 rfl (lv_at hl 0 rfl) ?_
  refine lv_lload_n hx hb dX0_byteOf_1 rfl (lv_at hl 1 rfl) ?_
  refine bj_ri (As := [.long d]) (rest := []) (n := 1) ⟨hx, hb, hml, hown, htg⟩ (c_findBlob l σ d (by omega)) (cwV 1 htg gX0_64 rfl rfl rfl (by decide +kernel) ⟨Nat.le_of_ble_eq_true rfl, Nat.le_of_ble_eq_true rfl⟩) hK hP hD hS hA hl.1 rfl rfl (Nat.le_of_ble_eq_true rfl) dX0_byteOf_2 (Nat.zero_le _) (Nat.zero_le _) (fun H locs hP hS => ?_)
  have hlt := (fnd_lt hf).1
  rw [hf]
  refine W.eq (g2 := F0 m 5 ls [.int (nI b)]) rfl ?_
  refine lv_istore (lv' := [(4, .int (nI b)), (0, .ref (h 0)), (1, .long d), (3, .int (nI k))]) hx hb dX0_byteOf_5 hl (by decide) rfl (fun ls hl => ?_)
  refine lv_iload hx hb dX0_byteOf_7 (lv_at hl 0 rfl) ?_
  refine lv_iconst (v := -1) hx hb dX0_byteOf_9 (by decide) ?_
  refine lv_icmp_ne (tgt := 23) hx hb dX0_byteOf_10 (by decide) (fun _ => ?_) (fun c => absurd c (optI_none (by omega)))
  refine lv_iload_n hx hb dX0_byteOf_23 rfl (lv_at hl 3 rfl) ?_
  refine lv_if_lt (tgt := 38) hx hb dX0_byteOf_24 (by decide) (fun c24 => absurd c24 (by exact nI_pos (by omega))) (fun c24 => ?_)
  refine lv_iload_n hx hb dX0_byteOf_27 rfl (lv_at hl 3 rfl) ?_
  refine lv_aload_n hx hb dX0_byteOf_28 rfl (lv_at hl 1 rfl) ?_
  refine va_get (D := (dC, dI)) (ci := 0) (v := .ref (h 5)) (C := RX0) (T := TX0) (N := 14) hx hb htg inX0 (fs := fsBJ h σ) hown hK hP 0 rfl rfl 7 (by decide) (htg _ fX0_23) (fun _ h9 => h9) rfl dX0_byteOf_29 ?_
  refine lv_iload hx hb dX0_byteOf_32 (lv_at hl 0 rfl) ?_
  refine xr_iald (f := jgBL σ) (i := b) hx hb hK hP 5 0 rfl rfl (by omega) (by decide) dX0_byteOf_34 ?_
  refine W.eq (g2 := F0 m 35 ls [.int (nI n), .int (nI k)]) (by rw [hn]) ?_
  refine xr_icmp_lt (tgt := 48) hx hb dX0_byteOf_35 (by decide) (by omega) (by omega) (fun c35 => ?_) (fun c35 => absurd c35 (by omega))
  refine lv_aload_n hx hb dX0_byteOf_48 rfl (lv_at hl 1 rfl) ?_
  refine va_get (D := (dC, dI)) (ci := 0) (v := .ref (h 2)) (C := RX0) (T := TX0) (N := 14) hx hb htg inX0 (fs := fsBJ h σ) hown hK hP 0 rfl rfl 2 (by decide) (htg _ fX0_13) (fun _ h9 => h9) rfl dX0_byteOf_49 ?_
  refine lv_aload_n hx hb dX0_byteOf_52 rfl (lv_at hl 1 rfl) ?_
  refine va_get (D := (dC, dI)) (ci := 0) (v := .ref (h 4)) (C := RX0) (T := TX0) (N := 14) hx hb htg inX0 (fs := fsBJ h σ) hown hK hP 0 rfl rfl 6 (by decide) (htg _ fX0_20) (fun _ h9 => h9) rfl dX0_byteOf_53 ?_
  refine lv_iload hx hb dX0_byteOf_56 (lv_at hl 0 rfl) ?_
  refine xr_iald (f := jgBS σ) (i := b) hx hb hK hP 4 0 rfl rfl (by omega) (by decide) dX0_byteOf_58 ?_
  refine W.eq (g2 := F0 m 59 ls [.int (nI st), .ref (h 2)]) (by rw [hs]) ?_
  refine lv_iload_n hx hb dX0_byteOf_59 rfl (lv_at hl 3 rfl) ?_
  refine xr_iadd hx hb dX0_byteOf_60 ?_
  refine xr_iald (f := jgW σ) (i := st + k) hx hb hK hP 2 0 rfl rfl (by omega) (by decide) dX0_byteOf_61 ?_
  exact W.iret (v := (jgW σ) (st + k)) hx hb hr (fun t ht hW => ⟨⟨_, (), rfl, rfl, trivial⟩, hS.F ht⟩) hS.2.2 dX0_byteOf_62
