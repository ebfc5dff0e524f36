set_option maxRecDepth 100000 in
set_option maxHeartbeats 4000000 in
theorem m_digest (l : Launch) (σ : BM) (hm : kgMy σ ≤ 64) : wMl l yX1_digest wsX1_digest ({ frames := 2, cells := 0, slots := 0, locals := 47 } : Room) σ [] (dg (kgT σ) 0 (kgMy σ)) (kuTh σ 0) := by
  intro dC dI cI cJ cZ h sz
  refine Met.ofW (cc := cX1_digest) (maxL := 1) (ret := (some .long)) (by decide) rfl ?_
  intro p e s m args below meth c s₁ B hml hv
  obtain ⟨rfl, hsz, hP, hK, hD0⟩ := hv
  have hx := B.exec
  have hb := B.bytes
  have hr := B.returns
  have hts := atoms_spec (ws := wsX1_digest) B.pre
  have hown : s.vm.findClass RX1 = some m.cls := findClass_of_methodNamed B.named
  have hlocks := B.notSynchronized
  subst hsz
  have htg : ∀ w ∈ GW, w.before _ s = true := fun w h => hts w (List.mem_cons_of_mem _ h)
  have hD := hD0.self (sz := s.heap.size)
  generalize hAe : va_A (wBM cI cJ cZ h σ) s.heap.size = A at hD ⊢
  have hA : ∀ q : Nat, s.heap.size ≤ q → A q := fun q h => by rw [← hAe]; exact Or.inr h
  have hS : va_S A s.heap s.heap [] := va_S.rf
  have hl := lv_entry [.ref (h 0)] (n := 1) (Nat.le_of_ble_eq_true rfl)
  rw [lg_entry_eq]
  generalize (lg_sl [.ref (h 0)] ++ List.replicate (1 - (lg_sl [.ref (h 0)]).length) Slot.unset).toArray = ls at hl ⊢
  have hl : lv_has ls 1 [(0, .ref (h 0))] := hl
  have hP : va_P (dC, dI) vwCl (wBM cI cJ cZ h σ) s.heap := hP
  refine lv_aload_n hx hb dX1_digest_0 rfl (lv_at hl 0 rfl) ?_
  refine lv_iconst (v := nI 0) hx hb dX1_digest_1 (by decide) ?_
  refine va_put (D := (dC, dI)) (ci := 1) (v := .int (nI 0)) (ty := .int) (C := RX1) (T := TX1) (N := 18) hx hb htg inX1 tyX1 tyX1_ok nmX1 (fs := fsBM h σ) hown hK hP hD hS 0 rfl rfl 0 (by decide) (htg _ fX1_45) (fun _ h9 => h9) rfl (by decide +kernel) rfl rfl (Nat.le_of_ble_eq_true rfl) dX1_digest_2 (fun H locs hP hD hS => ?_)
  rw [wBM_Th] at hP hD
  refine lv_aload_n hx hb dX1_digest_5 rfl (lv_at hl 0 rfl) ?_
  refine bm_rl (As := []) (rest := []) (n := 0) ⟨hx, hb, hml, hown, htg⟩ (m_digestOfTyped l (kuTh σ 0)  (hm)) (cwV 0 htg gX1_68 rfl rfl rfl (by decide +kernel) ⟨Nat.le_of_ble_eq_true rfl, Nat.le_of_ble_eq_true rfl⟩) hK hP hD hS hA hl.1 rfl rfl (Nat.le_of_ble_eq_true rfl) dX1_digest_6 (Nat.zero_le _) (Nat.zero_le _) (fun H locs hP hS => ?_)
  have hfin : kuTh σ 0 = kuTh σ 0 := rfl
  rw [hfin] at hP hD
  exact W.lret (v := dg (kgT (kuTh σ 0)) 0 (kgMy (kuTh σ 0))) hx hb hr (fun t ht hW => ⟨⟨_, (), rfl, rfl, by rw [ht]; exact hP, va_K.moved hW.alike hK, hD⟩, hS.F ht⟩) hS.2.2 dX1_digest_9
set_option maxRecDepth 100000 in
set_option maxHeartbeats 4000000 in
theorem m_typeT (l : Launch) (σ : BM) (v : Int32) (ht : 64 < kgMy σ + 4) (hm : kgMy σ ≤ 64) : wMi l yX1_type wsX1_type ({ frames := 0, cells := 0, slots := 0, locals := 0 } : Room) σ [.int v] (nI 0) (kuTh σ 1) := by
  intro dC dI cI cJ cZ h sz
  refine Met.ofW (cc := cX1_type) (maxL := 3) (ret := (some .int)) (by decide) rfl ?_
  intro p e s m args below meth c s₁ B hml hv
  obtain ⟨rfl, hsz, hP, hK, hD0⟩ := hv
  have hx := B.exec
  have hb := B.bytes
  have hr := B.returns
  have hts := atoms_spec (ws := wsX1_type) B.pre
  have hown : s.vm.findClass RX1 = some m.cls := findClass_of_methodNamed B.named
  have hlocks := B.notSynchronized
  subst hsz
  have htg : ∀ w ∈ GW, w.before _ s = true := fun w h => hts w (List.mem_cons_of_mem _ h)
  have hD := hD0.self (sz := s.heap.size)
  generalize hAe : va_A (wBM cI cJ cZ h σ) s.heap.size = A at hD ⊢
  have hA : ∀ q : Nat, s.heap.size ≤ q → A q := fun q h => by rw [← hAe]; exact Or.inr h
  have hS : va_S A s.heap s.heap [] := va_S.rf
  have hl := lv_entry [.ref (h 0), .int v] (n := 3) (Nat.le_of_ble_eq_true rfl)
  rw [lg_entry_eq]
  generalize (lg_sl [.ref (h 0), .int v] ++ List.replicate (3 - (lg_sl [.ref (h 0), .int v]).length) Slot.unset).toArray = ls at hl ⊢
  have hl : lv_has ls 3 [(0, .ref (h 0)), (1, .int v)] := hl
  have hP : va_P (dC, dI) vwCl (wBM cI cJ cZ h σ) s.heap := hP
  refine lv_aload_n hx hb dX1_type_0 rfl (lv_at hl 0 rfl) ?_
  refine lv_aload_n hx hb dX1_type_1 rfl (lv_at hl 0 rfl) ?_
  refine va_get (D := (dC, dI)) (ci := 1) (v := .int (nI (kgMy σ))) (C := RX1) (T := TX1) (N := 18) hx hb htg inX1 (fs := fsBM h σ) hown hK hP 0 rfl rfl 2 (by decide) (htg _ fX1_49) (fun _ h9 => h9) rfl dX1_type_2 ?_
  refine lv_iconst (v := nI 4) hx hb dX1_type_5 (by decide) ?_
  refine xr_iadd hx hb dX1_type_6 ?_
  refine lv_bipush (v := nI 64) hx hb dX1_type_7 (by decide) ?_
  refine xr_icmp_le (tgt := 16) hx hb dX1_type_9 (by decide) (by omega) (by omega) (fun c9 => absurd c9 (by omega)) (fun c9 => ?_)
  refine lv_iconst (v := nI 1) hx hb dX1_type_12 (by decide) ?_
  refine lv_goto (tgt := 17) hx hb dX1_type_13 (by decide) ?_
  refine va_put (D := (dC, dI)) (ci := 1) (v := .int (nI 1)) (ty := .int) (C := RX1) (T := TX1) (N := 18) hx hb htg inX1 tyX1 tyX1_ok nmX1 (fs := fsBM h σ) hown hK hP hD hS 0 rfl rfl 0 (by decide) (htg _ fX1_45) (fun _ h9 => h9) rfl (by decide +kernel) rfl rfl (Nat.le_of_ble_eq_true rfl) dX1_type_17 (fun H locs hP hD hS => ?_)
  rw [wBM_Th] at hP hD
  refine lv_aload_n hx hb dX1_type_20 rfl (lv_at hl 0 rfl) ?_
  refine va_get (D := (dC, dI)) (ci := 1) (v := .int (nI 1)) (C := RX1) (T := TX1) (N := 18) hx hb htg inX1 (fs := fsBM h (kuTh σ 1)) hown hK hP 0 rfl rfl 0 (by decide) (htg _ fX1_45) (fun _ h9 => h9) rfl dX1_type_21 ?_
  refine lv_if_le (tgt := 29) hx hb dX1_type_24 (by decide) (fun c24 => absurd c24 (by decide)) (fun c24 => ?_)
  refine lv_iconst (v := nI 0) hx hb dX1_type_27 (by decide) ?_
  have hfin : kuTh σ 1 = kuTh σ 1 := rfl
  rw [hfin] at hP hD
  exact W.iret (v := nI 0) hx hb hr (fun t ht hW => ⟨⟨_, (), rfl, rfl, by rw [ht]; exact hP, va_K.moved hW.alike hK, hD⟩, hS.F ht⟩) hS.2.2 dX1_type_28
set_option maxRecDepth 100000 in
set_option maxHeartbeats 4000000 in
theorem m_typeN (l : Launch) (σ : BM) (v : Int32) (ht : kgMy σ + 4 ≤ 64) : wMi l yX1_type wsX1_type ({ frames := 0, cells := 0, slots := 0, locals := 0 } : Room) σ [.int v] (nI (kgMy σ + 4)) (tySt σ v 4) := by
  intro dC dI cI cJ cZ h sz
  refine Met.ofW (cc := cX1_type) (maxL := 3) (ret := (some .int)) (by decide) rfl ?_
  intro p e s m args below meth c s₁ B hml hv
  obtain ⟨rfl, hsz, hP, hK, hD0⟩ := hv
  have hx := B.exec
  have hb := B.bytes
  have hr := B.returns
  have hts := atoms_spec (ws := wsX1_type) B.pre
  have hown : s.vm.findClass RX1 = some m.cls := findClass_of_methodNamed B.named
  have hlocks := B.notSynchronized
  subst hsz
  have htg : ∀ w ∈ GW, w.before _ s = true := fun w h => hts w (List.mem_cons_of_mem _ h)
  have hD := hD0.self (sz := s.heap.size)
  generalize hAe : va_A (wBM cI cJ cZ h σ) s.heap.size = A at hD ⊢
  have hA : ∀ q : Nat, s.heap.size ≤ q → A q := fun q h => by rw [← hAe]; exact Or.inr h
  have hS : va_S A s.heap s.heap [] := va_S.rf
  have hl := lv_entry [.ref (h 0), .int v] (n := 3) (Nat.le_of_ble_eq_true rfl)
  rw [lg_entry_eq]
  generalize (lg_sl [.ref (h 0), .int v] ++ List.replicate (3 - (lg_sl [.ref (h 0), .int v]).length) Slot.unset).toArray = ls at hl ⊢
  have hl : lv_has ls 3 [(0, .ref (h 0)), (1, .int v)] := hl
  have hP : va_P (dC, dI) vwCl (wBM cI cJ cZ h σ) s.heap := hP
  refine lv_aload_n hx hb dX1_type_0 rfl (lv_at hl 0 rfl) ?_
  refine lv_aload_n hx hb dX1_type_1 rfl (lv_at hl 0 rfl) ?_
  refine va_get (D := (dC, dI)) (ci := 1) (v := .int (nI (kgMy σ))) (C := RX1) (T := TX1) (N := 18) hx hb htg inX1 (fs := fsBM h σ) hown hK hP 0 rfl rfl 2 (by decide) (htg _ fX1_49) (fun _ h9 => h9) rfl dX1_type_2 ?_
  refine lv_iconst (v := nI 4) hx hb dX1_type_5 (by decide) ?_
  refine xr_iadd hx hb dX1_type_6 ?_
  refine lv_bipush (v := nI 64) hx hb dX1_type_7 (by decide) ?_
  refine xr_icmp_le (tgt := 16) hx hb dX1_type_9 (by decide) (by omega) (by omega) (fun c9 => ?_) (fun c9 => absurd c9 (by omega))
  refine lv_iconst (v := nI 0) hx hb dX1_type_16 (by decide) ?_
  refine va_put (D := (dC, dI)) (ci := 1) (v := .int (nI 0)) (ty := .int) (C := RX1) (T := TX1) (N := 18) hx hb htg inX1 tyX1 tyX1_ok nmX1 (fs := fsBM h σ) hown hK hP hD hS 0 rfl rfl 0 (by decide) (htg _ fX1_45) (fun _ h9 => h9) rfl (by decide +kernel) rfl rfl (Nat.le_of_ble_eq_true rfl) dX1_type_17 (fun H locs hP hD hS => ?_)
  rw [wBM_Th] at hP hD
  refine lv_aload_n hx hb dX1_type_20 rfl (lv_at hl 0 rfl) ?_
  refine va_get (D := (dC, dI)) (ci := 1) (v := .int (nI 0)) (C := RX1) (T := TX1) (N := 18) hx hb htg inX1 (fs := fsBM h (kuTh σ 0)) hown hK hP 0 rfl rfl 0 (by decide) (htg _ fX1_45) (fun _ h9 => h9) rfl dX1_type_21 ?_
  refine lv_if_le (tgt := 29) hx hb dX1_type_24 (by decide) (fun c24 => ?_) (fun c24 => absurd c24 (by decide))
  refine lv_iconst (v := nI 0) hx hb dX1_type_29 (by decide) ?_
  refine lv_istore_n (lv' := [(2, .int (nI 0)), (0, .ref (h 0)), (1, .int v)]) hx hb dX1_type_30 rfl hl (by decide) rfl (fun ls hl => ?_)
  have loop : ∀ (fu i : Nat) (z : BM), i ≤ 4 → 4 < i + fu → z = tySt σ v i → ∀ (H : Heap) (locs : List Loc), va_P (dC, dI) vwCl (wBM cI cJ cZ h z) H → va_D A (wBM cI cJ cZ h z) → va_S A s.heap H locs → ∀ (ls : Array Slot), lv_has ls 3 [(2, .int (nI i)), (0, .ref (h 0)), (1, .int v)] → W p l e (headSpec wsX1_type ({ frames := 0, cells := 0, slots := 0, locals := 0 } : Room)).room s m ([.ref (h 0), .int v].toArray) below meth c H locs 0 0 (MQ below (va_Qi (fun (r' : Int32) (_ : Unit) => r' = (nI (kgMy σ + 4))) (fun _ => aBM dC dI cI cJ cZ h A (tySt σ v 4)) A) ([.ref (h 0), .int v].toArray) s 0 0 A) (F0 m 31 ls []) := by
    intro fu
    induction fu with
    | zero => intro i z h1 h2; exact absurd h2 (by omega)
    | succ fu ih =>
      intro i z hi hin ez H locs hP hD hS ls hl
      refine lv_iload_n hx hb dX1_type_31 rfl (lv_at hl 0 rfl) ?_
      have hMy : kgMy z = kgMy σ + i := by rw [ez]; rfl
      refine lv_iconst (v := nI 4) hx hb dX1_type_32 (by decide) ?_
      refine xr_icmp_ge (tgt := 71) hx hb dX1_type_33 (by decide) (by omega) (by omega) (fun c33 => ?_) (fun c33 => ?_)
      · refine lv_aload_n hx hb dX1_type_71 rfl (lv_at hl 1 rfl) ?_
        refine va_get (D := (dC, dI)) (ci := 1) (v := .int (nI (kgMy z))) (C := RX1) (T := TX1) (N := 18) hx hb htg inX1 (fs := fsBM h z) hown hK hP 0 rfl rfl 2 (by decide) (htg _ fX1_49) (fun _ h9 => h9) rfl dX1_type_72 ?_
        have hfin : z = tySt σ v 4 := by rw [ez, show i = 4 by omega]
        rw [hfin] at hP hD
        exact W.iret (v := nI (kgMy z)) hx hb hr (fun t ht hW => ⟨⟨_, (), rfl, by rw [hMy, show i = 4 by omega], by rw [ht]; exact hP, va_K.moved hW.alike hK, hD⟩, hS.F ht⟩) hS.2.2 dX1_type_75
      · refine lv_aload_n hx hb dX1_type_36 rfl (lv_at hl 1 rfl) ?_
        refine va_get (D := (dC, dI)) (ci := 1) (v := .ref (h 1)) (C := RX1) (T := TX1) (N := 18) hx hb htg inX1 (fs := fsBM h z) hown hK hP 0 rfl rfl 1 (by decide) (htg _ fX1_7) (fun _ h9 => h9) rfl dX1_type_37 ?_
        refine lv_aload_n hx hb dX1_type_40 rfl (lv_at hl 1 rfl) ?_
        refine va_get (D := (dC, dI)) (ci := 1) (v := .int (nI (kgMy z))) (C := RX1) (T := TX1) (N := 18) hx hb htg inX1 (fs := fsBM h z) hown hK hP 0 rfl rfl 2 (by decide) (htg _ fX1_49) (fun _ h9 => h9) rfl dX1_type_41 ?_
        refine lv_iload_n hx hb dX1_type_44 rfl (lv_at hl 2 rfl) ?_
        refine lv_bipush (v := nI 8) hx hb dX1_type_45 (by decide) ?_
        refine lv_iload_n hx hb dX1_type_47 rfl (lv_at hl 0 rfl) ?_
        refine xr_imul hx hb dX1_type_48 ?_
        refine lv_ishr hx hb dX1_type_49 ?_
        refine lv_sipush (v := nI 255) hx hb dX1_type_50 (by decide) ?_
        refine lv_iand hx hb dX1_type_53 ?_
        refine xr_iast (f := kgT z) (i := kgMy z) (x := (v >>> ((nI (8 * i)) &&& 31)) &&& (nI 255)) hx hb hK hP hD hS 1 0 rfl rfl (by omega) (by decide) dX1_type_54 (fun H locs hP hD hS => ?_)
        rw [wBM_T] at hP hD
        refine lv_aload_n hx hb dX1_type_55 rfl (lv_at hl 1 rfl) ?_
        refine lv_dup hx hb dX1_type_56 rfl ?_
        refine va_get (D := (dC, dI)) (ci := 1) (v := .int (nI (kgMy z))) (C := RX1) (T := TX1) (N := 18) hx hb htg inX1 (fs := fsBM h (kuT z (upd (kgT z) (kgMy z) ((v >>> ((nI (8 * i)) &&& 31)) &&& (nI 255))))) hown hK hP 0 rfl rfl 2 (by decide) (htg _ fX1_49) (fun _ h9 => h9) rfl dX1_type_57 ?_
        refine lv_iconst (v := nI 1) hx hb dX1_type_60 (by decide) ?_
        refine xr_iadd hx hb dX1_type_61 ?_
        refine va_put (D := (dC, dI)) (ci := 1) (v := .int (nI (kgMy z + 1))) (ty := .int) (C := RX1) (T := TX1) (N := 18) hx hb htg inX1 tyX1 tyX1_ok nmX1 (fs := fsBM h (kuT z (upd (kgT z) (kgMy z) ((v >>> ((nI (8 * i)) &&& 31)) &&& (nI 255))))) hown hK hP hD hS 0 rfl rfl 2 (by decide) (htg _ fX1_49) (fun _ h9 => h9) rfl (by decide +kernel) rfl rfl (Nat.le_of_ble_eq_true rfl) dX1_type_62 (fun H locs hP hD hS => ?_)
        rw [wBM_My] at hP hD
        refine lv_iinc (v := nI (i + 1)) (lv' := [(2, .int (nI (i + 1))), (0, .ref (h 0)), (1, .int v)]) hx hb dX1_type_65 hl (k := 0) rfl (nI_add _ 1) (by decide) rfl (fun ls hl => ?_)
        refine lv_goto (tgt := 31) hx hb dX1_type_68 (by decide) ?_
        exact ih (i + 1) (kuMy (kuT z (upd (kgT z) (kgMy z) ((v >>> ((nI (8 * i)) &&& 31)) &&& (nI 255)))) (kgMy z + 1)) (by omega) (by omega) (by rw [ez]; exact tySt_step σ v i) H locs hP hD hS ls (lv_sub hl [0, 1, 2] rfl)
  exact loop (4 + 1) 0 (kuTh σ 0) (by omega) (by omega) (tySt_0 σ v) _ _ hP hD hS ls (lv_sub hl [0, 1, 2] rfl)
set_option maxRecDepth 100000 in
set_option maxHeartbeats 4000000 in
theorem m_cutT (l : Launch) (σ : BM) (n : Int32) (h0 : n < 0 ∨ ¬ n ≤ nI (kgMy σ)) : wMv l yX1_cut wsX1_cut ({ frames := 0, cells := 0, slots := 0, locals := 0 } : Room) σ [.int n] (kuMy (kuTh σ 1) (kgMy σ)) := by
  intro dC dI cI cJ cZ h sz
  refine Met.ofW (cc := cX1_cut) (maxL := 2) (ret := none) (by decide) rfl ?_
  intro p e s m args below meth c s₁ B hml hv
  obtain ⟨rfl, hsz, hP, hK, hD0⟩ := hv
  have hx := B.exec
  have hb := B.bytes
  have hr := B.returns
  have hts := atoms_spec (ws := wsX1_cut) B.pre
  have hown : s.vm.findClass RX1 = some m.cls := findClass_of_methodNamed B.named
  have hlocks := B.notSynchronized
  subst hsz
  have htg : ∀ w ∈ GW, w.before _ s = true := fun w h => hts w (List.mem_cons_of_mem _ h)
  have hD := hD0.self (sz := s.heap.size)
  generalize hAe : va_A (wBM cI cJ cZ h σ) s.heap.size = A at hD ⊢
  have hA : ∀ q : Nat, s.heap.size ≤ q → A q := fun q h => by rw [← hAe]; exact Or.inr h
  have hS : va_S A s.heap s.heap [] := va_S.rf
  have hl := lv_entry [.ref (h 0), .int n] (n := 2) (Nat.le_of_ble_eq_true rfl)
  rw [lg_entry_eq]
  generalize (lg_sl [.ref (h 0), .int n] ++ List.replicate (2 - (lg_sl [.ref (h 0), .int n]).length) Slot.unset).toArray = ls at hl ⊢
  have hl : lv_has ls 2 [(0, .ref (h 0)), (1, .int n)] := hl
  have hP : va_P (dC, dI) vwCl (wBM cI cJ cZ h σ) s.heap := hP
  refine lv_aload_n hx hb dX1_cut_0 rfl (lv_at hl 0 rfl) ?_
  refine lv_iload_n hx hb dX1_cut_1 rfl (lv_at hl 1 rfl) ?_
  refine lv_if_lt (tgt := 13) hx hb dX1_cut_2 (by decide) (fun c2 => ?_) (fun c2 => ?_)
  · refine lv_iconst (v := nI 1) hx hb dX1_cut_13 (by decide) ?_
    refine lv_goto (tgt := 18) hx hb dX1_cut_14 (by decide) ?_
    refine va_put (D := (dC, dI)) (ci := 1) (v := .int (nI 1)) (ty := .int) (C := RX1) (T := TX1) (N := 18) hx hb htg inX1 tyX1 tyX1_ok nmX1 (fs := fsBM h σ) hown hK hP hD hS 0 rfl rfl 0 (by decide) (htg _ fX1_45) (fun _ h9 => h9) rfl (by decide +kernel) rfl rfl (Nat.le_of_ble_eq_true rfl) dX1_cut_18 (fun H locs hP hD hS => ?_)
    rw [wBM_Th] at hP hD
    refine lv_aload_n hx hb dX1_cut_21 rfl (lv_at hl 0 rfl) ?_
    refine lv_aload_n hx hb dX1_cut_22 rfl (lv_at hl 0 rfl) ?_
    refine va_get (D := (dC, dI)) (ci := 1) (v := .int (nI 1)) (C := RX1) (T := TX1) (N := 18) hx hb htg inX1 (fs := fsBM h (kuTh σ 1)) hown hK hP 0 rfl rfl 0 (by decide) (htg _ fX1_45) (fun _ h9 => h9) rfl dX1_cut_23 ?_
    refine lv_if_le (tgt := 36) hx hb dX1_cut_26 (by decide) (fun c26 => absurd c26 (by decide)) (fun c26 => ?_)
    refine lv_aload_n hx hb dX1_cut_29 rfl (lv_at hl 0 rfl) ?_
    refine va_get (D := (dC, dI)) (ci := 1) (v := .int (nI (kgMy σ))) (C := RX1) (T := TX1) (N := 18) hx hb htg inX1 (fs := fsBM h (kuTh σ 1)) hown hK hP 0 rfl rfl 2 (by decide) (htg _ fX1_49) (fun _ h9 => h9) rfl dX1_cut_30 ?_
    refine lv_goto (tgt := 37) hx hb dX1_cut_33 (by decide) ?_
    refine va_put (D := (dC, dI)) (ci := 1) (v := .int (nI (kgMy σ))) (ty := .int) (C := RX1) (T := TX1) (N := 18) hx hb htg inX1 tyX1 tyX1_ok nmX1 (fs := fsBM h (kuTh σ 1)) hown hK hP hD hS 0 rfl rfl 2 (by decide) (htg _ fX1_49) (fun _ h9 => h9) rfl (by decide +kernel) rfl rfl (Nat.le_of_ble_eq_true rfl) dX1_cut_37 (fun H locs hP hD hS => ?_)
    rw [wBM_My] at hP hD
    have hfin : kuMy (kuTh σ 1) (kgMy σ) = kuMy (kuTh σ 1) (kgMy σ) := rfl
    rw [hfin] at hP hD
    exact W.vret hx hb hr (fun t ht hW => ⟨⟨(), rfl, trivial, by rw [ht]; exact hP, va_K.moved hW.alike hK, hD⟩, hS.F ht⟩) hS.2.2 dX1_cut_40
  · refine lv_iload_n hx hb dX1_cut_5 rfl (lv_at hl 1 rfl) ?_
    refine lv_aload_n hx hb dX1_cut_6 rfl (lv_at hl 0 rfl) ?_
    refine va_get (D := (dC, dI)) (ci := 1) (v := .int (nI (kgMy σ))) (C := RX1) (T := TX1) (N := 18) hx hb htg inX1 (fs := fsBM h σ) hown hK hP 0 rfl rfl 2 (by decide) (htg _ fX1_49) (fun _ h9 => h9) rfl dX1_cut_7 ?_
    refine lv_icmp_le (tgt := 17) hx hb dX1_cut_10 (by decide) (fun c10 => absurd c10 (by exact h0.resolve_left c2)) (fun c10 => ?_)
    refine lv_iconst (v := nI 1) hx hb dX1_cut_13 (by decide) ?_
    refine lv_goto (tgt := 18) hx hb dX1_cut_14 (by decide) ?_
    refine va_put (D := (dC, dI)) (ci := 1) (v := .int (nI 1)) (ty := .int) (C := RX1) (T := TX1) (N := 18) hx hb htg inX1 tyX1 tyX1_ok nmX1 (fs := fsBM h σ) hown hK hP hD hS 0 rfl rfl 0 (by decide) (htg _ fX1_45) (fun _ h9 => h9) rfl (by decide +kernel) rfl rfl (Nat.le_of_ble_eq_true rfl) dX1_cut_18 (fun H locs hP hD hS => ?_)
    rw [wBM_Th] at hP hD
    refine lv_aload_n hx hb dX1_cut_21 rfl (lv_at hl 0 rfl) ?_
    refine lv_aload_n hx hb dX1_cut_22 rfl (lv_at hl 0 rfl) ?_
    refine va_get (D := (dC, dI)) (ci := 1) (v := .int (nI 1)) (C := RX1) (T := TX1) (N := 18) hx hb htg inX1 (fs := fsBM h (kuTh σ 1)) hown hK hP 0 rfl rfl 0 (by decide) (htg _ fX1_45) (fun _ h9 => h9) rfl dX1_cut_23 ?_
    refine lv_if_le (tgt := 36) hx hb dX1_cut_26 (by decide) (fun c26 => absurd c26 (by decide)) (fun c26 => ?_)
    refine lv_aload_n hx hb dX1_cut_29 rfl (lv_at hl 0 rfl) ?_
    refine va_get (D := (dC, dI)) (ci := 1) (v := .int (nI (kgMy σ))) (C := RX1) (T := TX1) (N := 18) hx hb htg inX1 (fs := fsBM h (kuTh σ 1)) hown hK hP 0 rfl rfl 2 (by decide) (htg _ fX1_49) (fun _ h9 => h9) rfl dX1_cut_30 ?_
    refine lv_goto (tgt := 37) hx hb dX1_cut_33 (by decide) ?_
    refine va_put (D := (dC, dI)) (ci := 1) (v := .int (nI (kgMy σ))) (ty := .int) (C := RX1) (T := TX1) (N := 18) hx hb htg inX1 tyX1 tyX1_ok nmX1 (fs := fsBM h (kuTh σ 1)) hown hK hP hD hS 0 rfl rfl 2 (by decide) (htg _ fX1_49) (fun _ h9 => h9) rfl (by decide +kernel) rfl rfl (Nat.le_of_ble_eq_true rfl) dX1_cut_37 (fun H locs hP hD hS => ?_)
    rw [wBM_My] at hP hD
    have hfin : kuMy (kuTh σ 1) (kgMy σ) = kuMy (kuTh σ 1) (kgMy σ) := rfl
    rw [hfin] at hP hD
    exact W.vret hx hb hr (fun t ht hW => ⟨⟨(), rfl, trivial, by rw [ht]; exact hP, va_K.moved hW.alike hK, hD⟩, hS.F ht⟩) hS.2.2 dX1_cut_40
set_option maxRecDepth 100000 in
set_option maxHeartbeats 4000000 in
theorem m_cutN (l : Launch) (σ : BM) (k : Nat) (hk : k ≤ kgMy σ) (hm : kgMy σ ≤ 64) : wMv l yX1_cut wsX1_cut ({ frames := 0, cells := 0, slots := 0, locals := 0 } : Room) σ [.int (nI k)] (kuMy (kuTh σ 0) k) := by
  intro dC dI cI cJ cZ h sz
  refine Met.ofW (cc := cX1_cut) (maxL := 2) (ret := none) (by decide) rfl ?_
  intro p e s m args below meth c s₁ B hml hv
  obtain ⟨rfl, hsz, hP, hK, hD0⟩ := hv
  have hx := B.exec
  have hb := B.bytes
  have hr := B.returns
  have hts := atoms_spec (ws := wsX1_cut) B.pre
  have hown : s.vm.findClass RX1 = some m.cls := findClass_of_methodNamed B.named
  have hlocks := B.notSynchronized
  subst hsz
  have htg : ∀ w ∈ GW, w.before _ s = true := fun w h => hts w (List.mem_cons_of_mem _ h)
  have hD := hD0.self (sz := s.heap.size)
  generalize hAe : va_A (wBM cI cJ cZ h σ) s.heap.size = A at hD ⊢
  have hA : ∀ q : Nat, s.heap.size ≤ q → A q := fun q h => by rw [← hAe]; exact Or.inr h
  have hS : va_S A s.heap s.heap [] := va_S.rf
  have hl := lv_entry [.ref (h 0), .int (nI k)] (n := 2) (Nat.le_of_ble_eq_true rfl)
  rw [lg_entry_eq]
  generalize (lg_sl [.ref (h 0), .int (nI k)] ++ List.replicate (2 - (lg_sl [.ref (h 0), .int (nI k)]).length) Slot.unset).toArray = ls at hl ⊢
  have hl : lv_has ls 2 [(0, .ref (h 0)), (1, .int (nI k))] := hl
  have hP : va_P (dC, dI) vwCl (wBM cI cJ cZ h σ) s.heap := hP
  refine lv_aload_n hx hb dX1_cut_0 rfl (lv_at hl 0 rfl) ?_
  refine lv_iload_n hx hb dX1_cut_1 rfl (lv_at hl 1 rfl) ?_
  refine lv_if_lt (tgt := 13) hx hb dX1_cut_2 (by decide) (fun c2 => absurd c2 (by exact nI_pos (by omega))) (fun c2 => ?_)
  refine lv_iload_n hx hb dX1_cut_5 rfl (lv_at hl 1 rfl) ?_
  refine lv_aload_n hx hb dX1_cut_6 rfl (lv_at hl 0 rfl) ?_
  refine va_get (D := (dC, dI)) (ci := 1) (v := .int (nI (kgMy σ))) (C := RX1) (T := TX1) (N := 18) hx hb htg inX1 (fs := fsBM h σ) hown hK hP 0 rfl rfl 2 (by decide) (htg _ fX1_49) (fun _ h9 => h9) rfl dX1_cut_7 ?_
  refine xr_icmp_le (tgt := 17) hx hb dX1_cut_10 (by decide) (by omega) (by omega) (fun c10 => ?_) (fun c10 => absurd c10 (by omega))
  refine lv_iconst (v := nI 0) hx hb dX1_cut_17 (by decide) ?_
  refine va_put (D := (dC, dI)) (ci := 1) (v := .int (nI 0)) (ty := .int) (C := RX1) (T := TX1) (N := 18) hx hb htg inX1 tyX1 tyX1_ok nmX1 (fs := fsBM h σ) hown hK hP hD hS 0 rfl rfl 0 (by decide) (htg _ fX1_45) (fun _ h9 => h9) rfl (by decide +kernel) rfl rfl (Nat.le_of_ble_eq_true rfl) dX1_cut_18 (fun H locs hP hD hS => ?_)
  rw [wBM_Th] at hP hD
  refine lv_aload_n hx hb dX1_cut_21 rfl (lv_at hl 0 rfl) ?_
  refine lv_aload_n hx hb dX1_cut_22 rfl (lv_at hl 0 rfl) ?_
  refine va_get (D := (dC, dI)) (ci := 1) (v := .int (nI 0)) (C := RX1) (T := TX1) (N := 18) hx hb htg inX1 (fs := fsBM h (kuTh σ 0)) hown hK hP 0 rfl rfl 0 (by decide) (htg _ fX1_45) (fun _ h9 => h9) rfl dX1_cut_23 ?_
  refine lv_if_le (tgt := 36) hx hb dX1_cut_26 (by decide) (fun c26 => ?_) (fun c26 => absurd c26 (by decide))
  refine lv_iload_n hx hb dX1_cut_36 rfl (lv_at hl 1 rfl) ?_
  refine va_put (D := (dC, dI)) (ci := 1) (v := .int (nI k)) (ty := .int) (C := RX1) (T := TX1) (N := 18) hx hb htg inX1 tyX1 tyX1_ok nmX1 (fs := fsBM h (kuTh σ 0)) hown hK hP hD hS 0 rfl rfl 2 (by decide) (htg _ fX1_49) (fun _ h9 => h9) rfl (by decide +kernel) rfl rfl (Nat.le_of_ble_eq_true rfl) dX1_cut_37 (fun H locs hP hD hS => ?_)
  rw [wBM_My] at hP hD
  have hfin : kuMy (kuTh σ 0) k = kuMy (kuTh σ 0) k := rfl
  rw [hfin] at hP hD
  exact W.vret hx hb hr (fun t ht hW => ⟨⟨(), rfl, trivial, by rw [ht]; exact hP, va_K.moved hW.alike hK, hD⟩, hS.F ht⟩) hS.2.2 dX1_cut_40
set_option maxRecDepth 100000 in
set_option maxHeartbeats 4000000 in
theorem m_pinT (l : Launch) (σ : BM) (k : Int32) (d : Int64) (h0 : k < 0 ∨ ¬ k < nI 4) : wMv l yX1_pin wsX1_pin ({ frames := 0, cells := 0, slots := 0, locals := 0 } : Room) σ [.int k, .long d] (kuTh σ 1) := by
  intro dC dI cI cJ cZ h sz
  refine Met.ofW (cc := cX1_pin) (maxL := 4) (ret := none) (by decide) rfl ?_
  intro p e s m args below meth c s₁ B hml hv
  obtain ⟨rfl, hsz, hP, hK, hD0⟩ := hv
  have hx := B.exec
  have hb := B.bytes
  have hr := B.returns
  have hts := atoms_spec (ws := wsX1_pin) B.pre
  have hown : s.vm.findClass RX1 = some m.cls := findClass_of_methodNamed B.named
  have hlocks := B.notSynchronized
  subst hsz
  have htg : ∀ w ∈ GW, w.before _ s = true := fun w h => hts w (List.mem_cons_of_mem _ h)
  have hD := hD0.self (sz := s.heap.size)
  generalize hAe : va_A (wBM cI cJ cZ h σ) s.heap.size = A at hD ⊢
  have hA : ∀ q : Nat, s.heap.size ≤ q → A q := fun q h => by rw [← hAe]; exact Or.inr h
  have hS : va_S A s.heap s.heap [] := va_S.rf
  have hl := lv_entry [.ref (h 0), .int k, .long d] (n := 4) (Nat.le_of_ble_eq_true rfl)
  rw [lg_entry_eq]
  generalize (lg_sl [.ref (h 0), .int k, .long d] ++ List.replicate (4 - (lg_sl [.ref (h 0), .int k, .long d]).length) Slot.unset).toArray = ls at hl ⊢
  have hl : lv_has ls 4 [(0, .ref (h 0)), (1, .int k), (2, .long d)] := hl
  have hP : va_P (dC, dI) vwCl (wBM cI cJ cZ h σ) s.heap := hP
  refine lv_aload_n hx hb dX1_pin_0 rfl (lv_at hl 0 rfl) ?_
  refine lv_iload_n hx hb dX1_pin_1 rfl (lv_at hl 1 rfl) ?_
  refine lv_if_lt (tgt := 10) hx hb dX1_pin_2 (by decide) (fun c2 => ?_) (fun c2 => ?_)
  · refine lv_iconst (v := nI 1) hx hb dX1_pin_10 (by decide) ?_
    refine lv_goto (tgt := 15) hx hb dX1_pin_11 (by decide) ?_
    refine va_put (D := (dC, dI)) (ci := 1) (v := .int (nI 1)) (ty := .int) (C := RX1) (T := TX1) (N := 18) hx hb htg inX1 tyX1 tyX1_ok nmX1 (fs := fsBM h σ) hown hK hP hD hS 0 rfl rfl 0 (by decide) (htg _ fX1_45) (fun _ h9 => h9) rfl (by decide +kernel) rfl rfl (Nat.le_of_ble_eq_true rfl) dX1_pin_15 (fun H locs hP hD hS => ?_)
    rw [wBM_Th] at hP hD
    refine lv_aload_n hx hb dX1_pin_18 rfl (lv_at hl 0 rfl) ?_
    refine va_get (D := (dC, dI)) (ci := 1) (v := .int (nI 1)) (C := RX1) (T := TX1) (N := 18) hx hb htg inX1 (fs := fsBM h (kuTh σ 1)) hown hK hP 0 rfl rfl 0 (by decide) (htg _ fX1_45) (fun _ h9 => h9) rfl dX1_pin_19 ?_
    refine lv_if_ne (tgt := 32) hx hb dX1_pin_22 (by decide) (fun c22 => ?_) (fun c22 => absurd c22 (by decide))
    have hfin : kuTh σ 1 = kuTh σ 1 := rfl
    rw [hfin] at hP hD
    exact W.vret hx hb hr (fun t ht hW => ⟨⟨(), rfl, trivial, by rw [ht]; exact hP, va_K.moved hW.alike hK, hD⟩, hS.F ht⟩) hS.2.2 dX1_pin_32
  · refine lv_iload_n hx hb dX1_pin_5 rfl (lv_at hl 1 rfl) ?_
    refine lv_iconst (v := nI 4) hx hb dX1_pin_6 (by decide) ?_
    refine lv_icmp_lt (tgt := 14) hx hb dX1_pin_7 (by decide) (fun c7 => absurd c7 (by exact h0.resolve_left c2)) (fun c7 => ?_)
    refine lv_iconst (v := nI 1) hx hb dX1_pin_10 (by decide) ?_
    refine lv_goto (tgt := 15) hx hb dX1_pin_11 (by decide) ?_
    refine va_put (D := (dC, dI)) (ci := 1) (v := .int (nI 1)) (ty := .int) (C := RX1) (T := TX1) (N := 18) hx hb htg inX1 tyX1 tyX1_ok nmX1 (fs := fsBM h σ) hown hK hP hD hS 0 rfl rfl 0 (by decide) (htg _ fX1_45) (fun _ h9 => h9) rfl (by decide +kernel) rfl rfl (Nat.le_of_ble_eq_true rfl) dX1_pin_15 (fun H locs hP hD hS => ?_)
    rw [wBM_Th] at hP hD
    refine lv_aload_n hx hb dX1_pin_18 rfl (lv_at hl 0 rfl) ?_
    refine va_get (D := (dC, dI)) (ci := 1) (v := .int (nI 1)) (C := RX1) (T := TX1) (N := 18) hx hb htg inX1 (fs := fsBM h (kuTh σ 1)) hown hK hP 0 rfl rfl 0 (by decide) (htg _ fX1_45) (fun _ h9 => h9) rfl dX1_pin_19 ?_
    refine lv_if_ne (tgt := 32) hx hb dX1_pin_22 (by decide) (fun c22 => ?_) (fun c22 => absurd c22 (by decide))
    have hfin : kuTh σ 1 = kuTh σ 1 := rfl
    rw [hfin] at hP hD
    exact W.vret hx hb hr (fun t ht hW => ⟨⟨(), rfl, trivial, by rw [ht]; exact hP, va_K.moved hW.alike hK, hD⟩, hS.F ht⟩) hS.2.2 dX1_pin_32
set_option maxRecDepth 100000 in
set_option maxHeartbeats 4000000 in
theorem m_pinN (l : Launch) (σ : BM) (k : Nat) (d : Int64) (hk : k < 4) : wMv l yX1_pin wsX1_pin ({ frames := 0, cells := 0, slots := 0, locals := 0 } : Room) σ [.int (nI k), .long d] (kuPN (kuTh σ 0) (vp_updL (kgPN σ) k d)) := by
  intro dC dI cI cJ cZ h sz
  refine Met.ofW (cc := cX1_pin) (maxL := 4) (ret := none) (by decide) rfl ?_
  intro p e s m args below meth c s₁ B hml hv
  obtain ⟨rfl, hsz, hP, hK, hD0⟩ := hv
  have hx := B.exec
  have hb := B.bytes
  have hr := B.returns
  have hts := atoms_spec (ws := wsX1_pin) B.pre
  have hown : s.vm.findClass RX1 = some m.cls := findClass_of_methodNamed B.named
  have hlocks := B.notSynchronized
  subst hsz
  have htg : ∀ w ∈ GW, w.before _ s = true := fun w h => hts w (List.mem_cons_of_mem _ h)
  have hD := hD0.self (sz := s.heap.size)
  generalize hAe : va_A (wBM cI cJ cZ h σ) s.heap.size = A at hD ⊢
  have hA : ∀ q : Nat, s.heap.size ≤ q → A q := fun q h => by rw [← hAe]; exact Or.inr h
  have hS : va_S A s.heap s.heap [] := va_S.rf
  have hl := lv_entry [.ref (h 0), .int (nI k), .long d] (n := 4) (Nat.le_of_ble_eq_true rfl)
  rw [lg_entry_eq]
  generalize (lg_sl [.ref (h 0), .int (nI k), .long d] ++ List.replicate (4 - (lg_sl [.ref (h 0), .int (nI k), .long d]).length) Slot.unset).toArray = ls at hl ⊢
  have hl : lv_has ls 4 [(0, .ref (h 0)), (1, .int (nI k)), (2, .long d)] := hl
  have hP : va_P (dC, dI) vwCl (wBM cI cJ cZ h σ) s.heap := hP
  refine lv_aload_n hx hb dX1_pin_0 rfl (lv_at hl 0 rfl) ?_
  refine lv_iload_n hx hb dX1_pin_1 rfl (lv_at hl 1 rfl) ?_
  refine lv_if_lt (tgt := 10) hx hb dX1_pin_2 (by decide) (fun c2 => absurd c2 (by exact nI_pos (by omega))) (fun c2 => ?_)
  refine lv_iload_n hx hb dX1_pin_5 rfl (lv_at hl 1 rfl) ?_
  refine lv_iconst (v := nI 4) hx hb dX1_pin_6 (by decide) ?_
  refine xr_icmp_lt (tgt := 14) hx hb dX1_pin_7 (by decide) (by omega) (by omega) (fun c7 => ?_) (fun c7 => absurd c7 (by omega))
  refine lv_iconst (v := nI 0) hx hb dX1_pin_14 (by decide) ?_
  refine va_put (D := (dC, dI)) (ci := 1) (v := .int (nI 0)) (ty := .int) (C := RX1) (T := TX1) (N := 18) hx hb htg inX1 tyX1 tyX1_ok nmX1 (fs := fsBM h σ) hown hK hP hD hS 0 rfl rfl 0 (by decide) (htg _ fX1_45) (fun _ h9 => h9) rfl (by decide +kernel) rfl rfl (Nat.le_of_ble_eq_true rfl) dX1_pin_15 (fun H locs hP hD hS => ?_)
  rw [wBM_Th] at hP hD
  refine lv_aload_n hx hb dX1_pin_18 rfl (lv_at hl 0 rfl) ?_
  refine va_get (D := (dC, dI)) (ci := 1) (v := .int (nI 0)) (C := RX1) (T := TX1) (N := 18) hx hb htg inX1 (fs := fsBM h (kuTh σ 0)) hown hK hP 0 rfl rfl 0 (by decide) (htg _ fX1_45) (fun _ h9 => h9) rfl dX1_pin_19 ?_
  refine lv_if_ne (tgt := 32) hx hb dX1_pin_22 (by decide) (fun c22 => absurd c22 (by decide)) (fun c22 => ?_)
  refine lv_aload_n hx hb dX1_pin_25 rfl (lv_at hl 0 rfl) ?_
  refine va_get (D := (dC, dI)) (ci := 1) (v := .ref (h 9)) (C := RX1) (T := TX1) (N := 18) hx hb htg inX1 (fs := fsBM h (kuTh σ 0)) hown hK hP 0 rfl rfl 12 (by decide) (htg _ fX1_36) (fun _ h9 => h9) rfl dX1_pin_26 ?_
  refine lv_iload_n hx hb dX1_pin_29 rfl (lv_at hl 1 rfl) ?_
  refine lv_lload_n hx hb dX1_pin_30 rfl (lv_at hl 2 rfl) ?_
  refine xr_last (f := kgPN σ) (i := k) (x := d) hx hb hK hP hD hS 9 1 rfl rfl (by omega) (by decide) dX1_pin_31 (fun H locs hP hD hS => ?_)
  rw [wBM_PN] at hP hD
  have hfin : kuPN (kuTh σ 0) (vp_updL (kgPN σ) k d) = kuPN (kuTh σ 0) (vp_updL (kgPN σ) k d) := rfl
  rw [hfin] at hP hD
  exact W.vret hx hb hr (fun t ht hW => ⟨⟨(), rfl, trivial, by rw [ht]; exact hP, va_K.moved hW.alike hK, hD⟩, hS.F ht⟩) hS.2.2 dX1_pin_32
set_option maxRecDepth 100000 in
set_option maxHeartbeats 4000000 in
theorem m_sync (l : Launch) (σ : BM) : wMv l yX1_sync wsX1_sync ({ frames := 0, cells := 0, slots := 0, locals := 0 } : Room) σ [] (kuSy (kuTh σ 0) (kgSz σ)) := by
  intro dC dI cI cJ cZ h sz
  refine Met.ofW (cc := cX1_sync) (maxL := 1) (ret := none) (by decide) rfl ?_
  intro p e s m args below meth c s₁ B hml hv
  obtain ⟨rfl, hsz, hP, hK, hD0⟩ := hv
  have hx := B.exec
  have hb := B.bytes
  have hr := B.returns
  have hts := atoms_spec (ws := wsX1_sync) B.pre
  have hown : s.vm.findClass RX1 = some m.cls := findClass_of_methodNamed B.named
  have hlocks := B.notSynchronized
  subst hsz
  have htg : ∀ w ∈ GW, w.before _ s = true := fun w h => hts w (List.mem_cons_of_mem _ h)
  have hD := hD0.self (sz := s.heap.size)
  generalize hAe : va_A (wBM cI cJ cZ h σ) s.heap.size = A at hD ⊢
  have hA : ∀ q : Nat, s.heap.size ≤ q → A q := fun q h => by rw [← hAe]; exact Or.inr h
  have hS : va_S A s.heap s.heap [] := va_S.rf
  have hl := lv_entry [.ref (h 0)] (n := 1) (Nat.le_of_ble_eq_true rfl)
  rw [lg_entry_eq]
  generalize (lg_sl [.ref (h 0)] ++ List.replicate (1 - (lg_sl [.ref (h 0)]).length) Slot.unset).toArray = ls at hl ⊢
  have hl : lv_has ls 1 [(0, .ref (h 0))] := hl
  have hP : va_P (dC, dI) vwCl (wBM cI cJ cZ h σ) s.heap := hP
  refine lv_aload_n hx hb dX1_sync_0 rfl (lv_at hl 0 rfl) ?_
  refine lv_iconst (v := nI 0) hx hb dX1_sync_1 (by decide) ?_
  refine va_put (D := (dC, dI)) (ci := 1) (v := .int (nI 0)) (ty := .int) (C := RX1) (T := TX1) (N := 18) hx hb htg inX1 tyX1 tyX1_ok nmX1 (fs := fsBM h σ) hown hK hP hD hS 0 rfl rfl 0 (by decide) (htg _ fX1_45) (fun _ h9 => h9) rfl (by decide +kernel) rfl rfl (Nat.le_of_ble_eq_true rfl) dX1_sync_2 (fun H locs hP hD hS => ?_)
  rw [wBM_Th] at hP hD
  refine lv_aload_n hx hb dX1_sync_5 rfl (lv_at hl 0 rfl) ?_
  refine lv_aload_n hx hb dX1_sync_6 rfl (lv_at hl 0 rfl) ?_
  refine va_get (D := (dC, dI)) (ci := 1) (v := .int (nI (kgSz σ))) (C := RX1) (T := TX1) (N := 18) hx hb htg inX1 (fs := fsBM h (kuTh σ 0)) hown hK hP 0 rfl rfl 14 (by decide) (htg _ fX1_80) (fun _ h9 => h9) rfl dX1_sync_7 ?_
  refine va_put (D := (dC, dI)) (ci := 1) (v := .int (nI (kgSz σ))) (ty := .int) (C := RX1) (T := TX1) (N := 18) hx hb htg inX1 tyX1 tyX1_ok nmX1 (fs := fsBM h (kuTh σ 0)) hown hK hP hD hS 0 rfl rfl 15 (by decide) (htg _ fX1_123) (fun _ h9 => h9) rfl (by decide +kernel) rfl rfl (Nat.le_of_ble_eq_true rfl) dX1_sync_10 (fun H locs hP hD hS => ?_)
  rw [wBM_Sy] at hP hD
  have hfin : kuSy (kuTh σ 0) (kgSz σ) = kuSy (kuTh σ 0) (kgSz σ) := rfl
  rw [hfin] at hP hD
  exact W.vret hx hb hr (fun t ht hW => ⟨⟨(), rfl, trivial, by rw [ht]; exact hP, va_K.moved hW.alike hK, hD⟩, hS.F ht⟩) hS.2.2 dX1_sync_13
set_option maxRecDepth 100000 in
set_option maxHeartbeats 4000000 in
theorem m_journalT (l : Launch) (σ : BM) (k : Int32) (h0 : k < 0 ∨ ¬ k < nI (kgSz σ)) : wMi l yX1_journal wsX1_journal ({ frames := 0, cells := 0, slots := 0, locals := 0 } : Room) σ [.int k] (nI 0) (kuTh σ 1) := by
  intro dC dI cI cJ cZ h sz
  refine Met.ofW (cc := cX1_journal) (maxL := 2) (ret := (some .int)) (by decide) rfl ?_
  intro p e s m args below meth c s₁ B hml hv
  obtain ⟨rfl, hsz, hP, hK, hD0⟩ := hv
  have hx := B.exec
  have hb := B.bytes
  have hr := B.returns
  have hts := atoms_spec (ws := wsX1_journal) B.pre
  have hown : s.vm.findClass RX1 = some m.cls := findClass_of_methodNamed B.named
  have hlocks := B.notSynchronized
  subst hsz
  have htg : ∀ w ∈ GW, w.before _ s = true := fun w h => hts w (List.mem_cons_of_mem _ h)
  have hD := hD0.self (sz := s.heap.size)
  generalize hAe : va_A (wBM cI cJ cZ h σ) s.heap.size = A at hD ⊢
  have hA : ∀ q : Nat, s.heap.size ≤ q → A q := fun q h => by rw [← hAe]; exact Or.inr h
  have hS : va_S A s.heap s.heap [] := va_S.rf
  have hl := lv_entry [.ref (h 0), .int k] (n := 2) (Nat.le_of_ble_eq_true rfl)
  rw [lg_entry_eq]
  generalize (lg_sl [.ref (h 0), .int k] ++ List.replicate (2 - (lg_sl [.ref (h 0), .int k]).length) Slot.unset).toArray = ls at hl ⊢
  have hl : lv_has ls 2 [(0, .ref (h 0)), (1, .int k)] := hl
  have hP : va_P (dC, dI) vwCl (wBM cI cJ cZ h σ) s.heap := hP
  refine lv_aload_n hx hb dX1_journal_0 rfl (lv_at hl 0 rfl) ?_
  refine lv_iload_n hx hb dX1_journal_1 rfl (lv_at hl 1 rfl) ?_
  refine lv_if_lt (tgt := 13) hx hb dX1_journal_2 (by decide) (fun c2 => ?_) (fun c2 => ?_)
  · refine lv_iconst (v := nI 1) hx hb dX1_journal_13 (by decide) ?_
    refine lv_goto (tgt := 18) hx hb dX1_journal_14 (by decide) ?_
    refine va_put (D := (dC, dI)) (ci := 1) (v := .int (nI 1)) (ty := .int) (C := RX1) (T := TX1) (N := 18) hx hb htg inX1 tyX1 tyX1_ok nmX1 (fs := fsBM h σ) hown hK hP hD hS 0 rfl rfl 0 (by decide) (htg _ fX1_45) (fun _ h9 => h9) rfl (by decide +kernel) rfl rfl (Nat.le_of_ble_eq_true rfl) dX1_journal_18 (fun H locs hP hD hS => ?_)
    rw [wBM_Th] at hP hD
    refine lv_aload_n hx hb dX1_journal_21 rfl (lv_at hl 0 rfl) ?_
    refine va_get (D := (dC, dI)) (ci := 1) (v := .int (nI 1)) (C := RX1) (T := TX1) (N := 18) hx hb htg inX1 (fs := fsBM h (kuTh σ 1)) hown hK hP 0 rfl rfl 0 (by decide) (htg _ fX1_45) (fun _ h9 => h9) rfl dX1_journal_22 ?_
    refine lv_if_le (tgt := 32) hx hb dX1_journal_25 (by decide) (fun c25 => absurd c25 (by decide)) (fun c25 => ?_)
    refine lv_iconst (v := nI 0) hx hb dX1_journal_28 (by decide) ?_
    refine lv_goto (tgt := 38) hx hb dX1_journal_29 (by decide) ?_
    have hfin : kuTh σ 1 = kuTh σ 1 := rfl
    rw [hfin] at hP hD
    exact W.iret (v := nI 0) hx hb hr (fun t ht hW => ⟨⟨_, (), rfl, rfl, by rw [ht]; exact hP, va_K.moved hW.alike hK, hD⟩, hS.F ht⟩) hS.2.2 dX1_journal_38
  · refine lv_iload_n hx hb dX1_journal_5 rfl (lv_at hl 1 rfl) ?_
    refine lv_aload_n hx hb dX1_journal_6 rfl (lv_at hl 0 rfl) ?_
    refine va_get (D := (dC, dI)) (ci := 1) (v := .int (nI (kgSz σ))) (C := RX1) (T := TX1) (N := 18) hx hb htg inX1 (fs := fsBM h σ) hown hK hP 0 rfl rfl 14 (by decide) (htg _ fX1_80) (fun _ h9 => h9) rfl dX1_journal_7 ?_
    refine lv_icmp_lt (tgt := 17) hx hb dX1_journal_10 (by decide) (fun c10 => absurd c10 (by exact h0.resolve_left c2)) (fun c10 => ?_)
    refine lv_iconst (v := nI 1) hx hb dX1_journal_13 (by decide) ?_
    refine lv_goto (tgt := 18) hx hb dX1_journal_14 (by decide) ?_
    refine va_put (D := (dC, dI)) (ci := 1) (v := .int (nI 1)) (ty := .int) (C := RX1) (T := TX1) (N := 18) hx hb htg inX1 tyX1 tyX1_ok nmX1 (fs := fsBM h σ) hown hK hP hD hS 0 rfl rfl 0 (by decide) (htg _ fX1_45) (fun _ h9 => h9) rfl (by decide +kernel) rfl rfl (Nat.le_of_ble_eq_true rfl) dX1_journal_18 (fun H locs hP hD hS => ?_)
    rw [wBM_Th] at hP hD
    refine lv_aload_n hx hb dX1_journal_21 rfl (lv_at hl 0 rfl) ?_
    refine va_get (D := (dC, dI)) (ci := 1) (v := .int (nI 1)) (C := RX1) (T := TX1) (N := 18) hx hb htg inX1 (fs := fsBM h (kuTh σ 1)) hown hK hP 0 rfl rfl 0 (by decide) (htg _ fX1_45) (fun _ h9 => h9) rfl dX1_journal_22 ?_
    refine lv_if_le (tgt := 32) hx hb dX1_journal_25 (by decide) (fun c25 => absurd c25 (by decide)) (fun c25 => ?_)
    refine lv_iconst (v := nI 0) hx hb dX1_journal_28 (by decide) ?_
    refine lv_goto (tgt := 38) hx hb dX1_journal_29 (by decide) ?_
    have hfin : kuTh σ 1 = kuTh σ 1 := rfl
    rw [hfin] at hP hD
    exact W.iret (v := nI 0) hx hb hr (fun t ht hW => ⟨⟨_, (), rfl, rfl, by rw [ht]; exact hP, va_K.moved hW.alike hK, hD⟩, hS.F ht⟩) hS.2.2 dX1_journal_38
set_option maxRecDepth 100000 in
set_option maxHeartbeats 4000000 in
theorem m_journalN (l : Launch) (σ : BM) (k : Nat) (hk : k < kgSz σ) (hs : kgSz σ ≤ 700) : wMi l yX1_journal wsX1_journal ({ frames := 0, cells := 0, slots := 0, locals := 0 } : Room) σ [.int (nI k)] (kgJR σ k) (kuTh σ 0) := by
  intro dC dI cI cJ cZ h sz
  refine Met.ofW (cc := cX1_journal) (maxL := 2) (ret := (some .int)) (by decide) rfl ?_
  intro p e s m args below meth c s₁ B hml hv
  obtain ⟨rfl, hsz, hP, hK, hD0⟩ := hv
  have hx := B.exec
  have hb := B.bytes
  have hr := B.returns
  have hts := atoms_spec (ws := wsX1_journal) B.pre
  have hown : s.vm.findClass RX1 = some m.cls := findClass_of_methodNamed B.named
  have hlocks := B.notSynchronized
  subst hsz
  have htg : ∀ w ∈ GW, w.before _ s = true := fun w h => hts w (List.mem_cons_of_mem _ h)
  have hD := hD0.self (sz := s.heap.size)
  generalize hAe : va_A (wBM cI cJ cZ h σ) s.heap.size = A at hD ⊢
  have hA : ∀ q : Nat, s.heap.size ≤ q → A q := fun q h => by rw [← hAe]; exact Or.inr h
  have hS : va_S A s.heap s.heap [] := va_S.rf
  have hl := lv_entry [.ref (h 0), .int (nI k)] (n := 2) (Nat.le_of_ble_eq_true rfl)
  rw [lg_entry_eq]
  generalize (lg_sl [.ref (h 0), .int (nI k)] ++ List.replicate (2 - (lg_sl [.ref (h 0), .int (nI k)]).length) Slot.unset).toArray = ls at hl ⊢
  have hl : lv_has ls 2 [(0, .ref (h 0)), (1, .int (nI k))] := hl
  have hP : va_P (dC, dI) vwCl (wBM cI cJ cZ h σ) s.heap := hP
  refine lv_aload_n hx hb dX1_journal_0 rfl (lv_at hl 0 rfl) ?_
  refine lv_iload_n hx hb dX1_journal_1 rfl (lv_at hl 1 rfl) ?_
  refine lv_if_lt (tgt := 13) hx hb dX1_journal_2 (by decide) (fun c2 => absurd c2 (by exact nI_pos (by omega))) (fun c2 => ?_)
  refine lv_iload_n hx hb dX1_journal_5 rfl (lv_at hl 1 rfl) ?_
  refine lv_aload_n hx hb dX1_journal_6 rfl (lv_at hl 0 rfl) ?_
  refine va_get (D := (dC, dI)) (ci := 1) (v := .int (nI (kgSz σ))) (C := RX1) (T := TX1) (N := 18) hx hb htg inX1 (fs := fsBM h σ) hown hK hP 0 rfl rfl 14 (by decide) (htg _ fX1_80) (fun _ h9 => h9) rfl dX1_journal_7 ?_
  refine xr_icmp_lt (tgt := 17) hx hb dX1_journal_10 (by decide) (by omega) (by omega) (fun c10 => ?_) (fun c10 => absurd c10 (by omega))
  refine lv_iconst (v := nI 0) hx hb dX1_journal_17 (by decide) ?_
  refine va_put (D := (dC, dI)) (ci := 1) (v := .int (nI 0)) (ty := .int) (C := RX1) (T := TX1) (N := 18) hx hb htg inX1 tyX1 tyX1_ok nmX1 (fs := fsBM h σ) hown hK hP hD hS 0 rfl rfl 0 (by decide) (htg _ fX1_45) (fun _ h9 => h9) rfl (by decide +kernel) rfl rfl (Nat.le_of_ble_eq_true rfl) dX1_journal_18 (fun H locs hP hD hS => ?_)
  rw [wBM_Th] at hP hD
  refine lv_aload_n hx hb dX1_journal_21 rfl (lv_at hl 0 rfl) ?_
  refine va_get (D := (dC, dI)) (ci := 1) (v := .int (nI 0)) (C := RX1) (T := TX1) (N := 18) hx hb htg inX1 (fs := fsBM h (kuTh σ 0)) hown hK hP 0 rfl rfl 0 (by decide) (htg _ fX1_45) (fun _ h9 => h9) rfl dX1_journal_22 ?_
  refine lv_if_le (tgt := 32) hx hb dX1_journal_25 (by decide) (fun c25 => ?_) (fun c25 => absurd c25 (by decide))
  refine lv_aload_n hx hb dX1_journal_32 rfl (lv_at hl 0 rfl) ?_
  refine va_get (D := (dC, dI)) (ci := 1) (v := .ref (h 10)) (C := RX1) (T := TX1) (N := 18) hx hb htg inX1 (fs := fsBM h (kuTh σ 0)) hown hK hP 0 rfl rfl 13 (by decide) (htg _ fX1_39) (fun _ h9 => h9) rfl dX1_journal_33 ?_
  refine lv_iload_n hx hb dX1_journal_36 rfl (lv_at hl 1 rfl) ?_
  refine xr_iald (f := kgJR σ) (i := k) hx hb hK hP 10 0 rfl rfl (by omega) (by decide) dX1_journal_37 ?_
  have hfin : kuTh σ 0 = kuTh σ 0 := rfl
  rw [hfin] at hP hD
  exact W.iret (v := (kgJR σ) k) hx hb hr (fun t ht hW => ⟨⟨_, (), rfl, rfl, by rw [ht]; exact hP, va_K.moved hW.alike hK, hD⟩, hS.F ht⟩) hS.2.2 dX1_journal_38
set_option maxRecDepth 100000 in
set_option maxHeartbeats 4000000 in
theorem m_length (l : Launch) (σ : BM) (d : Int64) (hc : kgBl σ ≤ 20) : wMi l yX1_length wsX1_length ({ frames := 1, cells := 0, slots := 0, locals := 23 } : Room) σ [.long d] (lenM σ d) (kuTh σ 0) := by
  intro dC dI cI cJ cZ h sz
  refine Met.ofW (cc := cX1_length) (maxL := 4) (ret := (some .int)) (by decide) rfl ?_
  intro p e s m args below meth c s₁ B hml hv
  obtain ⟨rfl, hsz, hP, hK, hD0⟩ := hv
  have hx := B.exec
  have hb := B.bytes
  have hr := B.returns
  have hts := atoms_spec (ws := wsX1_length) B.pre
  have hown : s.vm.findClass RX1 = some m.cls := findClass_of_methodNamed B.named
  have hlocks := B.notSynchronized
  subst hsz
  have htg : ∀ w ∈ GW, w.before _ s = true := fun w h => hts w (List.mem_cons_of_mem _ h)
  have hD := hD0.self (sz := s.heap.size)
  generalize hAe : va_A (wBM cI cJ cZ h σ) s.heap.size = A at hD ⊢
  have hA : ∀ q : Nat, s.heap.size ≤ q → A q := fun q h => by rw [← hAe]; exact Or.inr h
  have hS : va_S A s.heap s.heap [] := va_S.rf
  have hl := lv_entry [.ref (h 0), .long d] (n := 4) (Nat.le_of_ble_eq_true rfl)
  rw [lg_entry_eq]
  generalize (lg_sl [.ref (h 0), .long d] ++ List.replicate (4 - (lg_sl [.ref (h 0), .long d]).length) Slot.unset).toArray = ls at hl ⊢
  have hl : lv_has ls 4 [(0, .ref (h 0)), (1, .long d)] := hl
  have hP : va_P (dC, dI) vwCl (wBM cI cJ cZ h σ) s.heap := hP
  refine lv_aload_n hx hb dX1_length_0 rfl (lv_at hl 0 rfl) ?_
  refine lv_iconst (v := nI 0) hx hb dX1_length_1 (by decide) ?_
  refine va_put (D := (dC, dI)) (ci := 1) (v := .int (nI 0)) (ty := .int) (C := RX1) (T := TX1) (N := 18) hx hb htg inX1 tyX1 tyX1_ok nmX1 (fs := fsBM h σ) hown hK hP hD hS 0 rfl rfl 0 (by decide) (htg _ fX1_45) (fun _ h9 => h9) rfl (by decide +kernel) rfl rfl (Nat.le_of_ble_eq_true rfl) dX1_length_2 (fun H locs hP hD hS => ?_)
  rw [wBM_Th] at hP hD
  refine lv_aload_n hx hb dX1_length_5 rfl (lv_at hl 0 rfl) ?_
  refine lv_lload_n hx hb dX1_length_6 rfl (lv_at hl 1 rfl) ?_
  refine bm_ri (As := [.long d]) (rest := []) (n := 1) ⟨hx, hb, hml, hown, htg⟩ (m_blobOf l (kuTh σ 0) d (hc)) (cwV 1 htg gX1_91 rfl rfl rfl (by decide +kernel) ⟨Nat.le_of_ble_eq_true rfl, Nat.le_of_ble_eq_true rfl⟩) hK hP hD hS hA hl.1 rfl rfl (Nat.le_of_ble_eq_true rfl) dX1_length_7 (Nat.zero_le _) (Nat.zero_le _) (fun H locs hP hS => ?_)
  obtain ⟨o, ho⟩ : ∃ zq, zq = fnd (kgDG σ) d (kgBl σ) := ⟨_, rfl⟩
  have ho1 : o = fnd (kgDG (kuTh σ 0)) d (kgBl (kuTh σ 0)) := ho
  rw [← ho1]
  clear ho1
  cases o with
  | none =>
    refine W.eq (g2 := F0 m 10 ls [.int (-1)]) rfl ?_
    refine lv_istore_n (lv' := [(3, .int (-1)), (0, .ref (h 0)), (1, .long d)]) hx hb dX1_length_10 rfl hl (by decide) rfl (fun ls hl => ?_)
    refine lv_iload_n hx hb dX1_length_11 rfl (lv_at hl 0 rfl) ?_
    refine lv_iconst (v := -1) hx hb dX1_length_12 (by decide) ?_
    refine lv_icmp_ne (tgt := 20) hx hb dX1_length_13 (by decide) (fun c => absurd rfl c) (fun _ => ?_)
    refine lv_iconst (v := -1) hx hb dX1_length_16 (by decide) ?_
    refine lv_goto (tgt := 26) hx hb dX1_length_17 (by decide) ?_
    have hfin : kuTh σ 0 = kuTh σ 0 := rfl
    rw [hfin] at hP hD
    exact W.iret (v := -1) hx hb hr (fun t ht hW => ⟨⟨_, (), rfl, by rw [lenM, ← ho], by rw [ht]; exact hP, va_K.moved hW.alike hK, hD⟩, hS.F ht⟩) hS.2.2 dX1_length_26
  | some b =>
    have hlto := (fnd_lt ho.symm).1
    refine W.eq (g2 := F0 m 10 ls [.int (nI b)]) rfl ?_
    refine lv_istore_n (lv' := [(3, .int (nI b)), (0, .ref (h 0)), (1, .long d)]) hx hb dX1_length_10 rfl hl (by decide) rfl (fun ls hl => ?_)
    refine lv_iload_n hx hb dX1_length_11 rfl (lv_at hl 0 rfl) ?_
    refine lv_iconst (v := -1) hx hb dX1_length_12 (by decide) ?_
    refine lv_icmp_ne (tgt := 20) hx hb dX1_length_13 (by decide) (fun _ => ?_) (fun c => absurd c (optI_none (by omega)))
    refine lv_aload_n hx hb dX1_length_20 rfl (lv_at hl 1 rfl) ?_
    refine va_get (D := (dC, dI)) (ci := 1) (v := .ref (h 3)) (C := RX1) (T := TX1) (N := 18) hx hb htg inX1 (fs := fsBM h (kuTh σ 0)) hown hK hP 0 rfl rfl 4 (by decide) (htg _ fX1_17) (fun _ h9 => h9) rfl dX1_length_21 ?_
    refine lv_iload_n hx hb dX1_length_24 rfl (lv_at hl 0 rfl) ?_
    refine xr_iald (f := kgLN σ) (i := b) hx hb hK hP 3 0 rfl rfl (by omega) (by decide) dX1_length_25 ?_
    have hfin : kuTh σ 0 = kuTh σ 0 := rfl
    rw [hfin] at hP hD
    exact W.iret (v := (kgLN σ) b) hx hb hr (fun t ht hW => ⟨⟨_, (), rfl, by rw [lenM, ← ho], by rw [ht]; exact hP, va_K.moved hW.alike hK, hD⟩, hS.F ht⟩) hS.2.2 dX1_length_26
set_option maxRecDepth 100000 in
set_option maxHeartbeats 4000000 in
theorem m_lookT (l : Launch) (σ : BM) (k : Int64) (hc : kgKn σ ≤ 16) (hf : fnd (kgKS σ) k (kgKn σ) = none) : wMl l yX1_look wsX1_look ({ frames := 1, cells := 0, slots := 0, locals := 23 } : Room) σ [.long k] 0 (kuTh σ 1) := by
  intro dC dI cI cJ cZ h sz
  refine Met.ofW (cc := cX1_look) (maxL := 4) (ret := (some .long)) (by decide) rfl ?_
  intro p e s m args below meth c s₁ B hml hv
  obtain ⟨rfl, hsz, hP, hK, hD0⟩ := hv
  have hx := B.exec
  have hb := B.bytes
  have hr := B.returns
  have hts := atoms_spec (ws := wsX1_look) B.pre
  have hown : s.vm.findClass RX1 = some m.cls := findClass_of_methodNamed B.named
  have hlocks := B.notSynchronized
  subst hsz
  have htg : ∀ w ∈ GW, w.before _ s = true := fun w h => hts w (List.mem_cons_of_mem _ h)
  have hD := hD0.self (sz := s.heap.size)
  generalize hAe : va_A (wBM cI cJ cZ h σ) s.heap.size = A at hD ⊢
  have hA : ∀ q : Nat, s.heap.size ≤ q → A q := fun q h => by rw [← hAe]; exact Or.inr h
  have hS : va_S A s.heap s.heap [] := va_S.rf
  have hl := lv_entry [.ref (h 0), .long k] (n := 4) (Nat.le_of_ble_eq_true rfl)
  rw [lg_entry_eq]
  generalize (lg_sl [.ref (h 0), .long k] ++ List.replicate (4 - (lg_sl [.ref (h 0), .long k]).length) Slot.unset).toArray = ls at hl ⊢
  have hl : lv_has ls 4 [(0, .ref (h 0)), (1, .long k)] := hl
  have hP : va_P (dC, dI) vwCl (wBM cI cJ cZ h σ) s.heap := hP
  refine lv_aload_n hx hb dX1_look_0 rfl (lv_at hl 0 rfl) ?_
  refine lv_lload_n hx hb dX1_look_1 rfl (lv_at hl 1 rfl) ?_
  refine bm_ri (As := [.long k]) (rest := []) (n := 1) ⟨hx, hb, hml, hown, htg⟩ (m_keyOf l σ k (hc)) (cwV 1 htg gX1_102 rfl rfl rfl (by decide +kernel) ⟨Nat.le_of_ble_eq_true rfl, Nat.le_of_ble_eq_true rfl⟩) hK hP hD hS hA hl.1 rfl rfl (Nat.le_of_ble_eq_true rfl) dX1_look_2 (Nat.zero_le _) (Nat.zero_le _) (fun H locs hP hS => ?_)
  rw [hf]
  refine W.eq (g2 := F0 m 5 ls [.int (-1)]) rfl ?_
  refine lv_istore_n (lv' := [(3, .int (-1)), (0, .ref (h 0)), (1, .long k)]) hx hb dX1_look_5 rfl hl (by decide) rfl (fun ls hl => ?_)
  refine lv_aload_n hx hb dX1_look_6 rfl (lv_at hl 1 rfl) ?_
  refine lv_iload_n hx hb dX1_look_7 rfl (lv_at hl 0 rfl) ?_
  refine lv_iconst (v := -1) hx hb dX1_look_8 (by decide) ?_
  refine lv_icmp_ne (tgt := 16) hx hb dX1_look_9 (by decide) (fun c => absurd rfl c) (fun _ => ?_)
  refine lv_iconst (v := nI 1) hx hb dX1_look_12 (by decide) ?_
  refine lv_goto (tgt := 17) hx hb dX1_look_13 (by decide) ?_
  refine va_put (D := (dC, dI)) (ci := 1) (v := .int (nI 1)) (ty := .int) (C := RX1) (T := TX1) (N := 18) hx hb htg inX1 tyX1 tyX1_ok nmX1 (fs := fsBM h σ) hown hK hP hD hS 0 rfl rfl 0 (by decide) (htg _ fX1_45) (fun _ h9 => h9) rfl (by decide +kernel) rfl rfl (Nat.le_of_ble_eq_true rfl) dX1_look_17 (fun H locs hP hD hS => ?_)
  rw [wBM_Th] at hP hD
  refine lv_iload_n hx hb dX1_look_20 rfl (lv_at hl 0 rfl) ?_
  refine lv_iconst (v := -1) hx hb dX1_look_21 (by decide) ?_
  refine lv_icmp_ne (tgt := 29) hx hb dX1_look_22 (by decide) (fun c => absurd rfl c) (fun _ => ?_)
  refine lv_lconst (v := 0) hx hb dX1_look_25 (by decide) ?_
  refine lv_goto (tgt := 35) hx hb dX1_look_26 (by decide) ?_
  have hfin : kuTh σ 1 = kuTh σ 1 := rfl
  rw [hfin] at hP hD
  exact W.lret (v := 0) hx hb hr (fun t ht hW => ⟨⟨_, (), rfl, rfl, by rw [ht]; exact hP, va_K.moved hW.alike hK, hD⟩, hS.F ht⟩) hS.2.2 dX1_look_35
set_option maxRecDepth 100000 in
set_option maxHeartbeats 4000000 in
theorem m_lookN (l : Launch) (σ : BM) (k : Int64) (i : Nat) (hc : kgKn σ ≤ 16) (hf : fnd (kgKS σ) k (kgKn σ) = some i) : wMl l yX1_look wsX1_look ({ frames := 1, cells := 0, slots := 0, locals := 23 } : Room) σ [.long k] (kgTO σ i) (kuTh σ 0) := by
  intro dC dI cI cJ cZ h sz
  refine Met.ofW (cc := cX1_look) (maxL := 4) (ret := (some .long)) (by decide) rfl ?_
  intro p e s m args below meth c s₁ B hml hv
  obtain ⟨rfl, hsz, hP, hK, hD0⟩ := hv
  have hx := B.exec
  have hb := B.bytes
  have hr := B.returns
  have hts := atoms_spec (ws := wsX1_look) B.pre
  have hown : s.vm.findClass RX1 = some m.cls := findClass_of_methodNamed B.named
  have hlocks := B.notSynchronized
  subst hsz
  have htg : ∀ w ∈ GW, w.before _ s = true := fun w h => hts w (List.mem_cons_of_mem _ h)
  have hD := hD0.self (sz := s.heap.size)
  generalize hAe : va_A (wBM cI cJ cZ h σ) s.heap.size = A at hD ⊢
  have hA : ∀ q : Nat, s.heap.size ≤ q → A q := fun q h => by rw [← hAe]; exact Or.inr h
  have hS : va_S A s.heap s.heap [] := va_S.rf
  have hl := lv_entry [.ref (h 0), .long k] (n := 4) (Nat.le_of_ble_eq_true rfl)
  rw [lg_entry_eq]
  generalize (lg_sl [.ref (h 0), .long k] ++ List.replicate (4 - (lg_sl [.ref (h 0), .long k]).length) Slot.unset).toArray = ls at hl ⊢
  have hl : lv_has ls 4 [(0, .ref (h 0)), (1, .long k)] := hl
  have hP : va_P (dC, dI) vwCl (wBM cI cJ cZ h σ) s.heap := hP
  refine lv_aload_n hx hb dX1_look_0 rfl (lv_at hl 0 rfl) ?_
  refine lv_lload_n hx hb dX1_look_1 rfl (lv_at hl 1 rfl) ?_
  refine bm_ri (As := [.long k]) (rest := []) (n := 1) ⟨hx, hb, hml, hown, htg⟩ (m_keyOf l σ k (hc)) (cwV 1 htg gX1_102 rfl rfl rfl (by decide +kernel) ⟨Nat.le_of_ble_eq_true rfl, Nat.le_of_ble_eq_true rfl⟩) hK hP hD hS hA hl.1 rfl rfl (Nat.le_of_ble_eq_true rfl) dX1_look_2 (Nat.zero_le _) (Nat.zero_le _) (fun H locs hP hS => ?_)
  have hlt := (fnd_lt hf).1
  rw [hf]
  refine W.eq (g2 := F0 m 5 ls [.int (nI i)]) rfl ?_
  refine lv_istore_n (lv' := [(3, .int (nI i)), (0, .ref (h 0)), (1, .long k)]) hx hb dX1_look_5 rfl hl (by decide) rfl (fun ls hl => ?_)
  refine lv_aload_n hx hb dX1_look_6 rfl (lv_at hl 1 rfl) ?_
  refine lv_iload_n hx hb dX1_look_7 rfl (lv_at hl 0 rfl) ?_
  refine lv_iconst (v := -1) hx hb dX1_look_8 (by decide) ?_
  refine lv_icmp_ne (tgt := 16) hx hb dX1_look_9 (by decide) (fun _ => ?_) (fun c => absurd c (optI_none (by omega)))
  refine lv_iconst (v := nI 0) hx hb dX1_look_16 (by decide) ?_
  refine va_put (D := (dC, dI)) (ci := 1) (v := .int (nI 0)) (ty := .int) (C := RX1) (T := TX1) (N := 18) hx hb htg inX1 tyX1 tyX1_ok nmX1 (fs := fsBM h σ) hown hK hP hD hS 0 rfl rfl 0 (by decide) (htg _ fX1_45) (fun _ h9 => h9) rfl (by decide +kernel) rfl rfl (Nat.le_of_ble_eq_true rfl) dX1_look_17 (fun H locs hP hD hS => ?_)
  rw [wBM_Th] at hP hD
  refine lv_iload_n hx hb dX1_look_20 rfl (lv_at hl 0 rfl) ?_
  refine lv_iconst (v := -1) hx hb dX1_look_21 (by decide) ?_
  refine lv_icmp_ne (tgt := 29) hx hb dX1_look_22 (by decide) (fun _ => ?_) (fun c => absurd c (optI_none (by omega)))
  refine lv_aload_n hx hb dX1_look_29 rfl (lv_at hl 1 rfl) ?_
  refine va_get (D := (dC, dI)) (ci := 1) (v := .ref (h 8)) (C := RX1) (T := TX1) (N := 18) hx hb htg inX1 (fs := fsBM h (kuTh σ 0)) hown hK hP 0 rfl rfl 10 (by decide) (htg _ fX1_33) (fun _ h9 => h9) rfl dX1_look_30 ?_
  refine lv_iload_n hx hb dX1_look_33 rfl (lv_at hl 0 rfl) ?_
  refine xr_lald (f := kgTO σ) (i := i) hx hb hK hP 8 1 rfl rfl (by omega) (by decide) dX1_look_34 ?_
  have hfin : kuTh σ 0 = kuTh σ 0 := rfl
  rw [hfin] at hP hD
  exact W.lret (v := (kgTO σ) i) hx hb hr (fun t ht hW => ⟨⟨_, (), rfl, rfl, by rw [ht]; exact hP, va_K.moved hW.alike hK, hD⟩, hS.F ht⟩) hS.2.2 dX1_look_35
set_option maxRecDepth 100000 in
set_option maxHeartbeats 4000000 in
theorem m_byteOfT1 (l : Launch) (σ : BM) (d : Int64) (k : Int32) (hc : kgBl σ ≤ 20) (hf : fnd (kgDG σ) d (kgBl σ) = none) : wMi l yX1_byteOf wsX1_byteOf ({ frames := 1, cells := 0, slots := 0, locals := 23 } : Room) σ [.long d, .int k] (nI 0) (kuTh σ 1) := by
  intro dC dI cI cJ cZ h sz
  refine Met.ofW (cc := cX1_byteOf) (maxL := 5) (ret := (some .int)) (by decide) rfl ?_
  intro p e s m args below meth c s₁ B hml hv
  obtain ⟨rfl, hsz, hP, hK, hD0⟩ := hv
  have hx := B.exec
  have hb := B.bytes
  have hr := B.returns
  have hts := atoms_spec (ws := wsX1_byteOf) B.pre
  have hown : s.vm.findClass RX1 = some m.cls := findClass_of_methodNamed B.named
  have hlocks := B.notSynchronized
  subst hsz
  have htg : ∀ w ∈ GW, w.before _ s = true := fun w h => hts w (List.mem_cons_of_mem _ h)
  have hD := hD0.self (sz := s.heap.size)
  generalize hAe : va_A (wBM cI cJ cZ h σ) s.heap.size = A at hD ⊢
  have hA : ∀ q : Nat, s.heap.size ≤ q → A q := fun q h => by rw [← hAe]; exact Or.inr h
  have hS : va_S A s.heap s.heap [] := va_S.rf
  have hl := lv_entry [.ref (h 0), .long d, .int k] (n := 5) (Nat.le_of_ble_eq_true rfl)
  rw [lg_entry_eq]
  generalize (lg_sl [.ref (h 0), .long d, .int k] ++ List.replicate (5 - (lg_sl [.ref (h 0), .long d, .int k]).length) Slot.unset).toArray = ls at hl ⊢
  have hl : lv_has ls 5 [(0, .ref (h 0)), (1, .long d), (3, .int k)] := hl
  have hP : va_P (dC, dI) vwCl (wBM cI cJ cZ h σ) s.heap := hP
  refine lv_aload_n hx hb dX1_byteOf_0 rfl (lv_at hl 0 rfl) ?_
  refine lv_lload_n hx hb dX1_byteOf_1 rfl (lv_at hl 1 rfl) ?_
  refine bm_ri (As := [.long d]) (rest := []) (n := 1) ⟨hx, hb, hml, hown, htg⟩ (m_blobOf l σ d (hc)) (cwV 1 htg gX1_91 rfl rfl rfl (by decide +kernel) ⟨Nat.le_of_ble_eq_true rfl, Nat.le_of_ble_eq_true rfl⟩) hK hP hD hS hA hl.1 rfl rfl (Nat.le_of_ble_eq_true rfl) dX1_byteOf_2 (Nat.zero_le _) (Nat.zero_le _) (fun H locs hP hS => ?_)
  rw [hf]
  refine W.eq (g2 := F0 m 5 ls [.int (-1)]) rfl ?_
  refine lv_istore (lv' := [(4, .int (-1)), (0, .ref (h 0)), (1, .long d), (3, .int k)]) hx hb dX1_byteOf_5 hl (by decide) rfl (fun ls hl => ?_)
  refine lv_aload_n hx hb dX1_byteOf_7 rfl (lv_at hl 1 rfl) ?_
  refine lv_iload hx hb dX1_byteOf_8 (lv_at hl 0 rfl) ?_
  refine lv_iconst (v := -1) hx hb dX1_byteOf_10 (by decide) ?_
  refine lv_icmp_ne (tgt := 18) hx hb dX1_byteOf_11 (by decide) (fun c => absurd rfl c) (fun _ => ?_)
  refine lv_iconst (v := nI 1) hx hb dX1_byteOf_14 (by decide) ?_
  refine lv_goto (tgt := 38) hx hb dX1_byteOf_15 (by decide) ?_
  refine va_put (D := (dC, dI)) (ci := 1) (v := .int (nI 1)) (ty := .int) (C := RX1) (T := TX1) (N := 18) hx hb htg inX1 tyX1 tyX1_ok nmX1 (fs := fsBM h σ) hown hK hP hD hS 0 rfl rfl 0 (by decide) (htg _ fX1_45) (fun _ h9 => h9) rfl (by decide +kernel) rfl rfl (Nat.le_of_ble_eq_true rfl) dX1_byteOf_38 (fun H locs hP hD hS => ?_)
  rw [wBM_Th] at hP hD
  refine lv_aload_n hx hb dX1_byteOf_41 rfl (lv_at hl 1 rfl) ?_
  refine va_get (D := (dC, dI)) (ci := 1) (v := .int (nI 1)) (C := RX1) (T := TX1) (N := 18) hx hb htg inX1 (fs := fsBM h (kuTh σ 1)) hown hK hP 0 rfl rfl 0 (by decide) (htg _ fX1_45) (fun _ h9 => h9) rfl dX1_byteOf_42 ?_
  refine lv_if_le (tgt := 52) hx hb dX1_byteOf_45 (by decide) (fun c45 => absurd c45 (by decide)) (fun c45 => ?_)
  refine lv_iconst (v := nI 0) hx hb dX1_byteOf_48 (by decide) ?_
  refine lv_goto (tgt := 65) hx hb dX1_byteOf_49 (by decide) ?_
  have hfin : kuTh σ 1 = kuTh σ 1 := rfl
  rw [hfin] at hP hD
  exact W.iret (v := nI 0) hx hb hr (fun t ht hW => ⟨⟨_, (), rfl, rfl, by rw [ht]; exact hP, va_K.moved hW.alike hK, hD⟩, hS.F ht⟩) hS.2.2 dX1_byteOf_65
set_option maxRecDepth 100000 in
set_option maxHeartbeats 4000000 in
theorem m_byteOfT2 (l : Launch) (σ : BM) (d : Int64) (k : Int32) (b : Nat) (hc : kgBl σ ≤ 20) (hf : fnd (kgDG σ) d (kgBl σ) = some b) (h0 : k < 0 ∨ ¬ k < kgLN σ b) : wMi l yX1_byteOf wsX1_byteOf ({ frames := 1, cells := 0, slots := 0, locals := 23 } : Room) σ [.long d, .int k] (nI 0) (kuTh σ 2) := by
  intro dC dI cI cJ cZ h sz
  refine Met.ofW (cc := cX1_byteOf) (maxL := 5) (ret := (some .int)) (by decide) rfl ?_
  intro p e s m args below meth c s₁ B hml hv
  obtain ⟨rfl, hsz, hP, hK, hD0⟩ := hv
  have hx := B.exec
  have hb := B.bytes
  have hr := B.returns
  have hts := atoms_spec (ws := wsX1_byteOf) B.pre
  have hown : s.vm.findClass RX1 = some m.cls := findClass_of_methodNamed B.named
  have hlocks := B.notSynchronized
  subst hsz
  have htg : ∀ w ∈ GW, w.before _ s = true := fun w h => hts w (List.mem_cons_of_mem _ h)
  have hD := hD0.self (sz := s.heap.size)
  generalize hAe : va_A (wBM cI cJ cZ h σ) s.heap.size = A at hD ⊢
  have hA : ∀ q : Nat, s.heap.size ≤ q → A q := fun q h => by rw [← hAe]; exact Or.inr h
  have hS : va_S A s.heap s.heap [] := va_S.rf
  have hl := lv_entry [.ref (h 0), .long d, .int k] (n := 5) (Nat.le_of_ble_eq_true rfl)
  rw [lg_entry_eq]
  generalize (lg_sl [.ref (h 0), .long d, .int k] ++ List.replicate (5 - (lg_sl [.ref (h 0), .long d, .int k]).length) Slot.unset).toArray = ls at hl ⊢
  have hl : lv_has ls 5 [(0, .ref (h 0)), (1, .long d), (3, .int k)] := hl
  have hP : va_P (dC, dI) vwCl (wBM cI cJ cZ h σ) s.heap := hP
  refine lv_aload_n hx hb dX1_byteOf_0 rfl (lv_at hl 0 rfl) ?_
  refine lv_lload_n hx hb dX1_byteOf_1 rfl (lv_at hl 1 rfl) ?_
  refine bm_ri (As := [.long d]) (rest := []) (n := 1) ⟨hx, hb, hml, hown, htg⟩ (m_blobOf l σ d (hc)) (cwV 1 htg gX1_91 rfl rfl rfl (by decide +kernel) ⟨Nat.le_of_ble_eq_true rfl, Nat.le_of_ble_eq_true rfl⟩) hK hP hD hS hA hl.1 rfl rfl (Nat.le_of_ble_eq_true rfl) dX1_byteOf_2 (Nat.zero_le _) (Nat.zero_le _) (fun H locs hP hS => ?_)
  have hlt := (fnd_lt hf).1
  rw [hf]
  refine W.eq (g2 := F0 m 5 ls [.int (nI b)]) rfl ?_
  refine lv_istore (lv' := [(4, .int (nI b)), (0, .ref (h 0)), (1, .long d), (3, .int k)]) hx hb dX1_byteOf_5 hl (by decide) rfl (fun ls hl => ?_)
  refine lv_aload_n hx hb dX1_byteOf_7 rfl (lv_at hl 1 rfl) ?_
  refine lv_iload hx hb dX1_byteOf_8 (lv_at hl 0 rfl) ?_
  refine lv_iconst (v := -1) hx hb dX1_byteOf_10 (by decide) ?_
  refine lv_icmp_ne (tgt := 18) hx hb dX1_byteOf_11 (by decide) (fun _ => ?_) (fun c => absurd c (optI_none (by omega)))
  refine lv_iload_n hx hb dX1_byteOf_18 rfl (lv_at hl 3 rfl) ?_
  refine lv_if_lt (tgt := 33) hx hb dX1_byteOf_19 (by decide) (fun c19 => ?_) (fun c19 => ?_)
  · refine lv_iconst (v := nI 2) hx hb dX1_byteOf_33 (by decide) ?_
    refine lv_goto (tgt := 38) hx hb dX1_byteOf_34 (by decide) ?_
    refine va_put (D := (dC, dI)) (ci := 1) (v := .int (nI 2)) (ty := .int) (C := RX1) (T := TX1) (N := 18) hx hb htg inX1 tyX1 tyX1_ok nmX1 (fs := fsBM h σ) hown hK hP hD hS 0 rfl rfl 0 (by decide) (htg _ fX1_45) (fun _ h9 => h9) rfl (by decide +kernel) rfl rfl (Nat.le_of_ble_eq_true rfl) dX1_byteOf_38 (fun H locs hP hD hS => ?_)
    rw [wBM_Th] at hP hD
    refine lv_aload_n hx hb dX1_byteOf_41 rfl (lv_at hl 1 rfl) ?_
    refine va_get (D := (dC, dI)) (ci := 1) (v := .int (nI 2)) (C := RX1) (T := TX1) (N := 18) hx hb htg inX1 (fs := fsBM h (kuTh σ 2)) hown hK hP 0 rfl rfl 0 (by decide) (htg _ fX1_45) (fun _ h9 => h9) rfl dX1_byteOf_42 ?_
    refine lv_if_le (tgt := 52) hx hb dX1_byteOf_45 (by decide) (fun c45 => absurd c45 (by decide)) (fun c45 => ?_)
    refine lv_iconst (v := nI 0) hx hb dX1_byteOf_48 (by decide) ?_
    refine lv_goto (tgt := 65) hx hb dX1_byteOf_49 (by decide) ?_
    have hfin : kuTh σ 2 = kuTh σ 2 := rfl
    rw [hfin] at hP hD
    exact W.iret (v := nI 0) hx hb hr (fun t ht hW => ⟨⟨_, (), rfl, rfl, by rw [ht]; exact hP, va_K.moved hW.alike hK, hD⟩, hS.F ht⟩) hS.2.2 dX1_byteOf_65
  · refine lv_iload_n hx hb dX1_byteOf_22 rfl (lv_at hl 3 rfl) ?_
    refine lv_aload_n hx hb dX1_byteOf_23 rfl (lv_at hl 1 rfl) ?_
    refine va_get (D := (dC, dI)) (ci := 1) (v := .ref (h 3)) (C := RX1) (T := TX1) (N := 18) hx hb htg inX1 (fs := fsBM h σ) hown hK hP 0 rfl rfl 4 (by decide) (htg _ fX1_17) (fun _ h9 => h9) rfl dX1_byteOf_24 ?_
    refine lv_iload hx hb dX1_byteOf_27 (lv_at hl 0 rfl) ?_
    refine xr_iald (f := kgLN σ) (i := b) hx hb hK hP 3 0 rfl rfl (by omega) (by decide) dX1_byteOf_29 ?_
    refine lv_icmp_lt (tgt := 37) hx hb dX1_byteOf_30 (by decide) (fun c30 => absurd c30 (by exact h0.resolve_left c19)) (fun c30 => ?_)
    refine lv_iconst (v := nI 2) hx hb dX1_byteOf_33 (by decide) ?_
    refine lv_goto (tgt := 38) hx hb dX1_byteOf_34 (by decide) ?_
    refine va_put (D := (dC, dI)) (ci := 1) (v := .int (nI 2)) (ty := .int) (C := RX1) (T := TX1) (N := 18) hx hb htg inX1 tyX1 tyX1_ok nmX1 (fs := fsBM h σ) hown hK hP hD hS 0 rfl rfl 0 (by decide) (htg _ fX1_45) (fun _ h9 => h9) rfl (by decide +kernel) rfl rfl (Nat.le_of_ble_eq_true rfl) dX1_byteOf_38 (fun H locs hP hD hS => ?_)
    rw [wBM_Th] at hP hD
    refine lv_aload_n hx hb dX1_byteOf_41 rfl (lv_at hl 1 rfl) ?_
    refine va_get (D := (dC, dI)) (ci := 1) (v := .int (nI 2)) (C := RX1) (T := TX1) (N := 18) hx hb htg inX1 (fs := fsBM h (kuTh σ 2)) hown hK hP 0 rfl rfl 0 (by decide) (htg _ fX1_45) (fun _ h9 => h9) rfl dX1_byteOf_42 ?_
    refine lv_if_le (tgt := 52) hx hb dX1_byteOf_45 (by decide) (fun c45 => absurd c45 (by decide)) (fun c45 => ?_)
    refine lv_iconst (v := nI 0) hx hb dX1_byteOf_48 (by decide) ?_
    refine lv_goto (tgt := 65) hx hb dX1_byteOf_49 (by decide) ?_
    have hfin : kuTh σ 2 = kuTh σ 2 := rfl
    rw [hfin] at hP hD
    exact W.iret (v := nI 0) hx hb hr (fun t ht hW => ⟨⟨_, (), rfl, rfl, by rw [ht]; exact hP, va_K.moved hW.alike hK, hD⟩, hS.F ht⟩) hS.2.2 dX1_byteOf_65
set_option maxRecDepth 100000 in
set_option maxHeartbeats 4000000 in
theorem m_byteOfN (l : Launch) (σ : BM) (d : Int64) (k : Nat) (b : Nat) (n : Nat) (hc : kgBl σ ≤ 20) (hf : fnd (kgDG σ) d (kgBl σ) = some b) (hn : kgLN σ b = nI n) (hk : k < n) (hn7 : n ≤ 700) : wMi l yX1_byteOf wsX1_byteOf ({ frames := 1, cells := 0, slots := 0, locals := 23 } : Room) σ [.long d, .int (nI k)] (kgBY σ (700 * b + k)) (kuTh σ 0) := by
  intro dC dI cI cJ cZ h sz
  refine Met.ofW (cc := cX1_byteOf) (maxL := 5) (ret := (some .int)) (by decide) rfl ?_
  intro p e s m args below meth c s₁ B hml hv
  obtain ⟨rfl, hsz, hP, hK, hD0⟩ := hv
  have hx := B.exec
  have hb := B.bytes
  have hr := B.returns
  have hts := atoms_spec (ws := wsX1_byteOf) B.pre
  have hown : s.vm.findClass RX1 = some m.cls := findClass_of_methodNamed B.named
  have hlocks := B.notSynchronized
  subst hsz
  have htg : ∀ w ∈ GW, w.before _ s = true := fun w h => hts w (List.mem_cons_of_mem _ h)
  have hD := hD0.self (sz := s.heap.size)
  generalize hAe : va_A (wBM cI cJ cZ h σ) s.heap.size = A at hD ⊢
  have hA : ∀ q : Nat, s.heap.size ≤ q → A q := fun q h => by rw [← hAe]; exact Or.inr h
  have hS : va_S A s.heap s.heap [] := va_S.rf
  have hl := lv_entry [.ref (h 0), .long d, .int (nI k)] (n := 5) (Nat.le_of_ble_eq_true rfl)
  rw [lg_entry_eq]
  generalize (lg_sl [.ref (h 0), .long d, .int (nI k)] ++ List.replicate (5 - (lg_sl [.ref (h 0), .long d, .int (nI k)]).length) Slot.unset).toArray = ls at hl ⊢
  have hl : lv_has ls 5 [(0, .ref (h 0)), (1, .long d), (3, .int (nI k))] := hl
  have hP : va_P (dC, dI) vwCl (wBM cI cJ cZ h σ) s.heap := hP
  refine lv_aload_n hx hb dX1_byteOf_0 rfl (lv_at hl 0 rfl) ?_
  refine lv_lload_n hx hb dX1_byteOf_1 rfl (lv_at hl 1 rfl) ?_
  refine bm_ri (As := [.long d]) (rest := []) (n := 1) ⟨hx, hb, hml, hown, htg⟩ (m_blobOf l σ d (hc)) (cwV 1 htg gX1_91 rfl rfl rfl (by decide +kernel) ⟨Nat.le_of_ble_eq_true rfl, Nat.le_of_ble_eq_true rfl⟩) hK hP hD hS hA hl.1 rfl rfl (Nat.le_of_ble_eq_true rfl) dX1_byteOf_2 (Nat.zero_le _) (Nat.zero_le _) (fun H locs hP hS => ?_)
  have hlt := (fnd_lt hf).1
  rw [hf]
  refine W.eq (g2 := F0 m 5 ls [.int (nI b)]) rfl ?_
  refine lv_istore (lv' := [(4, .int (nI b)), (0, .ref (h 0)), (1, .long d), (3, .int (nI k))]) hx hb dX1_byteOf_5 hl (by decide) rfl (fun ls hl => ?_)
  refine lv_aload_n hx hb dX1_byteOf_7 rfl (lv_at hl 1 rfl) ?_
  refine lv_iload hx hb dX1_byteOf_8 (lv_at hl 0 rfl) ?_
  refine lv_iconst (v := -1) hx hb dX1_byteOf_10 (by decide) ?_
  refine lv_icmp_ne (tgt := 18) hx hb dX1_byteOf_11 (by decide) (fun _ => ?_) (fun c => absurd c (optI_none (by omega)))
  refine lv_iload_n hx hb dX1_byteOf_18 rfl (lv_at hl 3 rfl) ?_
  refine lv_if_lt (tgt := 33) hx hb dX1_byteOf_19 (by decide) (fun c19 => absurd c19 (by exact nI_pos (by omega))) (fun c19 => ?_)
  refine lv_iload_n hx hb dX1_byteOf_22 rfl (lv_at hl 3 rfl) ?_
  refine lv_aload_n hx hb dX1_byteOf_23 rfl (lv_at hl 1 rfl) ?_
  refine va_get (D := (dC, dI)) (ci := 1) (v := .ref (h 3)) (C := RX1) (T := TX1) (N := 18) hx hb htg inX1 (fs := fsBM h σ) hown hK hP 0 rfl rfl 4 (by decide) (htg _ fX1_17) (fun _ h9 => h9) rfl dX1_byteOf_24 ?_
  refine lv_iload hx hb dX1_byteOf_27 (lv_at hl 0 rfl) ?_
  refine xr_iald (f := kgLN σ) (i := b) hx hb hK hP 3 0 rfl rfl (by omega) (by decide) dX1_byteOf_29 ?_
  refine W.eq (g2 := F0 m 30 ls [.int (nI n), .int (nI k), .ref (h 0)]) (by rw [hn]) ?_
  refine xr_icmp_lt (tgt := 37) hx hb dX1_byteOf_30 (by decide) (by omega) (by omega) (fun c30 => ?_) (fun c30 => absurd c30 (by omega))
  refine lv_iconst (v := nI 0) hx hb dX1_byteOf_37 (by decide) ?_
  refine va_put (D := (dC, dI)) (ci := 1) (v := .int (nI 0)) (ty := .int) (C := RX1) (T := TX1) (N := 18) hx hb htg inX1 tyX1 tyX1_ok nmX1 (fs := fsBM h σ) hown hK hP hD hS 0 rfl rfl 0 (by decide) (htg _ fX1_45) (fun _ h9 => h9) rfl (by decide +kernel) rfl rfl (Nat.le_of_ble_eq_true rfl) dX1_byteOf_38 (fun H locs hP hD hS => ?_)
  rw [wBM_Th] at hP hD
  refine lv_aload_n hx hb dX1_byteOf_41 rfl (lv_at hl 1 rfl) ?_
  refine va_get (D := (dC, dI)) (ci := 1) (v := .int (nI 0)) (C := RX1) (T := TX1) (N := 18) hx hb htg inX1 (fs := fsBM h (kuTh σ 0)) hown hK hP 0 rfl rfl 0 (by decide) (htg _ fX1_45) (fun _ h9 => h9) rfl dX1_byteOf_42 ?_
  refine lv_if_le (tgt := 52) hx hb dX1_byteOf_45 (by decide) (fun c45 => ?_) (fun c45 => absurd c45 (by decide))
  refine lv_aload_n hx hb dX1_byteOf_52 rfl (lv_at hl 1 rfl) ?_
  refine va_get (D := (dC, dI)) (ci := 1) (v := .ref (h 4)) (C := RX1) (T := TX1) (N := 18) hx hb htg inX1 (fs := fsBM h (kuTh σ 0)) hown hK hP 0 rfl rfl 5 (by decide) (htg _ fX1_20) (fun _ h9 => h9) rfl dX1_byteOf_53 ?_
  refine lv_sipush (v := nI 700) hx hb dX1_byteOf_56 (by decide) ?_
  refine lv_iload hx hb dX1_byteOf_59 (lv_at hl 0 rfl) ?_
  refine xr_imul hx hb dX1_byteOf_61 ?_
  refine lv_iload_n hx hb dX1_byteOf_62 rfl (lv_at hl 3 rfl) ?_
  refine xr_iadd hx hb dX1_byteOf_63 ?_
  refine xr_iald (f := kgBY σ) (i := 700 * b + k) hx hb hK hP 4 0 rfl rfl (by omega) (by decide) dX1_byteOf_64 ?_
  have hfin : kuTh σ 0 = kuTh σ 0 := rfl
  rw [hfin] at hP hD
  exact W.iret (v := (kgBY σ) (700 * b + k)) hx hb hr (fun t ht hW => ⟨⟨_, (), rfl, rfl, by rw [ht]; exact hP, va_K.moved hW.alike hK, hD⟩, hS.F ht⟩) hS.2.2 dX1_byteOf_65
set_option maxRecDepth 100000 in
set_option maxHeartbeats 4000000 in
theorem m_tagT (l : Launch) (σ : BM) (t : Int32) (ht : isTg t = false) : wMl l yX1_tag wsX1_tag ({ frames := 1, cells := 0, slots := 0, locals := 20 } : Room) σ [.int t] 0 (kuTh σ 1) := by
  intro dC dI cI cJ cZ h sz
  refine Met.ofW (cc := cX1_tag) (maxL := 2) (ret := (some .long)) (by decide) rfl ?_
  intro p e s m args below meth c s₁ B hml hv
  obtain ⟨rfl, hsz, hP, hK, hD0⟩ := hv
  have hx := B.exec
  have hb := B.bytes
  have hr := B.returns
  have hts := atoms_spec (ws := wsX1_tag) B.pre
  have hown : s.vm.findClass RX1 = some m.cls := findClass_of_methodNamed B.named
  have hlocks := B.notSynchronized
  subst hsz
  have htg : ∀ w ∈ GW, w.before _ s = true := fun w h => hts w (List.mem_cons_of_mem _ h)
  have hD := hD0.self (sz := s.heap.size)
  generalize hAe : va_A (wBM cI cJ cZ h σ) s.heap.size = A at hD ⊢
  have hA : ∀ q : Nat, s.heap.size ≤ q → A q := fun q h => by rw [← hAe]; exact Or.inr h
  have hS : va_S A s.heap s.heap [] := va_S.rf
  have hl := lv_entry [.ref (h 0), .int t] (n := 2) (Nat.le_of_ble_eq_true rfl)
  rw [lg_entry_eq]
  generalize (lg_sl [.ref (h 0), .int t] ++ List.replicate (2 - (lg_sl [.ref (h 0), .int t]).length) Slot.unset).toArray = ls at hl ⊢
  have hl : lv_has ls 2 [(0, .ref (h 0)), (1, .int t)] := hl
  have hP : va_P (dC, dI) vwCl (wBM cI cJ cZ h σ) s.heap := hP
  refine lv_aload_n hx hb dX1_tag_0 rfl (lv_at hl 0 rfl) ?_
  refine lv_iload_n hx hb dX1_tag_1 rfl (lv_at hl 1 rfl) ?_
  refine xr_roi (va_runS (As := [.int t]) (rest := [.ref (h 0)]) ⟨hx, hb, hml, hown, htg⟩ (m_isTag l t _) (va_cwS 1 htg gX1_120 rfl rfl rfl (by decide +kernel) ⟨Nat.le_of_ble_eq_true rfl, Nat.le_of_ble_eq_true rfl⟩) ⟨fun a U g mk q => q, fun U hU hW => ⟨rfl, congrArg Array.size hU⟩⟩ rfl rfl hl.1 rfl (lv_room (Nat.le_of_ble_eq_true rfl)) dX1_tag_2 ⟨Nat.zero_le _, Nat.zero_le _⟩) hP hS hA (fun H locs hP hS _ => ?_)
  rw [ht]
  refine xr_ifeqB (tgt := 12) hx hb dX1_tag_5 (by decide) (fun _ => ?_) (fun c => absurd c (by decide))
  refine lv_iconst (v := nI 1) hx hb dX1_tag_12 (by decide) ?_
  refine va_put (D := (dC, dI)) (ci := 1) (v := .int (nI 1)) (ty := .int) (C := RX1) (T := TX1) (N := 18) hx hb htg inX1 tyX1 tyX1_ok nmX1 (fs := fsBM h σ) hown hK hP hD hS 0 rfl rfl 0 (by decide) (htg _ fX1_45) (fun _ h9 => h9) rfl (by decide +kernel) rfl rfl (Nat.le_of_ble_eq_true rfl) dX1_tag_13 (fun H locs hP hD hS => ?_)
  rw [wBM_Th] at hP hD
  refine lv_aload_n hx hb dX1_tag_16 rfl (lv_at hl 0 rfl) ?_
  refine va_get (D := (dC, dI)) (ci := 1) (v := .int (nI 1)) (C := RX1) (T := TX1) (N := 18) hx hb htg inX1 (fs := fsBM h (kuTh σ 1)) hown hK hP 0 rfl rfl 0 (by decide) (htg _ fX1_45) (fun _ h9 => h9) rfl dX1_tag_17 ?_
  refine lv_if_gt (tgt := 32) hx hb dX1_tag_20 (by decide) (fun c20 => ?_) (fun c20 => absurd c20 (by decide))
  refine lv_lconst (v := 0) hx hb dX1_tag_32 (by decide) ?_
  refine lv_goto (tgt := 42) hx hb dX1_tag_33 (by decide) ?_
  have hfin : kuTh σ 1 = kuTh σ 1 := rfl
  rw [hfin] at hP hD
  exact W.lret (v := 0) hx hb hr (fun t ht hW => ⟨⟨_, (), rfl, rfl, by rw [ht]; exact hP, va_K.moved hW.alike hK, hD⟩, hS.F ht⟩) hS.2.2 dX1_tag_42
set_option maxRecDepth 100000 in
set_option maxHeartbeats 4000000 in
theorem m_tagN (l : Launch) (σ : BM) (t : Nat) (ht : t < 8) : wMl l yX1_tag wsX1_tag ({ frames := 1, cells := 0, slots := 0, locals := 20 } : Room) σ [.int (nI t)] (bif kgTE σ t then kgTG σ t else 0) (kuTh σ 0) := by
  intro dC dI cI cJ cZ h sz
  refine Met.ofW (cc := cX1_tag) (maxL := 2) (ret := (some .long)) (by decide) rfl ?_
  intro p e s m args below meth c s₁ B hml hv
  obtain ⟨rfl, hsz, hP, hK, hD0⟩ := hv
  have hx := B.exec
  have hb := B.bytes
  have hr := B.returns
  have hts := atoms_spec (ws := wsX1_tag) B.pre
  have hown : s.vm.findClass RX1 = some m.cls := findClass_of_methodNamed B.named
  have hlocks := B.notSynchronized
  subst hsz
  have htg : ∀ w ∈ GW, w.before _ s = true := fun w h => hts w (List.mem_cons_of_mem _ h)
  have hD := hD0.self (sz := s.heap.size)
  generalize hAe : va_A (wBM cI cJ cZ h σ) s.heap.size = A at hD ⊢
  have hA : ∀ q : Nat, s.heap.size ≤ q → A q := fun q h => by rw [← hAe]; exact Or.inr h
  have hS : va_S A s.heap s.heap [] := va_S.rf
  have hl := lv_entry [.ref (h 0), .int (nI t)] (n := 2) (Nat.le_of_ble_eq_true rfl)
  rw [lg_entry_eq]
  generalize (lg_sl [.ref (h 0), .int (nI t)] ++ List.replicate (2 - (lg_sl [.ref (h 0), .int (nI t)]).length) Slot.unset).toArray = ls at hl ⊢
  have hl : lv_has ls 2 [(0, .ref (h 0)), (1, .int (nI t))] := hl
  have hP : va_P (dC, dI) vwCl (wBM cI cJ cZ h σ) s.heap := hP
  refine lv_aload_n hx hb dX1_tag_0 rfl (lv_at hl 0 rfl) ?_
  refine lv_iload_n hx hb dX1_tag_1 rfl (lv_at hl 1 rfl) ?_
  refine xr_roi (va_runS (As := [.int (nI t)]) (rest := [.ref (h 0)]) ⟨hx, hb, hml, hown, htg⟩ (m_isTag l (nI t) _) (va_cwS 1 htg gX1_120 rfl rfl rfl (by decide +kernel) ⟨Nat.le_of_ble_eq_true rfl, Nat.le_of_ble_eq_true rfl⟩) ⟨fun a U g mk q => q, fun U hU hW => ⟨rfl, congrArg Array.size hU⟩⟩ rfl rfl hl.1 rfl (lv_room (Nat.le_of_ble_eq_true rfl)) dX1_tag_2 ⟨Nat.zero_le _, Nat.zero_le _⟩) hP hS hA (fun H locs hP hS _ => ?_)
  rw [show isTg (nI t) = true by rw [isTg_nI (by omega)]; exact decide_eq_true ht]
  refine xr_ifeqB (tgt := 12) hx hb dX1_tag_5 (by decide) (fun c => absurd c (by decide)) (fun _ => ?_)
  refine lv_iconst (v := nI 0) hx hb dX1_tag_8 (by decide) ?_
  refine lv_goto (tgt := 13) hx hb dX1_tag_9 (by decide) ?_
  refine va_put (D := (dC, dI)) (ci := 1) (v := .int (nI 0)) (ty := .int) (C := RX1) (T := TX1) (N := 18) hx hb htg inX1 tyX1 tyX1_ok nmX1 (fs := fsBM h σ) hown hK hP hD hS 0 rfl rfl 0 (by decide) (htg _ fX1_45) (fun _ h9 => h9) rfl (by decide +kernel) rfl rfl (Nat.le_of_ble_eq_true rfl) dX1_tag_13 (fun H locs hP hD hS => ?_)
  rw [wBM_Th] at hP hD
  refine lv_aload_n hx hb dX1_tag_16 rfl (lv_at hl 0 rfl) ?_
  refine va_get (D := (dC, dI)) (ci := 1) (v := .int (nI 0)) (C := RX1) (T := TX1) (N := 18) hx hb htg inX1 (fs := fsBM h (kuTh σ 0)) hown hK hP 0 rfl rfl 0 (by decide) (htg _ fX1_45) (fun _ h9 => h9) rfl dX1_tag_17 ?_
  refine lv_if_gt (tgt := 32) hx hb dX1_tag_20 (by decide) (fun c20 => absurd c20 (by decide)) (fun c20 => ?_)
  refine lv_aload_n hx hb dX1_tag_23 rfl (lv_at hl 0 rfl) ?_
  refine va_get (D := (dC, dI)) (ci := 1) (v := .ref (h 6)) (C := RX1) (T := TX1) (N := 18) hx hb htg inX1 (fs := fsBM h (kuTh σ 0)) hown hK hP 0 rfl rfl 8 (by decide) (htg _ fX1_26) (fun _ h9 => h9) rfl dX1_tag_24 ?_
  refine lv_iload_n hx hb dX1_tag_27 rfl (lv_at hl 1 rfl) ?_
  refine xr_zald (f := fun j => bI ((kgTE σ) j)) (i := t) hx hb hK hP 6 2 rfl rfl (by omega) (by decide) dX1_tag_28 ?_
  refine xr_ifneB (tgt := 36) hx hb dX1_tag_29 (by decide) (fun c29 => ?_) (fun c29 => ?_)
  · refine lv_aload_n hx hb dX1_tag_36 rfl (lv_at hl 0 rfl) ?_
    refine va_get (D := (dC, dI)) (ci := 1) (v := .ref (h 5)) (C := RX1) (T := TX1) (N := 18) hx hb htg inX1 (fs := fsBM h (kuTh σ 0)) hown hK hP 0 rfl rfl 7 (by decide) (htg _ fX1_23) (fun _ h9 => h9) rfl dX1_tag_37 ?_
    refine lv_iload_n hx hb dX1_tag_40 rfl (lv_at hl 1 rfl) ?_
    refine xr_lald (f := kgTG σ) (i := t) hx hb hK hP 5 1 rfl rfl (by omega) (by decide) dX1_tag_41 ?_
    have hfin : kuTh σ 0 = kuTh σ 0 := rfl
    rw [hfin] at hP hD
    exact W.lret (v := (kgTG σ) t) hx hb hr (fun t ht hW => ⟨⟨_, (), rfl, by rw [c29]; rfl, by rw [ht]; exact hP, va_K.moved hW.alike hK, hD⟩, hS.F ht⟩) hS.2.2 dX1_tag_42
  · refine lv_lconst (v := 0) hx hb dX1_tag_32 (by decide) ?_
    refine lv_goto (tgt := 42) hx hb dX1_tag_33 (by decide) ?_
    have hfin : kuTh σ 0 = kuTh σ 0 := rfl
    rw [hfin] at hP hD
    exact W.lret (v := 0) hx hb hr (fun t ht hW => ⟨⟨_, (), rfl, by rw [c29]; rfl, by rw [ht]; exact hP, va_K.moved hW.alike hK, hD⟩, hS.F ht⟩) hS.2.2 dX1_tag_42
set_option maxRecDepth 100000 in
set_option maxHeartbeats 4000000 in
theorem m_countT (l : Launch) (σ : BM) (v : Int32) (h0 : v < 0 ∨ ¬ v ≤ nI 3) : wMi l yX1_count wsX1_count ({ frames := 0, cells := 0, slots := 0, locals := 0 } : Room) σ [.int v] (nI 0) (kuTh σ 1) := by
  intro dC dI cI cJ cZ h sz
  refine Met.ofW (cc := cX1_count) (maxL := 2) (ret := (some .int)) (by decide) rfl ?_
  intro p e s m args below meth c s₁ B hml hv
  obtain ⟨rfl, hsz, hP, hK, hD0⟩ := hv
  have hx := B.exec
  have hb := B.bytes
  have hr := B.returns
  have hts := atoms_spec (ws := wsX1_count) B.pre
  have hown : s.vm.findClass RX1 = some m.cls := findClass_of_methodNamed B.named
  have hlocks := B.notSynchronized
  subst hsz
  have htg : ∀ w ∈ GW, w.before _ s = true := fun w h => hts w (List.mem_cons_of_mem _ h)
  have hD := hD0.self (sz := s.heap.size)
  generalize hAe : va_A (wBM cI cJ cZ h σ) s.heap.size = A at hD ⊢
  have hA : ∀ q : Nat, s.heap.size ≤ q → A q := fun q h => by rw [← hAe]; exact Or.inr h
  have hS : va_S A s.heap s.heap [] := va_S.rf
  have hl := lv_entry [.ref (h 0), .int v] (n := 2) (Nat.le_of_ble_eq_true rfl)
  rw [lg_entry_eq]
  generalize (lg_sl [.ref (h 0), .int v] ++ List.replicate (2 - (lg_sl [.ref (h 0), .int v]).length) Slot.unset).toArray = ls at hl ⊢
  have hl : lv_has ls 2 [(0, .ref (h 0)), (1, .int v)] := hl
  have hP : va_P (dC, dI) vwCl (wBM cI cJ cZ h σ) s.heap := hP
  refine lv_aload_n hx hb dX1_count_0 rfl (lv_at hl 0 rfl) ?_
  refine lv_iload_n hx hb dX1_count_1 rfl (lv_at hl 1 rfl) ?_
  refine lv_if_lt (tgt := 10) hx hb dX1_count_2 (by decide) (fun c2 => ?_) (fun c2 => ?_)
  · refine lv_iconst (v := nI 1) hx hb dX1_count_10 (by decide) ?_
    refine lv_goto (tgt := 15) hx hb dX1_count_11 (by decide) ?_
    refine va_put (D := (dC, dI)) (ci := 1) (v := .int (nI 1)) (ty := .int) (C := RX1) (T := TX1) (N := 18) hx hb htg inX1 tyX1 tyX1_ok nmX1 (fs := fsBM h σ) hown hK hP hD hS 0 rfl rfl 0 (by decide) (htg _ fX1_45) (fun _ h9 => h9) rfl (by decide +kernel) rfl rfl (Nat.le_of_ble_eq_true rfl) dX1_count_15 (fun H locs hP hD hS => ?_)
    rw [wBM_Th] at hP hD
    refine lv_iload_n hx hb dX1_count_18 rfl (lv_at hl 1 rfl) ?_
    refine lv_if_ne (tgt := 29) hx hb dX1_count_19 (by decide) (fun c19 => ?_) (fun c19 => absurd c19 (by exact cnt_out h0 0 (by decide)))
    refine lv_iload_n hx hb dX1_count_29 rfl (lv_at hl 1 rfl) ?_
    refine lv_iconst (v := nI 1) hx hb dX1_count_30 (by decide) ?_
    refine lv_icmp_ne (tgt := 41) hx hb dX1_count_31 (by decide) (fun c31 => ?_) (fun c31 => absurd c31 (by exact cnt_out h0 1 (by decide)))
    refine lv_iload_n hx hb dX1_count_41 rfl (lv_at hl 1 rfl) ?_
    refine lv_iconst (v := nI 2) hx hb dX1_count_42 (by decide) ?_
    refine lv_icmp_ne (tgt := 53) hx hb dX1_count_43 (by decide) (fun c43 => ?_) (fun c43 => absurd c43 (by exact cnt_out h0 2 (by decide)))
    refine lv_iload_n hx hb dX1_count_53 rfl (lv_at hl 1 rfl) ?_
    refine lv_iconst (v := nI 3) hx hb dX1_count_54 (by decide) ?_
    refine lv_icmp_ne (tgt := 65) hx hb dX1_count_55 (by decide) (fun c55 => ?_) (fun c55 => absurd c55 (by exact cnt_out h0 3 (by decide)))
    refine lv_iconst (v := nI 0) hx hb dX1_count_65 (by decide) ?_
    have hfin : kuTh σ 1 = kuTh σ 1 := rfl
    rw [hfin] at hP hD
    exact W.iret (v := nI 0) hx hb hr (fun t ht hW => ⟨⟨_, (), rfl, rfl, by rw [ht]; exact hP, va_K.moved hW.alike hK, hD⟩, hS.F ht⟩) hS.2.2 dX1_count_66
  · refine lv_iload_n hx hb dX1_count_5 rfl (lv_at hl 1 rfl) ?_
    refine lv_iconst (v := nI 3) hx hb dX1_count_6 (by decide) ?_
    refine lv_icmp_le (tgt := 14) hx hb dX1_count_7 (by decide) (fun c7 => absurd c7 (by exact h0.resolve_left c2)) (fun c7 => ?_)
    refine lv_iconst (v := nI 1) hx hb dX1_count_10 (by decide) ?_
    refine lv_goto (tgt := 15) hx hb dX1_count_11 (by decide) ?_
    refine va_put (D := (dC, dI)) (ci := 1) (v := .int (nI 1)) (ty := .int) (C := RX1) (T := TX1) (N := 18) hx hb htg inX1 tyX1 tyX1_ok nmX1 (fs := fsBM h σ) hown hK hP hD hS 0 rfl rfl 0 (by decide) (htg _ fX1_45) (fun _ h9 => h9) rfl (by decide +kernel) rfl rfl (Nat.le_of_ble_eq_true rfl) dX1_count_15 (fun H locs hP hD hS => ?_)
    rw [wBM_Th] at hP hD
    refine lv_iload_n hx hb dX1_count_18 rfl (lv_at hl 1 rfl) ?_
    refine lv_if_ne (tgt := 29) hx hb dX1_count_19 (by decide) (fun c19 => ?_) (fun c19 => absurd c19 (by exact cnt_out h0 0 (by decide)))
    refine lv_iload_n hx hb dX1_count_29 rfl (lv_at hl 1 rfl) ?_
    refine lv_iconst (v := nI 1) hx hb dX1_count_30 (by decide) ?_
    refine lv_icmp_ne (tgt := 41) hx hb dX1_count_31 (by decide) (fun c31 => ?_) (fun c31 => absurd c31 (by exact cnt_out h0 1 (by decide)))
    refine lv_iload_n hx hb dX1_count_41 rfl (lv_at hl 1 rfl) ?_
    refine lv_iconst (v := nI 2) hx hb dX1_count_42 (by decide) ?_
    refine lv_icmp_ne (tgt := 53) hx hb dX1_count_43 (by decide) (fun c43 => ?_) (fun c43 => absurd c43 (by exact cnt_out h0 2 (by decide)))
    refine lv_iload_n hx hb dX1_count_53 rfl (lv_at hl 1 rfl) ?_
    refine lv_iconst (v := nI 3) hx hb dX1_count_54 (by decide) ?_
    refine lv_icmp_ne (tgt := 65) hx hb dX1_count_55 (by decide) (fun c55 => ?_) (fun c55 => absurd c55 (by exact cnt_out h0 3 (by decide)))
    refine lv_iconst (v := nI 0) hx hb dX1_count_65 (by decide) ?_
    have hfin : kuTh σ 1 = kuTh σ 1 := rfl
    rw [hfin] at hP hD
    exact W.iret (v := nI 0) hx hb hr (fun t ht hW => ⟨⟨_, (), rfl, rfl, by rw [ht]; exact hP, va_K.moved hW.alike hK, hD⟩, hS.F ht⟩) hS.2.2 dX1_count_66
set_option maxRecDepth 100000 in
set_option maxHeartbeats 4000000 in
theorem m_count0 (l : Launch) (σ : BM) : wMi l yX1_count wsX1_count ({ frames := 0, cells := 0, slots := 0, locals := 0 } : Room) σ [.int (nI 0)] (nI (kgBl σ)) (kuTh σ 0) := by
  intro dC dI cI cJ cZ h sz
  refine Met.ofW (cc := cX1_count) (maxL := 2) (ret := (some .int)) (by decide) rfl ?_
  intro p e s m args below meth c s₁ B hml hv
  obtain ⟨rfl, hsz, hP, hK, hD0⟩ := hv
  have hx := B.exec
  have hb := B.bytes
  have hr := B.returns
  have hts := atoms_spec (ws := wsX1_count) B.pre
  have hown : s.vm.findClass RX1 = some m.cls := findClass_of_methodNamed B.named
  have hlocks := B.notSynchronized
  subst hsz
  have htg : ∀ w ∈ GW, w.before _ s = true := fun w h => hts w (List.mem_cons_of_mem _ h)
  have hD := hD0.self (sz := s.heap.size)
  generalize hAe : va_A (wBM cI cJ cZ h σ) s.heap.size = A at hD ⊢
  have hA : ∀ q : Nat, s.heap.size ≤ q → A q := fun q h => by rw [← hAe]; exact Or.inr h
  have hS : va_S A s.heap s.heap [] := va_S.rf
  have hl := lv_entry [.ref (h 0), .int (nI 0)] (n := 2) (Nat.le_of_ble_eq_true rfl)
  rw [lg_entry_eq]
  generalize (lg_sl [.ref (h 0), .int (nI 0)] ++ List.replicate (2 - (lg_sl [.ref (h 0), .int (nI 0)]).length) Slot.unset).toArray = ls at hl ⊢
  have hl : lv_has ls 2 [(0, .ref (h 0)), (1, .int (nI 0))] := hl
  have hP : va_P (dC, dI) vwCl (wBM cI cJ cZ h σ) s.heap := hP
  refine lv_aload_n hx hb dX1_count_0 rfl (lv_at hl 0 rfl) ?_
  refine lv_iload_n hx hb dX1_count_1 rfl (lv_at hl 1 rfl) ?_
  refine lv_if_lt (tgt := 10) hx hb dX1_count_2 (by decide) (fun c2 => absurd c2 (by decide)) (fun c2 => ?_)
  refine lv_iload_n hx hb dX1_count_5 rfl (lv_at hl 1 rfl) ?_
  refine lv_iconst (v := nI 3) hx hb dX1_count_6 (by decide) ?_
  refine xr_icmp_le (tgt := 14) hx hb dX1_count_7 (by decide) (by omega) (by omega) (fun c7 => ?_) (fun c7 => absurd c7 (by omega))
  refine lv_iconst (v := nI 0) hx hb dX1_count_14 (by decide) ?_
  refine va_put (D := (dC, dI)) (ci := 1) (v := .int (nI 0)) (ty := .int) (C := RX1) (T := TX1) (N := 18) hx hb htg inX1 tyX1 tyX1_ok nmX1 (fs := fsBM h σ) hown hK hP hD hS 0 rfl rfl 0 (by decide) (htg _ fX1_45) (fun _ h9 => h9) rfl (by decide +kernel) rfl rfl (Nat.le_of_ble_eq_true rfl) dX1_count_15 (fun H locs hP hD hS => ?_)
  rw [wBM_Th] at hP hD
  refine lv_iload_n hx hb dX1_count_18 rfl (lv_at hl 1 rfl) ?_
  refine lv_if_ne (tgt := 29) hx hb dX1_count_19 (by decide) (fun c19 => absurd c19 (by decide)) (fun c19 => ?_)
  refine lv_aload_n hx hb dX1_count_22 rfl (lv_at hl 0 rfl) ?_
  refine va_get (D := (dC, dI)) (ci := 1) (v := .int (nI (kgBl σ))) (C := RX1) (T := TX1) (N := 18) hx hb htg inX1 (fs := fsBM h (kuTh σ 0)) hown hK hP 0 rfl rfl 6 (by decide) (htg _ fX1_72) (fun _ h9 => h9) rfl dX1_count_23 ?_
  refine lv_goto (tgt := 66) hx hb dX1_count_26 (by decide) ?_
  have hfin : kuTh σ 0 = kuTh σ 0 := rfl
  rw [hfin] at hP hD
  exact W.iret (v := nI (kgBl σ)) hx hb hr (fun t ht hW => ⟨⟨_, (), rfl, rfl, by rw [ht]; exact hP, va_K.moved hW.alike hK, hD⟩, hS.F ht⟩) hS.2.2 dX1_count_66
set_option maxRecDepth 100000 in
set_option maxHeartbeats 4000000 in
theorem m_count1 (l : Launch) (σ : BM) : wMi l yX1_count wsX1_count ({ frames := 0, cells := 0, slots := 0, locals := 0 } : Room) σ [.int (nI 1)] (nI (kgKn σ)) (kuTh σ 0) := by
  intro dC dI cI cJ cZ h sz
  refine Met.ofW (cc := cX1_count) (maxL := 2) (ret := (some .int)) (by decide) rfl ?_
  intro p e s m args below meth c s₁ B hml hv
  obtain ⟨rfl, hsz, hP, hK, hD0⟩ := hv
  have hx := B.exec
  have hb := B.bytes
  have hr := B.returns
  have hts := atoms_spec (ws := wsX1_count) B.pre
  have hown : s.vm.findClass RX1 = some m.cls := findClass_of_methodNamed B.named
  have hlocks := B.notSynchronized
  subst hsz
  have htg : ∀ w ∈ GW, w.before _ s = true := fun w h => hts w (List.mem_cons_of_mem _ h)
  have hD := hD0.self (sz := s.heap.size)
  generalize hAe : va_A (wBM cI cJ cZ h σ) s.heap.size = A at hD ⊢
  have hA : ∀ q : Nat, s.heap.size ≤ q → A q := fun q h => by rw [← hAe]; exact Or.inr h
  have hS : va_S A s.heap s.heap [] := va_S.rf
  have hl := lv_entry [.ref (h 0), .int (nI 1)] (n := 2) (Nat.le_of_ble_eq_true rfl)
  rw [lg_entry_eq]
  generalize (lg_sl [.ref (h 0), .int (nI 1)] ++ List.replicate (2 - (lg_sl [.ref (h 0), .int (nI 1)]).length) Slot.unset).toArray = ls at hl ⊢
  have hl : lv_has ls 2 [(0, .ref (h 0)), (1, .int (nI 1))] := hl
  have hP : va_P (dC, dI) vwCl (wBM cI cJ cZ h σ) s.heap := hP
  refine lv_aload_n hx hb dX1_count_0 rfl (lv_at hl 0 rfl) ?_
  refine lv_iload_n hx hb dX1_count_1 rfl (lv_at hl 1 rfl) ?_
  refine lv_if_lt (tgt := 10) hx hb dX1_count_2 (by decide) (fun c2 => absurd c2 (by decide)) (fun c2 => ?_)
  refine lv_iload_n hx hb dX1_count_5 rfl (lv_at hl 1 rfl) ?_
  refine lv_iconst (v := nI 3) hx hb dX1_count_6 (by decide) ?_
  refine xr_icmp_le (tgt := 14) hx hb dX1_count_7 (by decide) (by omega) (by omega) (fun c7 => ?_) (fun c7 => absurd c7 (by omega))
  refine lv_iconst (v := nI 0) hx hb dX1_count_14 (by decide) ?_
  refine va_put (D := (dC, dI)) (ci := 1) (v := .int (nI 0)) (ty := .int) (C := RX1) (T := TX1) (N := 18) hx hb htg inX1 tyX1 tyX1_ok nmX1 (fs := fsBM h σ) hown hK hP hD hS 0 rfl rfl 0 (by decide) (htg _ fX1_45) (fun _ h9 => h9) rfl (by decide +kernel) rfl rfl (Nat.le_of_ble_eq_true rfl) dX1_count_15 (fun H locs hP hD hS => ?_)
  rw [wBM_Th] at hP hD
  refine lv_iload_n hx hb dX1_count_18 rfl (lv_at hl 1 rfl) ?_
  refine lv_if_ne (tgt := 29) hx hb dX1_count_19 (by decide) (fun c19 => ?_) (fun c19 => absurd c19 (by decide))
  refine lv_iload_n hx hb dX1_count_29 rfl (lv_at hl 1 rfl) ?_
  refine lv_iconst (v := nI 1) hx hb dX1_count_30 (by decide) ?_
  refine xr_icmp_ne (tgt := 41) hx hb dX1_count_31 (by decide) (by omega) (by omega) (fun c31 => absurd c31 (by omega)) (fun c31 => ?_)
  refine lv_aload_n hx hb dX1_count_34 rfl (lv_at hl 0 rfl) ?_
  refine va_get (D := (dC, dI)) (ci := 1) (v := .int (nI (kgKn σ))) (C := RX1) (T := TX1) (N := 18) hx hb htg inX1 (fs := fsBM h (kuTh σ 0)) hown hK hP 0 rfl rfl 11 (by decide) (htg _ fX1_75) (fun _ h9 => h9) rfl dX1_count_35 ?_
  refine lv_goto (tgt := 66) hx hb dX1_count_38 (by decide) ?_
  have hfin : kuTh σ 0 = kuTh σ 0 := rfl
  rw [hfin] at hP hD
  exact W.iret (v := nI (kgKn σ)) hx hb hr (fun t ht hW => ⟨⟨_, (), rfl, rfl, by rw [ht]; exact hP, va_K.moved hW.alike hK, hD⟩, hS.F ht⟩) hS.2.2 dX1_count_66
set_option maxRecDepth 100000 in
set_option maxHeartbeats 4000000 in
theorem m_count2 (l : Launch) (σ : BM) : wMi l yX1_count wsX1_count ({ frames := 0, cells := 0, slots := 0, locals := 0 } : Room) σ [.int (nI 2)] (nI (kgSz σ)) (kuTh σ 0) := by
  intro dC dI cI cJ cZ h sz
  refine Met.ofW (cc := cX1_count) (maxL := 2) (ret := (some .int)) (by decide) rfl ?_
  intro p e s m args below meth c s₁ B hml hv
  obtain ⟨rfl, hsz, hP, hK, hD0⟩ := hv
  have hx := B.exec
  have hb := B.bytes
  have hr := B.returns
  have hts := atoms_spec (ws := wsX1_count) B.pre
  have hown : s.vm.findClass RX1 = some m.cls := findClass_of_methodNamed B.named
  have hlocks := B.notSynchronized
  subst hsz
  have htg : ∀ w ∈ GW, w.before _ s = true := fun w h => hts w (List.mem_cons_of_mem _ h)
  have hD := hD0.self (sz := s.heap.size)
  generalize hAe : va_A (wBM cI cJ cZ h σ) s.heap.size = A at hD ⊢
  have hA : ∀ q : Nat, s.heap.size ≤ q → A q := fun q h => by rw [← hAe]; exact Or.inr h
  have hS : va_S A s.heap s.heap [] := va_S.rf
  have hl := lv_entry [.ref (h 0), .int (nI 2)] (n := 2) (Nat.le_of_ble_eq_true rfl)
  rw [lg_entry_eq]
  generalize (lg_sl [.ref (h 0), .int (nI 2)] ++ List.replicate (2 - (lg_sl [.ref (h 0), .int (nI 2)]).length) Slot.unset).toArray = ls at hl ⊢
  have hl : lv_has ls 2 [(0, .ref (h 0)), (1, .int (nI 2))] := hl
  have hP : va_P (dC, dI) vwCl (wBM cI cJ cZ h σ) s.heap := hP
  refine lv_aload_n hx hb dX1_count_0 rfl (lv_at hl 0 rfl) ?_
  refine lv_iload_n hx hb dX1_count_1 rfl (lv_at hl 1 rfl) ?_
  refine lv_if_lt (tgt := 10) hx hb dX1_count_2 (by decide) (fun c2 => absurd c2 (by decide)) (fun c2 => ?_)
  refine lv_iload_n hx hb dX1_count_5 rfl (lv_at hl 1 rfl) ?_
  refine lv_iconst (v := nI 3) hx hb dX1_count_6 (by decide) ?_
  refine xr_icmp_le (tgt := 14) hx hb dX1_count_7 (by decide) (by omega) (by omega) (fun c7 => ?_) (fun c7 => absurd c7 (by omega))
  refine lv_iconst (v := nI 0) hx hb dX1_count_14 (by decide) ?_
  refine va_put (D := (dC, dI)) (ci := 1) (v := .int (nI 0)) (ty := .int) (C := RX1) (T := TX1) (N := 18) hx hb htg inX1 tyX1 tyX1_ok nmX1 (fs := fsBM h σ) hown hK hP hD hS 0 rfl rfl 0 (by decide) (htg _ fX1_45) (fun _ h9 => h9) rfl (by decide +kernel) rfl rfl (Nat.le_of_ble_eq_true rfl) dX1_count_15 (fun H locs hP hD hS => ?_)
  rw [wBM_Th] at hP hD
  refine lv_iload_n hx hb dX1_count_18 rfl (lv_at hl 1 rfl) ?_
  refine lv_if_ne (tgt := 29) hx hb dX1_count_19 (by decide) (fun c19 => ?_) (fun c19 => absurd c19 (by decide))
  refine lv_iload_n hx hb dX1_count_29 rfl (lv_at hl 1 rfl) ?_
  refine lv_iconst (v := nI 1) hx hb dX1_count_30 (by decide) ?_
  refine xr_icmp_ne (tgt := 41) hx hb dX1_count_31 (by decide) (by omega) (by omega) (fun c31 => ?_) (fun c31 => absurd c31 (by omega))
  refine lv_iload_n hx hb dX1_count_41 rfl (lv_at hl 1 rfl) ?_
  refine lv_iconst (v := nI 2) hx hb dX1_count_42 (by decide) ?_
  refine xr_icmp_ne (tgt := 53) hx hb dX1_count_43 (by decide) (by omega) (by omega) (fun c43 => absurd c43 (by omega)) (fun c43 => ?_)
  refine lv_aload_n hx hb dX1_count_46 rfl (lv_at hl 0 rfl) ?_
  refine va_get (D := (dC, dI)) (ci := 1) (v := .int (nI (kgSz σ))) (C := RX1) (T := TX1) (N := 18) hx hb htg inX1 (fs := fsBM h (kuTh σ 0)) hown hK hP 0 rfl rfl 14 (by decide) (htg _ fX1_80) (fun _ h9 => h9) rfl dX1_count_47 ?_
  refine lv_goto (tgt := 66) hx hb dX1_count_50 (by decide) ?_
  have hfin : kuTh σ 0 = kuTh σ 0 := rfl
  rw [hfin] at hP hD
  exact W.iret (v := nI (kgSz σ)) hx hb hr (fun t ht hW => ⟨⟨_, (), rfl, rfl, by rw [ht]; exact hP, va_K.moved hW.alike hK, hD⟩, hS.F ht⟩) hS.2.2 dX1_count_66
set_option maxRecDepth 100000 in
set_option maxHeartbeats 4000000 in
theorem m_count3 (l : Launch) (σ : BM) : wMi l yX1_count wsX1_count ({ frames := 0, cells := 0, slots := 0, locals := 0 } : Room) σ [.int (nI 3)] (nI (kgSy σ)) (kuTh σ 0) := by
  intro dC dI cI cJ cZ h sz
  refine Met.ofW (cc := cX1_count) (maxL := 2) (ret := (some .int)) (by decide) rfl ?_
  intro p e s m args below meth c s₁ B hml hv
  obtain ⟨rfl, hsz, hP, hK, hD0⟩ := hv
  have hx := B.exec
  have hb := B.bytes
  have hr := B.returns
  have hts := atoms_spec (ws := wsX1_count) B.pre
  have hown : s.vm.findClass RX1 = some m.cls := findClass_of_methodNamed B.named
  have hlocks := B.notSynchronized
  subst hsz
  have htg : ∀ w ∈ GW, w.before _ s = true := fun w h => hts w (List.mem_cons_of_mem _ h)
  have hD := hD0.self (sz := s.heap.size)
  generalize hAe : va_A (wBM cI cJ cZ h σ) s.heap.size = A at hD ⊢
  have hA : ∀ q : Nat, s.heap.size ≤ q → A q := fun q h => by rw [← hAe]; exact Or.inr h
  have hS : va_S A s.heap s.heap [] := va_S.rf
  have hl := lv_entry [.ref (h 0), .int (nI 3)] (n := 2) (Nat.le_of_ble_eq_true rfl)
  rw [lg_entry_eq]
  generalize (lg_sl [.ref (h 0), .int (nI 3)] ++ List.replicate (2 - (lg_sl [.ref (h 0), .int (nI 3)]).length) Slot.unset).toArray = ls at hl ⊢
  have hl : lv_has ls 2 [(0, .ref (h 0)), (1, .int (nI 3))] := hl
  have hP : va_P (dC, dI) vwCl (wBM cI cJ cZ h σ) s.heap := hP
  refine lv_aload_n hx hb dX1_count_0 rfl (lv_at hl 0 rfl) ?_
  refine lv_iload_n hx hb dX1_count_1 rfl (lv_at hl 1 rfl) ?_
  refine lv_if_lt (tgt := 10) hx hb dX1_count_2 (by decide) (fun c2 => absurd c2 (by decide)) (fun c2 => ?_)
  refine lv_iload_n hx hb dX1_count_5 rfl (lv_at hl 1 rfl) ?_
  refine lv_iconst (v := nI 3) hx hb dX1_count_6 (by decide) ?_
  refine xr_icmp_le (tgt := 14) hx hb dX1_count_7 (by decide) (by omega) (by omega) (fun c7 => ?_) (fun c7 => absurd c7 (by omega))
  refine lv_iconst (v := nI 0) hx hb dX1_count_14 (by decide) ?_
  refine va_put (D := (dC, dI)) (ci := 1) (v := .int (nI 0)) (ty := .int) (C := RX1) (T := TX1) (N := 18) hx hb htg inX1 tyX1 tyX1_ok nmX1 (fs := fsBM h σ) hown hK hP hD hS 0 rfl rfl 0 (by decide) (htg _ fX1_45) (fun _ h9 => h9) rfl (by decide +kernel) rfl rfl (Nat.le_of_ble_eq_true rfl) dX1_count_15 (fun H locs hP hD hS => ?_)
  rw [wBM_Th] at hP hD
  refine lv_iload_n hx hb dX1_count_18 rfl (lv_at hl 1 rfl) ?_
  refine lv_if_ne (tgt := 29) hx hb dX1_count_19 (by decide) (fun c19 => ?_) (fun c19 => absurd c19 (by decide))
  refine lv_iload_n hx hb dX1_count_29 rfl (lv_at hl 1 rfl) ?_
  refine lv_iconst (v := nI 1) hx hb dX1_count_30 (by decide) ?_
  refine xr_icmp_ne (tgt := 41) hx hb dX1_count_31 (by decide) (by omega) (by omega) (fun c31 => ?_) (fun c31 => absurd c31 (by omega))
  refine lv_iload_n hx hb dX1_count_41 rfl (lv_at hl 1 rfl) ?_
  refine lv_iconst (v := nI 2) hx hb dX1_count_42 (by decide) ?_
  refine xr_icmp_ne (tgt := 53) hx hb dX1_count_43 (by decide) (by omega) (by omega) (fun c43 => ?_) (fun c43 => absurd c43 (by omega))
  refine lv_iload_n hx hb dX1_count_53 rfl (lv_at hl 1 rfl) ?_
  refine lv_iconst (v := nI 3) hx hb dX1_count_54 (by decide) ?_
  refine xr_icmp_ne (tgt := 65) hx hb dX1_count_55 (by decide) (by omega) (by omega) (fun c55 => absurd c55 (by omega)) (fun c55 => ?_)
  refine lv_aload_n hx hb dX1_count_58 rfl (lv_at hl 0 rfl) ?_
  refine va_get (D := (dC, dI)) (ci := 1) (v := .int (nI (kgSy σ))) (C := RX1) (T := TX1) (N := 18) hx hb htg inX1 (fs := fsBM h (kuTh σ 0)) hown hK hP 0 rfl rfl 15 (by decide) (htg _ fX1_123) (fun _ h9 => h9) rfl dX1_count_59 ?_
  refine lv_goto (tgt := 66) hx hb dX1_count_62 (by decide) ?_
  have hfin : kuTh σ 0 = kuTh σ 0 := rfl
  rw [hfin] at hP hD
  exact W.iret (v := nI (kgSy σ)) hx hb hr (fun t ht hW => ⟨⟨_, (), rfl, rfl, by rw [ht]; exact hP, va_K.moved hW.alike hK, hD⟩, hS.F ht⟩) hS.2.2 dX1_count_66
