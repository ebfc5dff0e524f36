set_option maxRecDepth 100000 in
set_option maxHeartbeats 4000000 in
theorem m_keepO (l : Launch) (σ : BM) (b : Nat) (hm : kgMy σ ≤ 64) (hc : kgBl σ ≤ 20) (hs : kgSz σ ≤ 700) (hf : fnd (kgDG σ) (dg (kgT σ) 0 (kgMy σ)) (kgBl σ) = some b) : wMl l yX1_keep wsX1_keep ({ frames := 4, cells := 0, slots := 0, locals := 95 } : Room) σ [] (dg (kgT σ) 0 (kgMy σ)) (kuTh (kpSt σ (kgMy σ)) 0) := by
  intro dC dI cI cJ cZ h sz
  refine Met.ofW (cc := cX1_keep) (maxL := 4) (ret := (some .long)) (by decide) rfl ?_
  intro p e s m args below meth c s₁ B hml hv
  obtain ⟨rfl, hsz, hP, hK, hD0⟩ := hv
  have hx := B.exec
  have hb := B.bytes
  have hr := B.returns
  have hts := atoms_spec (ws := wsX1_keep) B.pre
  have hown : s.vm.findClass RX1 = some m.cls := findClass_of_methodNamed B.named
  have hlocks := B.notSynchronized
  subst hsz
  have htg : ∀ w ∈ GW, w.before _ s = true := fun w h => hts w (List.mem_cons_of_mem _ h)
  have hD := hD0.self (sz := s.heap.size)
  generalize hAe : va_A (wBM cI cJ cZ h σ) s.heap.size = A at hD ⊢
  have hA : ∀ q : Nat, s.heap.size ≤ q → A q := fun q h => by rw [← hAe]; exact Or.inr h
  have hS : va_S A s.heap s.heap [] := va_S.rf
  have hl := lv_entry [.ref (h 0)] (n := 4) (Nat.le_of_ble_eq_true rfl)
  rw [lg_entry_eq]
  generalize (lg_sl [.ref (h 0)] ++ List.replicate (4 - (lg_sl [.ref (h 0)]).length) Slot.unset).toArray = ls at hl ⊢
  have hl : lv_has ls 4 [(0, .ref (h 0))] := hl
  have hP : va_P (dC, dI) vwCl (wBM cI cJ cZ h σ) s.heap := hP
  refine lv_aload_n hx hb dX1_keep_0 rfl (lv_at hl 0 rfl) ?_
  refine bm_rl (As := []) (rest := []) (n := 0) ⟨hx, hb, hml, hown, htg⟩ (m_digestOfTyped l σ  (hm)) (cwV 0 htg gX1_68 rfl rfl rfl (by decide +kernel) ⟨Nat.le_of_ble_eq_true rfl, Nat.le_of_ble_eq_true rfl⟩) hK hP hD hS hA hl.1 rfl rfl (Nat.le_of_ble_eq_true rfl) dX1_keep_1 (Nat.zero_le _) (Nat.zero_le _) (fun H locs hP hS => ?_)
  refine lv_lstore_n (lv' := [(1, .long (dg (kgT σ) 0 (kgMy σ))), (0, .ref (h 0))]) hx hb dX1_keep_4 rfl hl (by decide) rfl (fun ls hl => ?_)
  refine lv_aload_n hx hb dX1_keep_5 rfl (lv_at hl 1 rfl) ?_
  refine lv_iconst (v := nI 0) hx hb dX1_keep_6 (by decide) ?_
  refine va_put (D := (dC, dI)) (ci := 1) (v := .int (nI 0)) (ty := .int) (C := RX1) (T := TX1) (N := 18) hx hb htg inX1 tyX1 tyX1_ok nmX1 (fs := fsBM h σ) hown hK hP hD hS 0 rfl rfl 17 (by decide) (htg _ fX1_65) (fun _ h9 => h9) rfl (by decide +kernel) rfl rfl (Nat.le_of_ble_eq_true rfl) dX1_keep_7 (fun H locs hP hD hS => ?_)
  rw [wBM_Le] at hP hD
  refine lv_iconst (v := nI 0) hx hb dX1_keep_10 (by decide) ?_
  refine lv_istore_n (lv' := [(3, .int (nI 0)), (1, .long (dg (kgT σ) 0 (kgMy σ))), (0, .ref (h 0))]) hx hb dX1_keep_11 rfl hl (by decide) rfl (fun ls hl => ?_)
  have loop : ∀ (fu i : Nat) (z : BM), i ≤ kgMy σ → kgMy σ < i + fu → z = kpSt σ i → ∀ (H : Heap) (locs : List Loc), va_P (dC, dI) vwCl (wBM cI cJ cZ h z) H → va_D A (wBM cI cJ cZ h z) → va_S A s.heap H locs → ∀ (ls : Array Slot), lv_has ls 4 [(3, .int (nI i)), (0, .ref (h 0)), (1, .long (dg (kgT σ) 0 (kgMy σ)))] → W p l e (headSpec wsX1_keep ({ frames := 4, cells := 0, slots := 0, locals := 95 } : Room)).room s m ([.ref (h 0)].toArray) below meth c H locs 0 0 (MQ below (va_Ql (fun (r' : Int64) (_ : Unit) => r' = (dg (kgT σ) 0 (kgMy σ))) (fun _ => aBM dC dI cI cJ cZ h A (kuTh (kpSt σ (kgMy σ)) 0)) A) ([.ref (h 0)].toArray) s 0 0 A) (F0 m 12 ls []) := by
    intro fu
    induction fu with
    | zero => intro i z h1 h2; exact absurd h2 (by omega)
    | succ fu ih =>
      intro i z hi hin ez H locs hP hD hS ls hl
      refine lv_iload_n hx hb dX1_keep_12 rfl (lv_at hl 0 rfl) ?_
      have hq := kpSt_keep σ i
      rw [← ez] at hq
      obtain ⟨hMy, hT, hLe, hBl, hDG, hSz⟩ := hq
      refine lv_aload_n hx hb dX1_keep_13 rfl (lv_at hl 1 rfl) ?_
      refine va_get (D := (dC, dI)) (ci := 1) (v := .int (nI (kgMy z))) (C := RX1) (T := TX1) (N := 18) hx hb htg inX1 (fs := fsBM h z) hown hK hP 0 rfl rfl 2 (by decide) (htg _ fX1_49) (fun _ h9 => h9) rfl dX1_keep_14 ?_
      refine xr_icmp_ge (tgt := 38) hx hb dX1_keep_17 (by decide) (by omega) (by omega) (fun c17 => ?_) (fun c17 => ?_)
      · have hz : fnd (kgDG z) (dg (kgT σ) 0 (kgMy σ)) (kgBl z) = some b := by rw [hDG, hBl]; exact hf
        refine lv_aload_n hx hb dX1_keep_38 rfl (lv_at hl 1 rfl) ?_
        refine lv_lload_n hx hb dX1_keep_39 rfl (lv_at hl 2 rfl) ?_
        refine bm_ri (As := [.long (dg (kgT σ) 0 (kgMy σ))]) (rest := []) (n := 1) ⟨hx, hb, hml, hown, htg⟩ (m_blobOf l z (dg (kgT σ) 0 (kgMy σ)) (by omega)) (cwV 1 htg gX1_91 rfl rfl rfl (by decide +kernel) ⟨Nat.le_of_ble_eq_true rfl, Nat.le_of_ble_eq_true rfl⟩) hK hP hD hS hA hl.1 rfl rfl (Nat.le_of_ble_eq_true rfl) dX1_keep_40 (Nat.zero_le _) (Nat.zero_le _) (fun H locs hP hS => ?_)
        have hlt := (fnd_lt hz).1
        rw [hz]
        refine W.eq (g2 := F0 m 43 ls [.int (nI b)]) rfl ?_
        refine lv_iconst (v := -1) hx hb dX1_keep_43 (by decide) ?_
        refine lv_icmp_ne (tgt := 51) hx hb dX1_keep_44 (by decide) (fun _ => ?_) (fun c => absurd c (optI_none (by omega)))
        refine lv_iconst (v := nI 0) hx hb dX1_keep_51 (by decide) ?_
        refine lv_istore_n (lv' := [(3, .int (nI 0)), (0, .ref (h 0)), (1, .long (dg (kgT σ) 0 (kgMy σ)))]) hx hb dX1_keep_52 rfl hl (by decide) rfl (fun ls hl => ?_)
        refine lv_aload_n hx hb dX1_keep_53 rfl (lv_at hl 1 rfl) ?_
        refine lv_iload_n hx hb dX1_keep_54 rfl (lv_at hl 0 rfl) ?_
        refine lv_if_eq (tgt := 78) hx hb dX1_keep_55 (by decide) (fun c55 => ?_) (fun c55 => absurd c55 (by decide))
        refine lv_iconst (v := nI 0) hx hb dX1_keep_78 (by decide) ?_
        refine va_put (D := (dC, dI)) (ci := 1) (v := .int (nI 0)) (ty := .int) (C := RX1) (T := TX1) (N := 18) hx hb htg inX1 tyX1 tyX1_ok nmX1 (fs := fsBM h z) hown hK hP hD hS 0 rfl rfl 0 (by decide) (htg _ fX1_45) (fun _ h9 => h9) rfl (by decide +kernel) rfl rfl (Nat.le_of_ble_eq_true rfl) dX1_keep_79 (fun H locs hP hD hS => ?_)
        rw [wBM_Th] at hP hD
        refine lv_aload_n hx hb dX1_keep_82 rfl (lv_at hl 1 rfl) ?_
        refine va_get (D := (dC, dI)) (ci := 1) (v := .int (nI 0)) (C := RX1) (T := TX1) (N := 18) hx hb htg inX1 (fs := fsBM h (kuTh z 0)) hown hK hP 0 rfl rfl 0 (by decide) (htg _ fX1_45) (fun _ h9 => h9) rfl dX1_keep_83 ?_
        refine lv_if_ne (tgt := 104) hx hb dX1_keep_86 (by decide) (fun c86 => absurd c86 (by decide)) (fun c86 => ?_)
        refine lv_iload_n hx hb dX1_keep_89 rfl (lv_at hl 0 rfl) ?_
        refine lv_if_eq (tgt := 104) hx hb dX1_keep_90 (by decide) (fun c90 => ?_) (fun c90 => absurd c90 (by decide))
        refine lv_aload_n hx hb dX1_keep_104 rfl (lv_at hl 1 rfl) ?_
        refine va_get (D := (dC, dI)) (ci := 1) (v := .int (nI 0)) (C := RX1) (T := TX1) (N := 18) hx hb htg inX1 (fs := fsBM h (kuTh z 0)) hown hK hP 0 rfl rfl 0 (by decide) (htg _ fX1_45) (fun _ h9 => h9) rfl dX1_keep_105 ?_
        refine lv_if_le (tgt := 115) hx hb dX1_keep_108 (by decide) (fun c108 => ?_) (fun c108 => absurd c108 (by decide))
        refine lv_lload_n hx hb dX1_keep_115 rfl (lv_at hl 2 rfl) ?_
        have hfin : kuTh z 0 = kuTh (kpSt σ (kgMy σ)) 0 := by rw [ez, show i = kgMy σ by omega]
        rw [hfin] at hP hD
        exact W.lret (v := dg (kgT σ) 0 (kgMy σ)) hx hb hr (fun t ht hW => ⟨⟨_, (), rfl, rfl, by rw [ht]; exact hP, va_K.moved hW.alike hK, hD⟩, hS.F ht⟩) hS.2.2 dX1_keep_116
      · refine lv_aload_n hx hb dX1_keep_20 rfl (lv_at hl 1 rfl) ?_
        refine lv_aload_n hx hb dX1_keep_21 rfl (lv_at hl 1 rfl) ?_
        refine va_get (D := (dC, dI)) (ci := 1) (v := .ref (h 1)) (C := RX1) (T := TX1) (N := 18) hx hb htg inX1 (fs := fsBM h z) hown hK hP 0 rfl rfl 1 (by decide) (htg _ fX1_7) (fun _ h9 => h9) rfl dX1_keep_22 ?_
        refine lv_iload_n hx hb dX1_keep_25 rfl (lv_at hl 0 rfl) ?_
        refine xr_iald (f := kgT z) (i := i) hx hb hK hP 1 0 rfl rfl (by omega) (by decide) dX1_keep_26 ?_
        refine lv_i2l (v := ((kgT z) i).toInt64) hx hb dX1_keep_27 rfl ?_
        refine lv_iconst (v := nI 1) hx hb dX1_keep_28 (by decide) ?_
        refine bm_wv (As := [.long (((kgT z) i).toInt64), .int (nI 1)]) (rest := []) (n := 2) ⟨hx, hb, hml, hown, htg⟩ (m_next l z (((kgT z) i).toInt64) 1 (by omega) (by omega)) (cwV 2 htg gX1_105 rfl rfl rfl (by decide +kernel) ⟨Nat.le_of_ble_eq_true rfl, Nat.le_of_ble_eq_true rfl⟩) hK hP hD hS hA hl.1 rfl rfl (Nat.le_of_ble_eq_true rfl) dX1_keep_29 (Nat.zero_le _) (Nat.zero_le _) (fun H locs hP hD hS => ?_)
        obtain ⟨z1, ez1⟩ : ∃ zq : BM, zq = nxSt z (((kgT z) i).toInt64) 1 := ⟨_, rfl⟩
        rw [← ez1] at hP hD
        refine lv_iinc (v := nI (i + 1)) (lv' := [(3, .int (nI (i + 1))), (0, .ref (h 0)), (1, .long (dg (kgT σ) 0 (kgMy σ)))]) hx hb dX1_keep_32 hl (k := 0) rfl (nI_add _ 1) (by decide) rfl (fun ls hl => ?_)
        refine lv_goto (tgt := 12) hx hb dX1_keep_35 (by decide) ?_
        exact ih (i + 1) z1 (by omega) (by omega) (by rw [ez1, hT, ez]; rfl) H locs hP hD hS ls (lv_sub hl [0, 1, 2] rfl)
  exact loop (kgMy σ + 1) 0 (kuLe σ 0) (by omega) (by omega) (rfl) _ _ hP hD hS ls (lv_sub hl [0, 2, 1] rfl)
set_option maxRecDepth 100000 in
set_option maxHeartbeats 4000000 in
theorem m_keepT (l : Launch) (σ : BM) (hm : kgMy σ ≤ 64) (hc : kgBl σ ≤ 20) (hs : kgSz σ ≤ 700) (hf : fnd (kgDG σ) (dg (kgT σ) 0 (kgMy σ)) (kgBl σ) = none) (h0 : kgBl σ = 20 ∨ ¬ kgSz σ + kgMy σ + 4 ≤ 700) : wMl l yX1_keep wsX1_keep ({ frames := 4, cells := 0, slots := 0, locals := 95 } : Room) σ [] 0 (kuTh (kpSt σ (kgMy σ)) 1) := by
  intro dC dI cI cJ cZ h sz
  refine Met.ofW (cc := cX1_keep) (maxL := 4) (ret := (some .long)) (by decide) rfl ?_
  intro p e s m args below meth c s₁ B hml hv
  obtain ⟨rfl, hsz, hP, hK, hD0⟩ := hv
  have hx := B.exec
  have hb := B.bytes
  have hr := B.returns
  have hts := atoms_spec (ws := wsX1_keep) B.pre
  have hown : s.vm.findClass RX1 = some m.cls := findClass_of_methodNamed B.named
  have hlocks := B.notSynchronized
  subst hsz
  have htg : ∀ w ∈ GW, w.before _ s = true := fun w h => hts w (List.mem_cons_of_mem _ h)
  have hD := hD0.self (sz := s.heap.size)
  generalize hAe : va_A (wBM cI cJ cZ h σ) s.heap.size = A at hD ⊢
  have hA : ∀ q : Nat, s.heap.size ≤ q → A q := fun q h => by rw [← hAe]; exact Or.inr h
  have hS : va_S A s.heap s.heap [] := va_S.rf
  have hl := lv_entry [.ref (h 0)] (n := 4) (Nat.le_of_ble_eq_true rfl)
  rw [lg_entry_eq]
  generalize (lg_sl [.ref (h 0)] ++ List.replicate (4 - (lg_sl [.ref (h 0)]).length) Slot.unset).toArray = ls at hl ⊢
  have hl : lv_has ls 4 [(0, .ref (h 0))] := hl
  have hP : va_P (dC, dI) vwCl (wBM cI cJ cZ h σ) s.heap := hP
  refine lv_aload_n hx hb dX1_keep_0 rfl (lv_at hl 0 rfl) ?_
  refine bm_rl (As := []) (rest := []) (n := 0) ⟨hx, hb, hml, hown, htg⟩ (m_digestOfTyped l σ  (hm)) (cwV 0 htg gX1_68 rfl rfl rfl (by decide +kernel) ⟨Nat.le_of_ble_eq_true rfl, Nat.le_of_ble_eq_true rfl⟩) hK hP hD hS hA hl.1 rfl rfl (Nat.le_of_ble_eq_true rfl) dX1_keep_1 (Nat.zero_le _) (Nat.zero_le _) (fun H locs hP hS => ?_)
  refine lv_lstore_n (lv' := [(1, .long (dg (kgT σ) 0 (kgMy σ))), (0, .ref (h 0))]) hx hb dX1_keep_4 rfl hl (by decide) rfl (fun ls hl => ?_)
  refine lv_aload_n hx hb dX1_keep_5 rfl (lv_at hl 1 rfl) ?_
  refine lv_iconst (v := nI 0) hx hb dX1_keep_6 (by decide) ?_
  refine va_put (D := (dC, dI)) (ci := 1) (v := .int (nI 0)) (ty := .int) (C := RX1) (T := TX1) (N := 18) hx hb htg inX1 tyX1 tyX1_ok nmX1 (fs := fsBM h σ) hown hK hP hD hS 0 rfl rfl 17 (by decide) (htg _ fX1_65) (fun _ h9 => h9) rfl (by decide +kernel) rfl rfl (Nat.le_of_ble_eq_true rfl) dX1_keep_7 (fun H locs hP hD hS => ?_)
  rw [wBM_Le] at hP hD
  refine lv_iconst (v := nI 0) hx hb dX1_keep_10 (by decide) ?_
  refine lv_istore_n (lv' := [(3, .int (nI 0)), (1, .long (dg (kgT σ) 0 (kgMy σ))), (0, .ref (h 0))]) hx hb dX1_keep_11 rfl hl (by decide) rfl (fun ls hl => ?_)
  have loop : ∀ (fu i : Nat) (z : BM), i ≤ kgMy σ → kgMy σ < i + fu → z = kpSt σ i → ∀ (H : Heap) (locs : List Loc), va_P (dC, dI) vwCl (wBM cI cJ cZ h z) H → va_D A (wBM cI cJ cZ h z) → va_S A s.heap H locs → ∀ (ls : Array Slot), lv_has ls 4 [(3, .int (nI i)), (0, .ref (h 0)), (1, .long (dg (kgT σ) 0 (kgMy σ)))] → W p l e (headSpec wsX1_keep ({ frames := 4, cells := 0, slots := 0, locals := 95 } : Room)).room s m ([.ref (h 0)].toArray) below meth c H locs 0 0 (MQ below (va_Ql (fun (r' : Int64) (_ : Unit) => r' = 0) (fun _ => aBM dC dI cI cJ cZ h A (kuTh (kpSt σ (kgMy σ)) 1)) A) ([.ref (h 0)].toArray) s 0 0 A) (F0 m 12 ls []) := by
    intro fu
    induction fu with
    | zero => intro i z h1 h2; exact absurd h2 (by omega)
    | succ fu ih =>
      intro i z hi hin ez H locs hP hD hS ls hl
      refine lv_iload_n hx hb dX1_keep_12 rfl (lv_at hl 0 rfl) ?_
      have hq := kpSt_keep σ i
      rw [← ez] at hq
      obtain ⟨hMy, hT, hLe, hBl, hDG, hSz⟩ := hq
      refine lv_aload_n hx hb dX1_keep_13 rfl (lv_at hl 1 rfl) ?_
      refine va_get (D := (dC, dI)) (ci := 1) (v := .int (nI (kgMy z))) (C := RX1) (T := TX1) (N := 18) hx hb htg inX1 (fs := fsBM h z) hown hK hP 0 rfl rfl 2 (by decide) (htg _ fX1_49) (fun _ h9 => h9) rfl dX1_keep_14 ?_
      refine xr_icmp_ge (tgt := 38) hx hb dX1_keep_17 (by decide) (by omega) (by omega) (fun c17 => ?_) (fun c17 => ?_)
      · have hz : fnd (kgDG z) (dg (kgT σ) 0 (kgMy σ)) (kgBl z) = none := by rw [hDG, hBl]; exact hf
        refine lv_aload_n hx hb dX1_keep_38 rfl (lv_at hl 1 rfl) ?_
        refine lv_lload_n hx hb dX1_keep_39 rfl (lv_at hl 2 rfl) ?_
        refine bm_ri (As := [.long (dg (kgT σ) 0 (kgMy σ))]) (rest := []) (n := 1) ⟨hx, hb, hml, hown, htg⟩ (m_blobOf l z (dg (kgT σ) 0 (kgMy σ)) (by omega)) (cwV 1 htg gX1_91 rfl rfl rfl (by decide +kernel) ⟨Nat.le_of_ble_eq_true rfl, Nat.le_of_ble_eq_true rfl⟩) hK hP hD hS hA hl.1 rfl rfl (Nat.le_of_ble_eq_true rfl) dX1_keep_40 (Nat.zero_le _) (Nat.zero_le _) (fun H locs hP hS => ?_)
        rw [hz]
        refine W.eq (g2 := F0 m 43 ls [.int (-1)]) rfl ?_
        refine lv_iconst (v := -1) hx hb dX1_keep_43 (by decide) ?_
        refine lv_icmp_ne (tgt := 51) hx hb dX1_keep_44 (by decide) (fun c => absurd rfl c) (fun _ => ?_)
        refine lv_iconst (v := nI 1) hx hb dX1_keep_47 (by decide) ?_
        refine lv_goto (tgt := 52) hx hb dX1_keep_48 (by decide) ?_
        refine lv_istore_n (lv' := [(3, .int (nI 1)), (0, .ref (h 0)), (1, .long (dg (kgT σ) 0 (kgMy σ)))]) hx hb dX1_keep_52 rfl hl (by decide) rfl (fun ls hl => ?_)
        refine lv_aload_n hx hb dX1_keep_53 rfl (lv_at hl 1 rfl) ?_
        refine lv_iload_n hx hb dX1_keep_54 rfl (lv_at hl 0 rfl) ?_
        refine lv_if_eq (tgt := 78) hx hb dX1_keep_55 (by decide) (fun c55 => absurd c55 (by decide)) (fun c55 => ?_)
        refine lv_aload_n hx hb dX1_keep_58 rfl (lv_at hl 1 rfl) ?_
        refine va_get (D := (dC, dI)) (ci := 1) (v := .int (nI (kgBl z))) (C := RX1) (T := TX1) (N := 18) hx hb htg inX1 (fs := fsBM h z) hown hK hP 0 rfl rfl 6 (by decide) (htg _ fX1_72) (fun _ h9 => h9) rfl dX1_keep_59 ?_
        refine lv_bipush (v := nI 20) hx hb dX1_keep_62 (by decide) ?_
        refine xr_icmp_eq (tgt := 74) hx hb dX1_keep_64 (by decide) (by omega) (by omega) (fun c64 => ?_) (fun c64 => ?_)
        · refine lv_iconst (v := nI 1) hx hb dX1_keep_74 (by decide) ?_
          refine lv_goto (tgt := 79) hx hb dX1_keep_75 (by decide) ?_
          refine va_put (D := (dC, dI)) (ci := 1) (v := .int (nI 1)) (ty := .int) (C := RX1) (T := TX1) (N := 18) hx hb htg inX1 tyX1 tyX1_ok nmX1 (fs := fsBM h z) hown hK hP hD hS 0 rfl rfl 0 (by decide) (htg _ fX1_45) (fun _ h9 => h9) rfl (by decide +kernel) rfl rfl (Nat.le_of_ble_eq_true rfl) dX1_keep_79 (fun H locs hP hD hS => ?_)
          rw [wBM_Th] at hP hD
          refine lv_aload_n hx hb dX1_keep_82 rfl (lv_at hl 1 rfl) ?_
          refine va_get (D := (dC, dI)) (ci := 1) (v := .int (nI 1)) (C := RX1) (T := TX1) (N := 18) hx hb htg inX1 (fs := fsBM h (kuTh z 1)) hown hK hP 0 rfl rfl 0 (by decide) (htg _ fX1_45) (fun _ h9 => h9) rfl dX1_keep_83 ?_
          refine lv_if_ne (tgt := 104) hx hb dX1_keep_86 (by decide) (fun c86 => ?_) (fun c86 => absurd c86 (by decide))
          refine lv_aload_n hx hb dX1_keep_104 rfl (lv_at hl 1 rfl) ?_
          refine va_get (D := (dC, dI)) (ci := 1) (v := .int (nI 1)) (C := RX1) (T := TX1) (N := 18) hx hb htg inX1 (fs := fsBM h (kuTh z 1)) hown hK hP 0 rfl rfl 0 (by decide) (htg _ fX1_45) (fun _ h9 => h9) rfl dX1_keep_105 ?_
          refine lv_if_le (tgt := 115) hx hb dX1_keep_108 (by decide) (fun c108 => absurd c108 (by decide)) (fun c108 => ?_)
          refine lv_lconst (v := 0) hx hb dX1_keep_111 (by decide) ?_
          refine lv_goto (tgt := 116) hx hb dX1_keep_112 (by decide) ?_
          have hfin : kuTh z 1 = kuTh (kpSt σ (kgMy σ)) 1 := by rw [ez, show i = kgMy σ by omega]
          rw [hfin] at hP hD
          exact W.lret (v := 0) hx hb hr (fun t ht hW => ⟨⟨_, (), rfl, rfl, by rw [ht]; exact hP, va_K.moved hW.alike hK, hD⟩, hS.F ht⟩) hS.2.2 dX1_keep_116
        · refine lv_aload_n hx hb dX1_keep_67 rfl (lv_at hl 1 rfl) ?_
          refine bm_ri (As := []) (rest := [.ref (h 0)]) (n := 0) ⟨hx, hb, hml, hown, htg⟩ (m_hasRoom l z  (by omega) (by omega)) (cwV 0 htg gX1_109 rfl rfl rfl (by decide +kernel) ⟨Nat.le_of_ble_eq_true rfl, Nat.le_of_ble_eq_true rfl⟩) hK hP hD hS hA hl.1 rfl rfl (Nat.le_of_ble_eq_true rfl) dX1_keep_68 (Nat.zero_le _) (Nat.zero_le _) (fun H locs hP hS => ?_)
          refine xr_ifneB (tgt := 78) hx hb dX1_keep_71 (by decide) (fun c71 => absurd c71 (by rw [decide_eq_true_eq]; omega)) (fun c71 => ?_)
          refine lv_iconst (v := nI 1) hx hb dX1_keep_74 (by decide) ?_
          refine lv_goto (tgt := 79) hx hb dX1_keep_75 (by decide) ?_
          refine va_put (D := (dC, dI)) (ci := 1) (v := .int (nI 1)) (ty := .int) (C := RX1) (T := TX1) (N := 18) hx hb htg inX1 tyX1 tyX1_ok nmX1 (fs := fsBM h z) hown hK hP hD hS 0 rfl rfl 0 (by decide) (htg _ fX1_45) (fun _ h9 => h9) rfl (by decide +kernel) rfl rfl (Nat.le_of_ble_eq_true rfl) dX1_keep_79 (fun H locs hP hD hS => ?_)
          rw [wBM_Th] at hP hD
          refine lv_aload_n hx hb dX1_keep_82 rfl (lv_at hl 1 rfl) ?_
          refine va_get (D := (dC, dI)) (ci := 1) (v := .int (nI 1)) (C := RX1) (T := TX1) (N := 18) hx hb htg inX1 (fs := fsBM h (kuTh z 1)) hown hK hP 0 rfl rfl 0 (by decide) (htg _ fX1_45) (fun _ h9 => h9) rfl dX1_keep_83 ?_
          refine lv_if_ne (tgt := 104) hx hb dX1_keep_86 (by decide) (fun c86 => ?_) (fun c86 => absurd c86 (by decide))
          refine lv_aload_n hx hb dX1_keep_104 rfl (lv_at hl 1 rfl) ?_
          refine va_get (D := (dC, dI)) (ci := 1) (v := .int (nI 1)) (C := RX1) (T := TX1) (N := 18) hx hb htg inX1 (fs := fsBM h (kuTh z 1)) hown hK hP 0 rfl rfl 0 (by decide) (htg _ fX1_45) (fun _ h9 => h9) rfl dX1_keep_105 ?_
          refine lv_if_le (tgt := 115) hx hb dX1_keep_108 (by decide) (fun c108 => absurd c108 (by decide)) (fun c108 => ?_)
          refine lv_lconst (v := 0) hx hb dX1_keep_111 (by decide) ?_
          refine lv_goto (tgt := 116) hx hb dX1_keep_112 (by decide) ?_
          have hfin : kuTh z 1 = kuTh (kpSt σ (kgMy σ)) 1 := by rw [ez, show i = kgMy σ by omega]
          rw [hfin] at hP hD
          exact W.lret (v := 0) hx hb hr (fun t ht hW => ⟨⟨_, (), rfl, rfl, by rw [ht]; exact hP, va_K.moved hW.alike hK, hD⟩, hS.F ht⟩) hS.2.2 dX1_keep_116
      · refine lv_aload_n hx hb dX1_keep_20 rfl (lv_at hl 1 rfl) ?_
        refine lv_aload_n hx hb dX1_keep_21 rfl (lv_at hl 1 rfl) ?_
        refine va_get (D := (dC, dI)) (ci := 1) (v := .ref (h 1)) (C := RX1) (T := TX1) (N := 18) hx hb htg inX1 (fs := fsBM h z) hown hK hP 0 rfl rfl 1 (by decide) (htg _ fX1_7) (fun _ h9 => h9) rfl dX1_keep_22 ?_
        refine lv_iload_n hx hb dX1_keep_25 rfl (lv_at hl 0 rfl) ?_
        refine xr_iald (f := kgT z) (i := i) hx hb hK hP 1 0 rfl rfl (by omega) (by decide) dX1_keep_26 ?_
        refine lv_i2l (v := ((kgT z) i).toInt64) hx hb dX1_keep_27 rfl ?_
        refine lv_iconst (v := nI 1) hx hb dX1_keep_28 (by decide) ?_
        refine bm_wv (As := [.long (((kgT z) i).toInt64), .int (nI 1)]) (rest := []) (n := 2) ⟨hx, hb, hml, hown, htg⟩ (m_next l z (((kgT z) i).toInt64) 1 (by omega) (by omega)) (cwV 2 htg gX1_105 rfl rfl rfl (by decide +kernel) ⟨Nat.le_of_ble_eq_true rfl, Nat.le_of_ble_eq_true rfl⟩) hK hP hD hS hA hl.1 rfl rfl (Nat.le_of_ble_eq_true rfl) dX1_keep_29 (Nat.zero_le _) (Nat.zero_le _) (fun H locs hP hD hS => ?_)
        obtain ⟨z1, ez1⟩ : ∃ zq : BM, zq = nxSt z (((kgT z) i).toInt64) 1 := ⟨_, rfl⟩
        rw [← ez1] at hP hD
        refine lv_iinc (v := nI (i + 1)) (lv' := [(3, .int (nI (i + 1))), (0, .ref (h 0)), (1, .long (dg (kgT σ) 0 (kgMy σ)))]) hx hb dX1_keep_32 hl (k := 0) rfl (nI_add _ 1) (by decide) rfl (fun ls hl => ?_)
        refine lv_goto (tgt := 12) hx hb dX1_keep_35 (by decide) ?_
        exact ih (i + 1) z1 (by omega) (by omega) (by rw [ez1, hT, ez]; rfl) H locs hP hD hS ls (lv_sub hl [0, 1, 2] rfl)
  exact loop (kgMy σ + 1) 0 (kuLe σ 0) (by omega) (by omega) (rfl) _ _ hP hD hS ls (lv_sub hl [0, 2, 1] rfl)
set_option maxRecDepth 100000 in
set_option maxHeartbeats 4000000 in
theorem m_keepN (l : Launch) (σ : BM) (hm : kgMy σ ≤ 64) (hc : kgBl σ ≤ 20) (hs : kgSz σ ≤ 700) (hf : fnd (kgDG σ) (dg (kgT σ) 0 (kgMy σ)) (kgBl σ) = none) (h0 : kgBl σ < 20) (h1 : kgSz σ + kgMy σ + 4 ≤ 700) : wMl l yX1_keep wsX1_keep ({ frames := 4, cells := 0, slots := 0, locals := 95 } : Room) σ [] (dg (kgT σ) 0 (kgMy σ)) (ofM (sBlob (wrM (kuTh (kpSt σ (kgMy σ)) 0) (nI 1))) (wrM (kuTh (kpSt σ (kgMy σ)) 0) (nI 1))) := by
  intro dC dI cI cJ cZ h sz
  refine Met.ofW (cc := cX1_keep) (maxL := 4) (ret := (some .long)) (by decide) rfl ?_
  intro p e s m args below meth c s₁ B hml hv
  obtain ⟨rfl, hsz, hP, hK, hD0⟩ := hv
  have hx := B.exec
  have hb := B.bytes
  have hr := B.returns
  have hts := atoms_spec (ws := wsX1_keep) B.pre
  have hown : s.vm.findClass RX1 = some m.cls := findClass_of_methodNamed B.named
  have hlocks := B.notSynchronized
  subst hsz
  have htg : ∀ w ∈ GW, w.before _ s = true := fun w h => hts w (List.mem_cons_of_mem _ h)
  have hD := hD0.self (sz := s.heap.size)
  generalize hAe : va_A (wBM cI cJ cZ h σ) s.heap.size = A at hD ⊢
  have hA : ∀ q : Nat, s.heap.size ≤ q → A q := fun q h => by rw [← hAe]; exact Or.inr h
  have hS : va_S A s.heap s.heap [] := va_S.rf
  have hl := lv_entry [.ref (h 0)] (n := 4) (Nat.le_of_ble_eq_true rfl)
  rw [lg_entry_eq]
  generalize (lg_sl [.ref (h 0)] ++ List.replicate (4 - (lg_sl [.ref (h 0)]).length) Slot.unset).toArray = ls at hl ⊢
  have hl : lv_has ls 4 [(0, .ref (h 0))] := hl
  have hP : va_P (dC, dI) vwCl (wBM cI cJ cZ h σ) s.heap := hP
  refine lv_aload_n hx hb dX1_keep_0 rfl (lv_at hl 0 rfl) ?_
  refine bm_rl (As := []) (rest := []) (n := 0) ⟨hx, hb, hml, hown, htg⟩ (m_digestOfTyped l σ  (hm)) (cwV 0 htg gX1_68 rfl rfl rfl (by decide +kernel) ⟨Nat.le_of_ble_eq_true rfl, Nat.le_of_ble_eq_true rfl⟩) hK hP hD hS hA hl.1 rfl rfl (Nat.le_of_ble_eq_true rfl) dX1_keep_1 (Nat.zero_le _) (Nat.zero_le _) (fun H locs hP hS => ?_)
  refine lv_lstore_n (lv' := [(1, .long (dg (kgT σ) 0 (kgMy σ))), (0, .ref (h 0))]) hx hb dX1_keep_4 rfl hl (by decide) rfl (fun ls hl => ?_)
  refine lv_aload_n hx hb dX1_keep_5 rfl (lv_at hl 1 rfl) ?_
  refine lv_iconst (v := nI 0) hx hb dX1_keep_6 (by decide) ?_
  refine va_put (D := (dC, dI)) (ci := 1) (v := .int (nI 0)) (ty := .int) (C := RX1) (T := TX1) (N := 18) hx hb htg inX1 tyX1 tyX1_ok nmX1 (fs := fsBM h σ) hown hK hP hD hS 0 rfl rfl 17 (by decide) (htg _ fX1_65) (fun _ h9 => h9) rfl (by decide +kernel) rfl rfl (Nat.le_of_ble_eq_true rfl) dX1_keep_7 (fun H locs hP hD hS => ?_)
  rw [wBM_Le] at hP hD
  refine lv_iconst (v := nI 0) hx hb dX1_keep_10 (by decide) ?_
  refine lv_istore_n (lv' := [(3, .int (nI 0)), (1, .long (dg (kgT σ) 0 (kgMy σ))), (0, .ref (h 0))]) hx hb dX1_keep_11 rfl hl (by decide) rfl (fun ls hl => ?_)
  have loop : ∀ (fu i : Nat) (z : BM), i ≤ kgMy σ → kgMy σ < i + fu → z = kpSt σ i → ∀ (H : Heap) (locs : List Loc), va_P (dC, dI) vwCl (wBM cI cJ cZ h z) H → va_D A (wBM cI cJ cZ h z) → va_S A s.heap H locs → ∀ (ls : Array Slot), lv_has ls 4 [(3, .int (nI i)), (0, .ref (h 0)), (1, .long (dg (kgT σ) 0 (kgMy σ)))] → W p l e (headSpec wsX1_keep ({ frames := 4, cells := 0, slots := 0, locals := 95 } : Room)).room s m ([.ref (h 0)].toArray) below meth c H locs 0 0 (MQ below (va_Ql (fun (r' : Int64) (_ : Unit) => r' = (dg (kgT σ) 0 (kgMy σ))) (fun _ => aBM dC dI cI cJ cZ h A (ofM (sBlob (wrM (kuTh (kpSt σ (kgMy σ)) 0) (nI 1))) (wrM (kuTh (kpSt σ (kgMy σ)) 0) (nI 1)))) A) ([.ref (h 0)].toArray) s 0 0 A) (F0 m 12 ls []) := by
    intro fu
    induction fu with
    | zero => intro i z h1 h2; exact absurd h2 (by omega)
    | succ fu ih =>
      intro i z hi hin ez H locs hP hD hS ls hl
      refine lv_iload_n hx hb dX1_keep_12 rfl (lv_at hl 0 rfl) ?_
      have hq := kpSt_keep σ i
      rw [← ez] at hq
      obtain ⟨hMy, hT, hLe, hBl, hDG, hSz⟩ := hq
      refine lv_aload_n hx hb dX1_keep_13 rfl (lv_at hl 1 rfl) ?_
      refine va_get (D := (dC, dI)) (ci := 1) (v := .int (nI (kgMy z))) (C := RX1) (T := TX1) (N := 18) hx hb htg inX1 (fs := fsBM h z) hown hK hP 0 rfl rfl 2 (by decide) (htg _ fX1_49) (fun _ h9 => h9) rfl dX1_keep_14 ?_
      refine xr_icmp_ge (tgt := 38) hx hb dX1_keep_17 (by decide) (by omega) (by omega) (fun c17 => ?_) (fun c17 => ?_)
      · have hz : fnd (kgDG z) (dg (kgT σ) 0 (kgMy σ)) (kgBl z) = none := by rw [hDG, hBl]; exact hf
        refine lv_aload_n hx hb dX1_keep_38 rfl (lv_at hl 1 rfl) ?_
        refine lv_lload_n hx hb dX1_keep_39 rfl (lv_at hl 2 rfl) ?_
        refine bm_ri (As := [.long (dg (kgT σ) 0 (kgMy σ))]) (rest := []) (n := 1) ⟨hx, hb, hml, hown, htg⟩ (m_blobOf l z (dg (kgT σ) 0 (kgMy σ)) (by omega)) (cwV 1 htg gX1_91 rfl rfl rfl (by decide +kernel) ⟨Nat.le_of_ble_eq_true rfl, Nat.le_of_ble_eq_true rfl⟩) hK hP hD hS hA hl.1 rfl rfl (Nat.le_of_ble_eq_true rfl) dX1_keep_40 (Nat.zero_le _) (Nat.zero_le _) (fun H locs hP hS => ?_)
        rw [hz]
        refine W.eq (g2 := F0 m 43 ls [.int (-1)]) rfl ?_
        refine lv_iconst (v := -1) hx hb dX1_keep_43 (by decide) ?_
        refine lv_icmp_ne (tgt := 51) hx hb dX1_keep_44 (by decide) (fun c => absurd rfl c) (fun _ => ?_)
        refine lv_iconst (v := nI 1) hx hb dX1_keep_47 (by decide) ?_
        refine lv_goto (tgt := 52) hx hb dX1_keep_48 (by decide) ?_
        refine lv_istore_n (lv' := [(3, .int (nI 1)), (0, .ref (h 0)), (1, .long (dg (kgT σ) 0 (kgMy σ)))]) hx hb dX1_keep_52 rfl hl (by decide) rfl (fun ls hl => ?_)
        refine lv_aload_n hx hb dX1_keep_53 rfl (lv_at hl 1 rfl) ?_
        refine lv_iload_n hx hb dX1_keep_54 rfl (lv_at hl 0 rfl) ?_
        refine lv_if_eq (tgt := 78) hx hb dX1_keep_55 (by decide) (fun c55 => absurd c55 (by decide)) (fun c55 => ?_)
        refine lv_aload_n hx hb dX1_keep_58 rfl (lv_at hl 1 rfl) ?_
        refine va_get (D := (dC, dI)) (ci := 1) (v := .int (nI (kgBl z))) (C := RX1) (T := TX1) (N := 18) hx hb htg inX1 (fs := fsBM h z) hown hK hP 0 rfl rfl 6 (by decide) (htg _ fX1_72) (fun _ h9 => h9) rfl dX1_keep_59 ?_
        refine lv_bipush (v := nI 20) hx hb dX1_keep_62 (by decide) ?_
        refine xr_icmp_eq (tgt := 74) hx hb dX1_keep_64 (by decide) (by omega) (by omega) (fun c64 => absurd c64 (by omega)) (fun c64 => ?_)
        refine lv_aload_n hx hb dX1_keep_67 rfl (lv_at hl 1 rfl) ?_
        refine bm_ri (As := []) (rest := [.ref (h 0)]) (n := 0) ⟨hx, hb, hml, hown, htg⟩ (m_hasRoom l z  (by omega) (by omega)) (cwV 0 htg gX1_109 rfl rfl rfl (by decide +kernel) ⟨Nat.le_of_ble_eq_true rfl, Nat.le_of_ble_eq_true rfl⟩) hK hP hD hS hA hl.1 rfl rfl (Nat.le_of_ble_eq_true rfl) dX1_keep_68 (Nat.zero_le _) (Nat.zero_le _) (fun H locs hP hS => ?_)
        refine xr_ifneB (tgt := 78) hx hb dX1_keep_71 (by decide) (fun c71 => ?_) (fun c71 => absurd c71 (by rw [decide_eq_true (by omega)]; decide))
        refine lv_iconst (v := nI 0) hx hb dX1_keep_78 (by decide) ?_
        refine va_put (D := (dC, dI)) (ci := 1) (v := .int (nI 0)) (ty := .int) (C := RX1) (T := TX1) (N := 18) hx hb htg inX1 tyX1 tyX1_ok nmX1 (fs := fsBM h z) hown hK hP hD hS 0 rfl rfl 0 (by decide) (htg _ fX1_45) (fun _ h9 => h9) rfl (by decide +kernel) rfl rfl (Nat.le_of_ble_eq_true rfl) dX1_keep_79 (fun H locs hP hD hS => ?_)
        rw [wBM_Th] at hP hD
        refine lv_aload_n hx hb dX1_keep_82 rfl (lv_at hl 1 rfl) ?_
        refine va_get (D := (dC, dI)) (ci := 1) (v := .int (nI 0)) (C := RX1) (T := TX1) (N := 18) hx hb htg inX1 (fs := fsBM h (kuTh z 0)) hown hK hP 0 rfl rfl 0 (by decide) (htg _ fX1_45) (fun _ h9 => h9) rfl dX1_keep_83 ?_
        refine lv_if_ne (tgt := 104) hx hb dX1_keep_86 (by decide) (fun c86 => absurd c86 (by decide)) (fun c86 => ?_)
        refine lv_iload_n hx hb dX1_keep_89 rfl (lv_at hl 0 rfl) ?_
        refine lv_if_eq (tgt := 104) hx hb dX1_keep_90 (by decide) (fun c90 => absurd c90 (by decide)) (fun c90 => ?_)
        refine lv_aload_n hx hb dX1_keep_93 rfl (lv_at hl 1 rfl) ?_
        refine lv_iconst (v := nI 1) hx hb dX1_keep_94 (by decide) ?_
        refine bm_wv (As := [.int (nI 1)]) (rest := []) (n := 1) ⟨hx, hb, hml, hown, htg⟩ (m_write l (kuTh z 0) (nI 1) (by show kgSz z + kgLe z + 4 ≤ 700; omega)) (cwV 1 htg gX1_112 rfl rfl rfl (by decide +kernel) ⟨Nat.le_of_ble_eq_true rfl, Nat.le_of_ble_eq_true rfl⟩) hK hP hD hS hA hl.1 rfl rfl (Nat.le_of_ble_eq_true rfl) dX1_keep_95 (Nat.zero_le _) (Nat.zero_le _) (fun H locs hP hD hS => ?_)
        obtain ⟨z1, ez1⟩ : ∃ zq : BM, zq = wrM (kuTh z 0) (nI 1) := ⟨_, rfl⟩
        rw [← ez1] at hP hD
        have hLe9 : kgLe z1 = kgLe z := by rw [ez1]; rfl
        have hBl9 : kgBl z1 = kgBl z := by rw [ez1]; rfl
        refine lv_aload_n hx hb dX1_keep_98 rfl (lv_at hl 1 rfl) ?_
        refine lv_iconst (v := nI 1) hx hb dX1_keep_99 (by decide) ?_
        refine bm_wi (As := [.int (nI 1)]) (rest := []) (n := 1) ⟨hx, hb, hml, hown, htg⟩ (m_says1 l z1  (by omega) (by omega)) (cwV 1 htg gX1_116 rfl rfl rfl (by decide +kernel) ⟨Nat.le_of_ble_eq_true rfl, Nat.le_of_ble_eq_true rfl⟩) hK hP hD hS hA hl.1 rfl rfl (Nat.le_of_ble_eq_true rfl) dX1_keep_100 (Nat.zero_le _) (Nat.zero_le _) (fun H locs hP hD hS => ?_)
        obtain ⟨z2, ez2⟩ : ∃ zq : BM, zq = ofM (sBlob z1) z1 := ⟨_, rfl⟩
        rw [← ez2] at hP hD
        have hTh : kgTh z2 = 0 := by rw [ez2, sBlob_Th, ez1]; rfl
        refine lv_pop hx hb dX1_keep_103 rfl ?_
        refine lv_aload_n hx hb dX1_keep_104 rfl (lv_at hl 1 rfl) ?_
        refine va_get (D := (dC, dI)) (ci := 1) (v := .int (nI (kgTh z2))) (C := RX1) (T := TX1) (N := 18) hx hb htg inX1 (fs := fsBM h z2) hown hK hP 0 rfl rfl 0 (by decide) (htg _ fX1_45) (fun _ h9 => h9) rfl dX1_keep_105 ?_
        refine lv_if_le (tgt := 115) hx hb dX1_keep_108 (by decide) (fun c108 => ?_) (fun c108 => absurd c108 (by rw [hTh]; decide))
        refine lv_lload_n hx hb dX1_keep_115 rfl (lv_at hl 2 rfl) ?_
        have hfin : z2 = ofM (sBlob (wrM (kuTh (kpSt σ (kgMy σ)) 0) (nI 1))) (wrM (kuTh (kpSt σ (kgMy σ)) 0) (nI 1)) := by rw [ez2, ez1, ez, show i = kgMy σ by omega]
        rw [hfin] at hP hD
        exact W.lret (v := dg (kgT σ) 0 (kgMy σ)) hx hb hr (fun t ht hW => ⟨⟨_, (), rfl, rfl, by rw [ht]; exact hP, va_K.moved hW.alike hK, hD⟩, hS.F ht⟩) hS.2.2 dX1_keep_116
      · refine lv_aload_n hx hb dX1_keep_20 rfl (lv_at hl 1 rfl) ?_
        refine lv_aload_n hx hb dX1_keep_21 rfl (lv_at hl 1 rfl) ?_
        refine va_get (D := (dC, dI)) (ci := 1) (v := .ref (h 1)) (C := RX1) (T := TX1) (N := 18) hx hb htg inX1 (fs := fsBM h z) hown hK hP 0 rfl rfl 1 (by decide) (htg _ fX1_7) (fun _ h9 => h9) rfl dX1_keep_22 ?_
        refine lv_iload_n hx hb dX1_keep_25 rfl (lv_at hl 0 rfl) ?_
        refine xr_iald (f := kgT z) (i := i) hx hb hK hP 1 0 rfl rfl (by omega) (by decide) dX1_keep_26 ?_
        refine lv_i2l (v := ((kgT z) i).toInt64) hx hb dX1_keep_27 rfl ?_
        refine lv_iconst (v := nI 1) hx hb dX1_keep_28 (by decide) ?_
        refine bm_wv (As := [.long (((kgT z) i).toInt64), .int (nI 1)]) (rest := []) (n := 2) ⟨hx, hb, hml, hown, htg⟩ (m_next l z (((kgT z) i).toInt64) 1 (by omega) (by omega)) (cwV 2 htg gX1_105 rfl rfl rfl (by decide +kernel) ⟨Nat.le_of_ble_eq_true rfl, Nat.le_of_ble_eq_true rfl⟩) hK hP hD hS hA hl.1 rfl rfl (Nat.le_of_ble_eq_true rfl) dX1_keep_29 (Nat.zero_le _) (Nat.zero_le _) (fun H locs hP hD hS => ?_)
        obtain ⟨z3, ez3⟩ : ∃ zq : BM, zq = nxSt z (((kgT z) i).toInt64) 1 := ⟨_, rfl⟩
        rw [← ez3] at hP hD
        refine lv_iinc (v := nI (i + 1)) (lv' := [(3, .int (nI (i + 1))), (0, .ref (h 0)), (1, .long (dg (kgT σ) 0 (kgMy σ)))]) hx hb dX1_keep_32 hl (k := 0) rfl (nI_add _ 1) (by decide) rfl (fun ls hl => ?_)
        refine lv_goto (tgt := 12) hx hb dX1_keep_35 (by decide) ?_
        exact ih (i + 1) z3 (by omega) (by omega) (by rw [ez3, hT, ez]; rfl) H locs hP hD hS ls (lv_sub hl [0, 1, 2] rfl)
  exact loop (kgMy σ + 1) 0 (kuLe σ 0) (by omega) (by omega) (rfl) _ _ hP hD hS ls (lv_sub hl [0, 2, 1] rfl)
set_option maxRecDepth 100000 in
set_option maxHeartbeats 4000000 in
theorem m_tellT1 (l : Launch) (σ : BM) (t : Int32) (d : Int64) (ht : isTg t = false) : wMv l yX1_tell wsX1_tell ({ frames := 4, cells := 0, slots := 0, locals := 95 } : Room) σ [.int t, .long d] (kuTh σ 1) := by
  intro dC dI cI cJ cZ h sz
  refine Met.ofW (cc := cX1_tell) (maxL := 4) (ret := none) (by decide) rfl ?_
  intro p e s m args below meth c s₁ B hml hv
  obtain ⟨rfl, hsz, hP, hK, hD0⟩ := hv
  have hx := B.exec
  have hb := B.bytes
  have hr := B.returns
  have hts := atoms_spec (ws := wsX1_tell) B.pre
  have hown : s.vm.findClass RX1 = some m.cls := findClass_of_methodNamed B.named
  have hlocks := B.notSynchronized
  subst hsz
  have htg : ∀ w ∈ GW, w.before _ s = true := fun w h => hts w (List.mem_cons_of_mem _ h)
  have hD := hD0.self (sz := s.heap.size)
  generalize hAe : va_A (wBM cI cJ cZ h σ) s.heap.size = A at hD ⊢
  have hA : ∀ q : Nat, s.heap.size ≤ q → A q := fun q h => by rw [← hAe]; exact Or.inr h
  have hS : va_S A s.heap s.heap [] := va_S.rf
  have hl := lv_entry [.ref (h 0), .int t, .long d] (n := 4) (Nat.le_of_ble_eq_true rfl)
  rw [lg_entry_eq]
  generalize (lg_sl [.ref (h 0), .int t, .long d] ++ List.replicate (4 - (lg_sl [.ref (h 0), .int t, .long d]).length) Slot.unset).toArray = ls at hl ⊢
  have hl : lv_has ls 4 [(0, .ref (h 0)), (1, .int t), (2, .long d)] := hl
  have hP : va_P (dC, dI) vwCl (wBM cI cJ cZ h σ) s.heap := hP
  refine lv_aload_n hx hb dX1_tell_0 rfl (lv_at hl 0 rfl) ?_
  refine lv_iload_n hx hb dX1_tell_1 rfl (lv_at hl 1 rfl) ?_
  refine xr_roi (va_runS (As := [.int t]) (rest := [.ref (h 0)]) ⟨hx, hb, hml, hown, htg⟩ (m_isTag l t _) (va_cwS 1 htg gX1_120 rfl rfl rfl (by decide +kernel) ⟨Nat.le_of_ble_eq_true rfl, Nat.le_of_ble_eq_true rfl⟩) ⟨fun a U g mk q => q, fun U hU hW => ⟨rfl, congrArg Array.size hU⟩⟩ rfl rfl hl.1 rfl (lv_room (Nat.le_of_ble_eq_true rfl)) dX1_tell_2 ⟨Nat.zero_le _, Nat.zero_le _⟩) hP hS hA (fun H locs hP hS _ => ?_)
  rw [ht]
  refine xr_ifneB (tgt := 12) hx hb dX1_tell_5 (by decide) (fun c => absurd c (by decide)) (fun _ => ?_)
  refine lv_iconst (v := nI 1) hx hb dX1_tell_8 (by decide) ?_
  refine lv_goto (tgt := 26) hx hb dX1_tell_9 (by decide) ?_
  refine va_put (D := (dC, dI)) (ci := 1) (v := .int (nI 1)) (ty := .int) (C := RX1) (T := TX1) (N := 18) hx hb htg inX1 tyX1 tyX1_ok nmX1 (fs := fsBM h σ) hown hK hP hD hS 0 rfl rfl 0 (by decide) (htg _ fX1_45) (fun _ h9 => h9) rfl (by decide +kernel) rfl rfl (Nat.le_of_ble_eq_true rfl) dX1_tell_26 (fun H locs hP hD hS => ?_)
  rw [wBM_Th] at hP hD
  refine lv_aload_n hx hb dX1_tell_29 rfl (lv_at hl 0 rfl) ?_
  refine va_get (D := (dC, dI)) (ci := 1) (v := .int (nI 1)) (C := RX1) (T := TX1) (N := 18) hx hb htg inX1 (fs := fsBM h (kuTh σ 1)) hown hK hP 0 rfl rfl 0 (by decide) (htg _ fX1_45) (fun _ h9 => h9) rfl dX1_tell_30 ?_
  refine lv_if_gt (tgt := 56) hx hb dX1_tell_33 (by decide) (fun c33 => ?_) (fun c33 => absurd c33 (by decide))
  have hfin : kuTh σ 1 = kuTh σ 1 := rfl
  rw [hfin] at hP hD
  exact W.vret hx hb hr (fun t ht hW => ⟨⟨(), rfl, trivial, by rw [ht]; exact hP, va_K.moved hW.alike hK, hD⟩, hS.F ht⟩) hS.2.2 dX1_tell_56
set_option maxRecDepth 100000 in
set_option maxHeartbeats 4000000 in
theorem m_tellT2 (l : Launch) (σ : BM) (t : Nat) (d : Int64) (ht : t < 8) (hc : kgBl σ ≤ 20) (hf : fnd (kgDG σ) d (kgBl σ) = none) : wMv l yX1_tell wsX1_tell ({ frames := 4, cells := 0, slots := 0, locals := 95 } : Room) σ [.int (nI t), .long d] (kuTh σ 2) := by
  intro dC dI cI cJ cZ h sz
  refine Met.ofW (cc := cX1_tell) (maxL := 4) (ret := none) (by decide) rfl ?_
  intro p e s m args below meth c s₁ B hml hv
  obtain ⟨rfl, hsz, hP, hK, hD0⟩ := hv
  have hx := B.exec
  have hb := B.bytes
  have hr := B.returns
  have hts := atoms_spec (ws := wsX1_tell) B.pre
  have hown : s.vm.findClass RX1 = some m.cls := findClass_of_methodNamed B.named
  have hlocks := B.notSynchronized
  subst hsz
  have htg : ∀ w ∈ GW, w.before _ s = true := fun w h => hts w (List.mem_cons_of_mem _ h)
  have hD := hD0.self (sz := s.heap.size)
  generalize hAe : va_A (wBM cI cJ cZ h σ) s.heap.size = A at hD ⊢
  have hA : ∀ q : Nat, s.heap.size ≤ q → A q := fun q h => by rw [← hAe]; exact Or.inr h
  have hS : va_S A s.heap s.heap [] := va_S.rf
  have hl := lv_entry [.ref (h 0), .int (nI t), .long d] (n := 4) (Nat.le_of_ble_eq_true rfl)
  rw [lg_entry_eq]
  generalize (lg_sl [.ref (h 0), .int (nI t), .long d] ++ List.replicate (4 - (lg_sl [.ref (h 0), .int (nI t), .long d]).length) Slot.unset).toArray = ls at hl ⊢
  have hl : lv_has ls 4 [(0, .ref (h 0)), (1, .int (nI t)), (2, .long d)] := hl
  have hP : va_P (dC, dI) vwCl (wBM cI cJ cZ h σ) s.heap := hP
  refine lv_aload_n hx hb dX1_tell_0 rfl (lv_at hl 0 rfl) ?_
  refine lv_iload_n hx hb dX1_tell_1 rfl (lv_at hl 1 rfl) ?_
  refine xr_roi (va_runS (As := [.int (nI t)]) (rest := [.ref (h 0)]) ⟨hx, hb, hml, hown, htg⟩ (m_isTag l (nI t) _) (va_cwS 1 htg gX1_120 rfl rfl rfl (by decide +kernel) ⟨Nat.le_of_ble_eq_true rfl, Nat.le_of_ble_eq_true rfl⟩) ⟨fun a U g mk q => q, fun U hU hW => ⟨rfl, congrArg Array.size hU⟩⟩ rfl rfl hl.1 rfl (lv_room (Nat.le_of_ble_eq_true rfl)) dX1_tell_2 ⟨Nat.zero_le _, Nat.zero_le _⟩) hP hS hA (fun H locs hP hS _ => ?_)
  rw [show isTg (nI t) = true by rw [isTg_nI (by omega)]; exact decide_eq_true ht]
  refine xr_ifneB (tgt := 12) hx hb dX1_tell_5 (by decide) (fun _ => ?_) (fun c => absurd c (by decide))
  refine lv_aload_n hx hb dX1_tell_12 rfl (lv_at hl 0 rfl) ?_
  refine lv_lload_n hx hb dX1_tell_13 rfl (lv_at hl 2 rfl) ?_
  refine bm_ri (As := [.long d]) (rest := [.ref (h 0)]) (n := 1) ⟨hx, hb, hml, hown, htg⟩ (m_blobOf l σ d (hc)) (cwV 1 htg gX1_91 rfl rfl rfl (by decide +kernel) ⟨Nat.le_of_ble_eq_true rfl, Nat.le_of_ble_eq_true rfl⟩) hK hP hD hS hA hl.1 rfl rfl (Nat.le_of_ble_eq_true rfl) dX1_tell_14 (Nat.zero_le _) (Nat.zero_le _) (fun H locs hP hS => ?_)
  rw [hf]
  refine W.eq (g2 := F0 m 17 ls [.int (-1), .ref (h 0)]) rfl ?_
  refine lv_iconst (v := -1) hx hb dX1_tell_17 (by decide) ?_
  refine lv_icmp_ne (tgt := 25) hx hb dX1_tell_18 (by decide) (fun c => absurd rfl c) (fun _ => ?_)
  refine lv_iconst (v := nI 2) hx hb dX1_tell_21 (by decide) ?_
  refine lv_goto (tgt := 26) hx hb dX1_tell_22 (by decide) ?_
  refine va_put (D := (dC, dI)) (ci := 1) (v := .int (nI 2)) (ty := .int) (C := RX1) (T := TX1) (N := 18) hx hb htg inX1 tyX1 tyX1_ok nmX1 (fs := fsBM h σ) hown hK hP hD hS 0 rfl rfl 0 (by decide) (htg _ fX1_45) (fun _ h9 => h9) rfl (by decide +kernel) rfl rfl (Nat.le_of_ble_eq_true rfl) dX1_tell_26 (fun H locs hP hD hS => ?_)
  rw [wBM_Th] at hP hD
  refine lv_aload_n hx hb dX1_tell_29 rfl (lv_at hl 0 rfl) ?_
  refine va_get (D := (dC, dI)) (ci := 1) (v := .int (nI 2)) (C := RX1) (T := TX1) (N := 18) hx hb htg inX1 (fs := fsBM h (kuTh σ 2)) hown hK hP 0 rfl rfl 0 (by decide) (htg _ fX1_45) (fun _ h9 => h9) rfl dX1_tell_30 ?_
  refine lv_if_gt (tgt := 56) hx hb dX1_tell_33 (by decide) (fun c33 => ?_) (fun c33 => absurd c33 (by decide))
  have hfin : kuTh σ 2 = kuTh σ 2 := rfl
  rw [hfin] at hP hD
  exact W.vret hx hb hr (fun t ht hW => ⟨⟨(), rfl, trivial, by rw [ht]; exact hP, va_K.moved hW.alike hK, hD⟩, hS.F ht⟩) hS.2.2 dX1_tell_56
set_option maxRecDepth 100000 in
set_option maxHeartbeats 4000000 in
theorem m_tellO (l : Launch) (σ : BM) (t : Nat) (d : Int64) (b : Nat) (ht : t < 8) (hc : kgBl σ ≤ 20) (hf : fnd (kgDG σ) d (kgBl σ) = some b) (h1 : kgTE σ t = true) (h2 : kgTG σ t = d) : wMv l yX1_tell wsX1_tell ({ frames := 4, cells := 0, slots := 0, locals := 95 } : Room) σ [.int (nI t), .long d] (kuTh σ 0) := by
  intro dC dI cI cJ cZ h sz
  refine Met.ofW (cc := cX1_tell) (maxL := 4) (ret := none) (by decide) rfl ?_
  intro p e s m args below meth c s₁ B hml hv
  obtain ⟨rfl, hsz, hP, hK, hD0⟩ := hv
  have hx := B.exec
  have hb := B.bytes
  have hr := B.returns
  have hts := atoms_spec (ws := wsX1_tell) B.pre
  have hown : s.vm.findClass RX1 = some m.cls := findClass_of_methodNamed B.named
  have hlocks := B.notSynchronized
  subst hsz
  have htg : ∀ w ∈ GW, w.before _ s = true := fun w h => hts w (List.mem_cons_of_mem _ h)
  have hD := hD0.self (sz := s.heap.size)
  generalize hAe : va_A (wBM cI cJ cZ h σ) s.heap.size = A at hD ⊢
  have hA : ∀ q : Nat, s.heap.size ≤ q → A q := fun q h => by rw [← hAe]; exact Or.inr h
  have hS : va_S A s.heap s.heap [] := va_S.rf
  have hl := lv_entry [.ref (h 0), .int (nI t), .long d] (n := 4) (Nat.le_of_ble_eq_true rfl)
  rw [lg_entry_eq]
  generalize (lg_sl [.ref (h 0), .int (nI t), .long d] ++ List.replicate (4 - (lg_sl [.ref (h 0), .int (nI t), .long d]).length) Slot.unset).toArray = ls at hl ⊢
  have hl : lv_has ls 4 [(0, .ref (h 0)), (1, .int (nI t)), (2, .long d)] := hl
  have hP : va_P (dC, dI) vwCl (wBM cI cJ cZ h σ) s.heap := hP
  refine lv_aload_n hx hb dX1_tell_0 rfl (lv_at hl 0 rfl) ?_
  refine lv_iload_n hx hb dX1_tell_1 rfl (lv_at hl 1 rfl) ?_
  refine xr_roi (va_runS (As := [.int (nI t)]) (rest := [.ref (h 0)]) ⟨hx, hb, hml, hown, htg⟩ (m_isTag l (nI t) _) (va_cwS 1 htg gX1_120 rfl rfl rfl (by decide +kernel) ⟨Nat.le_of_ble_eq_true rfl, Nat.le_of_ble_eq_true rfl⟩) ⟨fun a U g mk q => q, fun U hU hW => ⟨rfl, congrArg Array.size hU⟩⟩ rfl rfl hl.1 rfl (lv_room (Nat.le_of_ble_eq_true rfl)) dX1_tell_2 ⟨Nat.zero_le _, Nat.zero_le _⟩) hP hS hA (fun H locs hP hS _ => ?_)
  rw [show isTg (nI t) = true by rw [isTg_nI (by omega)]; exact decide_eq_true ht]
  refine xr_ifneB (tgt := 12) hx hb dX1_tell_5 (by decide) (fun _ => ?_) (fun c => absurd c (by decide))
  refine lv_aload_n hx hb dX1_tell_12 rfl (lv_at hl 0 rfl) ?_
  refine lv_lload_n hx hb dX1_tell_13 rfl (lv_at hl 2 rfl) ?_
  refine bm_ri (As := [.long d]) (rest := [.ref (h 0)]) (n := 1) ⟨hx, hb, hml, hown, htg⟩ (m_blobOf l σ d (hc)) (cwV 1 htg gX1_91 rfl rfl rfl (by decide +kernel) ⟨Nat.le_of_ble_eq_true rfl, Nat.le_of_ble_eq_true rfl⟩) hK hP hD hS hA hl.1 rfl rfl (Nat.le_of_ble_eq_true rfl) dX1_tell_14 (Nat.zero_le _) (Nat.zero_le _) (fun H locs hP hS => ?_)
  have hlt := (fnd_lt hf).1
  rw [hf]
  refine W.eq (g2 := F0 m 17 ls [.int (nI b), .ref (h 0)]) rfl ?_
  refine lv_iconst (v := -1) hx hb dX1_tell_17 (by decide) ?_
  refine lv_icmp_ne (tgt := 25) hx hb dX1_tell_18 (by decide) (fun _ => ?_) (fun c => absurd c (optI_none (by omega)))
  refine lv_iconst (v := nI 0) hx hb dX1_tell_25 (by decide) ?_
  refine va_put (D := (dC, dI)) (ci := 1) (v := .int (nI 0)) (ty := .int) (C := RX1) (T := TX1) (N := 18) hx hb htg inX1 tyX1 tyX1_ok nmX1 (fs := fsBM h σ) hown hK hP hD hS 0 rfl rfl 0 (by decide) (htg _ fX1_45) (fun _ h9 => h9) rfl (by decide +kernel) rfl rfl (Nat.le_of_ble_eq_true rfl) dX1_tell_26 (fun H locs hP hD hS => ?_)
  rw [wBM_Th] at hP hD
  refine lv_aload_n hx hb dX1_tell_29 rfl (lv_at hl 0 rfl) ?_
  refine va_get (D := (dC, dI)) (ci := 1) (v := .int (nI 0)) (C := RX1) (T := TX1) (N := 18) hx hb htg inX1 (fs := fsBM h (kuTh σ 0)) hown hK hP 0 rfl rfl 0 (by decide) (htg _ fX1_45) (fun _ h9 => h9) rfl dX1_tell_30 ?_
  refine lv_if_gt (tgt := 56) hx hb dX1_tell_33 (by decide) (fun c33 => absurd c33 (by decide)) (fun c33 => ?_)
  refine lv_aload_n hx hb dX1_tell_36 rfl (lv_at hl 0 rfl) ?_
  refine va_get (D := (dC, dI)) (ci := 1) (v := .ref (h 6)) (C := RX1) (T := TX1) (N := 18) hx hb htg inX1 (fs := fsBM h (kuTh σ 0)) hown hK hP 0 rfl rfl 8 (by decide) (htg _ fX1_26) (fun _ h9 => h9) rfl dX1_tell_37 ?_
  refine lv_iload_n hx hb dX1_tell_40 rfl (lv_at hl 1 rfl) ?_
  refine xr_zald (f := fun j => bI ((kgTE σ) j)) (i := t) hx hb hK hP 6 2 rfl rfl (by omega) (by decide) dX1_tell_41 ?_
  refine xr_ifeqB (tgt := 57) hx hb dX1_tell_42 (by decide) (fun c42 => absurd c42 (by rw [show kgTE σ t = true from h1]; decide)) (fun c42 => ?_)
  refine lv_aload_n hx hb dX1_tell_45 rfl (lv_at hl 0 rfl) ?_
  refine va_get (D := (dC, dI)) (ci := 1) (v := .ref (h 5)) (C := RX1) (T := TX1) (N := 18) hx hb htg inX1 (fs := fsBM h (kuTh σ 0)) hown hK hP 0 rfl rfl 7 (by decide) (htg _ fX1_23) (fun _ h9 => h9) rfl dX1_tell_46 ?_
  refine lv_iload_n hx hb dX1_tell_49 rfl (lv_at hl 1 rfl) ?_
  refine xr_lald (f := kgTG σ) (i := t) hx hb hK hP 5 1 rfl rfl (by omega) (by decide) dX1_tell_50 ?_
  refine lv_lload_n hx hb dX1_tell_51 rfl (lv_at hl 2 rfl) ?_
  refine xr_lcmp_ne (tgt := 57) hx hb dX1_tell_52 dX1_tell_53 (by decide) (fun c => absurd h2 c) (fun _ => ?_)
  have hfin : kuTh σ 0 = kuTh σ 0 := rfl
  rw [hfin] at hP hD
  exact W.vret hx hb hr (fun t ht hW => ⟨⟨(), rfl, trivial, by rw [ht]; exact hP, va_K.moved hW.alike hK, hD⟩, hS.F ht⟩) hS.2.2 dX1_tell_56
set_option maxRecDepth 100000 in
set_option maxHeartbeats 4000000 in
theorem m_tellT3 (l : Launch) (σ : BM) (t : Nat) (d : Int64) (b : Nat) (ht : t < 8) (hc : kgBl σ ≤ 20) (hf : fnd (kgDG σ) d (kgBl σ) = some b) (h2 : kgTE σ t = true → ¬ kgTG σ t = d) (hs : kgSz σ ≤ 700) (h3 : ¬ kgSz σ + 13 ≤ 700) : wMv l yX1_tell wsX1_tell ({ frames := 4, cells := 0, slots := 0, locals := 95 } : Room) σ [.int (nI t), .long d] (kuTh (tlSt σ t d) 3) := by
  intro dC dI cI cJ cZ h sz
  refine Met.ofW (cc := cX1_tell) (maxL := 4) (ret := none) (by decide) rfl ?_
  intro p e s m args below meth c s₁ B hml hv
  obtain ⟨rfl, hsz, hP, hK, hD0⟩ := hv
  have hx := B.exec
  have hb := B.bytes
  have hr := B.returns
  have hts := atoms_spec (ws := wsX1_tell) B.pre
  have hown : s.vm.findClass RX1 = some m.cls := findClass_of_methodNamed B.named
  have hlocks := B.notSynchronized
  subst hsz
  have htg : ∀ w ∈ GW, w.before _ s = true := fun w h => hts w (List.mem_cons_of_mem _ h)
  have hD := hD0.self (sz := s.heap.size)
  generalize hAe : va_A (wBM cI cJ cZ h σ) s.heap.size = A at hD ⊢
  have hA : ∀ q : Nat, s.heap.size ≤ q → A q := fun q h => by rw [← hAe]; exact Or.inr h
  have hS : va_S A s.heap s.heap [] := va_S.rf
  have hl := lv_entry [.ref (h 0), .int (nI t), .long d] (n := 4) (Nat.le_of_ble_eq_true rfl)
  rw [lg_entry_eq]
  generalize (lg_sl [.ref (h 0), .int (nI t), .long d] ++ List.replicate (4 - (lg_sl [.ref (h 0), .int (nI t), .long d]).length) Slot.unset).toArray = ls at hl ⊢
  have hl : lv_has ls 4 [(0, .ref (h 0)), (1, .int (nI t)), (2, .long d)] := hl
  have hP : va_P (dC, dI) vwCl (wBM cI cJ cZ h σ) s.heap := hP
  refine lv_aload_n hx hb dX1_tell_0 rfl (lv_at hl 0 rfl) ?_
  refine lv_iload_n hx hb dX1_tell_1 rfl (lv_at hl 1 rfl) ?_
  refine xr_roi (va_runS (As := [.int (nI t)]) (rest := [.ref (h 0)]) ⟨hx, hb, hml, hown, htg⟩ (m_isTag l (nI t) _) (va_cwS 1 htg gX1_120 rfl rfl rfl (by decide +kernel) ⟨Nat.le_of_ble_eq_true rfl, Nat.le_of_ble_eq_true rfl⟩) ⟨fun a U g mk q => q, fun U hU hW => ⟨rfl, congrArg Array.size hU⟩⟩ rfl rfl hl.1 rfl (lv_room (Nat.le_of_ble_eq_true rfl)) dX1_tell_2 ⟨Nat.zero_le _, Nat.zero_le _⟩) hP hS hA (fun H locs hP hS _ => ?_)
  rw [show isTg (nI t) = true by rw [isTg_nI (by omega)]; exact decide_eq_true ht]
  refine xr_ifneB (tgt := 12) hx hb dX1_tell_5 (by decide) (fun _ => ?_) (fun c => absurd c (by decide))
  refine lv_aload_n hx hb dX1_tell_12 rfl (lv_at hl 0 rfl) ?_
  refine lv_lload_n hx hb dX1_tell_13 rfl (lv_at hl 2 rfl) ?_
  refine bm_ri (As := [.long d]) (rest := [.ref (h 0)]) (n := 1) ⟨hx, hb, hml, hown, htg⟩ (m_blobOf l σ d (hc)) (cwV 1 htg gX1_91 rfl rfl rfl (by decide +kernel) ⟨Nat.le_of_ble_eq_true rfl, Nat.le_of_ble_eq_true rfl⟩) hK hP hD hS hA hl.1 rfl rfl (Nat.le_of_ble_eq_true rfl) dX1_tell_14 (Nat.zero_le _) (Nat.zero_le _) (fun H locs hP hS => ?_)
  have hlt := (fnd_lt hf).1
  rw [hf]
  refine W.eq (g2 := F0 m 17 ls [.int (nI b), .ref (h 0)]) rfl ?_
  refine lv_iconst (v := -1) hx hb dX1_tell_17 (by decide) ?_
  refine lv_icmp_ne (tgt := 25) hx hb dX1_tell_18 (by decide) (fun _ => ?_) (fun c => absurd c (optI_none (by omega)))
  refine lv_iconst (v := nI 0) hx hb dX1_tell_25 (by decide) ?_
  refine va_put (D := (dC, dI)) (ci := 1) (v := .int (nI 0)) (ty := .int) (C := RX1) (T := TX1) (N := 18) hx hb htg inX1 tyX1 tyX1_ok nmX1 (fs := fsBM h σ) hown hK hP hD hS 0 rfl rfl 0 (by decide) (htg _ fX1_45) (fun _ h9 => h9) rfl (by decide +kernel) rfl rfl (Nat.le_of_ble_eq_true rfl) dX1_tell_26 (fun H locs hP hD hS => ?_)
  rw [wBM_Th] at hP hD
  refine lv_aload_n hx hb dX1_tell_29 rfl (lv_at hl 0 rfl) ?_
  refine va_get (D := (dC, dI)) (ci := 1) (v := .int (nI 0)) (C := RX1) (T := TX1) (N := 18) hx hb htg inX1 (fs := fsBM h (kuTh σ 0)) hown hK hP 0 rfl rfl 0 (by decide) (htg _ fX1_45) (fun _ h9 => h9) rfl dX1_tell_30 ?_
  refine lv_if_gt (tgt := 56) hx hb dX1_tell_33 (by decide) (fun c33 => absurd c33 (by decide)) (fun c33 => ?_)
  refine lv_aload_n hx hb dX1_tell_36 rfl (lv_at hl 0 rfl) ?_
  refine va_get (D := (dC, dI)) (ci := 1) (v := .ref (h 6)) (C := RX1) (T := TX1) (N := 18) hx hb htg inX1 (fs := fsBM h (kuTh σ 0)) hown hK hP 0 rfl rfl 8 (by decide) (htg _ fX1_26) (fun _ h9 => h9) rfl dX1_tell_37 ?_
  refine lv_iload_n hx hb dX1_tell_40 rfl (lv_at hl 1 rfl) ?_
  refine xr_zald (f := fun j => bI ((kgTE σ) j)) (i := t) hx hb hK hP 6 2 rfl rfl (by omega) (by decide) dX1_tell_41 ?_
  refine xr_ifeqB (tgt := 57) hx hb dX1_tell_42 (by decide) (fun c42 => ?_) (fun c42 => ?_)
  · refine lv_aload_n hx hb dX1_tell_57 rfl (lv_at hl 0 rfl) ?_
    refine lv_iconst (v := nI 0) hx hb dX1_tell_58 (by decide) ?_
    refine va_put (D := (dC, dI)) (ci := 1) (v := .int (nI 0)) (ty := .int) (C := RX1) (T := TX1) (N := 18) hx hb htg inX1 tyX1 tyX1_ok nmX1 (fs := fsBM h (kuTh σ 0)) hown hK hP hD hS 0 rfl rfl 17 (by decide) (htg _ fX1_65) (fun _ h9 => h9) rfl (by decide +kernel) rfl rfl (Nat.le_of_ble_eq_true rfl) dX1_tell_59 (fun H locs hP hD hS => ?_)
    rw [wBM_Le] at hP hD
    refine lv_aload_n hx hb dX1_tell_62 rfl (lv_at hl 0 rfl) ?_
    refine lv_iload_n hx hb dX1_tell_63 rfl (lv_at hl 1 rfl) ?_
    refine lv_i2l (v := (nI t).toInt64) hx hb dX1_tell_64 rfl ?_
    refine lv_iconst (v := nI 1) hx hb dX1_tell_65 (by decide) ?_
    refine bm_wv (As := [.long ((nI t).toInt64), .int (nI 1)]) (rest := []) (n := 2) ⟨hx, hb, hml, hown, htg⟩ (m_next l (kuLe (kuTh σ 0) 0) ((nI t).toInt64) 1 (by first | omega | (show 0 + _ ≤ 700; omega)) (by omega)) (cwV 2 htg gX1_105 rfl rfl rfl (by decide +kernel) ⟨Nat.le_of_ble_eq_true rfl, Nat.le_of_ble_eq_true rfl⟩) hK hP hD hS hA hl.1 rfl rfl (Nat.le_of_ble_eq_true rfl) dX1_tell_66 (Nat.zero_le _) (Nat.zero_le _) (fun H locs hP hD hS => ?_)
    obtain ⟨z1, ez1⟩ : ∃ zq : BM, zq = nxSt (kuLe (kuTh σ 0) 0) ((nI t).toInt64) 1 := ⟨_, rfl⟩
    rw [← ez1] at hP hD
    have hLe1 : kgLe z1 = 1 := by rw [ez1]; rfl
    have hSz1 : kgSz z1 = kgSz σ := by rw [ez1]; rfl
    have hBl1 : kgBl z1 = kgBl σ := by rw [ez1]; rfl
    refine lv_aload_n hx hb dX1_tell_69 rfl (lv_at hl 0 rfl) ?_
    refine lv_lload_n hx hb dX1_tell_70 rfl (lv_at hl 2 rfl) ?_
    refine lv_bipush (v := nI 8) hx hb dX1_tell_71 (by decide) ?_
    refine bm_wv (As := [.long d, .int (nI 8)]) (rest := []) (n := 2) ⟨hx, hb, hml, hown, htg⟩ (m_next l z1 d 8 (by first | omega | (show 0 + _ ≤ 700; omega)) (by omega)) (cwV 2 htg gX1_105 rfl rfl rfl (by decide +kernel) ⟨Nat.le_of_ble_eq_true rfl, Nat.le_of_ble_eq_true rfl⟩) hK hP hD hS hA hl.1 rfl rfl (Nat.le_of_ble_eq_true rfl) dX1_tell_73 (Nat.zero_le _) (Nat.zero_le _) (fun H locs hP hD hS => ?_)
    obtain ⟨z2, ez2⟩ : ∃ zq : BM, zq = nxSt z1 d 8 := ⟨_, rfl⟩
    rw [← ez2] at hP hD
    have hLe2 : kgLe z2 = 9 := by rw [ez2]; show kgLe z1 + 8 = 9; omega
    have hSz2 : kgSz z2 = kgSz σ := by rw [ez2]; exact hSz1
    have hBl2 : kgBl z2 = kgBl σ := by rw [ez2]; exact hBl1
    refine lv_aload_n hx hb dX1_tell_76 rfl (lv_at hl 0 rfl) ?_
    refine lv_aload_n hx hb dX1_tell_77 rfl (lv_at hl 0 rfl) ?_
    refine bm_ri (As := []) (rest := [.ref (h 0)]) (n := 0) ⟨hx, hb, hml, hown, htg⟩ (m_hasRoom l z2  (by omega) (by omega)) (cwV 0 htg gX1_109 rfl rfl rfl (by decide +kernel) ⟨Nat.le_of_ble_eq_true rfl, Nat.le_of_ble_eq_true rfl⟩) hK hP hD hS hA hl.1 rfl rfl (Nat.le_of_ble_eq_true rfl) dX1_tell_78 (Nat.zero_le _) (Nat.zero_le _) (fun H locs hP hS => ?_)
    refine xr_ifeqB (tgt := 88) hx hb dX1_tell_81 (by decide) (fun c81 => ?_) (fun c81 => absurd c81 (by rw [decide_eq_true_eq]; omega))
    refine lv_iconst (v := nI 3) hx hb dX1_tell_88 (by decide) ?_
    refine va_put (D := (dC, dI)) (ci := 1) (v := .int (nI 3)) (ty := .int) (C := RX1) (T := TX1) (N := 18) hx hb htg inX1 tyX1 tyX1_ok nmX1 (fs := fsBM h z2) hown hK hP hD hS 0 rfl rfl 0 (by decide) (htg _ fX1_45) (fun _ h9 => h9) rfl (by decide +kernel) rfl rfl (Nat.le_of_ble_eq_true rfl) dX1_tell_89 (fun H locs hP hD hS => ?_)
    rw [wBM_Th] at hP hD
    refine lv_aload_n hx hb dX1_tell_92 rfl (lv_at hl 0 rfl) ?_
    refine va_get (D := (dC, dI)) (ci := 1) (v := .int (nI 3)) (C := RX1) (T := TX1) (N := 18) hx hb htg inX1 (fs := fsBM h (kuTh z2 3)) hown hK hP 0 rfl rfl 0 (by decide) (htg _ fX1_45) (fun _ h9 => h9) rfl dX1_tell_93 ?_
    refine lv_if_ne (tgt := 110) hx hb dX1_tell_96 (by decide) (fun c96 => ?_) (fun c96 => absurd c96 (by decide))
    have hfin : kuTh z2 3 = kuTh (tlSt σ t d) 3 := by rw [ez2, ez1]; rfl
    rw [hfin] at hP hD
    exact W.vret hx hb hr (fun t ht hW => ⟨⟨(), rfl, trivial, by rw [ht]; exact hP, va_K.moved hW.alike hK, hD⟩, hS.F ht⟩) hS.2.2 dX1_tell_110
  · refine lv_aload_n hx hb dX1_tell_45 rfl (lv_at hl 0 rfl) ?_
    refine va_get (D := (dC, dI)) (ci := 1) (v := .ref (h 5)) (C := RX1) (T := TX1) (N := 18) hx hb htg inX1 (fs := fsBM h (kuTh σ 0)) hown hK hP 0 rfl rfl 7 (by decide) (htg _ fX1_23) (fun _ h9 => h9) rfl dX1_tell_46 ?_
    refine lv_iload_n hx hb dX1_tell_49 rfl (lv_at hl 1 rfl) ?_
    refine xr_lald (f := kgTG σ) (i := t) hx hb hK hP 5 1 rfl rfl (by omega) (by decide) dX1_tell_50 ?_
    refine lv_lload_n hx hb dX1_tell_51 rfl (lv_at hl 2 rfl) ?_
    refine xr_lcmp_ne (tgt := 57) hx hb dX1_tell_52 dX1_tell_53 (by decide) (fun _ => ?_) (fun c => absurd c (h2 c42))
    refine lv_aload_n hx hb dX1_tell_57 rfl (lv_at hl 0 rfl) ?_
    refine lv_iconst (v := nI 0) hx hb dX1_tell_58 (by decide) ?_
    refine va_put (D := (dC, dI)) (ci := 1) (v := .int (nI 0)) (ty := .int) (C := RX1) (T := TX1) (N := 18) hx hb htg inX1 tyX1 tyX1_ok nmX1 (fs := fsBM h (kuTh σ 0)) hown hK hP hD hS 0 rfl rfl 17 (by decide) (htg _ fX1_65) (fun _ h9 => h9) rfl (by decide +kernel) rfl rfl (Nat.le_of_ble_eq_true rfl) dX1_tell_59 (fun H locs hP hD hS => ?_)
    rw [wBM_Le] at hP hD
    refine lv_aload_n hx hb dX1_tell_62 rfl (lv_at hl 0 rfl) ?_
    refine lv_iload_n hx hb dX1_tell_63 rfl (lv_at hl 1 rfl) ?_
    refine lv_i2l (v := (nI t).toInt64) hx hb dX1_tell_64 rfl ?_
    refine lv_iconst (v := nI 1) hx hb dX1_tell_65 (by decide) ?_
    refine bm_wv (As := [.long ((nI t).toInt64), .int (nI 1)]) (rest := []) (n := 2) ⟨hx, hb, hml, hown, htg⟩ (m_next l (kuLe (kuTh σ 0) 0) ((nI t).toInt64) 1 (by first | omega | (show 0 + _ ≤ 700; omega)) (by omega)) (cwV 2 htg gX1_105 rfl rfl rfl (by decide +kernel) ⟨Nat.le_of_ble_eq_true rfl, Nat.le_of_ble_eq_true rfl⟩) hK hP hD hS hA hl.1 rfl rfl (Nat.le_of_ble_eq_true rfl) dX1_tell_66 (Nat.zero_le _) (Nat.zero_le _) (fun H locs hP hD hS => ?_)
    obtain ⟨z3, ez3⟩ : ∃ zq : BM, zq = nxSt (kuLe (kuTh σ 0) 0) ((nI t).toInt64) 1 := ⟨_, rfl⟩
    rw [← ez3] at hP hD
    have hLe1 : kgLe z3 = 1 := by rw [ez3]; rfl
    have hSz1 : kgSz z3 = kgSz σ := by rw [ez3]; rfl
    have hBl1 : kgBl z3 = kgBl σ := by rw [ez3]; rfl
    refine lv_aload_n hx hb dX1_tell_69 rfl (lv_at hl 0 rfl) ?_
    refine lv_lload_n hx hb dX1_tell_70 rfl (lv_at hl 2 rfl) ?_
    refine lv_bipush (v := nI 8) hx hb dX1_tell_71 (by decide) ?_
    refine bm_wv (As := [.long d, .int (nI 8)]) (rest := []) (n := 2) ⟨hx, hb, hml, hown, htg⟩ (m_next l z3 d 8 (by first | omega | (show 0 + _ ≤ 700; omega)) (by omega)) (cwV 2 htg gX1_105 rfl rfl rfl (by decide +kernel) ⟨Nat.le_of_ble_eq_true rfl, Nat.le_of_ble_eq_true rfl⟩) hK hP hD hS hA hl.1 rfl rfl (Nat.le_of_ble_eq_true rfl) dX1_tell_73 (Nat.zero_le _) (Nat.zero_le _) (fun H locs hP hD hS => ?_)
    obtain ⟨z4, ez4⟩ : ∃ zq : BM, zq = nxSt z3 d 8 := ⟨_, rfl⟩
    rw [← ez4] at hP hD
    have hLe2 : kgLe z4 = 9 := by rw [ez4]; show kgLe z3 + 8 = 9; omega
    have hSz2 : kgSz z4 = kgSz σ := by rw [ez4]; exact hSz1
    have hBl2 : kgBl z4 = kgBl σ := by rw [ez4]; exact hBl1
    refine lv_aload_n hx hb dX1_tell_76 rfl (lv_at hl 0 rfl) ?_
    refine lv_aload_n hx hb dX1_tell_77 rfl (lv_at hl 0 rfl) ?_
    refine bm_ri (As := []) (rest := [.ref (h 0)]) (n := 0) ⟨hx, hb, hml, hown, htg⟩ (m_hasRoom l z4  (by omega) (by omega)) (cwV 0 htg gX1_109 rfl rfl rfl (by decide +kernel) ⟨Nat.le_of_ble_eq_true rfl, Nat.le_of_ble_eq_true rfl⟩) hK hP hD hS hA hl.1 rfl rfl (Nat.le_of_ble_eq_true rfl) dX1_tell_78 (Nat.zero_le _) (Nat.zero_le _) (fun H locs hP hS => ?_)
    refine xr_ifeqB (tgt := 88) hx hb dX1_tell_81 (by decide) (fun c81 => ?_) (fun c81 => absurd c81 (by rw [decide_eq_true_eq]; omega))
    refine lv_iconst (v := nI 3) hx hb dX1_tell_88 (by decide) ?_
    refine va_put (D := (dC, dI)) (ci := 1) (v := .int (nI 3)) (ty := .int) (C := RX1) (T := TX1) (N := 18) hx hb htg inX1 tyX1 tyX1_ok nmX1 (fs := fsBM h z4) hown hK hP hD hS 0 rfl rfl 0 (by decide) (htg _ fX1_45) (fun _ h9 => h9) rfl (by decide +kernel) rfl rfl (Nat.le_of_ble_eq_true rfl) dX1_tell_89 (fun H locs hP hD hS => ?_)
    rw [wBM_Th] at hP hD
    refine lv_aload_n hx hb dX1_tell_92 rfl (lv_at hl 0 rfl) ?_
    refine va_get (D := (dC, dI)) (ci := 1) (v := .int (nI 3)) (C := RX1) (T := TX1) (N := 18) hx hb htg inX1 (fs := fsBM h (kuTh z4 3)) hown hK hP 0 rfl rfl 0 (by decide) (htg _ fX1_45) (fun _ h9 => h9) rfl dX1_tell_93 ?_
    refine lv_if_ne (tgt := 110) hx hb dX1_tell_96 (by decide) (fun c96 => ?_) (fun c96 => absurd c96 (by decide))
    have hfin : kuTh z4 3 = kuTh (tlSt σ t d) 3 := by rw [ez4, ez3]; rfl
    rw [hfin] at hP hD
    exact W.vret hx hb hr (fun t ht hW => ⟨⟨(), rfl, trivial, by rw [ht]; exact hP, va_K.moved hW.alike hK, hD⟩, hS.F ht⟩) hS.2.2 dX1_tell_110
set_option maxRecDepth 100000 in
set_option maxHeartbeats 4000000 in
theorem m_tellN (l : Launch) (σ : BM) (t : Nat) (d : Int64) (b : Nat) (ht : t < 8) (hc : kgBl σ ≤ 20) (hf : fnd (kgDG σ) d (kgBl σ) = some b) (h2 : kgTE σ t = true → ¬ kgTG σ t = d) (hs : kgSz σ ≤ 700) (h3 : kgSz σ + 13 ≤ 700) (hrc : byt (kgRC σ) 700) : wMv l yX1_tell wsX1_tell ({ frames := 4, cells := 0, slots := 0, locals := 95 } : Room) σ [.int (nI t), .long d] (ofM (sTell (wrM (kuTh (tlSt σ t d) 0) (nI 2))) (wrM (kuTh (tlSt σ t d) 0) (nI 2))) := by
  intro dC dI cI cJ cZ h sz
  refine Met.ofW (cc := cX1_tell) (maxL := 4) (ret := none) (by decide) rfl ?_
  intro p e s m args below meth c s₁ B hml hv
  obtain ⟨rfl, hsz, hP, hK, hD0⟩ := hv
  have hx := B.exec
  have hb := B.bytes
  have hr := B.returns
  have hts := atoms_spec (ws := wsX1_tell) B.pre
  have hown : s.vm.findClass RX1 = some m.cls := findClass_of_methodNamed B.named
  have hlocks := B.notSynchronized
  subst hsz
  have htg : ∀ w ∈ GW, w.before _ s = true := fun w h => hts w (List.mem_cons_of_mem _ h)
  have hD := hD0.self (sz := s.heap.size)
  generalize hAe : va_A (wBM cI cJ cZ h σ) s.heap.size = A at hD ⊢
  have hA : ∀ q : Nat, s.heap.size ≤ q → A q := fun q h => by rw [← hAe]; exact Or.inr h
  have hS : va_S A s.heap s.heap [] := va_S.rf
  have hl := lv_entry [.ref (h 0), .int (nI t), .long d] (n := 4) (Nat.le_of_ble_eq_true rfl)
  rw [lg_entry_eq]
  generalize (lg_sl [.ref (h 0), .int (nI t), .long d] ++ List.replicate (4 - (lg_sl [.ref (h 0), .int (nI t), .long d]).length) Slot.unset).toArray = ls at hl ⊢
  have hl : lv_has ls 4 [(0, .ref (h 0)), (1, .int (nI t)), (2, .long d)] := hl
  have hP : va_P (dC, dI) vwCl (wBM cI cJ cZ h σ) s.heap := hP
  refine lv_aload_n hx hb dX1_tell_0 rfl (lv_at hl 0 rfl) ?_
  refine lv_iload_n hx hb dX1_tell_1 rfl (lv_at hl 1 rfl) ?_
  refine xr_roi (va_runS (As := [.int (nI t)]) (rest := [.ref (h 0)]) ⟨hx, hb, hml, hown, htg⟩ (m_isTag l (nI t) _) (va_cwS 1 htg gX1_120 rfl rfl rfl (by decide +kernel) ⟨Nat.le_of_ble_eq_true rfl, Nat.le_of_ble_eq_true rfl⟩) ⟨fun a U g mk q => q, fun U hU hW => ⟨rfl, congrArg Array.size hU⟩⟩ rfl rfl hl.1 rfl (lv_room (Nat.le_of_ble_eq_true rfl)) dX1_tell_2 ⟨Nat.zero_le _, Nat.zero_le _⟩) hP hS hA (fun H locs hP hS _ => ?_)
  rw [show isTg (nI t) = true by rw [isTg_nI (by omega)]; exact decide_eq_true ht]
  refine xr_ifneB (tgt := 12) hx hb dX1_tell_5 (by decide) (fun _ => ?_) (fun c => absurd c (by decide))
  refine lv_aload_n hx hb dX1_tell_12 rfl (lv_at hl 0 rfl) ?_
  refine lv_lload_n hx hb dX1_tell_13 rfl (lv_at hl 2 rfl) ?_
  refine bm_ri (As := [.long d]) (rest := [.ref (h 0)]) (n := 1) ⟨hx, hb, hml, hown, htg⟩ (m_blobOf l σ d (hc)) (cwV 1 htg gX1_91 rfl rfl rfl (by decide +kernel) ⟨Nat.le_of_ble_eq_true rfl, Nat.le_of_ble_eq_true rfl⟩) hK hP hD hS hA hl.1 rfl rfl (Nat.le_of_ble_eq_true rfl) dX1_tell_14 (Nat.zero_le _) (Nat.zero_le _) (fun H locs hP hS => ?_)
  have hlt := (fnd_lt hf).1
  rw [hf]
  refine W.eq (g2 := F0 m 17 ls [.int (nI b), .ref (h 0)]) rfl ?_
  refine lv_iconst (v := -1) hx hb dX1_tell_17 (by decide) ?_
  refine lv_icmp_ne (tgt := 25) hx hb dX1_tell_18 (by decide) (fun _ => ?_) (fun c => absurd c (optI_none (by omega)))
  refine lv_iconst (v := nI 0) hx hb dX1_tell_25 (by decide) ?_
  refine va_put (D := (dC, dI)) (ci := 1) (v := .int (nI 0)) (ty := .int) (C := RX1) (T := TX1) (N := 18) hx hb htg inX1 tyX1 tyX1_ok nmX1 (fs := fsBM h σ) hown hK hP hD hS 0 rfl rfl 0 (by decide) (htg _ fX1_45) (fun _ h9 => h9) rfl (by decide +kernel) rfl rfl (Nat.le_of_ble_eq_true rfl) dX1_tell_26 (fun H locs hP hD hS => ?_)
  rw [wBM_Th] at hP hD
  refine lv_aload_n hx hb dX1_tell_29 rfl (lv_at hl 0 rfl) ?_
  refine va_get (D := (dC, dI)) (ci := 1) (v := .int (nI 0)) (C := RX1) (T := TX1) (N := 18) hx hb htg inX1 (fs := fsBM h (kuTh σ 0)) hown hK hP 0 rfl rfl 0 (by decide) (htg _ fX1_45) (fun _ h9 => h9) rfl dX1_tell_30 ?_
  refine lv_if_gt (tgt := 56) hx hb dX1_tell_33 (by decide) (fun c33 => absurd c33 (by decide)) (fun c33 => ?_)
  refine lv_aload_n hx hb dX1_tell_36 rfl (lv_at hl 0 rfl) ?_
  refine va_get (D := (dC, dI)) (ci := 1) (v := .ref (h 6)) (C := RX1) (T := TX1) (N := 18) hx hb htg inX1 (fs := fsBM h (kuTh σ 0)) hown hK hP 0 rfl rfl 8 (by decide) (htg _ fX1_26) (fun _ h9 => h9) rfl dX1_tell_37 ?_
  refine lv_iload_n hx hb dX1_tell_40 rfl (lv_at hl 1 rfl) ?_
  refine xr_zald (f := fun j => bI ((kgTE σ) j)) (i := t) hx hb hK hP 6 2 rfl rfl (by omega) (by decide) dX1_tell_41 ?_
  refine xr_ifeqB (tgt := 57) hx hb dX1_tell_42 (by decide) (fun c42 => ?_) (fun c42 => ?_)
  · refine lv_aload_n hx hb dX1_tell_57 rfl (lv_at hl 0 rfl) ?_
    refine lv_iconst (v := nI 0) hx hb dX1_tell_58 (by decide) ?_
    refine va_put (D := (dC, dI)) (ci := 1) (v := .int (nI 0)) (ty := .int) (C := RX1) (T := TX1) (N := 18) hx hb htg inX1 tyX1 tyX1_ok nmX1 (fs := fsBM h (kuTh σ 0)) hown hK hP hD hS 0 rfl rfl 17 (by decide) (htg _ fX1_65) (fun _ h9 => h9) rfl (by decide +kernel) rfl rfl (Nat.le_of_ble_eq_true rfl) dX1_tell_59 (fun H locs hP hD hS => ?_)
    rw [wBM_Le] at hP hD
    refine lv_aload_n hx hb dX1_tell_62 rfl (lv_at hl 0 rfl) ?_
    refine lv_iload_n hx hb dX1_tell_63 rfl (lv_at hl 1 rfl) ?_
    refine lv_i2l (v := (nI t).toInt64) hx hb dX1_tell_64 rfl ?_
    refine lv_iconst (v := nI 1) hx hb dX1_tell_65 (by decide) ?_
    refine bm_wv (As := [.long ((nI t).toInt64), .int (nI 1)]) (rest := []) (n := 2) ⟨hx, hb, hml, hown, htg⟩ (m_next l (kuLe (kuTh σ 0) 0) ((nI t).toInt64) 1 (by first | omega | (show 0 + _ ≤ 700; omega)) (by omega)) (cwV 2 htg gX1_105 rfl rfl rfl (by decide +kernel) ⟨Nat.le_of_ble_eq_true rfl, Nat.le_of_ble_eq_true rfl⟩) hK hP hD hS hA hl.1 rfl rfl (Nat.le_of_ble_eq_true rfl) dX1_tell_66 (Nat.zero_le _) (Nat.zero_le _) (fun H locs hP hD hS => ?_)
    obtain ⟨z1, ez1⟩ : ∃ zq : BM, zq = nxSt (kuLe (kuTh σ 0) 0) ((nI t).toInt64) 1 := ⟨_, rfl⟩
    rw [← ez1] at hP hD
    have hLe1 : kgLe z1 = 1 := by rw [ez1]; rfl
    have hSz1 : kgSz z1 = kgSz σ := by rw [ez1]; rfl
    have hBl1 : kgBl z1 = kgBl σ := by rw [ez1]; rfl
    refine lv_aload_n hx hb dX1_tell_69 rfl (lv_at hl 0 rfl) ?_
    refine lv_lload_n hx hb dX1_tell_70 rfl (lv_at hl 2 rfl) ?_
    refine lv_bipush (v := nI 8) hx hb dX1_tell_71 (by decide) ?_
    refine bm_wv (As := [.long d, .int (nI 8)]) (rest := []) (n := 2) ⟨hx, hb, hml, hown, htg⟩ (m_next l z1 d 8 (by first | omega | (show 0 + _ ≤ 700; omega)) (by omega)) (cwV 2 htg gX1_105 rfl rfl rfl (by decide +kernel) ⟨Nat.le_of_ble_eq_true rfl, Nat.le_of_ble_eq_true rfl⟩) hK hP hD hS hA hl.1 rfl rfl (Nat.le_of_ble_eq_true rfl) dX1_tell_73 (Nat.zero_le _) (Nat.zero_le _) (fun H locs hP hD hS => ?_)
    obtain ⟨z2, ez2⟩ : ∃ zq : BM, zq = nxSt z1 d 8 := ⟨_, rfl⟩
    rw [← ez2] at hP hD
    have hLe2 : kgLe z2 = 9 := by rw [ez2]; show kgLe z1 + 8 = 9; omega
    have hSz2 : kgSz z2 = kgSz σ := by rw [ez2]; exact hSz1
    have hBl2 : kgBl z2 = kgBl σ := by rw [ez2]; exact hBl1
    refine lv_aload_n hx hb dX1_tell_76 rfl (lv_at hl 0 rfl) ?_
    refine lv_aload_n hx hb dX1_tell_77 rfl (lv_at hl 0 rfl) ?_
    refine bm_ri (As := []) (rest := [.ref (h 0)]) (n := 0) ⟨hx, hb, hml, hown, htg⟩ (m_hasRoom l z2  (by omega) (by omega)) (cwV 0 htg gX1_109 rfl rfl rfl (by decide +kernel) ⟨Nat.le_of_ble_eq_true rfl, Nat.le_of_ble_eq_true rfl⟩) hK hP hD hS hA hl.1 rfl rfl (Nat.le_of_ble_eq_true rfl) dX1_tell_78 (Nat.zero_le _) (Nat.zero_le _) (fun H locs hP hS => ?_)
    refine xr_ifeqB (tgt := 88) hx hb dX1_tell_81 (by decide) (fun c81 => absurd c81 (by rw [decide_eq_true (by omega)]; decide)) (fun c81 => ?_)
    refine lv_iconst (v := nI 0) hx hb dX1_tell_84 (by decide) ?_
    refine lv_goto (tgt := 89) hx hb dX1_tell_85 (by decide) ?_
    refine va_put (D := (dC, dI)) (ci := 1) (v := .int (nI 0)) (ty := .int) (C := RX1) (T := TX1) (N := 18) hx hb htg inX1 tyX1 tyX1_ok nmX1 (fs := fsBM h z2) hown hK hP hD hS 0 rfl rfl 0 (by decide) (htg _ fX1_45) (fun _ h9 => h9) rfl (by decide +kernel) rfl rfl (Nat.le_of_ble_eq_true rfl) dX1_tell_89 (fun H locs hP hD hS => ?_)
    rw [wBM_Th] at hP hD
    refine lv_aload_n hx hb dX1_tell_92 rfl (lv_at hl 0 rfl) ?_
    refine va_get (D := (dC, dI)) (ci := 1) (v := .int (nI 0)) (C := RX1) (T := TX1) (N := 18) hx hb htg inX1 (fs := fsBM h (kuTh z2 0)) hown hK hP 0 rfl rfl 0 (by decide) (htg _ fX1_45) (fun _ h9 => h9) rfl dX1_tell_93 ?_
    refine lv_if_ne (tgt := 110) hx hb dX1_tell_96 (by decide) (fun c96 => absurd c96 (by decide)) (fun c96 => ?_)
    refine lv_aload_n hx hb dX1_tell_99 rfl (lv_at hl 0 rfl) ?_
    refine lv_iconst (v := nI 2) hx hb dX1_tell_100 (by decide) ?_
    refine bm_wv (As := [.int (nI 2)]) (rest := []) (n := 1) ⟨hx, hb, hml, hown, htg⟩ (m_write l (kuTh z2 0) (nI 2) (by show kgSz z2 + kgLe z2 + 4 ≤ 700; omega)) (cwV 1 htg gX1_112 rfl rfl rfl (by decide +kernel) ⟨Nat.le_of_ble_eq_true rfl, Nat.le_of_ble_eq_true rfl⟩) hK hP hD hS hA hl.1 rfl rfl (Nat.le_of_ble_eq_true rfl) dX1_tell_101 (Nat.zero_le _) (Nat.zero_le _) (fun H locs hP hD hS => ?_)
    obtain ⟨z3, ez3⟩ : ∃ zq : BM, zq = wrM (kuTh z2 0) (nI 2) := ⟨_, rfl⟩
    rw [← ez3] at hP hD
    have hLe9 : kgLe z3 = kgLe z2 := by rw [ez3]; rfl
    have hBl9 : kgBl z3 = kgBl z2 := by rw [ez3]; rfl
    have hKn9 : kgKn z3 = kgKn z2 := by rw [ez3]; rfl
    have hRC9 : byt (kgRC z3) 700 := by rw [ez3]; show byt (kgRC z2) 700; rw [ez2, ez1]; exact nx_byt (by omega) (nx_byt (by omega) hrc)
    refine lv_aload_n hx hb dX1_tell_104 rfl (lv_at hl 0 rfl) ?_
    refine lv_iconst (v := nI 2) hx hb dX1_tell_105 (by decide) ?_
    refine bm_wi (As := [.int (nI 2)]) (rest := []) (n := 1) ⟨hx, hb, hml, hown, htg⟩ (m_says2 l z3  (hRC9) (by omega) (by omega)) (cwV 1 htg gX1_116 rfl rfl rfl (by decide +kernel) ⟨Nat.le_of_ble_eq_true rfl, Nat.le_of_ble_eq_true rfl⟩) hK hP hD hS hA hl.1 rfl rfl (Nat.le_of_ble_eq_true rfl) dX1_tell_106 (Nat.zero_le _) (Nat.zero_le _) (fun H locs hP hD hS => ?_)
    obtain ⟨z4, ez4⟩ : ∃ zq : BM, zq = ofM (sTell z3) z3 := ⟨_, rfl⟩
    rw [← ez4] at hP hD
    refine lv_pop hx hb dX1_tell_109 rfl ?_
    have hfin : z4 = ofM (sTell (wrM (kuTh (tlSt σ t d) 0) (nI 2))) (wrM (kuTh (tlSt σ t d) 0) (nI 2)) := by rw [ez4, ez3, ez2, ez1]; rfl
    rw [hfin] at hP hD
    exact W.vret hx hb hr (fun t ht hW => ⟨⟨(), rfl, trivial, by rw [ht]; exact hP, va_K.moved hW.alike hK, hD⟩, hS.F ht⟩) hS.2.2 dX1_tell_110
  · refine lv_aload_n hx hb dX1_tell_45 rfl (lv_at hl 0 rfl) ?_
    refine va_get (D := (dC, dI)) (ci := 1) (v := .ref (h 5)) (C := RX1) (T := TX1) (N := 18) hx hb htg inX1 (fs := fsBM h (kuTh σ 0)) hown hK hP 0 rfl rfl 7 (by decide) (htg _ fX1_23) (fun _ h9 => h9) rfl dX1_tell_46 ?_
    refine lv_iload_n hx hb dX1_tell_49 rfl (lv_at hl 1 rfl) ?_
    refine xr_lald (f := kgTG σ) (i := t) hx hb hK hP 5 1 rfl rfl (by omega) (by decide) dX1_tell_50 ?_
    refine lv_lload_n hx hb dX1_tell_51 rfl (lv_at hl 2 rfl) ?_
    refine xr_lcmp_ne (tgt := 57) hx hb dX1_tell_52 dX1_tell_53 (by decide) (fun _ => ?_) (fun c => absurd c (h2 c42))
    refine lv_aload_n hx hb dX1_tell_57 rfl (lv_at hl 0 rfl) ?_
    refine lv_iconst (v := nI 0) hx hb dX1_tell_58 (by decide) ?_
    refine va_put (D := (dC, dI)) (ci := 1) (v := .int (nI 0)) (ty := .int) (C := RX1) (T := TX1) (N := 18) hx hb htg inX1 tyX1 tyX1_ok nmX1 (fs := fsBM h (kuTh σ 0)) hown hK hP hD hS 0 rfl rfl 17 (by decide) (htg _ fX1_65) (fun _ h9 => h9) rfl (by decide +kernel) rfl rfl (Nat.le_of_ble_eq_true rfl) dX1_tell_59 (fun H locs hP hD hS => ?_)
    rw [wBM_Le] at hP hD
    refine lv_aload_n hx hb dX1_tell_62 rfl (lv_at hl 0 rfl) ?_
    refine lv_iload_n hx hb dX1_tell_63 rfl (lv_at hl 1 rfl) ?_
    refine lv_i2l (v := (nI t).toInt64) hx hb dX1_tell_64 rfl ?_
    refine lv_iconst (v := nI 1) hx hb dX1_tell_65 (by decide) ?_
    refine bm_wv (As := [.long ((nI t).toInt64), .int (nI 1)]) (rest := []) (n := 2) ⟨hx, hb, hml, hown, htg⟩ (m_next l (kuLe (kuTh σ 0) 0) ((nI t).toInt64) 1 (by first | omega | (show 0 + _ ≤ 700; omega)) (by omega)) (cwV 2 htg gX1_105 rfl rfl rfl (by decide +kernel) ⟨Nat.le_of_ble_eq_true rfl, Nat.le_of_ble_eq_true rfl⟩) hK hP hD hS hA hl.1 rfl rfl (Nat.le_of_ble_eq_true rfl) dX1_tell_66 (Nat.zero_le _) (Nat.zero_le _) (fun H locs hP hD hS => ?_)
    obtain ⟨z5, ez5⟩ : ∃ zq : BM, zq = nxSt (kuLe (kuTh σ 0) 0) ((nI t).toInt64) 1 := ⟨_, rfl⟩
    rw [← ez5] at hP hD
    have hLe1 : kgLe z5 = 1 := by rw [ez5]; rfl
    have hSz1 : kgSz z5 = kgSz σ := by rw [ez5]; rfl
    have hBl1 : kgBl z5 = kgBl σ := by rw [ez5]; rfl
    refine lv_aload_n hx hb dX1_tell_69 rfl (lv_at hl 0 rfl) ?_
    refine lv_lload_n hx hb dX1_tell_70 rfl (lv_at hl 2 rfl) ?_
    refine lv_bipush (v := nI 8) hx hb dX1_tell_71 (by decide) ?_
    refine bm_wv (As := [.long d, .int (nI 8)]) (rest := []) (n := 2) ⟨hx, hb, hml, hown, htg⟩ (m_next l z5 d 8 (by first | omega | (show 0 + _ ≤ 700; omega)) (by omega)) (cwV 2 htg gX1_105 rfl rfl rfl (by decide +kernel) ⟨Nat.le_of_ble_eq_true rfl, Nat.le_of_ble_eq_true rfl⟩) hK hP hD hS hA hl.1 rfl rfl (Nat.le_of_ble_eq_true rfl) dX1_tell_73 (Nat.zero_le _) (Nat.zero_le _) (fun H locs hP hD hS => ?_)
    obtain ⟨z6, ez6⟩ : ∃ zq : BM, zq = nxSt z5 d 8 := ⟨_, rfl⟩
    rw [← ez6] at hP hD
    have hLe2 : kgLe z6 = 9 := by rw [ez6]; show kgLe z5 + 8 = 9; omega
    have hSz2 : kgSz z6 = kgSz σ := by rw [ez6]; exact hSz1
    have hBl2 : kgBl z6 = kgBl σ := by rw [ez6]; exact hBl1
    refine lv_aload_n hx hb dX1_tell_76 rfl (lv_at hl 0 rfl) ?_
    refine lv_aload_n hx hb dX1_tell_77 rfl (lv_at hl 0 rfl) ?_
    refine bm_ri (As := []) (rest := [.ref (h 0)]) (n := 0) ⟨hx, hb, hml, hown, htg⟩ (m_hasRoom l z6  (by omega) (by omega)) (cwV 0 htg gX1_109 rfl rfl rfl (by decide +kernel) ⟨Nat.le_of_ble_eq_true rfl, Nat.le_of_ble_eq_true rfl⟩) hK hP hD hS hA hl.1 rfl rfl (Nat.le_of_ble_eq_true rfl) dX1_tell_78 (Nat.zero_le _) (Nat.zero_le _) (fun H locs hP hS => ?_)
    refine xr_ifeqB (tgt := 88) hx hb dX1_tell_81 (by decide) (fun c81 => absurd c81 (by rw [decide_eq_true (by omega)]; decide)) (fun c81 => ?_)
    refine lv_iconst (v := nI 0) hx hb dX1_tell_84 (by decide) ?_
    refine lv_goto (tgt := 89) hx hb dX1_tell_85 (by decide) ?_
    refine va_put (D := (dC, dI)) (ci := 1) (v := .int (nI 0)) (ty := .int) (C := RX1) (T := TX1) (N := 18) hx hb htg inX1 tyX1 tyX1_ok nmX1 (fs := fsBM h z6) hown hK hP hD hS 0 rfl rfl 0 (by decide) (htg _ fX1_45) (fun _ h9 => h9) rfl (by decide +kernel) rfl rfl (Nat.le_of_ble_eq_true rfl) dX1_tell_89 (fun H locs hP hD hS => ?_)
    rw [wBM_Th] at hP hD
    refine lv_aload_n hx hb dX1_tell_92 rfl (lv_at hl 0 rfl) ?_
    refine va_get (D := (dC, dI)) (ci := 1) (v := .int (nI 0)) (C := RX1) (T := TX1) (N := 18) hx hb htg inX1 (fs := fsBM h (kuTh z6 0)) hown hK hP 0 rfl rfl 0 (by decide) (htg _ fX1_45) (fun _ h9 => h9) rfl dX1_tell_93 ?_
    refine lv_if_ne (tgt := 110) hx hb dX1_tell_96 (by decide) (fun c96 => absurd c96 (by decide)) (fun c96 => ?_)
    refine lv_aload_n hx hb dX1_tell_99 rfl (lv_at hl 0 rfl) ?_
    refine lv_iconst (v := nI 2) hx hb dX1_tell_100 (by decide) ?_
    refine bm_wv (As := [.int (nI 2)]) (rest := []) (n := 1) ⟨hx, hb, hml, hown, htg⟩ (m_write l (kuTh z6 0) (nI 2) (by show kgSz z6 + kgLe z6 + 4 ≤ 700; omega)) (cwV 1 htg gX1_112 rfl rfl rfl (by decide +kernel) ⟨Nat.le_of_ble_eq_true rfl, Nat.le_of_ble_eq_true rfl⟩) hK hP hD hS hA hl.1 rfl rfl (Nat.le_of_ble_eq_true rfl) dX1_tell_101 (Nat.zero_le _) (Nat.zero_le _) (fun H locs hP hD hS => ?_)
    obtain ⟨z7, ez7⟩ : ∃ zq : BM, zq = wrM (kuTh z6 0) (nI 2) := ⟨_, rfl⟩
    rw [← ez7] at hP hD
    have hLe9 : kgLe z7 = kgLe z6 := by rw [ez7]; rfl
    have hBl9 : kgBl z7 = kgBl z6 := by rw [ez7]; rfl
    have hKn9 : kgKn z7 = kgKn z6 := by rw [ez7]; rfl
    have hRC9 : byt (kgRC z7) 700 := by rw [ez7]; show byt (kgRC z6) 700; rw [ez6, ez5]; exact nx_byt (by omega) (nx_byt (by omega) hrc)
    refine lv_aload_n hx hb dX1_tell_104 rfl (lv_at hl 0 rfl) ?_
    refine lv_iconst (v := nI 2) hx hb dX1_tell_105 (by decide) ?_
    refine bm_wi (As := [.int (nI 2)]) (rest := []) (n := 1) ⟨hx, hb, hml, hown, htg⟩ (m_says2 l z7  (hRC9) (by omega) (by omega)) (cwV 1 htg gX1_116 rfl rfl rfl (by decide +kernel) ⟨Nat.le_of_ble_eq_true rfl, Nat.le_of_ble_eq_true rfl⟩) hK hP hD hS hA hl.1 rfl rfl (Nat.le_of_ble_eq_true rfl) dX1_tell_106 (Nat.zero_le _) (Nat.zero_le _) (fun H locs hP hD hS => ?_)
    obtain ⟨z8, ez8⟩ : ∃ zq : BM, zq = ofM (sTell z7) z7 := ⟨_, rfl⟩
    rw [← ez8] at hP hD
    refine lv_pop hx hb dX1_tell_109 rfl ?_
    have hfin : z8 = ofM (sTell (wrM (kuTh (tlSt σ t d) 0) (nI 2))) (wrM (kuTh (tlSt σ t d) 0) (nI 2)) := by rw [ez8, ez7, ez6, ez5]; rfl
    rw [hfin] at hP hD
    exact W.vret hx hb hr (fun t ht hW => ⟨⟨(), rfl, trivial, by rw [ht]; exact hP, va_K.moved hW.alike hK, hD⟩, hS.F ht⟩) hS.2.2 dX1_tell_110
set_option maxRecDepth 100000 in
set_option maxHeartbeats 4000000 in
theorem m_untellT1 (l : Launch) (σ : BM) (t : Int32) (ht : isTg t = false) : wMv l yX1_untell wsX1_untell ({ frames := 4, cells := 0, slots := 0, locals := 95 } : Room) σ [.int t] (kuTh σ 1) := by
  intro dC dI cI cJ cZ h sz
  refine Met.ofW (cc := cX1_untell) (maxL := 2) (ret := none) (by decide) rfl ?_
  intro p e s m args below meth c s₁ B hml hv
  obtain ⟨rfl, hsz, hP, hK, hD0⟩ := hv
  have hx := B.exec
  have hb := B.bytes
  have hr := B.returns
  have hts := atoms_spec (ws := wsX1_untell) B.pre
  have hown : s.vm.findClass RX1 = some m.cls := findClass_of_methodNamed B.named
  have hlocks := B.notSynchronized
  subst hsz
  have htg : ∀ w ∈ GW, w.before _ s = true := fun w h => hts w (List.mem_cons_of_mem _ h)
  have hD := hD0.self (sz := s.heap.size)
  generalize hAe : va_A (wBM cI cJ cZ h σ) s.heap.size = A at hD ⊢
  have hA : ∀ q : Nat, s.heap.size ≤ q → A q := fun q h => by rw [← hAe]; exact Or.inr h
  have hS : va_S A s.heap s.heap [] := va_S.rf
  have hl := lv_entry [.ref (h 0), .int t] (n := 2) (Nat.le_of_ble_eq_true rfl)
  rw [lg_entry_eq]
  generalize (lg_sl [.ref (h 0), .int t] ++ List.replicate (2 - (lg_sl [.ref (h 0), .int t]).length) Slot.unset).toArray = ls at hl ⊢
  have hl : lv_has ls 2 [(0, .ref (h 0)), (1, .int t)] := hl
  have hP : va_P (dC, dI) vwCl (wBM cI cJ cZ h σ) s.heap := hP
  refine lv_aload_n hx hb dX1_untell_0 rfl (lv_at hl 0 rfl) ?_
  refine lv_iload_n hx hb dX1_untell_1 rfl (lv_at hl 1 rfl) ?_
  refine xr_roi (va_runS (As := [.int t]) (rest := [.ref (h 0)]) ⟨hx, hb, hml, hown, htg⟩ (m_isTag l t _) (va_cwS 1 htg gX1_120 rfl rfl rfl (by decide +kernel) ⟨Nat.le_of_ble_eq_true rfl, Nat.le_of_ble_eq_true rfl⟩) ⟨fun a U g mk q => q, fun U hU hW => ⟨rfl, congrArg Array.size hU⟩⟩ rfl rfl hl.1 rfl (lv_room (Nat.le_of_ble_eq_true rfl)) dX1_untell_2 ⟨Nat.zero_le _, Nat.zero_le _⟩) hP hS hA (fun H locs hP hS _ => ?_)
  rw [ht]
  refine xr_ifneB (tgt := 12) hx hb dX1_untell_5 (by decide) (fun c => absurd c (by decide)) (fun _ => ?_)
  refine lv_iconst (v := nI 1) hx hb dX1_untell_8 (by decide) ?_
  refine lv_goto (tgt := 26) hx hb dX1_untell_9 (by decide) ?_
  refine va_put (D := (dC, dI)) (ci := 1) (v := .int (nI 1)) (ty := .int) (C := RX1) (T := TX1) (N := 18) hx hb htg inX1 tyX1 tyX1_ok nmX1 (fs := fsBM h σ) hown hK hP hD hS 0 rfl rfl 0 (by decide) (htg _ fX1_45) (fun _ h9 => h9) rfl (by decide +kernel) rfl rfl (Nat.le_of_ble_eq_true rfl) dX1_untell_26 (fun H locs hP hD hS => ?_)
  rw [wBM_Th] at hP hD
  refine lv_aload_n hx hb dX1_untell_29 rfl (lv_at hl 0 rfl) ?_
  refine va_get (D := (dC, dI)) (ci := 1) (v := .int (nI 1)) (C := RX1) (T := TX1) (N := 18) hx hb htg inX1 (fs := fsBM h (kuTh σ 1)) hown hK hP 0 rfl rfl 0 (by decide) (htg _ fX1_45) (fun _ h9 => h9) rfl dX1_untell_30 ?_
  refine lv_if_le (tgt := 37) hx hb dX1_untell_33 (by decide) (fun c33 => absurd c33 (by decide)) (fun c33 => ?_)
  have hfin : kuTh σ 1 = kuTh σ 1 := rfl
  rw [hfin] at hP hD
  exact W.vret hx hb hr (fun t ht hW => ⟨⟨(), rfl, trivial, by rw [ht]; exact hP, va_K.moved hW.alike hK, hD⟩, hS.F ht⟩) hS.2.2 dX1_untell_36
set_option maxRecDepth 100000 in
set_option maxHeartbeats 4000000 in
theorem m_untellT2 (l : Launch) (σ : BM) (t : Nat) (ht : t < 8) (h1 : kgTE σ t = false) : wMv l yX1_untell wsX1_untell ({ frames := 4, cells := 0, slots := 0, locals := 95 } : Room) σ [.int (nI t)] (kuTh σ 2) := by
  intro dC dI cI cJ cZ h sz
  refine Met.ofW (cc := cX1_untell) (maxL := 2) (ret := none) (by decide) rfl ?_
  intro p e s m args below meth c s₁ B hml hv
  obtain ⟨rfl, hsz, hP, hK, hD0⟩ := hv
  have hx := B.exec
  have hb := B.bytes
  have hr := B.returns
  have hts := atoms_spec (ws := wsX1_untell) B.pre
  have hown : s.vm.findClass RX1 = some m.cls := findClass_of_methodNamed B.named
  have hlocks := B.notSynchronized
  subst hsz
  have htg : ∀ w ∈ GW, w.before _ s = true := fun w h => hts w (List.mem_cons_of_mem _ h)
  have hD := hD0.self (sz := s.heap.size)
  generalize hAe : va_A (wBM cI cJ cZ h σ) s.heap.size = A at hD ⊢
  have hA : ∀ q : Nat, s.heap.size ≤ q → A q := fun q h => by rw [← hAe]; exact Or.inr h
  have hS : va_S A s.heap s.heap [] := va_S.rf
  have hl := lv_entry [.ref (h 0), .int (nI t)] (n := 2) (Nat.le_of_ble_eq_true rfl)
  rw [lg_entry_eq]
  generalize (lg_sl [.ref (h 0), .int (nI t)] ++ List.replicate (2 - (lg_sl [.ref (h 0), .int (nI t)]).length) Slot.unset).toArray = ls at hl ⊢
  have hl : lv_has ls 2 [(0, .ref (h 0)), (1, .int (nI t))] := hl
  have hP : va_P (dC, dI) vwCl (wBM cI cJ cZ h σ) s.heap := hP
  refine lv_aload_n hx hb dX1_untell_0 rfl (lv_at hl 0 rfl) ?_
  refine lv_iload_n hx hb dX1_untell_1 rfl (lv_at hl 1 rfl) ?_
  refine xr_roi (va_runS (As := [.int (nI t)]) (rest := [.ref (h 0)]) ⟨hx, hb, hml, hown, htg⟩ (m_isTag l (nI t) _) (va_cwS 1 htg gX1_120 rfl rfl rfl (by decide +kernel) ⟨Nat.le_of_ble_eq_true rfl, Nat.le_of_ble_eq_true rfl⟩) ⟨fun a U g mk q => q, fun U hU hW => ⟨rfl, congrArg Array.size hU⟩⟩ rfl rfl hl.1 rfl (lv_room (Nat.le_of_ble_eq_true rfl)) dX1_untell_2 ⟨Nat.zero_le _, Nat.zero_le _⟩) hP hS hA (fun H locs hP hS _ => ?_)
  rw [show isTg (nI t) = true by rw [isTg_nI (by omega)]; exact decide_eq_true ht]
  refine xr_ifneB (tgt := 12) hx hb dX1_untell_5 (by decide) (fun _ => ?_) (fun c => absurd c (by decide))
  refine lv_aload_n hx hb dX1_untell_12 rfl (lv_at hl 0 rfl) ?_
  refine va_get (D := (dC, dI)) (ci := 1) (v := .ref (h 6)) (C := RX1) (T := TX1) (N := 18) hx hb htg inX1 (fs := fsBM h σ) hown hK hP 0 rfl rfl 8 (by decide) (htg _ fX1_26) (fun _ h9 => h9) rfl dX1_untell_13 ?_
  refine lv_iload_n hx hb dX1_untell_16 rfl (lv_at hl 1 rfl) ?_
  refine xr_zald (f := fun j => bI ((kgTE σ) j)) (i := t) hx hb hK hP 6 2 rfl rfl (by omega) (by decide) dX1_untell_17 ?_
  refine xr_ifneB (tgt := 25) hx hb dX1_untell_18 (by decide) (fun c18 => absurd c18 (by rw [h1]; decide)) (fun c18 => ?_)
  refine lv_iconst (v := nI 2) hx hb dX1_untell_21 (by decide) ?_
  refine lv_goto (tgt := 26) hx hb dX1_untell_22 (by decide) ?_
  refine va_put (D := (dC, dI)) (ci := 1) (v := .int (nI 2)) (ty := .int) (C := RX1) (T := TX1) (N := 18) hx hb htg inX1 tyX1 tyX1_ok nmX1 (fs := fsBM h σ) hown hK hP hD hS 0 rfl rfl 0 (by decide) (htg _ fX1_45) (fun _ h9 => h9) rfl (by decide +kernel) rfl rfl (Nat.le_of_ble_eq_true rfl) dX1_untell_26 (fun H locs hP hD hS => ?_)
  rw [wBM_Th] at hP hD
  refine lv_aload_n hx hb dX1_untell_29 rfl (lv_at hl 0 rfl) ?_
  refine va_get (D := (dC, dI)) (ci := 1) (v := .int (nI 2)) (C := RX1) (T := TX1) (N := 18) hx hb htg inX1 (fs := fsBM h (kuTh σ 2)) hown hK hP 0 rfl rfl 0 (by decide) (htg _ fX1_45) (fun _ h9 => h9) rfl dX1_untell_30 ?_
  refine lv_if_le (tgt := 37) hx hb dX1_untell_33 (by decide) (fun c33 => absurd c33 (by decide)) (fun c33 => ?_)
  have hfin : kuTh σ 2 = kuTh σ 2 := rfl
  rw [hfin] at hP hD
  exact W.vret hx hb hr (fun t ht hW => ⟨⟨(), rfl, trivial, by rw [ht]; exact hP, va_K.moved hW.alike hK, hD⟩, hS.F ht⟩) hS.2.2 dX1_untell_36
set_option maxRecDepth 100000 in
set_option maxHeartbeats 4000000 in
theorem m_untellT3 (l : Launch) (σ : BM) (t : Nat) (ht : t < 8) (hc : kgBl σ ≤ 20) (h1 : kgTE σ t = true) (hs : kgSz σ ≤ 700) (h3 : ¬ kgSz σ + 5 ≤ 700) : wMv l yX1_untell wsX1_untell ({ frames := 4, cells := 0, slots := 0, locals := 95 } : Room) σ [.int (nI t)] (kuTh (utSt σ t) 3) := by
  intro dC dI cI cJ cZ h sz
  refine Met.ofW (cc := cX1_untell) (maxL := 2) (ret := none) (by decide) rfl ?_
  intro p e s m args below meth c s₁ B hml hv
  obtain ⟨rfl, hsz, hP, hK, hD0⟩ := hv
  have hx := B.exec
  have hb := B.bytes
  have hr := B.returns
  have hts := atoms_spec (ws := wsX1_untell) B.pre
  have hown : s.vm.findClass RX1 = some m.cls := findClass_of_methodNamed B.named
  have hlocks := B.notSynchronized
  subst hsz
  have htg : ∀ w ∈ GW, w.before _ s = true := fun w h => hts w (List.mem_cons_of_mem _ h)
  have hD := hD0.self (sz := s.heap.size)
  generalize hAe : va_A (wBM cI cJ cZ h σ) s.heap.size = A at hD ⊢
  have hA : ∀ q : Nat, s.heap.size ≤ q → A q := fun q h => by rw [← hAe]; exact Or.inr h
  have hS : va_S A s.heap s.heap [] := va_S.rf
  have hl := lv_entry [.ref (h 0), .int (nI t)] (n := 2) (Nat.le_of_ble_eq_true rfl)
  rw [lg_entry_eq]
  generalize (lg_sl [.ref (h 0), .int (nI t)] ++ List.replicate (2 - (lg_sl [.ref (h 0), .int (nI t)]).length) Slot.unset).toArray = ls at hl ⊢
  have hl : lv_has ls 2 [(0, .ref (h 0)), (1, .int (nI t))] := hl
  have hP : va_P (dC, dI) vwCl (wBM cI cJ cZ h σ) s.heap := hP
  refine lv_aload_n hx hb dX1_untell_0 rfl (lv_at hl 0 rfl) ?_
  refine lv_iload_n hx hb dX1_untell_1 rfl (lv_at hl 1 rfl) ?_
  refine xr_roi (va_runS (As := [.int (nI t)]) (rest := [.ref (h 0)]) ⟨hx, hb, hml, hown, htg⟩ (m_isTag l (nI t) _) (va_cwS 1 htg gX1_120 rfl rfl rfl (by decide +kernel) ⟨Nat.le_of_ble_eq_true rfl, Nat.le_of_ble_eq_true rfl⟩) ⟨fun a U g mk q => q, fun U hU hW => ⟨rfl, congrArg Array.size hU⟩⟩ rfl rfl hl.1 rfl (lv_room (Nat.le_of_ble_eq_true rfl)) dX1_untell_2 ⟨Nat.zero_le _, Nat.zero_le _⟩) hP hS hA (fun H locs hP hS _ => ?_)
  rw [show isTg (nI t) = true by rw [isTg_nI (by omega)]; exact decide_eq_true ht]
  refine xr_ifneB (tgt := 12) hx hb dX1_untell_5 (by decide) (fun _ => ?_) (fun c => absurd c (by decide))
  refine lv_aload_n hx hb dX1_untell_12 rfl (lv_at hl 0 rfl) ?_
  refine va_get (D := (dC, dI)) (ci := 1) (v := .ref (h 6)) (C := RX1) (T := TX1) (N := 18) hx hb htg inX1 (fs := fsBM h σ) hown hK hP 0 rfl rfl 8 (by decide) (htg _ fX1_26) (fun _ h9 => h9) rfl dX1_untell_13 ?_
  refine lv_iload_n hx hb dX1_untell_16 rfl (lv_at hl 1 rfl) ?_
  refine xr_zald (f := fun j => bI ((kgTE σ) j)) (i := t) hx hb hK hP 6 2 rfl rfl (by omega) (by decide) dX1_untell_17 ?_
  refine xr_ifneB (tgt := 25) hx hb dX1_untell_18 (by decide) (fun c18 => ?_) (fun c18 => absurd c18 (by rw [h1]; decide))
  refine lv_iconst (v := nI 0) hx hb dX1_untell_25 (by decide) ?_
  refine va_put (D := (dC, dI)) (ci := 1) (v := .int (nI 0)) (ty := .int) (C := RX1) (T := TX1) (N := 18) hx hb htg inX1 tyX1 tyX1_ok nmX1 (fs := fsBM h σ) hown hK hP hD hS 0 rfl rfl 0 (by decide) (htg _ fX1_45) (fun _ h9 => h9) rfl (by decide +kernel) rfl rfl (Nat.le_of_ble_eq_true rfl) dX1_untell_26 (fun H locs hP hD hS => ?_)
  rw [wBM_Th] at hP hD
  refine lv_aload_n hx hb dX1_untell_29 rfl (lv_at hl 0 rfl) ?_
  refine va_get (D := (dC, dI)) (ci := 1) (v := .int (nI 0)) (C := RX1) (T := TX1) (N := 18) hx hb htg inX1 (fs := fsBM h (kuTh σ 0)) hown hK hP 0 rfl rfl 0 (by decide) (htg _ fX1_45) (fun _ h9 => h9) rfl dX1_untell_30 ?_
  refine lv_if_le (tgt := 37) hx hb dX1_untell_33 (by decide) (fun c33 => ?_) (fun c33 => absurd c33 (by decide))
  refine lv_aload_n hx hb dX1_untell_37 rfl (lv_at hl 0 rfl) ?_
  refine lv_iconst (v := nI 0) hx hb dX1_untell_38 (by decide) ?_
  refine va_put (D := (dC, dI)) (ci := 1) (v := .int (nI 0)) (ty := .int) (C := RX1) (T := TX1) (N := 18) hx hb htg inX1 tyX1 tyX1_ok nmX1 (fs := fsBM h (kuTh σ 0)) hown hK hP hD hS 0 rfl rfl 17 (by decide) (htg _ fX1_65) (fun _ h9 => h9) rfl (by decide +kernel) rfl rfl (Nat.le_of_ble_eq_true rfl) dX1_untell_39 (fun H locs hP hD hS => ?_)
  rw [wBM_Le] at hP hD
  refine lv_aload_n hx hb dX1_untell_42 rfl (lv_at hl 0 rfl) ?_
  refine lv_iload_n hx hb dX1_untell_43 rfl (lv_at hl 1 rfl) ?_
  refine lv_i2l (v := (nI t).toInt64) hx hb dX1_untell_44 rfl ?_
  refine lv_iconst (v := nI 1) hx hb dX1_untell_45 (by decide) ?_
  refine bm_wv (As := [.long ((nI t).toInt64), .int (nI 1)]) (rest := []) (n := 2) ⟨hx, hb, hml, hown, htg⟩ (m_next l (kuLe (kuTh σ 0) 0) ((nI t).toInt64) 1 (by first | omega | (show 0 + _ ≤ 700; omega)) (by omega)) (cwV 2 htg gX1_105 rfl rfl rfl (by decide +kernel) ⟨Nat.le_of_ble_eq_true rfl, Nat.le_of_ble_eq_true rfl⟩) hK hP hD hS hA hl.1 rfl rfl (Nat.le_of_ble_eq_true rfl) dX1_untell_46 (Nat.zero_le _) (Nat.zero_le _) (fun H locs hP hD hS => ?_)
  obtain ⟨z1, ez1⟩ : ∃ zq : BM, zq = nxSt (kuLe (kuTh σ 0) 0) ((nI t).toInt64) 1 := ⟨_, rfl⟩
  rw [← ez1] at hP hD
  have hLe1 : kgLe z1 = 1 := by rw [ez1]; rfl
  have hSz1 : kgSz z1 = kgSz σ := by rw [ez1]; rfl
  have hBl1 : kgBl z1 = kgBl σ := by rw [ez1]; rfl
  refine lv_aload_n hx hb dX1_untell_49 rfl (lv_at hl 0 rfl) ?_
  refine lv_aload_n hx hb dX1_untell_50 rfl (lv_at hl 0 rfl) ?_
  refine bm_ri (As := []) (rest := [.ref (h 0)]) (n := 0) ⟨hx, hb, hml, hown, htg⟩ (m_hasRoom l z1  (by omega) (by omega)) (cwV 0 htg gX1_109 rfl rfl rfl (by decide +kernel) ⟨Nat.le_of_ble_eq_true rfl, Nat.le_of_ble_eq_true rfl⟩) hK hP hD hS hA hl.1 rfl rfl (Nat.le_of_ble_eq_true rfl) dX1_untell_51 (Nat.zero_le _) (Nat.zero_le _) (fun H locs hP hS => ?_)
  refine xr_ifeqB (tgt := 61) hx hb dX1_untell_54 (by decide) (fun c54 => ?_) (fun c54 => absurd c54 (by rw [decide_eq_true_eq]; omega))
  refine lv_iconst (v := nI 3) hx hb dX1_untell_61 (by decide) ?_
  refine va_put (D := (dC, dI)) (ci := 1) (v := .int (nI 3)) (ty := .int) (C := RX1) (T := TX1) (N := 18) hx hb htg inX1 tyX1 tyX1_ok nmX1 (fs := fsBM h z1) hown hK hP hD hS 0 rfl rfl 0 (by decide) (htg _ fX1_45) (fun _ h9 => h9) rfl (by decide +kernel) rfl rfl (Nat.le_of_ble_eq_true rfl) dX1_untell_62 (fun H locs hP hD hS => ?_)
  rw [wBM_Th] at hP hD
  refine lv_aload_n hx hb dX1_untell_65 rfl (lv_at hl 0 rfl) ?_
  refine va_get (D := (dC, dI)) (ci := 1) (v := .int (nI 3)) (C := RX1) (T := TX1) (N := 18) hx hb htg inX1 (fs := fsBM h (kuTh z1 3)) hown hK hP 0 rfl rfl 0 (by decide) (htg _ fX1_45) (fun _ h9 => h9) rfl dX1_untell_66 ?_
  refine lv_if_ne (tgt := 83) hx hb dX1_untell_69 (by decide) (fun c69 => ?_) (fun c69 => absurd c69 (by decide))
  have hfin : kuTh z1 3 = kuTh (utSt σ t) 3 := by rw [ez1]; rfl
  rw [hfin] at hP hD
  exact W.vret hx hb hr (fun t ht hW => ⟨⟨(), rfl, trivial, by rw [ht]; exact hP, va_K.moved hW.alike hK, hD⟩, hS.F ht⟩) hS.2.2 dX1_untell_83
set_option maxRecDepth 100000 in
set_option maxHeartbeats 4000000 in
theorem m_untellN (l : Launch) (σ : BM) (t : Nat) (ht : t < 8) (hc : kgBl σ ≤ 20) (h1 : kgTE σ t = true) (hs : kgSz σ ≤ 700) (h3 : kgSz σ + 5 ≤ 700) (hrc : byt (kgRC σ) 700) : wMv l yX1_untell wsX1_untell ({ frames := 4, cells := 0, slots := 0, locals := 95 } : Room) σ [.int (nI t)] (ofM (sUnt (wrM (kuTh (utSt σ t) 0) (nI 3))) (wrM (kuTh (utSt σ t) 0) (nI 3))) := by
  intro dC dI cI cJ cZ h sz
  refine Met.ofW (cc := cX1_untell) (maxL := 2) (ret := none) (by decide) rfl ?_
  intro p e s m args below meth c s₁ B hml hv
  obtain ⟨rfl, hsz, hP, hK, hD0⟩ := hv
  have hx := B.exec
  have hb := B.bytes
  have hr := B.returns
  have hts := atoms_spec (ws := wsX1_untell) B.pre
  have hown : s.vm.findClass RX1 = some m.cls := findClass_of_methodNamed B.named
  have hlocks := B.notSynchronized
  subst hsz
  have htg : ∀ w ∈ GW, w.before _ s = true := fun w h => hts w (List.mem_cons_of_mem _ h)
  have hD := hD0.self (sz := s.heap.size)
  generalize hAe : va_A (wBM cI cJ cZ h σ) s.heap.size = A at hD ⊢
  have hA : ∀ q : Nat, s.heap.size ≤ q → A q := fun q h => by rw [← hAe]; exact Or.inr h
  have hS : va_S A s.heap s.heap [] := va_S.rf
  have hl := lv_entry [.ref (h 0), .int (nI t)] (n := 2) (Nat.le_of_ble_eq_true rfl)
  rw [lg_entry_eq]
  generalize (lg_sl [.ref (h 0), .int (nI t)] ++ List.replicate (2 - (lg_sl [.ref (h 0), .int (nI t)]).length) Slot.unset).toArray = ls at hl ⊢
  have hl : lv_has ls 2 [(0, .ref (h 0)), (1, .int (nI t))] := hl
  have hP : va_P (dC, dI) vwCl (wBM cI cJ cZ h σ) s.heap := hP
  refine lv_aload_n hx hb dX1_untell_0 rfl (lv_at hl 0 rfl) ?_
  refine lv_iload_n hx hb dX1_untell_1 rfl (lv_at hl 1 rfl) ?_
  refine xr_roi (va_runS (As := [.int (nI t)]) (rest := [.ref (h 0)]) ⟨hx, hb, hml, hown, htg⟩ (m_isTag l (nI t) _) (va_cwS 1 htg gX1_120 rfl rfl rfl (by decide +kernel) ⟨Nat.le_of_ble_eq_true rfl, Nat.le_of_ble_eq_true rfl⟩) ⟨fun a U g mk q => q, fun U hU hW => ⟨rfl, congrArg Array.size hU⟩⟩ rfl rfl hl.1 rfl (lv_room (Nat.le_of_ble_eq_true rfl)) dX1_untell_2 ⟨Nat.zero_le _, Nat.zero_le _⟩) hP hS hA (fun H locs hP hS _ => ?_)
  rw [show isTg (nI t) = true by rw [isTg_nI (by omega)]; exact decide_eq_true ht]
  refine xr_ifneB (tgt := 12) hx hb dX1_untell_5 (by decide) (fun _ => ?_) (fun c => absurd c (by decide))
  refine lv_aload_n hx hb dX1_untell_12 rfl (lv_at hl 0 rfl) ?_
  refine va_get (D := (dC, dI)) (ci := 1) (v := .ref (h 6)) (C := RX1) (T := TX1) (N := 18) hx hb htg inX1 (fs := fsBM h σ) hown hK hP 0 rfl rfl 8 (by decide) (htg _ fX1_26) (fun _ h9 => h9) rfl dX1_untell_13 ?_
  refine lv_iload_n hx hb dX1_untell_16 rfl (lv_at hl 1 rfl) ?_
  refine xr_zald (f := fun j => bI ((kgTE σ) j)) (i := t) hx hb hK hP 6 2 rfl rfl (by omega) (by decide) dX1_untell_17 ?_
  refine xr_ifneB (tgt := 25) hx hb dX1_untell_18 (by decide) (fun c18 => ?_) (fun c18 => absurd c18 (by rw [h1]; decide))
  refine lv_iconst (v := nI 0) hx hb dX1_untell_25 (by decide) ?_
  refine va_put (D := (dC, dI)) (ci := 1) (v := .int (nI 0)) (ty := .int) (C := RX1) (T := TX1) (N := 18) hx hb htg inX1 tyX1 tyX1_ok nmX1 (fs := fsBM h σ) hown hK hP hD hS 0 rfl rfl 0 (by decide) (htg _ fX1_45) (fun _ h9 => h9) rfl (by decide +kernel) rfl rfl (Nat.le_of_ble_eq_true rfl) dX1_untell_26 (fun H locs hP hD hS => ?_)
  rw [wBM_Th] at hP hD
  refine lv_aload_n hx hb dX1_untell_29 rfl (lv_at hl 0 rfl) ?_
  refine va_get (D := (dC, dI)) (ci := 1) (v := .int (nI 0)) (C := RX1) (T := TX1) (N := 18) hx hb htg inX1 (fs := fsBM h (kuTh σ 0)) hown hK hP 0 rfl rfl 0 (by decide) (htg _ fX1_45) (fun _ h9 => h9) rfl dX1_untell_30 ?_
  refine lv_if_le (tgt := 37) hx hb dX1_untell_33 (by decide) (fun c33 => ?_) (fun c33 => absurd c33 (by decide))
  refine lv_aload_n hx hb dX1_untell_37 rfl (lv_at hl 0 rfl) ?_
  refine lv_iconst (v := nI 0) hx hb dX1_untell_38 (by decide) ?_
  refine va_put (D := (dC, dI)) (ci := 1) (v := .int (nI 0)) (ty := .int) (C := RX1) (T := TX1) (N := 18) hx hb htg inX1 tyX1 tyX1_ok nmX1 (fs := fsBM h (kuTh σ 0)) hown hK hP hD hS 0 rfl rfl 17 (by decide) (htg _ fX1_65) (fun _ h9 => h9) rfl (by decide +kernel) rfl rfl (Nat.le_of_ble_eq_true rfl) dX1_untell_39 (fun H locs hP hD hS => ?_)
  rw [wBM_Le] at hP hD
  refine lv_aload_n hx hb dX1_untell_42 rfl (lv_at hl 0 rfl) ?_
  refine lv_iload_n hx hb dX1_untell_43 rfl (lv_at hl 1 rfl) ?_
  refine lv_i2l (v := (nI t).toInt64) hx hb dX1_untell_44 rfl ?_
  refine lv_iconst (v := nI 1) hx hb dX1_untell_45 (by decide) ?_
  refine bm_wv (As := [.long ((nI t).toInt64), .int (nI 1)]) (rest := []) (n := 2) ⟨hx, hb, hml, hown, htg⟩ (m_next l (kuLe (kuTh σ 0) 0) ((nI t).toInt64) 1 (by first | omega | (show 0 + _ ≤ 700; omega)) (by omega)) (cwV 2 htg gX1_105 rfl rfl rfl (by decide +kernel) ⟨Nat.le_of_ble_eq_true rfl, Nat.le_of_ble_eq_true rfl⟩) hK hP hD hS hA hl.1 rfl rfl (Nat.le_of_ble_eq_true rfl) dX1_untell_46 (Nat.zero_le _) (Nat.zero_le _) (fun H locs hP hD hS => ?_)
  obtain ⟨z1, ez1⟩ : ∃ zq : BM, zq = nxSt (kuLe (kuTh σ 0) 0) ((nI t).toInt64) 1 := ⟨_, rfl⟩
  rw [← ez1] at hP hD
  have hLe1 : kgLe z1 = 1 := by rw [ez1]; rfl
  have hSz1 : kgSz z1 = kgSz σ := by rw [ez1]; rfl
  have hBl1 : kgBl z1 = kgBl σ := by rw [ez1]; rfl
  refine lv_aload_n hx hb dX1_untell_49 rfl (lv_at hl 0 rfl) ?_
  refine lv_aload_n hx hb dX1_untell_50 rfl (lv_at hl 0 rfl) ?_
  refine bm_ri (As := []) (rest := [.ref (h 0)]) (n := 0) ⟨hx, hb, hml, hown, htg⟩ (m_hasRoom l z1  (by omega) (by omega)) (cwV 0 htg gX1_109 rfl rfl rfl (by decide +kernel) ⟨Nat.le_of_ble_eq_true rfl, Nat.le_of_ble_eq_true rfl⟩) hK hP hD hS hA hl.1 rfl rfl (Nat.le_of_ble_eq_true rfl) dX1_untell_51 (Nat.zero_le _) (Nat.zero_le _) (fun H locs hP hS => ?_)
  refine xr_ifeqB (tgt := 61) hx hb dX1_untell_54 (by decide) (fun c54 => absurd c54 (by rw [decide_eq_true (by omega)]; decide)) (fun c54 => ?_)
  refine lv_iconst (v := nI 0) hx hb dX1_untell_57 (by decide) ?_
  refine lv_goto (tgt := 62) hx hb dX1_untell_58 (by decide) ?_
  refine va_put (D := (dC, dI)) (ci := 1) (v := .int (nI 0)) (ty := .int) (C := RX1) (T := TX1) (N := 18) hx hb htg inX1 tyX1 tyX1_ok nmX1 (fs := fsBM h z1) hown hK hP hD hS 0 rfl rfl 0 (by decide) (htg _ fX1_45) (fun _ h9 => h9) rfl (by decide +kernel) rfl rfl (Nat.le_of_ble_eq_true rfl) dX1_untell_62 (fun H locs hP hD hS => ?_)
  rw [wBM_Th] at hP hD
  refine lv_aload_n hx hb dX1_untell_65 rfl (lv_at hl 0 rfl) ?_
  refine va_get (D := (dC, dI)) (ci := 1) (v := .int (nI 0)) (C := RX1) (T := TX1) (N := 18) hx hb htg inX1 (fs := fsBM h (kuTh z1 0)) hown hK hP 0 rfl rfl 0 (by decide) (htg _ fX1_45) (fun _ h9 => h9) rfl dX1_untell_66 ?_
  refine lv_if_ne (tgt := 83) hx hb dX1_untell_69 (by decide) (fun c69 => absurd c69 (by decide)) (fun c69 => ?_)
  refine lv_aload_n hx hb dX1_untell_72 rfl (lv_at hl 0 rfl) ?_
  refine lv_iconst (v := nI 3) hx hb dX1_untell_73 (by decide) ?_
  refine bm_wv (As := [.int (nI 3)]) (rest := []) (n := 1) ⟨hx, hb, hml, hown, htg⟩ (m_write l (kuTh z1 0) (nI 3) (by show kgSz z1 + kgLe z1 + 4 ≤ 700; omega)) (cwV 1 htg gX1_112 rfl rfl rfl (by decide +kernel) ⟨Nat.le_of_ble_eq_true rfl, Nat.le_of_ble_eq_true rfl⟩) hK hP hD hS hA hl.1 rfl rfl (Nat.le_of_ble_eq_true rfl) dX1_untell_74 (Nat.zero_le _) (Nat.zero_le _) (fun H locs hP hD hS => ?_)
  obtain ⟨z2, ez2⟩ : ∃ zq : BM, zq = wrM (kuTh z1 0) (nI 3) := ⟨_, rfl⟩
  rw [← ez2] at hP hD
  have hLe9 : kgLe z2 = kgLe z1 := by rw [ez2]; rfl
  have hBl9 : kgBl z2 = kgBl z1 := by rw [ez2]; rfl
  have hKn9 : kgKn z2 = kgKn z1 := by rw [ez2]; rfl
  have hRC9 : byt (kgRC z2) 700 := by rw [ez2]; show byt (kgRC z1) 700; rw [ez1]; exact nx_byt (by omega) hrc
  refine lv_aload_n hx hb dX1_untell_77 rfl (lv_at hl 0 rfl) ?_
  refine lv_iconst (v := nI 3) hx hb dX1_untell_78 (by decide) ?_
  refine bm_wi (As := [.int (nI 3)]) (rest := []) (n := 1) ⟨hx, hb, hml, hown, htg⟩ (m_says3 l z2  (hRC9) (by omega) (by omega)) (cwV 1 htg gX1_116 rfl rfl rfl (by decide +kernel) ⟨Nat.le_of_ble_eq_true rfl, Nat.le_of_ble_eq_true rfl⟩) hK hP hD hS hA hl.1 rfl rfl (Nat.le_of_ble_eq_true rfl) dX1_untell_79 (Nat.zero_le _) (Nat.zero_le _) (fun H locs hP hD hS => ?_)
  obtain ⟨z3, ez3⟩ : ∃ zq : BM, zq = ofM (sUnt z2) z2 := ⟨_, rfl⟩
  rw [← ez3] at hP hD
  refine lv_pop hx hb dX1_untell_82 rfl ?_
  have hfin : z3 = ofM (sUnt (wrM (kuTh (utSt σ t) 0) (nI 3))) (wrM (kuTh (utSt σ t) 0) (nI 3)) := by rw [ez3, ez2, ez1]; rfl
  rw [hfin] at hP hD
  exact W.vret hx hb hr (fun t ht hW => ⟨⟨(), rfl, trivial, by rw [ht]; exact hP, va_K.moved hW.alike hK, hD⟩, hS.F ht⟩) hS.2.2 dX1_untell_83
set_option maxRecDepth 100000 in
set_option maxHeartbeats 4000000 in
theorem m_learnO (l : Launch) (σ : BM) (k : Int64) (d : Int64) (i : Nat) (hc : kgKn σ ≤ 16) (hf : fnd (kgKS σ) k (kgKn σ) = some i) (h2 : kgTO σ i = d) : wMv l yX1_learn wsX1_learn ({ frames := 4, cells := 0, slots := 0, locals := 95 } : Room) σ [.long k, .long d] (kuTh σ 0) := by
  intro dC dI cI cJ cZ h sz
  refine Met.ofW (cc := cX1_learn) (maxL := 6) (ret := none) (by decide) rfl ?_
  intro p e s m args below meth c s₁ B hml hv
  obtain ⟨rfl, hsz, hP, hK, hD0⟩ := hv
  have hx := B.exec
  have hb := B.bytes
  have hr := B.returns
  have hts := atoms_spec (ws := wsX1_learn) B.pre
  have hown : s.vm.findClass RX1 = some m.cls := findClass_of_methodNamed B.named
  have hlocks := B.notSynchronized
  subst hsz
  have htg : ∀ w ∈ GW, w.before _ s = true := fun w h => hts w (List.mem_cons_of_mem _ h)
  have hD := hD0.self (sz := s.heap.size)
  generalize hAe : va_A (wBM cI cJ cZ h σ) s.heap.size = A at hD ⊢
  have hA : ∀ q : Nat, s.heap.size ≤ q → A q := fun q h => by rw [← hAe]; exact Or.inr h
  have hS : va_S A s.heap s.heap [] := va_S.rf
  have hl := lv_entry [.ref (h 0), .long k, .long d] (n := 6) (Nat.le_of_ble_eq_true rfl)
  rw [lg_entry_eq]
  generalize (lg_sl [.ref (h 0), .long k, .long d] ++ List.replicate (6 - (lg_sl [.ref (h 0), .long k, .long d]).length) Slot.unset).toArray = ls at hl ⊢
  have hl : lv_has ls 6 [(0, .ref (h 0)), (1, .long k), (3, .long d)] := hl
  have hP : va_P (dC, dI) vwCl (wBM cI cJ cZ h σ) s.heap := hP
  refine lv_aload_n hx hb dX1_learn_0 rfl (lv_at hl 0 rfl) ?_
  refine lv_lload_n hx hb dX1_learn_1 rfl (lv_at hl 1 rfl) ?_
  refine bm_ri (As := [.long k]) (rest := []) (n := 1) ⟨hx, hb, hml, hown, htg⟩ (m_keyOf l σ k (hc)) (cwV 1 htg gX1_102 rfl rfl rfl (by decide +kernel) ⟨Nat.le_of_ble_eq_true rfl, Nat.le_of_ble_eq_true rfl⟩) hK hP hD hS hA hl.1 rfl rfl (Nat.le_of_ble_eq_true rfl) dX1_learn_2 (Nat.zero_le _) (Nat.zero_le _) (fun H locs hP hS => ?_)
  have hlt := (fnd_lt hf).1
  rw [hf]
  refine W.eq (g2 := F0 m 5 ls [.int (nI i)]) rfl ?_
  refine lv_istore (lv' := [(5, .int (nI i)), (0, .ref (h 0)), (1, .long k), (3, .long d)]) hx hb dX1_learn_5 hl (by decide) rfl (fun ls hl => ?_)
  refine lv_aload_n hx hb dX1_learn_7 rfl (lv_at hl 1 rfl) ?_
  refine lv_iconst (v := nI 0) hx hb dX1_learn_8 (by decide) ?_
  refine va_put (D := (dC, dI)) (ci := 1) (v := .int (nI 0)) (ty := .int) (C := RX1) (T := TX1) (N := 18) hx hb htg inX1 tyX1 tyX1_ok nmX1 (fs := fsBM h σ) hown hK hP hD hS 0 rfl rfl 0 (by decide) (htg _ fX1_45) (fun _ h9 => h9) rfl (by decide +kernel) rfl rfl (Nat.le_of_ble_eq_true rfl) dX1_learn_9 (fun H locs hP hD hS => ?_)
  rw [wBM_Th] at hP hD
  refine lv_iload hx hb dX1_learn_12 (lv_at hl 0 rfl) ?_
  refine lv_iconst (v := -1) hx hb dX1_learn_14 (by decide) ?_
  refine lv_icmp_eq (tgt := 31) hx hb dX1_learn_15 (by decide) (fun c => absurd c (optI_none (by omega))) (fun _ => ?_)
  refine lv_aload_n hx hb dX1_learn_18 rfl (lv_at hl 1 rfl) ?_
  refine va_get (D := (dC, dI)) (ci := 1) (v := .ref (h 8)) (C := RX1) (T := TX1) (N := 18) hx hb htg inX1 (fs := fsBM h (kuTh σ 0)) hown hK hP 0 rfl rfl 10 (by decide) (htg _ fX1_33) (fun _ h9 => h9) rfl dX1_learn_19 ?_
  refine lv_iload hx hb dX1_learn_22 (lv_at hl 0 rfl) ?_
  refine xr_lald (f := kgTO σ) (i := i) hx hb hK hP 8 1 rfl rfl (by omega) (by decide) dX1_learn_24 ?_
  refine lv_lload_n hx hb dX1_learn_25 rfl (lv_at hl 3 rfl) ?_
  refine xr_lcmp_ne (tgt := 31) hx hb dX1_learn_26 dX1_learn_27 (by decide) (fun c => absurd h2 c) (fun _ => ?_)
  have hfin : kuTh σ 0 = kuTh σ 0 := rfl
  rw [hfin] at hP hD
  exact W.vret hx hb hr (fun t ht hW => ⟨⟨(), rfl, trivial, by rw [ht]; exact hP, va_K.moved hW.alike hK, hD⟩, hS.F ht⟩) hS.2.2 dX1_learn_30
set_option maxRecDepth 100000 in
set_option maxHeartbeats 4000000 in
theorem m_learnT (l : Launch) (σ : BM) (k : Int64) (d : Int64) (hc : kgKn σ ≤ 16) (h2 : ∀ i, fnd (kgKS σ) k (kgKn σ) = some i → ¬ kgTO σ i = d) (hs : kgSz σ ≤ 700) (h3 : (fnd (kgKS σ) k (kgKn σ) = none ∧ kgKn σ = 16) ∨ ¬ kgSz σ + 20 ≤ 700) : wMv l yX1_learn wsX1_learn ({ frames := 4, cells := 0, slots := 0, locals := 95 } : Room) σ [.long k, .long d] (kuTh (lnSt σ k d) 1) := by
  intro dC dI cI cJ cZ h sz
  refine Met.ofW (cc := cX1_learn) (maxL := 6) (ret := none) (by decide) rfl ?_
  intro p e s m args below meth c s₁ B hml hv
  obtain ⟨rfl, hsz, hP, hK, hD0⟩ := hv
  have hx := B.exec
  have hb := B.bytes
  have hr := B.returns
  have hts := atoms_spec (ws := wsX1_learn) B.pre
  have hown : s.vm.findClass RX1 = some m.cls := findClass_of_methodNamed B.named
  have hlocks := B.notSynchronized
  subst hsz
  have htg : ∀ w ∈ GW, w.before _ s = true := fun w h => hts w (List.mem_cons_of_mem _ h)
  have hD := hD0.self (sz := s.heap.size)
  generalize hAe : va_A (wBM cI cJ cZ h σ) s.heap.size = A at hD ⊢
  have hA : ∀ q : Nat, s.heap.size ≤ q → A q := fun q h => by rw [← hAe]; exact Or.inr h
  have hS : va_S A s.heap s.heap [] := va_S.rf
  have hl := lv_entry [.ref (h 0), .long k, .long d] (n := 6) (Nat.le_of_ble_eq_true rfl)
  rw [lg_entry_eq]
  generalize (lg_sl [.ref (h 0), .long k, .long d] ++ List.replicate (6 - (lg_sl [.ref (h 0), .long k, .long d]).length) Slot.unset).toArray = ls at hl ⊢
  have hl : lv_has ls 6 [(0, .ref (h 0)), (1, .long k), (3, .long d)] := hl
  have hP : va_P (dC, dI) vwCl (wBM cI cJ cZ h σ) s.heap := hP
  refine lv_aload_n hx hb dX1_learn_0 rfl (lv_at hl 0 rfl) ?_
  refine lv_lload_n hx hb dX1_learn_1 rfl (lv_at hl 1 rfl) ?_
  refine bm_ri (As := [.long k]) (rest := []) (n := 1) ⟨hx, hb, hml, hown, htg⟩ (m_keyOf l σ k (hc)) (cwV 1 htg gX1_102 rfl rfl rfl (by decide +kernel) ⟨Nat.le_of_ble_eq_true rfl, Nat.le_of_ble_eq_true rfl⟩) hK hP hD hS hA hl.1 rfl rfl (Nat.le_of_ble_eq_true rfl) dX1_learn_2 (Nat.zero_le _) (Nat.zero_le _) (fun H locs hP hS => ?_)
  obtain ⟨o, ho⟩ : ∃ zq, zq = fnd (kgKS σ) k (kgKn σ) := ⟨_, rfl⟩
  rw [← ho]
  cases o with
  | none =>
    refine W.eq (g2 := F0 m 5 ls [.int (-1)]) rfl ?_
    refine lv_istore (lv' := [(5, .int (-1)), (0, .ref (h 0)), (1, .long k), (3, .long d)]) hx hb dX1_learn_5 hl (by decide) rfl (fun ls hl => ?_)
    refine lv_aload_n hx hb dX1_learn_7 rfl (lv_at hl 1 rfl) ?_
    refine lv_iconst (v := nI 0) hx hb dX1_learn_8 (by decide) ?_
    refine va_put (D := (dC, dI)) (ci := 1) (v := .int (nI 0)) (ty := .int) (C := RX1) (T := TX1) (N := 18) hx hb htg inX1 tyX1 tyX1_ok nmX1 (fs := fsBM h σ) hown hK hP hD hS 0 rfl rfl 0 (by decide) (htg _ fX1_45) (fun _ h9 => h9) rfl (by decide +kernel) rfl rfl (Nat.le_of_ble_eq_true rfl) dX1_learn_9 (fun H locs hP hD hS => ?_)
    rw [wBM_Th] at hP hD
    refine lv_iload hx hb dX1_learn_12 (lv_at hl 0 rfl) ?_
    refine lv_iconst (v := -1) hx hb dX1_learn_14 (by decide) ?_
    refine lv_icmp_eq (tgt := 31) hx hb dX1_learn_15 (by decide) (fun _ => ?_) (fun c => absurd rfl c)
    refine lv_aload_n hx hb dX1_learn_31 rfl (lv_at hl 1 rfl) ?_
    refine lv_iconst (v := nI 0) hx hb dX1_learn_32 (by decide) ?_
    refine va_put (D := (dC, dI)) (ci := 1) (v := .int (nI 0)) (ty := .int) (C := RX1) (T := TX1) (N := 18) hx hb htg inX1 tyX1 tyX1_ok nmX1 (fs := fsBM h (kuTh σ 0)) hown hK hP hD hS 0 rfl rfl 17 (by decide) (htg _ fX1_65) (fun _ h9 => h9) rfl (by decide +kernel) rfl rfl (Nat.le_of_ble_eq_true rfl) dX1_learn_33 (fun H locs hP hD hS => ?_)
    rw [wBM_Le] at hP hD
    refine lv_aload_n hx hb dX1_learn_36 rfl (lv_at hl 1 rfl) ?_
    refine lv_lload_n hx hb dX1_learn_37 rfl (lv_at hl 2 rfl) ?_
    refine lv_bipush (v := nI 8) hx hb dX1_learn_38 (by decide) ?_
    refine bm_wv (As := [.long k, .int (nI 8)]) (rest := []) (n := 2) ⟨hx, hb, hml, hown, htg⟩ (m_next l (kuLe (kuTh σ 0) 0) k 8 (by first | omega | (show 0 + _ ≤ 700; omega)) (by omega)) (cwV 2 htg gX1_105 rfl rfl rfl (by decide +kernel) ⟨Nat.le_of_ble_eq_true rfl, Nat.le_of_ble_eq_true rfl⟩) hK hP hD hS hA hl.1 rfl rfl (Nat.le_of_ble_eq_true rfl) dX1_learn_40 (Nat.zero_le _) (Nat.zero_le _) (fun H locs hP hD hS => ?_)
    obtain ⟨z1, ez1⟩ : ∃ zq : BM, zq = nxSt (kuLe (kuTh σ 0) 0) k 8 := ⟨_, rfl⟩
    rw [← ez1] at hP hD
    have hLe_z1 : kgLe z1 = 8 := by rw [ez1]; rfl
    have hSz_z1 : kgSz z1 = kgSz σ := by rw [ez1]; rfl
    have hKn_z1 : kgKn z1 = kgKn σ := by rw [ez1]; rfl
    refine lv_aload_n hx hb dX1_learn_43 rfl (lv_at hl 1 rfl) ?_
    refine lv_lload_n hx hb dX1_learn_44 rfl (lv_at hl 3 rfl) ?_
    refine lv_bipush (v := nI 8) hx hb dX1_learn_45 (by decide) ?_
    refine bm_wv (As := [.long d, .int (nI 8)]) (rest := []) (n := 2) ⟨hx, hb, hml, hown, htg⟩ (m_next l z1 d 8 (by first | omega | (show 0 + _ ≤ 700; omega)) (by omega)) (cwV 2 htg gX1_105 rfl rfl rfl (by decide +kernel) ⟨Nat.le_of_ble_eq_true rfl, Nat.le_of_ble_eq_true rfl⟩) hK hP hD hS hA hl.1 rfl rfl (Nat.le_of_ble_eq_true rfl) dX1_learn_47 (Nat.zero_le _) (Nat.zero_le _) (fun H locs hP hD hS => ?_)
    obtain ⟨z2, ez2⟩ : ∃ zq : BM, zq = nxSt z1 d 8 := ⟨_, rfl⟩
    rw [← ez2] at hP hD
    have hLe_z2 : kgLe z2 = 16 := by rw [ez2]; show kgLe z1 + 8 = 16; omega
    have hSz_z2 : kgSz z2 = kgSz σ := by rw [ez2]; exact hSz_z1
    have hKn_z2 : kgKn z2 = kgKn σ := by rw [ez2]; exact hKn_z1
    refine lv_aload_n hx hb dX1_learn_50 rfl (lv_at hl 1 rfl) ?_
    refine lv_iload hx hb dX1_learn_51 (lv_at hl 0 rfl) ?_
    refine lv_iconst (v := -1) hx hb dX1_learn_53 (by decide) ?_
    refine lv_icmp_ne (tgt := 66) hx hb dX1_learn_54 (by decide) (fun c => absurd rfl c) (fun _ => ?_)
    refine lv_aload_n hx hb dX1_learn_57 rfl (lv_at hl 1 rfl) ?_
    refine va_get (D := (dC, dI)) (ci := 1) (v := .int (nI (kgKn z2))) (C := RX1) (T := TX1) (N := 18) hx hb htg inX1 (fs := fsBM h z2) hown hK hP 0 rfl rfl 11 (by decide) (htg _ fX1_75) (fun _ h9 => h9) rfl dX1_learn_58 ?_
    refine lv_bipush (v := nI 16) hx hb dX1_learn_61 (by decide) ?_
    refine xr_icmp_eq (tgt := 73) hx hb dX1_learn_63 (by decide) (by omega) (by omega) (fun c63 => ?_) (fun c63 => ?_)
    · refine lv_iconst (v := nI 1) hx hb dX1_learn_73 (by decide) ?_
      refine lv_goto (tgt := 78) hx hb dX1_learn_74 (by decide) ?_
      refine va_put (D := (dC, dI)) (ci := 1) (v := .int (nI 1)) (ty := .int) (C := RX1) (T := TX1) (N := 18) hx hb htg inX1 tyX1 tyX1_ok nmX1 (fs := fsBM h z2) hown hK hP hD hS 0 rfl rfl 0 (by decide) (htg _ fX1_45) (fun _ h9 => h9) rfl (by decide +kernel) rfl rfl (Nat.le_of_ble_eq_true rfl) dX1_learn_78 (fun H locs hP hD hS => ?_)
      rw [wBM_Th] at hP hD
      refine lv_aload_n hx hb dX1_learn_81 rfl (lv_at hl 1 rfl) ?_
      refine va_get (D := (dC, dI)) (ci := 1) (v := .int (nI 1)) (C := RX1) (T := TX1) (N := 18) hx hb htg inX1 (fs := fsBM h (kuTh z2 1)) hown hK hP 0 rfl rfl 0 (by decide) (htg _ fX1_45) (fun _ h9 => h9) rfl dX1_learn_82 ?_
      refine lv_if_ne (tgt := 99) hx hb dX1_learn_85 (by decide) (fun c85 => ?_) (fun c85 => absurd c85 (by decide))
      have hfin : kuTh z2 1 = kuTh (lnSt σ k d) 1 := by rw [ez2, ez1]; rfl
      rw [hfin] at hP hD
      exact W.vret hx hb hr (fun t ht hW => ⟨⟨(), rfl, trivial, by rw [ht]; exact hP, va_K.moved hW.alike hK, hD⟩, hS.F ht⟩) hS.2.2 dX1_learn_99
    · refine lv_aload_n hx hb dX1_learn_66 rfl (lv_at hl 1 rfl) ?_
      refine bm_ri (As := []) (rest := [.ref (h 0)]) (n := 0) ⟨hx, hb, hml, hown, htg⟩ (m_hasRoom l z2  (by omega) (by omega)) (cwV 0 htg gX1_109 rfl rfl rfl (by decide +kernel) ⟨Nat.le_of_ble_eq_true rfl, Nat.le_of_ble_eq_true rfl⟩) hK hP hD hS hA hl.1 rfl rfl (Nat.le_of_ble_eq_true rfl) dX1_learn_67 (Nat.zero_le _) (Nat.zero_le _) (fun H locs hP hS => ?_)
      refine xr_ifneB (tgt := 77) hx hb dX1_learn_70 (by decide) (fun c70 => absurd c70 (by rw [decide_eq_true_eq]; rcases h3 with q | q <;> first | omega | (rw [← ho] at q; exact absurd q.1 (by simp)))) (fun c70 => ?_)
      refine lv_iconst (v := nI 1) hx hb dX1_learn_73 (by decide) ?_
      refine lv_goto (tgt := 78) hx hb dX1_learn_74 (by decide) ?_
      refine va_put (D := (dC, dI)) (ci := 1) (v := .int (nI 1)) (ty := .int) (C := RX1) (T := TX1) (N := 18) hx hb htg inX1 tyX1 tyX1_ok nmX1 (fs := fsBM h z2) hown hK hP hD hS 0 rfl rfl 0 (by decide) (htg _ fX1_45) (fun _ h9 => h9) rfl (by decide +kernel) rfl rfl (Nat.le_of_ble_eq_true rfl) dX1_learn_78 (fun H locs hP hD hS => ?_)
      rw [wBM_Th] at hP hD
      refine lv_aload_n hx hb dX1_learn_81 rfl (lv_at hl 1 rfl) ?_
      refine va_get (D := (dC, dI)) (ci := 1) (v := .int (nI 1)) (C := RX1) (T := TX1) (N := 18) hx hb htg inX1 (fs := fsBM h (kuTh z2 1)) hown hK hP 0 rfl rfl 0 (by decide) (htg _ fX1_45) (fun _ h9 => h9) rfl dX1_learn_82 ?_
      refine lv_if_ne (tgt := 99) hx hb dX1_learn_85 (by decide) (fun c85 => ?_) (fun c85 => absurd c85 (by decide))
      have hfin : kuTh z2 1 = kuTh (lnSt σ k d) 1 := by rw [ez2, ez1]; rfl
      rw [hfin] at hP hD
      exact W.vret hx hb hr (fun t ht hW => ⟨⟨(), rfl, trivial, by rw [ht]; exact hP, va_K.moved hW.alike hK, hD⟩, hS.F ht⟩) hS.2.2 dX1_learn_99
  | some b =>
    have hlto := (fnd_lt ho.symm).1
    refine W.eq (g2 := F0 m 5 ls [.int (nI b)]) rfl ?_
    refine lv_istore (lv' := [(5, .int (nI b)), (0, .ref (h 0)), (1, .long k), (3, .long d)]) hx hb dX1_learn_5 hl (by decide) rfl (fun ls hl => ?_)
    refine lv_aload_n hx hb dX1_learn_7 rfl (lv_at hl 1 rfl) ?_
    refine lv_iconst (v := nI 0) hx hb dX1_learn_8 (by decide) ?_
    refine va_put (D := (dC, dI)) (ci := 1) (v := .int (nI 0)) (ty := .int) (C := RX1) (T := TX1) (N := 18) hx hb htg inX1 tyX1 tyX1_ok nmX1 (fs := fsBM h σ) hown hK hP hD hS 0 rfl rfl 0 (by decide) (htg _ fX1_45) (fun _ h9 => h9) rfl (by decide +kernel) rfl rfl (Nat.le_of_ble_eq_true rfl) dX1_learn_9 (fun H locs hP hD hS => ?_)
    rw [wBM_Th] at hP hD
    refine lv_iload hx hb dX1_learn_12 (lv_at hl 0 rfl) ?_
    refine lv_iconst (v := -1) hx hb dX1_learn_14 (by decide) ?_
    refine lv_icmp_eq (tgt := 31) hx hb dX1_learn_15 (by decide) (fun c => absurd c (optI_none (by omega))) (fun _ => ?_)
    refine lv_aload_n hx hb dX1_learn_18 rfl (lv_at hl 1 rfl) ?_
    refine va_get (D := (dC, dI)) (ci := 1) (v := .ref (h 8)) (C := RX1) (T := TX1) (N := 18) hx hb htg inX1 (fs := fsBM h (kuTh σ 0)) hown hK hP 0 rfl rfl 10 (by decide) (htg _ fX1_33) (fun _ h9 => h9) rfl dX1_learn_19 ?_
    refine lv_iload hx hb dX1_learn_22 (lv_at hl 0 rfl) ?_
    refine xr_lald (f := kgTO σ) (i := b) hx hb hK hP 8 1 rfl rfl (by omega) (by decide) dX1_learn_24 ?_
    refine lv_lload_n hx hb dX1_learn_25 rfl (lv_at hl 3 rfl) ?_
    refine xr_lcmp_ne (tgt := 31) hx hb dX1_learn_26 dX1_learn_27 (by decide) (fun _ => ?_) (fun c => absurd c (h2 _ ho.symm))
    refine lv_aload_n hx hb dX1_learn_31 rfl (lv_at hl 1 rfl) ?_
    refine lv_iconst (v := nI 0) hx hb dX1_learn_32 (by decide) ?_
    refine va_put (D := (dC, dI)) (ci := 1) (v := .int (nI 0)) (ty := .int) (C := RX1) (T := TX1) (N := 18) hx hb htg inX1 tyX1 tyX1_ok nmX1 (fs := fsBM h (kuTh σ 0)) hown hK hP hD hS 0 rfl rfl 17 (by decide) (htg _ fX1_65) (fun _ h9 => h9) rfl (by decide +kernel) rfl rfl (Nat.le_of_ble_eq_true rfl) dX1_learn_33 (fun H locs hP hD hS => ?_)
    rw [wBM_Le] at hP hD
    refine lv_aload_n hx hb dX1_learn_36 rfl (lv_at hl 1 rfl) ?_
    refine lv_lload_n hx hb dX1_learn_37 rfl (lv_at hl 2 rfl) ?_
    refine lv_bipush (v := nI 8) hx hb dX1_learn_38 (by decide) ?_
    refine bm_wv (As := [.long k, .int (nI 8)]) (rest := []) (n := 2) ⟨hx, hb, hml, hown, htg⟩ (m_next l (kuLe (kuTh σ 0) 0) k 8 (by first | omega | (show 0 + _ ≤ 700; omega)) (by omega)) (cwV 2 htg gX1_105 rfl rfl rfl (by decide +kernel) ⟨Nat.le_of_ble_eq_true rfl, Nat.le_of_ble_eq_true rfl⟩) hK hP hD hS hA hl.1 rfl rfl (Nat.le_of_ble_eq_true rfl) dX1_learn_40 (Nat.zero_le _) (Nat.zero_le _) (fun H locs hP hD hS => ?_)
    obtain ⟨z3, ez3⟩ : ∃ zq : BM, zq = nxSt (kuLe (kuTh σ 0) 0) k 8 := ⟨_, rfl⟩
    rw [← ez3] at hP hD
    have hLe_z3 : kgLe z3 = 8 := by rw [ez3]; rfl
    have hSz_z3 : kgSz z3 = kgSz σ := by rw [ez3]; rfl
    have hKn_z3 : kgKn z3 = kgKn σ := by rw [ez3]; rfl
    refine lv_aload_n hx hb dX1_learn_43 rfl (lv_at hl 1 rfl) ?_
    refine lv_lload_n hx hb dX1_learn_44 rfl (lv_at hl 3 rfl) ?_
    refine lv_bipush (v := nI 8) hx hb dX1_learn_45 (by decide) ?_
    refine bm_wv (As := [.long d, .int (nI 8)]) (rest := []) (n := 2) ⟨hx, hb, hml, hown, htg⟩ (m_next l z3 d 8 (by first | omega | (show 0 + _ ≤ 700; omega)) (by omega)) (cwV 2 htg gX1_105 rfl rfl rfl (by decide +kernel) ⟨Nat.le_of_ble_eq_true rfl, Nat.le_of_ble_eq_true rfl⟩) hK hP hD hS hA hl.1 rfl rfl (Nat.le_of_ble_eq_true rfl) dX1_learn_47 (Nat.zero_le _) (Nat.zero_le _) (fun H locs hP hD hS => ?_)
    obtain ⟨z4, ez4⟩ : ∃ zq : BM, zq = nxSt z3 d 8 := ⟨_, rfl⟩
    rw [← ez4] at hP hD
    have hLe_z4 : kgLe z4 = 16 := by rw [ez4]; show kgLe z3 + 8 = 16; omega
    have hSz_z4 : kgSz z4 = kgSz σ := by rw [ez4]; exact hSz_z3
    have hKn_z4 : kgKn z4 = kgKn σ := by rw [ez4]; exact hKn_z3
    refine lv_aload_n hx hb dX1_learn_50 rfl (lv_at hl 1 rfl) ?_
    refine lv_iload hx hb dX1_learn_51 (lv_at hl 0 rfl) ?_
    refine lv_iconst (v := -1) hx hb dX1_learn_53 (by decide) ?_
    refine lv_icmp_ne (tgt := 66) hx hb dX1_learn_54 (by decide) (fun _ => ?_) (fun c => absurd c (optI_none (by omega)))
    refine lv_aload_n hx hb dX1_learn_66 rfl (lv_at hl 1 rfl) ?_
    refine bm_ri (As := []) (rest := [.ref (h 0)]) (n := 0) ⟨hx, hb, hml, hown, htg⟩ (m_hasRoom l z4  (by omega) (by omega)) (cwV 0 htg gX1_109 rfl rfl rfl (by decide +kernel) ⟨Nat.le_of_ble_eq_true rfl, Nat.le_of_ble_eq_true rfl⟩) hK hP hD hS hA hl.1 rfl rfl (Nat.le_of_ble_eq_true rfl) dX1_learn_67 (Nat.zero_le _) (Nat.zero_le _) (fun H locs hP hS => ?_)
    refine xr_ifneB (tgt := 77) hx hb dX1_learn_70 (by decide) (fun c70 => absurd c70 (by rw [decide_eq_true_eq]; rcases h3 with q | q <;> first | omega | (rw [← ho] at q; exact absurd q.1 (by simp)))) (fun c70 => ?_)
    refine lv_iconst (v := nI 1) hx hb dX1_learn_73 (by decide) ?_
    refine lv_goto (tgt := 78) hx hb dX1_learn_74 (by decide) ?_
    refine va_put (D := (dC, dI)) (ci := 1) (v := .int (nI 1)) (ty := .int) (C := RX1) (T := TX1) (N := 18) hx hb htg inX1 tyX1 tyX1_ok nmX1 (fs := fsBM h z4) hown hK hP hD hS 0 rfl rfl 0 (by decide) (htg _ fX1_45) (fun _ h9 => h9) rfl (by decide +kernel) rfl rfl (Nat.le_of_ble_eq_true rfl) dX1_learn_78 (fun H locs hP hD hS => ?_)
    rw [wBM_Th] at hP hD
    refine lv_aload_n hx hb dX1_learn_81 rfl (lv_at hl 1 rfl) ?_
    refine va_get (D := (dC, dI)) (ci := 1) (v := .int (nI 1)) (C := RX1) (T := TX1) (N := 18) hx hb htg inX1 (fs := fsBM h (kuTh z4 1)) hown hK hP 0 rfl rfl 0 (by decide) (htg _ fX1_45) (fun _ h9 => h9) rfl dX1_learn_82 ?_
    refine lv_if_ne (tgt := 99) hx hb dX1_learn_85 (by decide) (fun c85 => ?_) (fun c85 => absurd c85 (by decide))
    have hfin : kuTh z4 1 = kuTh (lnSt σ k d) 1 := by rw [ez4, ez3]; rfl
    rw [hfin] at hP hD
    exact W.vret hx hb hr (fun t ht hW => ⟨⟨(), rfl, trivial, by rw [ht]; exact hP, va_K.moved hW.alike hK, hD⟩, hS.F ht⟩) hS.2.2 dX1_learn_99
set_option maxRecDepth 100000 in
set_option maxHeartbeats 4000000 in
theorem m_learnN (l : Launch) (σ : BM) (k : Int64) (d : Int64) (hc : kgKn σ ≤ 16) (h2 : ∀ i, fnd (kgKS σ) k (kgKn σ) = some i → ¬ kgTO σ i = d) (hs : kgSz σ ≤ 700) (h3 : fnd (kgKS σ) k (kgKn σ) = none → kgKn σ < 16) (h4 : kgSz σ + 20 ≤ 700) : wMv l yX1_learn wsX1_learn ({ frames := 4, cells := 0, slots := 0, locals := 95 } : Room) σ [.long k, .long d] (ofM (sK16 (wrM (kuTh (lnSt σ k d) 0) (nI 4))) (wrM (kuTh (lnSt σ k d) 0) (nI 4))) := by
  intro dC dI cI cJ cZ h sz
  refine Met.ofW (cc := cX1_learn) (maxL := 6) (ret := none) (by decide) rfl ?_
  intro p e s m args below meth c s₁ B hml hv
  obtain ⟨rfl, hsz, hP, hK, hD0⟩ := hv
  have hx := B.exec
  have hb := B.bytes
  have hr := B.returns
  have hts := atoms_spec (ws := wsX1_learn) B.pre
  have hown : s.vm.findClass RX1 = some m.cls := findClass_of_methodNamed B.named
  have hlocks := B.notSynchronized
  subst hsz
  have htg : ∀ w ∈ GW, w.before _ s = true := fun w h => hts w (List.mem_cons_of_mem _ h)
  have hD := hD0.self (sz := s.heap.size)
  generalize hAe : va_A (wBM cI cJ cZ h σ) s.heap.size = A at hD ⊢
  have hA : ∀ q : Nat, s.heap.size ≤ q → A q := fun q h => by rw [← hAe]; exact Or.inr h
  have hS : va_S A s.heap s.heap [] := va_S.rf
  have hl := lv_entry [.ref (h 0), .long k, .long d] (n := 6) (Nat.le_of_ble_eq_true rfl)
  rw [lg_entry_eq]
  generalize (lg_sl [.ref (h 0), .long k, .long d] ++ List.replicate (6 - (lg_sl [.ref (h 0), .long k, .long d]).length) Slot.unset).toArray = ls at hl ⊢
  have hl : lv_has ls 6 [(0, .ref (h 0)), (1, .long k), (3, .long d)] := hl
  have hP : va_P (dC, dI) vwCl (wBM cI cJ cZ h σ) s.heap := hP
  refine lv_aload_n hx hb dX1_learn_0 rfl (lv_at hl 0 rfl) ?_
  refine lv_lload_n hx hb dX1_learn_1 rfl (lv_at hl 1 rfl) ?_
  refine bm_ri (As := [.long k]) (rest := []) (n := 1) ⟨hx, hb, hml, hown, htg⟩ (m_keyOf l σ k (hc)) (cwV 1 htg gX1_102 rfl rfl rfl (by decide +kernel) ⟨Nat.le_of_ble_eq_true rfl, Nat.le_of_ble_eq_true rfl⟩) hK hP hD hS hA hl.1 rfl rfl (Nat.le_of_ble_eq_true rfl) dX1_learn_2 (Nat.zero_le _) (Nat.zero_le _) (fun H locs hP hS => ?_)
  obtain ⟨o, ho⟩ : ∃ zq, zq = fnd (kgKS σ) k (kgKn σ) := ⟨_, rfl⟩
  rw [← ho]
  cases o with
  | none =>
    refine W.eq (g2 := F0 m 5 ls [.int (-1)]) rfl ?_
    refine lv_istore (lv' := [(5, .int (-1)), (0, .ref (h 0)), (1, .long k), (3, .long d)]) hx hb dX1_learn_5 hl (by decide) rfl (fun ls hl => ?_)
    refine lv_aload_n hx hb dX1_learn_7 rfl (lv_at hl 1 rfl) ?_
    refine lv_iconst (v := nI 0) hx hb dX1_learn_8 (by decide) ?_
    refine va_put (D := (dC, dI)) (ci := 1) (v := .int (nI 0)) (ty := .int) (C := RX1) (T := TX1) (N := 18) hx hb htg inX1 tyX1 tyX1_ok nmX1 (fs := fsBM h σ) hown hK hP hD hS 0 rfl rfl 0 (by decide) (htg _ fX1_45) (fun _ h9 => h9) rfl (by decide +kernel) rfl rfl (Nat.le_of_ble_eq_true rfl) dX1_learn_9 (fun H locs hP hD hS => ?_)
    rw [wBM_Th] at hP hD
    refine lv_iload hx hb dX1_learn_12 (lv_at hl 0 rfl) ?_
    refine lv_iconst (v := -1) hx hb dX1_learn_14 (by decide) ?_
    refine lv_icmp_eq (tgt := 31) hx hb dX1_learn_15 (by decide) (fun _ => ?_) (fun c => absurd rfl c)
    refine lv_aload_n hx hb dX1_learn_31 rfl (lv_at hl 1 rfl) ?_
    refine lv_iconst (v := nI 0) hx hb dX1_learn_32 (by decide) ?_
    refine va_put (D := (dC, dI)) (ci := 1) (v := .int (nI 0)) (ty := .int) (C := RX1) (T := TX1) (N := 18) hx hb htg inX1 tyX1 tyX1_ok nmX1 (fs := fsBM h (kuTh σ 0)) hown hK hP hD hS 0 rfl rfl 17 (by decide) (htg _ fX1_65) (fun _ h9 => h9) rfl (by decide +kernel) rfl rfl (Nat.le_of_ble_eq_true rfl) dX1_learn_33 (fun H locs hP hD hS => ?_)
    rw [wBM_Le] at hP hD
    refine lv_aload_n hx hb dX1_learn_36 rfl (lv_at hl 1 rfl) ?_
    refine lv_lload_n hx hb dX1_learn_37 rfl (lv_at hl 2 rfl) ?_
    refine lv_bipush (v := nI 8) hx hb dX1_learn_38 (by decide) ?_
    refine bm_wv (As := [.long k, .int (nI 8)]) (rest := []) (n := 2) ⟨hx, hb, hml, hown, htg⟩ (m_next l (kuLe (kuTh σ 0) 0) k 8 (by first | omega | (show 0 + _ ≤ 700; omega)) (by omega)) (cwV 2 htg gX1_105 rfl rfl rfl (by decide +kernel) ⟨Nat.le_of_ble_eq_true rfl, Nat.le_of_ble_eq_true rfl⟩) hK hP hD hS hA hl.1 rfl rfl (Nat.le_of_ble_eq_true rfl) dX1_learn_40 (Nat.zero_le _) (Nat.zero_le _) (fun H locs hP hD hS => ?_)
    obtain ⟨z1, ez1⟩ : ∃ zq : BM, zq = nxSt (kuLe (kuTh σ 0) 0) k 8 := ⟨_, rfl⟩
    rw [← ez1] at hP hD
    have hLe_z1 : kgLe z1 = 8 := by rw [ez1]; rfl
    have hSz_z1 : kgSz z1 = kgSz σ := by rw [ez1]; rfl
    have hKn_z1 : kgKn z1 = kgKn σ := by rw [ez1]; rfl
    refine lv_aload_n hx hb dX1_learn_43 rfl (lv_at hl 1 rfl) ?_
    refine lv_lload_n hx hb dX1_learn_44 rfl (lv_at hl 3 rfl) ?_
    refine lv_bipush (v := nI 8) hx hb dX1_learn_45 (by decide) ?_
    refine bm_wv (As := [.long d, .int (nI 8)]) (rest := []) (n := 2) ⟨hx, hb, hml, hown, htg⟩ (m_next l z1 d 8 (by first | omega | (show 0 + _ ≤ 700; omega)) (by omega)) (cwV 2 htg gX1_105 rfl rfl rfl (by decide +kernel) ⟨Nat.le_of_ble_eq_true rfl, Nat.le_of_ble_eq_true rfl⟩) hK hP hD hS hA hl.1 rfl rfl (Nat.le_of_ble_eq_true rfl) dX1_learn_47 (Nat.zero_le _) (Nat.zero_le _) (fun H locs hP hD hS => ?_)
    obtain ⟨z2, ez2⟩ : ∃ zq : BM, zq = nxSt z1 d 8 := ⟨_, rfl⟩
    rw [← ez2] at hP hD
    have hLe_z2 : kgLe z2 = 16 := by rw [ez2]; show kgLe z1 + 8 = 16; omega
    have hSz_z2 : kgSz z2 = kgSz σ := by rw [ez2]; exact hSz_z1
    have hKn_z2 : kgKn z2 = kgKn σ := by rw [ez2]; exact hKn_z1
    refine lv_aload_n hx hb dX1_learn_50 rfl (lv_at hl 1 rfl) ?_
    refine lv_iload hx hb dX1_learn_51 (lv_at hl 0 rfl) ?_
    refine lv_iconst (v := -1) hx hb dX1_learn_53 (by decide) ?_
    refine lv_icmp_ne (tgt := 66) hx hb dX1_learn_54 (by decide) (fun c => absurd rfl c) (fun _ => ?_)
    refine lv_aload_n hx hb dX1_learn_57 rfl (lv_at hl 1 rfl) ?_
    refine va_get (D := (dC, dI)) (ci := 1) (v := .int (nI (kgKn z2))) (C := RX1) (T := TX1) (N := 18) hx hb htg inX1 (fs := fsBM h z2) hown hK hP 0 rfl rfl 11 (by decide) (htg _ fX1_75) (fun _ h9 => h9) rfl dX1_learn_58 ?_
    refine lv_bipush (v := nI 16) hx hb dX1_learn_61 (by decide) ?_
    refine xr_icmp_eq (tgt := 73) hx hb dX1_learn_63 (by decide) (by omega) (by omega) (fun c63 => absurd c63 (by have := h3 ho.symm; omega)) (fun c63 => ?_)
    refine lv_aload_n hx hb dX1_learn_66 rfl (lv_at hl 1 rfl) ?_
    refine bm_ri (As := []) (rest := [.ref (h 0)]) (n := 0) ⟨hx, hb, hml, hown, htg⟩ (m_hasRoom l z2  (by omega) (by omega)) (cwV 0 htg gX1_109 rfl rfl rfl (by decide +kernel) ⟨Nat.le_of_ble_eq_true rfl, Nat.le_of_ble_eq_true rfl⟩) hK hP hD hS hA hl.1 rfl rfl (Nat.le_of_ble_eq_true rfl) dX1_learn_67 (Nat.zero_le _) (Nat.zero_le _) (fun H locs hP hS => ?_)
    refine xr_ifneB (tgt := 77) hx hb dX1_learn_70 (by decide) (fun c70 => ?_) (fun c70 => absurd c70 (by rw [decide_eq_true (by omega)]; decide))
    refine lv_iconst (v := nI 0) hx hb dX1_learn_77 (by decide) ?_
    refine va_put (D := (dC, dI)) (ci := 1) (v := .int (nI 0)) (ty := .int) (C := RX1) (T := TX1) (N := 18) hx hb htg inX1 tyX1 tyX1_ok nmX1 (fs := fsBM h z2) hown hK hP hD hS 0 rfl rfl 0 (by decide) (htg _ fX1_45) (fun _ h9 => h9) rfl (by decide +kernel) rfl rfl (Nat.le_of_ble_eq_true rfl) dX1_learn_78 (fun H locs hP hD hS => ?_)
    rw [wBM_Th] at hP hD
    refine lv_aload_n hx hb dX1_learn_81 rfl (lv_at hl 1 rfl) ?_
    refine va_get (D := (dC, dI)) (ci := 1) (v := .int (nI 0)) (C := RX1) (T := TX1) (N := 18) hx hb htg inX1 (fs := fsBM h (kuTh z2 0)) hown hK hP 0 rfl rfl 0 (by decide) (htg _ fX1_45) (fun _ h9 => h9) rfl dX1_learn_82 ?_
    refine lv_if_ne (tgt := 99) hx hb dX1_learn_85 (by decide) (fun c85 => absurd c85 (by decide)) (fun c85 => ?_)
    refine lv_aload_n hx hb dX1_learn_88 rfl (lv_at hl 1 rfl) ?_
    refine lv_iconst (v := nI 4) hx hb dX1_learn_89 (by decide) ?_
    refine bm_wv (As := [.int (nI 4)]) (rest := []) (n := 1) ⟨hx, hb, hml, hown, htg⟩ (m_write l (kuTh z2 0) (nI 4) (by show kgSz z2 + kgLe z2 + 4 ≤ 700; omega)) (cwV 1 htg gX1_112 rfl rfl rfl (by decide +kernel) ⟨Nat.le_of_ble_eq_true rfl, Nat.le_of_ble_eq_true rfl⟩) hK hP hD hS hA hl.1 rfl rfl (Nat.le_of_ble_eq_true rfl) dX1_learn_90 (Nat.zero_le _) (Nat.zero_le _) (fun H locs hP hD hS => ?_)
    obtain ⟨z3, ez3⟩ : ∃ zq : BM, zq = wrM (kuTh z2 0) (nI 4) := ⟨_, rfl⟩
    rw [← ez3] at hP hD
    have hLe9 : kgLe z3 = kgLe z2 := by rw [ez3]; rfl
    have hBl9 : kgBl z3 = kgBl z2 := by rw [ez3]; rfl
    have hKn9 : kgKn z3 = kgKn z2 := by rw [ez3]; rfl
    refine lv_aload_n hx hb dX1_learn_93 rfl (lv_at hl 1 rfl) ?_
    refine lv_iconst (v := nI 4) hx hb dX1_learn_94 (by decide) ?_
    refine bm_wi (As := [.int (nI 4)]) (rest := []) (n := 1) ⟨hx, hb, hml, hown, htg⟩ (m_says4 l z3  (by omega) (by omega)) (cwV 1 htg gX1_116 rfl rfl rfl (by decide +kernel) ⟨Nat.le_of_ble_eq_true rfl, Nat.le_of_ble_eq_true rfl⟩) hK hP hD hS hA hl.1 rfl rfl (Nat.le_of_ble_eq_true rfl) dX1_learn_95 (Nat.zero_le _) (Nat.zero_le _) (fun H locs hP hD hS => ?_)
    obtain ⟨z4, ez4⟩ : ∃ zq : BM, zq = ofM (sK16 z3) z3 := ⟨_, rfl⟩
    rw [← ez4] at hP hD
    refine lv_pop hx hb dX1_learn_98 rfl ?_
    have hfin : z4 = ofM (sK16 (wrM (kuTh (lnSt σ k d) 0) (nI 4))) (wrM (kuTh (lnSt σ k d) 0) (nI 4)) := by rw [ez4, ez3, ez2, ez1]; rfl
    rw [hfin] at hP hD
    exact W.vret hx hb hr (fun t ht hW => ⟨⟨(), rfl, trivial, by rw [ht]; exact hP, va_K.moved hW.alike hK, hD⟩, hS.F ht⟩) hS.2.2 dX1_learn_99
  | some b =>
    have hlto := (fnd_lt ho.symm).1
    refine W.eq (g2 := F0 m 5 ls [.int (nI b)]) rfl ?_
    refine lv_istore (lv' := [(5, .int (nI b)), (0, .ref (h 0)), (1, .long k), (3, .long d)]) hx hb dX1_learn_5 hl (by decide) rfl (fun ls hl => ?_)
    refine lv_aload_n hx hb dX1_learn_7 rfl (lv_at hl 1 rfl) ?_
    refine lv_iconst (v := nI 0) hx hb dX1_learn_8 (by decide) ?_
    refine va_put (D := (dC, dI)) (ci := 1) (v := .int (nI 0)) (ty := .int) (C := RX1) (T := TX1) (N := 18) hx hb htg inX1 tyX1 tyX1_ok nmX1 (fs := fsBM h σ) hown hK hP hD hS 0 rfl rfl 0 (by decide) (htg _ fX1_45) (fun _ h9 => h9) rfl (by decide +kernel) rfl rfl (Nat.le_of_ble_eq_true rfl) dX1_learn_9 (fun H locs hP hD hS => ?_)
    rw [wBM_Th] at hP hD
    refine lv_iload hx hb dX1_learn_12 (lv_at hl 0 rfl) ?_
    refine lv_iconst (v := -1) hx hb dX1_learn_14 (by decide) ?_
    refine lv_icmp_eq (tgt := 31) hx hb dX1_learn_15 (by decide) (fun c => absurd c (optI_none (by omega))) (fun _ => ?_)
    refine lv_aload_n hx hb dX1_learn_18 rfl (lv_at hl 1 rfl) ?_
    refine va_get (D := (dC, dI)) (ci := 1) (v := .ref (h 8)) (C := RX1) (T := TX1) (N := 18) hx hb htg inX1 (fs := fsBM h (kuTh σ 0)) hown hK hP 0 rfl rfl 10 (by decide) (htg _ fX1_33) (fun _ h9 => h9) rfl dX1_learn_19 ?_
    refine lv_iload hx hb dX1_learn_22 (lv_at hl 0 rfl) ?_
    refine xr_lald (f := kgTO σ) (i := b) hx hb hK hP 8 1 rfl rfl (by omega) (by decide) dX1_learn_24 ?_
    refine lv_lload_n hx hb dX1_learn_25 rfl (lv_at hl 3 rfl) ?_
    refine xr_lcmp_ne (tgt := 31) hx hb dX1_learn_26 dX1_learn_27 (by decide) (fun _ => ?_) (fun c => absurd c (h2 _ ho.symm))
    refine lv_aload_n hx hb dX1_learn_31 rfl (lv_at hl 1 rfl) ?_
    refine lv_iconst (v := nI 0) hx hb dX1_learn_32 (by decide) ?_
    refine va_put (D := (dC, dI)) (ci := 1) (v := .int (nI 0)) (ty := .int) (C := RX1) (T := TX1) (N := 18) hx hb htg inX1 tyX1 tyX1_ok nmX1 (fs := fsBM h (kuTh σ 0)) hown hK hP hD hS 0 rfl rfl 17 (by decide) (htg _ fX1_65) (fun _ h9 => h9) rfl (by decide +kernel) rfl rfl (Nat.le_of_ble_eq_true rfl) dX1_learn_33 (fun H locs hP hD hS => ?_)
    rw [wBM_Le] at hP hD
    refine lv_aload_n hx hb dX1_learn_36 rfl (lv_at hl 1 rfl) ?_
    refine lv_lload_n hx hb dX1_learn_37 rfl (lv_at hl 2 rfl) ?_
    refine lv_bipush (v := nI 8) hx hb dX1_learn_38 (by decide) ?_
    refine bm_wv (As := [.long k, .int (nI 8)]) (rest := []) (n := 2) ⟨hx, hb, hml, hown, htg⟩ (m_next l (kuLe (kuTh σ 0) 0) k 8 (by first | omega | (show 0 + _ ≤ 700; omega)) (by omega)) (cwV 2 htg gX1_105 rfl rfl rfl (by decide +kernel) ⟨Nat.le_of_ble_eq_true rfl, Nat.le_of_ble_eq_true rfl⟩) hK hP hD hS hA hl.1 rfl rfl (Nat.le_of_ble_eq_true rfl) dX1_learn_40 (Nat.zero_le _) (Nat.zero_le _) (fun H locs hP hD hS => ?_)
    obtain ⟨z5, ez5⟩ : ∃ zq : BM, zq = nxSt (kuLe (kuTh σ 0) 0) k 8 := ⟨_, rfl⟩
    rw [← ez5] at hP hD
    have hLe_z5 : kgLe z5 = 8 := by rw [ez5]; rfl
    have hSz_z5 : kgSz z5 = kgSz σ := by rw [ez5]; rfl
    have hKn_z5 : kgKn z5 = kgKn σ := by rw [ez5]; rfl
    refine lv_aload_n hx hb dX1_learn_43 rfl (lv_at hl 1 rfl) ?_
    refine lv_lload_n hx hb dX1_learn_44 rfl (lv_at hl 3 rfl) ?_
    refine lv_bipush (v := nI 8) hx hb dX1_learn_45 (by decide) ?_
    refine bm_wv (As := [.long d, .int (nI 8)]) (rest := []) (n := 2) ⟨hx, hb, hml, hown, htg⟩ (m_next l z5 d 8 (by first | omega | (show 0 + _ ≤ 700; omega)) (by omega)) (cwV 2 htg gX1_105 rfl rfl rfl (by decide +kernel) ⟨Nat.le_of_ble_eq_true rfl, Nat.le_of_ble_eq_true rfl⟩) hK hP hD hS hA hl.1 rfl rfl (Nat.le_of_ble_eq_true rfl) dX1_learn_47 (Nat.zero_le _) (Nat.zero_le _) (fun H locs hP hD hS => ?_)
    obtain ⟨z6, ez6⟩ : ∃ zq : BM, zq = nxSt z5 d 8 := ⟨_, rfl⟩
    rw [← ez6] at hP hD
    have hLe_z6 : kgLe z6 = 16 := by rw [ez6]; show kgLe z5 + 8 = 16; omega
    have hSz_z6 : kgSz z6 = kgSz σ := by rw [ez6]; exact hSz_z5
    have hKn_z6 : kgKn z6 = kgKn σ := by rw [ez6]; exact hKn_z5
    refine lv_aload_n hx hb dX1_learn_50 rfl (lv_at hl 1 rfl) ?_
    refine lv_iload hx hb dX1_learn_51 (lv_at hl 0 rfl) ?_
    refine lv_iconst (v := -1) hx hb dX1_learn_53 (by decide) ?_
    refine lv_icmp_ne (tgt := 66) hx hb dX1_learn_54 (by decide) (fun _ => ?_) (fun c => absurd c (optI_none (by omega)))
    refine lv_aload_n hx hb dX1_learn_66 rfl (lv_at hl 1 rfl) ?_
    refine bm_ri (As := []) (rest := [.ref (h 0)]) (n := 0) ⟨hx, hb, hml, hown, htg⟩ (m_hasRoom l z6  (by omega) (by omega)) (cwV 0 htg gX1_109 rfl rfl rfl (by decide +kernel) ⟨Nat.le_of_ble_eq_true rfl, Nat.le_of_ble_eq_true rfl⟩) hK hP hD hS hA hl.1 rfl rfl (Nat.le_of_ble_eq_true rfl) dX1_learn_67 (Nat.zero_le _) (Nat.zero_le _) (fun H locs hP hS => ?_)
    refine xr_ifneB (tgt := 77) hx hb dX1_learn_70 (by decide) (fun c70 => ?_) (fun c70 => absurd c70 (by rw [decide_eq_true (by omega)]; decide))
    refine lv_iconst (v := nI 0) hx hb dX1_learn_77 (by decide) ?_
    refine va_put (D := (dC, dI)) (ci := 1) (v := .int (nI 0)) (ty := .int) (C := RX1) (T := TX1) (N := 18) hx hb htg inX1 tyX1 tyX1_ok nmX1 (fs := fsBM h z6) hown hK hP hD hS 0 rfl rfl 0 (by decide) (htg _ fX1_45) (fun _ h9 => h9) rfl (by decide +kernel) rfl rfl (Nat.le_of_ble_eq_true rfl) dX1_learn_78 (fun H locs hP hD hS => ?_)
    rw [wBM_Th] at hP hD
    refine lv_aload_n hx hb dX1_learn_81 rfl (lv_at hl 1 rfl) ?_
    refine va_get (D := (dC, dI)) (ci := 1) (v := .int (nI 0)) (C := RX1) (T := TX1) (N := 18) hx hb htg inX1 (fs := fsBM h (kuTh z6 0)) hown hK hP 0 rfl rfl 0 (by decide) (htg _ fX1_45) (fun _ h9 => h9) rfl dX1_learn_82 ?_
    refine lv_if_ne (tgt := 99) hx hb dX1_learn_85 (by decide) (fun c85 => absurd c85 (by decide)) (fun c85 => ?_)
    refine lv_aload_n hx hb dX1_learn_88 rfl (lv_at hl 1 rfl) ?_
    refine lv_iconst (v := nI 4) hx hb dX1_learn_89 (by decide) ?_
    refine bm_wv (As := [.int (nI 4)]) (rest := []) (n := 1) ⟨hx, hb, hml, hown, htg⟩ (m_write l (kuTh z6 0) (nI 4) (by show kgSz z6 + kgLe z6 + 4 ≤ 700; omega)) (cwV 1 htg gX1_112 rfl rfl rfl (by decide +kernel) ⟨Nat.le_of_ble_eq_true rfl, Nat.le_of_ble_eq_true rfl⟩) hK hP hD hS hA hl.1 rfl rfl (Nat.le_of_ble_eq_true rfl) dX1_learn_90 (Nat.zero_le _) (Nat.zero_le _) (fun H locs hP hD hS => ?_)
    obtain ⟨z7, ez7⟩ : ∃ zq : BM, zq = wrM (kuTh z6 0) (nI 4) := ⟨_, rfl⟩
    rw [← ez7] at hP hD
    have hLe9 : kgLe z7 = kgLe z6 := by rw [ez7]; rfl
    have hBl9 : kgBl z7 = kgBl z6 := by rw [ez7]; rfl
    have hKn9 : kgKn z7 = kgKn z6 := by rw [ez7]; rfl
    refine lv_aload_n hx hb dX1_learn_93 rfl (lv_at hl 1 rfl) ?_
    refine lv_iconst (v := nI 4) hx hb dX1_learn_94 (by decide) ?_
    refine bm_wi (As := [.int (nI 4)]) (rest := []) (n := 1) ⟨hx, hb, hml, hown, htg⟩ (m_says4 l z7  (by omega) (by omega)) (cwV 1 htg gX1_116 rfl rfl rfl (by decide +kernel) ⟨Nat.le_of_ble_eq_true rfl, Nat.le_of_ble_eq_true rfl⟩) hK hP hD hS hA hl.1 rfl rfl (Nat.le_of_ble_eq_true rfl) dX1_learn_95 (Nat.zero_le _) (Nat.zero_le _) (fun H locs hP hD hS => ?_)
    obtain ⟨z8, ez8⟩ : ∃ zq : BM, zq = ofM (sK16 z7) z7 := ⟨_, rfl⟩
    rw [← ez8] at hP hD
    refine lv_pop hx hb dX1_learn_98 rfl ?_
    have hfin : z8 = ofM (sK16 (wrM (kuTh (lnSt σ k d) 0) (nI 4))) (wrM (kuTh (lnSt σ k d) 0) (nI 4)) := by rw [ez8, ez7, ez6, ez5]; rfl
    rw [hfin] at hP hD
    exact W.vret hx hb hr (fun t ht hW => ⟨⟨(), rfl, trivial, by rw [ht]; exact hP, va_K.moved hW.alike hK, hD⟩, hS.F ht⟩) hS.2.2 dX1_learn_99
