set_option maxRecDepth 100000 in
set_option maxHeartbeats 4000000 in
theorem m_saysBlob (l : Launch) (σ : BM) (hl7 : kgLe σ ≤ 700) (hc : kgBl σ ≤ 20) : wMi l yX1_saysBlob wsX1_saysBlob ({ frames := 2, cells := 0, slots := 0, locals := 47 } : Room) σ [] (bI ((sBlob σ).isSome)) (ofM (sBlob σ) σ) := by
  intro dC dI cI cJ cZ h sz
  refine Met.ofW (cc := cX1_saysBlob) (maxL := 4) (ret := (some .boolean)) (by decide) rfl ?_
  intro p e s m args below meth c s₁ B hml hv
  obtain ⟨rfl, hsz, hP, hK, hD0⟩ := hv
  have hx := B.exec
  have hb := B.bytes
  have hr := B.returns
  have hts := atoms_spec (ws := wsX1_saysBlob) B.pre
  have hown : s.vm.findClass RX1 = some m.cls := findClass_of_methodNamed B.named
  have hlocks := B.notSynchronized
  subst hsz
  have htg : ∀ w ∈ GW, w.before _ s = true := fun w h => hts w (List.mem_cons_of_mem _ h)
  have hD := hD0.self (sz := s.heap.size)
  generalize hAe : va_A (wBM cI cJ cZ h σ) s.heap.size = A at hD ⊢
  have hA : ∀ q : Nat, s.heap.size ≤ q → A q := fun q h => by rw [← hAe]; exact Or.inr h
  have hS : va_S A s.heap s.heap [] := va_S.rf
  have hl := lv_entry [.ref (h 0)] (n := 4) (Nat.le_of_ble_eq_true rfl)
  rw [lg_entry_eq]
  generalize (lg_sl [.ref (h 0)] ++ List.replicate (4 - (lg_sl [.ref (h 0)]).length) Slot.unset).toArray = ls at hl ⊢
  have hl : lv_has ls 4 [(0, .ref (h 0))] := hl
  have hP : va_P (dC, dI) vwCl (wBM cI cJ cZ h σ) s.heap := hP
  refine lv_aload_n hx hb dX1_saysBlob_0 rfl (lv_at hl 0 rfl) ?_
  refine bm_rl (As := []) (rest := []) (n := 0) ⟨hx, hb, hml, hown, htg⟩ (m_digestOfRecord l σ  (hl7)) (cwV 0 htg gX1_99 rfl rfl rfl (by decide +kernel) ⟨Nat.le_of_ble_eq_true rfl, Nat.le_of_ble_eq_true rfl⟩) hK hP hD hS hA hl.1 rfl rfl (Nat.le_of_ble_eq_true rfl) dX1_saysBlob_1 (Nat.zero_le _) (Nat.zero_le _) (fun H locs hP hS => ?_)
  refine lv_lstore_n (lv' := [(1, .long (dg (kgRC σ) 0 (kgLe σ))), (0, .ref (h 0))]) hx hb dX1_saysBlob_4 rfl hl (by decide) rfl (fun ls hl => ?_)
  refine lv_aload_n hx hb dX1_saysBlob_5 rfl (lv_at hl 1 rfl) ?_
  refine lv_lload_n hx hb dX1_saysBlob_6 rfl (lv_at hl 0 rfl) ?_
  refine bm_ri (As := [.long (dg (kgRC σ) 0 (kgLe σ))]) (rest := []) (n := 1) ⟨hx, hb, hml, hown, htg⟩ (m_blobOf l σ (dg (kgRC σ) 0 (kgLe σ)) (hc)) (cwV 1 htg gX1_91 rfl rfl rfl (by decide +kernel) ⟨Nat.le_of_ble_eq_true rfl, Nat.le_of_ble_eq_true rfl⟩) hK hP hD hS hA hl.1 rfl rfl (Nat.le_of_ble_eq_true rfl) dX1_saysBlob_7 (Nat.zero_le _) (Nat.zero_le _) (fun H locs hP hS => ?_)
  obtain ⟨o, ho⟩ : ∃ zq, zq = fnd (kgDG σ) (dg (kgRC σ) 0 (kgLe σ)) (kgBl σ) := ⟨_, rfl⟩
  rw [← ho]
  cases o with
  | none =>
    refine W.eq (g2 := F0 m 10 ls [.int (-1)]) rfl ?_
    refine lv_iconst (v := -1) hx hb dX1_saysBlob_10 (by decide) ?_
    refine lv_icmp_eq (tgt := 16) hx hb dX1_saysBlob_11 (by decide) (fun _ => ?_) (fun c => absurd rfl c)
    refine lv_aload_n hx hb dX1_saysBlob_16 rfl (lv_at hl 1 rfl) ?_
    refine va_get (D := (dC, dI)) (ci := 1) (v := .int (nI (kgBl σ))) (C := RX1) (T := TX1) (N := 18) hx hb htg inX1 (fs := fsBM h σ) hown hK hP 0 rfl rfl 6 (by decide) (htg _ fX1_72) (fun _ h9 => h9) rfl dX1_saysBlob_17 ?_
    refine lv_bipush (v := nI 20) hx hb dX1_saysBlob_20 (by decide) ?_
    refine xr_icmp_ne (tgt := 27) hx hb dX1_saysBlob_22 (by decide) (by omega) (by omega) (fun c22 => ?_) (fun c22 => ?_)
    · refine lv_aload_n hx hb dX1_saysBlob_27 rfl (lv_at hl 1 rfl) ?_
      refine va_get (D := (dC, dI)) (ci := 1) (v := .ref (h 2)) (C := RX1) (T := TX1) (N := 18) hx hb htg inX1 (fs := fsBM h σ) hown hK hP 0 rfl rfl 3 (by decide) (htg _ fX1_13) (fun _ h9 => h9) rfl dX1_saysBlob_28 ?_
      refine lv_aload_n hx hb dX1_saysBlob_31 rfl (lv_at hl 1 rfl) ?_
      refine va_get (D := (dC, dI)) (ci := 1) (v := .int (nI (kgBl σ))) (C := RX1) (T := TX1) (N := 18) hx hb htg inX1 (fs := fsBM h σ) hown hK hP 0 rfl rfl 6 (by decide) (htg _ fX1_72) (fun _ h9 => h9) rfl dX1_saysBlob_32 ?_
      refine lv_lload_n hx hb dX1_saysBlob_35 rfl (lv_at hl 0 rfl) ?_
      refine xr_last (f := kgDG σ) (i := kgBl σ) (x := dg (kgRC σ) 0 (kgLe σ)) hx hb hK hP hD hS 2 1 rfl rfl (by omega) (by decide) dX1_saysBlob_36 (fun H locs hP hD hS => ?_)
      rw [wBM_DG] at hP hD
      refine lv_aload_n hx hb dX1_saysBlob_37 rfl (lv_at hl 1 rfl) ?_
      refine va_get (D := (dC, dI)) (ci := 1) (v := .ref (h 3)) (C := RX1) (T := TX1) (N := 18) hx hb htg inX1 (fs := fsBM h (kuDG σ (vp_updL (kgDG σ) (kgBl σ) (dg (kgRC σ) 0 (kgLe σ))))) hown hK hP 0 rfl rfl 4 (by decide) (htg _ fX1_17) (fun _ h9 => h9) rfl dX1_saysBlob_38 ?_
      refine lv_aload_n hx hb dX1_saysBlob_41 rfl (lv_at hl 1 rfl) ?_
      refine va_get (D := (dC, dI)) (ci := 1) (v := .int (nI (kgBl σ))) (C := RX1) (T := TX1) (N := 18) hx hb htg inX1 (fs := fsBM h (kuDG σ (vp_updL (kgDG σ) (kgBl σ) (dg (kgRC σ) 0 (kgLe σ))))) hown hK hP 0 rfl rfl 6 (by decide) (htg _ fX1_72) (fun _ h9 => h9) rfl dX1_saysBlob_42 ?_
      refine lv_aload_n hx hb dX1_saysBlob_45 rfl (lv_at hl 1 rfl) ?_
      refine va_get (D := (dC, dI)) (ci := 1) (v := .int (nI (kgLe σ))) (C := RX1) (T := TX1) (N := 18) hx hb htg inX1 (fs := fsBM h (kuDG σ (vp_updL (kgDG σ) (kgBl σ) (dg (kgRC σ) 0 (kgLe σ))))) hown hK hP 0 rfl rfl 17 (by decide) (htg _ fX1_65) (fun _ h9 => h9) rfl dX1_saysBlob_46 ?_
      refine xr_iast (f := kgLN σ) (i := kgBl σ) (x := nI (kgLe σ)) hx hb hK hP hD hS 3 0 rfl rfl (by omega) (by decide) dX1_saysBlob_49 (fun H locs hP hD hS => ?_)
      rw [wBM_LN] at hP hD
      refine lv_iconst (v := nI 0) hx hb dX1_saysBlob_50 (by decide) ?_
      refine lv_istore_n (lv' := [(3, .int (nI 0)), (1, .long (dg (kgRC σ) 0 (kgLe σ))), (0, .ref (h 0))]) hx hb dX1_saysBlob_51 rfl hl (by decide) rfl (fun ls hl => ?_)
      have loop : ∀ (fu i : Nat) (z : BM), i ≤ kgLe σ → kgLe σ < i + fu → z = sbSt σ i → ∀ (H : Heap) (locs : List Loc), va_P (dC, dI) vwCl (wBM cI cJ cZ h z) H → va_D A (wBM cI cJ cZ h z) → va_S A s.heap H locs → ∀ (ls : Array Slot), lv_has ls 4 [(3, .int (nI i)), (0, .ref (h 0))] → W p l e (headSpec wsX1_saysBlob ({ frames := 2, cells := 0, slots := 0, locals := 47 } : Room)).room s m ([.ref (h 0)].toArray) below meth c H locs 0 0 (MQ below (va_Qi (fun (r' : Int32) (_ : Unit) => r' = (bI ((sBlob σ).isSome))) (fun _ => aBM dC dI cI cJ cZ h A (ofM (sBlob σ) σ)) A) ([.ref (h 0)].toArray) s 0 0 A) (F0 m 52 ls []) := by
        intro fu
        induction fu with
        | zero => intro i z h1 h2; exact absurd h2 (by omega)
        | succ fu ih =>
          intro i z hi hin ez H locs hP hD hS ls hl
          refine lv_iload_n hx hb dX1_saysBlob_52 rfl (lv_at hl 0 rfl) ?_
          have hLe : kgLe z = kgLe σ := by rw [ez]; rfl
          have hBl : kgBl z = kgBl σ := by rw [ez]; rfl
          refine lv_aload_n hx hb dX1_saysBlob_53 rfl (lv_at hl 1 rfl) ?_
          refine va_get (D := (dC, dI)) (ci := 1) (v := .int (nI (kgLe z))) (C := RX1) (T := TX1) (N := 18) hx hb htg inX1 (fs := fsBM h z) hown hK hP 0 rfl rfl 17 (by decide) (htg _ fX1_65) (fun _ h9 => h9) rfl dX1_saysBlob_54 ?_
          refine xr_icmp_ge (tgt := 87) hx hb dX1_saysBlob_57 (by decide) (by omega) (by omega) (fun c57 => ?_) (fun c57 => ?_)
          · refine lv_aload_n hx hb dX1_saysBlob_87 rfl (lv_at hl 1 rfl) ?_
            refine lv_dup hx hb dX1_saysBlob_88 rfl ?_
            refine va_get (D := (dC, dI)) (ci := 1) (v := .int (nI (kgBl z))) (C := RX1) (T := TX1) (N := 18) hx hb htg inX1 (fs := fsBM h z) hown hK hP 0 rfl rfl 6 (by decide) (htg _ fX1_72) (fun _ h9 => h9) rfl dX1_saysBlob_89 ?_
            refine lv_iconst (v := nI 1) hx hb dX1_saysBlob_92 (by decide) ?_
            refine xr_iadd hx hb dX1_saysBlob_93 ?_
            refine va_put (D := (dC, dI)) (ci := 1) (v := .int (nI (kgBl z + 1))) (ty := .int) (C := RX1) (T := TX1) (N := 18) hx hb htg inX1 tyX1 tyX1_ok nmX1 (fs := fsBM h z) hown hK hP hD hS 0 rfl rfl 6 (by decide) (htg _ fX1_72) (fun _ h9 => h9) rfl (by decide +kernel) rfl rfl (Nat.le_of_ble_eq_true rfl) dX1_saysBlob_94 (fun H locs hP hD hS => ?_)
            rw [wBM_Bl] at hP hD
            refine lv_iconst (v := nI 1) hx hb dX1_saysBlob_97 (by decide) ?_
            have hfin : kuBl z (kgBl z + 1) = ofM (sBlob σ) σ := by rw [sBlob_new ho.symm c22, ez, show i = kgLe σ by omega]; rfl
            rw [hfin] at hP hD
            exact W.zret (ty := .boolean) (v := nI 1) hx hb hr (by first | rfl | decide | exact bI_nar _) (fun t ht hW => ⟨⟨_, (), rfl, by rw [sBlob_new ho.symm c22]; rfl, by rw [ht]; exact hP, va_K.moved hW.alike hK, hD⟩, hS.F ht⟩) hS.2.2 dX1_saysBlob_98
          · refine lv_aload_n hx hb dX1_saysBlob_60 rfl (lv_at hl 1 rfl) ?_
            refine va_get (D := (dC, dI)) (ci := 1) (v := .ref (h 4)) (C := RX1) (T := TX1) (N := 18) hx hb htg inX1 (fs := fsBM h z) hown hK hP 0 rfl rfl 5 (by decide) (htg _ fX1_20) (fun _ h9 => h9) rfl dX1_saysBlob_61 ?_
            refine lv_sipush (v := nI 700) hx hb dX1_saysBlob_64 (by decide) ?_
            refine lv_aload_n hx hb dX1_saysBlob_67 rfl (lv_at hl 1 rfl) ?_
            refine va_get (D := (dC, dI)) (ci := 1) (v := .int (nI (kgBl z))) (C := RX1) (T := TX1) (N := 18) hx hb htg inX1 (fs := fsBM h z) hown hK hP 0 rfl rfl 6 (by decide) (htg _ fX1_72) (fun _ h9 => h9) rfl dX1_saysBlob_68 ?_
            refine xr_imul hx hb dX1_saysBlob_71 ?_
            refine lv_iload_n hx hb dX1_saysBlob_72 rfl (lv_at hl 0 rfl) ?_
            refine xr_iadd hx hb dX1_saysBlob_73 ?_
            refine lv_aload_n hx hb dX1_saysBlob_74 rfl (lv_at hl 1 rfl) ?_
            refine va_get (D := (dC, dI)) (ci := 1) (v := .ref (h 11)) (C := RX1) (T := TX1) (N := 18) hx hb htg inX1 (fs := fsBM h z) hown hK hP 0 rfl rfl 16 (by decide) (htg _ fX1_42) (fun _ h9 => h9) rfl dX1_saysBlob_75 ?_
            refine lv_iload_n hx hb dX1_saysBlob_78 rfl (lv_at hl 0 rfl) ?_
            refine xr_iald (f := kgRC z) (i := i) hx hb hK hP 11 0 rfl rfl (by omega) (by decide) dX1_saysBlob_79 ?_
            refine xr_iast (f := kgBY z) (i := 700 * (kgBl z) + i) (x := (kgRC z) i) hx hb hK hP hD hS 4 0 rfl rfl (by omega) (by decide) dX1_saysBlob_80 (fun H locs hP hD hS => ?_)
            rw [wBM_BY] at hP hD
            refine lv_iinc (v := nI (i + 1)) (lv' := [(3, .int (nI (i + 1))), (0, .ref (h 0))]) hx hb dX1_saysBlob_81 hl (k := 0) rfl (nI_add _ 1) (by decide) rfl (fun ls hl => ?_)
            refine lv_goto (tgt := 52) hx hb dX1_saysBlob_84 (by decide) ?_
            exact ih (i + 1) (kuBY z (upd (kgBY z) (700 * (kgBl z) + i) ((kgRC z) i))) (by omega) (by omega) (by rw [ez]; exact sbSt_step σ i) H locs hP hD hS ls (lv_sub hl [0, 1] rfl)
      exact loop (kgLe σ + 1) 0 (kuLN (kuDG σ (vp_updL (kgDG σ) (kgBl σ) (dg (kgRC σ) 0 (kgLe σ)))) (upd (kgLN σ) (kgBl σ) (nI (kgLe σ)))) (by omega) (by omega) (sbSt_0 σ) _ _ hP hD hS ls (lv_sub hl [0, 2] rfl)
    · refine lv_iconst (v := nI 0) hx hb dX1_saysBlob_25 (by decide) ?_
      have hfin : σ = ofM (sBlob σ) σ := by rw [sBlob_full ho.symm c22]; rfl
      rw [hfin] at hP hD
      exact W.zret (ty := .boolean) (v := nI 0) hx hb hr (by first | rfl | decide | exact bI_nar _) (fun t ht hW => ⟨⟨_, (), rfl, by rw [sBlob_full ho.symm c22]; rfl, by rw [ht]; exact hP, va_K.moved hW.alike hK, hD⟩, hS.F ht⟩) hS.2.2 dX1_saysBlob_26
  | some b =>
    have hlto := (fnd_lt ho.symm).1
    refine W.eq (g2 := F0 m 10 ls [.int (nI b)]) rfl ?_
    refine lv_iconst (v := -1) hx hb dX1_saysBlob_10 (by decide) ?_
    refine lv_icmp_eq (tgt := 16) hx hb dX1_saysBlob_11 (by decide) (fun c => absurd c (optI_none (by omega))) (fun _ => ?_)
    refine lv_iconst (v := nI 1) hx hb dX1_saysBlob_14 (by decide) ?_
    have hfin : σ = ofM (sBlob σ) σ := by rw [sBlob_some ho.symm]; rfl
    rw [hfin] at hP hD
    exact W.zret (ty := .boolean) (v := nI 1) hx hb hr (by first | rfl | decide | exact bI_nar _) (fun t ht hW => ⟨⟨_, (), rfl, by rw [sBlob_some ho.symm]; rfl, by rw [ht]; exact hP, va_K.moved hW.alike hK, hD⟩, hS.F ht⟩) hS.2.2 dX1_saysBlob_15
set_option maxRecDepth 100000 in
set_option maxHeartbeats 4000000 in
theorem m_saysKey (l : Launch) (σ : BM) (k : Int64) (d : Int64) (hc : kgKn σ ≤ 16) : wMi l yX1_saysKey wsX1_saysKey ({ frames := 1, cells := 0, slots := 0, locals := 23 } : Room) σ [.long k, .long d] (bI ((sKey σ k d).isSome)) (ofM (sKey σ k d) σ) := by
  intro dC dI cI cJ cZ h sz
  refine Met.ofW (cc := cX1_saysKey) (maxL := 6) (ret := (some .boolean)) (by decide) rfl ?_
  intro p e s m args below meth c s₁ B hml hv
  obtain ⟨rfl, hsz, hP, hK, hD0⟩ := hv
  have hx := B.exec
  have hb := B.bytes
  have hr := B.returns
  have hts := atoms_spec (ws := wsX1_saysKey) B.pre
  have hown : s.vm.findClass RX1 = some m.cls := findClass_of_methodNamed B.named
  have hlocks := B.notSynchronized
  subst hsz
  have htg : ∀ w ∈ GW, w.before _ s = true := fun w h => hts w (List.mem_cons_of_mem _ h)
  have hD := hD0.self (sz := s.heap.size)
  generalize hAe : va_A (wBM cI cJ cZ h σ) s.heap.size = A at hD ⊢
  have hA : ∀ q : Nat, s.heap.size ≤ q → A q := fun q h => by rw [← hAe]; exact Or.inr h
  have hS : va_S A s.heap s.heap [] := va_S.rf
  have hl := lv_entry [.ref (h 0), .long k, .long d] (n := 6) (Nat.le_of_ble_eq_true rfl)
  rw [lg_entry_eq]
  generalize (lg_sl [.ref (h 0), .long k, .long d] ++ List.replicate (6 - (lg_sl [.ref (h 0), .long k, .long d]).length) Slot.unset).toArray = ls at hl ⊢
  have hl : lv_has ls 6 [(0, .ref (h 0)), (1, .long k), (3, .long d)] := hl
  have hP : va_P (dC, dI) vwCl (wBM cI cJ cZ h σ) s.heap := hP
  refine lv_aload_n hx hb dX1_saysKey_0 rfl (lv_at hl 0 rfl) ?_
  refine lv_lload_n hx hb dX1_saysKey_1 rfl (lv_at hl 1 rfl) ?_
  refine bm_ri (As := [.long k]) (rest := []) (n := 1) ⟨hx, hb, hml, hown, htg⟩ (m_keyOf l σ k (hc)) (cwV 1 htg gX1_102 rfl rfl rfl (by decide +kernel) ⟨Nat.le_of_ble_eq_true rfl, Nat.le_of_ble_eq_true rfl⟩) hK hP hD hS hA hl.1 rfl rfl (Nat.le_of_ble_eq_true rfl) dX1_saysKey_2 (Nat.zero_le _) (Nat.zero_le _) (fun H locs hP hS => ?_)
  obtain ⟨o, ho⟩ : ∃ zq, zq = fnd (kgKS σ) k (kgKn σ) := ⟨_, rfl⟩
  rw [← ho]
  cases o with
  | none =>
    refine W.eq (g2 := F0 m 5 ls [.int (-1)]) rfl ?_
    refine lv_istore (lv' := [(5, .int (-1)), (0, .ref (h 0)), (1, .long k), (3, .long d)]) hx hb dX1_saysKey_5 hl (by decide) rfl (fun ls hl => ?_)
    refine lv_iload hx hb dX1_saysKey_7 (lv_at hl 0 rfl) ?_
    refine lv_iconst (v := -1) hx hb dX1_saysKey_9 (by decide) ?_
    refine lv_icmp_ne (tgt := 24) hx hb dX1_saysKey_10 (by decide) (fun c => absurd rfl c) (fun _ => ?_)
    refine lv_aload_n hx hb dX1_saysKey_13 rfl (lv_at hl 1 rfl) ?_
    refine va_get (D := (dC, dI)) (ci := 1) (v := .int (nI (kgKn σ))) (C := RX1) (T := TX1) (N := 18) hx hb htg inX1 (fs := fsBM h σ) hown hK hP 0 rfl rfl 11 (by decide) (htg _ fX1_75) (fun _ h9 => h9) rfl dX1_saysKey_14 ?_
    refine lv_bipush (v := nI 16) hx hb dX1_saysKey_17 (by decide) ?_
    refine xr_icmp_ne (tgt := 24) hx hb dX1_saysKey_19 (by decide) (by omega) (by omega) (fun c19 => ?_) (fun c19 => ?_)
    · refine lv_iload hx hb dX1_saysKey_24 (lv_at hl 0 rfl) ?_
      refine lv_iconst (v := -1) hx hb dX1_saysKey_26 (by decide) ?_
      refine lv_icmp_ne (tgt := 46) hx hb dX1_saysKey_27 (by decide) (fun c => absurd rfl c) (fun _ => ?_)
      refine lv_aload_n hx hb dX1_saysKey_30 rfl (lv_at hl 1 rfl) ?_
      refine va_get (D := (dC, dI)) (ci := 1) (v := .int (nI (kgKn σ))) (C := RX1) (T := TX1) (N := 18) hx hb htg inX1 (fs := fsBM h σ) hown hK hP 0 rfl rfl 11 (by decide) (htg _ fX1_75) (fun _ h9 => h9) rfl dX1_saysKey_31 ?_
      refine lv_istore (lv' := [(5, .int (nI (kgKn σ))), (0, .ref (h 0)), (1, .long k), (3, .long d)]) hx hb dX1_saysKey_34 hl (by decide) rfl (fun ls hl => ?_)
      refine lv_aload_n hx hb dX1_saysKey_36 rfl (lv_at hl 1 rfl) ?_
      refine lv_dup hx hb dX1_saysKey_37 rfl ?_
      refine va_get (D := (dC, dI)) (ci := 1) (v := .int (nI (kgKn σ))) (C := RX1) (T := TX1) (N := 18) hx hb htg inX1 (fs := fsBM h σ) hown hK hP 0 rfl rfl 11 (by decide) (htg _ fX1_75) (fun _ h9 => h9) rfl dX1_saysKey_38 ?_
      refine lv_iconst (v := nI 1) hx hb dX1_saysKey_41 (by decide) ?_
      refine xr_iadd hx hb dX1_saysKey_42 ?_
      refine va_put (D := (dC, dI)) (ci := 1) (v := .int (nI (kgKn σ + 1))) (ty := .int) (C := RX1) (T := TX1) (N := 18) hx hb htg inX1 tyX1 tyX1_ok nmX1 (fs := fsBM h σ) hown hK hP hD hS 0 rfl rfl 11 (by decide) (htg _ fX1_75) (fun _ h9 => h9) rfl (by decide +kernel) rfl rfl (Nat.le_of_ble_eq_true rfl) dX1_saysKey_43 (fun H locs hP hD hS => ?_)
      rw [wBM_Kn] at hP hD
      refine lv_aload_n hx hb dX1_saysKey_46 rfl (lv_at hl 1 rfl) ?_
      refine va_get (D := (dC, dI)) (ci := 1) (v := .ref (h 7)) (C := RX1) (T := TX1) (N := 18) hx hb htg inX1 (fs := fsBM h (kuKn σ (kgKn σ + 1))) hown hK hP 0 rfl rfl 9 (by decide) (htg _ fX1_30) (fun _ h9 => h9) rfl dX1_saysKey_47 ?_
      refine lv_iload hx hb dX1_saysKey_50 (lv_at hl 0 rfl) ?_
      refine lv_lload_n hx hb dX1_saysKey_52 rfl (lv_at hl 2 rfl) ?_
      refine xr_last (f := kgKS σ) (i := kgKn σ) (x := k) hx hb hK hP hD hS 7 1 rfl rfl (by omega) (by decide) dX1_saysKey_53 (fun H locs hP hD hS => ?_)
      rw [wBM_KS] at hP hD
      refine lv_aload_n hx hb dX1_saysKey_54 rfl (lv_at hl 1 rfl) ?_
      refine va_get (D := (dC, dI)) (ci := 1) (v := .ref (h 8)) (C := RX1) (T := TX1) (N := 18) hx hb htg inX1 (fs := fsBM h (kuKS (kuKn σ (kgKn σ + 1)) (vp_updL (kgKS σ) (kgKn σ) k))) hown hK hP 0 rfl rfl 10 (by decide) (htg _ fX1_33) (fun _ h9 => h9) rfl dX1_saysKey_55 ?_
      refine lv_iload hx hb dX1_saysKey_58 (lv_at hl 0 rfl) ?_
      refine lv_lload_n hx hb dX1_saysKey_60 rfl (lv_at hl 3 rfl) ?_
      refine xr_last (f := kgTO σ) (i := kgKn σ) (x := d) hx hb hK hP hD hS 8 1 rfl rfl (by omega) (by decide) dX1_saysKey_61 (fun H locs hP hD hS => ?_)
      rw [wBM_TO] at hP hD
      refine lv_iconst (v := nI 1) hx hb dX1_saysKey_62 (by decide) ?_
      have hfin : kuTO (kuKS (kuKn σ (kgKn σ + 1)) (vp_updL (kgKS σ) (kgKn σ) k)) (vp_updL (kgTO σ) (kgKn σ) d) = ofM (sKey σ k d) σ := by (first | rw [sKey_some ho.symm] | rw [sKey_new ho.symm c19]); rfl
      rw [hfin] at hP hD
      exact W.zret (ty := .boolean) (v := nI 1) hx hb hr (by first | rfl | decide | exact bI_nar _) (fun t ht hW => ⟨⟨_, (), rfl, by (first | rw [sKey_some ho.symm] | rw [sKey_new ho.symm c19]); rfl, by rw [ht]; exact hP, va_K.moved hW.alike hK, hD⟩, hS.F ht⟩) hS.2.2 dX1_saysKey_63
    · refine lv_iconst (v := nI 0) hx hb dX1_saysKey_22 (by decide) ?_
      have hfin : σ = ofM (sKey σ k d) σ := by (rw [sKey_full ho.symm c19]); rfl
      rw [hfin] at hP hD
      exact W.zret (ty := .boolean) (v := nI 0) hx hb hr (by first | rfl | decide | exact bI_nar _) (fun t ht hW => ⟨⟨_, (), rfl, by (rw [sKey_full ho.symm c19]); rfl, by rw [ht]; exact hP, va_K.moved hW.alike hK, hD⟩, hS.F ht⟩) hS.2.2 dX1_saysKey_23
  | some b =>
    have hlto := (fnd_lt ho.symm).1
    refine W.eq (g2 := F0 m 5 ls [.int (nI b)]) rfl ?_
    refine lv_istore (lv' := [(5, .int (nI b)), (0, .ref (h 0)), (1, .long k), (3, .long d)]) hx hb dX1_saysKey_5 hl (by decide) rfl (fun ls hl => ?_)
    refine lv_iload hx hb dX1_saysKey_7 (lv_at hl 0 rfl) ?_
    refine lv_iconst (v := -1) hx hb dX1_saysKey_9 (by decide) ?_
    refine lv_icmp_ne (tgt := 24) hx hb dX1_saysKey_10 (by decide) (fun _ => ?_) (fun c => absurd c (optI_none (by omega)))
    refine lv_iload hx hb dX1_saysKey_24 (lv_at hl 0 rfl) ?_
    refine lv_iconst (v := -1) hx hb dX1_saysKey_26 (by decide) ?_
    refine lv_icmp_ne (tgt := 46) hx hb dX1_saysKey_27 (by decide) (fun _ => ?_) (fun c => absurd c (optI_none (by omega)))
    refine lv_aload_n hx hb dX1_saysKey_46 rfl (lv_at hl 1 rfl) ?_
    refine va_get (D := (dC, dI)) (ci := 1) (v := .ref (h 7)) (C := RX1) (T := TX1) (N := 18) hx hb htg inX1 (fs := fsBM h σ) hown hK hP 0 rfl rfl 9 (by decide) (htg _ fX1_30) (fun _ h9 => h9) rfl dX1_saysKey_47 ?_
    refine lv_iload hx hb dX1_saysKey_50 (lv_at hl 0 rfl) ?_
    refine lv_lload_n hx hb dX1_saysKey_52 rfl (lv_at hl 2 rfl) ?_
    refine xr_last (f := kgKS σ) (i := b) (x := k) hx hb hK hP hD hS 7 1 rfl rfl (by omega) (by decide) dX1_saysKey_53 (fun H locs hP hD hS => ?_)
    rw [wBM_KS] at hP hD
    refine lv_aload_n hx hb dX1_saysKey_54 rfl (lv_at hl 1 rfl) ?_
    refine va_get (D := (dC, dI)) (ci := 1) (v := .ref (h 8)) (C := RX1) (T := TX1) (N := 18) hx hb htg inX1 (fs := fsBM h (kuKS σ (vp_updL (kgKS σ) b k))) hown hK hP 0 rfl rfl 10 (by decide) (htg _ fX1_33) (fun _ h9 => h9) rfl dX1_saysKey_55 ?_
    refine lv_iload hx hb dX1_saysKey_58 (lv_at hl 0 rfl) ?_
    refine lv_lload_n hx hb dX1_saysKey_60 rfl (lv_at hl 3 rfl) ?_
    refine xr_last (f := kgTO σ) (i := b) (x := d) hx hb hK hP hD hS 8 1 rfl rfl (by omega) (by decide) dX1_saysKey_61 (fun H locs hP hD hS => ?_)
    rw [wBM_TO] at hP hD
    refine lv_iconst (v := nI 1) hx hb dX1_saysKey_62 (by decide) ?_
    have hfin : kuTO (kuKS σ (vp_updL (kgKS σ) b k)) (vp_updL (kgTO σ) b d) = ofM (sKey σ k d) σ := by (first | rw [sKey_some ho.symm] | rw [sKey_new ho.symm c19]); rfl
    rw [hfin] at hP hD
    exact W.zret (ty := .boolean) (v := nI 1) hx hb hr (by first | rfl | decide | exact bI_nar _) (fun t ht hW => ⟨⟨_, (), rfl, by (first | rw [sKey_some ho.symm] | rw [sKey_new ho.symm c19]); rfl, by rw [ht]; exact hP, va_K.moved hW.alike hK, hD⟩, hS.F ht⟩) hS.2.2 dX1_saysKey_63
set_option maxRecDepth 100000 in
set_option maxHeartbeats 4000000 in
theorem m_says1 (l : Launch) (σ : BM) (hl7 : kgLe σ ≤ 700) (hc : kgBl σ ≤ 20) : wMi l yX1_says wsX1_says ({ frames := 3, cells := 0, slots := 0, locals := 70 } : Room) σ [.int (nI 1)] (bI ((sBlob σ).isSome)) (ofM (sBlob σ) σ) := by
  intro dC dI cI cJ cZ h sz
  refine Met.ofW (cc := cX1_says) (maxL := 6) (ret := (some .boolean)) (by decide) rfl ?_
  intro p e s m args below meth c s₁ B hml hv
  obtain ⟨rfl, hsz, hP, hK, hD0⟩ := hv
  have hx := B.exec
  have hb := B.bytes
  have hr := B.returns
  have hts := atoms_spec (ws := wsX1_says) B.pre
  have hown : s.vm.findClass RX1 = some m.cls := findClass_of_methodNamed B.named
  have hlocks := B.notSynchronized
  subst hsz
  have htg : ∀ w ∈ GW, w.before _ s = true := fun w h => hts w (List.mem_cons_of_mem _ h)
  have hD := hD0.self (sz := s.heap.size)
  generalize hAe : va_A (wBM cI cJ cZ h σ) s.heap.size = A at hD ⊢
  have hA : ∀ q : Nat, s.heap.size ≤ q → A q := fun q h => by rw [← hAe]; exact Or.inr h
  have hS : va_S A s.heap s.heap [] := va_S.rf
  have hl := lv_entry [.ref (h 0), .int (nI 1)] (n := 6) (Nat.le_of_ble_eq_true rfl)
  rw [lg_entry_eq]
  generalize (lg_sl [.ref (h 0), .int (nI 1)] ++ List.replicate (6 - (lg_sl [.ref (h 0), .int (nI 1)]).length) Slot.unset).toArray = ls at hl ⊢
  have hl : lv_has ls 6 [(0, .ref (h 0)), (1, .int (nI 1))] := hl
  have hP : va_P (dC, dI) vwCl (wBM cI cJ cZ h σ) s.heap := hP
  refine lv_iload_n hx hb dX1_says_0 rfl (lv_at hl 1 rfl) ?_
  refine lv_tableIn (tgt := 28) (off := 27) hx hb dX1_says_1 (by decide) (by decide) (by decide) (by decide) ?_
  refine lv_aload_n hx hb dX1_says_28 rfl (lv_at hl 0 rfl) ?_
  refine bm_wi (As := []) (rest := []) (n := 0) ⟨hx, hb, hml, hown, htg⟩ (m_saysBlob l σ  (hl7) (hc)) (cwV 0 htg gX1_83 rfl rfl rfl (by decide +kernel) ⟨Nat.le_of_ble_eq_true rfl, Nat.le_of_ble_eq_true rfl⟩) hK hP hD hS hA hl.1 rfl rfl (Nat.le_of_ble_eq_true rfl) dX1_says_29 (Nat.zero_le _) (Nat.zero_le _) (fun H locs hP hD hS => ?_)
  obtain ⟨z1, ez1⟩ : ∃ zq : BM, zq = ofM (sBlob σ) σ := ⟨_, rfl⟩
  rw [← ez1] at hP hD
  have hfin : z1 = ofM (sBlob σ) σ := ez1
  rw [hfin] at hP hD
  exact W.zret (ty := .boolean) (v := bI ((sBlob σ).isSome)) hx hb hr (by first | rfl | decide | exact bI_nar _) (fun t ht hW => ⟨⟨_, (), rfl, rfl, by rw [ht]; exact hP, va_K.moved hW.alike hK, hD⟩, hS.F ht⟩) hS.2.2 dX1_says_32
set_option maxRecDepth 100000 in
set_option maxHeartbeats 4000000 in
theorem m_says2 (l : Launch) (σ : BM) (hby : byt (kgRC σ) 700) (hc : kgBl σ ≤ 20) (hl7 : kgLe σ ≤ 700) : wMi l yX1_says wsX1_says ({ frames := 3, cells := 0, slots := 0, locals := 70 } : Room) σ [.int (nI 2)] (bI ((sTell σ).isSome)) (ofM (sTell σ) σ) := by
  intro dC dI cI cJ cZ h sz
  refine Met.ofW (cc := cX1_says) (maxL := 6) (ret := (some .boolean)) (by decide) rfl ?_
  intro p e s m args below meth c s₁ B hml hv
  obtain ⟨rfl, hsz, hP, hK, hD0⟩ := hv
  have hx := B.exec
  have hb := B.bytes
  have hr := B.returns
  have hts := atoms_spec (ws := wsX1_says) B.pre
  have hown : s.vm.findClass RX1 = some m.cls := findClass_of_methodNamed B.named
  have hlocks := B.notSynchronized
  subst hsz
  have htg : ∀ w ∈ GW, w.before _ s = true := fun w h => hts w (List.mem_cons_of_mem _ h)
  have hD := hD0.self (sz := s.heap.size)
  generalize hAe : va_A (wBM cI cJ cZ h σ) s.heap.size = A at hD ⊢
  have hA : ∀ q : Nat, s.heap.size ≤ q → A q := fun q h => by rw [← hAe]; exact Or.inr h
  have hS : va_S A s.heap s.heap [] := va_S.rf
  have hl := lv_entry [.ref (h 0), .int (nI 2)] (n := 6) (Nat.le_of_ble_eq_true rfl)
  rw [lg_entry_eq]
  generalize (lg_sl [.ref (h 0), .int (nI 2)] ++ List.replicate (6 - (lg_sl [.ref (h 0), .int (nI 2)]).length) Slot.unset).toArray = ls at hl ⊢
  have hl : lv_has ls 6 [(0, .ref (h 0)), (1, .int (nI 2))] := hl
  have hP : va_P (dC, dI) vwCl (wBM cI cJ cZ h σ) s.heap := hP
  refine lv_iload_n hx hb dX1_says_0 rfl (lv_at hl 1 rfl) ?_
  refine lv_tableIn (tgt := 33) (off := 32) hx hb dX1_says_1 (by decide) (by decide) (by decide) (by decide) ?_
  refine lv_aload_n hx hb dX1_says_33 rfl (lv_at hl 0 rfl) ?_
  refine va_get (D := (dC, dI)) (ci := 1) (v := .int (nI (kgLe σ))) (C := RX1) (T := TX1) (N := 18) hx hb htg inX1 (fs := fsBM h σ) hown hK hP 0 rfl rfl 17 (by decide) (htg _ fX1_65) (fun _ h9 => h9) rfl dX1_says_34 ?_
  refine lv_bipush (v := nI 9) hx hb dX1_says_37 (by decide) ?_
  refine xr_icmp_ne (tgt := 50) hx hb dX1_says_39 (by decide) (by omega) (by omega) (fun c39 => ?_) (fun c39 => ?_)
  · refine lv_lconst (v := 0) hx hb dX1_says_50 (by decide) ?_
    refine lv_lstore_n (lv' := [(2, .long 0), (0, .ref (h 0)), (1, .int (nI 2))]) hx hb dX1_says_51 rfl hl (by decide) rfl (fun ls hl => ?_)
    refine lv_aload_n hx hb dX1_says_52 rfl (lv_at hl 1 rfl) ?_
    refine va_get (D := (dC, dI)) (ci := 1) (v := .int (nI (kgLe σ))) (C := RX1) (T := TX1) (N := 18) hx hb htg inX1 (fs := fsBM h σ) hown hK hP 0 rfl rfl 17 (by decide) (htg _ fX1_65) (fun _ h9 => h9) rfl dX1_says_53 ?_
    refine lv_bipush (v := nI 9) hx hb dX1_says_56 (by decide) ?_
    refine xr_icmp_ne (tgt := 85) hx hb dX1_says_58 (by decide) (by omega) (by omega) (fun _ => ?_) (fun c => absurd c c39)
    refine lv_iconst (v := nI 0) hx hb dX1_says_85 (by decide) ?_
    refine lv_istore (lv' := [(4, .int (nI 0)), (2, .long 0), (0, .ref (h 0)), (1, .int (nI 2))]) hx hb dX1_says_86 hl (by decide) rfl (fun ls hl => ?_)
    refine lv_iload hx hb dX1_says_88 (lv_at hl 0 rfl) ?_
    refine lv_if_eq (tgt := 117) hx hb dX1_says_90 (by decide) (fun _ => ?_) (fun c => absurd rfl c)
    refine lv_iload hx hb dX1_says_117 (lv_at hl 0 rfl) ?_
    have hfin : σ = ofM (sTell σ) σ := by (first | rw [sTell_none c39 c69 ho.symm] | rw [sTell_tag c39 (by omega)] | rw [sTell_len c39]); rfl
    rw [hfin] at hP hD
    exact W.zret (ty := .boolean) (v := nI 0) hx hb hr (by first | rfl | decide | exact bI_nar _) (fun t ht hW => ⟨⟨_, (), rfl, by (first | rw [sTell_none c39 c69 ho.symm] | rw [sTell_tag c39 (by omega)] | rw [sTell_len c39]); rfl, by rw [ht]; exact hP, va_K.moved hW.alike hK, hD⟩, hS.F ht⟩) hS.2.2 dX1_says_119
  · refine lv_aload_n hx hb dX1_says_42 rfl (lv_at hl 0 rfl) ?_
    refine lv_iconst (v := nI 1) hx hb dX1_says_43 (by decide) ?_
    refine bm_rl (As := [.int (nI 1)]) (rest := []) (n := 1) ⟨hx, hb, hml, hown, htg⟩ (m_eight l σ 1 (by omega)) (cwV 1 htg gX1_87 rfl rfl rfl (by decide +kernel) ⟨Nat.le_of_ble_eq_true rfl, Nat.le_of_ble_eq_true rfl⟩) hK hP hD hS hA hl.1 rfl rfl (Nat.le_of_ble_eq_true rfl) dX1_says_44 (Nat.zero_le _) (Nat.zero_le _) (fun H locs hP hS => ?_)
    refine lv_goto (tgt := 51) hx hb dX1_says_47 (by decide) ?_
    refine lv_lstore_n (lv' := [(2, .long (longAt (kgRC σ) 1)), (0, .ref (h 0)), (1, .int (nI 2))]) hx hb dX1_says_51 rfl hl (by decide) rfl (fun ls hl => ?_)
    refine lv_aload_n hx hb dX1_says_52 rfl (lv_at hl 1 rfl) ?_
    refine va_get (D := (dC, dI)) (ci := 1) (v := .int (nI (kgLe σ))) (C := RX1) (T := TX1) (N := 18) hx hb htg inX1 (fs := fsBM h σ) hown hK hP 0 rfl rfl 17 (by decide) (htg _ fX1_65) (fun _ h9 => h9) rfl dX1_says_53 ?_
    refine lv_bipush (v := nI 9) hx hb dX1_says_56 (by decide) ?_
    refine xr_icmp_ne (tgt := 85) hx hb dX1_says_58 (by decide) (by omega) (by omega) (fun c => absurd c39 c) (fun _ => ?_)
    refine lv_aload_n hx hb dX1_says_61 rfl (lv_at hl 1 rfl) ?_
    refine va_get (D := (dC, dI)) (ci := 1) (v := .ref (h 11)) (C := RX1) (T := TX1) (N := 18) hx hb htg inX1 (fs := fsBM h σ) hown hK hP 0 rfl rfl 16 (by decide) (htg _ fX1_42) (fun _ h9 => h9) rfl dX1_says_62 ?_
    refine lv_iconst (v := nI 0) hx hb dX1_says_65 (by decide) ?_
    refine xr_iald (f := kgRC σ) (i := 0) hx hb hK hP 11 0 rfl rfl (by omega) (by decide) dX1_says_66 ?_
    refine W.eq (g2 := F0 m 67 ls [.int (nI (nb (kgRC σ) 0))]) (by rw [(hby 0 (by omega)).1]) ?_
    have h256 := (hby 0 (by omega)).2
    refine lv_bipush (v := nI 8) hx hb dX1_says_67 (by decide) ?_
    refine xr_icmp_ge (tgt := 85) hx hb dX1_says_69 (by decide) (by omega) (by omega) (fun c69 => ?_) (fun c69 => ?_)
    · refine lv_iconst (v := nI 0) hx hb dX1_says_85 (by decide) ?_
      refine lv_istore (lv' := [(4, .int (nI 0)), (2, .long (longAt (kgRC σ) 1)), (0, .ref (h 0)), (1, .int (nI 2))]) hx hb dX1_says_86 hl (by decide) rfl (fun ls hl => ?_)
      refine lv_iload hx hb dX1_says_88 (lv_at hl 0 rfl) ?_
      refine lv_if_eq (tgt := 117) hx hb dX1_says_90 (by decide) (fun _ => ?_) (fun c => absurd rfl c)
      refine lv_iload hx hb dX1_says_117 (lv_at hl 0 rfl) ?_
      have hfin : σ = ofM (sTell σ) σ := by (first | rw [sTell_none c39 c69 ho.symm] | rw [sTell_tag c39 (by omega)] | rw [sTell_len c39]); rfl
      rw [hfin] at hP hD
      exact W.zret (ty := .boolean) (v := nI 0) hx hb hr (by first | rfl | decide | exact bI_nar _) (fun t ht hW => ⟨⟨_, (), rfl, by (first | rw [sTell_none c39 c69 ho.symm] | rw [sTell_tag c39 (by omega)] | rw [sTell_len c39]); rfl, by rw [ht]; exact hP, va_K.moved hW.alike hK, hD⟩, hS.F ht⟩) hS.2.2 dX1_says_119
    · refine lv_aload_n hx hb dX1_says_72 rfl (lv_at hl 1 rfl) ?_
      refine lv_lload_n hx hb dX1_says_73 rfl (lv_at hl 0 rfl) ?_
      refine bm_ri (As := [.long (longAt (kgRC σ) 1)]) (rest := []) (n := 1) ⟨hx, hb, hml, hown, htg⟩ (m_blobOf l σ (longAt (kgRC σ) 1) (hc)) (cwV 1 htg gX1_91 rfl rfl rfl (by decide +kernel) ⟨Nat.le_of_ble_eq_true rfl, Nat.le_of_ble_eq_true rfl⟩) hK hP hD hS hA hl.1 rfl rfl (Nat.le_of_ble_eq_true rfl) dX1_says_74 (Nat.zero_le _) (Nat.zero_le _) (fun H locs hP hS => ?_)
      obtain ⟨o, ho⟩ : ∃ zq, zq = fnd (kgDG σ) (longAt (kgRC σ) 1) (kgBl σ) := ⟨_, rfl⟩
      rw [← ho]
      cases o with
      | none =>
        refine W.eq (g2 := F0 m 77 ls [.int (-1)]) rfl ?_
        refine lv_iconst (v := -1) hx hb dX1_says_77 (by decide) ?_
        refine lv_icmp_eq (tgt := 85) hx hb dX1_says_78 (by decide) (fun _ => ?_) (fun c => absurd rfl c)
        refine lv_iconst (v := nI 0) hx hb dX1_says_85 (by decide) ?_
        refine lv_istore (lv' := [(4, .int (nI 0)), (2, .long (longAt (kgRC σ) 1)), (0, .ref (h 0)), (1, .int (nI 2))]) hx hb dX1_says_86 hl (by decide) rfl (fun ls hl => ?_)
        refine lv_iload hx hb dX1_says_88 (lv_at hl 0 rfl) ?_
        refine lv_if_eq (tgt := 117) hx hb dX1_says_90 (by decide) (fun _ => ?_) (fun c => absurd rfl c)
        refine lv_iload hx hb dX1_says_117 (lv_at hl 0 rfl) ?_
        have hfin : σ = ofM (sTell σ) σ := by (first | rw [sTell_none c39 c69 ho.symm] | rw [sTell_tag c39 (by omega)] | rw [sTell_len c39]); rfl
        rw [hfin] at hP hD
        exact W.zret (ty := .boolean) (v := nI 0) hx hb hr (by first | rfl | decide | exact bI_nar _) (fun t ht hW => ⟨⟨_, (), rfl, by (first | rw [sTell_none c39 c69 ho.symm] | rw [sTell_tag c39 (by omega)] | rw [sTell_len c39]); rfl, by rw [ht]; exact hP, va_K.moved hW.alike hK, hD⟩, hS.F ht⟩) hS.2.2 dX1_says_119
      | some b =>
        have hlto := (fnd_lt ho.symm).1
        refine W.eq (g2 := F0 m 77 ls [.int (nI b)]) rfl ?_
        refine lv_iconst (v := -1) hx hb dX1_says_77 (by decide) ?_
        refine lv_icmp_eq (tgt := 85) hx hb dX1_says_78 (by decide) (fun c => absurd c (optI_none (by omega))) (fun _ => ?_)
        refine lv_iconst (v := nI 1) hx hb dX1_says_81 (by decide) ?_
        refine lv_goto (tgt := 86) hx hb dX1_says_82 (by decide) ?_
        refine lv_istore (lv' := [(4, .int (nI 1)), (2, .long (longAt (kgRC σ) 1)), (0, .ref (h 0)), (1, .int (nI 2))]) hx hb dX1_says_86 hl (by decide) rfl (fun ls hl => ?_)
        refine lv_iload hx hb dX1_says_88 (lv_at hl 0 rfl) ?_
        refine lv_if_eq (tgt := 117) hx hb dX1_says_90 (by decide) (fun c => absurd c (by decide)) (fun _ => ?_)
        refine lv_aload_n hx hb dX1_says_93 rfl (lv_at hl 2 rfl) ?_
        refine va_get (D := (dC, dI)) (ci := 1) (v := .ref (h 5)) (C := RX1) (T := TX1) (N := 18) hx hb htg inX1 (fs := fsBM h σ) hown hK hP 0 rfl rfl 7 (by decide) (htg _ fX1_23) (fun _ h9 => h9) rfl dX1_says_94 ?_
        refine lv_aload_n hx hb dX1_says_97 rfl (lv_at hl 2 rfl) ?_
        refine va_get (D := (dC, dI)) (ci := 1) (v := .ref (h 11)) (C := RX1) (T := TX1) (N := 18) hx hb htg inX1 (fs := fsBM h σ) hown hK hP 0 rfl rfl 16 (by decide) (htg _ fX1_42) (fun _ h9 => h9) rfl dX1_says_98 ?_
        refine lv_iconst (v := nI 0) hx hb dX1_says_101 (by decide) ?_
        refine xr_iald (f := kgRC σ) (i := 0) hx hb hK hP 11 0 rfl rfl (by omega) (by decide) dX1_says_102 ?_
        refine W.eq (g2 := F0 m 103 ls [.int (nI (nb (kgRC σ) 0)), .ref (h 5)]) (by rw [(hby 0 (by omega)).1]) ?_
        refine lv_lload_n hx hb dX1_says_103 rfl (lv_at hl 1 rfl) ?_
        refine xr_last (f := kgTG σ) (i := nb (kgRC σ) 0) (x := longAt (kgRC σ) 1) hx hb hK hP hD hS 5 1 rfl rfl (by omega) (by decide) dX1_says_104 (fun H locs hP hD hS => ?_)
        rw [wBM_TG] at hP hD
        refine lv_aload_n hx hb dX1_says_105 rfl (lv_at hl 2 rfl) ?_
        refine va_get (D := (dC, dI)) (ci := 1) (v := .ref (h 6)) (C := RX1) (T := TX1) (N := 18) hx hb htg inX1 (fs := fsBM h (kuTG σ (vp_updL (kgTG σ) (nb (kgRC σ) 0) (longAt (kgRC σ) 1)))) hown hK hP 0 rfl rfl 8 (by decide) (htg _ fX1_26) (fun _ h9 => h9) rfl dX1_says_106 ?_
        refine lv_aload_n hx hb dX1_says_109 rfl (lv_at hl 2 rfl) ?_
        refine va_get (D := (dC, dI)) (ci := 1) (v := .ref (h 11)) (C := RX1) (T := TX1) (N := 18) hx hb htg inX1 (fs := fsBM h (kuTG σ (vp_updL (kgTG σ) (nb (kgRC σ) 0) (longAt (kgRC σ) 1)))) hown hK hP 0 rfl rfl 16 (by decide) (htg _ fX1_42) (fun _ h9 => h9) rfl dX1_says_110 ?_
        refine lv_iconst (v := nI 0) hx hb dX1_says_113 (by decide) ?_
        refine xr_iald (f := kgRC σ) (i := 0) hx hb hK hP 11 0 rfl rfl (by omega) (by decide) dX1_says_114 ?_
        refine W.eq (g2 := F0 m 115 ls [.int (nI (nb (kgRC σ) 0)), .ref (h 6)]) (by rw [(hby 0 (by omega)).1]) ?_
        refine lv_iconst (v := nI 1) hx hb dX1_says_115 (by decide) ?_
        refine xr_zast (f := kgTE σ) (i := nb (kgRC σ) 0) (b := true) hx hb hK hP hD hS 6 2 rfl rfl (by omega) (by decide) dX1_says_116 (fun H locs hP hD hS => ?_)
        rw [wBM_TE] at hP hD
        refine lv_iload hx hb dX1_says_117 (lv_at hl 0 rfl) ?_
        have hfin : kuTE (kuTG σ (vp_updL (kgTG σ) (nb (kgRC σ) 0) (longAt (kgRC σ) 1))) (updB (kgTE σ) (nb (kgRC σ) 0) true) = ofM (sTell σ) σ := by rw [sTell_some c39 c69 ho.symm]; rfl
        rw [hfin] at hP hD
        exact W.zret (ty := .boolean) (v := nI 1) hx hb hr (by first | rfl | decide | exact bI_nar _) (fun t ht hW => ⟨⟨_, (), rfl, by rw [sTell_some c39 c69 ho.symm]; rfl, by rw [ht]; exact hP, va_K.moved hW.alike hK, hD⟩, hS.F ht⟩) hS.2.2 dX1_says_119
set_option maxRecDepth 100000 in
set_option maxHeartbeats 4000000 in
theorem m_says3 (l : Launch) (σ : BM) (hby : byt (kgRC σ) 700) (hc : kgBl σ ≤ 20) (hl7 : kgLe σ ≤ 700) : wMi l yX1_says wsX1_says ({ frames := 3, cells := 0, slots := 0, locals := 70 } : Room) σ [.int (nI 3)] (bI ((sUnt σ).isSome)) (ofM (sUnt σ) σ) := by
  intro dC dI cI cJ cZ h sz
  refine Met.ofW (cc := cX1_says) (maxL := 6) (ret := (some .boolean)) (by decide) rfl ?_
  intro p e s m args below meth c s₁ B hml hv
  obtain ⟨rfl, hsz, hP, hK, hD0⟩ := hv
  have hx := B.exec
  have hb := B.bytes
  have hr := B.returns
  have hts := atoms_spec (ws := wsX1_says) B.pre
  have hown : s.vm.findClass RX1 = some m.cls := findClass_of_methodNamed B.named
  have hlocks := B.notSynchronized
  subst hsz
  have htg : ∀ w ∈ GW, w.before _ s = true := fun w h => hts w (List.mem_cons_of_mem _ h)
  have hD := hD0.self (sz := s.heap.size)
  generalize hAe : va_A (wBM cI cJ cZ h σ) s.heap.size = A at hD ⊢
  have hA : ∀ q : Nat, s.heap.size ≤ q → A q := fun q h => by rw [← hAe]; exact Or.inr h
  have hS : va_S A s.heap s.heap [] := va_S.rf
  have hl := lv_entry [.ref (h 0), .int (nI 3)] (n := 6) (Nat.le_of_ble_eq_true rfl)
  rw [lg_entry_eq]
  generalize (lg_sl [.ref (h 0), .int (nI 3)] ++ List.replicate (6 - (lg_sl [.ref (h 0), .int (nI 3)]).length) Slot.unset).toArray = ls at hl ⊢
  have hl : lv_has ls 6 [(0, .ref (h 0)), (1, .int (nI 3))] := hl
  have hP : va_P (dC, dI) vwCl (wBM cI cJ cZ h σ) s.heap := hP
  refine lv_iload_n hx hb dX1_says_0 rfl (lv_at hl 1 rfl) ?_
  refine lv_tableIn (tgt := 120) (off := 119) hx hb dX1_says_1 (by decide) (by decide) (by decide) (by decide) ?_
  refine lv_aload_n hx hb dX1_says_120 rfl (lv_at hl 0 rfl) ?_
  refine va_get (D := (dC, dI)) (ci := 1) (v := .int (nI (kgLe σ))) (C := RX1) (T := TX1) (N := 18) hx hb htg inX1 (fs := fsBM h σ) hown hK hP 0 rfl rfl 17 (by decide) (htg _ fX1_65) (fun _ h9 => h9) rfl dX1_says_121 ?_
  refine lv_iconst (v := nI 1) hx hb dX1_says_124 (by decide) ?_
  refine xr_icmp_ne (tgt := 143) hx hb dX1_says_125 (by decide) (by omega) (by omega) (fun c125 => ?_) (fun c125 => ?_)
  · refine lv_iconst (v := nI 0) hx hb dX1_says_143 (by decide) ?_
    refine lv_istore (lv' := [(5, .int (nI 0)), (0, .ref (h 0)), (1, .int (nI 3))]) hx hb dX1_says_144 hl (by decide) rfl (fun ls hl => ?_)
    refine lv_iload hx hb dX1_says_146 (lv_at hl 0 rfl) ?_
    refine lv_if_eq (tgt := 163) hx hb dX1_says_148 (by decide) (fun _ => ?_) (fun c => absurd rfl c)
    refine lv_iload hx hb dX1_says_163 (lv_at hl 0 rfl) ?_
    have hfin : σ = ofM (sUnt σ) σ := by (first | rw [sUnt_tag c125 (by omega)] | rw [sUnt_len c125]); rfl
    rw [hfin] at hP hD
    exact W.zret (ty := .boolean) (v := nI 0) hx hb hr (by first | rfl | decide | exact bI_nar _) (fun t ht hW => ⟨⟨_, (), rfl, by (first | rw [sUnt_tag c125 (by omega)] | rw [sUnt_len c125]); rfl, by rw [ht]; exact hP, va_K.moved hW.alike hK, hD⟩, hS.F ht⟩) hS.2.2 dX1_says_165
  · refine lv_aload_n hx hb dX1_says_128 rfl (lv_at hl 0 rfl) ?_
    refine va_get (D := (dC, dI)) (ci := 1) (v := .ref (h 11)) (C := RX1) (T := TX1) (N := 18) hx hb htg inX1 (fs := fsBM h σ) hown hK hP 0 rfl rfl 16 (by decide) (htg _ fX1_42) (fun _ h9 => h9) rfl dX1_says_129 ?_
    refine lv_iconst (v := nI 0) hx hb dX1_says_132 (by decide) ?_
    refine xr_iald (f := kgRC σ) (i := 0) hx hb hK hP 11 0 rfl rfl (by omega) (by decide) dX1_says_133 ?_
    refine W.eq (g2 := F0 m 134 ls [.int (nI (nb (kgRC σ) 0))]) (by rw [(hby 0 (by omega)).1]) ?_
    have h256 := (hby 0 (by omega)).2
    refine lv_bipush (v := nI 8) hx hb dX1_says_134 (by decide) ?_
    refine xr_icmp_ge (tgt := 143) hx hb dX1_says_136 (by decide) (by omega) (by omega) (fun c136 => ?_) (fun c136 => ?_)
    · refine lv_iconst (v := nI 0) hx hb dX1_says_143 (by decide) ?_
      refine lv_istore (lv' := [(5, .int (nI 0)), (0, .ref (h 0)), (1, .int (nI 3))]) hx hb dX1_says_144 hl (by decide) rfl (fun ls hl => ?_)
      refine lv_iload hx hb dX1_says_146 (lv_at hl 0 rfl) ?_
      refine lv_if_eq (tgt := 163) hx hb dX1_says_148 (by decide) (fun _ => ?_) (fun c => absurd rfl c)
      refine lv_iload hx hb dX1_says_163 (lv_at hl 0 rfl) ?_
      have hfin : σ = ofM (sUnt σ) σ := by (first | rw [sUnt_tag c125 (by omega)] | rw [sUnt_len c125]); rfl
      rw [hfin] at hP hD
      exact W.zret (ty := .boolean) (v := nI 0) hx hb hr (by first | rfl | decide | exact bI_nar _) (fun t ht hW => ⟨⟨_, (), rfl, by (first | rw [sUnt_tag c125 (by omega)] | rw [sUnt_len c125]); rfl, by rw [ht]; exact hP, va_K.moved hW.alike hK, hD⟩, hS.F ht⟩) hS.2.2 dX1_says_165
    · refine lv_iconst (v := nI 1) hx hb dX1_says_139 (by decide) ?_
      refine lv_goto (tgt := 144) hx hb dX1_says_140 (by decide) ?_
      refine lv_istore (lv' := [(5, .int (nI 1)), (0, .ref (h 0)), (1, .int (nI 3))]) hx hb dX1_says_144 hl (by decide) rfl (fun ls hl => ?_)
      refine lv_iload hx hb dX1_says_146 (lv_at hl 0 rfl) ?_
      refine lv_if_eq (tgt := 163) hx hb dX1_says_148 (by decide) (fun c => absurd c (by decide)) (fun _ => ?_)
      refine lv_aload_n hx hb dX1_says_151 rfl (lv_at hl 1 rfl) ?_
      refine va_get (D := (dC, dI)) (ci := 1) (v := .ref (h 6)) (C := RX1) (T := TX1) (N := 18) hx hb htg inX1 (fs := fsBM h σ) hown hK hP 0 rfl rfl 8 (by decide) (htg _ fX1_26) (fun _ h9 => h9) rfl dX1_says_152 ?_
      refine lv_aload_n hx hb dX1_says_155 rfl (lv_at hl 1 rfl) ?_
      refine va_get (D := (dC, dI)) (ci := 1) (v := .ref (h 11)) (C := RX1) (T := TX1) (N := 18) hx hb htg inX1 (fs := fsBM h σ) hown hK hP 0 rfl rfl 16 (by decide) (htg _ fX1_42) (fun _ h9 => h9) rfl dX1_says_156 ?_
      refine lv_iconst (v := nI 0) hx hb dX1_says_159 (by decide) ?_
      refine xr_iald (f := kgRC σ) (i := 0) hx hb hK hP 11 0 rfl rfl (by omega) (by decide) dX1_says_160 ?_
      refine W.eq (g2 := F0 m 161 ls [.int (nI (nb (kgRC σ) 0)), .ref (h 6)]) (by rw [(hby 0 (by omega)).1]) ?_
      refine lv_iconst (v := nI 0) hx hb dX1_says_161 (by decide) ?_
      refine xr_zast (f := kgTE σ) (i := nb (kgRC σ) 0) (b := false) hx hb hK hP hD hS 6 2 rfl rfl (by omega) (by decide) dX1_says_162 (fun H locs hP hD hS => ?_)
      rw [wBM_TE] at hP hD
      refine lv_iload hx hb dX1_says_163 (lv_at hl 0 rfl) ?_
      have hfin : kuTE σ (updB (kgTE σ) (nb (kgRC σ) 0) false) = ofM (sUnt σ) σ := by rw [sUnt_some c125 c136]; rfl
      rw [hfin] at hP hD
      exact W.zret (ty := .boolean) (v := nI 1) hx hb hr (by first | rfl | decide | exact bI_nar _) (fun t ht hW => ⟨⟨_, (), rfl, by rw [sUnt_some c125 c136]; rfl, by rw [ht]; exact hP, va_K.moved hW.alike hK, hD⟩, hS.F ht⟩) hS.2.2 dX1_says_165
set_option maxRecDepth 100000 in
set_option maxHeartbeats 4000000 in
theorem m_says4 (l : Launch) (σ : BM) (hk : kgKn σ ≤ 16) (hl7 : kgLe σ ≤ 700) : wMi l yX1_says wsX1_says ({ frames := 3, cells := 0, slots := 0, locals := 70 } : Room) σ [.int (nI 4)] (bI ((sK16 σ).isSome)) (ofM (sK16 σ) σ) := by
  intro dC dI cI cJ cZ h sz
  refine Met.ofW (cc := cX1_says) (maxL := 6) (ret := (some .boolean)) (by decide) rfl ?_
  intro p e s m args below meth c s₁ B hml hv
  obtain ⟨rfl, hsz, hP, hK, hD0⟩ := hv
  have hx := B.exec
  have hb := B.bytes
  have hr := B.returns
  have hts := atoms_spec (ws := wsX1_says) B.pre
  have hown : s.vm.findClass RX1 = some m.cls := findClass_of_methodNamed B.named
  have hlocks := B.notSynchronized
  subst hsz
  have htg : ∀ w ∈ GW, w.before _ s = true := fun w h => hts w (List.mem_cons_of_mem _ h)
  have hD := hD0.self (sz := s.heap.size)
  generalize hAe : va_A (wBM cI cJ cZ h σ) s.heap.size = A at hD ⊢
  have hA : ∀ q : Nat, s.heap.size ≤ q → A q := fun q h => by rw [← hAe]; exact Or.inr h
  have hS : va_S A s.heap s.heap [] := va_S.rf
  have hl := lv_entry [.ref (h 0), .int (nI 4)] (n := 6) (Nat.le_of_ble_eq_true rfl)
  rw [lg_entry_eq]
  generalize (lg_sl [.ref (h 0), .int (nI 4)] ++ List.replicate (6 - (lg_sl [.ref (h 0), .int (nI 4)]).length) Slot.unset).toArray = ls at hl ⊢
  have hl : lv_has ls 6 [(0, .ref (h 0)), (1, .int (nI 4))] := hl
  have hP : va_P (dC, dI) vwCl (wBM cI cJ cZ h σ) s.heap := hP
  refine lv_iload_n hx hb dX1_says_0 rfl (lv_at hl 1 rfl) ?_
  refine lv_tableOut (tgt := 166) hx hb dX1_says_1 (by decide) (by decide) ?_
  refine lv_aload_n hx hb dX1_says_166 rfl (lv_at hl 0 rfl) ?_
  refine va_get (D := (dC, dI)) (ci := 1) (v := .int (nI (kgLe σ))) (C := RX1) (T := TX1) (N := 18) hx hb htg inX1 (fs := fsBM h σ) hown hK hP 0 rfl rfl 17 (by decide) (htg _ fX1_65) (fun _ h9 => h9) rfl dX1_says_167 ?_
  refine lv_bipush (v := nI 16) hx hb dX1_says_170 (by decide) ?_
  refine xr_icmp_ne (tgt := 197) hx hb dX1_says_172 (by decide) (by omega) (by omega) (fun c172 => ?_) (fun c172 => ?_)
  · refine lv_iconst (v := nI 0) hx hb dX1_says_197 (by decide) ?_
    have hfin : σ = ofM (sK16 σ) σ := by rw [sK16, if_neg c172]; rfl
    rw [hfin] at hP hD
    exact W.zret (ty := .boolean) (v := nI 0) hx hb hr (by first | rfl | decide | exact bI_nar _) (fun t ht hW => ⟨⟨_, (), rfl, by rw [sK16, if_neg c172]; rfl, by rw [ht]; exact hP, va_K.moved hW.alike hK, hD⟩, hS.F ht⟩) hS.2.2 dX1_says_198
  · refine lv_aload_n hx hb dX1_says_175 rfl (lv_at hl 0 rfl) ?_
    refine lv_aload_n hx hb dX1_says_176 rfl (lv_at hl 0 rfl) ?_
    refine lv_iconst (v := nI 0) hx hb dX1_says_177 (by decide) ?_
    refine bm_rl (As := [.int (nI 0)]) (rest := [.ref (h 0)]) (n := 1) ⟨hx, hb, hml, hown, htg⟩ (m_eight l σ 0 (by omega)) (cwV 1 htg gX1_87 rfl rfl rfl (by decide +kernel) ⟨Nat.le_of_ble_eq_true rfl, Nat.le_of_ble_eq_true rfl⟩) hK hP hD hS hA hl.1 rfl rfl (Nat.le_of_ble_eq_true rfl) dX1_says_178 (Nat.zero_le _) (Nat.zero_le _) (fun H locs hP hS => ?_)
    refine lv_aload_n hx hb dX1_says_181 rfl (lv_at hl 0 rfl) ?_
    refine lv_bipush (v := nI 8) hx hb dX1_says_182 (by decide) ?_
    refine bm_rl (As := [.int (nI 8)]) (rest := [.long (longAt (kgRC σ) 0), .ref (h 0)]) (n := 1) ⟨hx, hb, hml, hown, htg⟩ (m_eight l σ 8 (by omega)) (cwV 1 htg gX1_87 rfl rfl rfl (by decide +kernel) ⟨Nat.le_of_ble_eq_true rfl, Nat.le_of_ble_eq_true rfl⟩) hK hP hD hS hA hl.1 rfl rfl (Nat.le_of_ble_eq_true rfl) dX1_says_184 (Nat.zero_le _) (Nat.zero_le _) (fun H locs hP hS => ?_)
    refine bm_wi (As := [.long (longAt (kgRC σ) 0), .long (longAt (kgRC σ) 8)]) (rest := []) (n := 2) ⟨hx, hb, hml, hown, htg⟩ (m_saysKey l σ (longAt (kgRC σ) 0) (longAt (kgRC σ) 8) (hk)) (cwV 2 htg gX1_95 rfl rfl rfl (by decide +kernel) ⟨Nat.le_of_ble_eq_true rfl, Nat.le_of_ble_eq_true rfl⟩) hK hP hD hS hA hl.1 rfl rfl (Nat.le_of_ble_eq_true rfl) dX1_says_187 (Nat.zero_le _) (Nat.zero_le _) (fun H locs hP hD hS => ?_)
    obtain ⟨z1, ez1⟩ : ∃ zq : BM, zq = ofM (sKey σ (longAt (kgRC σ) 0) (longAt (kgRC σ) 8)) σ := ⟨_, rfl⟩
    rw [← ez1] at hP hD
    refine xr_ifeqB (tgt := 197) hx hb dX1_says_190 (by decide) (fun c190 => ?_) (fun c190 => ?_)
    · refine lv_iconst (v := nI 0) hx hb dX1_says_197 (by decide) ?_
      have hfin : z1 = ofM (sK16 σ) σ := by rw [sK16, if_pos c172]; exact ez1
      rw [hfin] at hP hD
      exact W.zret (ty := .boolean) (v := nI 0) hx hb hr (by first | rfl | decide | exact bI_nar _) (fun t ht hW => ⟨⟨_, (), rfl, by rw [sK16, if_pos c172, c190]; rfl, by rw [ht]; exact hP, va_K.moved hW.alike hK, hD⟩, hS.F ht⟩) hS.2.2 dX1_says_198
    · refine lv_iconst (v := nI 1) hx hb dX1_says_193 (by decide) ?_
      refine lv_goto (tgt := 198) hx hb dX1_says_194 (by decide) ?_
      have hfin : z1 = ofM (sK16 σ) σ := by rw [sK16, if_pos c172]; exact ez1
      rw [hfin] at hP hD
      exact W.zret (ty := .boolean) (v := nI 1) hx hb hr (by first | rfl | decide | exact bI_nar _) (fun t ht hW => ⟨⟨_, (), rfl, by rw [sK16, if_pos c172, c190]; rfl, by rw [ht]; exact hP, va_K.moved hW.alike hK, hD⟩, hS.F ht⟩) hS.2.2 dX1_says_198
