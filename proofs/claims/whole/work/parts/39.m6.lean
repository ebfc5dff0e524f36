set_option maxRecDepth 100000 in
set_option maxHeartbeats 4000000 in
theorem m_crashT (l : Launch) (σ : BM) (n : Int32) (sp : Int32) (h0 : n < 0 ∨ ¬ n ≤ nI (kgSz σ - kgSy σ)) (hy : kgSy σ ≤ kgSz σ) : wMi l yX1_crash wsX1_crash ({ frames := 4, cells := 0, slots := 0, locals := 95 } : Room) σ [.int n, .int sp] (nI 0) (kuTh σ 1) := by
  intro dC dI cI cJ cZ h sz
  refine Met.ofW (cc := cX1_crash) (maxL := 6) (ret := (some .int)) (by decide) rfl ?_
  intro p e s m args below meth c s₁ B hml hv
  obtain ⟨rfl, hsz, hP, hK, hD0⟩ := hv
  have hx := B.exec
  have hb := B.bytes
  have hr := B.returns
  have hts := atoms_spec (ws := wsX1_crash) B.pre
  have hown : s.vm.findClass RX1 = some m.cls := findClass_of_methodNamed B.named
  have hlocks := B.notSynchronized
  subst hsz
  have htg : ∀ w ∈ GW, w.before _ s = true := fun w h => hts w (List.mem_cons_of_mem _ h)
  have hD := hD0.self (sz := s.heap.size)
  generalize hAe : va_A (wBM cI cJ cZ h σ) s.heap.size = A at hD ⊢
  have hA : ∀ q : Nat, s.heap.size ≤ q → A q := fun q h => by rw [← hAe]; exact Or.inr h
  have hS : va_S A s.heap s.heap [] := va_S.rf
  have hl := lv_entry [.ref (h 0), .int n, .int sp] (n := 6) (Nat.le_of_ble_eq_true rfl)
  rw [lg_entry_eq]
  generalize (lg_sl [.ref (h 0), .int n, .int sp] ++ List.replicate (6 - (lg_sl [.ref (h 0), .int n, .int sp]).length) Slot.unset).toArray = ls at hl ⊢
  have hl : lv_has ls 6 [(0, .ref (h 0)), (1, .int n), (2, .int sp)] := hl
  have hP : va_P (dC, dI) vwCl (wBM cI cJ cZ h σ) s.heap := hP
  refine lv_aload_n hx hb dX1_crash_0 rfl (lv_at hl 0 rfl) ?_
  refine lv_iload_n hx hb dX1_crash_1 rfl (lv_at hl 1 rfl) ?_
  refine lv_if_lt (tgt := 18) hx hb dX1_crash_2 (by decide) (fun c2 => ?_) (fun c2 => ?_)
  · refine lv_iconst (v := nI 1) hx hb dX1_crash_18 (by decide) ?_
    refine lv_goto (tgt := 23) hx hb dX1_crash_19 (by decide) ?_
    refine va_put (D := (dC, dI)) (ci := 1) (v := .int (nI 1)) (ty := .int) (C := RX1) (T := TX1) (N := 18) hx hb htg inX1 tyX1 tyX1_ok nmX1 (fs := fsBM h σ) hown hK hP hD hS 0 rfl rfl 0 (by decide) (htg _ fX1_45) (fun _ h9 => h9) rfl (by decide +kernel) rfl rfl (Nat.le_of_ble_eq_true rfl) dX1_crash_23 (fun H locs hP hD hS => ?_)
    rw [wBM_Th] at hP hD
    refine lv_aload_n hx hb dX1_crash_26 rfl (lv_at hl 0 rfl) ?_
    refine va_get (D := (dC, dI)) (ci := 1) (v := .int (nI 1)) (C := RX1) (T := TX1) (N := 18) hx hb htg inX1 (fs := fsBM h (kuTh σ 1)) hown hK hP 0 rfl rfl 0 (by decide) (htg _ fX1_45) (fun _ h9 => h9) rfl dX1_crash_27 ?_
    refine lv_if_le (tgt := 35) hx hb dX1_crash_30 (by decide) (fun c30 => absurd c30 (by decide)) (fun c30 => ?_)
    refine lv_iconst (v := nI 0) hx hb dX1_crash_33 (by decide) ?_
    have hfin : kuTh σ 1 = kuTh σ 1 := rfl
    rw [hfin] at hP hD
    exact W.iret (v := nI 0) hx hb hr (fun t ht hW => ⟨⟨_, (), rfl, rfl, by rw [ht]; exact hP, va_K.moved hW.alike hK, hD⟩, hS.F ht⟩) hS.2.2 dX1_crash_34
  · refine lv_iload_n hx hb dX1_crash_5 rfl (lv_at hl 1 rfl) ?_
    refine lv_aload_n hx hb dX1_crash_6 rfl (lv_at hl 0 rfl) ?_
    refine va_get (D := (dC, dI)) (ci := 1) (v := .int (nI (kgSz σ))) (C := RX1) (T := TX1) (N := 18) hx hb htg inX1 (fs := fsBM h σ) hown hK hP 0 rfl rfl 14 (by decide) (htg _ fX1_80) (fun _ h9 => h9) rfl dX1_crash_7 ?_
    refine lv_aload_n hx hb dX1_crash_10 rfl (lv_at hl 0 rfl) ?_
    refine va_get (D := (dC, dI)) (ci := 1) (v := .int (nI (kgSy σ))) (C := RX1) (T := TX1) (N := 18) hx hb htg inX1 (fs := fsBM h σ) hown hK hP 0 rfl rfl 15 (by decide) (htg _ fX1_123) (fun _ h9 => h9) rfl dX1_crash_11 ?_
    refine xr_isub hx hb (by omega) dX1_crash_14 ?_
    refine lv_icmp_le (tgt := 22) hx hb dX1_crash_15 (by decide) (fun c15 => absurd c15 (by exact h0.resolve_left c2)) (fun c15 => ?_)
    refine lv_iconst (v := nI 1) hx hb dX1_crash_18 (by decide) ?_
    refine lv_goto (tgt := 23) hx hb dX1_crash_19 (by decide) ?_
    refine va_put (D := (dC, dI)) (ci := 1) (v := .int (nI 1)) (ty := .int) (C := RX1) (T := TX1) (N := 18) hx hb htg inX1 tyX1 tyX1_ok nmX1 (fs := fsBM h σ) hown hK hP hD hS 0 rfl rfl 0 (by decide) (htg _ fX1_45) (fun _ h9 => h9) rfl (by decide +kernel) rfl rfl (Nat.le_of_ble_eq_true rfl) dX1_crash_23 (fun H locs hP hD hS => ?_)
    rw [wBM_Th] at hP hD
    refine lv_aload_n hx hb dX1_crash_26 rfl (lv_at hl 0 rfl) ?_
    refine va_get (D := (dC, dI)) (ci := 1) (v := .int (nI 1)) (C := RX1) (T := TX1) (N := 18) hx hb htg inX1 (fs := fsBM h (kuTh σ 1)) hown hK hP 0 rfl rfl 0 (by decide) (htg _ fX1_45) (fun _ h9 => h9) rfl dX1_crash_27 ?_
    refine lv_if_le (tgt := 35) hx hb dX1_crash_30 (by decide) (fun c30 => absurd c30 (by decide)) (fun c30 => ?_)
    refine lv_iconst (v := nI 0) hx hb dX1_crash_33 (by decide) ?_
    have hfin : kuTh σ 1 = kuTh σ 1 := rfl
    rw [hfin] at hP hD
    exact W.iret (v := nI 0) hx hb hr (fun t ht hW => ⟨⟨_, (), rfl, rfl, by rw [ht]; exact hP, va_K.moved hW.alike hK, hD⟩, hS.F ht⟩) hS.2.2 dX1_crash_34
set_option maxRecDepth 100000 in
set_option maxHeartbeats 4000000 in
theorem m_crashN (l : Launch) (σ : BM) (n : Nat) (sp : Int32) (hn : n ≤ kgSz σ - kgSy σ) (hy : kgSy σ ≤ kgSz σ) (hs : kgSz σ ≤ 700) (hby : byt (kgJR σ) 700) (hrc : byt (kgRC σ) 700) : wMi l yX1_crash wsX1_crash ({ frames := 4, cells := 0, slots := 0, locals := 95 } : Room) σ [.int (nI n), .int sp] (nI ((crM σ sp n).1)) (kuSy (kuSz (crM σ sp n).2 (crM σ sp n).1) (crM σ sp n).1) := by
  intro dC dI cI cJ cZ h sz
  refine Met.ofW (cc := cX1_crash) (maxL := 6) (ret := (some .int)) (by decide) rfl ?_
  intro p e s m args below meth c s₁ B hml hv
  obtain ⟨rfl, hsz, hP, hK, hD0⟩ := hv
  have hx := B.exec
  have hb := B.bytes
  have hr := B.returns
  have hts := atoms_spec (ws := wsX1_crash) B.pre
  have hown : s.vm.findClass RX1 = some m.cls := findClass_of_methodNamed B.named
  have hlocks := B.notSynchronized
  subst hsz
  have htg : ∀ w ∈ GW, w.before _ s = true := fun w h => hts w (List.mem_cons_of_mem _ h)
  have hD := hD0.self (sz := s.heap.size)
  generalize hAe : va_A (wBM cI cJ cZ h σ) s.heap.size = A at hD ⊢
  have hA : ∀ q : Nat, s.heap.size ≤ q → A q := fun q h => by rw [← hAe]; exact Or.inr h
  have hS : va_S A s.heap s.heap [] := va_S.rf
  have hl := lv_entry [.ref (h 0), .int (nI n), .int sp] (n := 6) (Nat.le_of_ble_eq_true rfl)
  rw [lg_entry_eq]
  generalize (lg_sl [.ref (h 0), .int (nI n), .int sp] ++ List.replicate (6 - (lg_sl [.ref (h 0), .int (nI n), .int sp]).length) Slot.unset).toArray = ls at hl ⊢
  have hl : lv_has ls 6 [(0, .ref (h 0)), (1, .int (nI n)), (2, .int sp)] := hl
  have hP : va_P (dC, dI) vwCl (wBM cI cJ cZ h σ) s.heap := hP
  refine lv_aload_n hx hb dX1_crash_0 rfl (lv_at hl 0 rfl) ?_
  refine lv_iload_n hx hb dX1_crash_1 rfl (lv_at hl 1 rfl) ?_
  refine lv_if_lt (tgt := 18) hx hb dX1_crash_2 (by decide) (fun c2 => absurd c2 (by exact nI_pos (by omega))) (fun c2 => ?_)
  refine lv_iload_n hx hb dX1_crash_5 rfl (lv_at hl 1 rfl) ?_
  refine lv_aload_n hx hb dX1_crash_6 rfl (lv_at hl 0 rfl) ?_
  refine va_get (D := (dC, dI)) (ci := 1) (v := .int (nI (kgSz σ))) (C := RX1) (T := TX1) (N := 18) hx hb htg inX1 (fs := fsBM h σ) hown hK hP 0 rfl rfl 14 (by decide) (htg _ fX1_80) (fun _ h9 => h9) rfl dX1_crash_7 ?_
  refine lv_aload_n hx hb dX1_crash_10 rfl (lv_at hl 0 rfl) ?_
  refine va_get (D := (dC, dI)) (ci := 1) (v := .int (nI (kgSy σ))) (C := RX1) (T := TX1) (N := 18) hx hb htg inX1 (fs := fsBM h σ) hown hK hP 0 rfl rfl 15 (by decide) (htg _ fX1_123) (fun _ h9 => h9) rfl dX1_crash_11 ?_
  refine xr_isub hx hb (by omega) dX1_crash_14 ?_
  refine xr_icmp_le (tgt := 22) hx hb dX1_crash_15 (by decide) (by omega) (by omega) (fun c15 => ?_) (fun c15 => absurd c15 (by omega))
  refine lv_iconst (v := nI 0) hx hb dX1_crash_22 (by decide) ?_
  refine va_put (D := (dC, dI)) (ci := 1) (v := .int (nI 0)) (ty := .int) (C := RX1) (T := TX1) (N := 18) hx hb htg inX1 tyX1 tyX1_ok nmX1 (fs := fsBM h σ) hown hK hP hD hS 0 rfl rfl 0 (by decide) (htg _ fX1_45) (fun _ h9 => h9) rfl (by decide +kernel) rfl rfl (Nat.le_of_ble_eq_true rfl) dX1_crash_23 (fun H locs hP hD hS => ?_)
  rw [wBM_Th] at hP hD
  refine lv_aload_n hx hb dX1_crash_26 rfl (lv_at hl 0 rfl) ?_
  refine va_get (D := (dC, dI)) (ci := 1) (v := .int (nI 0)) (C := RX1) (T := TX1) (N := 18) hx hb htg inX1 (fs := fsBM h (kuTh σ 0)) hown hK hP 0 rfl rfl 0 (by decide) (htg _ fX1_45) (fun _ h9 => h9) rfl dX1_crash_27 ?_
  refine lv_if_le (tgt := 35) hx hb dX1_crash_30 (by decide) (fun c30 => ?_) (fun c30 => absurd c30 (by decide))
  refine lv_aload_n hx hb dX1_crash_35 rfl (lv_at hl 0 rfl) ?_
  refine va_get (D := (dC, dI)) (ci := 1) (v := .int (nI (kgSy σ))) (C := RX1) (T := TX1) (N := 18) hx hb htg inX1 (fs := fsBM h (kuTh σ 0)) hown hK hP 0 rfl rfl 15 (by decide) (htg _ fX1_123) (fun _ h9 => h9) rfl dX1_crash_36 ?_
  refine lv_iload_n hx hb dX1_crash_39 rfl (lv_at hl 1 rfl) ?_
  refine xr_iadd hx hb dX1_crash_40 ?_
  refine lv_istore_n (lv' := [(3, .int (nI (kgSy σ + n))), (0, .ref (h 0)), (1, .int (nI n)), (2, .int sp)]) hx hb dX1_crash_41 rfl hl (by decide) rfl (fun ls hl => ?_)
  have rest : ∀ (y0 : BM), y0 = spM (kuTh σ 0) sp n → ∀ (H : Heap) (locs : List Loc), va_P (dC, dI) vwCl (wBM cI cJ cZ h y0) H → va_D A (wBM cI cJ cZ h y0) → va_S A s.heap H locs → ∀ (ls : Array Slot), lv_has ls 6 [(3, .int (nI (kgSy σ + n))), (0, .ref (h 0))] → W p l e (headSpec wsX1_crash ({ frames := 4, cells := 0, slots := 0, locals := 95 } : Room)).room s m ([.ref (h 0), .int (nI n), .int sp].toArray) below meth c H locs 0 0 (MQ below (va_Qi (fun (r' : Int32) (_ : Unit) => r' = (nI ((crM σ sp n).1))) (fun _ => aBM dC dI cI cJ cZ h A (kuSy (kuSz (crM σ sp n).2 (crM σ sp n).1) (crM σ sp n).1)) A) ([.ref (h 0), .int (nI n), .int sp].toArray) s 0 0 A) (F0 m 77 ls []) := by
    intro y0 ey0 H locs hP hD hS ls hl
    refine lv_aload_n hx hb dX1_crash_77 rfl (lv_at hl 1 rfl) ?_
    refine bm_wv (As := []) (rest := []) (n := 0) ⟨hx, hb, hml, hown, htg⟩ (m_empties l y0  ) (cwV 0 htg gX1_126 rfl rfl rfl (by decide +kernel) ⟨Nat.le_of_ble_eq_true rfl, Nat.le_of_ble_eq_true rfl⟩) hK hP hD hS hA hl.1 rfl rfl (Nat.le_of_ble_eq_true rfl) dX1_crash_78 (Nat.zero_le _) (Nat.zero_le _) (fun H locs hP hD hS => ?_)
    obtain ⟨z1, ez1⟩ : ∃ zq : BM, zq = emSt y0 8 := ⟨_, rfl⟩
    rw [← ez1] at hP hD
    refine lv_iconst (v := nI 0) hx hb dX1_crash_81 (by decide) ?_
    refine lv_istore (lv' := [(4, .int (nI 0)), (3, .int (nI (kgSy σ + n))), (0, .ref (h 0))]) hx hb dX1_crash_82 hl (by decide) rfl (fun ls hl => ?_)
    have loop : ∀ (fu i : Nat) (z : BM), i ≤ 4 → 4 < i + fu → z = pnSt z1 i → ∀ (H : Heap) (locs : List Loc), va_P (dC, dI) vwCl (wBM cI cJ cZ h z) H → va_D A (wBM cI cJ cZ h z) → va_S A s.heap H locs → ∀ (ls : Array Slot), lv_has ls 6 [(4, .int (nI i)), (3, .int (nI (kgSy σ + n))), (0, .ref (h 0))] → W p l e (headSpec wsX1_crash ({ frames := 4, cells := 0, slots := 0, locals := 95 } : Room)).room s m ([.ref (h 0), .int (nI n), .int sp].toArray) below meth c H locs 0 0 (MQ below (va_Qi (fun (r' : Int32) (_ : Unit) => r' = (nI ((crM σ sp n).1))) (fun _ => aBM dC dI cI cJ cZ h A (kuSy (kuSz (crM σ sp n).2 (crM σ sp n).1) (crM σ sp n).1)) A) ([.ref (h 0), .int (nI n), .int sp].toArray) s 0 0 A) (F0 m 84 ls []) := by
      intro fu
      induction fu with
      | zero => intro i z h1 h2; exact absurd h2 (by omega)
      | succ fu ih =>
        intro i z hi hin ez H locs hP hD hS ls hl
        refine lv_iload hx hb dX1_crash_84 (lv_at hl 0 rfl) ?_
        refine lv_iconst (v := nI 4) hx hb dX1_crash_86 (by decide) ?_
        refine xr_icmp_ge (tgt := 104) hx hb dX1_crash_87 (by decide) (by omega) (by omega) (fun c87 => ?_) (fun c87 => ?_)
        · have hz : z = cr0 σ sp n := by rw [ez, show i = 4 by omega, ez1, ey0]; rfl
          have hJ0 : byt (kgJR z) 700 := by rw [hz]; exact spM_byt hby (by show kgSy σ + n ≤ 700; omega)
          have hR0 : byt (kgRC z) 700 := by rw [hz]; show byt (kgRC (spM (kuTh σ 0) sp n)) 700; rw [(spM_keep _ _ _).2.1]; exact hrc
          have hB0 : kgBl z ≤ 20 := by rw [hz]; exact Nat.zero_le _
          have hK0 : kgKn z ≤ 16 := by rw [hz]; exact Nat.zero_le _
          refine lv_iconst (v := nI 0) hx hb dX1_crash_104 (by decide) ?_
          refine lv_istore (lv' := [(4, .int (nI 0)), (3, .int (nI (kgSy σ + n))), (0, .ref (h 0))]) hx hb dX1_crash_105 hl (by decide) rfl (fun ls hl => ?_)
          refine lv_aload_n hx hb dX1_crash_107 rfl (lv_at hl 2 rfl) ?_
          refine lv_iconst (v := nI 0) hx hb dX1_crash_108 (by decide) ?_
          refine lv_iload_n hx hb dX1_crash_109 rfl (lv_at hl 1 rfl) ?_
          refine bm_wi (As := [.int (nI 0), .int (nI (kgSy σ + n))]) (rest := []) (n := 2) ⟨hx, hb, hml, hown, htg⟩ (m_reads l z 0 (kgSy σ + n) (by omega) (by omega) (hJ0)) (cwV 2 htg gX1_129 rfl rfl rfl (by decide +kernel) ⟨Nat.le_of_ble_eq_true rfl, Nat.le_of_ble_eq_true rfl⟩) hK hP hD hS hA hl.1 rfl rfl (Nat.le_of_ble_eq_true rfl) dX1_crash_110 (Nat.zero_le _) (Nat.zero_le _) (fun H locs hP hD hS => ?_)
          obtain ⟨z2, ez2⟩ : ∃ zq : BM, zq = (rdR z 0 (kgSy σ + n)).2 := ⟨_, rfl⟩
          rw [← ez2] at hP hD
          refine lv_istore (lv' := [(5, .int (optI (rdR z 0 (kgSy σ + n)).1)), (4, .int (nI 0)), (3, .int (nI (kgSy σ + n))), (0, .ref (h 0))]) hx hb dX1_crash_113 hl (by decide) rfl (fun ls hl => ?_)
          have loop : ∀ (fu a : Nat) (y w0 : BM), a ≤ kgSy σ + n → kgSy σ + n < a + 4 * fu → crL (kgSy σ + n) fu a y = crM σ sp n → byt (kgJR y) 700 → byt (kgRC y) 700 → kgBl y ≤ 20 → kgKn y ≤ 16 → w0 = (rdR y a (kgSy σ + n)).2 → ∀ (H : Heap) (locs : List Loc), va_P (dC, dI) vwCl (wBM cI cJ cZ h w0) H → va_D A (wBM cI cJ cZ h w0) → va_S A s.heap H locs → ∀ (ls : Array Slot), lv_has ls 6 [(5, .int (optI (rdR y a (kgSy σ + n)).1)), (4, .int (nI a)), (3, .int (nI (kgSy σ + n))), (0, .ref (h 0))] → W p l e (headSpec wsX1_crash ({ frames := 4, cells := 0, slots := 0, locals := 95 } : Room)).room s m ([.ref (h 0), .int (nI n), .int sp].toArray) below meth c H locs 0 0 (MQ below (va_Qi (fun (r' : Int32) (_ : Unit) => r' = (nI ((crM σ sp n).1))) (fun _ => aBM dC dI cI cJ cZ h A (kuSy (kuSz (crM σ sp n).2 (crM σ sp n).1) (crM σ sp n).1)) A) ([.ref (h 0), .int (nI n), .int sp].toArray) s 0 0 A) (F0 m 115 ls []) := by
            intro fu
            induction fu with
            | zero => intro a y w0 h1 h2; exact absurd h2 (by omega)
            | succ fu ih =>
              intro a y w0 h1 h2 hR hJ hC hBl hKn ew0 H locs hP hD hS ls hl
              have hkp := rdR_keep y a (kgSy σ + n)
              rw [← ew0] at hkp
              obtain ⟨hk1, hk2, hk3, hk4⟩ := hkp
              have hk4 := hk4 hC hJ (by omega)
              obtain ⟨o, ho⟩ : ∃ zq, zq = (rdR y a (kgSy σ + n)).1 := ⟨_, rfl⟩
              rw [← ho] at hl
              cases o with
              | none =>
                have hl : lv_has ls 6 [(5, .int (-1)), (4, .int (nI a)), (3, .int (nI (kgSy σ + n))), (0, .ref (h 0))] := hl
                rw [crL_1 ho.symm, ← ew0] at hR
                refine lv_iload hx hb dX1_crash_115 (lv_at hl 0 rfl) ?_
                refine lv_iconst (v := -1) hx hb dX1_crash_117 (by decide) ?_
                refine lv_icmp_eq (tgt := 151) hx hb dX1_crash_118 (by decide) (fun _ => ?_) (fun c => absurd rfl c)
                refine lv_aload_n hx hb dX1_crash_151 rfl (lv_at hl 3 rfl) ?_
                refine lv_iload hx hb dX1_crash_152 (lv_at hl 1 rfl) ?_
                refine va_put (D := (dC, dI)) (ci := 1) (v := .int (nI a)) (ty := .int) (C := RX1) (T := TX1) (N := 18) hx hb htg inX1 tyX1 tyX1_ok nmX1 (fs := fsBM h w0) hown hK hP hD hS 0 rfl rfl 14 (by decide) (htg _ fX1_80) (fun _ h9 => h9) rfl (by decide +kernel) rfl rfl (Nat.le_of_ble_eq_true rfl) dX1_crash_154 (fun H locs hP hD hS => ?_)
                rw [wBM_Sz] at hP hD
                refine lv_aload_n hx hb dX1_crash_157 rfl (lv_at hl 3 rfl) ?_
                refine lv_iload hx hb dX1_crash_158 (lv_at hl 1 rfl) ?_
                refine va_put (D := (dC, dI)) (ci := 1) (v := .int (nI a)) (ty := .int) (C := RX1) (T := TX1) (N := 18) hx hb htg inX1 tyX1 tyX1_ok nmX1 (fs := fsBM h (kuSz w0 a)) hown hK hP hD hS 0 rfl rfl 15 (by decide) (htg _ fX1_123) (fun _ h9 => h9) rfl (by decide +kernel) rfl rfl (Nat.le_of_ble_eq_true rfl) dX1_crash_160 (fun H locs hP hD hS => ?_)
                rw [wBM_Sy] at hP hD
                refine lv_iload hx hb dX1_crash_163 (lv_at hl 1 rfl) ?_
                have hfin : kuSy (kuSz w0 a) a = kuSy (kuSz (crM σ sp n).2 (crM σ sp n).1) (crM σ sp n).1 := by rw [← hR]
                rw [hfin] at hP hD
                exact W.iret (v := nI a) hx hb hr (fun t ht hW => ⟨⟨_, (), rfl, by rw [← hR], by rw [ht]; exact hP, va_K.moved hW.alike hK, hD⟩, hS.F ht⟩) hS.2.2 dX1_crash_165
              | some b =>
                have hl : lv_has ls 6 [(5, .int (nI b)), (4, .int (nI a)), (3, .int (nI (kgSy σ + n))), (0, .ref (h 0))] := hl
                obtain ⟨q1, q2, q3, q4, q5, q6⟩ := rdR_some ho.symm
                rw [← ew0] at q6
                have hnb : kgJR w0 a = nI (nb (kgJR y) a) := by rw [hk1]; exact (hJ a (by omega)).1
                refine lv_iload hx hb dX1_crash_115 (lv_at hl 0 rfl) ?_
                refine lv_iconst (v := -1) hx hb dX1_crash_117 (by decide) ?_
                refine lv_icmp_eq (tgt := 151) hx hb dX1_crash_118 (by decide) (fun c => absurd c (optI_none (by omega))) (fun _ => ?_)
                refine lv_aload_n hx hb dX1_crash_121 rfl (lv_at hl 3 rfl) ?_
                refine lv_aload_n hx hb dX1_crash_122 rfl (lv_at hl 3 rfl) ?_
                refine va_get (D := (dC, dI)) (ci := 1) (v := .ref (h 10)) (C := RX1) (T := TX1) (N := 18) hx hb htg inX1 (fs := fsBM h w0) hown hK hP 0 rfl rfl 13 (by decide) (htg _ fX1_39) (fun _ h9 => h9) rfl dX1_crash_123 ?_
                refine lv_iload hx hb dX1_crash_126 (lv_at hl 1 rfl) ?_
                refine xr_iald (f := kgJR w0) (i := a) hx hb hK hP 10 0 rfl rfl (by omega) (by decide) dX1_crash_128 ?_
                have hcase : nb (kgJR y) a = 1 ∨ nb (kgJR y) a = 2 ∨ nb (kgJR y) a = 3 ∨ nb (kgJR y) a = 4 := by omega
                rw [hnb]
                rcases hcase with hk | hk | hk | hk
                · rw [hk]
                  refine W.eq (g2 := F0 m 129 ls [.int (nI 1), .ref (h 0)]) rfl ?_
                  refine bm_wi (As := [.int (nI 1)]) (rest := []) (n := 1) ⟨hx, hb, hml, hown, htg⟩ (m_says1 l w0  (by omega) (by omega)) (cwV 1 htg gX1_116 rfl rfl rfl (by decide +kernel) ⟨Nat.le_of_ble_eq_true rfl, Nat.le_of_ble_eq_true rfl⟩) hK hP hD hS hA hl.1 rfl rfl (Nat.le_of_ble_eq_true rfl) dX1_crash_129 (Nat.zero_le _) (Nat.zero_le _) (fun H locs hP hD hS => ?_)
                  obtain ⟨z3, ez3⟩ : ∃ zq : BM, zq = ofM (sBlob w0) w0 := ⟨_, rfl⟩
                  rw [← ez3] at hP hD
                  refine xr_ifeqB (tgt := 151) hx hb dX1_crash_132 (by decide) (fun c132 => ?_) (fun c132 => ?_)
                  · refine lv_aload_n hx hb dX1_crash_151 rfl (lv_at hl 3 rfl) ?_
                    refine lv_iload hx hb dX1_crash_152 (lv_at hl 1 rfl) ?_
                    refine va_put (D := (dC, dI)) (ci := 1) (v := .int (nI a)) (ty := .int) (C := RX1) (T := TX1) (N := 18) hx hb htg inX1 tyX1 tyX1_ok nmX1 (fs := fsBM h z3) hown hK hP hD hS 0 rfl rfl 14 (by decide) (htg _ fX1_80) (fun _ h9 => h9) rfl (by decide +kernel) rfl rfl (Nat.le_of_ble_eq_true rfl) dX1_crash_154 (fun H locs hP hD hS => ?_)
                    rw [wBM_Sz] at hP hD
                    refine lv_aload_n hx hb dX1_crash_157 rfl (lv_at hl 3 rfl) ?_
                    refine lv_iload hx hb dX1_crash_158 (lv_at hl 1 rfl) ?_
                    refine va_put (D := (dC, dI)) (ci := 1) (v := .int (nI a)) (ty := .int) (C := RX1) (T := TX1) (N := 18) hx hb htg inX1 tyX1 tyX1_ok nmX1 (fs := fsBM h (kuSz z3 a)) hown hK hP hD hS 0 rfl rfl 15 (by decide) (htg _ fX1_123) (fun _ h9 => h9) rfl (by decide +kernel) rfl rfl (Nat.le_of_ble_eq_true rfl) dX1_crash_160 (fun H locs hP hD hS => ?_)
                    rw [wBM_Sy] at hP hD
                    refine lv_iload hx hb dX1_crash_163 (lv_at hl 1 rfl) ?_
                    have hfin : kuSy (kuSz z3 a) a = kuSy (kuSz (crM σ sp n).2 (crM σ sp n).1) (crM σ sp n).1 := by rw [← hR, crL_2 ho.symm (show saysM (rdR y a (kgSy σ + n)).2 (nb (kgJR y) a) = none by rw [hk, ← ew0]; show sBlob w0 = none; exact Option.not_isSome_iff_eq_none.mp (by rw [c132]; decide)), ← ew0, ez3, show sBlob w0 = none from Option.not_isSome_iff_eq_none.mp (by rw [c132]; decide)]; rfl
                    rw [hfin] at hP hD
                    exact W.iret (v := nI a) hx hb hr (fun t ht hW => ⟨⟨_, (), rfl, by rw [← hR, crL_2 ho.symm (show saysM (rdR y a (kgSy σ + n)).2 (nb (kgJR y) a) = none by rw [hk, ← ew0]; show sBlob w0 = none; exact Option.not_isSome_iff_eq_none.mp (by rw [c132]; decide))], by rw [ht]; exact hP, va_K.moved hW.alike hK, hD⟩, hS.F ht⟩) hS.2.2 dX1_crash_165
                  · have hy2 : sBlob w0 = some z3 := by
                      obtain ⟨q, hq⟩ := Option.isSome_iff_exists.mp c132
                      rw [ez3, hq]; rfl
                    have hsay : saysM (rdR y a (kgSy σ + n)).2 (nb (kgJR y) a) = some z3 := by rw [hk, ← ew0]; exact hy2
                    have hs := saysM_keep hsay
                    rw [← ew0] at hs
                    obtain ⟨hs1, hs2, hs3, hs4⟩ := hs
                    refine lv_iload hx hb dX1_crash_135 (lv_at hl 0 rfl) ?_
                    refine lv_istore (lv' := [(4, .int (nI b)), (5, .int (nI b)), (3, .int (nI (kgSy σ + n))), (0, .ref (h 0))]) hx hb dX1_crash_137 hl (by decide) rfl (fun ls hl => ?_)
                    refine lv_aload_n hx hb dX1_crash_139 rfl (lv_at hl 3 rfl) ?_
                    refine lv_iload hx hb dX1_crash_140 (lv_at hl 0 rfl) ?_
                    refine lv_iload_n hx hb dX1_crash_142 rfl (lv_at hl 2 rfl) ?_
                    refine bm_wi (As := [.int (nI b), .int (nI (kgSy σ + n))]) (rest := []) (n := 2) ⟨hx, hb, hml, hown, htg⟩ (m_reads l z3 b (kgSy σ + n) (by omega) (by omega) (by rw [hs1, hk1]; exact hJ)) (cwV 2 htg gX1_129 rfl rfl rfl (by decide +kernel) ⟨Nat.le_of_ble_eq_true rfl, Nat.le_of_ble_eq_true rfl⟩) hK hP hD hS hA hl.1 rfl rfl (Nat.le_of_ble_eq_true rfl) dX1_crash_143 (Nat.zero_le _) (Nat.zero_le _) (fun H locs hP hD hS => ?_)
                    obtain ⟨z4, ez4⟩ : ∃ zq : BM, zq = (rdR z3 b (kgSy σ + n)).2 := ⟨_, rfl⟩
                    rw [← ez4] at hP hD
                    refine lv_istore (lv' := [(5, .int (optI (rdR z3 b (kgSy σ + n)).1)), (4, .int (nI b)), (3, .int (nI (kgSy σ + n))), (0, .ref (h 0))]) hx hb dX1_crash_146 hl (by decide) rfl (fun ls hl => ?_)
                    refine lv_goto (tgt := 115) hx hb dX1_crash_148 (by decide) ?_
                    exact ih b z3 z4 (by omega) (by omega) (by rw [← hR]; exact (crL_3 ho.symm hsay).symm) (by rw [hs1, hk1]; exact hJ) (by rw [hs4]; exact hk4) (hs2 (by omega)) (hs3 (by omega)) ez4 _ _ hP hD hS ls (lv_sub hl [0, 1, 2, 3] rfl)
                · rw [hk]
                  refine W.eq (g2 := F0 m 129 ls [.int (nI 2), .ref (h 0)]) rfl ?_
                  refine bm_wi (As := [.int (nI 2)]) (rest := []) (n := 1) ⟨hx, hb, hml, hown, htg⟩ (m_says2 l w0  (hk4) (by omega) (by omega)) (cwV 1 htg gX1_116 rfl rfl rfl (by decide +kernel) ⟨Nat.le_of_ble_eq_true rfl, Nat.le_of_ble_eq_true rfl⟩) hK hP hD hS hA hl.1 rfl rfl (Nat.le_of_ble_eq_true rfl) dX1_crash_129 (Nat.zero_le _) (Nat.zero_le _) (fun H locs hP hD hS => ?_)
                  obtain ⟨z5, ez5⟩ : ∃ zq : BM, zq = ofM (sTell w0) w0 := ⟨_, rfl⟩
                  rw [← ez5] at hP hD
                  refine xr_ifeqB (tgt := 151) hx hb dX1_crash_132 (by decide) (fun c132 => ?_) (fun c132 => ?_)
                  · refine lv_aload_n hx hb dX1_crash_151 rfl (lv_at hl 3 rfl) ?_
                    refine lv_iload hx hb dX1_crash_152 (lv_at hl 1 rfl) ?_
                    refine va_put (D := (dC, dI)) (ci := 1) (v := .int (nI a)) (ty := .int) (C := RX1) (T := TX1) (N := 18) hx hb htg inX1 tyX1 tyX1_ok nmX1 (fs := fsBM h z5) hown hK hP hD hS 0 rfl rfl 14 (by decide) (htg _ fX1_80) (fun _ h9 => h9) rfl (by decide +kernel) rfl rfl (Nat.le_of_ble_eq_true rfl) dX1_crash_154 (fun H locs hP hD hS => ?_)
                    rw [wBM_Sz] at hP hD
                    refine lv_aload_n hx hb dX1_crash_157 rfl (lv_at hl 3 rfl) ?_
                    refine lv_iload hx hb dX1_crash_158 (lv_at hl 1 rfl) ?_
                    refine va_put (D := (dC, dI)) (ci := 1) (v := .int (nI a)) (ty := .int) (C := RX1) (T := TX1) (N := 18) hx hb htg inX1 tyX1 tyX1_ok nmX1 (fs := fsBM h (kuSz z5 a)) hown hK hP hD hS 0 rfl rfl 15 (by decide) (htg _ fX1_123) (fun _ h9 => h9) rfl (by decide +kernel) rfl rfl (Nat.le_of_ble_eq_true rfl) dX1_crash_160 (fun H locs hP hD hS => ?_)
                    rw [wBM_Sy] at hP hD
                    refine lv_iload hx hb dX1_crash_163 (lv_at hl 1 rfl) ?_
                    have hfin : kuSy (kuSz z5 a) a = kuSy (kuSz (crM σ sp n).2 (crM σ sp n).1) (crM σ sp n).1 := by rw [← hR, crL_2 ho.symm (show saysM (rdR y a (kgSy σ + n)).2 (nb (kgJR y) a) = none by rw [hk, ← ew0]; show sTell w0 = none; exact Option.not_isSome_iff_eq_none.mp (by rw [c132]; decide)), ← ew0, ez5, show sTell w0 = none from Option.not_isSome_iff_eq_none.mp (by rw [c132]; decide)]; rfl
                    rw [hfin] at hP hD
                    exact W.iret (v := nI a) hx hb hr (fun t ht hW => ⟨⟨_, (), rfl, by rw [← hR, crL_2 ho.symm (show saysM (rdR y a (kgSy σ + n)).2 (nb (kgJR y) a) = none by rw [hk, ← ew0]; show sTell w0 = none; exact Option.not_isSome_iff_eq_none.mp (by rw [c132]; decide))], by rw [ht]; exact hP, va_K.moved hW.alike hK, hD⟩, hS.F ht⟩) hS.2.2 dX1_crash_165
                  · have hy2 : sTell w0 = some z5 := by
                      obtain ⟨q, hq⟩ := Option.isSome_iff_exists.mp c132
                      rw [ez5, hq]; rfl
                    have hsay : saysM (rdR y a (kgSy σ + n)).2 (nb (kgJR y) a) = some z5 := by rw [hk, ← ew0]; exact hy2
                    have hs := saysM_keep hsay
                    rw [← ew0] at hs
                    obtain ⟨hs1, hs2, hs3, hs4⟩ := hs
                    refine lv_iload hx hb dX1_crash_135 (lv_at hl 0 rfl) ?_
                    refine lv_istore (lv' := [(4, .int (nI b)), (5, .int (nI b)), (3, .int (nI (kgSy σ + n))), (0, .ref (h 0))]) hx hb dX1_crash_137 hl (by decide) rfl (fun ls hl => ?_)
                    refine lv_aload_n hx hb dX1_crash_139 rfl (lv_at hl 3 rfl) ?_
                    refine lv_iload hx hb dX1_crash_140 (lv_at hl 0 rfl) ?_
                    refine lv_iload_n hx hb dX1_crash_142 rfl (lv_at hl 2 rfl) ?_
                    refine bm_wi (As := [.int (nI b), .int (nI (kgSy σ + n))]) (rest := []) (n := 2) ⟨hx, hb, hml, hown, htg⟩ (m_reads l z5 b (kgSy σ + n) (by omega) (by omega) (by rw [hs1, hk1]; exact hJ)) (cwV 2 htg gX1_129 rfl rfl rfl (by decide +kernel) ⟨Nat.le_of_ble_eq_true rfl, Nat.le_of_ble_eq_true rfl⟩) hK hP hD hS hA hl.1 rfl rfl (Nat.le_of_ble_eq_true rfl) dX1_crash_143 (Nat.zero_le _) (Nat.zero_le _) (fun H locs hP hD hS => ?_)
                    obtain ⟨z6, ez6⟩ : ∃ zq : BM, zq = (rdR z5 b (kgSy σ + n)).2 := ⟨_, rfl⟩
                    rw [← ez6] at hP hD
                    refine lv_istore (lv' := [(5, .int (optI (rdR z5 b (kgSy σ + n)).1)), (4, .int (nI b)), (3, .int (nI (kgSy σ + n))), (0, .ref (h 0))]) hx hb dX1_crash_146 hl (by decide) rfl (fun ls hl => ?_)
                    refine lv_goto (tgt := 115) hx hb dX1_crash_148 (by decide) ?_
                    exact ih b z5 z6 (by omega) (by omega) (by rw [← hR]; exact (crL_3 ho.symm hsay).symm) (by rw [hs1, hk1]; exact hJ) (by rw [hs4]; exact hk4) (hs2 (by omega)) (hs3 (by omega)) ez6 _ _ hP hD hS ls (lv_sub hl [0, 1, 2, 3] rfl)
                · rw [hk]
                  refine W.eq (g2 := F0 m 129 ls [.int (nI 3), .ref (h 0)]) rfl ?_
                  refine bm_wi (As := [.int (nI 3)]) (rest := []) (n := 1) ⟨hx, hb, hml, hown, htg⟩ (m_says3 l w0  (hk4) (by omega) (by omega)) (cwV 1 htg gX1_116 rfl rfl rfl (by decide +kernel) ⟨Nat.le_of_ble_eq_true rfl, Nat.le_of_ble_eq_true rfl⟩) hK hP hD hS hA hl.1 rfl rfl (Nat.le_of_ble_eq_true rfl) dX1_crash_129 (Nat.zero_le _) (Nat.zero_le _) (fun H locs hP hD hS => ?_)
                  obtain ⟨z7, ez7⟩ : ∃ zq : BM, zq = ofM (sUnt w0) w0 := ⟨_, rfl⟩
                  rw [← ez7] at hP hD
                  refine xr_ifeqB (tgt := 151) hx hb dX1_crash_132 (by decide) (fun c132 => ?_) (fun c132 => ?_)
                  · refine lv_aload_n hx hb dX1_crash_151 rfl (lv_at hl 3 rfl) ?_
                    refine lv_iload hx hb dX1_crash_152 (lv_at hl 1 rfl) ?_
                    refine va_put (D := (dC, dI)) (ci := 1) (v := .int (nI a)) (ty := .int) (C := RX1) (T := TX1) (N := 18) hx hb htg inX1 tyX1 tyX1_ok nmX1 (fs := fsBM h z7) hown hK hP hD hS 0 rfl rfl 14 (by decide) (htg _ fX1_80) (fun _ h9 => h9) rfl (by decide +kernel) rfl rfl (Nat.le_of_ble_eq_true rfl) dX1_crash_154 (fun H locs hP hD hS => ?_)
                    rw [wBM_Sz] at hP hD
                    refine lv_aload_n hx hb dX1_crash_157 rfl (lv_at hl 3 rfl) ?_
                    refine lv_iload hx hb dX1_crash_158 (lv_at hl 1 rfl) ?_
                    refine va_put (D := (dC, dI)) (ci := 1) (v := .int (nI a)) (ty := .int) (C := RX1) (T := TX1) (N := 18) hx hb htg inX1 tyX1 tyX1_ok nmX1 (fs := fsBM h (kuSz z7 a)) hown hK hP hD hS 0 rfl rfl 15 (by decide) (htg _ fX1_123) (fun _ h9 => h9) rfl (by decide +kernel) rfl rfl (Nat.le_of_ble_eq_true rfl) dX1_crash_160 (fun H locs hP hD hS => ?_)
                    rw [wBM_Sy] at hP hD
                    refine lv_iload hx hb dX1_crash_163 (lv_at hl 1 rfl) ?_
                    have hfin : kuSy (kuSz z7 a) a = kuSy (kuSz (crM σ sp n).2 (crM σ sp n).1) (crM σ sp n).1 := by rw [← hR, crL_2 ho.symm (show saysM (rdR y a (kgSy σ + n)).2 (nb (kgJR y) a) = none by rw [hk, ← ew0]; show sUnt w0 = none; exact Option.not_isSome_iff_eq_none.mp (by rw [c132]; decide)), ← ew0, ez7, show sUnt w0 = none from Option.not_isSome_iff_eq_none.mp (by rw [c132]; decide)]; rfl
                    rw [hfin] at hP hD
                    exact W.iret (v := nI a) hx hb hr (fun t ht hW => ⟨⟨_, (), rfl, by rw [← hR, crL_2 ho.symm (show saysM (rdR y a (kgSy σ + n)).2 (nb (kgJR y) a) = none by rw [hk, ← ew0]; show sUnt w0 = none; exact Option.not_isSome_iff_eq_none.mp (by rw [c132]; decide))], by rw [ht]; exact hP, va_K.moved hW.alike hK, hD⟩, hS.F ht⟩) hS.2.2 dX1_crash_165
                  · have hy2 : sUnt w0 = some z7 := by
                      obtain ⟨q, hq⟩ := Option.isSome_iff_exists.mp c132
                      rw [ez7, hq]; rfl
                    have hsay : saysM (rdR y a (kgSy σ + n)).2 (nb (kgJR y) a) = some z7 := by rw [hk, ← ew0]; exact hy2
                    have hs := saysM_keep hsay
                    rw [← ew0] at hs
                    obtain ⟨hs1, hs2, hs3, hs4⟩ := hs
                    refine lv_iload hx hb dX1_crash_135 (lv_at hl 0 rfl) ?_
                    refine lv_istore (lv' := [(4, .int (nI b)), (5, .int (nI b)), (3, .int (nI (kgSy σ + n))), (0, .ref (h 0))]) hx hb dX1_crash_137 hl (by decide) rfl (fun ls hl => ?_)
                    refine lv_aload_n hx hb dX1_crash_139 rfl (lv_at hl 3 rfl) ?_
                    refine lv_iload hx hb dX1_crash_140 (lv_at hl 0 rfl) ?_
                    refine lv_iload_n hx hb dX1_crash_142 rfl (lv_at hl 2 rfl) ?_
                    refine bm_wi (As := [.int (nI b), .int (nI (kgSy σ + n))]) (rest := []) (n := 2) ⟨hx, hb, hml, hown, htg⟩ (m_reads l z7 b (kgSy σ + n) (by omega) (by omega) (by rw [hs1, hk1]; exact hJ)) (cwV 2 htg gX1_129 rfl rfl rfl (by decide +kernel) ⟨Nat.le_of_ble_eq_true rfl, Nat.le_of_ble_eq_true rfl⟩) hK hP hD hS hA hl.1 rfl rfl (Nat.le_of_ble_eq_true rfl) dX1_crash_143 (Nat.zero_le _) (Nat.zero_le _) (fun H locs hP hD hS => ?_)
                    obtain ⟨z8, ez8⟩ : ∃ zq : BM, zq = (rdR z7 b (kgSy σ + n)).2 := ⟨_, rfl⟩
                    rw [← ez8] at hP hD
                    refine lv_istore (lv' := [(5, .int (optI (rdR z7 b (kgSy σ + n)).1)), (4, .int (nI b)), (3, .int (nI (kgSy σ + n))), (0, .ref (h 0))]) hx hb dX1_crash_146 hl (by decide) rfl (fun ls hl => ?_)
                    refine lv_goto (tgt := 115) hx hb dX1_crash_148 (by decide) ?_
                    exact ih b z7 z8 (by omega) (by omega) (by rw [← hR]; exact (crL_3 ho.symm hsay).symm) (by rw [hs1, hk1]; exact hJ) (by rw [hs4]; exact hk4) (hs2 (by omega)) (hs3 (by omega)) ez8 _ _ hP hD hS ls (lv_sub hl [0, 1, 2, 3] rfl)
                · rw [hk]
                  refine W.eq (g2 := F0 m 129 ls [.int (nI 4), .ref (h 0)]) rfl ?_
                  refine bm_wi (As := [.int (nI 4)]) (rest := []) (n := 1) ⟨hx, hb, hml, hown, htg⟩ (m_says4 l w0  (by omega) (by omega)) (cwV 1 htg gX1_116 rfl rfl rfl (by decide +kernel) ⟨Nat.le_of_ble_eq_true rfl, Nat.le_of_ble_eq_true rfl⟩) hK hP hD hS hA hl.1 rfl rfl (Nat.le_of_ble_eq_true rfl) dX1_crash_129 (Nat.zero_le _) (Nat.zero_le _) (fun H locs hP hD hS => ?_)
                  obtain ⟨z9, ez9⟩ : ∃ zq : BM, zq = ofM (sK16 w0) w0 := ⟨_, rfl⟩
                  rw [← ez9] at hP hD
                  refine xr_ifeqB (tgt := 151) hx hb dX1_crash_132 (by decide) (fun c132 => ?_) (fun c132 => ?_)
                  · refine lv_aload_n hx hb dX1_crash_151 rfl (lv_at hl 3 rfl) ?_
                    refine lv_iload hx hb dX1_crash_152 (lv_at hl 1 rfl) ?_
                    refine va_put (D := (dC, dI)) (ci := 1) (v := .int (nI a)) (ty := .int) (C := RX1) (T := TX1) (N := 18) hx hb htg inX1 tyX1 tyX1_ok nmX1 (fs := fsBM h z9) hown hK hP hD hS 0 rfl rfl 14 (by decide) (htg _ fX1_80) (fun _ h9 => h9) rfl (by decide +kernel) rfl rfl (Nat.le_of_ble_eq_true rfl) dX1_crash_154 (fun H locs hP hD hS => ?_)
                    rw [wBM_Sz] at hP hD
                    refine lv_aload_n hx hb dX1_crash_157 rfl (lv_at hl 3 rfl) ?_
                    refine lv_iload hx hb dX1_crash_158 (lv_at hl 1 rfl) ?_
                    refine va_put (D := (dC, dI)) (ci := 1) (v := .int (nI a)) (ty := .int) (C := RX1) (T := TX1) (N := 18) hx hb htg inX1 tyX1 tyX1_ok nmX1 (fs := fsBM h (kuSz z9 a)) hown hK hP hD hS 0 rfl rfl 15 (by decide) (htg _ fX1_123) (fun _ h9 => h9) rfl (by decide +kernel) rfl rfl (Nat.le_of_ble_eq_true rfl) dX1_crash_160 (fun H locs hP hD hS => ?_)
                    rw [wBM_Sy] at hP hD
                    refine lv_iload hx hb dX1_crash_163 (lv_at hl 1 rfl) ?_
                    have hfin : kuSy (kuSz z9 a) a = kuSy (kuSz (crM σ sp n).2 (crM σ sp n).1) (crM σ sp n).1 := by rw [← hR, crL_2 ho.symm (show saysM (rdR y a (kgSy σ + n)).2 (nb (kgJR y) a) = none by rw [hk, ← ew0]; show sK16 w0 = none; exact Option.not_isSome_iff_eq_none.mp (by rw [c132]; decide)), ← ew0, ez9, show sK16 w0 = none from Option.not_isSome_iff_eq_none.mp (by rw [c132]; decide)]; rfl
                    rw [hfin] at hP hD
                    exact W.iret (v := nI a) hx hb hr (fun t ht hW => ⟨⟨_, (), rfl, by rw [← hR, crL_2 ho.symm (show saysM (rdR y a (kgSy σ + n)).2 (nb (kgJR y) a) = none by rw [hk, ← ew0]; show sK16 w0 = none; exact Option.not_isSome_iff_eq_none.mp (by rw [c132]; decide))], by rw [ht]; exact hP, va_K.moved hW.alike hK, hD⟩, hS.F ht⟩) hS.2.2 dX1_crash_165
                  · have hy2 : sK16 w0 = some z9 := by
                      obtain ⟨q, hq⟩ := Option.isSome_iff_exists.mp c132
                      rw [ez9, hq]; rfl
                    have hsay : saysM (rdR y a (kgSy σ + n)).2 (nb (kgJR y) a) = some z9 := by rw [hk, ← ew0]; exact hy2
                    have hs := saysM_keep hsay
                    rw [← ew0] at hs
                    obtain ⟨hs1, hs2, hs3, hs4⟩ := hs
                    refine lv_iload hx hb dX1_crash_135 (lv_at hl 0 rfl) ?_
                    refine lv_istore (lv' := [(4, .int (nI b)), (5, .int (nI b)), (3, .int (nI (kgSy σ + n))), (0, .ref (h 0))]) hx hb dX1_crash_137 hl (by decide) rfl (fun ls hl => ?_)
                    refine lv_aload_n hx hb dX1_crash_139 rfl (lv_at hl 3 rfl) ?_
                    refine lv_iload hx hb dX1_crash_140 (lv_at hl 0 rfl) ?_
                    refine lv_iload_n hx hb dX1_crash_142 rfl (lv_at hl 2 rfl) ?_
                    refine bm_wi (As := [.int (nI b), .int (nI (kgSy σ + n))]) (rest := []) (n := 2) ⟨hx, hb, hml, hown, htg⟩ (m_reads l z9 b (kgSy σ + n) (by omega) (by omega) (by rw [hs1, hk1]; exact hJ)) (cwV 2 htg gX1_129 rfl rfl rfl (by decide +kernel) ⟨Nat.le_of_ble_eq_true rfl, Nat.le_of_ble_eq_true rfl⟩) hK hP hD hS hA hl.1 rfl rfl (Nat.le_of_ble_eq_true rfl) dX1_crash_143 (Nat.zero_le _) (Nat.zero_le _) (fun H locs hP hD hS => ?_)
                    obtain ⟨z10, ez10⟩ : ∃ zq : BM, zq = (rdR z9 b (kgSy σ + n)).2 := ⟨_, rfl⟩
                    rw [← ez10] at hP hD
                    refine lv_istore (lv' := [(5, .int (optI (rdR z9 b (kgSy σ + n)).1)), (4, .int (nI b)), (3, .int (nI (kgSy σ + n))), (0, .ref (h 0))]) hx hb dX1_crash_146 hl (by decide) rfl (fun ls hl => ?_)
                    refine lv_goto (tgt := 115) hx hb dX1_crash_148 (by decide) ?_
                    exact ih b z9 z10 (by omega) (by omega) (by rw [← hR]; exact (crL_3 ho.symm hsay).symm) (by rw [hs1, hk1]; exact hJ) (by rw [hs4]; exact hk4) (hs2 (by omega)) (hs3 (by omega)) ez10 _ _ hP hD hS ls (lv_sub hl [0, 1, 2, 3] rfl)
          exact loop 176 0 z z2 (Nat.zero_le _) (by omega) (by rw [hz]; rfl) hJ0 hR0 hB0 hK0 ez2 _ _ hP hD hS ls (lv_sub hl [0, 1, 2, 3] rfl)
        · refine lv_aload_n hx hb dX1_crash_90 rfl (lv_at hl 2 rfl) ?_
          refine va_get (D := (dC, dI)) (ci := 1) (v := .ref (h 9)) (C := RX1) (T := TX1) (N := 18) hx hb htg inX1 (fs := fsBM h z) hown hK hP 0 rfl rfl 12 (by decide) (htg _ fX1_36) (fun _ h9 => h9) rfl dX1_crash_91 ?_
          refine lv_iload hx hb dX1_crash_94 (lv_at hl 0 rfl) ?_
          refine lv_lconst (v := 0) hx hb dX1_crash_96 (by decide) ?_
          refine xr_last (f := kgPN z) (i := i) (x := 0) hx hb hK hP hD hS 9 1 rfl rfl (by omega) (by decide) dX1_crash_97 (fun H locs hP hD hS => ?_)
          rw [wBM_PN] at hP hD
          refine lv_iinc (v := nI (i + 1)) (lv' := [(4, .int (nI (i + 1))), (3, .int (nI (kgSy σ + n))), (0, .ref (h 0))]) hx hb dX1_crash_98 hl (k := 0) rfl (nI_add _ 1) (by decide) rfl (fun ls hl => ?_)
          refine lv_goto (tgt := 84) hx hb dX1_crash_101 (by decide) ?_
          exact ih (i + 1) (kuPN z (vp_updL (kgPN z) i 0)) (by omega) (by omega) (by rw [ez]; exact pnSt_step z1 i) H locs hP hD hS ls (lv_sub hl [0, 1, 2] rfl)
    exact loop (4 + 1) 0 z1 (by omega) (by omega) (pnSt_0 z1) _ _ hP hD hS ls (lv_sub hl [0, 1, 2] rfl)
  refine lv_iload_n hx hb dX1_crash_42 rfl (lv_at hl 3 rfl) ?_
  refine lv_if_lt (tgt := 77) hx hb dX1_crash_43 (by decide) (fun c43 => ?_) (fun c43 => ?_)
  · exact rest (kuTh σ 0) (spM_no (by first | exact Or.inl c43 | exact Or.inr c48)) _ _ hP hD hS ls (lv_sub hl [0, 1] rfl)
  · refine lv_iload_n hx hb dX1_crash_46 rfl (lv_at hl 3 rfl) ?_
    refine lv_iload_n hx hb dX1_crash_47 rfl (lv_at hl 2 rfl) ?_
    refine lv_icmp_ge (tgt := 77) hx hb dX1_crash_48 (by decide) (fun c48 => ?_) (fun c48 => ?_)
    · exact rest (kuTh σ 0) (spM_no (by first | exact Or.inl c43 | exact Or.inr c48)) _ _ hP hD hS ls (lv_sub hl [0, 1] rfl)
    · obtain ⟨j, hj, rfl⟩ := nI_of c43
      have hjn := (nI_ltI hj (by omega)).mp (Int32.not_le.mp c48)
      refine lv_aload_n hx hb dX1_crash_51 rfl (lv_at hl 1 rfl) ?_
      refine va_get (D := (dC, dI)) (ci := 1) (v := .ref (h 10)) (C := RX1) (T := TX1) (N := 18) hx hb htg inX1 (fs := fsBM h (kuTh σ 0)) hown hK hP 0 rfl rfl 13 (by decide) (htg _ fX1_39) (fun _ h9 => h9) rfl dX1_crash_52 ?_
      refine lv_aload_n hx hb dX1_crash_55 rfl (lv_at hl 1 rfl) ?_
      refine va_get (D := (dC, dI)) (ci := 1) (v := .int (nI (kgSy σ))) (C := RX1) (T := TX1) (N := 18) hx hb htg inX1 (fs := fsBM h (kuTh σ 0)) hown hK hP 0 rfl rfl 15 (by decide) (htg _ fX1_123) (fun _ h9 => h9) rfl dX1_crash_56 ?_
      refine lv_iload_n hx hb dX1_crash_59 rfl (lv_at hl 3 rfl) ?_
      refine xr_iadd hx hb dX1_crash_60 ?_
      refine lv_sipush (v := nI 255) hx hb dX1_crash_61 (by decide) ?_
      refine lv_aload_n hx hb dX1_crash_64 rfl (lv_at hl 1 rfl) ?_
      refine va_get (D := (dC, dI)) (ci := 1) (v := .ref (h 10)) (C := RX1) (T := TX1) (N := 18) hx hb htg inX1 (fs := fsBM h (kuTh σ 0)) hown hK hP 0 rfl rfl 13 (by decide) (htg _ fX1_39) (fun _ h9 => h9) rfl dX1_crash_65 ?_
      refine lv_aload_n hx hb dX1_crash_68 rfl (lv_at hl 1 rfl) ?_
      refine va_get (D := (dC, dI)) (ci := 1) (v := .int (nI (kgSy σ))) (C := RX1) (T := TX1) (N := 18) hx hb htg inX1 (fs := fsBM h (kuTh σ 0)) hown hK hP 0 rfl rfl 15 (by decide) (htg _ fX1_123) (fun _ h9 => h9) rfl dX1_crash_69 ?_
      refine lv_iload_n hx hb dX1_crash_72 rfl (lv_at hl 3 rfl) ?_
      refine xr_iadd hx hb dX1_crash_73 ?_
      refine xr_iald (f := kgJR σ) (i := kgSy σ + j) hx hb hK hP 10 0 rfl rfl (by omega) (by decide) dX1_crash_74 ?_
      refine lv_isub hx hb dX1_crash_75 ?_
      refine xr_iast (f := kgJR σ) (i := kgSy σ + j) (x := (nI 255) - ((kgJR σ) (kgSy σ + j))) hx hb hK hP hD hS 10 0 rfl rfl (by omega) (by decide) dX1_crash_76 (fun H locs hP hD hS => ?_)
      rw [wBM_JR] at hP hD
      exact rest (kuJR (kuTh σ 0) (upd (kgJR σ) (kgSy σ + j) ((nI 255) - ((kgJR σ) (kgSy σ + j))))) ((spM_yes hj (by omega) hjn).symm) _ _ hP hD hS ls (lv_sub hl [0, 1] rfl)
