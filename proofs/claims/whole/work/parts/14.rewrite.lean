set_option maxRecDepth 100000 in
set_option maxHeartbeats 4000000 in
theorem c_rewriteBlobs (l : Launch) (σ : BJ) (hc : jgBc σ ≤ 20) (hok : ∀ i, i < jgBc σ → rbOk σ i) : wBv l yX0_rewriteBlobs wsX0_rewriteBlobs ({ frames := 1, cells := 0, slots := 0, locals := 64 } : Room) σ [] (rbL σ (jgBc σ)) := by
  intro dC dI cI cJ h sz
  refine Met.ofW (cc := cX0_rewriteBlobs) (maxL := 3) (ret := none) (by decide) rfl ?_
  intro p e s m args below meth c s₁ B hml hv
  obtain ⟨rfl, hsz, hP, hK, hD0⟩ := hv
  have hx := B.exec
  have hb := B.bytes
  have hr := B.returns
  have hts := atoms_spec (ws := wsX0_rewriteBlobs) B.pre
  have hown : s.vm.findClass RX0 = some m.cls := findClass_of_methodNamed B.named
  have hlocks := B.notSynchronized
  subst hsz
  have htg : ∀ w ∈ GW, w.before _ s = true := fun w h => hts w (List.mem_cons_of_mem _ h)
  have hD := hD0.self (sz := s.heap.size)
  generalize hAe : va_A (wBJ cI cJ h σ) s.heap.size = A at hD ⊢
  have hA : ∀ q : Nat, s.heap.size ≤ q → A q := fun q h => by rw [← hAe]; exact Or.inr h
  have hS : va_S A s.heap s.heap [] := va_S.rf
  have hl := lv_entry [.ref (h 0)] (n := 3) (Nat.le_of_ble_eq_true rfl)
  rw [lg_entry_eq]
  generalize (lg_sl [.ref (h 0)] ++ List.replicate (3 - (lg_sl [.ref (h 0)]).length) Slot.unset).toArray = ls at hl ⊢
  have hl : lv_has ls 3 [(0, .ref (h 0))] := hl
  have hP : va_P (dC, dI) vwCl (wBJ cI cJ h σ) s.heap := hP
  refine lv_iconst (v := nI 0) hx hb dX0_rewriteBlobs_0 (by decide) ?_
  refine lv_istore_n (lv' := [(1, .int (nI 0)), (0, .ref (h 0))]) hx hb dX0_rewriteBlobs_1 rfl hl (by decide) rfl (fun ls hl => ?_)
  have loop : ∀ (n i : Nat) (z : BJ), i ≤ jgBc σ → jgBc σ < i + n → z = rbL σ i → ∀ (H : Heap) (locs : List Loc), va_P (dC, dI) vwCl (wBJ cI cJ h z) H → va_D A (wBJ cI cJ h z) → va_S A s.heap H locs → ∀ (ls : Array Slot), lv_has ls 3 [(1, .int (nI i)), (0, .ref (h 0))] → W p l e (headSpec wsX0_rewriteBlobs ({ frames := 1, cells := 0, slots := 0, locals := 64 } : Room)).room s m ([.ref (h 0)].toArray) below meth c H locs 0 0 (MQ below (va_Qv (fun (_ : Unit) => True) (fun _ => aBJ dC dI cI cJ h A (rbL σ (jgBc σ))) A) ([.ref (h 0)].toArray) s 0 0 A) (F0 m 2 ls []) := by
    intro n
    induction n with
    | zero => intro i z h1 h2; exact absurd h2 (by omega)
    | succ n ih =>
      intro i z hi hin ez H locs hP hD hS ls hl
      refine lv_iload_n hx hb dX0_rewriteBlobs_2 rfl (lv_at hl 0 rfl) ?_
      have hk := rbL_keep σ i
      rw [← ez] at hk
      obtain ⟨hk1, hk2, hk3, hk4⟩ := hk
      refine lv_aload_n hx hb dX0_rewriteBlobs_3 rfl (lv_at hl 1 rfl) ?_
      refine va_get (D := (dC, dI)) (ci := 0) (v := .int (nI (jgBc z))) (C := RX0) (T := TX0) (N := 14) hx hb htg inX0 (fs := fsBJ h z) hown hK hP 0 rfl rfl 8 (by decide) (htg _ fX0_68) (fun _ h9 => h9) rfl dX0_rewriteBlobs_4 ?_
      refine xr_icmp_ge (tgt := 67) hx hb dX0_rewriteBlobs_7 (by decide) (by omega) (by omega) (fun c7 => ?_) (fun c7 => ?_)
      · have hfin : z = rbL σ (jgBc σ) := by rw [ez, show i = jgBc σ by omega]
        rw [hfin] at hP hD
        exact W.vret hx hb hr (fun t ht hW => ⟨⟨(), rfl, trivial, by rw [ht]; exact hP, va_K.moved hW.alike hK, hD⟩, hS.F ht⟩) hS.2.2 dX0_rewriteBlobs_67
      · refine lv_aload_n hx hb dX0_rewriteBlobs_10 rfl (lv_at hl 1 rfl) ?_
        refine lv_iload_n hx hb dX0_rewriteBlobs_11 rfl (lv_at hl 0 rfl) ?_
        refine bj_ri (As := [.int (nI i)]) (rest := []) (n := 1) ⟨hx, hb, hml, hown, htg⟩ (c_isTold l z i (by omega)) (cwV 1 htg gX0_206 rfl rfl rfl (by decide +kernel) ⟨Nat.le_of_ble_eq_true rfl, Nat.le_of_ble_eq_true rfl⟩) hK hP hD hS hA hl.1 rfl rfl (Nat.le_of_ble_eq_true rfl) dX0_rewriteBlobs_12 (Nat.zero_le _) (Nat.zero_le _) (fun H locs hP hS => ?_)
        refine xr_ifeqB (tgt := 61) hx hb dX0_rewriteBlobs_15 (by decide) (fun c15 => ?_) (fun c15 => ?_)
        · refine lv_iinc (v := nI (i + 1)) (lv' := [(1, .int (nI (i + 1))), (0, .ref (h 0))]) hx hb dX0_rewriteBlobs_61 hl (k := 0) rfl (nI_add _ 1) (by decide) rfl (fun ls hl => ?_)
          refine lv_goto (tgt := 2) hx hb dX0_rewriteBlobs_64 (by decide) ?_
          exact ih (i + 1) z (by omega) (by omega) (by show _ = rbS (rbL σ i) i; rw [← ez, rbS, if_neg (by rw [c15]; decide)]) H locs hP hD hS ls (lv_sub hl [0, 1] rfl)
        · obtain ⟨o1, o2, o3, o4, o5⟩ := hok i (by omega)
          rw [← ez] at o5
          refine lv_iconst (v := nI 4) hx hb dX0_rewriteBlobs_18 (by decide) ?_
          refine lv_aload_n hx hb dX0_rewriteBlobs_19 rfl (lv_at hl 1 rfl) ?_
          refine va_get (D := (dC, dI)) (ci := 0) (v := .ref (h 5)) (C := RX0) (T := TX0) (N := 14) hx hb htg inX0 (fs := fsBJ h z) hown hK hP 0 rfl rfl 7 (by decide) (htg _ fX0_23) (fun _ h9 => h9) rfl dX0_rewriteBlobs_20 ?_
          refine lv_iload_n hx hb dX0_rewriteBlobs_23 rfl (lv_at hl 0 rfl) ?_
          refine xr_iald (f := jgBL z) (i := i) hx hb hK hP 5 0 rfl rfl (by omega) (by decide) dX0_rewriteBlobs_24 ?_
          refine W.eq (g2 := F0 m 25 ls [.int (nI (nb (jgBL σ) i)), .int (nI 4)]) (by rw [hk3, o3]) ?_
          refine xr_iadd hx hb dX0_rewriteBlobs_25 ?_
          refine lv_istore_n (lv' := [(2, .int (nI (4 + (nb (jgBL σ) i)))), (1, .int (nI i)), (0, .ref (h 0))]) hx hb dX0_rewriteBlobs_26 rfl hl (by decide) rfl (fun ls hl => ?_)
          refine lv_aload_n hx hb dX0_rewriteBlobs_27 rfl (lv_at hl 2 rfl) ?_
          refine va_get (D := (dC, dI)) (ci := 0) (v := .ref (h 2)) (C := RX0) (T := TX0) (N := 14) hx hb htg inX0 (fs := fsBJ h z) hown hK hP 0 rfl rfl 2 (by decide) (htg _ fX0_13) (fun _ h9 => h9) rfl dX0_rewriteBlobs_28 ?_
          refine lv_aload_n hx hb dX0_rewriteBlobs_31 rfl (lv_at hl 2 rfl) ?_
          refine va_get (D := (dC, dI)) (ci := 0) (v := .ref (h 4)) (C := RX0) (T := TX0) (N := 14) hx hb htg inX0 (fs := fsBJ h z) hown hK hP 0 rfl rfl 6 (by decide) (htg _ fX0_20) (fun _ h9 => h9) rfl dX0_rewriteBlobs_32 ?_
          refine lv_iload_n hx hb dX0_rewriteBlobs_35 rfl (lv_at hl 1 rfl) ?_
          refine xr_iald (f := jgBS z) (i := i) hx hb hK hP 4 0 rfl rfl (by omega) (by decide) dX0_rewriteBlobs_36 ?_
          refine W.eq (g2 := F0 m 37 ls [.int (nI (nb (jgBS σ) i)), .ref (h 2)]) (by rw [hk2, o1]) ?_
          refine lv_iconst (v := nI 3) hx hb dX0_rewriteBlobs_37 (by decide) ?_
          refine xr_isub hx hb (by omega) dX0_rewriteBlobs_38 ?_
          refine lv_aload_n hx hb dX0_rewriteBlobs_39 rfl (lv_at hl 2 rfl) ?_
          refine va_get (D := (dC, dI)) (ci := 0) (v := .ref (h 2)) (C := RX0) (T := TX0) (N := 14) hx hb htg inX0 (fs := fsBJ h z) hown hK hP 0 rfl rfl 2 (by decide) (htg _ fX0_13) (fun _ h9 => h9) rfl dX0_rewriteBlobs_40 ?_
          refine lv_aload_n hx hb dX0_rewriteBlobs_43 rfl (lv_at hl 2 rfl) ?_
          refine va_get (D := (dC, dI)) (ci := 0) (v := .int (nI (jgWc z))) (C := RX0) (T := TX0) (N := 14) hx hb htg inX0 (fs := fsBJ h z) hown hK hP 0 rfl rfl 3 (by decide) (htg _ fX0_124) (fun _ h9 => h9) rfl dX0_rewriteBlobs_44 ?_
          refine lv_iload_n hx hb dX0_rewriteBlobs_47 rfl (lv_at hl 0 rfl) ?_
          refine xr_copy (f := jgW z) (sp := nb (jgBS σ) i - 3) (dp := jgWc z) (n := 4 + (nb (jgBL σ) i)) hx hb (hml.trans hl.1.symm) hown (htg _ lX0_209) (htg _ w_cpN) (htg _ w_cpS) (htg _ w_nSys) hK hP hD hS 2 0 rfl rfl (by omega) (by omega) (by decide) (Nat.le_of_ble_eq_true rfl) (by decide +kernel) dX0_rewriteBlobs_48 (fun H locs hP hD hS => ?_)
          rw [wBJ_W] at hP hD
          refine lv_aload_n hx hb dX0_rewriteBlobs_51 rfl (lv_at hl 2 rfl) ?_
          refine lv_dup hx hb dX0_rewriteBlobs_52 rfl ?_
          refine va_get (D := (dC, dI)) (ci := 0) (v := .int (nI (jgWc z))) (C := RX0) (T := TX0) (N := 14) hx hb htg inX0 (fs := fsBJ h (juW z (va_cpy (jgW z) (jgW z) (nb (jgBS σ) i - 3) (jgWc z) (4 + (nb (jgBL σ) i))))) hown hK hP 0 rfl rfl 3 (by decide) (htg _ fX0_124) (fun _ h9 => h9) rfl dX0_rewriteBlobs_53 ?_
          refine lv_iload_n hx hb dX0_rewriteBlobs_56 rfl (lv_at hl 0 rfl) ?_
          refine xr_iadd hx hb dX0_rewriteBlobs_57 ?_
          refine va_put (D := (dC, dI)) (ci := 0) (v := .int (nI (jgWc z + (4 + (nb (jgBL σ) i))))) (ty := .int) (C := RX0) (T := TX0) (N := 14) hx hb htg inX0 tyX0 tyX0_ok nmX0 (fs := fsBJ h (juW z (va_cpy (jgW z) (jgW z) (nb (jgBS σ) i - 3) (jgWc z) (4 + (nb (jgBL σ) i))))) hown hK hP hD hS 0 rfl rfl 3 (by decide) (htg _ fX0_124) (fun _ h9 => h9) rfl (by decide +kernel) rfl rfl (Nat.le_of_ble_eq_true rfl) dX0_rewriteBlobs_58 (fun H locs hP hD hS => ?_)
          rw [wBJ_Wc] at hP hD
          refine lv_iinc (v := nI (i + 1)) (lv' := [(1, .int (nI (i + 1))), (2, .int (nI (4 + (nb (jgBL σ) i)))), (0, .ref (h 0))]) hx hb dX0_rewriteBlobs_61 hl (k := 1) rfl (nI_add _ 1) (by decide) rfl (fun ls hl => ?_)
          refine lv_goto (tgt := 2) hx hb dX0_rewriteBlobs_64 (by decide) ?_
          exact ih (i + 1) (juWc (juW z (va_cpy (jgW z) (jgW z) (nb (jgBS σ) i - 3) (jgWc z) (4 + (nb (jgBL σ) i)))) (jgWc z + (4 + (nb (jgBL σ) i)))) (by omega) (by omega) (by show _ = rbS (rbL σ i) i; rw [← ez, rbS, if_pos c15, hk2, hk3]) H locs hP hD hS ls (lv_sub hl [0, 2] rfl)
  exact loop (jgBc σ + 1) 0 σ (by omega) (by omega) (rfl) _ _ hP hD hS ls (lv_sub hl [0, 1] rfl)
set_option maxRecDepth 100000 in
set_option maxHeartbeats 4000000 in
theorem c_rewriteTags (l : Launch) (σ : BJ) (hok : ∀ t, t < 8 → rtOk σ t) : wBv l yX0_rewriteTags wsX0_rewriteTags ({ frames := 3, cells := 0, slots := 0, locals := 69 } : Room) σ [] (rtL σ 8) := by
  intro dC dI cI cJ h sz
  refine Met.ofW (cc := cX0_rewriteTags) (maxL := 3) (ret := none) (by decide) rfl ?_
  intro p e s m args below meth c s₁ B hml hv
  obtain ⟨rfl, hsz, hP, hK, hD0⟩ := hv
  have hx := B.exec
  have hb := B.bytes
  have hr := B.returns
  have hts := atoms_spec (ws := wsX0_rewriteTags) B.pre
  have hown : s.vm.findClass RX0 = some m.cls := findClass_of_methodNamed B.named
  have hlocks := B.notSynchronized
  subst hsz
  have htg : ∀ w ∈ GW, w.before _ s = true := fun w h => hts w (List.mem_cons_of_mem _ h)
  have hD := hD0.self (sz := s.heap.size)
  generalize hAe : va_A (wBJ cI cJ h σ) s.heap.size = A at hD ⊢
  have hA : ∀ q : Nat, s.heap.size ≤ q → A q := fun q h => by rw [← hAe]; exact Or.inr h
  have hS : va_S A s.heap s.heap [] := va_S.rf
  have hl := lv_entry [.ref (h 0)] (n := 3) (Nat.le_of_ble_eq_true rfl)
  rw [lg_entry_eq]
  generalize (lg_sl [.ref (h 0)] ++ List.replicate (3 - (lg_sl [.ref (h 0)]).length) Slot.unset).toArray = ls at hl ⊢
  have hl : lv_has ls 3 [(0, .ref (h 0))] := hl
  have hP : va_P (dC, dI) vwCl (wBJ cI cJ h σ) s.heap := hP
  refine lv_iconst (v := nI 0) hx hb dX0_rewriteTags_0 (by decide) ?_
  refine lv_istore_n (lv' := [(1, .int (nI 0)), (0, .ref (h 0))]) hx hb dX0_rewriteTags_1 rfl hl (by decide) rfl (fun ls hl => ?_)
  have loop : ∀ (n i : Nat) (z : BJ), i ≤ 8 → 8 < i + n → z = rtL σ i → ∀ (H : Heap) (locs : List Loc), va_P (dC, dI) vwCl (wBJ cI cJ h z) H → va_D A (wBJ cI cJ h z) → va_S A s.heap H locs → ∀ (ls : Array Slot), lv_has ls 3 [(1, .int (nI i)), (0, .ref (h 0))] → W p l e (headSpec wsX0_rewriteTags ({ frames := 3, cells := 0, slots := 0, locals := 69 } : Room)).room s m ([.ref (h 0)].toArray) below meth c H locs 0 0 (MQ below (va_Qv (fun (_ : Unit) => True) (fun _ => aBJ dC dI cI cJ h A (rtL σ 8)) A) ([.ref (h 0)].toArray) s 0 0 A) (F0 m 2 ls []) := by
    intro n
    induction n with
    | zero => intro i z h1 h2; exact absurd h2 (by omega)
    | succ n ih =>
      intro i z hi hin ez H locs hP hD hS ls hl
      refine lv_iload_n hx hb dX0_rewriteTags_2 rfl (lv_at hl 0 rfl) ?_
      refine lv_bipush (v := nI 8) hx hb dX0_rewriteTags_3 (by decide) ?_
      refine xr_icmp_ge (tgt := 38) hx hb dX0_rewriteTags_5 (by decide) (by omega) (by omega) (fun c5 => ?_) (fun c5 => ?_)
      · have hfin : z = rtL σ 8 := by rw [ez, show i = 8 by omega]
        rw [hfin] at hP hD
        exact W.vret hx hb hr (fun t ht hW => ⟨⟨(), rfl, trivial, by rw [ht]; exact hP, va_K.moved hW.alike hK, hD⟩, hS.F ht⟩) hS.2.2 dX0_rewriteTags_38
      · have hk := rtL_keep σ i
        rw [← ez] at hk
        obtain ⟨hk1, hk2⟩ := hk
        have o := hok i (by omega)
        rw [rtOk, ← ez, ← hk1] at o
        refine lv_aload_n hx hb dX0_rewriteTags_8 rfl (lv_at hl 1 rfl) ?_
        refine va_get (D := (dC, dI)) (ci := 0) (v := .ref (h 6)) (C := RX0) (T := TX0) (N := 14) hx hb htg inX0 (fs := fsBJ h z) hown hK hP 0 rfl rfl 9 (by decide) (htg _ fX0_26) (fun _ h9 => h9) rfl dX0_rewriteTags_9 ?_
        refine lv_iload_n hx hb dX0_rewriteTags_12 rfl (lv_at hl 0 rfl) ?_
        refine xr_iald (f := jgTB z) (i := i) hx hb hK hP 6 0 rfl rfl (by omega) (by decide) dX0_rewriteTags_13 ?_
        rcases o with o1 | ⟨o1, o2, o3⟩
        · refine W.eq (g2 := F0 m 14 ls [.int (-1)]) (by rw [o1]) ?_
          refine lv_istore_n (lv' := [(2, .int (-1)), (1, .int (nI i)), (0, .ref (h 0))]) hx hb dX0_rewriteTags_14 rfl hl (by decide) rfl (fun ls hl => ?_)
          refine lv_iload_n hx hb dX0_rewriteTags_15 rfl (lv_at hl 0 rfl) ?_
          refine lv_iconst (v := -1) hx hb dX0_rewriteTags_16 (by decide) ?_
          refine lv_icmp_eq (tgt := 32) hx hb dX0_rewriteTags_17 (by decide) (fun _ => ?_) (fun c => absurd rfl c)
          refine lv_iinc (v := nI (i + 1)) (lv' := [(1, .int (nI (i + 1))), (2, .int (-1)), (0, .ref (h 0))]) hx hb dX0_rewriteTags_32 hl (k := 1) rfl (nI_add _ 1) (by decide) rfl (fun ls hl => ?_)
          refine lv_goto (tgt := 2) hx hb dX0_rewriteTags_35 (by decide) ?_
          exact ih (i + 1) z (by omega) (by omega) (by show _ = rtS (rtL σ i) i; rw [← ez, rtS, if_pos o1]) H locs hP hD hS ls (lv_sub hl [0, 2] rfl)
        · refine W.eq (g2 := F0 m 14 ls [.int (nI (nb (jgTB z) i))]) (by rw [o1]) ?_
          refine lv_istore_n (lv' := [(2, .int (nI (nb (jgTB z) i))), (1, .int (nI i)), (0, .ref (h 0))]) hx hb dX0_rewriteTags_14 rfl hl (by decide) rfl (fun ls hl => ?_)
          refine lv_iload_n hx hb dX0_rewriteTags_15 rfl (lv_at hl 0 rfl) ?_
          refine lv_iconst (v := -1) hx hb dX0_rewriteTags_16 (by decide) ?_
          refine lv_icmp_eq (tgt := 32) hx hb dX0_rewriteTags_17 (by decide) (fun c => absurd c (optI_none (by omega))) (fun _ => ?_)
          refine lv_aload_n hx hb dX0_rewriteTags_20 rfl (lv_at hl 2 rfl) ?_
          refine lv_iload_n hx hb dX0_rewriteTags_21 rfl (lv_at hl 1 rfl) ?_
          refine lv_aload_n hx hb dX0_rewriteTags_22 rfl (lv_at hl 2 rfl) ?_
          refine va_get (D := (dC, dI)) (ci := 0) (v := .ref (h 3)) (C := RX0) (T := TX0) (N := 14) hx hb htg inX0 (fs := fsBJ h z) hown hK hP 0 rfl rfl 5 (by decide) (htg _ fX0_16) (fun _ h9 => h9) rfl dX0_rewriteTags_23 ?_
          refine lv_iload_n hx hb dX0_rewriteTags_26 rfl (lv_at hl 0 rfl) ?_
          refine xr_lald (f := jgBD z) (i := nb (jgTB z) i) hx hb hK hP 3 1 rfl rfl (by omega) (by decide) dX0_rewriteTags_27 ?_
          refine bj_wi (As := [.int (nI i), .long ((jgBD z) (nb (jgTB z) i))]) (rest := []) (n := 2) ⟨hx, hb, hml, hown, htg⟩ (c_writeTell l z i ((jgBD z) (nb (jgTB z) i)) (by omega)) (cwV 2 htg gX0_93 rfl rfl rfl (by decide +kernel) ⟨Nat.le_of_ble_eq_true rfl, Nat.le_of_ble_eq_true rfl⟩) hK hP hD hS hA hl.1 rfl rfl (Nat.le_of_ble_eq_true rfl) dX0_rewriteTags_28 (Nat.zero_le _) (Nat.zero_le _) (fun H locs hP hD hS => ?_)
          obtain ⟨z1, ez1⟩ : ∃ zq : BJ, zq = wR z (rTell i ((jgBD z) (nb (jgTB z) i))) := ⟨_, rfl⟩
          rw [← ez1] at hP hD
          refine lv_pop hx hb dX0_rewriteTags_31 rfl ?_
          refine lv_iinc (v := nI (i + 1)) (lv' := [(1, .int (nI (i + 1))), (2, .int (nI (nb (jgTB z) i))), (0, .ref (h 0))]) hx hb dX0_rewriteTags_32 hl (k := 1) rfl (nI_add _ 1) (by decide) rfl (fun ls hl => ?_)
          refine lv_goto (tgt := 2) hx hb dX0_rewriteTags_35 (by decide) ?_
          exact ih (i + 1) z1 (by omega) (by omega) (by show _ = rtS (rtL σ i) i; rw [← ez, rtS, if_neg (by rw [o1]; exact optI_none (by omega))]; exact ez1) H locs hP hD hS ls (lv_sub hl [0, 2] rfl)
  exact loop (8 + 1) 0 σ (by omega) (by omega) (rfl) _ _ hP hD hS ls (lv_sub hl [0, 1] rfl)
set_option maxRecDepth 100000 in
set_option maxHeartbeats 4000000 in
theorem c_rewriteKeys (l : Launch) (σ : BJ) (hc : jgBc σ ≤ 20) (hkc : jgKc σ ≤ 16) (hok : ∀ i, i < jgKc σ → rkOk σ i) : wBv l yX0_rewriteKeys wsX0_rewriteKeys ({ frames := 3, cells := 0, slots := 0, locals := 70 } : Room) σ [] (rkL σ (jgKc σ)) := by
  intro dC dI cI cJ h sz
  refine Met.ofW (cc := cX0_rewriteKeys) (maxL := 3) (ret := none) (by decide) rfl ?_
  intro p e s m args below meth c s₁ B hml hv
  obtain ⟨rfl, hsz, hP, hK, hD0⟩ := hv
  have hx := B.exec
  have hb := B.bytes
  have hr := B.returns
  have hts := atoms_spec (ws := wsX0_rewriteKeys) B.pre
  have hown : s.vm.findClass RX0 = some m.cls := findClass_of_methodNamed B.named
  have hlocks := B.notSynchronized
  subst hsz
  have htg : ∀ w ∈ GW, w.before _ s = true := fun w h => hts w (List.mem_cons_of_mem _ h)
  have hD := hD0.self (sz := s.heap.size)
  generalize hAe : va_A (wBJ cI cJ h σ) s.heap.size = A at hD ⊢
  have hA : ∀ q : Nat, s.heap.size ≤ q → A q := fun q h => by rw [← hAe]; exact Or.inr h
  have hS : va_S A s.heap s.heap [] := va_S.rf
  have hl := lv_entry [.ref (h 0)] (n := 3) (Nat.le_of_ble_eq_true rfl)
  rw [lg_entry_eq]
  generalize (lg_sl [.ref (h 0)] ++ List.replicate (3 - (lg_sl [.ref (h 0)]).length) Slot.unset).toArray = ls at hl ⊢
  have hl : lv_has ls 3 [(0, .ref (h 0))] := hl
  have hP : va_P (dC, dI) vwCl (wBJ cI cJ h σ) s.heap := hP
  refine lv_iconst (v := nI 0) hx hb dX0_rewriteKeys_0 (by decide) ?_
  refine lv_istore_n (lv' := [(1, .int (nI 0)), (0, .ref (h 0))]) hx hb dX0_rewriteKeys_1 rfl hl (by decide) rfl (fun ls hl => ?_)
  have loop : ∀ (n i : Nat) (z : BJ), i ≤ jgKc σ → jgKc σ < i + n → z = rkL σ i → ∀ (H : Heap) (locs : List Loc), va_P (dC, dI) vwCl (wBJ cI cJ h z) H → va_D A (wBJ cI cJ h z) → va_S A s.heap H locs → ∀ (ls : Array Slot), lv_has ls 3 [(1, .int (nI i)), (0, .ref (h 0))] → W p l e (headSpec wsX0_rewriteKeys ({ frames := 3, cells := 0, slots := 0, locals := 70 } : Room)).room s m ([.ref (h 0)].toArray) below meth c H locs 0 0 (MQ below (va_Qv (fun (_ : Unit) => True) (fun _ => aBJ dC dI cI cJ h A (rkL σ (jgKc σ))) A) ([.ref (h 0)].toArray) s 0 0 A) (F0 m 2 ls []) := by
    intro n
    induction n with
    | zero => intro i z h1 h2; exact absurd h2 (by omega)
    | succ n ih =>
      intro i z hi hin ez H locs hP hD hS ls hl
      refine lv_iload_n hx hb dX0_rewriteKeys_2 rfl (lv_at hl 0 rfl) ?_
      have hk := rkL_keep σ i
      rw [← ez] at hk
      obtain ⟨hk1, hk2, hk3⟩ := hk
      refine lv_aload_n hx hb dX0_rewriteKeys_3 rfl (lv_at hl 1 rfl) ?_
      refine va_get (D := (dC, dI)) (ci := 0) (v := .int (nI (jgKc z))) (C := RX0) (T := TX0) (N := 14) hx hb htg inX0 (fs := fsBJ h z) hown hK hP 0 rfl rfl 12 (by decide) (htg _ fX0_106) (fun _ h9 => h9) rfl dX0_rewriteKeys_4 ?_
      refine xr_icmp_ge (tgt := 57) hx hb dX0_rewriteKeys_7 (by decide) (by omega) (by omega) (fun c7 => ?_) (fun c7 => ?_)
      · have hfin : z = rkL σ (jgKc σ) := by rw [ez, show i = jgKc σ by omega]
        rw [hfin] at hP hD
        exact W.vret hx hb hr (fun t ht hW => ⟨⟨(), rfl, trivial, by rw [ht]; exact hP, va_K.moved hW.alike hK, hD⟩, hS.F ht⟩) hS.2.2 dX0_rewriteKeys_57
      · have ok := hok i (by omega)
        rw [rkOk, ← ez] at ok
        refine lv_aload_n hx hb dX0_rewriteKeys_10 rfl (lv_at hl 1 rfl) ?_
        refine lv_aload_n hx hb dX0_rewriteKeys_11 rfl (lv_at hl 1 rfl) ?_
        refine va_get (D := (dC, dI)) (ci := 0) (v := .ref (h 8)) (C := RX0) (T := TX0) (N := 14) hx hb htg inX0 (fs := fsBJ h z) hown hK hP 0 rfl rfl 11 (by decide) (htg _ fX0_38) (fun _ h9 => h9) rfl dX0_rewriteKeys_12 ?_
        refine lv_iload_n hx hb dX0_rewriteKeys_15 rfl (lv_at hl 0 rfl) ?_
        refine xr_lald (f := jgKD z) (i := i) hx hb hK hP 8 1 rfl rfl (by omega) (by decide) dX0_rewriteKeys_16 ?_
        refine bj_ri (As := [.long ((jgKD z) i)]) (rest := []) (n := 1) ⟨hx, hb, hml, hown, htg⟩ (c_findBlob l z ((jgKD z) i) (by omega)) (cwV 1 htg gX0_64 rfl rfl rfl (by decide +kernel) ⟨Nat.le_of_ble_eq_true rfl, Nat.le_of_ble_eq_true rfl⟩) hK hP hD hS hA hl.1 rfl rfl (Nat.le_of_ble_eq_true rfl) dX0_rewriteKeys_17 (Nat.zero_le _) (Nat.zero_le _) (fun H locs hP hS => ?_)
        obtain ⟨o, ho⟩ : ∃ zq, zq = fnd (jgBD z) (jgKD z i) (jgBc z) := ⟨_, rfl⟩
        rw [← ho]
        cases o with
        | none =>
          refine W.eq (g2 := F0 m 20 ls [.int (-1)]) rfl ?_
          refine lv_istore_n (lv' := [(2, .int (-1)), (1, .int (nI i)), (0, .ref (h 0))]) hx hb dX0_rewriteKeys_20 rfl hl (by decide) rfl (fun ls hl => ?_)
          refine lv_iload_n hx hb dX0_rewriteKeys_21 rfl (lv_at hl 0 rfl) ?_
          refine lv_iconst (v := -1) hx hb dX0_rewriteKeys_22 (by decide) ?_
          refine lv_icmp_eq (tgt := 51) hx hb dX0_rewriteKeys_23 (by decide) (fun _ => ?_) (fun c => absurd rfl c)
          refine lv_iinc (v := nI (i + 1)) (lv' := [(1, .int (nI (i + 1))), (2, .int (-1)), (0, .ref (h 0))]) hx hb dX0_rewriteKeys_51 hl (k := 1) rfl (nI_add _ 1) (by decide) rfl (fun ls hl => ?_)
          refine lv_goto (tgt := 2) hx hb dX0_rewriteKeys_54 (by decide) ?_
          exact ih (i + 1) z (by omega) (by omega) (by show _ = rkS (rkL σ i) i; rw [← ez, rkS, ← ho] <;> first | rfl | (simp only [if_neg (show ¬ isTold z b = true by rw [c31]; decide)])) H locs hP hD hS ls (lv_sub hl [0, 2] rfl)
        | some b =>
          have hlto := (fnd_lt ho.symm).1
          refine W.eq (g2 := F0 m 20 ls [.int (nI b)]) rfl ?_
          refine lv_istore_n (lv' := [(2, .int (nI b)), (1, .int (nI i)), (0, .ref (h 0))]) hx hb dX0_rewriteKeys_20 rfl hl (by decide) rfl (fun ls hl => ?_)
          refine lv_iload_n hx hb dX0_rewriteKeys_21 rfl (lv_at hl 0 rfl) ?_
          refine lv_iconst (v := -1) hx hb dX0_rewriteKeys_22 (by decide) ?_
          refine lv_icmp_eq (tgt := 51) hx hb dX0_rewriteKeys_23 (by decide) (fun c => absurd c (optI_none (by omega))) (fun _ => ?_)
          refine lv_aload_n hx hb dX0_rewriteKeys_26 rfl (lv_at hl 2 rfl) ?_
          refine lv_iload_n hx hb dX0_rewriteKeys_27 rfl (lv_at hl 0 rfl) ?_
          refine bj_ri (As := [.int (nI b)]) (rest := []) (n := 1) ⟨hx, hb, hml, hown, htg⟩ (c_isTold l z b (by omega)) (cwV 1 htg gX0_206 rfl rfl rfl (by decide +kernel) ⟨Nat.le_of_ble_eq_true rfl, Nat.le_of_ble_eq_true rfl⟩) hK hP hD hS hA hl.1 rfl rfl (Nat.le_of_ble_eq_true rfl) dX0_rewriteKeys_28 (Nat.zero_le _) (Nat.zero_le _) (fun H locs hP hS => ?_)
          refine xr_ifeqB (tgt := 51) hx hb dX0_rewriteKeys_31 (by decide) (fun c31 => ?_) (fun c31 => ?_)
          · refine lv_iinc (v := nI (i + 1)) (lv' := [(1, .int (nI (i + 1))), (2, .int (nI b)), (0, .ref (h 0))]) hx hb dX0_rewriteKeys_51 hl (k := 1) rfl (nI_add _ 1) (by decide) rfl (fun ls hl => ?_)
            refine lv_goto (tgt := 2) hx hb dX0_rewriteKeys_54 (by decide) ?_
            exact ih (i + 1) z (by omega) (by omega) (by show _ = rkS (rkL σ i) i; rw [← ez, rkS, ← ho] <;> first | rfl | (simp only [if_neg (show ¬ isTold z b = true by rw [c31]; decide)])) H locs hP hD hS ls (lv_sub hl [0, 2] rfl)
          · refine lv_aload_n hx hb dX0_rewriteKeys_34 rfl (lv_at hl 2 rfl) ?_
            refine lv_aload_n hx hb dX0_rewriteKeys_35 rfl (lv_at hl 2 rfl) ?_
            refine va_get (D := (dC, dI)) (ci := 0) (v := .ref (h 7)) (C := RX0) (T := TX0) (N := 14) hx hb htg inX0 (fs := fsBJ h z) hown hK hP 0 rfl rfl 10 (by decide) (htg _ fX0_35) (fun _ h9 => h9) rfl dX0_rewriteKeys_36 ?_
            refine lv_iload_n hx hb dX0_rewriteKeys_39 rfl (lv_at hl 1 rfl) ?_
            refine xr_lald (f := jgKS z) (i := i) hx hb hK hP 7 1 rfl rfl (by omega) (by decide) dX0_rewriteKeys_40 ?_
            refine lv_aload_n hx hb dX0_rewriteKeys_41 rfl (lv_at hl 2 rfl) ?_
            refine va_get (D := (dC, dI)) (ci := 0) (v := .ref (h 8)) (C := RX0) (T := TX0) (N := 14) hx hb htg inX0 (fs := fsBJ h z) hown hK hP 0 rfl rfl 11 (by decide) (htg _ fX0_38) (fun _ h9 => h9) rfl dX0_rewriteKeys_42 ?_
            refine lv_iload_n hx hb dX0_rewriteKeys_45 rfl (lv_at hl 1 rfl) ?_
            refine xr_lald (f := jgKD z) (i := i) hx hb hK hP 8 1 rfl rfl (by omega) (by decide) dX0_rewriteKeys_46 ?_
            refine bj_wi (As := [.long ((jgKS z) i), .long ((jgKD z) i)]) (rest := []) (n := 2) ⟨hx, hb, hml, hown, htg⟩ (c_writeKey l z ((jgKS z) i) ((jgKD z) i) (ok b ho.symm c31)) (cwV 2 htg gX0_111 rfl rfl rfl (by decide +kernel) ⟨Nat.le_of_ble_eq_true rfl, Nat.le_of_ble_eq_true rfl⟩) hK hP hD hS hA hl.1 rfl rfl (Nat.le_of_ble_eq_true rfl) dX0_rewriteKeys_47 (Nat.zero_le _) (Nat.zero_le _) (fun H locs hP hD hS => ?_)
            obtain ⟨z1, ez1⟩ : ∃ zq : BJ, zq = wR z (rKey ((jgKS z) i) ((jgKD z) i)) := ⟨_, rfl⟩
            rw [← ez1] at hP hD
            refine lv_pop hx hb dX0_rewriteKeys_50 rfl ?_
            refine lv_iinc (v := nI (i + 1)) (lv' := [(1, .int (nI (i + 1))), (2, .int (nI b)), (0, .ref (h 0))]) hx hb dX0_rewriteKeys_51 hl (k := 1) rfl (nI_add _ 1) (by decide) rfl (fun ls hl => ?_)
            refine lv_goto (tgt := 2) hx hb dX0_rewriteKeys_54 (by decide) ?_
            exact ih (i + 1) z1 (by omega) (by omega) (by show _ = rkS (rkL σ i) i; rw [← ez, rkS, ← ho]; simp only [if_pos c31]; exact ez1) H locs hP hD hS ls (lv_sub hl [0, 2] rfl)
  exact loop (jgKc σ + 1) 0 σ (by omega) (by omega) (rfl) _ _ hP hD hS ls (lv_sub hl [0, 1] rfl)
