set_option maxRecDepth 100000 in
set_option maxHeartbeats 4000000 in
theorem m_empties (l : Launch) (σ : BM) : wMv l yX1_empties wsX1_empties ({ frames := 0, cells := 0, slots := 0, locals := 0 } : Room) σ [] (emSt σ 8) := by
  intro dC dI cI cJ cZ h sz
  refine Met.ofW (cc := cX1_empties) (maxL := 2) (ret := none) (by decide) rfl ?_
  intro p e s m args below meth c s₁ B hml hv
  obtain ⟨rfl, hsz, hP, hK, hD0⟩ := hv
  have hx := B.exec
  have hb := B.bytes
  have hr := B.returns
  have hts := atoms_spec (ws := wsX1_empties) B.pre
  have hown : s.vm.findClass RX1 = some m.cls := findClass_of_methodNamed B.named
  have hlocks := B.notSynchronized
  subst hsz
  have htg : ∀ w ∈ GW, w.before _ s = true := fun w h => hts w (List.mem_cons_of_mem _ h)
  have hD := hD0.self (sz := s.heap.size)
  generalize hAe : va_A (wBM cI cJ cZ h σ) s.heap.size = A at hD ⊢
  have hA : ∀ q : Nat, s.heap.size ≤ q → A q := fun q h => by rw [← hAe]; exact Or.inr h
  have hS : va_S A s.heap s.heap [] := va_S.rf
  have hl := lv_entry [.ref (h 0)] (n := 2) (Nat.le_of_ble_eq_true rfl)
  rw [lg_entry_eq]
  generalize (lg_sl [.ref (h 0)] ++ List.replicate (2 - (lg_sl [.ref (h 0)]).length) Slot.unset).toArray = ls at hl ⊢
  have hl : lv_has ls 2 [(0, .ref (h 0))] := hl
  have hP : va_P (dC, dI) vwCl (wBM cI cJ cZ h σ) s.heap := hP
  refine lv_aload_n hx hb dX1_empties_0 rfl (lv_at hl 0 rfl) ?_
  refine lv_iconst (v := nI 0) hx hb dX1_empties_1 (by decide) ?_
  refine va_put (D := (dC, dI)) (ci := 1) (v := .int (nI 0)) (ty := .int) (C := RX1) (T := TX1) (N := 18) hx hb htg inX1 tyX1 tyX1_ok nmX1 (fs := fsBM h σ) hown hK hP hD hS 0 rfl rfl 6 (by decide) (htg _ fX1_72) (fun _ h9 => h9) rfl (by decide +kernel) rfl rfl (Nat.le_of_ble_eq_true rfl) dX1_empties_2 (fun H locs hP hD hS => ?_)
  rw [wBM_Bl] at hP hD
  refine lv_aload_n hx hb dX1_empties_5 rfl (lv_at hl 0 rfl) ?_
  refine lv_iconst (v := nI 0) hx hb dX1_empties_6 (by decide) ?_
  refine va_put (D := (dC, dI)) (ci := 1) (v := .int (nI 0)) (ty := .int) (C := RX1) (T := TX1) (N := 18) hx hb htg inX1 tyX1 tyX1_ok nmX1 (fs := fsBM h (kuBl σ 0)) hown hK hP hD hS 0 rfl rfl 11 (by decide) (htg _ fX1_75) (fun _ h9 => h9) rfl (by decide +kernel) rfl rfl (Nat.le_of_ble_eq_true rfl) dX1_empties_7 (fun H locs hP hD hS => ?_)
  rw [wBM_Kn] at hP hD
  refine lv_iconst (v := nI 0) hx hb dX1_empties_10 (by decide) ?_
  refine lv_istore_n (lv' := [(1, .int (nI 0)), (0, .ref (h 0))]) hx hb dX1_empties_11 rfl hl (by decide) rfl (fun ls hl => ?_)
  have loop : ∀ (fu i : Nat) (z : BM), i ≤ 8 → 8 < i + fu → z = emSt σ i → ∀ (H : Heap) (locs : List Loc), va_P (dC, dI) vwCl (wBM cI cJ cZ h z) H → va_D A (wBM cI cJ cZ h z) → va_S A s.heap H locs → ∀ (ls : Array Slot), lv_has ls 2 [(1, .int (nI i)), (0, .ref (h 0))] → W p l e (headSpec wsX1_empties ({ frames := 0, cells := 0, slots := 0, locals := 0 } : Room)).room s m ([.ref (h 0)].toArray) below meth c H locs 0 0 (MQ below (va_Qv (fun (_ : Unit) => True) (fun _ => aBM dC dI cI cJ cZ h A (emSt σ 8)) A) ([.ref (h 0)].toArray) s 0 0 A) (F0 m 12 ls []) := by
    intro fu
    induction fu with
    | zero => intro i z h1 h2; exact absurd h2 (by omega)
    | succ fu ih =>
      intro i z hi hin ez H locs hP hD hS ls hl
      refine lv_iload_n hx hb dX1_empties_12 rfl (lv_at hl 0 rfl) ?_
      refine lv_bipush (v := nI 8) hx hb dX1_empties_13 (by decide) ?_
      refine xr_icmp_ge (tgt := 31) hx hb dX1_empties_15 (by decide) (by omega) (by omega) (fun c15 => ?_) (fun c15 => ?_)
      · have hfin : z = emSt σ 8 := by rw [ez, show i = 8 by omega]
        rw [hfin] at hP hD
        exact W.vret hx hb hr (fun t ht hW => ⟨⟨(), rfl, trivial, by rw [ht]; exact hP, va_K.moved hW.alike hK, hD⟩, hS.F ht⟩) hS.2.2 dX1_empties_31
      · refine lv_aload_n hx hb dX1_empties_18 rfl (lv_at hl 1 rfl) ?_
        refine va_get (D := (dC, dI)) (ci := 1) (v := .ref (h 6)) (C := RX1) (T := TX1) (N := 18) hx hb htg inX1 (fs := fsBM h z) hown hK hP 0 rfl rfl 8 (by decide) (htg _ fX1_26) (fun _ h9 => h9) rfl dX1_empties_19 ?_
        refine lv_iload_n hx hb dX1_empties_22 rfl (lv_at hl 0 rfl) ?_
        refine lv_iconst (v := nI 0) hx hb dX1_empties_23 (by decide) ?_
        refine xr_zast (f := kgTE z) (i := i) (b := false) hx hb hK hP hD hS 6 2 rfl rfl (by omega) (by decide) dX1_empties_24 (fun H locs hP hD hS => ?_)
        rw [wBM_TE] at hP hD
        refine lv_iinc (v := nI (i + 1)) (lv' := [(1, .int (nI (i + 1))), (0, .ref (h 0))]) hx hb dX1_empties_25 hl (k := 0) rfl (nI_add _ 1) (by decide) rfl (fun ls hl => ?_)
        refine lv_goto (tgt := 12) hx hb dX1_empties_28 (by decide) ?_
        exact ih (i + 1) (kuTE z (updB (kgTE z) i false)) (by omega) (by omega) (by rw [ez]; exact emSt_step σ i) H locs hP hD hS ls (lv_sub hl [0, 1] rfl)
  exact loop (8 + 1) 0 (kuKn (kuBl σ 0) 0) (by omega) (by omega) (emSt_0 σ) _ _ hP hD hS ls (lv_sub hl [0, 1] rfl)
set_option maxRecDepth 100000 in
set_option maxHeartbeats 4000000 in
theorem m_isTold (l : Launch) (σ : BM) (d : Int64) : rMi l yX1_isTold wsX1_isTold ({ frames := 0, cells := 0, slots := 0, locals := 0 } : Room) σ [.long d] (bI (isToldM σ d)) := by
  intro dC dI cI cJ cZ h sz
  refine Met.ofW (cc := cX1_isTold) (maxL := 5) (ret := (some .boolean)) (by decide) rfl ?_
  intro p e s m args below meth c s₁ B hml hv
  obtain ⟨rfl, hsz, hP, hK, hD0⟩ := hv
  have hx := B.exec
  have hb := B.bytes
  have hr := B.returns
  have hts := atoms_spec (ws := wsX1_isTold) B.pre
  have hown : s.vm.findClass RX1 = some m.cls := findClass_of_methodNamed B.named
  have hlocks := B.notSynchronized
  subst hsz
  have htg : ∀ w ∈ GW, w.before _ s = true := fun w h => hts w (List.mem_cons_of_mem _ h)
  have hD := hD0
  have hA : ∀ q : Nat, s.heap.size ≤ q → (fun q => s.heap.size ≤ q) q := fun _ h => h
  have hS : va_S (fun q => s.heap.size ≤ q) s.heap s.heap [] := va_S.rf
  have hl := lv_entry [.ref (h 0), .long d] (n := 5) (Nat.le_of_ble_eq_true rfl)
  rw [lg_entry_eq]
  generalize (lg_sl [.ref (h 0), .long d] ++ List.replicate (5 - (lg_sl [.ref (h 0), .long d]).length) Slot.unset).toArray = ls at hl ⊢
  have hl : lv_has ls 5 [(0, .ref (h 0)), (1, .long d)] := hl
  have hP : va_P (dC, dI) vwCl (wBM cI cJ cZ h σ) s.heap := hP
  refine lv_iconst (v := nI 0) hx hb dX1_isTold_0 (by decide) ?_
  refine lv_istore_n (lv' := [(3, .int (nI 0)), (0, .ref (h 0)), (1, .long d)]) hx hb dX1_isTold_1 rfl hl (by decide) rfl (fun ls hl => ?_)
  refine lv_iconst (v := nI 0) hx hb dX1_isTold_2 (by decide) ?_
  refine lv_istore (lv' := [(4, .int (nI 0)), (3, .int (nI 0)), (0, .ref (h 0)), (1, .long d)]) hx hb dX1_isTold_3 hl (by decide) rfl (fun ls hl => ?_)
  have loop : ∀ (fu i : Nat) (x : Bool), i ≤ 8 → 8 < i + fu → x = anyB (fun t => kgTE σ t && decide (kgTG σ t = d)) i → ∀ (H : Heap) (locs : List Loc), va_P (dC, dI) vwCl (wBM cI cJ cZ h σ) H → va_S (fun q => s.heap.size ≤ q) s.heap H locs → ∀ (ls : Array Slot), lv_has ls 5 [(4, .int (nI i)), (3, .int (bI x)), (0, .ref (h 0)), (1, .long d)] → W p l e (headSpec wsX1_isTold ({ frames := 0, cells := 0, slots := 0, locals := 0 } : Room)).room s m ([.ref (h 0), .long d].toArray) below meth c H locs 0 0 (MQ below (va_Qi (fun (r' : Int32) (_ : Unit) => r' = (bI (isToldM σ d))) (fun _ _ => True) (fun q => s.heap.size ≤ q)) ([.ref (h 0), .long d].toArray) s 0 0 (fun q => s.heap.size ≤ q)) (F0 m 5 ls []) := by
    intro fu
    induction fu with
    | zero => intro i x h1 h2; exact absurd h2 (by omega)
    | succ fu ih =>
      intro i x hi hin ex H locs hP hS ls hl
      refine lv_iload hx hb dX1_isTold_5 (lv_at hl 0 rfl) ?_
      refine lv_bipush (v := nI 8) hx hb dX1_isTold_7 (by decide) ?_
      refine xr_icmp_ge (tgt := 50) hx hb dX1_isTold_9 (by decide) (by omega) (by omega) (fun c9 => ?_) (fun c9 => ?_)
      · refine lv_iconst (v := nI 0) hx hb dX1_isTold_50 (by decide) ?_
        refine lv_istore (lv' := [(4, .int (nI 0)), (3, .int (bI x)), (0, .ref (h 0)), (1, .long d)]) hx hb dX1_isTold_51 hl (by decide) rfl (fun ls hl => ?_)
        have hi8 : i = 8 := by omega
        rw [hi8] at ex
        have loop : ∀ (fu j : Nat) (y : Bool), j ≤ 4 → 4 < j + fu → y = (anyB (fun t => kgTE σ t && decide (kgTG σ t = d)) 8 || anyB (fun k => decide (kgPN σ k ≠ 0) && decide (kgPN σ k = d)) j) → ∀ (H : Heap) (locs : List Loc), va_P (dC, dI) vwCl (wBM cI cJ cZ h σ) H → va_S (fun q => s.heap.size ≤ q) s.heap H locs → ∀ (ls : Array Slot), lv_has ls 5 [(4, .int (nI j)), (3, .int (bI y)), (0, .ref (h 0)), (1, .long d)] → W p l e (headSpec wsX1_isTold ({ frames := 0, cells := 0, slots := 0, locals := 0 } : Room)).room s m ([.ref (h 0), .long d].toArray) below meth c H locs 0 0 (MQ below (va_Qi (fun (r' : Int32) (_ : Unit) => r' = (bI (isToldM σ d))) (fun _ _ => True) (fun q => s.heap.size ≤ q)) ([.ref (h 0), .long d].toArray) s 0 0 (fun q => s.heap.size ≤ q)) (F0 m 53 ls []) := by
          intro fu
          induction fu with
          | zero => intro j y h1 h2; exact absurd h2 (by omega)
          | succ fu ih =>
            intro j y hi hin ey H locs hP hS ls hl
            refine lv_iload hx hb dX1_isTold_53 (lv_at hl 0 rfl) ?_
            refine lv_iconst (v := nI 4) hx hb dX1_isTold_55 (by decide) ?_
            refine xr_icmp_ge (tgt := 99) hx hb dX1_isTold_56 (by decide) (by omega) (by omega) (fun c56 => ?_) (fun c56 => ?_)
            · refine lv_iload_n hx hb dX1_isTold_99 rfl (lv_at hl 1 rfl) ?_
              exact W.zret (ty := .boolean) (v := bI y) hx hb hr (by first | rfl | decide | exact bI_nar _) (fun t ht hW => ⟨⟨_, (), rfl, by rw [ey, show j = 4 by omega]; rfl, trivial⟩, hS.F ht⟩) hS.2.2 dX1_isTold_100
            · refine lv_iload_n hx hb dX1_isTold_59 rfl (lv_at hl 1 rfl) ?_
              refine xr_ifneB (tgt := 87) hx hb dX1_isTold_60 (by decide) (fun c60 => ?_) (fun c60 => ?_)
              · refine lv_iconst (v := nI 1) hx hb dX1_isTold_87 (by decide) ?_
                refine lv_goto (tgt := 92) hx hb dX1_isTold_88 (by decide) ?_
                refine lv_istore_n (lv' := [(3, .int (nI 1)), (4, .int (nI j)), (0, .ref (h 0)), (1, .long d)]) hx hb dX1_isTold_92 rfl hl (by decide) rfl (fun ls hl => ?_)
                refine lv_iinc (v := nI (j + 1)) (lv' := [(4, .int (nI (j + 1))), (3, .int (nI 1)), (0, .ref (h 0)), (1, .long d)]) hx hb dX1_isTold_93 hl (k := 1) rfl (nI_add _ 1) (by decide) rfl (fun ls hl => ?_)
                refine lv_goto (tgt := 53) hx hb dX1_isTold_96 (by decide) ?_
                exact ih (j + 1) true (by omega) (by omega) (by first | (rw [anyB_s (fun k => decide (kgPN σ k ≠ 0) && decide (kgPN σ k = d)) j, ← Bool.or_assoc, ← ey, c60, Bool.true_or]) | (rw [anyB_s (fun k => decide (kgPN σ k ≠ 0) && decide (kgPN σ k = d)) j, ← Bool.or_assoc, ← ey, c60, Bool.false_or]; show true = (_ && _); rw [decide_eq_true c71, decide_eq_true c83]; rfl)) H locs hP hS ls (lv_sub hl [0, 1, 2, 3] rfl)
              · refine lv_aload_n hx hb dX1_isTold_63 rfl (lv_at hl 2 rfl) ?_
                refine va_get (D := (dC, dI)) (ci := 1) (v := .ref (h 9)) (C := RX1) (T := TX1) (N := 18) hx hb htg inX1 (fs := fsBM h σ) hown hK hP 0 rfl rfl 12 (by decide) (htg _ fX1_36) (fun _ h9 => h9) rfl dX1_isTold_64 ?_
                refine lv_iload hx hb dX1_isTold_67 (lv_at hl 0 rfl) ?_
                refine xr_lald (f := kgPN σ) (i := j) hx hb hK hP 9 1 rfl rfl (by omega) (by decide) dX1_isTold_69 ?_
                refine lv_lconst (v := 0) hx hb dX1_isTold_70 (by decide) ?_
                refine xr_lcmp_eq (tgt := 91) hx hb dX1_isTold_71 dX1_isTold_72 (by decide) (fun c71 => ?_) (fun c71 => ?_)
                · refine lv_iconst (v := nI 0) hx hb dX1_isTold_91 (by decide) ?_
                  refine lv_istore_n (lv' := [(3, .int (nI 0)), (4, .int (nI j)), (0, .ref (h 0)), (1, .long d)]) hx hb dX1_isTold_92 rfl hl (by decide) rfl (fun ls hl => ?_)
                  refine lv_iinc (v := nI (j + 1)) (lv' := [(4, .int (nI (j + 1))), (3, .int (nI 0)), (0, .ref (h 0)), (1, .long d)]) hx hb dX1_isTold_93 hl (k := 1) rfl (nI_add _ 1) (by decide) rfl (fun ls hl => ?_)
                  refine lv_goto (tgt := 53) hx hb dX1_isTold_96 (by decide) ?_
                  exact ih (j + 1) false (by omega) (by omega) (by first | (rw [anyB_s (fun k => decide (kgPN σ k ≠ 0) && decide (kgPN σ k = d)) j, ← Bool.or_assoc, ← ey, c60, Bool.false_or]; show false = (_ && _); rw [decide_eq_false (not_not_intro c71), Bool.false_and]) | (rw [anyB_s (fun k => decide (kgPN σ k ≠ 0) && decide (kgPN σ k = d)) j, ← Bool.or_assoc, ← ey, c60, Bool.false_or]; show false = (_ && _); rw [decide_eq_false c83, Bool.and_false])) H locs hP hS ls (lv_sub hl [0, 1, 2, 3] rfl)
                · refine lv_aload_n hx hb dX1_isTold_75 rfl (lv_at hl 2 rfl) ?_
                  refine va_get (D := (dC, dI)) (ci := 1) (v := .ref (h 9)) (C := RX1) (T := TX1) (N := 18) hx hb htg inX1 (fs := fsBM h σ) hown hK hP 0 rfl rfl 12 (by decide) (htg _ fX1_36) (fun _ h9 => h9) rfl dX1_isTold_76 ?_
                  refine lv_iload hx hb dX1_isTold_79 (lv_at hl 0 rfl) ?_
                  refine xr_lald (f := kgPN σ) (i := j) hx hb hK hP 9 1 rfl rfl (by omega) (by decide) dX1_isTold_81 ?_
                  refine lv_lload_n hx hb dX1_isTold_82 rfl (lv_at hl 3 rfl) ?_
                  refine xr_lcmp_ne (tgt := 91) hx hb dX1_isTold_83 dX1_isTold_84 (by decide) (fun c83 => ?_) (fun c83 => ?_)
                  · refine lv_iconst (v := nI 0) hx hb dX1_isTold_91 (by decide) ?_
                    refine lv_istore_n (lv' := [(3, .int (nI 0)), (4, .int (nI j)), (0, .ref (h 0)), (1, .long d)]) hx hb dX1_isTold_92 rfl hl (by decide) rfl (fun ls hl => ?_)
                    refine lv_iinc (v := nI (j + 1)) (lv' := [(4, .int (nI (j + 1))), (3, .int (nI 0)), (0, .ref (h 0)), (1, .long d)]) hx hb dX1_isTold_93 hl (k := 1) rfl (nI_add _ 1) (by decide) rfl (fun ls hl => ?_)
                    refine lv_goto (tgt := 53) hx hb dX1_isTold_96 (by decide) ?_
                    exact ih (j + 1) false (by omega) (by omega) (by first | (rw [anyB_s (fun k => decide (kgPN σ k ≠ 0) && decide (kgPN σ k = d)) j, ← Bool.or_assoc, ← ey, c60, Bool.false_or]; show false = (_ && _); rw [decide_eq_false (not_not_intro c71), Bool.false_and]) | (rw [anyB_s (fun k => decide (kgPN σ k ≠ 0) && decide (kgPN σ k = d)) j, ← Bool.or_assoc, ← ey, c60, Bool.false_or]; show false = (_ && _); rw [decide_eq_false c83, Bool.and_false])) H locs hP hS ls (lv_sub hl [0, 1, 2, 3] rfl)
                  · refine lv_iconst (v := nI 1) hx hb dX1_isTold_87 (by decide) ?_
                    refine lv_goto (tgt := 92) hx hb dX1_isTold_88 (by decide) ?_
                    refine lv_istore_n (lv' := [(3, .int (nI 1)), (4, .int (nI j)), (0, .ref (h 0)), (1, .long d)]) hx hb dX1_isTold_92 rfl hl (by decide) rfl (fun ls hl => ?_)
                    refine lv_iinc (v := nI (j + 1)) (lv' := [(4, .int (nI (j + 1))), (3, .int (nI 1)), (0, .ref (h 0)), (1, .long d)]) hx hb dX1_isTold_93 hl (k := 1) rfl (nI_add _ 1) (by decide) rfl (fun ls hl => ?_)
                    refine lv_goto (tgt := 53) hx hb dX1_isTold_96 (by decide) ?_
                    exact ih (j + 1) true (by omega) (by omega) (by first | (rw [anyB_s (fun k => decide (kgPN σ k ≠ 0) && decide (kgPN σ k = d)) j, ← Bool.or_assoc, ← ey, c60, Bool.true_or]) | (rw [anyB_s (fun k => decide (kgPN σ k ≠ 0) && decide (kgPN σ k = d)) j, ← Bool.or_assoc, ← ey, c60, Bool.false_or]; show true = (_ && _); rw [decide_eq_true c71, decide_eq_true c83]; rfl)) H locs hP hS ls (lv_sub hl [0, 1, 2, 3] rfl)
        exact loop (4 + 1) 0 x (by omega) (by omega) (by rw [ex]; exact (Bool.or_false _).symm) _ _ hP hS ls (lv_sub hl [0, 1, 2, 3] rfl)
      · refine lv_iload_n hx hb dX1_isTold_12 rfl (lv_at hl 1 rfl) ?_
        refine xr_ifneB (tgt := 38) hx hb dX1_isTold_13 (by decide) (fun c13 => ?_) (fun c13 => ?_)
        · refine lv_iconst (v := nI 1) hx hb dX1_isTold_38 (by decide) ?_
          refine lv_goto (tgt := 43) hx hb dX1_isTold_39 (by decide) ?_
          refine lv_istore_n (lv' := [(3, .int (nI 1)), (4, .int (nI i)), (0, .ref (h 0)), (1, .long d)]) hx hb dX1_isTold_43 rfl hl (by decide) rfl (fun ls hl => ?_)
          refine lv_iinc (v := nI (i + 1)) (lv' := [(4, .int (nI (i + 1))), (3, .int (nI 1)), (0, .ref (h 0)), (1, .long d)]) hx hb dX1_isTold_44 hl (k := 1) rfl (nI_add _ 1) (by decide) rfl (fun ls hl => ?_)
          refine lv_goto (tgt := 5) hx hb dX1_isTold_47 (by decide) ?_
          exact ih (i + 1) true (by omega) (by omega) (by first | (rw [anyB, ← ex, c13, Bool.true_or]) | (rw [anyB, ← ex, c13, Bool.false_or]; show true = (_ && _); rw [c23, decide_eq_true c34]; rfl)) H locs hP hS ls (lv_sub hl [0, 1, 2, 3] rfl)
        · refine lv_aload_n hx hb dX1_isTold_16 rfl (lv_at hl 2 rfl) ?_
          refine va_get (D := (dC, dI)) (ci := 1) (v := .ref (h 6)) (C := RX1) (T := TX1) (N := 18) hx hb htg inX1 (fs := fsBM h σ) hown hK hP 0 rfl rfl 8 (by decide) (htg _ fX1_26) (fun _ h9 => h9) rfl dX1_isTold_17 ?_
          refine lv_iload hx hb dX1_isTold_20 (lv_at hl 0 rfl) ?_
          refine xr_zald (f := fun j => bI ((kgTE σ) j)) (i := i) hx hb hK hP 6 2 rfl rfl (by omega) (by decide) dX1_isTold_22 ?_
          refine xr_ifeqB (tgt := 42) hx hb dX1_isTold_23 (by decide) (fun c23 => ?_) (fun c23 => ?_)
          · refine lv_iconst (v := nI 0) hx hb dX1_isTold_42 (by decide) ?_
            refine lv_istore_n (lv' := [(3, .int (nI 0)), (4, .int (nI i)), (0, .ref (h 0)), (1, .long d)]) hx hb dX1_isTold_43 rfl hl (by decide) rfl (fun ls hl => ?_)
            refine lv_iinc (v := nI (i + 1)) (lv' := [(4, .int (nI (i + 1))), (3, .int (nI 0)), (0, .ref (h 0)), (1, .long d)]) hx hb dX1_isTold_44 hl (k := 1) rfl (nI_add _ 1) (by decide) rfl (fun ls hl => ?_)
            refine lv_goto (tgt := 5) hx hb dX1_isTold_47 (by decide) ?_
            exact ih (i + 1) false (by omega) (by omega) (by first | (rw [anyB, ← ex, c13, Bool.false_or]; show false = (_ && _); rw [c23, Bool.false_and]) | (rw [anyB, ← ex, c13, Bool.false_or]; show false = (_ && _); rw [decide_eq_false c34, Bool.and_false])) H locs hP hS ls (lv_sub hl [0, 1, 2, 3] rfl)
          · refine lv_aload_n hx hb dX1_isTold_26 rfl (lv_at hl 2 rfl) ?_
            refine va_get (D := (dC, dI)) (ci := 1) (v := .ref (h 5)) (C := RX1) (T := TX1) (N := 18) hx hb htg inX1 (fs := fsBM h σ) hown hK hP 0 rfl rfl 7 (by decide) (htg _ fX1_23) (fun _ h9 => h9) rfl dX1_isTold_27 ?_
            refine lv_iload hx hb dX1_isTold_30 (lv_at hl 0 rfl) ?_
            refine xr_lald (f := kgTG σ) (i := i) hx hb hK hP 5 1 rfl rfl (by omega) (by decide) dX1_isTold_32 ?_
            refine lv_lload_n hx hb dX1_isTold_33 rfl (lv_at hl 3 rfl) ?_
            refine xr_lcmp_ne (tgt := 42) hx hb dX1_isTold_34 dX1_isTold_35 (by decide) (fun c34 => ?_) (fun c34 => ?_)
            · refine lv_iconst (v := nI 0) hx hb dX1_isTold_42 (by decide) ?_
              refine lv_istore_n (lv' := [(3, .int (nI 0)), (4, .int (nI i)), (0, .ref (h 0)), (1, .long d)]) hx hb dX1_isTold_43 rfl hl (by decide) rfl (fun ls hl => ?_)
              refine lv_iinc (v := nI (i + 1)) (lv' := [(4, .int (nI (i + 1))), (3, .int (nI 0)), (0, .ref (h 0)), (1, .long d)]) hx hb dX1_isTold_44 hl (k := 1) rfl (nI_add _ 1) (by decide) rfl (fun ls hl => ?_)
              refine lv_goto (tgt := 5) hx hb dX1_isTold_47 (by decide) ?_
              exact ih (i + 1) false (by omega) (by omega) (by first | (rw [anyB, ← ex, c13, Bool.false_or]; show false = (_ && _); rw [c23, Bool.false_and]) | (rw [anyB, ← ex, c13, Bool.false_or]; show false = (_ && _); rw [decide_eq_false c34, Bool.and_false])) H locs hP hS ls (lv_sub hl [0, 1, 2, 3] rfl)
            · refine lv_iconst (v := nI 1) hx hb dX1_isTold_38 (by decide) ?_
              refine lv_goto (tgt := 43) hx hb dX1_isTold_39 (by decide) ?_
              refine lv_istore_n (lv' := [(3, .int (nI 1)), (4, .int (nI i)), (0, .ref (h 0)), (1, .long d)]) hx hb dX1_isTold_43 rfl hl (by decide) rfl (fun ls hl => ?_)
              refine lv_iinc (v := nI (i + 1)) (lv' := [(4, .int (nI (i + 1))), (3, .int (nI 1)), (0, .ref (h 0)), (1, .long d)]) hx hb dX1_isTold_44 hl (k := 1) rfl (nI_add _ 1) (by decide) rfl (fun ls hl => ?_)
              refine lv_goto (tgt := 5) hx hb dX1_isTold_47 (by decide) ?_
              exact ih (i + 1) true (by omega) (by omega) (by first | (rw [anyB, ← ex, c13, Bool.true_or]) | (rw [anyB, ← ex, c13, Bool.false_or]; show true = (_ && _); rw [c23, decide_eq_true c34]; rfl)) H locs hP hS ls (lv_sub hl [0, 1, 2, 3] rfl)
  exact loop (8 + 1) 0 false (by omega) (by omega) (rfl) _ _ hP hS ls (lv_sub hl [0, 1, 2, 3] rfl)
set_option maxRecDepth 100000 in
set_option maxHeartbeats 4000000 in
theorem m_reads (l : Launch) (σ : BM) (a : Nat) (en : Nat) (ha : a ≤ 700) (he : en ≤ 700) (hby : byt (kgJR σ) 700) : wMi l yX1_reads wsX1_reads ({ frames := 0, cells := 0, slots := 0, locals := 0 } : Room) σ [.int (nI a), .int (nI en)] (optI (rdR σ a en).1) ((rdR σ a en).2) := by
  intro dC dI cI cJ cZ h sz
  refine Met.ofW (cc := cX1_reads) (maxL := 6) (ret := (some .int)) (by decide) rfl ?_
  intro p e s m args below meth c s₁ B hml hv
  obtain ⟨rfl, hsz, hP, hK, hD0⟩ := hv
  have hx := B.exec
  have hb := B.bytes
  have hr := B.returns
  have hts := atoms_spec (ws := wsX1_reads) B.pre
  have hown : s.vm.findClass RX1 = some m.cls := findClass_of_methodNamed B.named
  have hlocks := B.notSynchronized
  subst hsz
  have htg : ∀ w ∈ GW, w.before _ s = true := fun w h => hts w (List.mem_cons_of_mem _ h)
  have hD := hD0.self (sz := s.heap.size)
  generalize hAe : va_A (wBM cI cJ cZ h σ) s.heap.size = A at hD ⊢
  have hA : ∀ q : Nat, s.heap.size ≤ q → A q := fun q h => by rw [← hAe]; exact Or.inr h
  have hS : va_S A s.heap s.heap [] := va_S.rf
  have hl := lv_entry [.ref (h 0), .int (nI a), .int (nI en)] (n := 6) (Nat.le_of_ble_eq_true rfl)
  rw [lg_entry_eq]
  generalize (lg_sl [.ref (h 0), .int (nI a), .int (nI en)] ++ List.replicate (6 - (lg_sl [.ref (h 0), .int (nI a), .int (nI en)]).length) Slot.unset).toArray = ls at hl ⊢
  have hl : lv_has ls 6 [(0, .ref (h 0)), (1, .int (nI a)), (2, .int (nI en))] := hl
  have hP : va_P (dC, dI) vwCl (wBM cI cJ cZ h σ) s.heap := hP
  refine lv_iload_n hx hb dX1_reads_0 rfl (lv_at hl 1 rfl) ?_
  refine lv_iconst (v := nI 4) hx hb dX1_reads_1 (by decide) ?_
  refine xr_iadd hx hb dX1_reads_2 ?_
  refine lv_iload_n hx hb dX1_reads_3 rfl (lv_at hl 2 rfl) ?_
  refine xr_icmp_gt (tgt := 27) hx hb dX1_reads_4 (by decide) (by omega) (by omega) (fun c4 => ?_) (fun c4 => ?_)
  · refine lv_iconst (v := -1) hx hb dX1_reads_27 (by decide) ?_
    have hfin : σ = (rdR σ a en).2 := by rw [rdR_1 (by omega)]
    rw [hfin] at hP hD
    exact W.iret (v := -1) hx hb hr (fun t ht hW => ⟨⟨_, (), rfl, by rw [rdR_1 (by omega)]; rfl, by rw [ht]; exact hP, va_K.moved hW.alike hK, hD⟩, hS.F ht⟩) hS.2.2 dX1_reads_28
  · have h256 := (hby a (by omega)).2
    refine lv_aload_n hx hb dX1_reads_7 rfl (lv_at hl 0 rfl) ?_
    refine va_get (D := (dC, dI)) (ci := 1) (v := .ref (h 10)) (C := RX1) (T := TX1) (N := 18) hx hb htg inX1 (fs := fsBM h σ) hown hK hP 0 rfl rfl 13 (by decide) (htg _ fX1_39) (fun _ h9 => h9) rfl dX1_reads_8 ?_
    refine lv_iload_n hx hb dX1_reads_11 rfl (lv_at hl 1 rfl) ?_
    refine xr_iald (f := kgJR σ) (i := a) hx hb hK hP 10 0 rfl rfl (by omega) (by decide) dX1_reads_12 ?_
    refine W.eq (g2 := F0 m 13 ls [.int (nI (nb (kgJR σ) (a)))]) (by rw [(hby (a) (by omega)).1]) ?_
    refine lv_iconst (v := nI 1) hx hb dX1_reads_13 (by decide) ?_
    refine xr_icmp_lt (tgt := 27) hx hb dX1_reads_14 (by decide) (by omega) (by omega) (fun c14 => ?_) (fun c14 => ?_)
    · refine lv_iconst (v := -1) hx hb dX1_reads_27 (by decide) ?_
      have hfin : σ = (rdR σ a en).2 := by rw [rdR_1 (by omega)]
      rw [hfin] at hP hD
      exact W.iret (v := -1) hx hb hr (fun t ht hW => ⟨⟨_, (), rfl, by rw [rdR_1 (by omega)]; rfl, by rw [ht]; exact hP, va_K.moved hW.alike hK, hD⟩, hS.F ht⟩) hS.2.2 dX1_reads_28
    · refine lv_aload_n hx hb dX1_reads_17 rfl (lv_at hl 0 rfl) ?_
      refine va_get (D := (dC, dI)) (ci := 1) (v := .ref (h 10)) (C := RX1) (T := TX1) (N := 18) hx hb htg inX1 (fs := fsBM h σ) hown hK hP 0 rfl rfl 13 (by decide) (htg _ fX1_39) (fun _ h9 => h9) rfl dX1_reads_18 ?_
      refine lv_iload_n hx hb dX1_reads_21 rfl (lv_at hl 1 rfl) ?_
      refine xr_iald (f := kgJR σ) (i := a) hx hb hK hP 10 0 rfl rfl (by omega) (by decide) dX1_reads_22 ?_
      refine W.eq (g2 := F0 m 23 ls [.int (nI (nb (kgJR σ) (a)))]) (by rw [(hby (a) (by omega)).1]) ?_
      refine lv_iconst (v := nI 4) hx hb dX1_reads_23 (by decide) ?_
      refine xr_icmp_le (tgt := 29) hx hb dX1_reads_24 (by decide) (by omega) (by omega) (fun c24 => ?_) (fun c24 => ?_)
      · refine lv_aload_n hx hb dX1_reads_29 rfl (lv_at hl 0 rfl) ?_
        refine lv_aload_n hx hb dX1_reads_30 rfl (lv_at hl 0 rfl) ?_
        refine va_get (D := (dC, dI)) (ci := 1) (v := .ref (h 10)) (C := RX1) (T := TX1) (N := 18) hx hb htg inX1 (fs := fsBM h σ) hown hK hP 0 rfl rfl 13 (by decide) (htg _ fX1_39) (fun _ h9 => h9) rfl dX1_reads_31 ?_
        refine lv_iload_n hx hb dX1_reads_34 rfl (lv_at hl 1 rfl) ?_
        refine lv_iconst (v := nI 1) hx hb dX1_reads_35 (by decide) ?_
        refine xr_iadd hx hb dX1_reads_36 ?_
        refine xr_iald (f := kgJR σ) (i := a + 1) hx hb hK hP 10 0 rfl rfl (by omega) (by decide) dX1_reads_37 ?_
        refine W.eq (g2 := F0 m 38 ls [.int (nI (nb (kgJR σ) (a + 1))), .ref (h 0)]) (by rw [(hby (a + 1) (by omega)).1]) ?_
        refine lv_sipush (v := nI 256) hx hb dX1_reads_38 (by decide) ?_
        refine lv_aload_n hx hb dX1_reads_41 rfl (lv_at hl 0 rfl) ?_
        refine va_get (D := (dC, dI)) (ci := 1) (v := .ref (h 10)) (C := RX1) (T := TX1) (N := 18) hx hb htg inX1 (fs := fsBM h σ) hown hK hP 0 rfl rfl 13 (by decide) (htg _ fX1_39) (fun _ h9 => h9) rfl dX1_reads_42 ?_
        refine lv_iload_n hx hb dX1_reads_45 rfl (lv_at hl 1 rfl) ?_
        refine lv_iconst (v := nI 2) hx hb dX1_reads_46 (by decide) ?_
        refine xr_iadd hx hb dX1_reads_47 ?_
        refine xr_iald (f := kgJR σ) (i := a + 2) hx hb hK hP 10 0 rfl rfl (by omega) (by decide) dX1_reads_48 ?_
        refine W.eq (g2 := F0 m 49 ls [.int (nI (nb (kgJR σ) (a + 2))), .int (nI 256), .int (nI (nb (kgJR σ) (a + 1))), .ref (h 0)]) (by rw [(hby (a + 2) (by omega)).1]) ?_
        refine xr_imul hx hb dX1_reads_49 ?_
        refine xr_iadd hx hb dX1_reads_50 ?_
        refine W.eq (g2 := F0 m 51 ls [.int (nI (lenAt (kgJR σ) a)), .ref (h 0)]) rfl ?_
        have hlen := lenAt_lt hby (show a + 2 < 700 by omega)
        refine va_put (D := (dC, dI)) (ci := 1) (v := .int (nI (lenAt (kgJR σ) a))) (ty := .int) (C := RX1) (T := TX1) (N := 18) hx hb htg inX1 tyX1 tyX1_ok nmX1 (fs := fsBM h σ) hown hK hP hD hS 0 rfl rfl 17 (by decide) (htg _ fX1_65) (fun _ h9 => h9) rfl (by decide +kernel) rfl rfl (Nat.le_of_ble_eq_true rfl) dX1_reads_51 (fun H locs hP hD hS => ?_)
        rw [wBM_Le] at hP hD
        refine lv_iload_n hx hb dX1_reads_54 rfl (lv_at hl 1 rfl) ?_
        refine lv_iconst (v := nI 3) hx hb dX1_reads_55 (by decide) ?_
        refine xr_iadd hx hb dX1_reads_56 ?_
        refine lv_aload_n hx hb dX1_reads_57 rfl (lv_at hl 0 rfl) ?_
        refine va_get (D := (dC, dI)) (ci := 1) (v := .int (nI (lenAt (kgJR σ) a))) (C := RX1) (T := TX1) (N := 18) hx hb htg inX1 (fs := fsBM h (kuLe σ (lenAt (kgJR σ) a))) hown hK hP 0 rfl rfl 17 (by decide) (htg _ fX1_65) (fun _ h9 => h9) rfl dX1_reads_58 ?_
        refine xr_iadd hx hb dX1_reads_61 ?_
        refine lv_istore_n (lv' := [(3, .int (nI (a + 3 + (lenAt (kgJR σ) a)))), (0, .ref (h 0)), (1, .int (nI a)), (2, .int (nI en))]) hx hb dX1_reads_62 rfl hl (by decide) rfl (fun ls hl => ?_)
        refine lv_iload_n hx hb dX1_reads_63 rfl (lv_at hl 0 rfl) ?_
        refine lv_iload_n hx hb dX1_reads_64 rfl (lv_at hl 3 rfl) ?_
        refine xr_icmp_lt (tgt := 70) hx hb dX1_reads_65 (by decide) (by omega) (by omega) (fun c65 => ?_) (fun c65 => ?_)
        · refine lv_iconst (v := nI 0) hx hb dX1_reads_70 (by decide) ?_
          refine lv_istore (lv' := [(4, .int (nI 0)), (3, .int (nI (a + 3 + (lenAt (kgJR σ) a)))), (0, .ref (h 0)), (1, .int (nI a)), (2, .int (nI en))]) hx hb dX1_reads_71 hl (by decide) rfl (fun ls hl => ?_)
          refine lv_iload_n hx hb dX1_reads_73 rfl (lv_at hl 3 rfl) ?_
          refine lv_istore (lv' := [(5, .int (nI a)), (4, .int (nI 0)), (3, .int (nI (a + 3 + (lenAt (kgJR σ) a)))), (0, .ref (h 0)), (1, .int (nI a)), (2, .int (nI en))]) hx hb dX1_reads_74 hl (by decide) rfl (fun ls hl => ?_)
          have loop : ∀ (fu j : Nat) (x : Int32), j ≤ a + 3 + lenAt (kgJR σ) a → a + 3 + lenAt (kgJR σ) a < j + fu → a ≤ j → x = smL (kgJR σ) a (j - a) → ∀ (H : Heap) (locs : List Loc), va_P (dC, dI) vwCl (wBM cI cJ cZ h (kuLe σ (lenAt (kgJR σ) a))) H → va_D A (wBM cI cJ cZ h (kuLe σ (lenAt (kgJR σ) a))) → va_S A s.heap H locs → ∀ (ls : Array Slot), lv_has ls 6 [(5, .int (nI j)), (4, .int x), (3, .int (nI (a + 3 + lenAt (kgJR σ) a))), (0, .ref (h 0)), (1, .int (nI a)), (2, .int (nI en))] → W p l e (headSpec wsX1_reads ({ frames := 0, cells := 0, slots := 0, locals := 0 } : Room)).room s m ([.ref (h 0), .int (nI a), .int (nI en)].toArray) below meth c H locs 0 0 (MQ below (va_Qi (fun (r' : Int32) (_ : Unit) => r' = (optI (rdR σ a en).1)) (fun _ => aBM dC dI cI cJ cZ h A ((rdR σ a en).2)) A) ([.ref (h 0), .int (nI a), .int (nI en)].toArray) s 0 0 A) (F0 m 76 ls []) := by
            intro fu
            induction fu with
            | zero => intro j x h1 h2; exact absurd h2 (by omega)
            | succ fu ih =>
              intro j x hi hin hj ex H locs hP hD hS ls hl
              refine lv_iload hx hb dX1_reads_76 (lv_at hl 0 rfl) ?_
              refine lv_iload_n hx hb dX1_reads_78 rfl (lv_at hl 2 rfl) ?_
              refine xr_icmp_ge (tgt := 100) hx hb dX1_reads_79 (by decide) (by omega) (by omega) (fun c79 => ?_) (fun c79 => ?_)
              · refine lv_iconst (v := nI 0) hx hb dX1_reads_100 (by decide) ?_
                refine lv_istore (lv' := [(5, .int (nI 0)), (4, .int x), (3, .int (nI (a + 3 + lenAt (kgJR σ) a))), (0, .ref (h 0)), (1, .int (nI a)), (2, .int (nI en))]) hx hb dX1_reads_101 hl (by decide) rfl (fun ls hl => ?_)
                have hx9 : x = smL (kgJR σ) a (3 + lenAt (kgJR σ) a) := by rw [ex, show j - a = 3 + lenAt (kgJR σ) a by omega]
                have loop : ∀ (fu i : Nat) (z : BM), i ≤ lenAt (kgJR σ) a → lenAt (kgJR σ) a < i + fu → z = rdSt σ a (lenAt (kgJR σ) a) i → ∀ (H : Heap) (locs : List Loc), va_P (dC, dI) vwCl (wBM cI cJ cZ h z) H → va_D A (wBM cI cJ cZ h z) → va_S A s.heap H locs → ∀ (ls : Array Slot), lv_has ls 6 [(5, .int (nI i)), (4, .int x), (3, .int (nI (a + 3 + lenAt (kgJR σ) a))), (0, .ref (h 0)), (1, .int (nI a)), (2, .int (nI en))] → W p l e (headSpec wsX1_reads ({ frames := 0, cells := 0, slots := 0, locals := 0 } : Room)).room s m ([.ref (h 0), .int (nI a), .int (nI en)].toArray) below meth c H locs 0 0 (MQ below (va_Qi (fun (r' : Int32) (_ : Unit) => r' = (optI (rdR σ a en).1)) (fun _ => aBM dC dI cI cJ cZ h A ((rdR σ a en).2)) A) ([.ref (h 0), .int (nI a), .int (nI en)].toArray) s 0 0 A) (F0 m 103 ls []) := by
                  intro fu
                  induction fu with
                  | zero => intro i z h1 h2; exact absurd h2 (by omega)
                  | succ fu ih =>
                    intro i z hi hin ez H locs hP hD hS ls hl
                    refine lv_iload hx hb dX1_reads_103 (lv_at hl 0 rfl) ?_
                    refine lv_aload_n hx hb dX1_reads_105 rfl (lv_at hl 3 rfl) ?_
                    have hLe : kgLe z = lenAt (kgJR σ) a := by rw [ez]; rfl
                    refine va_get (D := (dC, dI)) (ci := 1) (v := .int (nI (kgLe z))) (C := RX1) (T := TX1) (N := 18) hx hb htg inX1 (fs := fsBM h z) hown hK hP 0 rfl rfl 17 (by decide) (htg _ fX1_65) (fun _ h9 => h9) rfl dX1_reads_106 ?_
                    refine xr_icmp_ge (tgt := 136) hx hb dX1_reads_109 (by decide) (by omega) (by omega) (fun c109 => ?_) (fun c109 => ?_)
                    · refine lv_iload hx hb dX1_reads_136 (lv_at hl 1 rfl) ?_
                      refine lv_sipush (v := nI 255) hx hb dX1_reads_138 (by decide) ?_
                      refine lv_iand hx hb dX1_reads_141 ?_
                      refine lv_aload_n hx hb dX1_reads_142 rfl (lv_at hl 3 rfl) ?_
                      refine va_get (D := (dC, dI)) (ci := 1) (v := .ref (h 10)) (C := RX1) (T := TX1) (N := 18) hx hb htg inX1 (fs := fsBM h z) hown hK hP 0 rfl rfl 13 (by decide) (htg _ fX1_39) (fun _ h9 => h9) rfl dX1_reads_143 ?_
                      refine lv_iload_n hx hb dX1_reads_146 rfl (lv_at hl 2 rfl) ?_
                      refine xr_iald (f := kgJR z) (i := a + 3 + lenAt (kgJR σ) a) hx hb hK hP 10 0 rfl rfl (by omega) (by decide) dX1_reads_147 ?_
                      refine lv_icmp_ne (tgt := 157) hx hb dX1_reads_148 (by decide) (fun c148 => ?_) (fun c148 => ?_)
                      · refine lv_iconst (v := -1) hx hb dX1_reads_157 (by decide) ?_
                        have hfin : z = (rdR σ a en).2 := by rw [rdR_3 (by omega) (by omega) (by rw [sm, ← hx9]; intro q; exact c148 (by rw [ez]; exact q)), ez, show i = lenAt (kgJR σ) a by omega]
                        rw [hfin] at hP hD
                        exact W.iret (v := -1) hx hb hr (fun t ht hW => ⟨⟨_, (), rfl, by rw [rdR_3 (by omega) (by omega) (by rw [sm, ← hx9]; intro q; exact c148 (by rw [ez]; exact q))]; rfl, by rw [ht]; exact hP, va_K.moved hW.alike hK, hD⟩, hS.F ht⟩) hS.2.2 dX1_reads_158
                      · refine lv_iload_n hx hb dX1_reads_151 rfl (lv_at hl 2 rfl) ?_
                        refine lv_iconst (v := nI 1) hx hb dX1_reads_152 (by decide) ?_
                        refine xr_iadd hx hb dX1_reads_153 ?_
                        refine lv_goto (tgt := 158) hx hb dX1_reads_154 (by decide) ?_
                        have hfin : z = (rdR σ a en).2 := by rw [rdR_4 (by omega) (by omega) (by rw [sm, ← hx9]; rw [ez] at c148; exact c148), ez, show i = lenAt (kgJR σ) a by omega]
                        rw [hfin] at hP hD
                        exact W.iret (v := nI (a + 3 + lenAt (kgJR σ) a + 1)) hx hb hr (fun t ht hW => ⟨⟨_, (), rfl, by rw [rdR_4 (by omega) (by omega) (by rw [sm, ← hx9]; rw [ez] at c148; exact c148)]; rfl, by rw [ht]; exact hP, va_K.moved hW.alike hK, hD⟩, hS.F ht⟩) hS.2.2 dX1_reads_158
                    · refine lv_aload_n hx hb dX1_reads_112 rfl (lv_at hl 3 rfl) ?_
                      refine va_get (D := (dC, dI)) (ci := 1) (v := .ref (h 11)) (C := RX1) (T := TX1) (N := 18) hx hb htg inX1 (fs := fsBM h z) hown hK hP 0 rfl rfl 16 (by decide) (htg _ fX1_42) (fun _ h9 => h9) rfl dX1_reads_113 ?_
                      refine lv_iload hx hb dX1_reads_116 (lv_at hl 0 rfl) ?_
                      refine lv_aload_n hx hb dX1_reads_118 rfl (lv_at hl 3 rfl) ?_
                      refine va_get (D := (dC, dI)) (ci := 1) (v := .ref (h 10)) (C := RX1) (T := TX1) (N := 18) hx hb htg inX1 (fs := fsBM h z) hown hK hP 0 rfl rfl 13 (by decide) (htg _ fX1_39) (fun _ h9 => h9) rfl dX1_reads_119 ?_
                      refine lv_iload_n hx hb dX1_reads_122 rfl (lv_at hl 4 rfl) ?_
                      refine lv_iconst (v := nI 3) hx hb dX1_reads_123 (by decide) ?_
                      refine xr_iadd hx hb dX1_reads_124 ?_
                      refine lv_iload hx hb dX1_reads_125 (lv_at hl 0 rfl) ?_
                      refine xr_iadd hx hb dX1_reads_127 ?_
                      refine xr_iald (f := kgJR z) (i := a + 3 + i) hx hb hK hP 10 0 rfl rfl (by omega) (by decide) dX1_reads_128 ?_
                      refine xr_iast (f := kgRC z) (i := i) (x := (kgJR z) (a + 3 + i)) hx hb hK hP hD hS 11 0 rfl rfl (by omega) (by decide) dX1_reads_129 (fun H locs hP hD hS => ?_)
                      rw [wBM_RC] at hP hD
                      refine lv_iinc (v := nI (i + 1)) (lv' := [(5, .int (nI (i + 1))), (4, .int x), (3, .int (nI (a + 3 + lenAt (kgJR σ) a))), (0, .ref (h 0)), (1, .int (nI a)), (2, .int (nI en))]) hx hb dX1_reads_130 hl (k := 0) rfl (nI_add _ 1) (by decide) rfl (fun ls hl => ?_)
                      refine lv_goto (tgt := 103) hx hb dX1_reads_133 (by decide) ?_
                      exact ih (i + 1) (kuRC z (upd (kgRC z) i ((kgJR z) (a + 3 + i)))) (by omega) (by omega) (by rw [ez]; exact rdSt_step σ a (lenAt (kgJR σ) a) i) H locs hP hD hS ls (lv_sub hl [0, 1, 2, 3, 4, 5] rfl)
                exact loop (lenAt (kgJR σ) a + 1) 0 (kuLe σ (lenAt (kgJR σ) a)) (by omega) (by omega) (rdSt_0 σ a (lenAt (kgJR σ) a)) _ _ hP hD hS ls (lv_sub hl [0, 1, 2, 3, 4, 5] rfl)
              · refine lv_iload hx hb dX1_reads_82 (lv_at hl 1 rfl) ?_
                refine lv_aload_n hx hb dX1_reads_84 rfl (lv_at hl 3 rfl) ?_
                refine va_get (D := (dC, dI)) (ci := 1) (v := .ref (h 10)) (C := RX1) (T := TX1) (N := 18) hx hb htg inX1 (fs := fsBM h (kuLe σ (lenAt (kgJR σ) a))) hown hK hP 0 rfl rfl 13 (by decide) (htg _ fX1_39) (fun _ h9 => h9) rfl dX1_reads_85 ?_
                refine lv_iload hx hb dX1_reads_88 (lv_at hl 0 rfl) ?_
                refine xr_iald (f := kgJR (kuLe σ (lenAt (kgJR σ) a))) (i := j) hx hb hK hP 10 0 rfl rfl (by omega) (by decide) dX1_reads_90 ?_
                refine lv_iadd hx hb dX1_reads_91 ?_
                refine lv_istore (lv' := [(4, .int (x + ((kgJR (kuLe σ (lenAt (kgJR σ) a))) j))), (5, .int (nI j)), (3, .int (nI (a + 3 + lenAt (kgJR σ) a))), (0, .ref (h 0)), (1, .int (nI a)), (2, .int (nI en))]) hx hb dX1_reads_92 hl (by decide) rfl (fun ls hl => ?_)
                refine lv_iinc (v := nI (j + 1)) (lv' := [(5, .int (nI (j + 1))), (4, .int (x + ((kgJR (kuLe σ (lenAt (kgJR σ) a))) j))), (3, .int (nI (a + 3 + lenAt (kgJR σ) a))), (0, .ref (h 0)), (1, .int (nI a)), (2, .int (nI en))]) hx hb dX1_reads_94 hl (k := 1) rfl (nI_add _ 1) (by decide) rfl (fun ls hl => ?_)
                refine lv_goto (tgt := 76) hx hb dX1_reads_97 (by decide) ?_
                exact ih (j + 1) (x + ((kgJR (kuLe σ (lenAt (kgJR σ) a))) j)) (by omega) (by omega) (by omega) (by rw [show j + 1 - a = (j - a) + 1 by omega, ex]; show _ = smL _ _ _ + _; rw [show a + (j - a) = j by omega]; rfl) H locs hP hD hS ls (lv_sub hl [0, 1, 2, 3, 4, 5] rfl)
          exact loop (a + 3 + lenAt (kgJR σ) a + 1) a (nI 0) (by omega) (by omega) (Nat.le_refl _) (by rw [Nat.sub_self]; rfl) _ _ hP hD hS ls (lv_sub hl [0, 1, 2, 3, 4, 5] rfl)
        · refine lv_iconst (v := -1) hx hb dX1_reads_68 (by decide) ?_
          have hfin : kuLe σ (lenAt (kgJR σ) a) = (rdR σ a en).2 := by rw [rdR_2 (by omega) (by omega)]
          rw [hfin] at hP hD
          exact W.iret (v := -1) hx hb hr (fun t ht hW => ⟨⟨_, (), rfl, by rw [rdR_2 (by omega) (by omega)]; rfl, by rw [ht]; exact hP, va_K.moved hW.alike hK, hD⟩, hS.F ht⟩) hS.2.2 dX1_reads_69
      · refine lv_iconst (v := -1) hx hb dX1_reads_27 (by decide) ?_
        have hfin : σ = (rdR σ a en).2 := by rw [rdR_1 (by omega)]
        rw [hfin] at hP hD
        exact W.iret (v := -1) hx hb hr (fun t ht hW => ⟨⟨_, (), rfl, by rw [rdR_1 (by omega)]; rfl, by rw [ht]; exact hP, va_K.moved hW.alike hK, hD⟩, hS.F ht⟩) hS.2.2 dX1_reads_28
