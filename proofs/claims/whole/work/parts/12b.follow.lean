set_option maxRecDepth 100000 in
set_option maxHeartbeats 4000000 in
theorem c_follow (l : Launch) (σ : BJ) (a : Nat) (ha : a + 2 < 700) (hl7 : a + 3 + lenAt (jgW σ) a < 700) (hby : byt (jgW σ) 700) (hc : jgBc σ ≤ 20) (hkc : jgKc σ ≤ 16) : wBi l yX0_follow wsX0_follow ({ frames := 2, cells := 0, slots := 0, locals := 49 } : Room) σ [.int (nI a)] (bI ((follow σ a).isSome)) (ofO (follow σ a) σ) := by
  intro dC dI cI cJ h sz
  refine Met.ofW (cc := cX0_follow) (maxL := 4) (ret := (some .boolean)) (by decide) rfl ?_
  intro p e s m args below meth c s₁ B hml hv
  obtain ⟨rfl, hsz, hP, hK, hD0⟩ := hv
  have hx := B.exec
  have hb := B.bytes
  have hr := B.returns
  have hts := atoms_spec (ws := wsX0_follow) B.pre
  have hown : s.vm.findClass RX0 = some m.cls := findClass_of_methodNamed B.named
  have hlocks := B.notSynchronized
  subst hsz
  have htg : ∀ w ∈ GW, w.before _ s = true := fun w h => hts w (List.mem_cons_of_mem _ h)
  have hD := hD0.self (sz := s.heap.size)
  generalize hAe : va_A (wBJ cI cJ h σ) s.heap.size = A at hD ⊢
  have hA : ∀ q : Nat, s.heap.size ≤ q → A q := fun q h => by rw [← hAe]; exact Or.inr h
  have hS : va_S A s.heap s.heap [] := va_S.rf
  have hl := lv_entry [.ref (h 0), .int (nI a)] (n := 4) (Nat.le_of_ble_eq_true rfl)
  rw [lg_entry_eq]
  generalize (lg_sl [.ref (h 0), .int (nI a)] ++ List.replicate (4 - (lg_sl [.ref (h 0), .int (nI a)]).length) Slot.unset).toArray = ls at hl ⊢
  have hl : lv_has ls 4 [(0, .ref (h 0)), (1, .int (nI a))] := hl
  have hP : va_P (dC, dI) vwCl (wBJ cI cJ h σ) s.heap := hP
  refine lv_aload_n hx hb dX0_follow_0 rfl (lv_at hl 0 rfl) ?_
  refine lv_iload_n hx hb dX0_follow_1 rfl (lv_at hl 1 rfl) ?_
  refine bj_ri (As := [.int (nI a)]) (rest := []) (n := 1) ⟨hx, hb, hml, hown, htg⟩ (c_lengthAt l σ a (by omega) (hby)) (cwV 1 htg gX0_185 rfl rfl rfl (by decide +kernel) ⟨Nat.le_of_ble_eq_true rfl, Nat.le_of_ble_eq_true rfl⟩) hK hP hD hS hA hl.1 rfl rfl (Nat.le_of_ble_eq_true rfl) dX0_follow_2 (Nat.zero_le _) (Nat.zero_le _) (fun H locs hP hS => ?_)
  refine lv_istore_n (lv' := [(2, .int (nI (lenAt (jgW σ) a))), (0, .ref (h 0)), (1, .int (nI a))]) hx hb dX0_follow_5 rfl hl (by decide) rfl (fun ls hl => ?_)
  refine lv_iload_n hx hb dX0_follow_6 rfl (lv_at hl 2 rfl) ?_
  refine lv_iconst (v := nI 3) hx hb dX0_follow_7 (by decide) ?_
  refine xr_iadd hx hb dX0_follow_8 ?_
  refine lv_istore_n (lv' := [(3, .int (nI (a + 3))), (2, .int (nI (lenAt (jgW σ) a))), (0, .ref (h 0)), (1, .int (nI a))]) hx hb dX0_follow_9 rfl hl (by decide) rfl (fun ls hl => ?_)
  refine lv_aload_n hx hb dX0_follow_10 rfl (lv_at hl 2 rfl) ?_
  refine va_get (D := (dC, dI)) (ci := 0) (v := .ref (h 2)) (C := RX0) (T := TX0) (N := 14) hx hb htg inX0 (fs := fsBJ h σ) hown hK hP 0 rfl rfl 2 (by decide) (htg _ fX0_13) (fun _ h9 => h9) rfl dX0_follow_11 ?_
  refine lv_iload_n hx hb dX0_follow_14 rfl (lv_at hl 3 rfl) ?_
  refine xr_iald (f := jgW σ) (i := a) hx hb hK hP 2 0 rfl rfl (by omega) (by decide) dX0_follow_15 ?_
  by_cases c16_1 : (jgW σ) a = 1
  · rw [c16_1]
    refine lv_tableIn (tgt := 48) (off := 32) hx hb dX0_follow_16 (by decide) (by decide) (by decide) (by decide) ?_
    refine lv_aload_n hx hb dX0_follow_48 rfl (lv_at hl 2 rfl) ?_
    refine lv_iload_n hx hb dX0_follow_49 rfl (lv_at hl 0 rfl) ?_
    refine lv_iload_n hx hb dX0_follow_50 rfl (lv_at hl 1 rfl) ?_
    refine bj_wi (As := [.int (nI (a + 3)), .int (nI (lenAt (jgW σ) a))]) (rest := []) (n := 2) ⟨hx, hb, hml, hown, htg⟩ (c_followBlob l σ (a + 3) (lenAt (jgW σ) a) (by omega) (hc)) (cwV 2 htg gX0_188 rfl rfl rfl (by decide +kernel) ⟨Nat.le_of_ble_eq_true rfl, Nat.le_of_ble_eq_true rfl⟩) hK hP hD hS hA hl.1 rfl rfl (Nat.le_of_ble_eq_true rfl) dX0_follow_51 (Nat.zero_le _) (Nat.zero_le _) (fun H locs hP hD hS => ?_)
    obtain ⟨z1, ez1⟩ : ∃ zq : BJ, zq = ofO (fBlob σ (a + 3) (lenAt (jgW σ) a)) σ := ⟨_, rfl⟩
    rw [← ez1] at hP hD
    have hfin : z1 = ofO (follow σ a) σ := by rw [follow, if_pos c16_1]; exact ez1
    rw [hfin] at hP hD
    exact W.zret (ty := .boolean) (v := bI ((fBlob σ (a + 3) (lenAt (jgW σ) a)).isSome)) hx hb hr (by first | rfl | decide | exact bI_nar _) (fun t ht hW => ⟨⟨_, (), rfl, by rw [follow, if_pos c16_1], by rw [ht]; exact hP, va_K.moved hW.alike hK, hD⟩, hS.F ht⟩) hS.2.2 dX0_follow_54
  by_cases c16_2 : (jgW σ) a = 2
  · rw [c16_2]
    refine lv_tableIn (tgt := 55) (off := 39) hx hb dX0_follow_16 (by decide) (by decide) (by decide) (by decide) ?_
    refine lv_iload_n hx hb dX0_follow_55 rfl (lv_at hl 1 rfl) ?_
    refine lv_bipush (v := nI 9) hx hb dX0_follow_56 (by decide) ?_
    refine xr_icmp_ne (tgt := 85) hx hb dX0_follow_58 (by decide) (by omega) (by omega) (fun c58 => ?_) (fun c58 => ?_)
    · refine lv_iconst (v := nI 0) hx hb dX0_follow_85 (by decide) ?_
      have hfin : σ = ofO (follow σ a) σ := by rw [follow, if_neg c16_1, if_pos c16_2]; rw [if_neg c58]; rfl
      rw [hfin] at hP hD
      exact W.zret (ty := .boolean) (v := nI 0) hx hb hr (by first | rfl | decide | exact bI_nar _) (fun t ht hW => ⟨⟨_, (), rfl, by rw [follow, if_neg c16_1, if_pos c16_2]; rw [if_neg c58]; rfl, by rw [ht]; exact hP, va_K.moved hW.alike hK, hD⟩, hS.F ht⟩) hS.2.2 dX0_follow_86
    · refine lv_aload_n hx hb dX0_follow_61 rfl (lv_at hl 2 rfl) ?_
      refine lv_aload_n hx hb dX0_follow_62 rfl (lv_at hl 2 rfl) ?_
      refine va_get (D := (dC, dI)) (ci := 0) (v := .ref (h 2)) (C := RX0) (T := TX0) (N := 14) hx hb htg inX0 (fs := fsBJ h σ) hown hK hP 0 rfl rfl 2 (by decide) (htg _ fX0_13) (fun _ h9 => h9) rfl dX0_follow_63 ?_
      refine lv_iload_n hx hb dX0_follow_66 rfl (lv_at hl 0 rfl) ?_
      refine xr_iald (f := jgW σ) (i := a + 3) hx hb hK hP 2 0 rfl rfl (by omega) (by decide) dX0_follow_67 ?_
      refine W.eq (g2 := F0 m 68 ls [.int (nI (nb (jgW σ) (a + 3))), .ref (h 0)]) (by rw [(hby (a + 3) (by omega)).1]) ?_
      refine lv_aload_n hx hb dX0_follow_68 rfl (lv_at hl 2 rfl) ?_
      refine lv_iload_n hx hb dX0_follow_69 rfl (lv_at hl 0 rfl) ?_
      refine lv_iconst (v := nI 1) hx hb dX0_follow_70 (by decide) ?_
      refine xr_iadd hx hb dX0_follow_71 ?_
      refine bj_rl (As := [.int (nI (a + 3 + 1))]) (rest := [.int (nI (nb (jgW σ) (a + 3))), .ref (h 0)]) (n := 1) ⟨hx, hb, hml, hown, htg⟩ (c_longAt l σ (a + 3 + 1) (by omega)) (cwV 1 htg gX0_191 rfl rfl rfl (by decide +kernel) ⟨Nat.le_of_ble_eq_true rfl, Nat.le_of_ble_eq_true rfl⟩) hK hP hD hS hA hl.1 rfl rfl (Nat.le_of_ble_eq_true rfl) dX0_follow_72 (Nat.zero_le _) (Nat.zero_le _) (fun H locs hP hS => ?_)
      refine bj_wi (As := [.int (nI (nb (jgW σ) (a + 3))), .long (longAt (jgW σ) (a + 3 + 1))]) (rest := []) (n := 2) ⟨hx, hb, hml, hown, htg⟩ (c_followTell l σ (nb (jgW σ) (a + 3)) (longAt (jgW σ) (a + 3 + 1)) ((hby _ (by omega)).2) (hc)) (cwV 2 htg gX0_195 rfl rfl rfl (by decide +kernel) ⟨Nat.le_of_ble_eq_true rfl, Nat.le_of_ble_eq_true rfl⟩) hK hP hD hS hA hl.1 rfl rfl (Nat.le_of_ble_eq_true rfl) dX0_follow_75 (Nat.zero_le _) (Nat.zero_le _) (fun H locs hP hD hS => ?_)
      obtain ⟨z2, ez2⟩ : ∃ zq : BJ, zq = ofO (fTell σ (nb (jgW σ) (a + 3)) (longAt (jgW σ) (a + 3 + 1))) σ := ⟨_, rfl⟩
      rw [← ez2] at hP hD
      refine xr_ifeqB (tgt := 85) hx hb dX0_follow_78 (by decide) (fun c78 => ?_) (fun c78 => ?_)
      · refine lv_iconst (v := nI 0) hx hb dX0_follow_85 (by decide) ?_
        have hfin : z2 = ofO (follow σ a) σ := by rw [follow, if_neg c16_1, if_pos c16_2]; rw [if_pos c58]; exact ez2
        rw [hfin] at hP hD
        exact W.zret (ty := .boolean) (v := nI 0) hx hb hr (by first | rfl | decide | exact bI_nar _) (fun t ht hW => ⟨⟨_, (), rfl, by rw [follow, if_neg c16_1, if_pos c16_2]; rw [if_pos c58, c78]; rfl, by rw [ht]; exact hP, va_K.moved hW.alike hK, hD⟩, hS.F ht⟩) hS.2.2 dX0_follow_86
      · refine lv_iconst (v := nI 1) hx hb dX0_follow_81 (by decide) ?_
        refine lv_goto (tgt := 86) hx hb dX0_follow_82 (by decide) ?_
        have hfin : z2 = ofO (follow σ a) σ := by rw [follow, if_neg c16_1, if_pos c16_2]; rw [if_pos c58]; exact ez2
        rw [hfin] at hP hD
        exact W.zret (ty := .boolean) (v := nI 1) hx hb hr (by first | rfl | decide | exact bI_nar _) (fun t ht hW => ⟨⟨_, (), rfl, by rw [follow, if_neg c16_1, if_pos c16_2]; rw [if_pos c58, c78]; rfl, by rw [ht]; exact hP, va_K.moved hW.alike hK, hD⟩, hS.F ht⟩) hS.2.2 dX0_follow_86
  by_cases c16_3 : (jgW σ) a = 3
  · rw [c16_3]
    refine lv_tableIn (tgt := 87) (off := 71) hx hb dX0_follow_16 (by decide) (by decide) (by decide) (by decide) ?_
    refine lv_iload_n hx hb dX0_follow_87 rfl (lv_at hl 1 rfl) ?_
    refine lv_iconst (v := nI 1) hx hb dX0_follow_88 (by decide) ?_
    refine xr_icmp_ne (tgt := 109) hx hb dX0_follow_89 (by decide) (by omega) (by omega) (fun c89 => ?_) (fun c89 => ?_)
    · refine lv_iconst (v := nI 0) hx hb dX0_follow_109 (by decide) ?_
      have hfin : σ = ofO (follow σ a) σ := by rw [follow, if_neg c16_1, if_neg c16_2, if_pos c16_3]; rw [if_neg c89]; rfl
      rw [hfin] at hP hD
      exact W.zret (ty := .boolean) (v := nI 0) hx hb hr (by first | rfl | decide | exact bI_nar _) (fun t ht hW => ⟨⟨_, (), rfl, by rw [follow, if_neg c16_1, if_neg c16_2, if_pos c16_3]; rw [if_neg c89]; rfl, by rw [ht]; exact hP, va_K.moved hW.alike hK, hD⟩, hS.F ht⟩) hS.2.2 dX0_follow_110
    · refine lv_aload_n hx hb dX0_follow_92 rfl (lv_at hl 2 rfl) ?_
      refine lv_aload_n hx hb dX0_follow_93 rfl (lv_at hl 2 rfl) ?_
      refine va_get (D := (dC, dI)) (ci := 0) (v := .ref (h 2)) (C := RX0) (T := TX0) (N := 14) hx hb htg inX0 (fs := fsBJ h σ) hown hK hP 0 rfl rfl 2 (by decide) (htg _ fX0_13) (fun _ h9 => h9) rfl dX0_follow_94 ?_
      refine lv_iload_n hx hb dX0_follow_97 rfl (lv_at hl 0 rfl) ?_
      refine xr_iald (f := jgW σ) (i := a + 3) hx hb hK hP 2 0 rfl rfl (by omega) (by decide) dX0_follow_98 ?_
      refine W.eq (g2 := F0 m 99 ls [.int (nI (nb (jgW σ) (a + 3))), .ref (h 0)]) (by rw [(hby (a + 3) (by omega)).1]) ?_
      refine bj_wi (As := [.int (nI (nb (jgW σ) (a + 3)))]) (rest := []) (n := 1) ⟨hx, hb, hml, hown, htg⟩ (c_followUntell l σ (nb (jgW σ) (a + 3)) ((hby _ (by omega)).2)) (cwV 1 htg gX0_199 rfl rfl rfl (by decide +kernel) ⟨Nat.le_of_ble_eq_true rfl, Nat.le_of_ble_eq_true rfl⟩) hK hP hD hS hA hl.1 rfl rfl (Nat.le_of_ble_eq_true rfl) dX0_follow_99 (Nat.zero_le _) (Nat.zero_le _) (fun H locs hP hD hS => ?_)
      obtain ⟨z3, ez3⟩ : ∃ zq : BJ, zq = ofO (fUntell σ (nb (jgW σ) (a + 3))) σ := ⟨_, rfl⟩
      rw [← ez3] at hP hD
      refine xr_ifeqB (tgt := 109) hx hb dX0_follow_102 (by decide) (fun c102 => ?_) (fun c102 => ?_)
      · refine lv_iconst (v := nI 0) hx hb dX0_follow_109 (by decide) ?_
        have hfin : z3 = ofO (follow σ a) σ := by rw [follow, if_neg c16_1, if_neg c16_2, if_pos c16_3]; rw [if_pos c89]; exact ez3
        rw [hfin] at hP hD
        exact W.zret (ty := .boolean) (v := nI 0) hx hb hr (by first | rfl | decide | exact bI_nar _) (fun t ht hW => ⟨⟨_, (), rfl, by rw [follow, if_neg c16_1, if_neg c16_2, if_pos c16_3]; rw [if_pos c89, c102]; rfl, by rw [ht]; exact hP, va_K.moved hW.alike hK, hD⟩, hS.F ht⟩) hS.2.2 dX0_follow_110
      · refine lv_iconst (v := nI 1) hx hb dX0_follow_105 (by decide) ?_
        refine lv_goto (tgt := 110) hx hb dX0_follow_106 (by decide) ?_
        have hfin : z3 = ofO (follow σ a) σ := by rw [follow, if_neg c16_1, if_neg c16_2, if_pos c16_3]; rw [if_pos c89]; exact ez3
        rw [hfin] at hP hD
        exact W.zret (ty := .boolean) (v := nI 1) hx hb hr (by first | rfl | decide | exact bI_nar _) (fun t ht hW => ⟨⟨_, (), rfl, by rw [follow, if_neg c16_1, if_neg c16_2, if_pos c16_3]; rw [if_pos c89, c102]; rfl, by rw [ht]; exact hP, va_K.moved hW.alike hK, hD⟩, hS.F ht⟩) hS.2.2 dX0_follow_110
  by_cases c16_4 : (jgW σ) a = 4
  · rw [c16_4]
    refine lv_tableIn (tgt := 111) (off := 95) hx hb dX0_follow_16 (by decide) (by decide) (by decide) (by decide) ?_
    refine lv_iload_n hx hb dX0_follow_111 rfl (lv_at hl 1 rfl) ?_
    refine lv_bipush (v := nI 16) hx hb dX0_follow_112 (by decide) ?_
    refine xr_icmp_ne (tgt := 141) hx hb dX0_follow_114 (by decide) (by omega) (by omega) (fun c114 => ?_) (fun c114 => ?_)
    · refine lv_iconst (v := nI 0) hx hb dX0_follow_141 (by decide) ?_
      have hfin : σ = ofO (follow σ a) σ := by rw [follow, if_neg c16_1, if_neg c16_2, if_neg c16_3, if_pos c16_4]; rw [if_neg c114]; rfl
      rw [hfin] at hP hD
      exact W.zret (ty := .boolean) (v := nI 0) hx hb hr (by first | rfl | decide | exact bI_nar _) (fun t ht hW => ⟨⟨_, (), rfl, by rw [follow, if_neg c16_1, if_neg c16_2, if_neg c16_3, if_pos c16_4]; rw [if_neg c114]; rfl, by rw [ht]; exact hP, va_K.moved hW.alike hK, hD⟩, hS.F ht⟩) hS.2.2 dX0_follow_142
    · refine lv_aload_n hx hb dX0_follow_117 rfl (lv_at hl 2 rfl) ?_
      refine lv_aload_n hx hb dX0_follow_118 rfl (lv_at hl 2 rfl) ?_
      refine lv_iload_n hx hb dX0_follow_119 rfl (lv_at hl 0 rfl) ?_
      refine bj_rl (As := [.int (nI (a + 3))]) (rest := [.ref (h 0)]) (n := 1) ⟨hx, hb, hml, hown, htg⟩ (c_longAt l σ (a + 3) (by omega)) (cwV 1 htg gX0_191 rfl rfl rfl (by decide +kernel) ⟨Nat.le_of_ble_eq_true rfl, Nat.le_of_ble_eq_true rfl⟩) hK hP hD hS hA hl.1 rfl rfl (Nat.le_of_ble_eq_true rfl) dX0_follow_120 (Nat.zero_le _) (Nat.zero_le _) (fun H locs hP hS => ?_)
      refine lv_aload_n hx hb dX0_follow_123 rfl (lv_at hl 2 rfl) ?_
      refine lv_iload_n hx hb dX0_follow_124 rfl (lv_at hl 0 rfl) ?_
      refine lv_bipush (v := nI 8) hx hb dX0_follow_125 (by decide) ?_
      refine xr_iadd hx hb dX0_follow_127 ?_
      refine bj_rl (As := [.int (nI (a + 3 + 8))]) (rest := [.long (longAt (jgW σ) (a + 3)), .ref (h 0)]) (n := 1) ⟨hx, hb, hml, hown, htg⟩ (c_longAt l σ (a + 3 + 8) (by omega)) (cwV 1 htg gX0_191 rfl rfl rfl (by decide +kernel) ⟨Nat.le_of_ble_eq_true rfl, Nat.le_of_ble_eq_true rfl⟩) hK hP hD hS hA hl.1 rfl rfl (Nat.le_of_ble_eq_true rfl) dX0_follow_128 (Nat.zero_le _) (Nat.zero_le _) (fun H locs hP hS => ?_)
      refine bj_wi (As := [.long (longAt (jgW σ) (a + 3)), .long (longAt (jgW σ) (a + 3 + 8))]) (rest := []) (n := 2) ⟨hx, hb, hml, hown, htg⟩ (c_followKey l σ (longAt (jgW σ) (a + 3)) (longAt (jgW σ) (a + 3 + 8)) (hkc)) (cwV 2 htg gX0_202 rfl rfl rfl (by decide +kernel) ⟨Nat.le_of_ble_eq_true rfl, Nat.le_of_ble_eq_true rfl⟩) hK hP hD hS hA hl.1 rfl rfl (Nat.le_of_ble_eq_true rfl) dX0_follow_131 (Nat.zero_le _) (Nat.zero_le _) (fun H locs hP hD hS => ?_)
      obtain ⟨z4, ez4⟩ : ∃ zq : BJ, zq = ofO (fKey σ (longAt (jgW σ) (a + 3)) (longAt (jgW σ) (a + 3 + 8))) σ := ⟨_, rfl⟩
      rw [← ez4] at hP hD
      refine xr_ifeqB (tgt := 141) hx hb dX0_follow_134 (by decide) (fun c134 => ?_) (fun c134 => ?_)
      · refine lv_iconst (v := nI 0) hx hb dX0_follow_141 (by decide) ?_
        have hfin : z4 = ofO (follow σ a) σ := by rw [follow, if_neg c16_1, if_neg c16_2, if_neg c16_3, if_pos c16_4]; rw [if_pos c114]; exact ez4
        rw [hfin] at hP hD
        exact W.zret (ty := .boolean) (v := nI 0) hx hb hr (by first | rfl | decide | exact bI_nar _) (fun t ht hW => ⟨⟨_, (), rfl, by rw [follow, if_neg c16_1, if_neg c16_2, if_neg c16_3, if_pos c16_4]; rw [if_pos c114, c134]; rfl, by rw [ht]; exact hP, va_K.moved hW.alike hK, hD⟩, hS.F ht⟩) hS.2.2 dX0_follow_142
      · refine lv_iconst (v := nI 1) hx hb dX0_follow_137 (by decide) ?_
        refine lv_goto (tgt := 142) hx hb dX0_follow_138 (by decide) ?_
        have hfin : z4 = ofO (follow σ a) σ := by rw [follow, if_neg c16_1, if_neg c16_2, if_neg c16_3, if_pos c16_4]; rw [if_pos c114]; exact ez4
        rw [hfin] at hP hD
        exact W.zret (ty := .boolean) (v := nI 1) hx hb hr (by first | rfl | decide | exact bI_nar _) (fun t ht hW => ⟨⟨_, (), rfl, by rw [follow, if_neg c16_1, if_neg c16_2, if_neg c16_3, if_pos c16_4]; rw [if_pos c114, c134]; rfl, by rw [ht]; exact hP, va_K.moved hW.alike hK, hD⟩, hS.F ht⟩) hS.2.2 dX0_follow_142
  have n16_1 := lv_neT (a := 1) c16_1 (by decide)
  have n16_2 := lv_neT (a := 2) c16_2 (by decide)
  have n16_3 := lv_neT (a := 3) c16_3 (by decide)
  have n16_4 := lv_neT (a := 4) c16_4 (by decide)
  refine lv_tableOut (tgt := 143) hx hb dX0_follow_16 (by omega) (by decide) ?_
  refine lv_iconst (v := nI 0) hx hb dX0_follow_143 (by decide) ?_
  have hfin : σ = ofO (follow σ a) σ := by rw [follow, if_neg c16_1, if_neg c16_2, if_neg c16_3, if_neg c16_4]; rfl
  rw [hfin] at hP hD
  exact W.zret (ty := .boolean) (v := nI 0) hx hb hr (by first | rfl | decide | exact bI_nar _) (fun t ht hW => ⟨⟨_, (), rfl, by rw [follow, if_neg c16_1, if_neg c16_2, if_neg c16_3, if_neg c16_4]; rfl, by rw [ht]; exact hP, va_K.moved hW.alike hK, hD⟩, hS.F ht⟩) hS.2.2 dX0_follow_144
