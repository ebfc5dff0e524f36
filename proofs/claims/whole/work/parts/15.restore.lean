set_option maxRecDepth 100000 in
set_option maxHeartbeats 4000000 in
theorem c_restore (l : Launch) (σ : BJ) (hw : jgWc σ ≤ 700) (hby : byt (jgW σ) 700) : wBv l yX0_restore wsX0_restore ({ frames := 3, cells := 0, slots := 0, locals := 72 } : Room) σ [] (restore σ) := by
  intro dC dI cI cJ h sz
  refine Met.ofW (cc := cX0_restore) (maxL := 4) (ret := none) (by decide) rfl ?_
  intro p e s m args below meth c s₁ B hml hv
  obtain ⟨rfl, hsz, hP, hK, hD0⟩ := hv
  have hx := B.exec
  have hb := B.bytes
  have hr := B.returns
  have hts := atoms_spec (ws := wsX0_restore) B.pre
  have hown : s.vm.findClass RX0 = some m.cls := findClass_of_methodNamed B.named
  have hlocks := B.notSynchronized
  subst hsz
  have htg : ∀ w ∈ GW, w.before _ s = true := fun w h => hts w (List.mem_cons_of_mem _ h)
  have hD := hD0.self (sz := s.heap.size)
  generalize hAe : va_A (wBJ cI cJ h σ) s.heap.size = A at hD ⊢
  have hA : ∀ q : Nat, s.heap.size ≤ q → A q := fun q h => by rw [← hAe]; exact Or.inr h
  have hS : va_S A s.heap s.heap [] := va_S.rf
  have hl := lv_entry [.ref (h 0)] (n := 4) (Nat.le_of_ble_eq_true rfl)
  rw [lg_entry_eq]
  generalize (lg_sl [.ref (h 0)] ++ List.replicate (4 - (lg_sl [.ref (h 0)]).length) Slot.unset).toArray = ls at hl ⊢
  have hl : lv_has ls 4 [(0, .ref (h 0))] := hl
  have hP : va_P (dC, dI) vwCl (wBJ cI cJ h σ) s.heap := hP
  refine lv_aload_n hx hb dX0_restore_0 rfl (lv_at hl 0 rfl) ?_
  refine va_get (D := (dC, dI)) (ci := 0) (v := .int (nI (jgWc σ))) (C := RX0) (T := TX0) (N := 14) hx hb htg inX0 (fs := fsBJ h σ) hown hK hP 0 rfl rfl 3 (by decide) (htg _ fX0_124) (fun _ h9 => h9) rfl dX0_restore_1 ?_
  refine lv_istore_n (lv' := [(1, .int (nI (jgWc σ))), (0, .ref (h 0))]) hx hb dX0_restore_4 rfl hl (by decide) rfl (fun ls hl => ?_)
  refine lv_aload_n hx hb dX0_restore_5 rfl (lv_at hl 1 rfl) ?_
  refine lv_iconst (v := nI 0) hx hb dX0_restore_6 (by decide) ?_
  refine va_put (D := (dC, dI)) (ci := 0) (v := .int (nI 0)) (ty := .int) (C := RX0) (T := TX0) (N := 14) hx hb htg inX0 tyX0 tyX0_ok nmX0 (fs := fsBJ h σ) hown hK hP hD hS 0 rfl rfl 8 (by decide) (htg _ fX0_68) (fun _ h9 => h9) rfl (by decide +kernel) rfl rfl (Nat.le_of_ble_eq_true rfl) dX0_restore_7 (fun H locs hP hD hS => ?_)
  rw [wBJ_Bc] at hP hD
  refine lv_aload_n hx hb dX0_restore_10 rfl (lv_at hl 1 rfl) ?_
  refine lv_iconst (v := nI 0) hx hb dX0_restore_11 (by decide) ?_
  refine va_put (D := (dC, dI)) (ci := 0) (v := .int (nI 0)) (ty := .int) (C := RX0) (T := TX0) (N := 14) hx hb htg inX0 tyX0 tyX0_ok nmX0 (fs := fsBJ h (juBc σ 0)) hown hK hP hD hS 0 rfl rfl 12 (by decide) (htg _ fX0_106) (fun _ h9 => h9) rfl (by decide +kernel) rfl rfl (Nat.le_of_ble_eq_true rfl) dX0_restore_12 (fun H locs hP hD hS => ?_)
  rw [wBJ_Kc] at hP hD
  refine lv_aload_n hx hb dX0_restore_15 rfl (lv_at hl 1 rfl) ?_
  refine va_get (D := (dC, dI)) (ci := 0) (v := .ref (h 6)) (C := RX0) (T := TX0) (N := 14) hx hb htg inX0 (fs := fsBJ h (juKc (juBc σ 0) 0)) hown hK hP 0 rfl rfl 9 (by decide) (htg _ fX0_26) (fun _ h9 => h9) rfl dX0_restore_16 ?_
  refine lv_iconst (v := -1) hx hb dX0_restore_19 (by decide) ?_
  refine xr_fillI (f := jgTB σ) (v := -1) (rest := []) ⟨hx, hb, hml, hown, htg⟩ gX0_29 (Nat.le_of_ble_eq_true rfl) (Nat.le_of_ble_eq_true rfl) hK hP hD hS hA 6 0 rfl rfl (by decide) hl.1 (Nat.le_of_ble_eq_true rfl) dX0_restore_20 (Nat.zero_le _) (Nat.zero_le _) (fun H locs hP hD hS => ?_)
  rw [wBJ_TB] at hP hD
  refine lv_iconst (v := nI 0) hx hb dX0_restore_23 (by decide) ?_
  refine lv_istore_n (lv' := [(2, .int (nI 0)), (1, .int (nI (jgWc σ))), (0, .ref (h 0))]) hx hb dX0_restore_24 rfl hl (by decide) rfl (fun ls hl => ?_)
  refine lv_iconst (v := nI 0) hx hb dX0_restore_25 (by decide) ?_
  refine lv_istore_n (lv' := [(3, .int (nI 0)), (2, .int (nI 0)), (1, .int (nI (jgWc σ))), (0, .ref (h 0))]) hx hb dX0_restore_26 rfl hl (by decide) rfl (fun ls hl => ?_)
  have loop : ∀ (n i : Nat) (a : Nat) (z : BJ), i ≤ 175 → 175 < i + n → a ≤ 700 → jgW z = jgW σ → jgBc z ≤ 20 → jgKc z ≤ 16 → rsL (jgWc σ) (175 - i) a z = rsL (jgWc σ) 175 0 (rs0 σ) → ∀ (H : Heap) (locs : List Loc), va_P (dC, dI) vwCl (wBJ cI cJ h z) H → va_D A (wBJ cI cJ h z) → va_S A s.heap H locs → ∀ (ls : Array Slot), lv_has ls 4 [(3, .int (nI i)), (2, .int (nI a)), (1, .int (nI (jgWc σ))), (0, .ref (h 0))] → W p l e (headSpec wsX0_restore ({ frames := 3, cells := 0, slots := 0, locals := 72 } : Room)).room s m ([.ref (h 0)].toArray) below meth c H locs 0 0 (MQ below (va_Qv (fun (_ : Unit) => True) (fun _ => aBJ dC dI cI cJ h A (restore σ)) A) ([.ref (h 0)].toArray) s 0 0 A) (F0 m 27 ls []) := by
    intro n
    induction n with
    | zero => intro i a z h1 h2; exact absurd h2 (by omega)
    | succ n ih =>
      intro i a z hi hin ha hz hbz hkz hrs H locs hP hD hS ls hl
      refine lv_iload_n hx hb dX0_restore_27 rfl (lv_at hl 0 rfl) ?_
      refine lv_sipush (v := nI 175) hx hb dX0_restore_28 (by decide) ?_
      refine xr_icmp_ge (tgt := 67) hx hb dX0_restore_31 (by decide) (by omega) (by omega) (fun c31 => ?_) (fun c31 => ?_)
      · refine lv_aload_n hx hb dX0_restore_67 rfl (lv_at hl 3 rfl) ?_
        refine lv_iload_n hx hb dX0_restore_68 rfl (lv_at hl 1 rfl) ?_
        refine va_put (D := (dC, dI)) (ci := 0) (v := .int (nI a)) (ty := .int) (C := RX0) (T := TX0) (N := 14) hx hb htg inX0 tyX0 tyX0_ok nmX0 (fs := fsBJ h z) hown hK hP hD hS 0 rfl rfl 3 (by decide) (htg _ fX0_124) (fun _ h9 => h9) rfl (by decide +kernel) rfl rfl (Nat.le_of_ble_eq_true rfl) dX0_restore_69 (fun H locs hP hD hS => ?_)
        rw [wBJ_Wc] at hP hD
        refine lv_aload_n hx hb dX0_restore_72 rfl (lv_at hl 3 rfl) ?_
        refine lv_iload_n hx hb dX0_restore_73 rfl (lv_at hl 1 rfl) ?_
        refine va_put (D := (dC, dI)) (ci := 0) (v := .int (nI a)) (ty := .int) (C := RX0) (T := TX0) (N := 14) hx hb htg inX0 tyX0 tyX0_ok nmX0 (fs := fsBJ h (juWc z a)) hown hK hP hD hS 0 rfl rfl 4 (by decide) (htg _ fX0_127) (fun _ h9 => h9) rfl (by decide +kernel) rfl rfl (Nat.le_of_ble_eq_true rfl) dX0_restore_74 (fun H locs hP hD hS => ?_)
        rw [wBJ_Sc] at hP hD
        have hfin : juSc (juWc z a) a = restore σ := by first | (rw [restore, ← hrs, rsL_no c40]) | (rw [restore, ← hrs, show 175 - i = 0 by omega]; rfl)
        rw [hfin] at hP hD
        exact W.vret hx hb hr (fun t ht hW => ⟨⟨(), rfl, trivial, by rw [ht]; exact hP, va_K.moved hW.alike hK, hD⟩, hS.F ht⟩) hS.2.2 dX0_restore_77
      · have hbyz : byt (jgW z) 700 := by rw [hz]; exact hby
        refine lv_aload_n hx hb dX0_restore_34 rfl (lv_at hl 3 rfl) ?_
        refine lv_iload_n hx hb dX0_restore_35 rfl (lv_at hl 1 rfl) ?_
        refine lv_iload_n hx hb dX0_restore_36 rfl (lv_at hl 2 rfl) ?_
        refine bj_ri (As := [.int (nI a), .int (nI (jgWc σ))]) (rest := []) (n := 2) ⟨hx, hb, hml, hown, htg⟩ (c_isWhole l z a (jgWc σ) (by omega) (hw) (hbyz)) (cwV 2 htg gX0_181 rfl rfl rfl (by decide +kernel) ⟨Nat.le_of_ble_eq_true rfl, Nat.le_of_ble_eq_true rfl⟩) hK hP hD hS hA hl.1 rfl rfl (Nat.le_of_ble_eq_true rfl) dX0_restore_37 (Nat.zero_le _) (Nat.zero_le _) (fun H locs hP hS => ?_)
        refine xr_ifeqB (tgt := 67) hx hb dX0_restore_40 (by decide) (fun c40 => ?_) (fun c40 => ?_)
        · refine lv_aload_n hx hb dX0_restore_67 rfl (lv_at hl 3 rfl) ?_
          refine lv_iload_n hx hb dX0_restore_68 rfl (lv_at hl 1 rfl) ?_
          refine va_put (D := (dC, dI)) (ci := 0) (v := .int (nI a)) (ty := .int) (C := RX0) (T := TX0) (N := 14) hx hb htg inX0 tyX0 tyX0_ok nmX0 (fs := fsBJ h z) hown hK hP hD hS 0 rfl rfl 3 (by decide) (htg _ fX0_124) (fun _ h9 => h9) rfl (by decide +kernel) rfl rfl (Nat.le_of_ble_eq_true rfl) dX0_restore_69 (fun H locs hP hD hS => ?_)
          rw [wBJ_Wc] at hP hD
          refine lv_aload_n hx hb dX0_restore_72 rfl (lv_at hl 3 rfl) ?_
          refine lv_iload_n hx hb dX0_restore_73 rfl (lv_at hl 1 rfl) ?_
          refine va_put (D := (dC, dI)) (ci := 0) (v := .int (nI a)) (ty := .int) (C := RX0) (T := TX0) (N := 14) hx hb htg inX0 tyX0 tyX0_ok nmX0 (fs := fsBJ h (juWc z a)) hown hK hP hD hS 0 rfl rfl 4 (by decide) (htg _ fX0_127) (fun _ h9 => h9) rfl (by decide +kernel) rfl rfl (Nat.le_of_ble_eq_true rfl) dX0_restore_74 (fun H locs hP hD hS => ?_)
          rw [wBJ_Sc] at hP hD
          have hfin : juSc (juWc z a) a = restore σ := by first | (rw [restore, ← hrs, rsL_no c40]) | (rw [restore, ← hrs, show 175 - i = 0 by omega]; rfl)
          rw [hfin] at hP hD
          exact W.vret hx hb hr (fun t ht hW => ⟨⟨(), rfl, trivial, by rw [ht]; exact hP, va_K.moved hW.alike hK, hD⟩, hS.F ht⟩) hS.2.2 dX0_restore_77
        · obtain ⟨g1, g2, g3⟩ := isWh_iff.mp c40
          refine lv_aload_n hx hb dX0_restore_43 rfl (lv_at hl 3 rfl) ?_
          refine lv_iload_n hx hb dX0_restore_44 rfl (lv_at hl 1 rfl) ?_
          refine bj_wi (As := [.int (nI a)]) (rest := []) (n := 1) ⟨hx, hb, hml, hown, htg⟩ (c_follow l z a (by omega) (by omega) (hbyz) (hbz) (hkz)) (cwV 1 htg gX0_81 rfl rfl rfl (by decide +kernel) ⟨Nat.le_of_ble_eq_true rfl, Nat.le_of_ble_eq_true rfl⟩) hK hP hD hS hA hl.1 rfl rfl (Nat.le_of_ble_eq_true rfl) dX0_restore_45 (Nat.zero_le _) (Nat.zero_le _) (fun H locs hP hD hS => ?_)
          obtain ⟨z1, ez1⟩ : ∃ zq : BJ, zq = ofO (follow z a) z := ⟨_, rfl⟩
          rw [← ez1] at hP hD
          refine xr_ifeqB (tgt := 67) hx hb dX0_restore_48 (by decide) (fun c48 => ?_) (fun c48 => ?_)
          · refine lv_aload_n hx hb dX0_restore_67 rfl (lv_at hl 3 rfl) ?_
            refine lv_iload_n hx hb dX0_restore_68 rfl (lv_at hl 1 rfl) ?_
            refine va_put (D := (dC, dI)) (ci := 0) (v := .int (nI a)) (ty := .int) (C := RX0) (T := TX0) (N := 14) hx hb htg inX0 tyX0 tyX0_ok nmX0 (fs := fsBJ h z1) hown hK hP hD hS 0 rfl rfl 3 (by decide) (htg _ fX0_124) (fun _ h9 => h9) rfl (by decide +kernel) rfl rfl (Nat.le_of_ble_eq_true rfl) dX0_restore_69 (fun H locs hP hD hS => ?_)
            rw [wBJ_Wc] at hP hD
            refine lv_aload_n hx hb dX0_restore_72 rfl (lv_at hl 3 rfl) ?_
            refine lv_iload_n hx hb dX0_restore_73 rfl (lv_at hl 1 rfl) ?_
            refine va_put (D := (dC, dI)) (ci := 0) (v := .int (nI a)) (ty := .int) (C := RX0) (T := TX0) (N := 14) hx hb htg inX0 tyX0 tyX0_ok nmX0 (fs := fsBJ h (juWc z1 a)) hown hK hP hD hS 0 rfl rfl 4 (by decide) (htg _ fX0_127) (fun _ h9 => h9) rfl (by decide +kernel) rfl rfl (Nat.le_of_ble_eq_true rfl) dX0_restore_74 (fun H locs hP hD hS => ?_)
            rw [wBJ_Sc] at hP hD
            have hfin : juSc (juWc z1 a) a = restore σ := by
                       have hn : follow z a = none := by simpa using c48
                       have e9 : z1 = z := by rw [ez1, hn]; rfl
                       rw [restore, ← hrs, rsL_stop hn, e9]
            rw [hfin] at hP hD
            exact W.vret hx hb hr (fun t ht hW => ⟨⟨(), rfl, trivial, by rw [ht]; exact hP, va_K.moved hW.alike hK, hD⟩, hS.F ht⟩) hS.2.2 dX0_restore_77
          · obtain ⟨τ, hτ⟩ := Option.isSome_iff_exists.mp c48
            obtain rfl : z1 = τ := by rw [ez1, hτ]; rfl
            obtain ⟨k1, k2, k3, k4⟩ := follow_keep hτ
            refine lv_iload_n hx hb dX0_restore_51 rfl (lv_at hl 1 rfl) ?_
            refine lv_iconst (v := nI 4) hx hb dX0_restore_52 (by decide) ?_
            refine lv_aload_n hx hb dX0_restore_53 rfl (lv_at hl 3 rfl) ?_
            refine lv_iload_n hx hb dX0_restore_54 rfl (lv_at hl 1 rfl) ?_
            refine bj_ri (As := [.int (nI a)]) (rest := [.int (nI 4), .int (nI a)]) (n := 1) ⟨hx, hb, hml, hown, htg⟩ (c_lengthAt l z1 a (by omega) (by rw [k1]; exact hbyz)) (cwV 1 htg gX0_185 rfl rfl rfl (by decide +kernel) ⟨Nat.le_of_ble_eq_true rfl, Nat.le_of_ble_eq_true rfl⟩) hK hP hD hS hA hl.1 rfl rfl (Nat.le_of_ble_eq_true rfl) dX0_restore_55 (Nat.zero_le _) (Nat.zero_le _) (fun H locs hP hS => ?_)
            refine xr_iadd hx hb dX0_restore_58 ?_
            refine xr_iadd hx hb dX0_restore_59 ?_
            refine lv_istore_n (lv' := [(2, .int (nI (a + (4 + (lenAt (jgW z1) a))))), (3, .int (nI i)), (1, .int (nI (jgWc σ))), (0, .ref (h 0))]) hx hb dX0_restore_60 rfl hl (by decide) rfl (fun ls hl => ?_)
            refine lv_iinc (v := nI (i + 1)) (lv' := [(3, .int (nI (i + 1))), (2, .int (nI (a + (4 + (lenAt (jgW z1) a))))), (1, .int (nI (jgWc σ))), (0, .ref (h 0))]) hx hb dX0_restore_61 hl (k := 1) rfl (nI_add _ 1) (by decide) rfl (fun ls hl => ?_)
            refine lv_goto (tgt := 27) hx hb dX0_restore_64 (by decide) ?_
            exact ih (i + 1) (a + (4 + lenAt (jgW z1) a)) z1 (by omega) (by omega) (by rw [k1]; omega) (k1.trans hz) (k3 hbz) (k4 hkz) (by rw [← hrs, show 175 - i = (175 - (i + 1)) + 1 by omega, rsL_go c40 hτ, k1]) H locs hP hD hS ls (lv_sub hl [0, 1, 2, 3] rfl)
  exact loop (175 + 1) 0 0 (rs0 σ) (by omega) (by omega) (by omega) (rfl) (Nat.zero_le _) (Nat.zero_le _) (rfl) _ _ hP hD hS ls (lv_sub hl [0, 1, 2, 3] rfl)
