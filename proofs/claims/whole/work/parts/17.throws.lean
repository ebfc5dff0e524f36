def TXL : List (String × Nat × String) := [(RX0, 50, "more than 64 bytes would be typed"), (RX0, 57, "not so many bytes are typed"), (RX0, 71, "there are 20 blobs"), (RX0, 90, "no blob has this digest"), (RX0, 97, "the tag tells none already"), (RX0, 109, "there are 16 keys"), (RX0, 115, "there is no such pin"), (RX0, 117, "there is no such key"), (RX0, 121, "the blob has no such byte"), (RX0, 130, "there is no such count"), (RX0, 132, "the journal has no such byte"), (RX0, 134, "not so many bytes are unsynced"), (RX0, 160, "there is no such tag"), (RX0, 162, "there is no room in the journal")]
theorem txi_R : Cond.instanceMethod (Bundle.initS "java/lang/RuntimeException") ∈ GW := by decide +kernel
theorem txk_R : Cond.code (Bundle.initS "java/lang/RuntimeException") prog_7_method_2_code 2 none ∈ GW := by decide +kernel
theorem txi_E : Cond.instanceMethod (Bundle.initS "java/lang/Exception") ∈ GW := by decide +kernel
theorem txk_E : Cond.code (Bundle.initS "java/lang/Exception") prog_4_method_2_code 2 none ∈ GW := by decide +kernel
theorem txi_T : Cond.instanceMethod (Bundle.initS "java/lang/Throwable") ∈ GW := by decide +kernel
theorem txk_T : Cond.code (Bundle.initS "java/lang/Throwable") prog_10_method_2_code 2 none ∈ GW := by decide +kernel
theorem txSplit_52 : ∀ w ∈ tx_own RX0 52 "java/lang/UnsupportedOperationException" "java/lang/RuntimeException" 7 prog_11_method_2_code ["java/lang/Exception"], w ∈ GW ∨ w ∈ tx_four ∨ w = .declares (Bundle.initS "java/lang/RuntimeException") ∨ w = .declares (Bundle.initS "java/lang/Exception") ∨ w = .declares (Bundle.initS "java/lang/Throwable") := by decide +kernel
theorem txAll_52 {args : Array Value} {s : State} (htg : ∀ w ∈ GW, w.before args s = true) (h4 : ∀ w ∈ tx_four, w.before args s = true) : ∀ w ∈ tx_own RX0 52 "java/lang/UnsupportedOperationException" "java/lang/RuntimeException" 7 prog_11_method_2_code ["java/lang/Exception"], w.before args s = true := by
  intro w hw
  rcases txSplit_52 w hw with h | h | rfl | rfl | rfl
  · exact htg w h
  · exact h4 w h
  · exact tx_decl (htg _ txi_R) (htg _ txk_R)
  · exact tx_decl (htg _ txi_E) (htg _ txk_E)
  · exact tx_decl (htg _ txi_T) (htg _ txk_T)
theorem txSplit_59 : ∀ w ∈ tx_own RX0 59 "java/lang/IllegalArgumentException" "java/lang/RuntimeException" 7 prog_5_method_2_code ["java/lang/Exception"], w ∈ GW ∨ w ∈ tx_four ∨ w = .declares (Bundle.initS "java/lang/RuntimeException") ∨ w = .declares (Bundle.initS "java/lang/Exception") ∨ w = .declares (Bundle.initS "java/lang/Throwable") := by decide +kernel
theorem txAll_59 {args : Array Value} {s : State} (htg : ∀ w ∈ GW, w.before args s = true) (h4 : ∀ w ∈ tx_four, w.before args s = true) : ∀ w ∈ tx_own RX0 59 "java/lang/IllegalArgumentException" "java/lang/RuntimeException" 7 prog_5_method_2_code ["java/lang/Exception"], w.before args s = true := by
  intro w hw
  rcases txSplit_59 w hw with h | h | rfl | rfl | rfl
  · exact htg w h
  · exact h4 w h
  · exact tx_decl (htg _ txi_R) (htg _ txk_R)
  · exact tx_decl (htg _ txi_E) (htg _ txk_E)
  · exact tx_decl (htg _ txi_T) (htg _ txk_T)
theorem txSplit_92 : ∀ w ∈ tx_own RX0 92 "java/util/NoSuchElementException" "java/lang/RuntimeException" 13 prog_13_method_4_code ["java/lang/Exception"], w ∈ GW ∨ w ∈ tx_four ∨ w = .declares (Bundle.initS "java/lang/RuntimeException") ∨ w = .declares (Bundle.initS "java/lang/Exception") ∨ w = .declares (Bundle.initS "java/lang/Throwable") := by decide +kernel
theorem txAll_92 {args : Array Value} {s : State} (htg : ∀ w ∈ GW, w.before args s = true) (h4 : ∀ w ∈ tx_four, w.before args s = true) : ∀ w ∈ tx_own RX0 92 "java/util/NoSuchElementException" "java/lang/RuntimeException" 13 prog_13_method_4_code ["java/lang/Exception"], w.before args s = true := by
  intro w hw
  rcases txSplit_92 w hw with h | h | rfl | rfl | rfl
  · exact htg w h
  · exact h4 w h
  · exact tx_decl (htg _ txi_R) (htg _ txk_R)
  · exact tx_decl (htg _ txi_E) (htg _ txk_E)
  · exact tx_decl (htg _ txi_T) (htg _ txk_T)
theorem txSplit_123 : ∀ w ∈ tx_own RX0 123 "java/lang/IndexOutOfBoundsException" "java/lang/RuntimeException" 7 prog_6_method_2_code ["java/lang/Exception"], w ∈ GW ∨ w ∈ tx_four ∨ w = .declares (Bundle.initS "java/lang/RuntimeException") ∨ w = .declares (Bundle.initS "java/lang/Exception") ∨ w = .declares (Bundle.initS "java/lang/Throwable") := by decide +kernel
theorem txAll_123 {args : Array Value} {s : State} (htg : ∀ w ∈ GW, w.before args s = true) (h4 : ∀ w ∈ tx_four, w.before args s = true) : ∀ w ∈ tx_own RX0 123 "java/lang/IndexOutOfBoundsException" "java/lang/RuntimeException" 7 prog_6_method_2_code ["java/lang/Exception"], w.before args s = true := by
  intro w hw
  rcases txSplit_123 w hw with h | h | rfl | rfl | rfl
  · exact htg w h
  · exact h4 w h
  · exact tx_decl (htg _ txi_R) (htg _ txk_R)
  · exact tx_decl (htg _ txi_E) (htg _ txk_E)
  · exact tx_decl (htg _ txi_T) (htg _ txk_T)
set_option maxRecDepth 100000 in
set_option maxHeartbeats 4000000 in
theorem c_typeT (l : Launch) (hl0 : l.stackTraces = false) (σ : BJ) (v : Int32) (ht : 64 < jgTc σ + 4) (h64 : jgTc σ ≤ 64) : tB l yX0_type wsX0_type ({ frames := 6, cells := 1, slots := 6, locals := 100 } : Room) TXL σ [.int v] "java/lang/UnsupportedOperationException" := by
  intro dC dI cI cJ h sz
  refine MetT.ofW (cc := cX0_type) (maxL := 3) (ret := (some .int)) (by decide) rfl ?_
  intro p e s m args below meth c s₁ B hml hv
  obtain ⟨rfl, ⟨hsz, hP, hK, hD⟩, hH⟩ := hv
  have hx := B.exec
  have hb := B.bytes
  have hr := B.returns
  have hts := atoms_spec (ws := wsX0_type) B.pre
  have hout : c.exceptionTable.isEmpty = true := B.noHandlers (hts _ List.mem_cons_self)
  have htg : ∀ w ∈ GW, w.before _ s = true := fun w h => hts w (List.mem_cons_of_mem _ h)
  have hown : s.vm.findClass RX0 = some m.cls := findClass_of_methodNamed B.named
  have hlocks := B.notSynchronized
  subst hsz
  have hA : ∀ q : Nat, s.heap.size ≤ q → (fun q => s.heap.size ≤ q) q := fun _ h => h
  have hS : va_S (fun q => s.heap.size ≤ q) s.heap s.heap [] := va_S.rf
  have hl := lv_entry [.ref (h 0), .int v] (n := 3) (Nat.le_of_ble_eq_true rfl)
  rw [lg_entry_eq]
  generalize (lg_sl [.ref (h 0), .int v] ++ List.replicate (3 - (lg_sl [.ref (h 0), .int v]).length) Slot.unset).toArray = ls at hl ⊢
  have hl : lv_has ls 3 [(0, .ref (h 0)), (1, .int v)] := hl
  have hP : va_P (dC, dI) vwCl (wBJ cI cJ h σ) s.heap := hP
  refine lv_aload_n hx hb dX0_type_0 rfl (lv_at hl 0 rfl) ?_
  refine va_get (D := (dC, dI)) (ci := 0) (v := .int (nI (jgTc σ))) (C := RX0) (T := TX0) (N := 14) hx hb htg inX0 (fs := fsBJ h σ) hown hK hP 0 rfl rfl 1 (by decide) (htg _ fX0_44) (fun _ h9 => h9) rfl dX0_type_1 ?_
  refine lv_iconst (v := nI 4) hx hb dX0_type_4 (by decide) ?_
  refine xr_iadd hx hb dX0_type_5 ?_
  refine lv_bipush (v := nI 64) hx hb dX0_type_6 (by decide) ?_
  refine xr_icmp_le (tgt := 21) hx hb dX0_type_8 (by decide) (by omega) (by omega) (fun c8 => absurd c8 (by omega)) (fun c8 => ?_)
  exact tx_throwS hx hb hl0 hlocks hout (hl.1.trans hml.symm) (own := RX0) (E := "java/lang/UnsupportedOperationException") (text := "more than 64 bytes would be typed") (sup := "java/lang/RuntimeException") (names := ["java/lang/Exception"]) (ik := 48) (is := 50) (ic := 52) (ix := 7) (rx := prog_11_method_2_code) hown (by decide +kernel) (by decide +kernel) (by decide +kernel) (by decide +kernel) (by decide +kernel) (by decide +kernel) (by decide +kernel) hH (txAll_52 htg) (htg _ hX0_48) (htg _ z_UnsupportedOperationException) (htg _ n_UnsupportedOperationException) (by decide +kernel) hS dX0_type_11 dX0_type_14 dX0_type_15 dX0_type_17 dX0_type_20 (Nat.le_of_ble_eq_true rfl) (Nat.le_of_ble_eq_true rfl) (Nat.le_of_ble_eq_true rfl) (Nat.le_of_ble_eq_true rfl) (Nat.le_of_ble_eq_true rfl) (Nat.le_of_ble_eq_true rfl)
set_option maxRecDepth 100000 in
set_option maxHeartbeats 4000000 in
theorem c_cutT (l : Launch) (hl0 : l.stackTraces = false) (σ : BJ) (n : Int32) (h0 : n < 0 ∨ ¬ n ≤ nI (jgTc σ)) : tB l yX0_cut wsX0_cut ({ frames := 6, cells := 1, slots := 6, locals := 100 } : Room) TXL σ [.int n] "java/lang/IllegalArgumentException" := by
  intro dC dI cI cJ h sz
  refine MetT.ofW (cc := cX0_cut) (maxL := 2) (ret := none) (by decide) rfl ?_
  intro p e s m args below meth c s₁ B hml hv
  obtain ⟨rfl, ⟨hsz, hP, hK, hD⟩, hH⟩ := hv
  have hx := B.exec
  have hb := B.bytes
  have hr := B.returns
  have hts := atoms_spec (ws := wsX0_cut) B.pre
  have hout : c.exceptionTable.isEmpty = true := B.noHandlers (hts _ List.mem_cons_self)
  have htg : ∀ w ∈ GW, w.before _ s = true := fun w h => hts w (List.mem_cons_of_mem _ h)
  have hown : s.vm.findClass RX0 = some m.cls := findClass_of_methodNamed B.named
  have hlocks := B.notSynchronized
  subst hsz
  have hA : ∀ q : Nat, s.heap.size ≤ q → (fun q => s.heap.size ≤ q) q := fun _ h => h
  have hS : va_S (fun q => s.heap.size ≤ q) s.heap s.heap [] := va_S.rf
  have hl := lv_entry [.ref (h 0), .int n] (n := 2) (Nat.le_of_ble_eq_true rfl)
  rw [lg_entry_eq]
  generalize (lg_sl [.ref (h 0), .int n] ++ List.replicate (2 - (lg_sl [.ref (h 0), .int n]).length) Slot.unset).toArray = ls at hl ⊢
  have hl : lv_has ls 2 [(0, .ref (h 0)), (1, .int n)] := hl
  have hP : va_P (dC, dI) vwCl (wBJ cI cJ h σ) s.heap := hP
  refine lv_iload_n hx hb dX0_cut_0 rfl (lv_at hl 1 rfl) ?_
  refine lv_if_lt (tgt := 12) hx hb dX0_cut_1 (by decide) (fun c1 => ?_) (fun c1 => ?_)
  · exact tx_throwS hx hb hl0 hlocks hout (hl.1.trans hml.symm) (own := RX0) (E := "java/lang/IllegalArgumentException") (text := "not so many bytes are typed") (sup := "java/lang/RuntimeException") (names := ["java/lang/Exception"]) (ik := 55) (is := 57) (ic := 59) (ix := 7) (rx := prog_5_method_2_code) hown (by decide +kernel) (by decide +kernel) (by decide +kernel) (by decide +kernel) (by decide +kernel) (by decide +kernel) (by decide +kernel) hH (txAll_59 htg) (htg _ hX0_55) (htg _ z_IllegalArgumentException) (htg _ n_IllegalArgumentException) (by decide +kernel) hS dX0_cut_12 dX0_cut_15 dX0_cut_16 dX0_cut_18 dX0_cut_21 (Nat.le_of_ble_eq_true rfl) (Nat.le_of_ble_eq_true rfl) (Nat.le_of_ble_eq_true rfl) (Nat.le_of_ble_eq_true rfl) (Nat.le_of_ble_eq_true rfl) (Nat.le_of_ble_eq_true rfl)
  · refine lv_iload_n hx hb dX0_cut_4 rfl (lv_at hl 1 rfl) ?_
    refine lv_aload_n hx hb dX0_cut_5 rfl (lv_at hl 0 rfl) ?_
    refine va_get (D := (dC, dI)) (ci := 0) (v := .int (nI (jgTc σ))) (C := RX0) (T := TX0) (N := 14) hx hb htg inX0 (fs := fsBJ h σ) hown hK hP 0 rfl rfl 1 (by decide) (htg _ fX0_44) (fun _ h9 => h9) rfl dX0_cut_6 ?_
    refine lv_icmp_le (tgt := 22) hx hb dX0_cut_9 (by decide) (fun c9 => absurd c9 (by exact h0.resolve_left c1)) (fun c9 => ?_)
    exact tx_throwS hx hb hl0 hlocks hout (hl.1.trans hml.symm) (own := RX0) (E := "java/lang/IllegalArgumentException") (text := "not so many bytes are typed") (sup := "java/lang/RuntimeException") (names := ["java/lang/Exception"]) (ik := 55) (is := 57) (ic := 59) (ix := 7) (rx := prog_5_method_2_code) hown (by decide +kernel) (by decide +kernel) (by decide +kernel) (by decide +kernel) (by decide +kernel) (by decide +kernel) (by decide +kernel) hH (txAll_59 htg) (htg _ hX0_55) (htg _ z_IllegalArgumentException) (htg _ n_IllegalArgumentException) (by decide +kernel) hS dX0_cut_12 dX0_cut_15 dX0_cut_16 dX0_cut_18 dX0_cut_21 (Nat.le_of_ble_eq_true rfl) (Nat.le_of_ble_eq_true rfl) (Nat.le_of_ble_eq_true rfl) (Nat.le_of_ble_eq_true rfl) (Nat.le_of_ble_eq_true rfl) (Nat.le_of_ble_eq_true rfl)
set_option maxRecDepth 100000 in
set_option maxHeartbeats 4000000 in
theorem c_demandTagT (l : Launch) (hl0 : l.stackTraces = false) (t : Int32) (ht : isTg t = false) (sz : Nat) : MetT l yX0_demandTag wsX0_demandTag ({ frames := 6, cells := 1, slots := 6, locals := 100 } : Room) (va_Pc [.int t] (fun U => U.heap.size = sz ∧ tx_H TXL U)) (tx_Q "java/lang/IllegalArgumentException") 1 6 (fun q => sz ≤ q) := by
  refine MetT.ofW (cc := cX0_demandTag) (maxL := 1) (ret := none) (by decide) rfl ?_
  intro p e s m args below meth c s₁ B hml hv
  obtain ⟨rfl, hsz, hH⟩ := hv
  have hx := B.exec
  have hb := B.bytes
  have hr := B.returns
  have hts := atoms_spec (ws := wsX0_demandTag) B.pre
  have hout : c.exceptionTable.isEmpty = true := B.noHandlers (hts _ List.mem_cons_self)
  have htg : ∀ w ∈ GW, w.before _ s = true := fun w h => hts w (List.mem_cons_of_mem _ h)
  have hown : s.vm.findClass RX0 = some m.cls := findClass_of_methodNamed B.named
  have hlocks := B.notSynchronized
  subst hsz
  have hA : ∀ q : Nat, s.heap.size ≤ q → (fun q => s.heap.size ≤ q) q := fun _ h => h
  have hS : va_S (fun q => s.heap.size ≤ q) s.heap s.heap [] := va_S.rf
  have hl := lv_entry [.int t] (n := 1) (Nat.le_of_ble_eq_true rfl)
  rw [lg_entry_eq]
  generalize (lg_sl [.int t] ++ List.replicate (1 - (lg_sl [.int t]).length) Slot.unset).toArray = ls at hl ⊢
  have hl : lv_has ls 1 [(0, .int t)] := hl
  have hP : va_P ((fun _ => 0), (fun _ _ => 0)) vwCl [] s.heap := fun k q h => by simp at h
  refine lv_iload_n hx hb dX0_demandTag_0 rfl (lv_at hl 0 rfl) ?_
  refine xr_roi (va_runS (As := [.int t]) (rest := []) ⟨hx, hb, hml, hown, htg⟩ (c_isTag l t (fun _ => 0) (fun _ _ => 0) 0 0 _) (va_cwS 1 htg gX0_157 rfl rfl rfl (by decide +kernel) ⟨Nat.le_of_ble_eq_true rfl, Nat.le_of_ble_eq_true rfl⟩) ⟨fun a U g mk q => q, fun U hU hW => ⟨rfl, by show U.heap.size = _; rw [hU]⟩⟩ rfl rfl hl.1 rfl (lv_room (Nat.le_of_ble_eq_true rfl)) dX0_demandTag_1 ⟨Nat.zero_le _, Nat.zero_le _⟩) hP hS hA (fun H locs hP hS _ => ?_)
  rw [ht]
  refine xr_ifneB (tgt := 17) hx hb dX0_demandTag_4 (by decide) (fun c => absurd c (by decide)) (fun _ => ?_)
  exact tx_throwS hx hb hl0 hlocks hout (hl.1.trans hml.symm) (own := RX0) (E := "java/lang/IllegalArgumentException") (text := "there is no such tag") (sup := "java/lang/RuntimeException") (names := ["java/lang/Exception"]) (ik := 55) (is := 160) (ic := 59) (ix := 7) (rx := prog_5_method_2_code) hown (by decide +kernel) (by decide +kernel) (by decide +kernel) (by decide +kernel) (by decide +kernel) (by decide +kernel) (by decide +kernel) hH (txAll_59 htg) (htg _ hX0_55) (htg _ z_IllegalArgumentException) (htg _ n_IllegalArgumentException) (by decide +kernel) hS dX0_demandTag_7 dX0_demandTag_10 dX0_demandTag_11 dX0_demandTag_13 dX0_demandTag_16 (Nat.le_of_ble_eq_true rfl) (Nat.le_of_ble_eq_true rfl) (Nat.le_of_ble_eq_true rfl) (Nat.le_of_ble_eq_true rfl) (Nat.le_of_ble_eq_true rfl) (Nat.le_of_ble_eq_true rfl)
set_option maxRecDepth 100000 in
set_option maxHeartbeats 4000000 in
theorem c_demandRoomT (l : Launch) (hl0 : l.stackTraces = false) (σ : BJ) (n : Nat) (hw : 700 < jgWc σ + 4 + n) (hw7 : jgWc σ ≤ 700) (hn : n ≤ 700) : tB l yX0_demandRoom wsX0_demandRoom ({ frames := 6, cells := 1, slots := 6, locals := 100 } : Room) TXL σ [.int (nI n)] "java/lang/UnsupportedOperationException" := by
  intro dC dI cI cJ h sz
  refine MetT.ofW (cc := cX0_demandRoom) (maxL := 2) (ret := none) (by decide) rfl ?_
  intro p e s m args below meth c s₁ B hml hv
  obtain ⟨rfl, ⟨hsz, hP, hK, hD⟩, hH⟩ := hv
  have hx := B.exec
  have hb := B.bytes
  have hr := B.returns
  have hts := atoms_spec (ws := wsX0_demandRoom) B.pre
  have hout : c.exceptionTable.isEmpty = true := B.noHandlers (hts _ List.mem_cons_self)
  have htg : ∀ w ∈ GW, w.before _ s = true := fun w h => hts w (List.mem_cons_of_mem _ h)
  have hown : s.vm.findClass RX0 = some m.cls := findClass_of_methodNamed B.named
  have hlocks := B.notSynchronized
  subst hsz
  have hA : ∀ q : Nat, s.heap.size ≤ q → (fun q => s.heap.size ≤ q) q := fun _ h => h
  have hS : va_S (fun q => s.heap.size ≤ q) s.heap s.heap [] := va_S.rf
  have hl := lv_entry [.ref (h 0), .int (nI n)] (n := 2) (Nat.le_of_ble_eq_true rfl)
  rw [lg_entry_eq]
  generalize (lg_sl [.ref (h 0), .int (nI n)] ++ List.replicate (2 - (lg_sl [.ref (h 0), .int (nI n)]).length) Slot.unset).toArray = ls at hl ⊢
  have hl : lv_has ls 2 [(0, .ref (h 0)), (1, .int (nI n))] := hl
  have hP : va_P (dC, dI) vwCl (wBJ cI cJ h σ) s.heap := hP
  refine lv_aload_n hx hb dX0_demandRoom_0 rfl (lv_at hl 0 rfl) ?_
  refine va_get (D := (dC, dI)) (ci := 0) (v := .int (nI (jgWc σ))) (C := RX0) (T := TX0) (N := 14) hx hb htg inX0 (fs := fsBJ h σ) hown hK hP 0 rfl rfl 3 (by decide) (htg _ fX0_124) (fun _ h9 => h9) rfl dX0_demandRoom_1 ?_
  refine lv_iconst (v := nI 4) hx hb dX0_demandRoom_4 (by decide) ?_
  refine xr_iadd hx hb dX0_demandRoom_5 ?_
  refine lv_iload_n hx hb dX0_demandRoom_6 rfl (lv_at hl 1 rfl) ?_
  refine xr_iadd hx hb dX0_demandRoom_7 ?_
  refine lv_sipush (v := nI 700) hx hb dX0_demandRoom_8 (by decide) ?_
  refine xr_icmp_le (tgt := 24) hx hb dX0_demandRoom_11 (by decide) (by omega) (by omega) (fun c11 => absurd c11 (by omega)) (fun c11 => ?_)
  exact tx_throwS hx hb hl0 hlocks hout (hl.1.trans hml.symm) (own := RX0) (E := "java/lang/UnsupportedOperationException") (text := "there is no room in the journal") (sup := "java/lang/RuntimeException") (names := ["java/lang/Exception"]) (ik := 48) (is := 162) (ic := 52) (ix := 7) (rx := prog_11_method_2_code) hown (by decide +kernel) (by decide +kernel) (by decide +kernel) (by decide +kernel) (by decide +kernel) (by decide +kernel) (by decide +kernel) hH (txAll_52 htg) (htg _ hX0_48) (htg _ z_UnsupportedOperationException) (htg _ n_UnsupportedOperationException) (by decide +kernel) hS dX0_demandRoom_14 dX0_demandRoom_17 dX0_demandRoom_18 dX0_demandRoom_20 dX0_demandRoom_23 (Nat.le_of_ble_eq_true rfl) (Nat.le_of_ble_eq_true rfl) (Nat.le_of_ble_eq_true rfl) (Nat.le_of_ble_eq_true rfl) (Nat.le_of_ble_eq_true rfl) (Nat.le_of_ble_eq_true rfl)
set_option maxRecDepth 100000 in
set_option maxHeartbeats 4000000 in
theorem c_keepT1 (l : Launch) (hl0 : l.stackTraces = false) (σ : BJ) (ht : jgTc σ ≤ 64) (hb9 : 20 ≤ jgBc σ) (hb8 : jgBc σ ≤ 20) (hf : fnd (jgBD σ) (dg (jgT σ) 0 (jgTc σ)) (jgBc σ) = none) : tB l yX0_keep wsX0_keep ({ frames := 7, cells := 1, slots := 6, locals := 140 } : Room) TXL σ [] "java/lang/UnsupportedOperationException" := by
  intro dC dI cI cJ h sz
  refine MetT.ofW (cc := cX0_keep) (maxL := 3) (ret := (some .long)) (by decide) rfl ?_
  intro p e s m args below meth c s₁ B hml hv
  obtain ⟨rfl, ⟨hsz, hP, hK, hD⟩, hH⟩ := hv
  have hx := B.exec
  have hb := B.bytes
  have hr := B.returns
  have hts := atoms_spec (ws := wsX0_keep) B.pre
  have hout : c.exceptionTable.isEmpty = true := B.noHandlers (hts _ List.mem_cons_self)
  have htg : ∀ w ∈ GW, w.before _ s = true := fun w h => hts w (List.mem_cons_of_mem _ h)
  have hown : s.vm.findClass RX0 = some m.cls := findClass_of_methodNamed B.named
  have hlocks := B.notSynchronized
  subst hsz
  have hA : ∀ q : Nat, s.heap.size ≤ q → (fun q => s.heap.size ≤ q) q := fun _ h => h
  have hS : va_S (fun q => s.heap.size ≤ q) s.heap s.heap [] := va_S.rf
  have hl := lv_entry [.ref (h 0)] (n := 3) (Nat.le_of_ble_eq_true rfl)
  rw [lg_entry_eq]
  generalize (lg_sl [.ref (h 0)] ++ List.replicate (3 - (lg_sl [.ref (h 0)]).length) Slot.unset).toArray = ls at hl ⊢
  have hl : lv_has ls 3 [(0, .ref (h 0))] := hl
  have hP : va_P (dC, dI) vwCl (wBJ cI cJ h σ) s.heap := hP
  refine lv_aload_n hx hb dX0_keep_0 rfl (lv_at hl 0 rfl) ?_
  refine va_get (D := (dC, dI)) (ci := 0) (v := .ref (h 1)) (C := RX0) (T := TX0) (N := 14) hx hb htg inX0 (fs := fsBJ h σ) hown hK hP 0 rfl rfl 0 (by decide) (htg _ fX0_9) (fun _ h9 => h9) rfl dX0_keep_1 ?_
  refine lv_iconst (v := nI 0) hx hb dX0_keep_4 (by decide) ?_
  refine lv_aload_n hx hb dX0_keep_5 rfl (lv_at hl 0 rfl) ?_
  refine va_get (D := (dC, dI)) (ci := 0) (v := .int (nI (jgTc σ))) (C := RX0) (T := TX0) (N := 14) hx hb htg inX0 (fs := fsBJ h σ) hown hK hP 0 rfl rfl 1 (by decide) (htg _ fX0_44) (fun _ h9 => h9) rfl dX0_keep_6 ?_
  refine xr_rol (va_runS (As := [.ref (h 1), .int (nI 0), .int (nI (jgTc σ))]) (rest := []) ⟨hx, hb, hml, hown, htg⟩ (c_digestOf l (jgT σ) 64 0 (jgTc σ) (by omega) (by decide) dC dI cI (h 1) _) (va_cwS 3 htg gX0_60 rfl rfl rfl (by decide +kernel) ⟨Nat.le_of_ble_eq_true rfl, Nat.le_of_ble_eq_true rfl⟩) ⟨fun a U g mk q => ⟨q.1, q.2.1, q.2.2.1, va_K.moved (u := U) (U := U.calling g mk a) (Vm.Alike.refl U.vm) q.2.2.2⟩, fun U hU hW => ⟨rfl, by rw [hU], by rw [hU]; exact hP.sub [1] rfl, va_K.moved hW.alike (hK.sub [0] rfl)⟩⟩ rfl rfl hl.1 rfl (lv_room (Nat.le_of_ble_eq_true rfl)) dX0_keep_9 ⟨Nat.zero_le _, Nat.zero_le _⟩) hP hS hA (fun H locs hP hS _ => ?_)
  refine lv_lstore_n (lv' := [(1, .long (dg (jgT σ) 0 (jgTc σ))), (0, .ref (h 0))]) hx hb dX0_keep_12 rfl hl (by decide) rfl (fun ls hl => ?_)
  refine lv_aload_n hx hb dX0_keep_13 rfl (lv_at hl 1 rfl) ?_
  refine lv_lload_n hx hb dX0_keep_14 rfl (lv_at hl 0 rfl) ?_
  refine bj_ri (As := [.long (dg (jgT σ) 0 (jgTc σ))]) (rest := []) (n := 1) ⟨hx, hb, hml, hown, htg⟩ (c_findBlob l σ (dg (jgT σ) 0 (jgTc σ)) (by omega)) (cwV 1 htg gX0_64 rfl rfl rfl (by decide +kernel) ⟨Nat.le_of_ble_eq_true rfl, Nat.le_of_ble_eq_true rfl⟩) hK hP hD hS hA hl.1 rfl rfl (Nat.le_of_ble_eq_true rfl) dX0_keep_15 (Nat.zero_le _) (Nat.zero_le _) (fun H locs hP hS => ?_)
  rw [hf]
  refine W.eq (g2 := F0 m 18 ls [.int (-1)]) rfl ?_
  refine lv_iconst (v := -1) hx hb dX0_keep_18 (by decide) ?_
  refine lv_icmp_ne (tgt := 58) hx hb dX0_keep_19 (by decide) (fun c => absurd rfl c) (fun _ => ?_)
  refine lv_aload_n hx hb dX0_keep_22 rfl (lv_at hl 1 rfl) ?_
  refine va_get (D := (dC, dI)) (ci := 0) (v := .int (nI (jgBc σ))) (C := RX0) (T := TX0) (N := 14) hx hb htg inX0 (fs := fsBJ h σ) hown hK hP 0 rfl rfl 8 (by decide) (htg _ fX0_68) (fun _ h9 => h9) rfl dX0_keep_23 ?_
  refine lv_bipush (v := nI 20) hx hb dX0_keep_26 (by decide) ?_
  refine xr_icmp_lt (tgt := 41) hx hb dX0_keep_28 (by decide) (by omega) (by omega) (fun c28 => absurd c28 (by omega)) (fun c28 => ?_)
  exact tx_throwS hx hb hl0 hlocks hout (hl.1.trans hml.symm) (own := RX0) (E := "java/lang/UnsupportedOperationException") (text := "there are 20 blobs") (sup := "java/lang/RuntimeException") (names := ["java/lang/Exception"]) (ik := 48) (is := 71) (ic := 52) (ix := 7) (rx := prog_11_method_2_code) hown (by decide +kernel) (by decide +kernel) (by decide +kernel) (by decide +kernel) (by decide +kernel) (by decide +kernel) (by decide +kernel) hH (txAll_52 htg) (htg _ hX0_48) (htg _ z_UnsupportedOperationException) (htg _ n_UnsupportedOperationException) (by decide +kernel) hS dX0_keep_31 dX0_keep_34 dX0_keep_35 dX0_keep_37 dX0_keep_40 (Nat.le_of_ble_eq_true rfl) (Nat.le_of_ble_eq_true rfl) (Nat.le_of_ble_eq_true rfl) (Nat.le_of_ble_eq_true rfl) (Nat.le_of_ble_eq_true rfl) (Nat.le_of_ble_eq_true rfl)
set_option maxRecDepth 100000 in
set_option maxHeartbeats 4000000 in
theorem c_keepT2 (l : Launch) (hl0 : l.stackTraces = false) (σ : BJ) (ht : jgTc σ ≤ 64) (hb9 : jgBc σ < 20) (hf : fnd (jgBD σ) (dg (jgT σ) 0 (jgTc σ)) (jgBc σ) = none) (hw : 700 < jgWc σ + 4 + jgTc σ) (hw7 : jgWc σ ≤ 700) : tB l yX0_keep wsX0_keep ({ frames := 7, cells := 1, slots := 6, locals := 140 } : Room) TXL σ [] "java/lang/UnsupportedOperationException" := by
  intro dC dI cI cJ h sz
  refine MetT.ofW (cc := cX0_keep) (maxL := 3) (ret := (some .long)) (by decide) rfl ?_
  intro p e s m args below meth c s₁ B hml hv
  obtain ⟨rfl, ⟨hsz, hP, hK, hD⟩, hH⟩ := hv
  have hx := B.exec
  have hb := B.bytes
  have hr := B.returns
  have hts := atoms_spec (ws := wsX0_keep) B.pre
  have hout : c.exceptionTable.isEmpty = true := B.noHandlers (hts _ List.mem_cons_self)
  have htg : ∀ w ∈ GW, w.before _ s = true := fun w h => hts w (List.mem_cons_of_mem _ h)
  have hown : s.vm.findClass RX0 = some m.cls := findClass_of_methodNamed B.named
  have hlocks := B.notSynchronized
  subst hsz
  have hA : ∀ q : Nat, s.heap.size ≤ q → (fun q => s.heap.size ≤ q) q := fun _ h => h
  have hS : va_S (fun q => s.heap.size ≤ q) s.heap s.heap [] := va_S.rf
  have hl := lv_entry [.ref (h 0)] (n := 3) (Nat.le_of_ble_eq_true rfl)
  rw [lg_entry_eq]
  generalize (lg_sl [.ref (h 0)] ++ List.replicate (3 - (lg_sl [.ref (h 0)]).length) Slot.unset).toArray = ls at hl ⊢
  have hl : lv_has ls 3 [(0, .ref (h 0))] := hl
  have hP : va_P (dC, dI) vwCl (wBJ cI cJ h σ) s.heap := hP
  refine lv_aload_n hx hb dX0_keep_0 rfl (lv_at hl 0 rfl) ?_
  refine va_get (D := (dC, dI)) (ci := 0) (v := .ref (h 1)) (C := RX0) (T := TX0) (N := 14) hx hb htg inX0 (fs := fsBJ h σ) hown hK hP 0 rfl rfl 0 (by decide) (htg _ fX0_9) (fun _ h9 => h9) rfl dX0_keep_1 ?_
  refine lv_iconst (v := nI 0) hx hb dX0_keep_4 (by decide) ?_
  refine lv_aload_n hx hb dX0_keep_5 rfl (lv_at hl 0 rfl) ?_
  refine va_get (D := (dC, dI)) (ci := 0) (v := .int (nI (jgTc σ))) (C := RX0) (T := TX0) (N := 14) hx hb htg inX0 (fs := fsBJ h σ) hown hK hP 0 rfl rfl 1 (by decide) (htg _ fX0_44) (fun _ h9 => h9) rfl dX0_keep_6 ?_
  refine xr_rol (va_runS (As := [.ref (h 1), .int (nI 0), .int (nI (jgTc σ))]) (rest := []) ⟨hx, hb, hml, hown, htg⟩ (c_digestOf l (jgT σ) 64 0 (jgTc σ) (by omega) (by decide) dC dI cI (h 1) _) (va_cwS 3 htg gX0_60 rfl rfl rfl (by decide +kernel) ⟨Nat.le_of_ble_eq_true rfl, Nat.le_of_ble_eq_true rfl⟩) ⟨fun a U g mk q => ⟨q.1, q.2.1, q.2.2.1, va_K.moved (u := U) (U := U.calling g mk a) (Vm.Alike.refl U.vm) q.2.2.2⟩, fun U hU hW => ⟨rfl, by rw [hU], by rw [hU]; exact hP.sub [1] rfl, va_K.moved hW.alike (hK.sub [0] rfl)⟩⟩ rfl rfl hl.1 rfl (lv_room (Nat.le_of_ble_eq_true rfl)) dX0_keep_9 ⟨Nat.zero_le _, Nat.zero_le _⟩) hP hS hA (fun H locs hP hS _ => ?_)
  refine lv_lstore_n (lv' := [(1, .long (dg (jgT σ) 0 (jgTc σ))), (0, .ref (h 0))]) hx hb dX0_keep_12 rfl hl (by decide) rfl (fun ls hl => ?_)
  refine lv_aload_n hx hb dX0_keep_13 rfl (lv_at hl 1 rfl) ?_
  refine lv_lload_n hx hb dX0_keep_14 rfl (lv_at hl 0 rfl) ?_
  refine bj_ri (As := [.long (dg (jgT σ) 0 (jgTc σ))]) (rest := []) (n := 1) ⟨hx, hb, hml, hown, htg⟩ (c_findBlob l σ (dg (jgT σ) 0 (jgTc σ)) (by omega)) (cwV 1 htg gX0_64 rfl rfl rfl (by decide +kernel) ⟨Nat.le_of_ble_eq_true rfl, Nat.le_of_ble_eq_true rfl⟩) hK hP hD hS hA hl.1 rfl rfl (Nat.le_of_ble_eq_true rfl) dX0_keep_15 (Nat.zero_le _) (Nat.zero_le _) (fun H locs hP hS => ?_)
  rw [hf]
  refine W.eq (g2 := F0 m 18 ls [.int (-1)]) rfl ?_
  refine lv_iconst (v := -1) hx hb dX0_keep_18 (by decide) ?_
  refine lv_icmp_ne (tgt := 58) hx hb dX0_keep_19 (by decide) (fun c => absurd rfl c) (fun _ => ?_)
  refine lv_aload_n hx hb dX0_keep_22 rfl (lv_at hl 1 rfl) ?_
  refine va_get (D := (dC, dI)) (ci := 0) (v := .int (nI (jgBc σ))) (C := RX0) (T := TX0) (N := 14) hx hb htg inX0 (fs := fsBJ h σ) hown hK hP 0 rfl rfl 8 (by decide) (htg _ fX0_68) (fun _ h9 => h9) rfl dX0_keep_23 ?_
  refine lv_bipush (v := nI 20) hx hb dX0_keep_26 (by decide) ?_
  refine xr_icmp_lt (tgt := 41) hx hb dX0_keep_28 (by decide) (by omega) (by omega) (fun c28 => ?_) (fun c28 => absurd c28 (by omega))
  refine lv_aload_n hx hb dX0_keep_41 rfl (lv_at hl 1 rfl) ?_
  refine lv_aload_n hx hb dX0_keep_42 rfl (lv_at hl 1 rfl) ?_
  refine va_get (D := (dC, dI)) (ci := 0) (v := .int (nI (jgTc σ))) (C := RX0) (T := TX0) (N := 14) hx hb htg inX0 (fs := fsBJ h σ) hown hK hP 0 rfl rfl 1 (by decide) (htg _ fX0_44) (fun _ h9 => h9) rfl dX0_keep_43 ?_
  exact bj_tv hlocks hout (As := [.int (nI (jgTc σ))]) (rest := []) (n := 1) ⟨hx, hb, hml, hown, htg⟩ (c_demandRoomT l hl0 σ (jgTc σ) (by omega) (by omega) (by omega)) (cwV 1 htg gX0_73 rfl rfl rfl (by decide +kernel) ⟨(Nat.le_of_ble_eq_true rfl), (Nat.le_of_ble_eq_true rfl)⟩) hK hP hD hS hH hl.1 rfl rfl (Nat.le_of_ble_eq_true rfl) dX0_keep_46 (Nat.le_of_ble_eq_true rfl) (Nat.le_of_ble_eq_true rfl)
set_option maxRecDepth 100000 in
set_option maxHeartbeats 4000000 in
theorem c_tellT1 (l : Launch) (hl0 : l.stackTraces = false) (σ : BJ) (t : Int32) (d : Int64) (ht : isTg t = false) : tB l yX0_tell wsX0_tell ({ frames := 7, cells := 1, slots := 6, locals := 140 } : Room) TXL σ [.int t, .long d] "java/lang/IllegalArgumentException" := by
  intro dC dI cI cJ h sz
  refine MetT.ofW (cc := cX0_tell) (maxL := 5) (ret := none) (by decide) rfl ?_
  intro p e s m args below meth c s₁ B hml hv
  obtain ⟨rfl, ⟨hsz, hP, hK, hD⟩, hH⟩ := hv
  have hx := B.exec
  have hb := B.bytes
  have hr := B.returns
  have hts := atoms_spec (ws := wsX0_tell) B.pre
  have hout : c.exceptionTable.isEmpty = true := B.noHandlers (hts _ List.mem_cons_self)
  have htg : ∀ w ∈ GW, w.before _ s = true := fun w h => hts w (List.mem_cons_of_mem _ h)
  have hown : s.vm.findClass RX0 = some m.cls := findClass_of_methodNamed B.named
  have hlocks := B.notSynchronized
  subst hsz
  have hA : ∀ q : Nat, s.heap.size ≤ q → (fun q => s.heap.size ≤ q) q := fun _ h => h
  have hS : va_S (fun q => s.heap.size ≤ q) s.heap s.heap [] := va_S.rf
  have hl := lv_entry [.ref (h 0), .int t, .long d] (n := 5) (Nat.le_of_ble_eq_true rfl)
  rw [lg_entry_eq]
  generalize (lg_sl [.ref (h 0), .int t, .long d] ++ List.replicate (5 - (lg_sl [.ref (h 0), .int t, .long d]).length) Slot.unset).toArray = ls at hl ⊢
  have hl : lv_has ls 5 [(0, .ref (h 0)), (1, .int t), (2, .long d)] := hl
  have hP : va_P (dC, dI) vwCl (wBJ cI cJ h σ) s.heap := hP
  refine lv_iload_n hx hb dX0_tell_0 rfl (lv_at hl 1 rfl) ?_
  exact tx_runS (As := [.int t]) (rest := []) ⟨hx, hb, hml, hown, htg⟩ (c_demandTagT l hl0 t ht _) (va_cwS 1 htg gX0_85 rfl rfl rfl (by decide +kernel) ⟨(Nat.le_of_ble_eq_true rfl), (Nat.le_of_ble_eq_true rfl)⟩) ⟨fun a U g mk q => ⟨q.1, q.2.1, q.2.2.calling g mk a⟩, fun U hU hW => ⟨rfl, congrArg Array.size hU, hH.keep hW (fun q hq => by rw [hU] <;> exact hS.2.1 q hq (Nat.not_le.mpr hq))⟩⟩ rfl rfl hl.1 rfl (lv_room (Nat.le_of_ble_eq_true rfl)) dX0_tell_1 ⟨(Nat.le_of_ble_eq_true rfl), (Nat.le_of_ble_eq_true rfl)⟩ (fun x st t H1 L h0 ht hvm hq hL => tx_thru hlocks hout hS h0 ht hvm hq hL)
set_option maxRecDepth 100000 in
set_option maxHeartbeats 4000000 in
theorem c_tellT2 (l : Launch) (hl0 : l.stackTraces = false) (σ : BJ) (t : Nat) (d : Int64) (ht : t < 8) (hc : jgBc σ ≤ 20) (hf : fnd (jgBD σ) d (jgBc σ) = none) : tB l yX0_tell wsX0_tell ({ frames := 7, cells := 1, slots := 6, locals := 140 } : Room) TXL σ [.int (nI t), .long d] "java/util/NoSuchElementException" := by
  intro dC dI cI cJ h sz
  refine MetT.ofW (cc := cX0_tell) (maxL := 5) (ret := none) (by decide) rfl ?_
  intro p e s m args below meth c s₁ B hml hv
  obtain ⟨rfl, ⟨hsz, hP, hK, hD⟩, hH⟩ := hv
  have hx := B.exec
  have hb := B.bytes
  have hr := B.returns
  have hts := atoms_spec (ws := wsX0_tell) B.pre
  have hout : c.exceptionTable.isEmpty = true := B.noHandlers (hts _ List.mem_cons_self)
  have htg : ∀ w ∈ GW, w.before _ s = true := fun w h => hts w (List.mem_cons_of_mem _ h)
  have hown : s.vm.findClass RX0 = some m.cls := findClass_of_methodNamed B.named
  have hlocks := B.notSynchronized
  subst hsz
  have hA : ∀ q : Nat, s.heap.size ≤ q → (fun q => s.heap.size ≤ q) q := fun _ h => h
  have hS : va_S (fun q => s.heap.size ≤ q) s.heap s.heap [] := va_S.rf
  have hl := lv_entry [.ref (h 0), .int (nI t), .long d] (n := 5) (Nat.le_of_ble_eq_true rfl)
  rw [lg_entry_eq]
  generalize (lg_sl [.ref (h 0), .int (nI t), .long d] ++ List.replicate (5 - (lg_sl [.ref (h 0), .int (nI t), .long d]).length) Slot.unset).toArray = ls at hl ⊢
  have hl : lv_has ls 5 [(0, .ref (h 0)), (1, .int (nI t)), (2, .long d)] := hl
  have hP : va_P (dC, dI) vwCl (wBJ cI cJ h σ) s.heap := hP
  refine lv_iload_n hx hb dX0_tell_0 rfl (lv_at hl 1 rfl) ?_
  refine xr_rov (va_runS (As := [.int (nI t)]) (rest := []) ⟨hx, hb, hml, hown, htg⟩ (c_demandTag l (nI t) (by rw [isTg_nI (by omega)]; exact decide_eq_true ht) dC dI cI 0 _) (va_cwS 1 htg gX0_85 rfl rfl rfl (by decide +kernel) ⟨Nat.le_of_ble_eq_true rfl, Nat.le_of_ble_eq_true rfl⟩) ⟨fun a U g mk q => q, fun U hU hW => ⟨rfl, by show U.heap.size = _; rw [hU]⟩⟩ rfl rfl hl.1 rfl (lv_room (Nat.le_of_ble_eq_true rfl)) dX0_tell_1 ⟨Nat.zero_le _, Nat.zero_le _⟩) hP hS hA (fun H locs hP hS _ => ?_)
  refine lv_aload_n hx hb dX0_tell_4 rfl (lv_at hl 0 rfl) ?_
  refine lv_lload_n hx hb dX0_tell_5 rfl (lv_at hl 2 rfl) ?_
  refine bj_ri (As := [.long d]) (rest := []) (n := 1) ⟨hx, hb, hml, hown, htg⟩ (c_findBlob l σ d (by omega)) (cwV 1 htg gX0_64 rfl rfl rfl (by decide +kernel) ⟨Nat.le_of_ble_eq_true rfl, Nat.le_of_ble_eq_true rfl⟩) hK hP hD hS hA hl.1 rfl rfl (Nat.le_of_ble_eq_true rfl) dX0_tell_6 (Nat.zero_le _) (Nat.zero_le _) (fun H locs hP hS => ?_)
  rw [hf]
  refine W.eq (g2 := F0 m 9 ls [.int (-1)]) rfl ?_
  refine lv_istore (lv' := [(4, .int (-1)), (0, .ref (h 0)), (1, .int (nI t)), (2, .long d)]) hx hb dX0_tell_9 hl (by decide) rfl (fun ls hl => ?_)
  refine lv_iload hx hb dX0_tell_11 (lv_at hl 0 rfl) ?_
  refine lv_iconst (v := -1) hx hb dX0_tell_13 (by decide) ?_
  refine lv_icmp_ne (tgt := 27) hx hb dX0_tell_14 (by decide) (fun c => absurd rfl c) (fun _ => ?_)
  exact tx_throwS hx hb hl0 hlocks hout (hl.1.trans hml.symm) (own := RX0) (E := "java/util/NoSuchElementException") (text := "no blob has this digest") (sup := "java/lang/RuntimeException") (names := ["java/lang/Exception"]) (ik := 88) (is := 90) (ic := 92) (ix := 13) (rx := prog_13_method_4_code) hown (by decide +kernel) (by decide +kernel) (by decide +kernel) (by decide +kernel) (by decide +kernel) (by decide +kernel) (by decide +kernel) hH (txAll_92 htg) (htg _ hX0_88) (htg _ z_NoSuchElementException) (htg _ n_NoSuchElementException) (by decide +kernel) hS dX0_tell_17 dX0_tell_20 dX0_tell_21 dX0_tell_23 dX0_tell_26 (Nat.le_of_ble_eq_true rfl) (Nat.le_of_ble_eq_true rfl) (Nat.le_of_ble_eq_true rfl) (Nat.le_of_ble_eq_true rfl) (Nat.le_of_ble_eq_true rfl) (Nat.le_of_ble_eq_true rfl)
set_option maxRecDepth 100000 in
set_option maxHeartbeats 4000000 in
theorem c_tellT3 (l : Launch) (hl0 : l.stackTraces = false) (σ : BJ) (t : Nat) (d : Int64) (b : Nat) (ht : t < 8) (hc : jgBc σ ≤ 20) (hf : fnd (jgBD σ) d (jgBc σ) = some b) (hs : jgTB σ t ≠ nI b) (hw : 700 < jgWc σ + 13) (hw7 : jgWc σ ≤ 700) : tB l yX0_tell wsX0_tell ({ frames := 7, cells := 1, slots := 6, locals := 140 } : Room) TXL σ [.int (nI t), .long d] "java/lang/UnsupportedOperationException" := by
  intro dC dI cI cJ h sz
  refine MetT.ofW (cc := cX0_tell) (maxL := 5) (ret := none) (by decide) rfl ?_
  intro p e s m args below meth c s₁ B hml hv
  obtain ⟨rfl, ⟨hsz, hP, hK, hD⟩, hH⟩ := hv
  have hx := B.exec
  have hb := B.bytes
  have hr := B.returns
  have hts := atoms_spec (ws := wsX0_tell) B.pre
  have hout : c.exceptionTable.isEmpty = true := B.noHandlers (hts _ List.mem_cons_self)
  have htg : ∀ w ∈ GW, w.before _ s = true := fun w h => hts w (List.mem_cons_of_mem _ h)
  have hown : s.vm.findClass RX0 = some m.cls := findClass_of_methodNamed B.named
  have hlocks := B.notSynchronized
  subst hsz
  have hA : ∀ q : Nat, s.heap.size ≤ q → (fun q => s.heap.size ≤ q) q := fun _ h => h
  have hS : va_S (fun q => s.heap.size ≤ q) s.heap s.heap [] := va_S.rf
  have hl := lv_entry [.ref (h 0), .int (nI t), .long d] (n := 5) (Nat.le_of_ble_eq_true rfl)
  rw [lg_entry_eq]
  generalize (lg_sl [.ref (h 0), .int (nI t), .long d] ++ List.replicate (5 - (lg_sl [.ref (h 0), .int (nI t), .long d]).length) Slot.unset).toArray = ls at hl ⊢
  have hl : lv_has ls 5 [(0, .ref (h 0)), (1, .int (nI t)), (2, .long d)] := hl
  have hP : va_P (dC, dI) vwCl (wBJ cI cJ h σ) s.heap := hP
  refine lv_iload_n hx hb dX0_tell_0 rfl (lv_at hl 1 rfl) ?_
  refine xr_rov (va_runS (As := [.int (nI t)]) (rest := []) ⟨hx, hb, hml, hown, htg⟩ (c_demandTag l (nI t) (by rw [isTg_nI (by omega)]; exact decide_eq_true ht) dC dI cI 0 _) (va_cwS 1 htg gX0_85 rfl rfl rfl (by decide +kernel) ⟨Nat.le_of_ble_eq_true rfl, Nat.le_of_ble_eq_true rfl⟩) ⟨fun a U g mk q => q, fun U hU hW => ⟨rfl, by show U.heap.size = _; rw [hU]⟩⟩ rfl rfl hl.1 rfl (lv_room (Nat.le_of_ble_eq_true rfl)) dX0_tell_1 ⟨Nat.zero_le _, Nat.zero_le _⟩) hP hS hA (fun H locs hP hS _ => ?_)
  refine lv_aload_n hx hb dX0_tell_4 rfl (lv_at hl 0 rfl) ?_
  refine lv_lload_n hx hb dX0_tell_5 rfl (lv_at hl 2 rfl) ?_
  refine bj_ri (As := [.long d]) (rest := []) (n := 1) ⟨hx, hb, hml, hown, htg⟩ (c_findBlob l σ d (by omega)) (cwV 1 htg gX0_64 rfl rfl rfl (by decide +kernel) ⟨Nat.le_of_ble_eq_true rfl, Nat.le_of_ble_eq_true rfl⟩) hK hP hD hS hA hl.1 rfl rfl (Nat.le_of_ble_eq_true rfl) dX0_tell_6 (Nat.zero_le _) (Nat.zero_le _) (fun H locs hP hS => ?_)
  have hlt := (fnd_lt hf).1
  rw [hf]
  refine W.eq (g2 := F0 m 9 ls [.int (nI b)]) rfl ?_
  refine lv_istore (lv' := [(4, .int (nI b)), (0, .ref (h 0)), (1, .int (nI t)), (2, .long d)]) hx hb dX0_tell_9 hl (by decide) rfl (fun ls hl => ?_)
  refine lv_iload hx hb dX0_tell_11 (lv_at hl 0 rfl) ?_
  refine lv_iconst (v := -1) hx hb dX0_tell_13 (by decide) ?_
  refine lv_icmp_ne (tgt := 27) hx hb dX0_tell_14 (by decide) (fun _ => ?_) (fun c => absurd c (optI_none (by omega)))
  refine lv_aload_n hx hb dX0_tell_27 rfl (lv_at hl 1 rfl) ?_
  refine va_get (D := (dC, dI)) (ci := 0) (v := .ref (h 6)) (C := RX0) (T := TX0) (N := 14) hx hb htg inX0 (fs := fsBJ h σ) hown hK hP 0 rfl rfl 9 (by decide) (htg _ fX0_26) (fun _ h9 => h9) rfl dX0_tell_28 ?_
  refine lv_iload_n hx hb dX0_tell_31 rfl (lv_at hl 2 rfl) ?_
  refine xr_iald (f := jgTB σ) (i := t) hx hb hK hP 6 0 rfl rfl (by omega) (by decide) dX0_tell_32 ?_
  refine lv_iload hx hb dX0_tell_33 (lv_at hl 0 rfl) ?_
  refine lv_icmp_eq (tgt := 55) hx hb dX0_tell_35 (by decide) (fun c35 => absurd c35 (by exact hs)) (fun c35 => ?_)
  refine lv_aload_n hx hb dX0_tell_38 rfl (lv_at hl 1 rfl) ?_
  refine lv_bipush (v := nI 9) hx hb dX0_tell_39 (by decide) ?_
  exact bj_tv hlocks hout (As := [.int (nI 9)]) (rest := []) (n := 1) ⟨hx, hb, hml, hown, htg⟩ (c_demandRoomT l hl0 σ 9 (by omega) (by omega) (by omega)) (cwV 1 htg gX0_73 rfl rfl rfl (by decide +kernel) ⟨(Nat.le_of_ble_eq_true rfl), (Nat.le_of_ble_eq_true rfl)⟩) hK hP hD hS hH hl.1 rfl rfl (Nat.le_of_ble_eq_true rfl) dX0_tell_41 (Nat.le_of_ble_eq_true rfl) (Nat.le_of_ble_eq_true rfl)
set_option maxRecDepth 100000 in
set_option maxHeartbeats 4000000 in
theorem c_untellT1 (l : Launch) (hl0 : l.stackTraces = false) (σ : BJ) (t : Int32) (ht : isTg t = false) : tB l yX0_untell wsX0_untell ({ frames := 7, cells := 1, slots := 6, locals := 140 } : Room) TXL σ [.int t] "java/lang/IllegalArgumentException" := by
  intro dC dI cI cJ h sz
  refine MetT.ofW (cc := cX0_untell) (maxL := 2) (ret := none) (by decide) rfl ?_
  intro p e s m args below meth c s₁ B hml hv
  obtain ⟨rfl, ⟨hsz, hP, hK, hD⟩, hH⟩ := hv
  have hx := B.exec
  have hb := B.bytes
  have hr := B.returns
  have hts := atoms_spec (ws := wsX0_untell) B.pre
  have hout : c.exceptionTable.isEmpty = true := B.noHandlers (hts _ List.mem_cons_self)
  have htg : ∀ w ∈ GW, w.before _ s = true := fun w h => hts w (List.mem_cons_of_mem _ h)
  have hown : s.vm.findClass RX0 = some m.cls := findClass_of_methodNamed B.named
  have hlocks := B.notSynchronized
  subst hsz
  have hA : ∀ q : Nat, s.heap.size ≤ q → (fun q => s.heap.size ≤ q) q := fun _ h => h
  have hS : va_S (fun q => s.heap.size ≤ q) s.heap s.heap [] := va_S.rf
  have hl := lv_entry [.ref (h 0), .int t] (n := 2) (Nat.le_of_ble_eq_true rfl)
  rw [lg_entry_eq]
  generalize (lg_sl [.ref (h 0), .int t] ++ List.replicate (2 - (lg_sl [.ref (h 0), .int t]).length) Slot.unset).toArray = ls at hl ⊢
  have hl : lv_has ls 2 [(0, .ref (h 0)), (1, .int t)] := hl
  have hP : va_P (dC, dI) vwCl (wBJ cI cJ h σ) s.heap := hP
  refine lv_iload_n hx hb dX0_untell_0 rfl (lv_at hl 1 rfl) ?_
  exact tx_runS (As := [.int t]) (rest := []) ⟨hx, hb, hml, hown, htg⟩ (c_demandTagT l hl0 t ht _) (va_cwS 1 htg gX0_85 rfl rfl rfl (by decide +kernel) ⟨(Nat.le_of_ble_eq_true rfl), (Nat.le_of_ble_eq_true rfl)⟩) ⟨fun a U g mk q => ⟨q.1, q.2.1, q.2.2.calling g mk a⟩, fun U hU hW => ⟨rfl, congrArg Array.size hU, hH.keep hW (fun q hq => by rw [hU] <;> exact hS.2.1 q hq (Nat.not_le.mpr hq))⟩⟩ rfl rfl hl.1 rfl (lv_room (Nat.le_of_ble_eq_true rfl)) dX0_untell_1 ⟨(Nat.le_of_ble_eq_true rfl), (Nat.le_of_ble_eq_true rfl)⟩ (fun x st t H1 L h0 ht hvm hq hL => tx_thru hlocks hout hS h0 ht hvm hq hL)
set_option maxRecDepth 100000 in
set_option maxHeartbeats 4000000 in
theorem c_untellT2 (l : Launch) (hl0 : l.stackTraces = false) (σ : BJ) (t : Nat) (ht : t < 8) (hs : jgTB σ t = -1) : tB l yX0_untell wsX0_untell ({ frames := 7, cells := 1, slots := 6, locals := 140 } : Room) TXL σ [.int (nI t)] "java/util/NoSuchElementException" := by
  intro dC dI cI cJ h sz
  refine MetT.ofW (cc := cX0_untell) (maxL := 2) (ret := none) (by decide) rfl ?_
  intro p e s m args below meth c s₁ B hml hv
  obtain ⟨rfl, ⟨hsz, hP, hK, hD⟩, hH⟩ := hv
  have hx := B.exec
  have hb := B.bytes
  have hr := B.returns
  have hts := atoms_spec (ws := wsX0_untell) B.pre
  have hout : c.exceptionTable.isEmpty = true := B.noHandlers (hts _ List.mem_cons_self)
  have htg : ∀ w ∈ GW, w.before _ s = true := fun w h => hts w (List.mem_cons_of_mem _ h)
  have hown : s.vm.findClass RX0 = some m.cls := findClass_of_methodNamed B.named
  have hlocks := B.notSynchronized
  subst hsz
  have hA : ∀ q : Nat, s.heap.size ≤ q → (fun q => s.heap.size ≤ q) q := fun _ h => h
  have hS : va_S (fun q => s.heap.size ≤ q) s.heap s.heap [] := va_S.rf
  have hl := lv_entry [.ref (h 0), .int (nI t)] (n := 2) (Nat.le_of_ble_eq_true rfl)
  rw [lg_entry_eq]
  generalize (lg_sl [.ref (h 0), .int (nI t)] ++ List.replicate (2 - (lg_sl [.ref (h 0), .int (nI t)]).length) Slot.unset).toArray = ls at hl ⊢
  have hl : lv_has ls 2 [(0, .ref (h 0)), (1, .int (nI t))] := hl
  have hP : va_P (dC, dI) vwCl (wBJ cI cJ h σ) s.heap := hP
  refine lv_iload_n hx hb dX0_untell_0 rfl (lv_at hl 1 rfl) ?_
  refine xr_rov (va_runS (As := [.int (nI t)]) (rest := []) ⟨hx, hb, hml, hown, htg⟩ (c_demandTag l (nI t) (by rw [isTg_nI (by omega)]; exact decide_eq_true ht) dC dI cI 0 _) (va_cwS 1 htg gX0_85 rfl rfl rfl (by decide +kernel) ⟨Nat.le_of_ble_eq_true rfl, Nat.le_of_ble_eq_true rfl⟩) ⟨fun a U g mk q => q, fun U hU hW => ⟨rfl, by show U.heap.size = _; rw [hU]⟩⟩ rfl rfl hl.1 rfl (lv_room (Nat.le_of_ble_eq_true rfl)) dX0_untell_1 ⟨Nat.zero_le _, Nat.zero_le _⟩) hP hS hA (fun H locs hP hS _ => ?_)
  refine lv_aload_n hx hb dX0_untell_4 rfl (lv_at hl 0 rfl) ?_
  refine va_get (D := (dC, dI)) (ci := 0) (v := .ref (h 6)) (C := RX0) (T := TX0) (N := 14) hx hb htg inX0 (fs := fsBJ h σ) hown hK hP 0 rfl rfl 9 (by decide) (htg _ fX0_26) (fun _ h9 => h9) rfl dX0_untell_5 ?_
  refine lv_iload_n hx hb dX0_untell_8 rfl (lv_at hl 1 rfl) ?_
  refine xr_iald (f := jgTB σ) (i := t) hx hb hK hP 6 0 rfl rfl (by omega) (by decide) dX0_untell_9 ?_
  refine lv_iconst (v := -1) hx hb dX0_untell_10 (by decide) ?_
  refine lv_icmp_ne (tgt := 24) hx hb dX0_untell_11 (by decide) (fun c11 => absurd c11 (by exact fun z => z hs)) (fun c11 => ?_)
  exact tx_throwS hx hb hl0 hlocks hout (hl.1.trans hml.symm) (own := RX0) (E := "java/util/NoSuchElementException") (text := "the tag tells none already") (sup := "java/lang/RuntimeException") (names := ["java/lang/Exception"]) (ik := 88) (is := 97) (ic := 92) (ix := 13) (rx := prog_13_method_4_code) hown (by decide +kernel) (by decide +kernel) (by decide +kernel) (by decide +kernel) (by decide +kernel) (by decide +kernel) (by decide +kernel) hH (txAll_92 htg) (htg _ hX0_88) (htg _ z_NoSuchElementException) (htg _ n_NoSuchElementException) (by decide +kernel) hS dX0_untell_14 dX0_untell_17 dX0_untell_18 dX0_untell_20 dX0_untell_23 (Nat.le_of_ble_eq_true rfl) (Nat.le_of_ble_eq_true rfl) (Nat.le_of_ble_eq_true rfl) (Nat.le_of_ble_eq_true rfl) (Nat.le_of_ble_eq_true rfl) (Nat.le_of_ble_eq_true rfl)
set_option maxRecDepth 100000 in
set_option maxHeartbeats 4000000 in
theorem c_untellT3 (l : Launch) (hl0 : l.stackTraces = false) (σ : BJ) (t : Nat) (ht : t < 8) (hs : jgTB σ t ≠ -1) (hw : 700 < jgWc σ + 5) (hw7 : jgWc σ ≤ 700) : tB l yX0_untell wsX0_untell ({ frames := 7, cells := 1, slots := 6, locals := 140 } : Room) TXL σ [.int (nI t)] "java/lang/UnsupportedOperationException" := by
  intro dC dI cI cJ h sz
  refine MetT.ofW (cc := cX0_untell) (maxL := 2) (ret := none) (by decide) rfl ?_
  intro p e s m args below meth c s₁ B hml hv
  obtain ⟨rfl, ⟨hsz, hP, hK, hD⟩, hH⟩ := hv
  have hx := B.exec
  have hb := B.bytes
  have hr := B.returns
  have hts := atoms_spec (ws := wsX0_untell) B.pre
  have hout : c.exceptionTable.isEmpty = true := B.noHandlers (hts _ List.mem_cons_self)
  have htg : ∀ w ∈ GW, w.before _ s = true := fun w h => hts w (List.mem_cons_of_mem _ h)
  have hown : s.vm.findClass RX0 = some m.cls := findClass_of_methodNamed B.named
  have hlocks := B.notSynchronized
  subst hsz
  have hA : ∀ q : Nat, s.heap.size ≤ q → (fun q => s.heap.size ≤ q) q := fun _ h => h
  have hS : va_S (fun q => s.heap.size ≤ q) s.heap s.heap [] := va_S.rf
  have hl := lv_entry [.ref (h 0), .int (nI t)] (n := 2) (Nat.le_of_ble_eq_true rfl)
  rw [lg_entry_eq]
  generalize (lg_sl [.ref (h 0), .int (nI t)] ++ List.replicate (2 - (lg_sl [.ref (h 0), .int (nI t)]).length) Slot.unset).toArray = ls at hl ⊢
  have hl : lv_has ls 2 [(0, .ref (h 0)), (1, .int (nI t))] := hl
  have hP : va_P (dC, dI) vwCl (wBJ cI cJ h σ) s.heap := hP
  refine lv_iload_n hx hb dX0_untell_0 rfl (lv_at hl 1 rfl) ?_
  refine xr_rov (va_runS (As := [.int (nI t)]) (rest := []) ⟨hx, hb, hml, hown, htg⟩ (c_demandTag l (nI t) (by rw [isTg_nI (by omega)]; exact decide_eq_true ht) dC dI cI 0 _) (va_cwS 1 htg gX0_85 rfl rfl rfl (by decide +kernel) ⟨Nat.le_of_ble_eq_true rfl, Nat.le_of_ble_eq_true rfl⟩) ⟨fun a U g mk q => q, fun U hU hW => ⟨rfl, by show U.heap.size = _; rw [hU]⟩⟩ rfl rfl hl.1 rfl (lv_room (Nat.le_of_ble_eq_true rfl)) dX0_untell_1 ⟨Nat.zero_le _, Nat.zero_le _⟩) hP hS hA (fun H locs hP hS _ => ?_)
  refine lv_aload_n hx hb dX0_untell_4 rfl (lv_at hl 0 rfl) ?_
  refine va_get (D := (dC, dI)) (ci := 0) (v := .ref (h 6)) (C := RX0) (T := TX0) (N := 14) hx hb htg inX0 (fs := fsBJ h σ) hown hK hP 0 rfl rfl 9 (by decide) (htg _ fX0_26) (fun _ h9 => h9) rfl dX0_untell_5 ?_
  refine lv_iload_n hx hb dX0_untell_8 rfl (lv_at hl 1 rfl) ?_
  refine xr_iald (f := jgTB σ) (i := t) hx hb hK hP 6 0 rfl rfl (by omega) (by decide) dX0_untell_9 ?_
  refine lv_iconst (v := -1) hx hb dX0_untell_10 (by decide) ?_
  refine lv_icmp_ne (tgt := 24) hx hb dX0_untell_11 (by decide) (fun c11 => ?_) (fun c11 => absurd c11 (by exact hs))
  refine lv_aload_n hx hb dX0_untell_24 rfl (lv_at hl 0 rfl) ?_
  refine lv_iconst (v := nI 1) hx hb dX0_untell_25 (by decide) ?_
  exact bj_tv hlocks hout (As := [.int (nI 1)]) (rest := []) (n := 1) ⟨hx, hb, hml, hown, htg⟩ (c_demandRoomT l hl0 σ 1 (by omega) (by omega) (by omega)) (cwV 1 htg gX0_73 rfl rfl rfl (by decide +kernel) ⟨(Nat.le_of_ble_eq_true rfl), (Nat.le_of_ble_eq_true rfl)⟩) hK hP hD hS hH hl.1 rfl rfl (Nat.le_of_ble_eq_true rfl) dX0_untell_26 (Nat.le_of_ble_eq_true rfl) (Nat.le_of_ble_eq_true rfl)
set_option maxRecDepth 100000 in
set_option maxHeartbeats 4000000 in
theorem c_learnT1 (l : Launch) (hl0 : l.stackTraces = false) (σ : BJ) (k : Int64) (d : Int64) (hc : jgKc σ = 16) (hf : fnd (jgKS σ) k (jgKc σ) = none) : tB l yX0_learn wsX0_learn ({ frames := 7, cells := 1, slots := 6, locals := 140 } : Room) TXL σ [.long k, .long d] "java/lang/UnsupportedOperationException" := by
  intro dC dI cI cJ h sz
  refine MetT.ofW (cc := cX0_learn) (maxL := 6) (ret := none) (by decide) rfl ?_
  intro p e s m args below meth c s₁ B hml hv
  obtain ⟨rfl, ⟨hsz, hP, hK, hD⟩, hH⟩ := hv
  have hx := B.exec
  have hb := B.bytes
  have hr := B.returns
  have hts := atoms_spec (ws := wsX0_learn) B.pre
  have hout : c.exceptionTable.isEmpty = true := B.noHandlers (hts _ List.mem_cons_self)
  have htg : ∀ w ∈ GW, w.before _ s = true := fun w h => hts w (List.mem_cons_of_mem _ h)
  have hown : s.vm.findClass RX0 = some m.cls := findClass_of_methodNamed B.named
  have hlocks := B.notSynchronized
  subst hsz
  have hA : ∀ q : Nat, s.heap.size ≤ q → (fun q => s.heap.size ≤ q) q := fun _ h => h
  have hS : va_S (fun q => s.heap.size ≤ q) s.heap s.heap [] := va_S.rf
  have hl := lv_entry [.ref (h 0), .long k, .long d] (n := 6) (Nat.le_of_ble_eq_true rfl)
  rw [lg_entry_eq]
  generalize (lg_sl [.ref (h 0), .long k, .long d] ++ List.replicate (6 - (lg_sl [.ref (h 0), .long k, .long d]).length) Slot.unset).toArray = ls at hl ⊢
  have hl : lv_has ls 6 [(0, .ref (h 0)), (1, .long k), (3, .long d)] := hl
  have hP : va_P (dC, dI) vwCl (wBJ cI cJ h σ) s.heap := hP
  refine lv_aload_n hx hb dX0_learn_0 rfl (lv_at hl 0 rfl) ?_
  refine lv_lload_n hx hb dX0_learn_1 rfl (lv_at hl 1 rfl) ?_
  refine bj_ri (As := [.long k]) (rest := []) (n := 1) ⟨hx, hb, hml, hown, htg⟩ (c_findKey l σ k (by omega)) (cwV 1 htg gX0_103 rfl rfl rfl (by decide +kernel) ⟨Nat.le_of_ble_eq_true rfl, Nat.le_of_ble_eq_true rfl⟩) hK hP hD hS hA hl.1 rfl rfl (Nat.le_of_ble_eq_true rfl) dX0_learn_2 (Nat.zero_le _) (Nat.zero_le _) (fun H locs hP hS => ?_)
  rw [hf]
  refine W.eq (g2 := F0 m 5 ls [.int (-1)]) rfl ?_
  refine lv_istore (lv' := [(5, .int (-1)), (0, .ref (h 0)), (1, .long k), (3, .long d)]) hx hb dX0_learn_5 hl (by decide) rfl (fun ls hl => ?_)
  refine lv_iload hx hb dX0_learn_7 (lv_at hl 0 rfl) ?_
  refine lv_iconst (v := -1) hx hb dX0_learn_9 (by decide) ?_
  refine lv_icmp_ne (tgt := 32) hx hb dX0_learn_10 (by decide) (fun c => absurd rfl c) (fun _ => ?_)
  refine lv_aload_n hx hb dX0_learn_13 rfl (lv_at hl 1 rfl) ?_
  refine va_get (D := (dC, dI)) (ci := 0) (v := .int (nI (jgKc σ))) (C := RX0) (T := TX0) (N := 14) hx hb htg inX0 (fs := fsBJ h σ) hown hK hP 0 rfl rfl 12 (by decide) (htg _ fX0_106) (fun _ h9 => h9) rfl dX0_learn_14 ?_
  refine lv_bipush (v := nI 16) hx hb dX0_learn_17 (by decide) ?_
  refine xr_icmp_lt (tgt := 32) hx hb dX0_learn_19 (by decide) (by omega) (by omega) (fun c19 => absurd c19 (by omega)) (fun c19 => ?_)
  exact tx_throwS hx hb hl0 hlocks hout (hl.1.trans hml.symm) (own := RX0) (E := "java/lang/UnsupportedOperationException") (text := "there are 16 keys") (sup := "java/lang/RuntimeException") (names := ["java/lang/Exception"]) (ik := 48) (is := 109) (ic := 52) (ix := 7) (rx := prog_11_method_2_code) hown (by decide +kernel) (by decide +kernel) (by decide +kernel) (by decide +kernel) (by decide +kernel) (by decide +kernel) (by decide +kernel) hH (txAll_52 htg) (htg _ hX0_48) (htg _ z_UnsupportedOperationException) (htg _ n_UnsupportedOperationException) (by decide +kernel) hS dX0_learn_22 dX0_learn_25 dX0_learn_26 dX0_learn_28 dX0_learn_31 (Nat.le_of_ble_eq_true rfl) (Nat.le_of_ble_eq_true rfl) (Nat.le_of_ble_eq_true rfl) (Nat.le_of_ble_eq_true rfl) (Nat.le_of_ble_eq_true rfl) (Nat.le_of_ble_eq_true rfl)
set_option maxRecDepth 100000 in
set_option maxHeartbeats 4000000 in
theorem c_learnT2 (l : Launch) (hl0 : l.stackTraces = false) (σ : BJ) (k : Int64) (d : Int64) (hc : jgKc σ < 16) (hf : fnd (jgKS σ) k (jgKc σ) = none) (hw : 700 < jgWc σ + 20) (hw7 : jgWc σ ≤ 700) : tB l yX0_learn wsX0_learn ({ frames := 7, cells := 1, slots := 6, locals := 140 } : Room) TXL σ [.long k, .long d] "java/lang/UnsupportedOperationException" := by
  intro dC dI cI cJ h sz
  refine MetT.ofW (cc := cX0_learn) (maxL := 6) (ret := none) (by decide) rfl ?_
  intro p e s m args below meth c s₁ B hml hv
  obtain ⟨rfl, ⟨hsz, hP, hK, hD⟩, hH⟩ := hv
  have hx := B.exec
  have hb := B.bytes
  have hr := B.returns
  have hts := atoms_spec (ws := wsX0_learn) B.pre
  have hout : c.exceptionTable.isEmpty = true := B.noHandlers (hts _ List.mem_cons_self)
  have htg : ∀ w ∈ GW, w.before _ s = true := fun w h => hts w (List.mem_cons_of_mem _ h)
  have hown : s.vm.findClass RX0 = some m.cls := findClass_of_methodNamed B.named
  have hlocks := B.notSynchronized
  subst hsz
  have hA : ∀ q : Nat, s.heap.size ≤ q → (fun q => s.heap.size ≤ q) q := fun _ h => h
  have hS : va_S (fun q => s.heap.size ≤ q) s.heap s.heap [] := va_S.rf
  have hl := lv_entry [.ref (h 0), .long k, .long d] (n := 6) (Nat.le_of_ble_eq_true rfl)
  rw [lg_entry_eq]
  generalize (lg_sl [.ref (h 0), .long k, .long d] ++ List.replicate (6 - (lg_sl [.ref (h 0), .long k, .long d]).length) Slot.unset).toArray = ls at hl ⊢
  have hl : lv_has ls 6 [(0, .ref (h 0)), (1, .long k), (3, .long d)] := hl
  have hP : va_P (dC, dI) vwCl (wBJ cI cJ h σ) s.heap := hP
  refine lv_aload_n hx hb dX0_learn_0 rfl (lv_at hl 0 rfl) ?_
  refine lv_lload_n hx hb dX0_learn_1 rfl (lv_at hl 1 rfl) ?_
  refine bj_ri (As := [.long k]) (rest := []) (n := 1) ⟨hx, hb, hml, hown, htg⟩ (c_findKey l σ k (by omega)) (cwV 1 htg gX0_103 rfl rfl rfl (by decide +kernel) ⟨Nat.le_of_ble_eq_true rfl, Nat.le_of_ble_eq_true rfl⟩) hK hP hD hS hA hl.1 rfl rfl (Nat.le_of_ble_eq_true rfl) dX0_learn_2 (Nat.zero_le _) (Nat.zero_le _) (fun H locs hP hS => ?_)
  rw [hf]
  refine W.eq (g2 := F0 m 5 ls [.int (-1)]) rfl ?_
  refine lv_istore (lv' := [(5, .int (-1)), (0, .ref (h 0)), (1, .long k), (3, .long d)]) hx hb dX0_learn_5 hl (by decide) rfl (fun ls hl => ?_)
  refine lv_iload hx hb dX0_learn_7 (lv_at hl 0 rfl) ?_
  refine lv_iconst (v := -1) hx hb dX0_learn_9 (by decide) ?_
  refine lv_icmp_ne (tgt := 32) hx hb dX0_learn_10 (by decide) (fun c => absurd rfl c) (fun _ => ?_)
  refine lv_aload_n hx hb dX0_learn_13 rfl (lv_at hl 1 rfl) ?_
  refine va_get (D := (dC, dI)) (ci := 0) (v := .int (nI (jgKc σ))) (C := RX0) (T := TX0) (N := 14) hx hb htg inX0 (fs := fsBJ h σ) hown hK hP 0 rfl rfl 12 (by decide) (htg _ fX0_106) (fun _ h9 => h9) rfl dX0_learn_14 ?_
  refine lv_bipush (v := nI 16) hx hb dX0_learn_17 (by decide) ?_
  refine xr_icmp_lt (tgt := 32) hx hb dX0_learn_19 (by decide) (by omega) (by omega) (fun c19 => ?_) (fun c19 => absurd c19 (by omega))
  refine lv_iload hx hb dX0_learn_32 (lv_at hl 0 rfl) ?_
  refine lv_iconst (v := -1) hx hb dX0_learn_34 (by decide) ?_
  refine lv_icmp_eq (tgt := 50) hx hb dX0_learn_35 (by decide) (fun _ => ?_) (fun c => absurd rfl c)
  refine lv_aload_n hx hb dX0_learn_50 rfl (lv_at hl 1 rfl) ?_
  refine lv_bipush (v := nI 16) hx hb dX0_learn_51 (by decide) ?_
  exact bj_tv hlocks hout (As := [.int (nI 16)]) (rest := []) (n := 1) ⟨hx, hb, hml, hown, htg⟩ (c_demandRoomT l hl0 σ 16 (by omega) (by omega) (by omega)) (cwV 1 htg gX0_73 rfl rfl rfl (by decide +kernel) ⟨(Nat.le_of_ble_eq_true rfl), (Nat.le_of_ble_eq_true rfl)⟩) hK hP hD hS hH hl.1 rfl rfl (Nat.le_of_ble_eq_true rfl) dX0_learn_53 (Nat.le_of_ble_eq_true rfl) (Nat.le_of_ble_eq_true rfl)
set_option maxRecDepth 100000 in
set_option maxHeartbeats 4000000 in
theorem c_learnT3 (l : Launch) (hl0 : l.stackTraces = false) (σ : BJ) (k : Int64) (d : Int64) (i : Nat) (hc : jgKc σ ≤ 16) (hf : fnd (jgKS σ) k (jgKc σ) = some i) (hs : jgKD σ i ≠ d) (hw : 700 < jgWc σ + 20) (hw7 : jgWc σ ≤ 700) : tB l yX0_learn wsX0_learn ({ frames := 7, cells := 1, slots := 6, locals := 140 } : Room) TXL σ [.long k, .long d] "java/lang/UnsupportedOperationException" := by
  intro dC dI cI cJ h sz
  refine MetT.ofW (cc := cX0_learn) (maxL := 6) (ret := none) (by decide) rfl ?_
  intro p e s m args below meth c s₁ B hml hv
  obtain ⟨rfl, ⟨hsz, hP, hK, hD⟩, hH⟩ := hv
  have hx := B.exec
  have hb := B.bytes
  have hr := B.returns
  have hts := atoms_spec (ws := wsX0_learn) B.pre
  have hout : c.exceptionTable.isEmpty = true := B.noHandlers (hts _ List.mem_cons_self)
  have htg : ∀ w ∈ GW, w.before _ s = true := fun w h => hts w (List.mem_cons_of_mem _ h)
  have hown : s.vm.findClass RX0 = some m.cls := findClass_of_methodNamed B.named
  have hlocks := B.notSynchronized
  subst hsz
  have hA : ∀ q : Nat, s.heap.size ≤ q → (fun q => s.heap.size ≤ q) q := fun _ h => h
  have hS : va_S (fun q => s.heap.size ≤ q) s.heap s.heap [] := va_S.rf
  have hl := lv_entry [.ref (h 0), .long k, .long d] (n := 6) (Nat.le_of_ble_eq_true rfl)
  rw [lg_entry_eq]
  generalize (lg_sl [.ref (h 0), .long k, .long d] ++ List.replicate (6 - (lg_sl [.ref (h 0), .long k, .long d]).length) Slot.unset).toArray = ls at hl ⊢
  have hl : lv_has ls 6 [(0, .ref (h 0)), (1, .long k), (3, .long d)] := hl
  have hP : va_P (dC, dI) vwCl (wBJ cI cJ h σ) s.heap := hP
  refine lv_aload_n hx hb dX0_learn_0 rfl (lv_at hl 0 rfl) ?_
  refine lv_lload_n hx hb dX0_learn_1 rfl (lv_at hl 1 rfl) ?_
  refine bj_ri (As := [.long k]) (rest := []) (n := 1) ⟨hx, hb, hml, hown, htg⟩ (c_findKey l σ k (hc)) (cwV 1 htg gX0_103 rfl rfl rfl (by decide +kernel) ⟨Nat.le_of_ble_eq_true rfl, Nat.le_of_ble_eq_true rfl⟩) hK hP hD hS hA hl.1 rfl rfl (Nat.le_of_ble_eq_true rfl) dX0_learn_2 (Nat.zero_le _) (Nat.zero_le _) (fun H locs hP hS => ?_)
  have hlt := (fnd_lt hf).1
  rw [hf]
  refine W.eq (g2 := F0 m 5 ls [.int (nI i)]) rfl ?_
  refine lv_istore (lv' := [(5, .int (nI i)), (0, .ref (h 0)), (1, .long k), (3, .long d)]) hx hb dX0_learn_5 hl (by decide) rfl (fun ls hl => ?_)
  refine lv_iload hx hb dX0_learn_7 (lv_at hl 0 rfl) ?_
  refine lv_iconst (v := -1) hx hb dX0_learn_9 (by decide) ?_
  refine lv_icmp_ne (tgt := 32) hx hb dX0_learn_10 (by decide) (fun _ => ?_) (fun c => absurd c (optI_none (by omega)))
  refine lv_iload hx hb dX0_learn_32 (lv_at hl 0 rfl) ?_
  refine lv_iconst (v := -1) hx hb dX0_learn_34 (by decide) ?_
  refine lv_icmp_eq (tgt := 50) hx hb dX0_learn_35 (by decide) (fun c => absurd c (optI_none (by omega))) (fun _ => ?_)
  refine lv_aload_n hx hb dX0_learn_38 rfl (lv_at hl 1 rfl) ?_
  refine va_get (D := (dC, dI)) (ci := 0) (v := .ref (h 8)) (C := RX0) (T := TX0) (N := 14) hx hb htg inX0 (fs := fsBJ h σ) hown hK hP 0 rfl rfl 11 (by decide) (htg _ fX0_38) (fun _ h9 => h9) rfl dX0_learn_39 ?_
  refine lv_iload hx hb dX0_learn_42 (lv_at hl 0 rfl) ?_
  refine xr_lald (f := jgKD σ) (i := i) hx hb hK hP 8 1 rfl rfl (by omega) (by decide) dX0_learn_44 ?_
  refine lv_lload_n hx hb dX0_learn_45 rfl (lv_at hl 3 rfl) ?_
  refine xr_lcmp_eq (tgt := 67) hx hb dX0_learn_46 dX0_learn_47 (by decide) (fun c => absurd c hs) (fun _ => ?_)
  refine lv_aload_n hx hb dX0_learn_50 rfl (lv_at hl 1 rfl) ?_
  refine lv_bipush (v := nI 16) hx hb dX0_learn_51 (by decide) ?_
  exact bj_tv hlocks hout (As := [.int (nI 16)]) (rest := []) (n := 1) ⟨hx, hb, hml, hown, htg⟩ (c_demandRoomT l hl0 σ 16 (by omega) (by omega) (by omega)) (cwV 1 htg gX0_73 rfl rfl rfl (by decide +kernel) ⟨(Nat.le_of_ble_eq_true rfl), (Nat.le_of_ble_eq_true rfl)⟩) hK hP hD hS hH hl.1 rfl rfl (Nat.le_of_ble_eq_true rfl) dX0_learn_53 (Nat.le_of_ble_eq_true rfl) (Nat.le_of_ble_eq_true rfl)
set_option maxRecDepth 100000 in
set_option maxHeartbeats 4000000 in
theorem c_pinT (l : Launch) (hl0 : l.stackTraces = false) (σ : BJ) (k : Int32) (d : Int64) (h0 : k < 0 ∨ ¬ k < nI 4) : tB l yX0_pin wsX0_pin ({ frames := 7, cells := 1, slots := 6, locals := 140 } : Room) TXL σ [.int k, .long d] "java/lang/IllegalArgumentException" := by
  intro dC dI cI cJ h sz
  refine MetT.ofW (cc := cX0_pin) (maxL := 4) (ret := none) (by decide) rfl ?_
  intro p e s m args below meth c s₁ B hml hv
  obtain ⟨rfl, ⟨hsz, hP, hK, hD⟩, hH⟩ := hv
  have hx := B.exec
  have hb := B.bytes
  have hr := B.returns
  have hts := atoms_spec (ws := wsX0_pin) B.pre
  have hout : c.exceptionTable.isEmpty = true := B.noHandlers (hts _ List.mem_cons_self)
  have htg : ∀ w ∈ GW, w.before _ s = true := fun w h => hts w (List.mem_cons_of_mem _ h)
  have hown : s.vm.findClass RX0 = some m.cls := findClass_of_methodNamed B.named
  have hlocks := B.notSynchronized
  subst hsz
  have hA : ∀ q : Nat, s.heap.size ≤ q → (fun q => s.heap.size ≤ q) q := fun _ h => h
  have hS : va_S (fun q => s.heap.size ≤ q) s.heap s.heap [] := va_S.rf
  have hl := lv_entry [.ref (h 0), .int k, .long d] (n := 4) (Nat.le_of_ble_eq_true rfl)
  rw [lg_entry_eq]
  generalize (lg_sl [.ref (h 0), .int k, .long d] ++ List.replicate (4 - (lg_sl [.ref (h 0), .int k, .long d]).length) Slot.unset).toArray = ls at hl ⊢
  have hl : lv_has ls 4 [(0, .ref (h 0)), (1, .int k), (2, .long d)] := hl
  have hP : va_P (dC, dI) vwCl (wBJ cI cJ h σ) s.heap := hP
  refine lv_iload_n hx hb dX0_pin_0 rfl (lv_at hl 1 rfl) ?_
  refine lv_if_lt (tgt := 9) hx hb dX0_pin_1 (by decide) (fun c1 => ?_) (fun c1 => ?_)
  · exact tx_throwS hx hb hl0 hlocks hout (hl.1.trans hml.symm) (own := RX0) (E := "java/lang/IllegalArgumentException") (text := "there is no such pin") (sup := "java/lang/RuntimeException") (names := ["java/lang/Exception"]) (ik := 55) (is := 115) (ic := 59) (ix := 7) (rx := prog_5_method_2_code) hown (by decide +kernel) (by decide +kernel) (by decide +kernel) (by decide +kernel) (by decide +kernel) (by decide +kernel) (by decide +kernel) hH (txAll_59 htg) (htg _ hX0_55) (htg _ z_IllegalArgumentException) (htg _ n_IllegalArgumentException) (by decide +kernel) hS dX0_pin_9 dX0_pin_12 dX0_pin_13 dX0_pin_15 dX0_pin_18 (Nat.le_of_ble_eq_true rfl) (Nat.le_of_ble_eq_true rfl) (Nat.le_of_ble_eq_true rfl) (Nat.le_of_ble_eq_true rfl) (Nat.le_of_ble_eq_true rfl) (Nat.le_of_ble_eq_true rfl)
  · refine lv_iload_n hx hb dX0_pin_4 rfl (lv_at hl 1 rfl) ?_
    refine lv_iconst (v := nI 4) hx hb dX0_pin_5 (by decide) ?_
    refine lv_icmp_lt (tgt := 19) hx hb dX0_pin_6 (by decide) (fun c6 => absurd c6 (by exact h0.resolve_left c1)) (fun c6 => ?_)
    exact tx_throwS hx hb hl0 hlocks hout (hl.1.trans hml.symm) (own := RX0) (E := "java/lang/IllegalArgumentException") (text := "there is no such pin") (sup := "java/lang/RuntimeException") (names := ["java/lang/Exception"]) (ik := 55) (is := 115) (ic := 59) (ix := 7) (rx := prog_5_method_2_code) hown (by decide +kernel) (by decide +kernel) (by decide +kernel) (by decide +kernel) (by decide +kernel) (by decide +kernel) (by decide +kernel) hH (txAll_59 htg) (htg _ hX0_55) (htg _ z_IllegalArgumentException) (htg _ n_IllegalArgumentException) (by decide +kernel) hS dX0_pin_9 dX0_pin_12 dX0_pin_13 dX0_pin_15 dX0_pin_18 (Nat.le_of_ble_eq_true rfl) (Nat.le_of_ble_eq_true rfl) (Nat.le_of_ble_eq_true rfl) (Nat.le_of_ble_eq_true rfl) (Nat.le_of_ble_eq_true rfl) (Nat.le_of_ble_eq_true rfl)
set_option maxRecDepth 100000 in
set_option maxHeartbeats 4000000 in
theorem c_tagT (l : Launch) (hl0 : l.stackTraces = false) (σ : BJ) (t : Int32) (ht : isTg t = false) : tB l yX0_tag wsX0_tag ({ frames := 7, cells := 1, slots := 6, locals := 140 } : Room) TXL σ [.int t] "java/lang/IllegalArgumentException" := by
  intro dC dI cI cJ h sz
  refine MetT.ofW (cc := cX0_tag) (maxL := 3) (ret := (some .long)) (by decide) rfl ?_
  intro p e s m args below meth c s₁ B hml hv
  obtain ⟨rfl, ⟨hsz, hP, hK, hD⟩, hH⟩ := hv
  have hx := B.exec
  have hb := B.bytes
  have hr := B.returns
  have hts := atoms_spec (ws := wsX0_tag) B.pre
  have hout : c.exceptionTable.isEmpty = true := B.noHandlers (hts _ List.mem_cons_self)
  have htg : ∀ w ∈ GW, w.before _ s = true := fun w h => hts w (List.mem_cons_of_mem _ h)
  have hown : s.vm.findClass RX0 = some m.cls := findClass_of_methodNamed B.named
  have hlocks := B.notSynchronized
  subst hsz
  have hA : ∀ q : Nat, s.heap.size ≤ q → (fun q => s.heap.size ≤ q) q := fun _ h => h
  have hS : va_S (fun q => s.heap.size ≤ q) s.heap s.heap [] := va_S.rf
  have hl := lv_entry [.ref (h 0), .int t] (n := 3) (Nat.le_of_ble_eq_true rfl)
  rw [lg_entry_eq]
  generalize (lg_sl [.ref (h 0), .int t] ++ List.replicate (3 - (lg_sl [.ref (h 0), .int t]).length) Slot.unset).toArray = ls at hl ⊢
  have hl : lv_has ls 3 [(0, .ref (h 0)), (1, .int t)] := hl
  have hP : va_P (dC, dI) vwCl (wBJ cI cJ h σ) s.heap := hP
  refine lv_iload_n hx hb dX0_tag_0 rfl (lv_at hl 1 rfl) ?_
  exact tx_runS (As := [.int t]) (rest := []) ⟨hx, hb, hml, hown, htg⟩ (c_demandTagT l hl0 t ht _) (va_cwS 1 htg gX0_85 rfl rfl rfl (by decide +kernel) ⟨(Nat.le_of_ble_eq_true rfl), (Nat.le_of_ble_eq_true rfl)⟩) ⟨fun a U g mk q => ⟨q.1, q.2.1, q.2.2.calling g mk a⟩, fun U hU hW => ⟨rfl, congrArg Array.size hU, hH.keep hW (fun q hq => by rw [hU] <;> exact hS.2.1 q hq (Nat.not_le.mpr hq))⟩⟩ rfl rfl hl.1 rfl (lv_room (Nat.le_of_ble_eq_true rfl)) dX0_tag_1 ⟨(Nat.le_of_ble_eq_true rfl), (Nat.le_of_ble_eq_true rfl)⟩ (fun x st t H1 L h0 ht hvm hq hL => tx_thru hlocks hout hS h0 ht hvm hq hL)
set_option maxRecDepth 100000 in
set_option maxHeartbeats 4000000 in
theorem c_lookT (l : Launch) (hl0 : l.stackTraces = false) (σ : BJ) (k : Int64) (hc : jgKc σ ≤ 16) (hf : fnd (jgKS σ) k (jgKc σ) = none) : tB l yX0_look wsX0_look ({ frames := 7, cells := 1, slots := 6, locals := 140 } : Room) TXL σ [.long k] "java/util/NoSuchElementException" := by
  intro dC dI cI cJ h sz
  refine MetT.ofW (cc := cX0_look) (maxL := 4) (ret := (some .long)) (by decide) rfl ?_
  intro p e s m args below meth c s₁ B hml hv
  obtain ⟨rfl, ⟨hsz, hP, hK, hD⟩, hH⟩ := hv
  have hx := B.exec
  have hb := B.bytes
  have hr := B.returns
  have hts := atoms_spec (ws := wsX0_look) B.pre
  have hout : c.exceptionTable.isEmpty = true := B.noHandlers (hts _ List.mem_cons_self)
  have htg : ∀ w ∈ GW, w.before _ s = true := fun w h => hts w (List.mem_cons_of_mem _ h)
  have hown : s.vm.findClass RX0 = some m.cls := findClass_of_methodNamed B.named
  have hlocks := B.notSynchronized
  subst hsz
  have hA : ∀ q : Nat, s.heap.size ≤ q → (fun q => s.heap.size ≤ q) q := fun _ h => h
  have hS : va_S (fun q => s.heap.size ≤ q) s.heap s.heap [] := va_S.rf
  have hl := lv_entry [.ref (h 0), .long k] (n := 4) (Nat.le_of_ble_eq_true rfl)
  rw [lg_entry_eq]
  generalize (lg_sl [.ref (h 0), .long k] ++ List.replicate (4 - (lg_sl [.ref (h 0), .long k]).length) Slot.unset).toArray = ls at hl ⊢
  have hl : lv_has ls 4 [(0, .ref (h 0)), (1, .long k)] := hl
  have hP : va_P (dC, dI) vwCl (wBJ cI cJ h σ) s.heap := hP
  refine lv_aload_n hx hb dX0_look_0 rfl (lv_at hl 0 rfl) ?_
  refine lv_lload_n hx hb dX0_look_1 rfl (lv_at hl 1 rfl) ?_
  refine bj_ri (As := [.long k]) (rest := []) (n := 1) ⟨hx, hb, hml, hown, htg⟩ (c_findKey l σ k (hc)) (cwV 1 htg gX0_103 rfl rfl rfl (by decide +kernel) ⟨Nat.le_of_ble_eq_true rfl, Nat.le_of_ble_eq_true rfl⟩) hK hP hD hS hA hl.1 rfl rfl (Nat.le_of_ble_eq_true rfl) dX0_look_2 (Nat.zero_le _) (Nat.zero_le _) (fun H locs hP hS => ?_)
  rw [hf]
  refine W.eq (g2 := F0 m 5 ls [.int (-1)]) rfl ?_
  refine lv_istore_n (lv' := [(3, .int (-1)), (0, .ref (h 0)), (1, .long k)]) hx hb dX0_look_5 rfl hl (by decide) rfl (fun ls hl => ?_)
  refine lv_iload_n hx hb dX0_look_6 rfl (lv_at hl 0 rfl) ?_
  refine lv_iconst (v := -1) hx hb dX0_look_7 (by decide) ?_
  refine lv_icmp_ne (tgt := 21) hx hb dX0_look_8 (by decide) (fun c => absurd rfl c) (fun _ => ?_)
  exact tx_throwS hx hb hl0 hlocks hout (hl.1.trans hml.symm) (own := RX0) (E := "java/util/NoSuchElementException") (text := "there is no such key") (sup := "java/lang/RuntimeException") (names := ["java/lang/Exception"]) (ik := 88) (is := 117) (ic := 92) (ix := 13) (rx := prog_13_method_4_code) hown (by decide +kernel) (by decide +kernel) (by decide +kernel) (by decide +kernel) (by decide +kernel) (by decide +kernel) (by decide +kernel) hH (txAll_92 htg) (htg _ hX0_88) (htg _ z_NoSuchElementException) (htg _ n_NoSuchElementException) (by decide +kernel) hS dX0_look_11 dX0_look_14 dX0_look_15 dX0_look_17 dX0_look_20 (Nat.le_of_ble_eq_true rfl) (Nat.le_of_ble_eq_true rfl) (Nat.le_of_ble_eq_true rfl) (Nat.le_of_ble_eq_true rfl) (Nat.le_of_ble_eq_true rfl) (Nat.le_of_ble_eq_true rfl)
set_option maxRecDepth 100000 in
set_option maxHeartbeats 4000000 in
theorem c_byteOfT1 (l : Launch) (hl0 : l.stackTraces = false) (σ : BJ) (d : Int64) (k : Int32) (hc : jgBc σ ≤ 20) (hf : fnd (jgBD σ) d (jgBc σ) = none) : tB l yX0_byteOf wsX0_byteOf ({ frames := 7, cells := 1, slots := 6, locals := 140 } : Room) TXL σ [.long d, .int k] "java/util/NoSuchElementException" := by
  intro dC dI cI cJ h sz
  refine MetT.ofW (cc := cX0_byteOf) (maxL := 5) (ret := (some .int)) (by decide) rfl ?_
  intro p e s m args below meth c s₁ B hml hv
  obtain ⟨rfl, ⟨hsz, hP, hK, hD⟩, hH⟩ := hv
  have hx := B.exec
  have hb := B.bytes
  have hr := B.returns
  have hts := atoms_spec (ws := wsX0_byteOf) B.pre
  have hout : c.exceptionTable.isEmpty = true := B.noHandlers (hts _ List.mem_cons_self)
  have htg : ∀ w ∈ GW, w.before _ s = true := fun w h => hts w (List.mem_cons_of_mem _ h)
  have hown : s.vm.findClass RX0 = some m.cls := findClass_of_methodNamed B.named
  have hlocks := B.notSynchronized
  subst hsz
  have hA : ∀ q : Nat, s.heap.size ≤ q → (fun q => s.heap.size ≤ q) q := fun _ h => h
  have hS : va_S (fun q => s.heap.size ≤ q) s.heap s.heap [] := va_S.rf
  have hl := lv_entry [.ref (h 0), .long d, .int k] (n := 5) (Nat.le_of_ble_eq_true rfl)
  rw [lg_entry_eq]
  generalize (lg_sl [.ref (h 0), .long d, .int k] ++ List.replicate (5 - (lg_sl [.ref (h 0), .long d, .int k]).length) Slot.unset).toArray = ls at hl ⊢
  have hl : lv_has ls 5 [(0, .ref (h 0)), (1, .long d), (3, .int k)] := hl
  have hP : va_P (dC, dI) vwCl (wBJ cI cJ h σ) s.heap := hP
  refine lv_aload_n hx hb dX0_byteOf_0 rfl (lv_at hl 0 rfl) ?_
  refine lv_lload_n hx hb dX0_byteOf_1 rfl (lv_at hl 1 rfl) ?_
  refine bj_ri (As := [.long d]) (rest := []) (n := 1) ⟨hx, hb, hml, hown, htg⟩ (c_findBlob l σ d (hc)) (cwV 1 htg gX0_64 rfl rfl rfl (by decide +kernel) ⟨Nat.le_of_ble_eq_true rfl, Nat.le_of_ble_eq_true rfl⟩) hK hP hD hS hA hl.1 rfl rfl (Nat.le_of_ble_eq_true rfl) dX0_byteOf_2 (Nat.zero_le _) (Nat.zero_le _) (fun H locs hP hS => ?_)
  rw [hf]
  refine W.eq (g2 := F0 m 5 ls [.int (-1)]) rfl ?_
  refine lv_istore (lv' := [(4, .int (-1)), (0, .ref (h 0)), (1, .long d), (3, .int k)]) hx hb dX0_byteOf_5 hl (by decide) rfl (fun ls hl => ?_)
  refine lv_iload hx hb dX0_byteOf_7 (lv_at hl 0 rfl) ?_
  refine lv_iconst (v := -1) hx hb dX0_byteOf_9 (by decide) ?_
  refine lv_icmp_ne (tgt := 23) hx hb dX0_byteOf_10 (by decide) (fun c => absurd rfl c) (fun _ => ?_)
  exact tx_throwS hx hb hl0 hlocks hout (hl.1.trans hml.symm) (own := RX0) (E := "java/util/NoSuchElementException") (text := "no blob has this digest") (sup := "java/lang/RuntimeException") (names := ["java/lang/Exception"]) (ik := 88) (is := 90) (ic := 92) (ix := 13) (rx := prog_13_method_4_code) hown (by decide +kernel) (by decide +kernel) (by decide +kernel) (by decide +kernel) (by decide +kernel) (by decide +kernel) (by decide +kernel) hH (txAll_92 htg) (htg _ hX0_88) (htg _ z_NoSuchElementException) (htg _ n_NoSuchElementException) (by decide +kernel) hS dX0_byteOf_13 dX0_byteOf_16 dX0_byteOf_17 dX0_byteOf_19 dX0_byteOf_22 (Nat.le_of_ble_eq_true rfl) (Nat.le_of_ble_eq_true rfl) (Nat.le_of_ble_eq_true rfl) (Nat.le_of_ble_eq_true rfl) (Nat.le_of_ble_eq_true rfl) (Nat.le_of_ble_eq_true rfl)
set_option maxRecDepth 100000 in
set_option maxHeartbeats 4000000 in
theorem c_byteOfT2 (l : Launch) (hl0 : l.stackTraces = false) (σ : BJ) (d : Int64) (k : Int32) (b : Nat) (hc : jgBc σ ≤ 20) (hf : fnd (jgBD σ) d (jgBc σ) = some b) (h0 : k < 0 ∨ ¬ k < jgBL σ b) : tB l yX0_byteOf wsX0_byteOf ({ frames := 7, cells := 1, slots := 6, locals := 140 } : Room) TXL σ [.long d, .int k] "java/lang/IndexOutOfBoundsException" := by
  intro dC dI cI cJ h sz
  refine MetT.ofW (cc := cX0_byteOf) (maxL := 5) (ret := (some .int)) (by decide) rfl ?_
  intro p e s m args below meth c s₁ B hml hv
  obtain ⟨rfl, ⟨hsz, hP, hK, hD⟩, hH⟩ := hv
  have hx := B.exec
  have hb := B.bytes
  have hr := B.returns
  have hts := atoms_spec (ws := wsX0_byteOf) B.pre
  have hout : c.exceptionTable.isEmpty = true := B.noHandlers (hts _ List.mem_cons_self)
  have htg : ∀ w ∈ GW, w.before _ s = true := fun w h => hts w (List.mem_cons_of_mem _ h)
  have hown : s.vm.findClass RX0 = some m.cls := findClass_of_methodNamed B.named
  have hlocks := B.notSynchronized
  subst hsz
  have hA : ∀ q : Nat, s.heap.size ≤ q → (fun q => s.heap.size ≤ q) q := fun _ h => h
  have hS : va_S (fun q => s.heap.size ≤ q) s.heap s.heap [] := va_S.rf
  have hl := lv_entry [.ref (h 0), .long d, .int k] (n := 5) (Nat.le_of_ble_eq_true rfl)
  rw [lg_entry_eq]
  generalize (lg_sl [.ref (h 0), .long d, .int k] ++ List.replicate (5 - (lg_sl [.ref (h 0), .long d, .int k]).length) Slot.unset).toArray = ls at hl ⊢
  have hl : lv_has ls 5 [(0, .ref (h 0)), (1, .long d), (3, .int k)] := hl
  have hP : va_P (dC, dI) vwCl (wBJ cI cJ h σ) s.heap := hP
  refine lv_aload_n hx hb dX0_byteOf_0 rfl (lv_at hl 0 rfl) ?_
  refine lv_lload_n hx hb dX0_byteOf_1 rfl (lv_at hl 1 rfl) ?_
  refine bj_ri (As := [.long d]) (rest := []) (n := 1) ⟨hx, hb, hml, hown, htg⟩ (c_findBlob l σ d (hc)) (cwV 1 htg gX0_64 rfl rfl rfl (by decide +kernel) ⟨Nat.le_of_ble_eq_true rfl, Nat.le_of_ble_eq_true rfl⟩) hK hP hD hS hA hl.1 rfl rfl (Nat.le_of_ble_eq_true rfl) dX0_byteOf_2 (Nat.zero_le _) (Nat.zero_le _) (fun H locs hP hS => ?_)
  have hlt := (fnd_lt hf).1
  rw [hf]
  refine W.eq (g2 := F0 m 5 ls [.int (nI b)]) rfl ?_
  refine lv_istore (lv' := [(4, .int (nI b)), (0, .ref (h 0)), (1, .long d), (3, .int k)]) hx hb dX0_byteOf_5 hl (by decide) rfl (fun ls hl => ?_)
  refine lv_iload hx hb dX0_byteOf_7 (lv_at hl 0 rfl) ?_
  refine lv_iconst (v := -1) hx hb dX0_byteOf_9 (by decide) ?_
  refine lv_icmp_ne (tgt := 23) hx hb dX0_byteOf_10 (by decide) (fun _ => ?_) (fun c => absurd c (optI_none (by omega)))
  refine lv_iload_n hx hb dX0_byteOf_23 rfl (lv_at hl 3 rfl) ?_
  refine lv_if_lt (tgt := 38) hx hb dX0_byteOf_24 (by decide) (fun c24 => ?_) (fun c24 => ?_)
  · exact tx_throwS hx hb hl0 hlocks hout (hl.1.trans hml.symm) (own := RX0) (E := "java/lang/IndexOutOfBoundsException") (text := "the blob has no such byte") (sup := "java/lang/RuntimeException") (names := ["java/lang/Exception"]) (ik := 119) (is := 121) (ic := 123) (ix := 7) (rx := prog_6_method_2_code) hown (by decide +kernel) (by decide +kernel) (by decide +kernel) (by decide +kernel) (by decide +kernel) (by decide +kernel) (by decide +kernel) hH (txAll_123 htg) (htg _ hX0_119) (htg _ z_IndexOutOfBoundsException) (htg _ n_IndexOutOfBoundsException) (by decide +kernel) hS dX0_byteOf_38 dX0_byteOf_41 dX0_byteOf_42 dX0_byteOf_44 dX0_byteOf_47 (Nat.le_of_ble_eq_true rfl) (Nat.le_of_ble_eq_true rfl) (Nat.le_of_ble_eq_true rfl) (Nat.le_of_ble_eq_true rfl) (Nat.le_of_ble_eq_true rfl) (Nat.le_of_ble_eq_true rfl)
  · refine lv_iload_n hx hb dX0_byteOf_27 rfl (lv_at hl 3 rfl) ?_
    refine lv_aload_n hx hb dX0_byteOf_28 rfl (lv_at hl 1 rfl) ?_
    refine va_get (D := (dC, dI)) (ci := 0) (v := .ref (h 5)) (C := RX0) (T := TX0) (N := 14) hx hb htg inX0 (fs := fsBJ h σ) hown hK hP 0 rfl rfl 7 (by decide) (htg _ fX0_23) (fun _ h9 => h9) rfl dX0_byteOf_29 ?_
    refine lv_iload hx hb dX0_byteOf_32 (lv_at hl 0 rfl) ?_
    refine xr_iald (f := jgBL σ) (i := b) hx hb hK hP 5 0 rfl rfl (by omega) (by decide) dX0_byteOf_34 ?_
    refine lv_icmp_lt (tgt := 48) hx hb dX0_byteOf_35 (by decide) (fun c35 => absurd c35 (by exact h0.resolve_left c24)) (fun c35 => ?_)
    exact tx_throwS hx hb hl0 hlocks hout (hl.1.trans hml.symm) (own := RX0) (E := "java/lang/IndexOutOfBoundsException") (text := "the blob has no such byte") (sup := "java/lang/RuntimeException") (names := ["java/lang/Exception"]) (ik := 119) (is := 121) (ic := 123) (ix := 7) (rx := prog_6_method_2_code) hown (by decide +kernel) (by decide +kernel) (by decide +kernel) (by decide +kernel) (by decide +kernel) (by decide +kernel) (by decide +kernel) hH (txAll_123 htg) (htg _ hX0_119) (htg _ z_IndexOutOfBoundsException) (htg _ n_IndexOutOfBoundsException) (by decide +kernel) hS dX0_byteOf_38 dX0_byteOf_41 dX0_byteOf_42 dX0_byteOf_44 dX0_byteOf_47 (Nat.le_of_ble_eq_true rfl) (Nat.le_of_ble_eq_true rfl) (Nat.le_of_ble_eq_true rfl) (Nat.le_of_ble_eq_true rfl) (Nat.le_of_ble_eq_true rfl) (Nat.le_of_ble_eq_true rfl)
set_option maxRecDepth 100000 in
set_option maxHeartbeats 4000000 in
theorem c_countT (l : Launch) (hl0 : l.stackTraces = false) (σ : BJ) (v : Int32) (h0 : v.toInt < 0 ∨ 3 < v.toInt) : tB l yX0_count wsX0_count ({ frames := 7, cells := 1, slots := 6, locals := 140 } : Room) TXL σ [.int v] "java/lang/IllegalArgumentException" := by
  intro dC dI cI cJ h sz
  refine MetT.ofW (cc := cX0_count) (maxL := 2) (ret := (some .int)) (by decide) rfl ?_
  intro p e s m args below meth c s₁ B hml hv
  obtain ⟨rfl, ⟨hsz, hP, hK, hD⟩, hH⟩ := hv
  have hx := B.exec
  have hb := B.bytes
  have hr := B.returns
  have hts := atoms_spec (ws := wsX0_count) B.pre
  have hout : c.exceptionTable.isEmpty = true := B.noHandlers (hts _ List.mem_cons_self)
  have htg : ∀ w ∈ GW, w.before _ s = true := fun w h => hts w (List.mem_cons_of_mem _ h)
  have hown : s.vm.findClass RX0 = some m.cls := findClass_of_methodNamed B.named
  have hlocks := B.notSynchronized
  subst hsz
  have hA : ∀ q : Nat, s.heap.size ≤ q → (fun q => s.heap.size ≤ q) q := fun _ h => h
  have hS : va_S (fun q => s.heap.size ≤ q) s.heap s.heap [] := va_S.rf
  have hl := lv_entry [.ref (h 0), .int v] (n := 2) (Nat.le_of_ble_eq_true rfl)
  rw [lg_entry_eq]
  generalize (lg_sl [.ref (h 0), .int v] ++ List.replicate (2 - (lg_sl [.ref (h 0), .int v]).length) Slot.unset).toArray = ls at hl ⊢
  have hl : lv_has ls 2 [(0, .ref (h 0)), (1, .int v)] := hl
  have hP : va_P (dC, dI) vwCl (wBJ cI cJ h σ) s.heap := hP
  refine lv_iload_n hx hb dX0_count_0 rfl (lv_at hl 1 rfl) ?_
  refine lv_tableOut (tgt := 52) hx hb dX0_count_1 h0 (by decide) ?_
  exact tx_throwS hx hb hl0 hlocks hout (hl.1.trans hml.symm) (own := RX0) (E := "java/lang/IllegalArgumentException") (text := "there is no such count") (sup := "java/lang/RuntimeException") (names := ["java/lang/Exception"]) (ik := 55) (is := 130) (ic := 59) (ix := 7) (rx := prog_5_method_2_code) hown (by decide +kernel) (by decide +kernel) (by decide +kernel) (by decide +kernel) (by decide +kernel) (by decide +kernel) (by decide +kernel) hH (txAll_59 htg) (htg _ hX0_55) (htg _ z_IllegalArgumentException) (htg _ n_IllegalArgumentException) (by decide +kernel) hS dX0_count_52 dX0_count_55 dX0_count_56 dX0_count_58 dX0_count_61 (Nat.le_of_ble_eq_true rfl) (Nat.le_of_ble_eq_true rfl) (Nat.le_of_ble_eq_true rfl) (Nat.le_of_ble_eq_true rfl) (Nat.le_of_ble_eq_true rfl) (Nat.le_of_ble_eq_true rfl)
set_option maxRecDepth 100000 in
set_option maxHeartbeats 4000000 in
theorem c_journalT (l : Launch) (hl0 : l.stackTraces = false) (σ : BJ) (k : Int32) (h0 : k < 0 ∨ ¬ k < nI (jgWc σ)) : tB l yX0_journal wsX0_journal ({ frames := 7, cells := 1, slots := 6, locals := 140 } : Room) TXL σ [.int k] "java/lang/IndexOutOfBoundsException" := by
  intro dC dI cI cJ h sz
  refine MetT.ofW (cc := cX0_journal) (maxL := 2) (ret := (some .int)) (by decide) rfl ?_
  intro p e s m args below meth c s₁ B hml hv
  obtain ⟨rfl, ⟨hsz, hP, hK, hD⟩, hH⟩ := hv
  have hx := B.exec
  have hb := B.bytes
  have hr := B.returns
  have hts := atoms_spec (ws := wsX0_journal) B.pre
  have hout : c.exceptionTable.isEmpty = true := B.noHandlers (hts _ List.mem_cons_self)
  have htg : ∀ w ∈ GW, w.before _ s = true := fun w h => hts w (List.mem_cons_of_mem _ h)
  have hown : s.vm.findClass RX0 = some m.cls := findClass_of_methodNamed B.named
  have hlocks := B.notSynchronized
  subst hsz
  have hA : ∀ q : Nat, s.heap.size ≤ q → (fun q => s.heap.size ≤ q) q := fun _ h => h
  have hS : va_S (fun q => s.heap.size ≤ q) s.heap s.heap [] := va_S.rf
  have hl := lv_entry [.ref (h 0), .int k] (n := 2) (Nat.le_of_ble_eq_true rfl)
  rw [lg_entry_eq]
  generalize (lg_sl [.ref (h 0), .int k] ++ List.replicate (2 - (lg_sl [.ref (h 0), .int k]).length) Slot.unset).toArray = ls at hl ⊢
  have hl : lv_has ls 2 [(0, .ref (h 0)), (1, .int k)] := hl
  have hP : va_P (dC, dI) vwCl (wBJ cI cJ h σ) s.heap := hP
  refine lv_iload_n hx hb dX0_journal_0 rfl (lv_at hl 1 rfl) ?_
  refine lv_if_lt (tgt := 12) hx hb dX0_journal_1 (by decide) (fun c1 => ?_) (fun c1 => ?_)
  · exact tx_throwS hx hb hl0 hlocks hout (hl.1.trans hml.symm) (own := RX0) (E := "java/lang/IndexOutOfBoundsException") (text := "the journal has no such byte") (sup := "java/lang/RuntimeException") (names := ["java/lang/Exception"]) (ik := 119) (is := 132) (ic := 123) (ix := 7) (rx := prog_6_method_2_code) hown (by decide +kernel) (by decide +kernel) (by decide +kernel) (by decide +kernel) (by decide +kernel) (by decide +kernel) (by decide +kernel) hH (txAll_123 htg) (htg _ hX0_119) (htg _ z_IndexOutOfBoundsException) (htg _ n_IndexOutOfBoundsException) (by decide +kernel) hS dX0_journal_12 dX0_journal_15 dX0_journal_16 dX0_journal_18 dX0_journal_21 (Nat.le_of_ble_eq_true rfl) (Nat.le_of_ble_eq_true rfl) (Nat.le_of_ble_eq_true rfl) (Nat.le_of_ble_eq_true rfl) (Nat.le_of_ble_eq_true rfl) (Nat.le_of_ble_eq_true rfl)
  · refine lv_iload_n hx hb dX0_journal_4 rfl (lv_at hl 1 rfl) ?_
    refine lv_aload_n hx hb dX0_journal_5 rfl (lv_at hl 0 rfl) ?_
    refine va_get (D := (dC, dI)) (ci := 0) (v := .int (nI (jgWc σ))) (C := RX0) (T := TX0) (N := 14) hx hb htg inX0 (fs := fsBJ h σ) hown hK hP 0 rfl rfl 3 (by decide) (htg _ fX0_124) (fun _ h9 => h9) rfl dX0_journal_6 ?_
    refine lv_icmp_lt (tgt := 22) hx hb dX0_journal_9 (by decide) (fun c9 => absurd c9 (by exact h0.resolve_left c1)) (fun c9 => ?_)
    exact tx_throwS hx hb hl0 hlocks hout (hl.1.trans hml.symm) (own := RX0) (E := "java/lang/IndexOutOfBoundsException") (text := "the journal has no such byte") (sup := "java/lang/RuntimeException") (names := ["java/lang/Exception"]) (ik := 119) (is := 132) (ic := 123) (ix := 7) (rx := prog_6_method_2_code) hown (by decide +kernel) (by decide +kernel) (by decide +kernel) (by decide +kernel) (by decide +kernel) (by decide +kernel) (by decide +kernel) hH (txAll_123 htg) (htg _ hX0_119) (htg _ z_IndexOutOfBoundsException) (htg _ n_IndexOutOfBoundsException) (by decide +kernel) hS dX0_journal_12 dX0_journal_15 dX0_journal_16 dX0_journal_18 dX0_journal_21 (Nat.le_of_ble_eq_true rfl) (Nat.le_of_ble_eq_true rfl) (Nat.le_of_ble_eq_true rfl) (Nat.le_of_ble_eq_true rfl) (Nat.le_of_ble_eq_true rfl) (Nat.le_of_ble_eq_true rfl)
set_option maxRecDepth 100000 in
set_option maxHeartbeats 4000000 in
theorem c_crashT (l : Launch) (hl0 : l.stackTraces = false) (σ : BJ) (n : Int32) (sp : Int32) (h0 : n < 0 ∨ ¬ n ≤ nI (jgWc σ - jgSc σ)) (hsc : jgSc σ ≤ jgWc σ) : tB l yX0_crash wsX0_crash ({ frames := 7, cells := 1, slots := 6, locals := 140 } : Room) TXL σ [.int n, .int sp] "java/lang/IllegalArgumentException" := by
  intro dC dI cI cJ h sz
  refine MetT.ofW (cc := cX0_crash) (maxL := 3) (ret := (some .int)) (by decide) rfl ?_
  intro p e s m args below meth c s₁ B hml hv
  obtain ⟨rfl, ⟨hsz, hP, hK, hD⟩, hH⟩ := hv
  have hx := B.exec
  have hb := B.bytes
  have hr := B.returns
  have hts := atoms_spec (ws := wsX0_crash) B.pre
  have hout : c.exceptionTable.isEmpty = true := B.noHandlers (hts _ List.mem_cons_self)
  have htg : ∀ w ∈ GW, w.before _ s = true := fun w h => hts w (List.mem_cons_of_mem _ h)
  have hown : s.vm.findClass RX0 = some m.cls := findClass_of_methodNamed B.named
  have hlocks := B.notSynchronized
  subst hsz
  have hA : ∀ q : Nat, s.heap.size ≤ q → (fun q => s.heap.size ≤ q) q := fun _ h => h
  have hS : va_S (fun q => s.heap.size ≤ q) s.heap s.heap [] := va_S.rf
  have hl := lv_entry [.ref (h 0), .int n, .int sp] (n := 3) (Nat.le_of_ble_eq_true rfl)
  rw [lg_entry_eq]
  generalize (lg_sl [.ref (h 0), .int n, .int sp] ++ List.replicate (3 - (lg_sl [.ref (h 0), .int n, .int sp]).length) Slot.unset).toArray = ls at hl ⊢
  have hl : lv_has ls 3 [(0, .ref (h 0)), (1, .int n), (2, .int sp)] := hl
  have hP : va_P (dC, dI) vwCl (wBJ cI cJ h σ) s.heap := hP
  refine lv_iload_n hx hb dX0_crash_0 rfl (lv_at hl 1 rfl) ?_
  refine lv_if_lt (tgt := 17) hx hb dX0_crash_1 (by decide) (fun c1 => ?_) (fun c1 => ?_)
  · exact tx_throwS hx hb hl0 hlocks hout (hl.1.trans hml.symm) (own := RX0) (E := "java/lang/IllegalArgumentException") (text := "not so many bytes are unsynced") (sup := "java/lang/RuntimeException") (names := ["java/lang/Exception"]) (ik := 55) (is := 134) (ic := 59) (ix := 7) (rx := prog_5_method_2_code) hown (by decide +kernel) (by decide +kernel) (by decide +kernel) (by decide +kernel) (by decide +kernel) (by decide +kernel) (by decide +kernel) hH (txAll_59 htg) (htg _ hX0_55) (htg _ z_IllegalArgumentException) (htg _ n_IllegalArgumentException) (by decide +kernel) hS dX0_crash_17 dX0_crash_20 dX0_crash_21 dX0_crash_23 dX0_crash_26 (Nat.le_of_ble_eq_true rfl) (Nat.le_of_ble_eq_true rfl) (Nat.le_of_ble_eq_true rfl) (Nat.le_of_ble_eq_true rfl) (Nat.le_of_ble_eq_true rfl) (Nat.le_of_ble_eq_true rfl)
  · refine lv_iload_n hx hb dX0_crash_4 rfl (lv_at hl 1 rfl) ?_
    refine lv_aload_n hx hb dX0_crash_5 rfl (lv_at hl 0 rfl) ?_
    refine va_get (D := (dC, dI)) (ci := 0) (v := .int (nI (jgWc σ))) (C := RX0) (T := TX0) (N := 14) hx hb htg inX0 (fs := fsBJ h σ) hown hK hP 0 rfl rfl 3 (by decide) (htg _ fX0_124) (fun _ h9 => h9) rfl dX0_crash_6 ?_
    refine lv_aload_n hx hb dX0_crash_9 rfl (lv_at hl 0 rfl) ?_
    refine va_get (D := (dC, dI)) (ci := 0) (v := .int (nI (jgSc σ))) (C := RX0) (T := TX0) (N := 14) hx hb htg inX0 (fs := fsBJ h σ) hown hK hP 0 rfl rfl 4 (by decide) (htg _ fX0_127) (fun _ h9 => h9) rfl dX0_crash_10 ?_
    refine xr_isub hx hb (by omega) dX0_crash_13 ?_
    refine lv_icmp_le (tgt := 27) hx hb dX0_crash_14 (by decide) (fun c14 => absurd c14 (by exact h0.resolve_left c1)) (fun c14 => ?_)
    exact tx_throwS hx hb hl0 hlocks hout (hl.1.trans hml.symm) (own := RX0) (E := "java/lang/IllegalArgumentException") (text := "not so many bytes are unsynced") (sup := "java/lang/RuntimeException") (names := ["java/lang/Exception"]) (ik := 55) (is := 134) (ic := 59) (ix := 7) (rx := prog_5_method_2_code) hown (by decide +kernel) (by decide +kernel) (by decide +kernel) (by decide +kernel) (by decide +kernel) (by decide +kernel) (by decide +kernel) hH (txAll_59 htg) (htg _ hX0_55) (htg _ z_IllegalArgumentException) (htg _ n_IllegalArgumentException) (by decide +kernel) hS dX0_crash_17 dX0_crash_20 dX0_crash_21 dX0_crash_23 dX0_crash_26 (Nat.le_of_ble_eq_true rfl) (Nat.le_of_ble_eq_true rfl) (Nat.le_of_ble_eq_true rfl) (Nat.le_of_ble_eq_true rfl) (Nat.le_of_ble_eq_true rfl) (Nat.le_of_ble_eq_true rfl)
