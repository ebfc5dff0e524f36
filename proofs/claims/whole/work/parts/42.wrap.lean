theorem dL_type_0 : decode cL_type 0 = .ok (.aload_n 2, 1) := by decide +kernel
theorem dL_type_1 : decode cL_type 1 = .ok (.iconst 0, 1) := by decide +kernel
theorem dL_type_2 : decode cL_type 2 = .ok (.aload_n 0, 1) := by decide +kernel
theorem dL_type_3 : decode cL_type 3 = .ok (.iload_n 1, 1) := by decide +kernel
theorem dL_type_4 : decode cL_type 4 = .ok (.invokevirtual 7, 3) := by decide +kernel
theorem dL_type_7 : decode cL_type 7 = .ok (.i2l, 1) := by decide +kernel
theorem dL_type_8 : decode cL_type 8 = .ok (.lastore, 1) := by decide +kernel
theorem dL_type_9 : decode cL_type 9 = .ok (.goto 6, 3) := by decide +kernel
theorem dL_type_12 : decode cL_type 12 = .ok (.astore_n 3, 1) := by decide +kernel
theorem dL_type_13 : decode cL_type 13 = .ok (.iconst 1, 1) := by decide +kernel
theorem dL_type_14 : decode cL_type 14 = .ok (.ireturn, 1) := by decide +kernel
theorem dL_type_15 : decode cL_type 15 = .ok (.iconst 0, 1) := by decide +kernel
theorem dL_type_16 : decode cL_type 16 = .ok (.ireturn, 1) := by decide +kernel
theorem dL_cut_0 : decode cL_cut 0 = .ok (.aload_n 0, 1) := by decide +kernel
theorem dL_cut_1 : decode cL_cut 1 = .ok (.iload_n 1, 1) := by decide +kernel
theorem dL_cut_2 : decode cL_cut 2 = .ok (.invokevirtual 15, 3) := by decide +kernel
theorem dL_cut_5 : decode cL_cut 5 = .ok (.goto 6, 3) := by decide +kernel
theorem dL_cut_8 : decode cL_cut 8 = .ok (.astore_n 2, 1) := by decide +kernel
theorem dL_cut_9 : decode cL_cut 9 = .ok (.iconst 1, 1) := by decide +kernel
theorem dL_cut_10 : decode cL_cut 10 = .ok (.ireturn, 1) := by decide +kernel
theorem dL_cut_11 : decode cL_cut 11 = .ok (.iconst 0, 1) := by decide +kernel
theorem dL_cut_12 : decode cL_cut 12 = .ok (.ireturn, 1) := by decide +kernel
theorem dL_keep_0 : decode cL_keep 0 = .ok (.aload_n 1, 1) := by decide +kernel
theorem dL_keep_1 : decode cL_keep 1 = .ok (.iconst 0, 1) := by decide +kernel
theorem dL_keep_2 : decode cL_keep 2 = .ok (.aload_n 0, 1) := by decide +kernel
theorem dL_keep_3 : decode cL_keep 3 = .ok (.invokevirtual 21, 3) := by decide +kernel
theorem dL_keep_6 : decode cL_keep 6 = .ok (.lastore, 1) := by decide +kernel
theorem dL_keep_7 : decode cL_keep 7 = .ok (.goto 6, 3) := by decide +kernel
theorem dL_keep_10 : decode cL_keep 10 = .ok (.astore_n 2, 1) := by decide +kernel
theorem dL_keep_11 : decode cL_keep 11 = .ok (.iconst 1, 1) := by decide +kernel
theorem dL_keep_12 : decode cL_keep 12 = .ok (.ireturn, 1) := by decide +kernel
theorem dL_keep_13 : decode cL_keep 13 = .ok (.iconst 0, 1) := by decide +kernel
theorem dL_keep_14 : decode cL_keep 14 = .ok (.ireturn, 1) := by decide +kernel
theorem dL_tell_0 : decode cL_tell 0 = .ok (.aload_n 0, 1) := by decide +kernel
theorem dL_tell_1 : decode cL_tell 1 = .ok (.iload_n 1, 1) := by decide +kernel
theorem dL_tell_2 : decode cL_tell 2 = .ok (.lload_n 2, 1) := by decide +kernel
theorem dL_tell_3 : decode cL_tell 3 = .ok (.invokevirtual 25, 3) := by decide +kernel
theorem dL_tell_6 : decode cL_tell 6 = .ok (.goto 15, 3) := by decide +kernel
theorem dL_tell_9 : decode cL_tell 9 = .ok (.astore 4, 2) := by decide +kernel
theorem dL_tell_11 : decode cL_tell 11 = .ok (.iconst 1, 1) := by decide +kernel
theorem dL_tell_12 : decode cL_tell 12 = .ok (.ireturn, 1) := by decide +kernel
theorem dL_tell_13 : decode cL_tell 13 = .ok (.astore 4, 2) := by decide +kernel
theorem dL_tell_15 : decode cL_tell 15 = .ok (.iconst 2, 1) := by decide +kernel
theorem dL_tell_16 : decode cL_tell 16 = .ok (.ireturn, 1) := by decide +kernel
theorem dL_tell_17 : decode cL_tell 17 = .ok (.astore 4, 2) := by decide +kernel
theorem dL_tell_19 : decode cL_tell 19 = .ok (.iconst 3, 1) := by decide +kernel
theorem dL_tell_20 : decode cL_tell 20 = .ok (.ireturn, 1) := by decide +kernel
theorem dL_tell_21 : decode cL_tell 21 = .ok (.iconst 0, 1) := by decide +kernel
theorem dL_tell_22 : decode cL_tell 22 = .ok (.ireturn, 1) := by decide +kernel
theorem dL_untell_0 : decode cL_untell 0 = .ok (.aload_n 0, 1) := by decide +kernel
theorem dL_untell_1 : decode cL_untell 1 = .ok (.iload_n 1, 1) := by decide +kernel
theorem dL_untell_2 : decode cL_untell 2 = .ok (.invokevirtual 31, 3) := by decide +kernel
theorem dL_untell_5 : decode cL_untell 5 = .ok (.goto 12, 3) := by decide +kernel
theorem dL_untell_8 : decode cL_untell 8 = .ok (.astore_n 2, 1) := by decide +kernel
theorem dL_untell_9 : decode cL_untell 9 = .ok (.iconst 1, 1) := by decide +kernel
theorem dL_untell_10 : decode cL_untell 10 = .ok (.ireturn, 1) := by decide +kernel
theorem dL_untell_11 : decode cL_untell 11 = .ok (.astore_n 2, 1) := by decide +kernel
theorem dL_untell_12 : decode cL_untell 12 = .ok (.iconst 2, 1) := by decide +kernel
theorem dL_untell_13 : decode cL_untell 13 = .ok (.ireturn, 1) := by decide +kernel
theorem dL_untell_14 : decode cL_untell 14 = .ok (.astore_n 2, 1) := by decide +kernel
theorem dL_untell_15 : decode cL_untell 15 = .ok (.iconst 3, 1) := by decide +kernel
theorem dL_untell_16 : decode cL_untell 16 = .ok (.ireturn, 1) := by decide +kernel
theorem dL_untell_17 : decode cL_untell 17 = .ok (.iconst 0, 1) := by decide +kernel
theorem dL_untell_18 : decode cL_untell 18 = .ok (.ireturn, 1) := by decide +kernel
theorem dL_learn_0 : decode cL_learn 0 = .ok (.aload_n 0, 1) := by decide +kernel
theorem dL_learn_1 : decode cL_learn 1 = .ok (.lload_n 1, 1) := by decide +kernel
theorem dL_learn_2 : decode cL_learn 2 = .ok (.lload_n 3, 1) := by decide +kernel
theorem dL_learn_3 : decode cL_learn 3 = .ok (.invokevirtual 34, 3) := by decide +kernel
theorem dL_learn_6 : decode cL_learn 6 = .ok (.goto 7, 3) := by decide +kernel
theorem dL_learn_9 : decode cL_learn 9 = .ok (.astore 5, 2) := by decide +kernel
theorem dL_learn_11 : decode cL_learn 11 = .ok (.iconst 1, 1) := by decide +kernel
theorem dL_learn_12 : decode cL_learn 12 = .ok (.ireturn, 1) := by decide +kernel
theorem dL_learn_13 : decode cL_learn 13 = .ok (.iconst 0, 1) := by decide +kernel
theorem dL_learn_14 : decode cL_learn 14 = .ok (.ireturn, 1) := by decide +kernel
theorem dL_pin_0 : decode cL_pin 0 = .ok (.aload_n 0, 1) := by decide +kernel
theorem dL_pin_1 : decode cL_pin 1 = .ok (.iload_n 1, 1) := by decide +kernel
theorem dL_pin_2 : decode cL_pin 2 = .ok (.lload_n 2, 1) := by decide +kernel
theorem dL_pin_3 : decode cL_pin 3 = .ok (.invokevirtual 38, 3) := by decide +kernel
theorem dL_pin_6 : decode cL_pin 6 = .ok (.goto 7, 3) := by decide +kernel
theorem dL_pin_9 : decode cL_pin 9 = .ok (.astore 4, 2) := by decide +kernel
theorem dL_pin_11 : decode cL_pin 11 = .ok (.iconst 1, 1) := by decide +kernel
theorem dL_pin_12 : decode cL_pin 12 = .ok (.ireturn, 1) := by decide +kernel
theorem dL_pin_13 : decode cL_pin 13 = .ok (.iconst 0, 1) := by decide +kernel
theorem dL_pin_14 : decode cL_pin 14 = .ok (.ireturn, 1) := by decide +kernel
theorem dL_tag_0 : decode cL_tag 0 = .ok (.aload_n 2, 1) := by decide +kernel
theorem dL_tag_1 : decode cL_tag 1 = .ok (.iconst 0, 1) := by decide +kernel
theorem dL_tag_2 : decode cL_tag 2 = .ok (.aload_n 0, 1) := by decide +kernel
theorem dL_tag_3 : decode cL_tag 3 = .ok (.iload_n 1, 1) := by decide +kernel
theorem dL_tag_4 : decode cL_tag 4 = .ok (.invokevirtual 41, 3) := by decide +kernel
theorem dL_tag_7 : decode cL_tag 7 = .ok (.lastore, 1) := by decide +kernel
theorem dL_tag_8 : decode cL_tag 8 = .ok (.goto 6, 3) := by decide +kernel
theorem dL_tag_11 : decode cL_tag 11 = .ok (.astore_n 3, 1) := by decide +kernel
theorem dL_tag_12 : decode cL_tag 12 = .ok (.iconst 1, 1) := by decide +kernel
theorem dL_tag_13 : decode cL_tag 13 = .ok (.ireturn, 1) := by decide +kernel
theorem dL_tag_14 : decode cL_tag 14 = .ok (.iconst 0, 1) := by decide +kernel
theorem dL_tag_15 : decode cL_tag 15 = .ok (.ireturn, 1) := by decide +kernel
theorem dL_look_0 : decode cL_look 0 = .ok (.aload_n 3, 1) := by decide +kernel
theorem dL_look_1 : decode cL_look 1 = .ok (.iconst 0, 1) := by decide +kernel
theorem dL_look_2 : decode cL_look 2 = .ok (.aload_n 0, 1) := by decide +kernel
theorem dL_look_3 : decode cL_look 3 = .ok (.lload_n 1, 1) := by decide +kernel
theorem dL_look_4 : decode cL_look 4 = .ok (.invokevirtual 45, 3) := by decide +kernel
theorem dL_look_7 : decode cL_look 7 = .ok (.lastore, 1) := by decide +kernel
theorem dL_look_8 : decode cL_look 8 = .ok (.goto 7, 3) := by decide +kernel
theorem dL_look_11 : decode cL_look 11 = .ok (.astore 4, 2) := by decide +kernel
theorem dL_look_13 : decode cL_look 13 = .ok (.iconst 1, 1) := by decide +kernel
theorem dL_look_14 : decode cL_look 14 = .ok (.ireturn, 1) := by decide +kernel
theorem dL_look_15 : decode cL_look 15 = .ok (.iconst 0, 1) := by decide +kernel
theorem dL_look_16 : decode cL_look 16 = .ok (.ireturn, 1) := by decide +kernel
theorem dL_byteOf_0 : decode cL_byteOf 0 = .ok (.aload 4, 2) := by decide +kernel
theorem dL_byteOf_2 : decode cL_byteOf 2 = .ok (.iconst 0, 1) := by decide +kernel
theorem dL_byteOf_3 : decode cL_byteOf 3 = .ok (.aload_n 0, 1) := by decide +kernel
theorem dL_byteOf_4 : decode cL_byteOf 4 = .ok (.lload_n 1, 1) := by decide +kernel
theorem dL_byteOf_5 : decode cL_byteOf 5 = .ok (.iload_n 3, 1) := by decide +kernel
theorem dL_byteOf_6 : decode cL_byteOf 6 = .ok (.invokevirtual 49, 3) := by decide +kernel
theorem dL_byteOf_9 : decode cL_byteOf 9 = .ok (.i2l, 1) := by decide +kernel
theorem dL_byteOf_10 : decode cL_byteOf 10 = .ok (.lastore, 1) := by decide +kernel
theorem dL_byteOf_11 : decode cL_byteOf 11 = .ok (.goto 11, 3) := by decide +kernel
theorem dL_byteOf_14 : decode cL_byteOf 14 = .ok (.astore 5, 2) := by decide +kernel
theorem dL_byteOf_16 : decode cL_byteOf 16 = .ok (.iconst 1, 1) := by decide +kernel
theorem dL_byteOf_17 : decode cL_byteOf 17 = .ok (.ireturn, 1) := by decide +kernel
theorem dL_byteOf_18 : decode cL_byteOf 18 = .ok (.astore 5, 2) := by decide +kernel
theorem dL_byteOf_20 : decode cL_byteOf 20 = .ok (.iconst 2, 1) := by decide +kernel
theorem dL_byteOf_21 : decode cL_byteOf 21 = .ok (.ireturn, 1) := by decide +kernel
theorem dL_byteOf_22 : decode cL_byteOf 22 = .ok (.iconst 0, 1) := by decide +kernel
theorem dL_byteOf_23 : decode cL_byteOf 23 = .ok (.ireturn, 1) := by decide +kernel
theorem dL_count_0 : decode cL_count 0 = .ok (.aload_n 2, 1) := by decide +kernel
theorem dL_count_1 : decode cL_count 1 = .ok (.iconst 0, 1) := by decide +kernel
theorem dL_count_2 : decode cL_count 2 = .ok (.aload_n 0, 1) := by decide +kernel
theorem dL_count_3 : decode cL_count 3 = .ok (.iload_n 1, 1) := by decide +kernel
theorem dL_count_4 : decode cL_count 4 = .ok (.invokevirtual 55, 3) := by decide +kernel
theorem dL_count_7 : decode cL_count 7 = .ok (.i2l, 1) := by decide +kernel
theorem dL_count_8 : decode cL_count 8 = .ok (.lastore, 1) := by decide +kernel
theorem dL_count_9 : decode cL_count 9 = .ok (.goto 6, 3) := by decide +kernel
theorem dL_count_12 : decode cL_count 12 = .ok (.astore_n 3, 1) := by decide +kernel
theorem dL_count_13 : decode cL_count 13 = .ok (.iconst 1, 1) := by decide +kernel
theorem dL_count_14 : decode cL_count 14 = .ok (.ireturn, 1) := by decide +kernel
theorem dL_count_15 : decode cL_count 15 = .ok (.iconst 0, 1) := by decide +kernel
theorem dL_count_16 : decode cL_count 16 = .ok (.ireturn, 1) := by decide +kernel
theorem dL_journal_0 : decode cL_journal 0 = .ok (.aload_n 2, 1) := by decide +kernel
theorem dL_journal_1 : decode cL_journal 1 = .ok (.iconst 0, 1) := by decide +kernel
theorem dL_journal_2 : decode cL_journal 2 = .ok (.aload_n 0, 1) := by decide +kernel
theorem dL_journal_3 : decode cL_journal 3 = .ok (.iload_n 1, 1) := by decide +kernel
theorem dL_journal_4 : decode cL_journal 4 = .ok (.invokevirtual 58, 3) := by decide +kernel
theorem dL_journal_7 : decode cL_journal 7 = .ok (.i2l, 1) := by decide +kernel
theorem dL_journal_8 : decode cL_journal 8 = .ok (.lastore, 1) := by decide +kernel
theorem dL_journal_9 : decode cL_journal 9 = .ok (.goto 6, 3) := by decide +kernel
theorem dL_journal_12 : decode cL_journal 12 = .ok (.astore_n 3, 1) := by decide +kernel
theorem dL_journal_13 : decode cL_journal 13 = .ok (.iconst 1, 1) := by decide +kernel
theorem dL_journal_14 : decode cL_journal 14 = .ok (.ireturn, 1) := by decide +kernel
theorem dL_journal_15 : decode cL_journal 15 = .ok (.iconst 0, 1) := by decide +kernel
theorem dL_journal_16 : decode cL_journal 16 = .ok (.ireturn, 1) := by decide +kernel
theorem dL_crash_0 : decode cL_crash 0 = .ok (.aload_n 3, 1) := by decide +kernel
theorem dL_crash_1 : decode cL_crash 1 = .ok (.iconst 0, 1) := by decide +kernel
theorem dL_crash_2 : decode cL_crash 2 = .ok (.aload_n 0, 1) := by decide +kernel
theorem dL_crash_3 : decode cL_crash 3 = .ok (.iload_n 1, 1) := by decide +kernel
theorem dL_crash_4 : decode cL_crash 4 = .ok (.iload_n 2, 1) := by decide +kernel
theorem dL_crash_5 : decode cL_crash 5 = .ok (.invokevirtual 61, 3) := by decide +kernel
theorem dL_crash_8 : decode cL_crash 8 = .ok (.i2l, 1) := by decide +kernel
theorem dL_crash_9 : decode cL_crash 9 = .ok (.lastore, 1) := by decide +kernel
theorem dL_crash_10 : decode cL_crash 10 = .ok (.goto 7, 3) := by decide +kernel
theorem dL_crash_13 : decode cL_crash 13 = .ok (.astore 4, 2) := by decide +kernel
theorem dL_crash_15 : decode cL_crash 15 = .ok (.iconst 1, 1) := by decide +kernel
theorem dL_crash_16 : decode cL_crash 16 = .ok (.ireturn, 1) := by decide +kernel
theorem dL_crash_17 : decode cL_crash 17 = .ok (.iconst 0, 1) := by decide +kernel
theorem dL_crash_18 : decode cL_crash 18 = .ok (.ireturn, 1) := by decide +kernel
set_option maxRecDepth 100000 in
set_option maxHeartbeats 4000000 in
theorem t_type_wi (l : Launch) (σ σ' : BJ) (r : Int32) (v : Int32) {rm : Room} (hM : wBi l yX0_type wsX0_type rm σ [.int v] r σ') (hrc : rm.cells = 0) (hrs : rm.slots = 0) (hfr : rm.frames + 1 ≤ 8) (hlo : 8 + (3 + 11) + rm.locals ≤ 170) : tW l yL_type wsL_type σ (fun o => [.int v, .ref o]) 0 (some r.toInt64) σ' := by
  intro dC dI cI cJ h o f sz
  refine va_MetW (cc := cL_type) (maxL := 4) (ret := (some .int)) (hh := [(0, 9, 12, 13)]) (by decide) rfl ?_
  intro p e s m args below meth c s₁ B hml hv
  obtain ⟨rfl, hsz, hP, hK, hD0, hH, hN⟩ := hv
  have hx := B.exec
  have hb := B.bytes
  have hr := B.returns
  have hts := atoms_spec (ws := wsL_type) B.pre
  have hown : s.vm.findClass RL = some m.cls := findClass_of_methodNamed B.named
  subst hsz
  have htg : ∀ w ∈ GW, w.before _ s = true := fun w h => hts w (List.mem_cons_of_mem _ h)
  have hD := hD0.self (sz := s.heap.size)
  generalize hAe : va_A (wBO cI cJ h σ o f) s.heap.size = A at hD ⊢
  have hA : ∀ q : Nat, s.heap.size ≤ q → A q := fun q h => by rw [← hAe]; exact Or.inr h
  have hS : va_S A s.heap s.heap [] := va_S.rf
  have hl := lv_entry [.ref (h 0), .int v, .ref o] (n := 4) (Nat.le_of_ble_eq_true rfl)
  rw [lg_entry_eq]
  generalize (lg_sl [.ref (h 0), .int v, .ref o] ++ List.replicate (4 - (lg_sl [.ref (h 0), .int v, .ref o]).length) Slot.unset).toArray = ls at hl ⊢
  have hl : lv_has ls 4 [(0, .ref (h 0)), (1, .int v), (2, .ref o)] := hl
  refine lv_aload_n hx hb dL_type_0 rfl (lv_at hl 2 rfl) ?_
  refine lv_iconst (v := nI 0) hx hb dL_type_1 (by decide) ?_
  refine lv_aload_n hx hb dL_type_2 rfl (lv_at hl 0 rfl) ?_
  refine lv_iload_n hx hb dL_type_3 rfl (lv_at hl 1 rfl) ?_
  refine bo_wi (As := [.int v]) (rest := [.int (nI 0), .ref o]) (n := 1) ⟨hx, hb, hml, hown, htg⟩ hM (cwV 1 htg gL_7 rfl hrc hrs (by decide +kernel) ⟨hfr, hlo⟩) hK hP hD hS hA hl.1 rfl rfl (Nat.le_of_ble_eq_true rfl) dL_type_4 (Nat.zero_le _) (Nat.zero_le _) (fun H locs hP hD hS => ?_)
  refine lv_i2l (v := r.toInt64) hx hb dL_type_7 rfl ?_
  refine xr_last (f := f) (i := 0) (x := r.toInt64) hx hb hK hP hD hS 10 1 rfl rfl (by decide) (by decide) dL_type_8 (fun H locs hP hD hS => ?_)
  have hP : va_P (dC, dI) vwCl (wBO cI cJ h σ' o (vp_updL f 0 r.toInt64)) H := hP
  have hD : va_D A (wBO cI cJ h σ' o (vp_updL f 0 r.toInt64)) := hD
  refine lv_goto (tgt := 15) hx hb dL_type_9 (by decide) ?_
  refine lv_iconst (v := nI 0) hx hb dL_type_15 (by decide) ?_
  refine W.widen (k := 1) (n := 6) (by decide) (by decide) ?_
  exact W.iret (v := nI 0) hx hb hr (fun t ht hW => ⟨⟨_, (), rfl, rfl, by rw [ht]; exact hP, va_K.moved hW.alike hK, hD⟩, hS.F ht⟩) hS.2.2 dL_type_16
set_option maxRecDepth 100000 in
set_option maxHeartbeats 4000000 in
theorem t_type_t1 (l : Launch) (σ : BJ) (v : Int32) {rm : Room} (hM : tB l yX0_type wsX0_type rm TXL σ [.int v] "java/lang/UnsupportedOperationException") (hrc : rm.cells = 1) (hrs : rm.slots = 6) (hfr : rm.frames + 1 ≤ 8) (hlo : 8 + (3 + 11) + rm.locals ≤ 170) : tW l yL_type wsL_type σ (fun o => [.int v, .ref o]) 1 none σ := by
  intro dC dI cI cJ h o f sz
  refine va_MetW (cc := cL_type) (maxL := 4) (ret := (some .int)) (hh := [(0, 9, 12, 13)]) (by decide) rfl ?_
  intro p e s m args below meth c s₁ B hml hv
  obtain ⟨rfl, hsz, hP, hK, hD0, hH, hN⟩ := hv
  have hx := B.exec
  have hb := B.bytes
  have hr := B.returns
  have hts := atoms_spec (ws := wsL_type) B.pre
  have hown : s.vm.findClass RL = some m.cls := findClass_of_methodNamed B.named
  subst hsz
  have htg : ∀ w ∈ GW, w.before _ s = true := fun w h => hts w (List.mem_cons_of_mem _ h)
  have hD := hD0.self (sz := s.heap.size)
  generalize hAe : va_A (wBO cI cJ h σ o f) s.heap.size = A at hD ⊢
  have hA : ∀ q : Nat, s.heap.size ≤ q → A q := fun q h => by rw [← hAe]; exact Or.inr h
  have hS : va_S A s.heap s.heap [] := va_S.rf
  have hl := lv_entry [.ref (h 0), .int v, .ref o] (n := 4) (Nat.le_of_ble_eq_true rfl)
  rw [lg_entry_eq]
  generalize (lg_sl [.ref (h 0), .int v, .ref o] ++ List.replicate (4 - (lg_sl [.ref (h 0), .int v, .ref o]).length) Slot.unset).toArray = ls at hl ⊢
  have hl : lv_has ls 4 [(0, .ref (h 0)), (1, .int v), (2, .ref o)] := hl
  refine lv_aload_n hx hb dL_type_0 rfl (lv_at hl 2 rfl) ?_
  refine lv_iconst (v := nI 0) hx hb dL_type_1 (by decide) ?_
  refine lv_aload_n hx hb dL_type_2 rfl (lv_at hl 0 rfl) ?_
  refine lv_iload_n hx hb dL_type_3 rfl (lv_at hl 1 rfl) ?_
  have hL0 := tw_code B (hts _ List.mem_cons_self)
  obtain ⟨z0, L1, eL0, z0a, z0b, z0c, z0d, hL1⟩ := tw_one hL0
  refine bo_t (E := "java/lang/UnsupportedOperationException") (As := [.int v]) (rest := [.int (nI 0), .ref o]) (n := 1) ⟨hx, hb, hml, hown, htg⟩ hM (cwV 1 htg gL_7 rfl hrc hrs (by decide +kernel) ⟨hfr, hlo⟩) hK hP hD hA hH hN hl.1 rfl rfl (Nat.le_of_ble_eq_true rfl) dL_type_4 (Nat.le_of_ble_eq_true rfl) (Nat.le_of_ble_eq_true rfl) [] z0 L1 (by rw [eL0]; rfl) (fun w hw => absurd hw List.not_mem_nil) (by simp [covers, z0a, z0b]) (by rw [z0d]; decide) (by rw [z0d]; exact htg _ hL_13) (fun x H locs hP hS => ?_)
  rw [z0c]
  refine lv_astore_n (lv' := [(3, .ref x), (0, .ref (h 0)), (1, .int v), (2, .ref o)]) hx hb dL_type_12 rfl hl (by decide) rfl (fun ls hl => ?_)
  refine lv_iconst (v := nI 1) hx hb dL_type_13 (by decide) ?_
  exact W.iret (v := nI 1) hx hb hr (fun t ht hW => ⟨⟨_, (), rfl, rfl, by rw [ht]; exact hP, va_K.moved hW.alike hK, hD⟩, hS.F ht⟩) hS.2.2 dL_type_14
set_option maxRecDepth 100000 in
set_option maxHeartbeats 4000000 in
theorem t_cut_wv (l : Launch) (σ σ' : BJ) (v : Int32) {rm : Room} (hM : wBv l yX0_cut wsX0_cut rm σ [.int v] σ') (hrc : rm.cells = 0) (hrs : rm.slots = 0) (hfr : rm.frames + 1 ≤ 8) (hlo : 8 + (2 + 11) + rm.locals ≤ 170) : tW l yL_cut wsL_cut σ (fun _ => [.int v]) 0 none σ' := by
  intro dC dI cI cJ h o f sz
  refine va_MetW (cc := cL_cut) (maxL := 3) (ret := (some .int)) (hh := [(0, 5, 8, 19)]) (by decide) rfl ?_
  intro p e s m args below meth c s₁ B hml hv
  obtain ⟨rfl, hsz, hP, hK, hD0, hH, hN⟩ := hv
  have hx := B.exec
  have hb := B.bytes
  have hr := B.returns
  have hts := atoms_spec (ws := wsL_cut) B.pre
  have hown : s.vm.findClass RL = some m.cls := findClass_of_methodNamed B.named
  subst hsz
  have htg : ∀ w ∈ GW, w.before _ s = true := fun w h => hts w (List.mem_cons_of_mem _ h)
  have hD := hD0.self (sz := s.heap.size)
  generalize hAe : va_A (wBO cI cJ h σ o f) s.heap.size = A at hD ⊢
  have hA : ∀ q : Nat, s.heap.size ≤ q → A q := fun q h => by rw [← hAe]; exact Or.inr h
  have hS : va_S A s.heap s.heap [] := va_S.rf
  have hl := lv_entry [.ref (h 0), .int v] (n := 3) (Nat.le_of_ble_eq_true rfl)
  rw [lg_entry_eq]
  generalize (lg_sl [.ref (h 0), .int v] ++ List.replicate (3 - (lg_sl [.ref (h 0), .int v]).length) Slot.unset).toArray = ls at hl ⊢
  have hl : lv_has ls 3 [(0, .ref (h 0)), (1, .int v)] := hl
  refine lv_aload_n hx hb dL_cut_0 rfl (lv_at hl 0 rfl) ?_
  refine lv_iload_n hx hb dL_cut_1 rfl (lv_at hl 1 rfl) ?_
  refine bo_wv (As := [.int v]) (rest := []) (n := 1) ⟨hx, hb, hml, hown, htg⟩ hM (cwV 1 htg gL_15 rfl hrc hrs (by decide +kernel) ⟨hfr, hlo⟩) hK hP hD hS hA hl.1 rfl rfl (Nat.le_of_ble_eq_true rfl) dL_cut_2 (Nat.zero_le _) (Nat.zero_le _) (fun H locs hP hD hS => ?_)
  refine lv_goto (tgt := 11) hx hb dL_cut_5 (by decide) ?_
  refine lv_iconst (v := nI 0) hx hb dL_cut_11 (by decide) ?_
  refine W.widen (k := 1) (n := 6) (by decide) (by decide) ?_
  exact W.iret (v := nI 0) hx hb hr (fun t ht hW => ⟨⟨_, (), rfl, rfl, by rw [ht]; exact hP, va_K.moved hW.alike hK, hD⟩, hS.F ht⟩) hS.2.2 dL_cut_12
set_option maxRecDepth 100000 in
set_option maxHeartbeats 4000000 in
theorem t_cut_t1 (l : Launch) (σ : BJ) (v : Int32) {rm : Room} (hM : tB l yX0_cut wsX0_cut rm TXL σ [.int v] "java/lang/IllegalArgumentException") (hrc : rm.cells = 1) (hrs : rm.slots = 6) (hfr : rm.frames + 1 ≤ 8) (hlo : 8 + (2 + 11) + rm.locals ≤ 170) : tW l yL_cut wsL_cut σ (fun _ => [.int v]) 1 none σ := by
  intro dC dI cI cJ h o f sz
  refine va_MetW (cc := cL_cut) (maxL := 3) (ret := (some .int)) (hh := [(0, 5, 8, 19)]) (by decide) rfl ?_
  intro p e s m args below meth c s₁ B hml hv
  obtain ⟨rfl, hsz, hP, hK, hD0, hH, hN⟩ := hv
  have hx := B.exec
  have hb := B.bytes
  have hr := B.returns
  have hts := atoms_spec (ws := wsL_cut) B.pre
  have hown : s.vm.findClass RL = some m.cls := findClass_of_methodNamed B.named
  subst hsz
  have htg : ∀ w ∈ GW, w.before _ s = true := fun w h => hts w (List.mem_cons_of_mem _ h)
  have hD := hD0.self (sz := s.heap.size)
  generalize hAe : va_A (wBO cI cJ h σ o f) s.heap.size = A at hD ⊢
  have hA : ∀ q : Nat, s.heap.size ≤ q → A q := fun q h => by rw [← hAe]; exact Or.inr h
  have hS : va_S A s.heap s.heap [] := va_S.rf
  have hl := lv_entry [.ref (h 0), .int v] (n := 3) (Nat.le_of_ble_eq_true rfl)
  rw [lg_entry_eq]
  generalize (lg_sl [.ref (h 0), .int v] ++ List.replicate (3 - (lg_sl [.ref (h 0), .int v]).length) Slot.unset).toArray = ls at hl ⊢
  have hl : lv_has ls 3 [(0, .ref (h 0)), (1, .int v)] := hl
  refine lv_aload_n hx hb dL_cut_0 rfl (lv_at hl 0 rfl) ?_
  refine lv_iload_n hx hb dL_cut_1 rfl (lv_at hl 1 rfl) ?_
  have hL0 := tw_code B (hts _ List.mem_cons_self)
  obtain ⟨z0, L1, eL0, z0a, z0b, z0c, z0d, hL1⟩ := tw_one hL0
  refine bo_t (E := "java/lang/IllegalArgumentException") (As := [.int v]) (rest := []) (n := 1) ⟨hx, hb, hml, hown, htg⟩ hM (cwV 1 htg gL_15 rfl hrc hrs (by decide +kernel) ⟨hfr, hlo⟩) hK hP hD hA hH hN hl.1 rfl rfl (Nat.le_of_ble_eq_true rfl) dL_cut_2 (Nat.le_of_ble_eq_true rfl) (Nat.le_of_ble_eq_true rfl) [] z0 L1 (by rw [eL0]; rfl) (fun w hw => absurd hw List.not_mem_nil) (by simp [covers, z0a, z0b]) (by rw [z0d]; decide) (by rw [z0d]; exact htg _ hL_19) (fun x H locs hP hS => ?_)
  rw [z0c]
  refine lv_astore_n (lv' := [(2, .ref x), (0, .ref (h 0)), (1, .int v)]) hx hb dL_cut_8 rfl hl (by decide) rfl (fun ls hl => ?_)
  refine lv_iconst (v := nI 1) hx hb dL_cut_9 (by decide) ?_
  exact W.iret (v := nI 1) hx hb hr (fun t ht hW => ⟨⟨_, (), rfl, rfl, by rw [ht]; exact hP, va_K.moved hW.alike hK, hD⟩, hS.F ht⟩) hS.2.2 dL_cut_10
set_option maxRecDepth 100000 in
set_option maxHeartbeats 4000000 in
theorem t_keep_rl (l : Launch) (σ : BJ) (r : Int64) {rm : Room} (hM : rBl l yX0_keep wsX0_keep rm σ [] r) (hrc : rm.cells = 0) (hrs : rm.slots = 0) (hfr : rm.frames + 1 ≤ 8) (hlo : 8 + (3 + 11) + rm.locals ≤ 170) : tW l yL_keep wsL_keep σ (fun o => [.ref o]) 0 (some r) σ := by
  intro dC dI cI cJ h o f sz
  refine va_MetW (cc := cL_keep) (maxL := 3) (ret := (some .int)) (hh := [(0, 7, 10, 13)]) (by decide) rfl ?_
  intro p e s m args below meth c s₁ B hml hv
  obtain ⟨rfl, hsz, hP, hK, hD0, hH, hN⟩ := hv
  have hx := B.exec
  have hb := B.bytes
  have hr := B.returns
  have hts := atoms_spec (ws := wsL_keep) B.pre
  have hown : s.vm.findClass RL = some m.cls := findClass_of_methodNamed B.named
  subst hsz
  have htg : ∀ w ∈ GW, w.before _ s = true := fun w h => hts w (List.mem_cons_of_mem _ h)
  have hD := hD0.self (sz := s.heap.size)
  generalize hAe : va_A (wBO cI cJ h σ o f) s.heap.size = A at hD ⊢
  have hA : ∀ q : Nat, s.heap.size ≤ q → A q := fun q h => by rw [← hAe]; exact Or.inr h
  have hS : va_S A s.heap s.heap [] := va_S.rf
  have hl := lv_entry [.ref (h 0), .ref o] (n := 3) (Nat.le_of_ble_eq_true rfl)
  rw [lg_entry_eq]
  generalize (lg_sl [.ref (h 0), .ref o] ++ List.replicate (3 - (lg_sl [.ref (h 0), .ref o]).length) Slot.unset).toArray = ls at hl ⊢
  have hl : lv_has ls 3 [(0, .ref (h 0)), (1, .ref o)] := hl
  refine lv_aload_n hx hb dL_keep_0 rfl (lv_at hl 1 rfl) ?_
  refine lv_iconst (v := nI 0) hx hb dL_keep_1 (by decide) ?_
  refine lv_aload_n hx hb dL_keep_2 rfl (lv_at hl 0 rfl) ?_
  refine bo_rl (As := []) (rest := [.int (nI 0), .ref o]) (n := 0) ⟨hx, hb, hml, hown, htg⟩ hM (cwV 0 htg gL_21 rfl hrc hrs (by decide +kernel) ⟨hfr, hlo⟩) hK hP hD hS hA hl.1 rfl rfl (Nat.le_of_ble_eq_true rfl) dL_keep_3 (Nat.zero_le _) (Nat.zero_le _) (fun H locs hP hD hS => ?_)
  refine xr_last (f := f) (i := 0) (x := r) hx hb hK hP hD hS 10 1 rfl rfl (by decide) (by decide) dL_keep_6 (fun H locs hP hD hS => ?_)
  have hP : va_P (dC, dI) vwCl (wBO cI cJ h σ o (vp_updL f 0 r)) H := hP
  have hD : va_D A (wBO cI cJ h σ o (vp_updL f 0 r)) := hD
  refine lv_goto (tgt := 13) hx hb dL_keep_7 (by decide) ?_
  refine lv_iconst (v := nI 0) hx hb dL_keep_13 (by decide) ?_
  refine W.widen (k := 1) (n := 6) (by decide) (by decide) ?_
  exact W.iret (v := nI 0) hx hb hr (fun t ht hW => ⟨⟨_, (), rfl, rfl, by rw [ht]; exact hP, va_K.moved hW.alike hK, hD⟩, hS.F ht⟩) hS.2.2 dL_keep_14
set_option maxRecDepth 100000 in
set_option maxHeartbeats 4000000 in
theorem t_keep_wl (l : Launch) (σ σ' : BJ) (r : Int64) {rm : Room} (hM : wBl l yX0_keep wsX0_keep rm σ [] r σ') (hrc : rm.cells = 0) (hrs : rm.slots = 0) (hfr : rm.frames + 1 ≤ 8) (hlo : 8 + (3 + 11) + rm.locals ≤ 170) : tW l yL_keep wsL_keep σ (fun o => [.ref o]) 0 (some r) σ' := by
  intro dC dI cI cJ h o f sz
  refine va_MetW (cc := cL_keep) (maxL := 3) (ret := (some .int)) (hh := [(0, 7, 10, 13)]) (by decide) rfl ?_
  intro p e s m args below meth c s₁ B hml hv
  obtain ⟨rfl, hsz, hP, hK, hD0, hH, hN⟩ := hv
  have hx := B.exec
  have hb := B.bytes
  have hr := B.returns
  have hts := atoms_spec (ws := wsL_keep) B.pre
  have hown : s.vm.findClass RL = some m.cls := findClass_of_methodNamed B.named
  subst hsz
  have htg : ∀ w ∈ GW, w.before _ s = true := fun w h => hts w (List.mem_cons_of_mem _ h)
  have hD := hD0.self (sz := s.heap.size)
  generalize hAe : va_A (wBO cI cJ h σ o f) s.heap.size = A at hD ⊢
  have hA : ∀ q : Nat, s.heap.size ≤ q → A q := fun q h => by rw [← hAe]; exact Or.inr h
  have hS : va_S A s.heap s.heap [] := va_S.rf
  have hl := lv_entry [.ref (h 0), .ref o] (n := 3) (Nat.le_of_ble_eq_true rfl)
  rw [lg_entry_eq]
  generalize (lg_sl [.ref (h 0), .ref o] ++ List.replicate (3 - (lg_sl [.ref (h 0), .ref o]).length) Slot.unset).toArray = ls at hl ⊢
  have hl : lv_has ls 3 [(0, .ref (h 0)), (1, .ref o)] := hl
  refine lv_aload_n hx hb dL_keep_0 rfl (lv_at hl 1 rfl) ?_
  refine lv_iconst (v := nI 0) hx hb dL_keep_1 (by decide) ?_
  refine lv_aload_n hx hb dL_keep_2 rfl (lv_at hl 0 rfl) ?_
  refine bo_wl (As := []) (rest := [.int (nI 0), .ref o]) (n := 0) ⟨hx, hb, hml, hown, htg⟩ hM (cwV 0 htg gL_21 rfl hrc hrs (by decide +kernel) ⟨hfr, hlo⟩) hK hP hD hS hA hl.1 rfl rfl (Nat.le_of_ble_eq_true rfl) dL_keep_3 (Nat.zero_le _) (Nat.zero_le _) (fun H locs hP hD hS => ?_)
  refine xr_last (f := f) (i := 0) (x := r) hx hb hK hP hD hS 10 1 rfl rfl (by decide) (by decide) dL_keep_6 (fun H locs hP hD hS => ?_)
  have hP : va_P (dC, dI) vwCl (wBO cI cJ h σ' o (vp_updL f 0 r)) H := hP
  have hD : va_D A (wBO cI cJ h σ' o (vp_updL f 0 r)) := hD
  refine lv_goto (tgt := 13) hx hb dL_keep_7 (by decide) ?_
  refine lv_iconst (v := nI 0) hx hb dL_keep_13 (by decide) ?_
  refine W.widen (k := 1) (n := 6) (by decide) (by decide) ?_
  exact W.iret (v := nI 0) hx hb hr (fun t ht hW => ⟨⟨_, (), rfl, rfl, by rw [ht]; exact hP, va_K.moved hW.alike hK, hD⟩, hS.F ht⟩) hS.2.2 dL_keep_14
set_option maxRecDepth 100000 in
set_option maxHeartbeats 4000000 in
theorem t_keep_t1 (l : Launch) (σ : BJ) {rm : Room} (hM : tB l yX0_keep wsX0_keep rm TXL σ [] "java/lang/UnsupportedOperationException") (hrc : rm.cells = 1) (hrs : rm.slots = 6) (hfr : rm.frames + 1 ≤ 8) (hlo : 8 + (3 + 11) + rm.locals ≤ 170) : tW l yL_keep wsL_keep σ (fun o => [.ref o]) 1 none σ := by
  intro dC dI cI cJ h o f sz
  refine va_MetW (cc := cL_keep) (maxL := 3) (ret := (some .int)) (hh := [(0, 7, 10, 13)]) (by decide) rfl ?_
  intro p e s m args below meth c s₁ B hml hv
  obtain ⟨rfl, hsz, hP, hK, hD0, hH, hN⟩ := hv
  have hx := B.exec
  have hb := B.bytes
  have hr := B.returns
  have hts := atoms_spec (ws := wsL_keep) B.pre
  have hown : s.vm.findClass RL = some m.cls := findClass_of_methodNamed B.named
  subst hsz
  have htg : ∀ w ∈ GW, w.before _ s = true := fun w h => hts w (List.mem_cons_of_mem _ h)
  have hD := hD0.self (sz := s.heap.size)
  generalize hAe : va_A (wBO cI cJ h σ o f) s.heap.size = A at hD ⊢
  have hA : ∀ q : Nat, s.heap.size ≤ q → A q := fun q h => by rw [← hAe]; exact Or.inr h
  have hS : va_S A s.heap s.heap [] := va_S.rf
  have hl := lv_entry [.ref (h 0), .ref o] (n := 3) (Nat.le_of_ble_eq_true rfl)
  rw [lg_entry_eq]
  generalize (lg_sl [.ref (h 0), .ref o] ++ List.replicate (3 - (lg_sl [.ref (h 0), .ref o]).length) Slot.unset).toArray = ls at hl ⊢
  have hl : lv_has ls 3 [(0, .ref (h 0)), (1, .ref o)] := hl
  refine lv_aload_n hx hb dL_keep_0 rfl (lv_at hl 1 rfl) ?_
  refine lv_iconst (v := nI 0) hx hb dL_keep_1 (by decide) ?_
  refine lv_aload_n hx hb dL_keep_2 rfl (lv_at hl 0 rfl) ?_
  have hL0 := tw_code B (hts _ List.mem_cons_self)
  obtain ⟨z0, L1, eL0, z0a, z0b, z0c, z0d, hL1⟩ := tw_one hL0
  refine bo_t (E := "java/lang/UnsupportedOperationException") (As := []) (rest := [.int (nI 0), .ref o]) (n := 0) ⟨hx, hb, hml, hown, htg⟩ hM (cwV 0 htg gL_21 rfl hrc hrs (by decide +kernel) ⟨hfr, hlo⟩) hK hP hD hA hH hN hl.1 rfl rfl (Nat.le_of_ble_eq_true rfl) dL_keep_3 (Nat.le_of_ble_eq_true rfl) (Nat.le_of_ble_eq_true rfl) [] z0 L1 (by rw [eL0]; rfl) (fun w hw => absurd hw List.not_mem_nil) (by simp [covers, z0a, z0b]) (by rw [z0d]; decide) (by rw [z0d]; exact htg _ hL_13) (fun x H locs hP hS => ?_)
  rw [z0c]
  refine lv_astore_n (lv' := [(2, .ref x), (0, .ref (h 0)), (1, .ref o)]) hx hb dL_keep_10 rfl hl (by decide) rfl (fun ls hl => ?_)
  refine lv_iconst (v := nI 1) hx hb dL_keep_11 (by decide) ?_
  exact W.iret (v := nI 1) hx hb hr (fun t ht hW => ⟨⟨_, (), rfl, rfl, by rw [ht]; exact hP, va_K.moved hW.alike hK, hD⟩, hS.F ht⟩) hS.2.2 dL_keep_12
set_option maxRecDepth 100000 in
set_option maxHeartbeats 4000000 in
theorem t_tell_rv (l : Launch) (σ : BJ) (v : Int32) (d : Int64) {rm : Room} (hM : rBv l yX0_tell wsX0_tell rm σ [.int v, .long d]) (hrc : rm.cells = 0) (hrs : rm.slots = 0) (hfr : rm.frames + 1 ≤ 8) (hlo : 8 + (5 + 11) + rm.locals ≤ 170) : tW l yL_tell wsL_tell σ (fun _ => [.int v, .long d]) 0 none σ := by
  intro dC dI cI cJ h o f sz
  refine va_MetW (cc := cL_tell) (maxL := 5) (ret := (some .int)) (hh := [(0, 6, 9, 19), (0, 6, 13, 29), (0, 6, 17, 13)]) (by decide) rfl ?_
  intro p e s m args below meth c s₁ B hml hv
  obtain ⟨rfl, hsz, hP, hK, hD0, hH, hN⟩ := hv
  have hx := B.exec
  have hb := B.bytes
  have hr := B.returns
  have hts := atoms_spec (ws := wsL_tell) B.pre
  have hown : s.vm.findClass RL = some m.cls := findClass_of_methodNamed B.named
  subst hsz
  have htg : ∀ w ∈ GW, w.before _ s = true := fun w h => hts w (List.mem_cons_of_mem _ h)
  have hD := hD0.self (sz := s.heap.size)
  generalize hAe : va_A (wBO cI cJ h σ o f) s.heap.size = A at hD ⊢
  have hA : ∀ q : Nat, s.heap.size ≤ q → A q := fun q h => by rw [← hAe]; exact Or.inr h
  have hS : va_S A s.heap s.heap [] := va_S.rf
  have hl := lv_entry [.ref (h 0), .int v, .long d] (n := 5) (Nat.le_of_ble_eq_true rfl)
  rw [lg_entry_eq]
  generalize (lg_sl [.ref (h 0), .int v, .long d] ++ List.replicate (5 - (lg_sl [.ref (h 0), .int v, .long d]).length) Slot.unset).toArray = ls at hl ⊢
  have hl : lv_has ls 5 [(0, .ref (h 0)), (1, .int v), (2, .long d)] := hl
  refine lv_aload_n hx hb dL_tell_0 rfl (lv_at hl 0 rfl) ?_
  refine lv_iload_n hx hb dL_tell_1 rfl (lv_at hl 1 rfl) ?_
  refine lv_lload_n hx hb dL_tell_2 rfl (lv_at hl 2 rfl) ?_
  refine bo_rv (As := [.int v, .long d]) (rest := []) (n := 2) ⟨hx, hb, hml, hown, htg⟩ hM (cwV 2 htg gL_25 rfl hrc hrs (by decide +kernel) ⟨hfr, hlo⟩) hK hP hD hS hA hl.1 rfl rfl (Nat.le_of_ble_eq_true rfl) dL_tell_3 (Nat.zero_le _) (Nat.zero_le _) (fun H locs hP hD hS => ?_)
  refine lv_goto (tgt := 21) hx hb dL_tell_6 (by decide) ?_
  refine lv_iconst (v := nI 0) hx hb dL_tell_21 (by decide) ?_
  refine W.widen (k := 1) (n := 6) (by decide) (by decide) ?_
  exact W.iret (v := nI 0) hx hb hr (fun t ht hW => ⟨⟨_, (), rfl, rfl, by rw [ht]; exact hP, va_K.moved hW.alike hK, hD⟩, hS.F ht⟩) hS.2.2 dL_tell_22
set_option maxRecDepth 100000 in
set_option maxHeartbeats 4000000 in
theorem t_tell_wv (l : Launch) (σ σ' : BJ) (v : Int32) (d : Int64) {rm : Room} (hM : wBv l yX0_tell wsX0_tell rm σ [.int v, .long d] σ') (hrc : rm.cells = 0) (hrs : rm.slots = 0) (hfr : rm.frames + 1 ≤ 8) (hlo : 8 + (5 + 11) + rm.locals ≤ 170) : tW l yL_tell wsL_tell σ (fun _ => [.int v, .long d]) 0 none σ' := by
  intro dC dI cI cJ h o f sz
  refine va_MetW (cc := cL_tell) (maxL := 5) (ret := (some .int)) (hh := [(0, 6, 9, 19), (0, 6, 13, 29), (0, 6, 17, 13)]) (by decide) rfl ?_
  intro p e s m args below meth c s₁ B hml hv
  obtain ⟨rfl, hsz, hP, hK, hD0, hH, hN⟩ := hv
  have hx := B.exec
  have hb := B.bytes
  have hr := B.returns
  have hts := atoms_spec (ws := wsL_tell) B.pre
  have hown : s.vm.findClass RL = some m.cls := findClass_of_methodNamed B.named
  subst hsz
  have htg : ∀ w ∈ GW, w.before _ s = true := fun w h => hts w (List.mem_cons_of_mem _ h)
  have hD := hD0.self (sz := s.heap.size)
  generalize hAe : va_A (wBO cI cJ h σ o f) s.heap.size = A at hD ⊢
  have hA : ∀ q : Nat, s.heap.size ≤ q → A q := fun q h => by rw [← hAe]; exact Or.inr h
  have hS : va_S A s.heap s.heap [] := va_S.rf
  have hl := lv_entry [.ref (h 0), .int v, .long d] (n := 5) (Nat.le_of_ble_eq_true rfl)
  rw [lg_entry_eq]
  generalize (lg_sl [.ref (h 0), .int v, .long d] ++ List.replicate (5 - (lg_sl [.ref (h 0), .int v, .long d]).length) Slot.unset).toArray = ls at hl ⊢
  have hl : lv_has ls 5 [(0, .ref (h 0)), (1, .int v), (2, .long d)] := hl
  refine lv_aload_n hx hb dL_tell_0 rfl (lv_at hl 0 rfl) ?_
  refine lv_iload_n hx hb dL_tell_1 rfl (lv_at hl 1 rfl) ?_
  refine lv_lload_n hx hb dL_tell_2 rfl (lv_at hl 2 rfl) ?_
  refine bo_wv (As := [.int v, .long d]) (rest := []) (n := 2) ⟨hx, hb, hml, hown, htg⟩ hM (cwV 2 htg gL_25 rfl hrc hrs (by decide +kernel) ⟨hfr, hlo⟩) hK hP hD hS hA hl.1 rfl rfl (Nat.le_of_ble_eq_true rfl) dL_tell_3 (Nat.zero_le _) (Nat.zero_le _) (fun H locs hP hD hS => ?_)
  refine lv_goto (tgt := 21) hx hb dL_tell_6 (by decide) ?_
  refine lv_iconst (v := nI 0) hx hb dL_tell_21 (by decide) ?_
  refine W.widen (k := 1) (n := 6) (by decide) (by decide) ?_
  exact W.iret (v := nI 0) hx hb hr (fun t ht hW => ⟨⟨_, (), rfl, rfl, by rw [ht]; exact hP, va_K.moved hW.alike hK, hD⟩, hS.F ht⟩) hS.2.2 dL_tell_22
set_option maxRecDepth 100000 in
set_option maxHeartbeats 4000000 in
theorem t_tell_t1 (l : Launch) (σ : BJ) (v : Int32) (d : Int64) {rm : Room} (hM : tB l yX0_tell wsX0_tell rm TXL σ [.int v, .long d] "java/lang/IllegalArgumentException") (hrc : rm.cells = 1) (hrs : rm.slots = 6) (hfr : rm.frames + 1 ≤ 8) (hlo : 8 + (5 + 11) + rm.locals ≤ 170) : tW l yL_tell wsL_tell σ (fun _ => [.int v, .long d]) 1 none σ := by
  intro dC dI cI cJ h o f sz
  refine va_MetW (cc := cL_tell) (maxL := 5) (ret := (some .int)) (hh := [(0, 6, 9, 19), (0, 6, 13, 29), (0, 6, 17, 13)]) (by decide) rfl ?_
  intro p e s m args below meth c s₁ B hml hv
  obtain ⟨rfl, hsz, hP, hK, hD0, hH, hN⟩ := hv
  have hx := B.exec
  have hb := B.bytes
  have hr := B.returns
  have hts := atoms_spec (ws := wsL_tell) B.pre
  have hown : s.vm.findClass RL = some m.cls := findClass_of_methodNamed B.named
  subst hsz
  have htg : ∀ w ∈ GW, w.before _ s = true := fun w h => hts w (List.mem_cons_of_mem _ h)
  have hD := hD0.self (sz := s.heap.size)
  generalize hAe : va_A (wBO cI cJ h σ o f) s.heap.size = A at hD ⊢
  have hA : ∀ q : Nat, s.heap.size ≤ q → A q := fun q h => by rw [← hAe]; exact Or.inr h
  have hS : va_S A s.heap s.heap [] := va_S.rf
  have hl := lv_entry [.ref (h 0), .int v, .long d] (n := 5) (Nat.le_of_ble_eq_true rfl)
  rw [lg_entry_eq]
  generalize (lg_sl [.ref (h 0), .int v, .long d] ++ List.replicate (5 - (lg_sl [.ref (h 0), .int v, .long d]).length) Slot.unset).toArray = ls at hl ⊢
  have hl : lv_has ls 5 [(0, .ref (h 0)), (1, .int v), (2, .long d)] := hl
  refine lv_aload_n hx hb dL_tell_0 rfl (lv_at hl 0 rfl) ?_
  refine lv_iload_n hx hb dL_tell_1 rfl (lv_at hl 1 rfl) ?_
  refine lv_lload_n hx hb dL_tell_2 rfl (lv_at hl 2 rfl) ?_
  have hL0 := tw_code B (hts _ List.mem_cons_self)
  obtain ⟨z0, L1, eL0, z0a, z0b, z0c, z0d, hL1⟩ := tw_one hL0
  refine bo_t (E := "java/lang/IllegalArgumentException") (As := [.int v, .long d]) (rest := []) (n := 2) ⟨hx, hb, hml, hown, htg⟩ hM (cwV 2 htg gL_25 rfl hrc hrs (by decide +kernel) ⟨hfr, hlo⟩) hK hP hD hA hH hN hl.1 rfl rfl (Nat.le_of_ble_eq_true rfl) dL_tell_3 (Nat.le_of_ble_eq_true rfl) (Nat.le_of_ble_eq_true rfl) [] z0 L1 (by rw [eL0]; rfl) (fun w hw => absurd hw List.not_mem_nil) (by simp [covers, z0a, z0b]) (by rw [z0d]; decide) (by rw [z0d]; exact htg _ hL_19) (fun x H locs hP hS => ?_)
  rw [z0c]
  refine lv_astore (lv' := [(4, .ref x), (0, .ref (h 0)), (1, .int v), (2, .long d)]) hx hb dL_tell_9 hl (by decide) rfl (fun ls hl => ?_)
  refine lv_iconst (v := nI 1) hx hb dL_tell_11 (by decide) ?_
  exact W.iret (v := nI 1) hx hb hr (fun t ht hW => ⟨⟨_, (), rfl, rfl, by rw [ht]; exact hP, va_K.moved hW.alike hK, hD⟩, hS.F ht⟩) hS.2.2 dL_tell_12
set_option maxRecDepth 100000 in
set_option maxHeartbeats 4000000 in
theorem t_tell_t2 (l : Launch) (σ : BJ) (v : Int32) (d : Int64) {rm : Room} (hM : tB l yX0_tell wsX0_tell rm TXL σ [.int v, .long d] "java/util/NoSuchElementException") (hrc : rm.cells = 1) (hrs : rm.slots = 6) (hfr : rm.frames + 1 ≤ 8) (hlo : 8 + (5 + 11) + rm.locals ≤ 170) : tW l yL_tell wsL_tell σ (fun _ => [.int v, .long d]) 2 none σ := by
  intro dC dI cI cJ h o f sz
  refine va_MetW (cc := cL_tell) (maxL := 5) (ret := (some .int)) (hh := [(0, 6, 9, 19), (0, 6, 13, 29), (0, 6, 17, 13)]) (by decide) rfl ?_
  intro p e s m args below meth c s₁ B hml hv
  obtain ⟨rfl, hsz, hP, hK, hD0, hH, hN⟩ := hv
  have hx := B.exec
  have hb := B.bytes
  have hr := B.returns
  have hts := atoms_spec (ws := wsL_tell) B.pre
  have hown : s.vm.findClass RL = some m.cls := findClass_of_methodNamed B.named
  subst hsz
  have htg : ∀ w ∈ GW, w.before _ s = true := fun w h => hts w (List.mem_cons_of_mem _ h)
  have hD := hD0.self (sz := s.heap.size)
  generalize hAe : va_A (wBO cI cJ h σ o f) s.heap.size = A at hD ⊢
  have hA : ∀ q : Nat, s.heap.size ≤ q → A q := fun q h => by rw [← hAe]; exact Or.inr h
  have hS : va_S A s.heap s.heap [] := va_S.rf
  have hl := lv_entry [.ref (h 0), .int v, .long d] (n := 5) (Nat.le_of_ble_eq_true rfl)
  rw [lg_entry_eq]
  generalize (lg_sl [.ref (h 0), .int v, .long d] ++ List.replicate (5 - (lg_sl [.ref (h 0), .int v, .long d]).length) Slot.unset).toArray = ls at hl ⊢
  have hl : lv_has ls 5 [(0, .ref (h 0)), (1, .int v), (2, .long d)] := hl
  refine lv_aload_n hx hb dL_tell_0 rfl (lv_at hl 0 rfl) ?_
  refine lv_iload_n hx hb dL_tell_1 rfl (lv_at hl 1 rfl) ?_
  refine lv_lload_n hx hb dL_tell_2 rfl (lv_at hl 2 rfl) ?_
  have hL0 := tw_code B (hts _ List.mem_cons_self)
  obtain ⟨z0, L1, eL0, z0a, z0b, z0c, z0d, hL1⟩ := tw_one hL0
  obtain ⟨z1, L2, eL1, z1a, z1b, z1c, z1d, hL2⟩ := tw_one hL1
  refine bo_t (E := "java/util/NoSuchElementException") (As := [.int v, .long d]) (rest := []) (n := 2) ⟨hx, hb, hml, hown, htg⟩ hM (cwV 2 htg gL_25 rfl hrc hrs (by decide +kernel) ⟨hfr, hlo⟩) hK hP hD hA hH hN hl.1 rfl rfl (Nat.le_of_ble_eq_true rfl) dL_tell_3 (Nat.le_of_ble_eq_true rfl) (Nat.le_of_ble_eq_true rfl) [z0] z1 L2 (by rw [eL0, eL1]; rfl) (fun w hw => by
          cases List.mem_singleton.mp hw
          exact ⟨by rw [z0d]; decide, "java/lang/IllegalArgumentException", by rw [z0d]; exact htg _ hL_19, by decide⟩) (by simp [covers, z1a, z1b]) (by rw [z1d]; decide) (by rw [z1d]; exact htg _ hL_29) (fun x H locs hP hS => ?_)
  rw [z1c]
  refine lv_astore (lv' := [(4, .ref x), (0, .ref (h 0)), (1, .int v), (2, .long d)]) hx hb dL_tell_13 hl (by decide) rfl (fun ls hl => ?_)
  refine lv_iconst (v := nI 2) hx hb dL_tell_15 (by decide) ?_
  exact W.iret (v := nI 2) hx hb hr (fun t ht hW => ⟨⟨_, (), rfl, rfl, by rw [ht]; exact hP, va_K.moved hW.alike hK, hD⟩, hS.F ht⟩) hS.2.2 dL_tell_16
set_option maxRecDepth 100000 in
set_option maxHeartbeats 4000000 in
theorem t_tell_t3 (l : Launch) (σ : BJ) (v : Int32) (d : Int64) {rm : Room} (hM : tB l yX0_tell wsX0_tell rm TXL σ [.int v, .long d] "java/lang/UnsupportedOperationException") (hrc : rm.cells = 1) (hrs : rm.slots = 6) (hfr : rm.frames + 1 ≤ 8) (hlo : 8 + (5 + 11) + rm.locals ≤ 170) : tW l yL_tell wsL_tell σ (fun _ => [.int v, .long d]) 3 none σ := by
  intro dC dI cI cJ h o f sz
  refine va_MetW (cc := cL_tell) (maxL := 5) (ret := (some .int)) (hh := [(0, 6, 9, 19), (0, 6, 13, 29), (0, 6, 17, 13)]) (by decide) rfl ?_
  intro p e s m args below meth c s₁ B hml hv
  obtain ⟨rfl, hsz, hP, hK, hD0, hH, hN⟩ := hv
  have hx := B.exec
  have hb := B.bytes
  have hr := B.returns
  have hts := atoms_spec (ws := wsL_tell) B.pre
  have hown : s.vm.findClass RL = some m.cls := findClass_of_methodNamed B.named
  subst hsz
  have htg : ∀ w ∈ GW, w.before _ s = true := fun w h => hts w (List.mem_cons_of_mem _ h)
  have hD := hD0.self (sz := s.heap.size)
  generalize hAe : va_A (wBO cI cJ h σ o f) s.heap.size = A at hD ⊢
  have hA : ∀ q : Nat, s.heap.size ≤ q → A q := fun q h => by rw [← hAe]; exact Or.inr h
  have hS : va_S A s.heap s.heap [] := va_S.rf
  have hl := lv_entry [.ref (h 0), .int v, .long d] (n := 5) (Nat.le_of_ble_eq_true rfl)
  rw [lg_entry_eq]
  generalize (lg_sl [.ref (h 0), .int v, .long d] ++ List.replicate (5 - (lg_sl [.ref (h 0), .int v, .long d]).length) Slot.unset).toArray = ls at hl ⊢
  have hl : lv_has ls 5 [(0, .ref (h 0)), (1, .int v), (2, .long d)] := hl
  refine lv_aload_n hx hb dL_tell_0 rfl (lv_at hl 0 rfl) ?_
  refine lv_iload_n hx hb dL_tell_1 rfl (lv_at hl 1 rfl) ?_
  refine lv_lload_n hx hb dL_tell_2 rfl (lv_at hl 2 rfl) ?_
  have hL0 := tw_code B (hts _ List.mem_cons_self)
  obtain ⟨z0, L1, eL0, z0a, z0b, z0c, z0d, hL1⟩ := tw_one hL0
  obtain ⟨z1, L2, eL1, z1a, z1b, z1c, z1d, hL2⟩ := tw_one hL1
  obtain ⟨z2, L3, eL2, z2a, z2b, z2c, z2d, hL3⟩ := tw_one hL2
  refine bo_t (E := "java/lang/UnsupportedOperationException") (As := [.int v, .long d]) (rest := []) (n := 2) ⟨hx, hb, hml, hown, htg⟩ hM (cwV 2 htg gL_25 rfl hrc hrs (by decide +kernel) ⟨hfr, hlo⟩) hK hP hD hA hH hN hl.1 rfl rfl (Nat.le_of_ble_eq_true rfl) dL_tell_3 (Nat.le_of_ble_eq_true rfl) (Nat.le_of_ble_eq_true rfl) [z0, z1] z2 L3 (by rw [eL0, eL1, eL2]; rfl) (fun w hw => by
          rcases List.mem_cons.mp hw with h9 | h9
          · cases h9; exact ⟨by rw [z0d]; decide, "java/lang/IllegalArgumentException", by rw [z0d]; exact htg _ hL_19, by decide⟩
          · cases List.mem_singleton.mp h9; exact ⟨by rw [z1d]; decide, "java/util/NoSuchElementException", by rw [z1d]; exact htg _ hL_29, by decide⟩) (by simp [covers, z2a, z2b]) (by rw [z2d]; decide) (by rw [z2d]; exact htg _ hL_13) (fun x H locs hP hS => ?_)
  rw [z2c]
  refine lv_astore (lv' := [(4, .ref x), (0, .ref (h 0)), (1, .int v), (2, .long d)]) hx hb dL_tell_17 hl (by decide) rfl (fun ls hl => ?_)
  refine lv_iconst (v := nI 3) hx hb dL_tell_19 (by decide) ?_
  exact W.iret (v := nI 3) hx hb hr (fun t ht hW => ⟨⟨_, (), rfl, rfl, by rw [ht]; exact hP, va_K.moved hW.alike hK, hD⟩, hS.F ht⟩) hS.2.2 dL_tell_20
set_option maxRecDepth 100000 in
set_option maxHeartbeats 4000000 in
theorem t_untell_wv (l : Launch) (σ σ' : BJ) (v : Int32) {rm : Room} (hM : wBv l yX0_untell wsX0_untell rm σ [.int v] σ') (hrc : rm.cells = 0) (hrs : rm.slots = 0) (hfr : rm.frames + 1 ≤ 8) (hlo : 8 + (2 + 11) + rm.locals ≤ 170) : tW l yL_untell wsL_untell σ (fun _ => [.int v]) 0 none σ' := by
  intro dC dI cI cJ h o f sz
  refine va_MetW (cc := cL_untell) (maxL := 3) (ret := (some .int)) (hh := [(0, 5, 8, 19), (0, 5, 11, 29), (0, 5, 14, 13)]) (by decide) rfl ?_
  intro p e s m args below meth c s₁ B hml hv
  obtain ⟨rfl, hsz, hP, hK, hD0, hH, hN⟩ := hv
  have hx := B.exec
  have hb := B.bytes
  have hr := B.returns
  have hts := atoms_spec (ws := wsL_untell) B.pre
  have hown : s.vm.findClass RL = some m.cls := findClass_of_methodNamed B.named
  subst hsz
  have htg : ∀ w ∈ GW, w.before _ s = true := fun w h => hts w (List.mem_cons_of_mem _ h)
  have hD := hD0.self (sz := s.heap.size)
  generalize hAe : va_A (wBO cI cJ h σ o f) s.heap.size = A at hD ⊢
  have hA : ∀ q : Nat, s.heap.size ≤ q → A q := fun q h => by rw [← hAe]; exact Or.inr h
  have hS : va_S A s.heap s.heap [] := va_S.rf
  have hl := lv_entry [.ref (h 0), .int v] (n := 3) (Nat.le_of_ble_eq_true rfl)
  rw [lg_entry_eq]
  generalize (lg_sl [.ref (h 0), .int v] ++ List.replicate (3 - (lg_sl [.ref (h 0), .int v]).length) Slot.unset).toArray = ls at hl ⊢
  have hl : lv_has ls 3 [(0, .ref (h 0)), (1, .int v)] := hl
  refine lv_aload_n hx hb dL_untell_0 rfl (lv_at hl 0 rfl) ?_
  refine lv_iload_n hx hb dL_untell_1 rfl (lv_at hl 1 rfl) ?_
  refine bo_wv (As := [.int v]) (rest := []) (n := 1) ⟨hx, hb, hml, hown, htg⟩ hM (cwV 1 htg gL_31 rfl hrc hrs (by decide +kernel) ⟨hfr, hlo⟩) hK hP hD hS hA hl.1 rfl rfl (Nat.le_of_ble_eq_true rfl) dL_untell_2 (Nat.zero_le _) (Nat.zero_le _) (fun H locs hP hD hS => ?_)
  refine lv_goto (tgt := 17) hx hb dL_untell_5 (by decide) ?_
  refine lv_iconst (v := nI 0) hx hb dL_untell_17 (by decide) ?_
  refine W.widen (k := 1) (n := 6) (by decide) (by decide) ?_
  exact W.iret (v := nI 0) hx hb hr (fun t ht hW => ⟨⟨_, (), rfl, rfl, by rw [ht]; exact hP, va_K.moved hW.alike hK, hD⟩, hS.F ht⟩) hS.2.2 dL_untell_18
set_option maxRecDepth 100000 in
set_option maxHeartbeats 4000000 in
theorem t_untell_t1 (l : Launch) (σ : BJ) (v : Int32) {rm : Room} (hM : tB l yX0_untell wsX0_untell rm TXL σ [.int v] "java/lang/IllegalArgumentException") (hrc : rm.cells = 1) (hrs : rm.slots = 6) (hfr : rm.frames + 1 ≤ 8) (hlo : 8 + (2 + 11) + rm.locals ≤ 170) : tW l yL_untell wsL_untell σ (fun _ => [.int v]) 1 none σ := by
  intro dC dI cI cJ h o f sz
  refine va_MetW (cc := cL_untell) (maxL := 3) (ret := (some .int)) (hh := [(0, 5, 8, 19), (0, 5, 11, 29), (0, 5, 14, 13)]) (by decide) rfl ?_
  intro p e s m args below meth c s₁ B hml hv
  obtain ⟨rfl, hsz, hP, hK, hD0, hH, hN⟩ := hv
  have hx := B.exec
  have hb := B.bytes
  have hr := B.returns
  have hts := atoms_spec (ws := wsL_untell) B.pre
  have hown : s.vm.findClass RL = some m.cls := findClass_of_methodNamed B.named
  subst hsz
  have htg : ∀ w ∈ GW, w.before _ s = true := fun w h => hts w (List.mem_cons_of_mem _ h)
  have hD := hD0.self (sz := s.heap.size)
  generalize hAe : va_A (wBO cI cJ h σ o f) s.heap.size = A at hD ⊢
  have hA : ∀ q : Nat, s.heap.size ≤ q → A q := fun q h => by rw [← hAe]; exact Or.inr h
  have hS : va_S A s.heap s.heap [] := va_S.rf
  have hl := lv_entry [.ref (h 0), .int v] (n := 3) (Nat.le_of_ble_eq_true rfl)
  rw [lg_entry_eq]
  generalize (lg_sl [.ref (h 0), .int v] ++ List.replicate (3 - (lg_sl [.ref (h 0), .int v]).length) Slot.unset).toArray = ls at hl ⊢
  have hl : lv_has ls 3 [(0, .ref (h 0)), (1, .int v)] := hl
  refine lv_aload_n hx hb dL_untell_0 rfl (lv_at hl 0 rfl) ?_
  refine lv_iload_n hx hb dL_untell_1 rfl (lv_at hl 1 rfl) ?_
  have hL0 := tw_code B (hts _ List.mem_cons_self)
  obtain ⟨z0, L1, eL0, z0a, z0b, z0c, z0d, hL1⟩ := tw_one hL0
  refine bo_t (E := "java/lang/IllegalArgumentException") (As := [.int v]) (rest := []) (n := 1) ⟨hx, hb, hml, hown, htg⟩ hM (cwV 1 htg gL_31 rfl hrc hrs (by decide +kernel) ⟨hfr, hlo⟩) hK hP hD hA hH hN hl.1 rfl rfl (Nat.le_of_ble_eq_true rfl) dL_untell_2 (Nat.le_of_ble_eq_true rfl) (Nat.le_of_ble_eq_true rfl) [] z0 L1 (by rw [eL0]; rfl) (fun w hw => absurd hw List.not_mem_nil) (by simp [covers, z0a, z0b]) (by rw [z0d]; decide) (by rw [z0d]; exact htg _ hL_19) (fun x H locs hP hS => ?_)
  rw [z0c]
  refine lv_astore_n (lv' := [(2, .ref x), (0, .ref (h 0)), (1, .int v)]) hx hb dL_untell_8 rfl hl (by decide) rfl (fun ls hl => ?_)
  refine lv_iconst (v := nI 1) hx hb dL_untell_9 (by decide) ?_
  exact W.iret (v := nI 1) hx hb hr (fun t ht hW => ⟨⟨_, (), rfl, rfl, by rw [ht]; exact hP, va_K.moved hW.alike hK, hD⟩, hS.F ht⟩) hS.2.2 dL_untell_10
set_option maxRecDepth 100000 in
set_option maxHeartbeats 4000000 in
theorem t_untell_t2 (l : Launch) (σ : BJ) (v : Int32) {rm : Room} (hM : tB l yX0_untell wsX0_untell rm TXL σ [.int v] "java/util/NoSuchElementException") (hrc : rm.cells = 1) (hrs : rm.slots = 6) (hfr : rm.frames + 1 ≤ 8) (hlo : 8 + (2 + 11) + rm.locals ≤ 170) : tW l yL_untell wsL_untell σ (fun _ => [.int v]) 2 none σ := by
  intro dC dI cI cJ h o f sz
  refine va_MetW (cc := cL_untell) (maxL := 3) (ret := (some .int)) (hh := [(0, 5, 8, 19), (0, 5, 11, 29), (0, 5, 14, 13)]) (by decide) rfl ?_
  intro p e s m args below meth c s₁ B hml hv
  obtain ⟨rfl, hsz, hP, hK, hD0, hH, hN⟩ := hv
  have hx := B.exec
  have hb := B.bytes
  have hr := B.returns
  have hts := atoms_spec (ws := wsL_untell) B.pre
  have hown : s.vm.findClass RL = some m.cls := findClass_of_methodNamed B.named
  subst hsz
  have htg : ∀ w ∈ GW, w.before _ s = true := fun w h => hts w (List.mem_cons_of_mem _ h)
  have hD := hD0.self (sz := s.heap.size)
  generalize hAe : va_A (wBO cI cJ h σ o f) s.heap.size = A at hD ⊢
  have hA : ∀ q : Nat, s.heap.size ≤ q → A q := fun q h => by rw [← hAe]; exact Or.inr h
  have hS : va_S A s.heap s.heap [] := va_S.rf
  have hl := lv_entry [.ref (h 0), .int v] (n := 3) (Nat.le_of_ble_eq_true rfl)
  rw [lg_entry_eq]
  generalize (lg_sl [.ref (h 0), .int v] ++ List.replicate (3 - (lg_sl [.ref (h 0), .int v]).length) Slot.unset).toArray = ls at hl ⊢
  have hl : lv_has ls 3 [(0, .ref (h 0)), (1, .int v)] := hl
  refine lv_aload_n hx hb dL_untell_0 rfl (lv_at hl 0 rfl) ?_
  refine lv_iload_n hx hb dL_untell_1 rfl (lv_at hl 1 rfl) ?_
  have hL0 := tw_code B (hts _ List.mem_cons_self)
  obtain ⟨z0, L1, eL0, z0a, z0b, z0c, z0d, hL1⟩ := tw_one hL0
  obtain ⟨z1, L2, eL1, z1a, z1b, z1c, z1d, hL2⟩ := tw_one hL1
  refine bo_t (E := "java/util/NoSuchElementException") (As := [.int v]) (rest := []) (n := 1) ⟨hx, hb, hml, hown, htg⟩ hM (cwV 1 htg gL_31 rfl hrc hrs (by decide +kernel) ⟨hfr, hlo⟩) hK hP hD hA hH hN hl.1 rfl rfl (Nat.le_of_ble_eq_true rfl) dL_untell_2 (Nat.le_of_ble_eq_true rfl) (Nat.le_of_ble_eq_true rfl) [z0] z1 L2 (by rw [eL0, eL1]; rfl) (fun w hw => by
          cases List.mem_singleton.mp hw
          exact ⟨by rw [z0d]; decide, "java/lang/IllegalArgumentException", by rw [z0d]; exact htg _ hL_19, by decide⟩) (by simp [covers, z1a, z1b]) (by rw [z1d]; decide) (by rw [z1d]; exact htg _ hL_29) (fun x H locs hP hS => ?_)
  rw [z1c]
  refine lv_astore_n (lv' := [(2, .ref x), (0, .ref (h 0)), (1, .int v)]) hx hb dL_untell_11 rfl hl (by decide) rfl (fun ls hl => ?_)
  refine lv_iconst (v := nI 2) hx hb dL_untell_12 (by decide) ?_
  exact W.iret (v := nI 2) hx hb hr (fun t ht hW => ⟨⟨_, (), rfl, rfl, by rw [ht]; exact hP, va_K.moved hW.alike hK, hD⟩, hS.F ht⟩) hS.2.2 dL_untell_13
set_option maxRecDepth 100000 in
set_option maxHeartbeats 4000000 in
theorem t_untell_t3 (l : Launch) (σ : BJ) (v : Int32) {rm : Room} (hM : tB l yX0_untell wsX0_untell rm TXL σ [.int v] "java/lang/UnsupportedOperationException") (hrc : rm.cells = 1) (hrs : rm.slots = 6) (hfr : rm.frames + 1 ≤ 8) (hlo : 8 + (2 + 11) + rm.locals ≤ 170) : tW l yL_untell wsL_untell σ (fun _ => [.int v]) 3 none σ := by
  intro dC dI cI cJ h o f sz
  refine va_MetW (cc := cL_untell) (maxL := 3) (ret := (some .int)) (hh := [(0, 5, 8, 19), (0, 5, 11, 29), (0, 5, 14, 13)]) (by decide) rfl ?_
  intro p e s m args below meth c s₁ B hml hv
  obtain ⟨rfl, hsz, hP, hK, hD0, hH, hN⟩ := hv
  have hx := B.exec
  have hb := B.bytes
  have hr := B.returns
  have hts := atoms_spec (ws := wsL_untell) B.pre
  have hown : s.vm.findClass RL = some m.cls := findClass_of_methodNamed B.named
  subst hsz
  have htg : ∀ w ∈ GW, w.before _ s = true := fun w h => hts w (List.mem_cons_of_mem _ h)
  have hD := hD0.self (sz := s.heap.size)
  generalize hAe : va_A (wBO cI cJ h σ o f) s.heap.size = A at hD ⊢
  have hA : ∀ q : Nat, s.heap.size ≤ q → A q := fun q h => by rw [← hAe]; exact Or.inr h
  have hS : va_S A s.heap s.heap [] := va_S.rf
  have hl := lv_entry [.ref (h 0), .int v] (n := 3) (Nat.le_of_ble_eq_true rfl)
  rw [lg_entry_eq]
  generalize (lg_sl [.ref (h 0), .int v] ++ List.replicate (3 - (lg_sl [.ref (h 0), .int v]).length) Slot.unset).toArray = ls at hl ⊢
  have hl : lv_has ls 3 [(0, .ref (h 0)), (1, .int v)] := hl
  refine lv_aload_n hx hb dL_untell_0 rfl (lv_at hl 0 rfl) ?_
  refine lv_iload_n hx hb dL_untell_1 rfl (lv_at hl 1 rfl) ?_
  have hL0 := tw_code B (hts _ List.mem_cons_self)
  obtain ⟨z0, L1, eL0, z0a, z0b, z0c, z0d, hL1⟩ := tw_one hL0
  obtain ⟨z1, L2, eL1, z1a, z1b, z1c, z1d, hL2⟩ := tw_one hL1
  obtain ⟨z2, L3, eL2, z2a, z2b, z2c, z2d, hL3⟩ := tw_one hL2
  refine bo_t (E := "java/lang/UnsupportedOperationException") (As := [.int v]) (rest := []) (n := 1) ⟨hx, hb, hml, hown, htg⟩ hM (cwV 1 htg gL_31 rfl hrc hrs (by decide +kernel) ⟨hfr, hlo⟩) hK hP hD hA hH hN hl.1 rfl rfl (Nat.le_of_ble_eq_true rfl) dL_untell_2 (Nat.le_of_ble_eq_true rfl) (Nat.le_of_ble_eq_true rfl) [z0, z1] z2 L3 (by rw [eL0, eL1, eL2]; rfl) (fun w hw => by
          rcases List.mem_cons.mp hw with h9 | h9
          · cases h9; exact ⟨by rw [z0d]; decide, "java/lang/IllegalArgumentException", by rw [z0d]; exact htg _ hL_19, by decide⟩
          · cases List.mem_singleton.mp h9; exact ⟨by rw [z1d]; decide, "java/util/NoSuchElementException", by rw [z1d]; exact htg _ hL_29, by decide⟩) (by simp [covers, z2a, z2b]) (by rw [z2d]; decide) (by rw [z2d]; exact htg _ hL_13) (fun x H locs hP hS => ?_)
  rw [z2c]
  refine lv_astore_n (lv' := [(2, .ref x), (0, .ref (h 0)), (1, .int v)]) hx hb dL_untell_14 rfl hl (by decide) rfl (fun ls hl => ?_)
  refine lv_iconst (v := nI 3) hx hb dL_untell_15 (by decide) ?_
  exact W.iret (v := nI 3) hx hb hr (fun t ht hW => ⟨⟨_, (), rfl, rfl, by rw [ht]; exact hP, va_K.moved hW.alike hK, hD⟩, hS.F ht⟩) hS.2.2 dL_untell_16
set_option maxRecDepth 100000 in
set_option maxHeartbeats 4000000 in
theorem t_learn_rv (l : Launch) (σ : BJ) (k : Int64) (d : Int64) {rm : Room} (hM : rBv l yX0_learn wsX0_learn rm σ [.long k, .long d]) (hrc : rm.cells = 0) (hrs : rm.slots = 0) (hfr : rm.frames + 1 ≤ 8) (hlo : 8 + (6 + 11) + rm.locals ≤ 170) : tW l yL_learn wsL_learn σ (fun _ => [.long k, .long d]) 0 none σ := by
  intro dC dI cI cJ h o f sz
  refine va_MetW (cc := cL_learn) (maxL := 6) (ret := (some .int)) (hh := [(0, 6, 9, 13)]) (by decide) rfl ?_
  intro p e s m args below meth c s₁ B hml hv
  obtain ⟨rfl, hsz, hP, hK, hD0, hH, hN⟩ := hv
  have hx := B.exec
  have hb := B.bytes
  have hr := B.returns
  have hts := atoms_spec (ws := wsL_learn) B.pre
  have hown : s.vm.findClass RL = some m.cls := findClass_of_methodNamed B.named
  subst hsz
  have htg : ∀ w ∈ GW, w.before _ s = true := fun w h => hts w (List.mem_cons_of_mem _ h)
  have hD := hD0.self (sz := s.heap.size)
  generalize hAe : va_A (wBO cI cJ h σ o f) s.heap.size = A at hD ⊢
  have hA : ∀ q : Nat, s.heap.size ≤ q → A q := fun q h => by rw [← hAe]; exact Or.inr h
  have hS : va_S A s.heap s.heap [] := va_S.rf
  have hl := lv_entry [.ref (h 0), .long k, .long d] (n := 6) (Nat.le_of_ble_eq_true rfl)
  rw [lg_entry_eq]
  generalize (lg_sl [.ref (h 0), .long k, .long d] ++ List.replicate (6 - (lg_sl [.ref (h 0), .long k, .long d]).length) Slot.unset).toArray = ls at hl ⊢
  have hl : lv_has ls 6 [(0, .ref (h 0)), (1, .long k), (3, .long d)] := hl
  refine lv_aload_n hx hb dL_learn_0 rfl (lv_at hl 0 rfl) ?_
  refine lv_lload_n hx hb dL_learn_1 rfl (lv_at hl 1 rfl) ?_
  refine lv_lload_n hx hb dL_learn_2 rfl (lv_at hl 2 rfl) ?_
  refine bo_rv (As := [.long k, .long d]) (rest := []) (n := 2) ⟨hx, hb, hml, hown, htg⟩ hM (cwV 2 htg gL_34 rfl hrc hrs (by decide +kernel) ⟨hfr, hlo⟩) hK hP hD hS hA hl.1 rfl rfl (Nat.le_of_ble_eq_true rfl) dL_learn_3 (Nat.zero_le _) (Nat.zero_le _) (fun H locs hP hD hS => ?_)
  refine lv_goto (tgt := 13) hx hb dL_learn_6 (by decide) ?_
  refine lv_iconst (v := nI 0) hx hb dL_learn_13 (by decide) ?_
  refine W.widen (k := 1) (n := 6) (by decide) (by decide) ?_
  exact W.iret (v := nI 0) hx hb hr (fun t ht hW => ⟨⟨_, (), rfl, rfl, by rw [ht]; exact hP, va_K.moved hW.alike hK, hD⟩, hS.F ht⟩) hS.2.2 dL_learn_14
set_option maxRecDepth 100000 in
set_option maxHeartbeats 4000000 in
theorem t_learn_wv (l : Launch) (σ σ' : BJ) (k : Int64) (d : Int64) {rm : Room} (hM : wBv l yX0_learn wsX0_learn rm σ [.long k, .long d] σ') (hrc : rm.cells = 0) (hrs : rm.slots = 0) (hfr : rm.frames + 1 ≤ 8) (hlo : 8 + (6 + 11) + rm.locals ≤ 170) : tW l yL_learn wsL_learn σ (fun _ => [.long k, .long d]) 0 none σ' := by
  intro dC dI cI cJ h o f sz
  refine va_MetW (cc := cL_learn) (maxL := 6) (ret := (some .int)) (hh := [(0, 6, 9, 13)]) (by decide) rfl ?_
  intro p e s m args below meth c s₁ B hml hv
  obtain ⟨rfl, hsz, hP, hK, hD0, hH, hN⟩ := hv
  have hx := B.exec
  have hb := B.bytes
  have hr := B.returns
  have hts := atoms_spec (ws := wsL_learn) B.pre
  have hown : s.vm.findClass RL = some m.cls := findClass_of_methodNamed B.named
  subst hsz
  have htg : ∀ w ∈ GW, w.before _ s = true := fun w h => hts w (List.mem_cons_of_mem _ h)
  have hD := hD0.self (sz := s.heap.size)
  generalize hAe : va_A (wBO cI cJ h σ o f) s.heap.size = A at hD ⊢
  have hA : ∀ q : Nat, s.heap.size ≤ q → A q := fun q h => by rw [← hAe]; exact Or.inr h
  have hS : va_S A s.heap s.heap [] := va_S.rf
  have hl := lv_entry [.ref (h 0), .long k, .long d] (n := 6) (Nat.le_of_ble_eq_true rfl)
  rw [lg_entry_eq]
  generalize (lg_sl [.ref (h 0), .long k, .long d] ++ List.replicate (6 - (lg_sl [.ref (h 0), .long k, .long d]).length) Slot.unset).toArray = ls at hl ⊢
  have hl : lv_has ls 6 [(0, .ref (h 0)), (1, .long k), (3, .long d)] := hl
  refine lv_aload_n hx hb dL_learn_0 rfl (lv_at hl 0 rfl) ?_
  refine lv_lload_n hx hb dL_learn_1 rfl (lv_at hl 1 rfl) ?_
  refine lv_lload_n hx hb dL_learn_2 rfl (lv_at hl 2 rfl) ?_
  refine bo_wv (As := [.long k, .long d]) (rest := []) (n := 2) ⟨hx, hb, hml, hown, htg⟩ hM (cwV 2 htg gL_34 rfl hrc hrs (by decide +kernel) ⟨hfr, hlo⟩) hK hP hD hS hA hl.1 rfl rfl (Nat.le_of_ble_eq_true rfl) dL_learn_3 (Nat.zero_le _) (Nat.zero_le _) (fun H locs hP hD hS => ?_)
  refine lv_goto (tgt := 13) hx hb dL_learn_6 (by decide) ?_
  refine lv_iconst (v := nI 0) hx hb dL_learn_13 (by decide) ?_
  refine W.widen (k := 1) (n := 6) (by decide) (by decide) ?_
  exact W.iret (v := nI 0) hx hb hr (fun t ht hW => ⟨⟨_, (), rfl, rfl, by rw [ht]; exact hP, va_K.moved hW.alike hK, hD⟩, hS.F ht⟩) hS.2.2 dL_learn_14
set_option maxRecDepth 100000 in
set_option maxHeartbeats 4000000 in
theorem t_learn_t1 (l : Launch) (σ : BJ) (k : Int64) (d : Int64) {rm : Room} (hM : tB l yX0_learn wsX0_learn rm TXL σ [.long k, .long d] "java/lang/UnsupportedOperationException") (hrc : rm.cells = 1) (hrs : rm.slots = 6) (hfr : rm.frames + 1 ≤ 8) (hlo : 8 + (6 + 11) + rm.locals ≤ 170) : tW l yL_learn wsL_learn σ (fun _ => [.long k, .long d]) 1 none σ := by
  intro dC dI cI cJ h o f sz
  refine va_MetW (cc := cL_learn) (maxL := 6) (ret := (some .int)) (hh := [(0, 6, 9, 13)]) (by decide) rfl ?_
  intro p e s m args below meth c s₁ B hml hv
  obtain ⟨rfl, hsz, hP, hK, hD0, hH, hN⟩ := hv
  have hx := B.exec
  have hb := B.bytes
  have hr := B.returns
  have hts := atoms_spec (ws := wsL_learn) B.pre
  have hown : s.vm.findClass RL = some m.cls := findClass_of_methodNamed B.named
  subst hsz
  have htg : ∀ w ∈ GW, w.before _ s = true := fun w h => hts w (List.mem_cons_of_mem _ h)
  have hD := hD0.self (sz := s.heap.size)
  generalize hAe : va_A (wBO cI cJ h σ o f) s.heap.size = A at hD ⊢
  have hA : ∀ q : Nat, s.heap.size ≤ q → A q := fun q h => by rw [← hAe]; exact Or.inr h
  have hS : va_S A s.heap s.heap [] := va_S.rf
  have hl := lv_entry [.ref (h 0), .long k, .long d] (n := 6) (Nat.le_of_ble_eq_true rfl)
  rw [lg_entry_eq]
  generalize (lg_sl [.ref (h 0), .long k, .long d] ++ List.replicate (6 - (lg_sl [.ref (h 0), .long k, .long d]).length) Slot.unset).toArray = ls at hl ⊢
  have hl : lv_has ls 6 [(0, .ref (h 0)), (1, .long k), (3, .long d)] := hl
  refine lv_aload_n hx hb dL_learn_0 rfl (lv_at hl 0 rfl) ?_
  refine lv_lload_n hx hb dL_learn_1 rfl (lv_at hl 1 rfl) ?_
  refine lv_lload_n hx hb dL_learn_2 rfl (lv_at hl 2 rfl) ?_
  have hL0 := tw_code B (hts _ List.mem_cons_self)
  obtain ⟨z0, L1, eL0, z0a, z0b, z0c, z0d, hL1⟩ := tw_one hL0
  refine bo_t (E := "java/lang/UnsupportedOperationException") (As := [.long k, .long d]) (rest := []) (n := 2) ⟨hx, hb, hml, hown, htg⟩ hM (cwV 2 htg gL_34 rfl hrc hrs (by decide +kernel) ⟨hfr, hlo⟩) hK hP hD hA hH hN hl.1 rfl rfl (Nat.le_of_ble_eq_true rfl) dL_learn_3 (Nat.le_of_ble_eq_true rfl) (Nat.le_of_ble_eq_true rfl) [] z0 L1 (by rw [eL0]; rfl) (fun w hw => absurd hw List.not_mem_nil) (by simp [covers, z0a, z0b]) (by rw [z0d]; decide) (by rw [z0d]; exact htg _ hL_13) (fun x H locs hP hS => ?_)
  rw [z0c]
  refine lv_astore (lv' := [(5, .ref x), (0, .ref (h 0)), (1, .long k), (3, .long d)]) hx hb dL_learn_9 hl (by decide) rfl (fun ls hl => ?_)
  refine lv_iconst (v := nI 1) hx hb dL_learn_11 (by decide) ?_
  exact W.iret (v := nI 1) hx hb hr (fun t ht hW => ⟨⟨_, (), rfl, rfl, by rw [ht]; exact hP, va_K.moved hW.alike hK, hD⟩, hS.F ht⟩) hS.2.2 dL_learn_12
set_option maxRecDepth 100000 in
set_option maxHeartbeats 4000000 in
theorem t_pin_wv (l : Launch) (σ σ' : BJ) (v : Int32) (d : Int64) {rm : Room} (hM : wBv l yX0_pin wsX0_pin rm σ [.int v, .long d] σ') (hrc : rm.cells = 0) (hrs : rm.slots = 0) (hfr : rm.frames + 1 ≤ 8) (hlo : 8 + (4 + 11) + rm.locals ≤ 170) : tW l yL_pin wsL_pin σ (fun _ => [.int v, .long d]) 0 none σ' := by
  intro dC dI cI cJ h o f sz
  refine va_MetW (cc := cL_pin) (maxL := 5) (ret := (some .int)) (hh := [(0, 6, 9, 19)]) (by decide) rfl ?_
  intro p e s m args below meth c s₁ B hml hv
  obtain ⟨rfl, hsz, hP, hK, hD0, hH, hN⟩ := hv
  have hx := B.exec
  have hb := B.bytes
  have hr := B.returns
  have hts := atoms_spec (ws := wsL_pin) B.pre
  have hown : s.vm.findClass RL = some m.cls := findClass_of_methodNamed B.named
  subst hsz
  have htg : ∀ w ∈ GW, w.before _ s = true := fun w h => hts w (List.mem_cons_of_mem _ h)
  have hD := hD0.self (sz := s.heap.size)
  generalize hAe : va_A (wBO cI cJ h σ o f) s.heap.size = A at hD ⊢
  have hA : ∀ q : Nat, s.heap.size ≤ q → A q := fun q h => by rw [← hAe]; exact Or.inr h
  have hS : va_S A s.heap s.heap [] := va_S.rf
  have hl := lv_entry [.ref (h 0), .int v, .long d] (n := 5) (Nat.le_of_ble_eq_true rfl)
  rw [lg_entry_eq]
  generalize (lg_sl [.ref (h 0), .int v, .long d] ++ List.replicate (5 - (lg_sl [.ref (h 0), .int v, .long d]).length) Slot.unset).toArray = ls at hl ⊢
  have hl : lv_has ls 5 [(0, .ref (h 0)), (1, .int v), (2, .long d)] := hl
  refine lv_aload_n hx hb dL_pin_0 rfl (lv_at hl 0 rfl) ?_
  refine lv_iload_n hx hb dL_pin_1 rfl (lv_at hl 1 rfl) ?_
  refine lv_lload_n hx hb dL_pin_2 rfl (lv_at hl 2 rfl) ?_
  refine bo_wv (As := [.int v, .long d]) (rest := []) (n := 2) ⟨hx, hb, hml, hown, htg⟩ hM (cwV 2 htg gL_38 rfl hrc hrs (by decide +kernel) ⟨hfr, hlo⟩) hK hP hD hS hA hl.1 rfl rfl (Nat.le_of_ble_eq_true rfl) dL_pin_3 (Nat.zero_le _) (Nat.zero_le _) (fun H locs hP hD hS => ?_)
  refine lv_goto (tgt := 13) hx hb dL_pin_6 (by decide) ?_
  refine lv_iconst (v := nI 0) hx hb dL_pin_13 (by decide) ?_
  refine W.widen (k := 1) (n := 6) (by decide) (by decide) ?_
  exact W.iret (v := nI 0) hx hb hr (fun t ht hW => ⟨⟨_, (), rfl, rfl, by rw [ht]; exact hP, va_K.moved hW.alike hK, hD⟩, hS.F ht⟩) hS.2.2 dL_pin_14
set_option maxRecDepth 100000 in
set_option maxHeartbeats 4000000 in
theorem t_pin_t1 (l : Launch) (σ : BJ) (v : Int32) (d : Int64) {rm : Room} (hM : tB l yX0_pin wsX0_pin rm TXL σ [.int v, .long d] "java/lang/IllegalArgumentException") (hrc : rm.cells = 1) (hrs : rm.slots = 6) (hfr : rm.frames + 1 ≤ 8) (hlo : 8 + (4 + 11) + rm.locals ≤ 170) : tW l yL_pin wsL_pin σ (fun _ => [.int v, .long d]) 1 none σ := by
  intro dC dI cI cJ h o f sz
  refine va_MetW (cc := cL_pin) (maxL := 5) (ret := (some .int)) (hh := [(0, 6, 9, 19)]) (by decide) rfl ?_
  intro p e s m args below meth c s₁ B hml hv
  obtain ⟨rfl, hsz, hP, hK, hD0, hH, hN⟩ := hv
  have hx := B.exec
  have hb := B.bytes
  have hr := B.returns
  have hts := atoms_spec (ws := wsL_pin) B.pre
  have hown : s.vm.findClass RL = some m.cls := findClass_of_methodNamed B.named
  subst hsz
  have htg : ∀ w ∈ GW, w.before _ s = true := fun w h => hts w (List.mem_cons_of_mem _ h)
  have hD := hD0.self (sz := s.heap.size)
  generalize hAe : va_A (wBO cI cJ h σ o f) s.heap.size = A at hD ⊢
  have hA : ∀ q : Nat, s.heap.size ≤ q → A q := fun q h => by rw [← hAe]; exact Or.inr h
  have hS : va_S A s.heap s.heap [] := va_S.rf
  have hl := lv_entry [.ref (h 0), .int v, .long d] (n := 5) (Nat.le_of_ble_eq_true rfl)
  rw [lg_entry_eq]
  generalize (lg_sl [.ref (h 0), .int v, .long d] ++ List.replicate (5 - (lg_sl [.ref (h 0), .int v, .long d]).length) Slot.unset).toArray = ls at hl ⊢
  have hl : lv_has ls 5 [(0, .ref (h 0)), (1, .int v), (2, .long d)] := hl
  refine lv_aload_n hx hb dL_pin_0 rfl (lv_at hl 0 rfl) ?_
  refine lv_iload_n hx hb dL_pin_1 rfl (lv_at hl 1 rfl) ?_
  refine lv_lload_n hx hb dL_pin_2 rfl (lv_at hl 2 rfl) ?_
  have hL0 := tw_code B (hts _ List.mem_cons_self)
  obtain ⟨z0, L1, eL0, z0a, z0b, z0c, z0d, hL1⟩ := tw_one hL0
  refine bo_t (E := "java/lang/IllegalArgumentException") (As := [.int v, .long d]) (rest := []) (n := 2) ⟨hx, hb, hml, hown, htg⟩ hM (cwV 2 htg gL_38 rfl hrc hrs (by decide +kernel) ⟨hfr, hlo⟩) hK hP hD hA hH hN hl.1 rfl rfl (Nat.le_of_ble_eq_true rfl) dL_pin_3 (Nat.le_of_ble_eq_true rfl) (Nat.le_of_ble_eq_true rfl) [] z0 L1 (by rw [eL0]; rfl) (fun w hw => absurd hw List.not_mem_nil) (by simp [covers, z0a, z0b]) (by rw [z0d]; decide) (by rw [z0d]; exact htg _ hL_19) (fun x H locs hP hS => ?_)
  rw [z0c]
  refine lv_astore (lv' := [(4, .ref x), (0, .ref (h 0)), (1, .int v), (2, .long d)]) hx hb dL_pin_9 hl (by decide) rfl (fun ls hl => ?_)
  refine lv_iconst (v := nI 1) hx hb dL_pin_11 (by decide) ?_
  exact W.iret (v := nI 1) hx hb hr (fun t ht hW => ⟨⟨_, (), rfl, rfl, by rw [ht]; exact hP, va_K.moved hW.alike hK, hD⟩, hS.F ht⟩) hS.2.2 dL_pin_12
set_option maxRecDepth 100000 in
set_option maxHeartbeats 4000000 in
theorem t_tag_rl (l : Launch) (σ : BJ) (r : Int64) (v : Int32) {rm : Room} (hM : rBl l yX0_tag wsX0_tag rm σ [.int v] r) (hrc : rm.cells = 0) (hrs : rm.slots = 0) (hfr : rm.frames + 1 ≤ 8) (hlo : 8 + (3 + 11) + rm.locals ≤ 170) : tW l yL_tag wsL_tag σ (fun o => [.int v, .ref o]) 0 (some r) σ := by
  intro dC dI cI cJ h o f sz
  refine va_MetW (cc := cL_tag) (maxL := 4) (ret := (some .int)) (hh := [(0, 8, 11, 19)]) (by decide) rfl ?_
  intro p e s m args below meth c s₁ B hml hv
  obtain ⟨rfl, hsz, hP, hK, hD0, hH, hN⟩ := hv
  have hx := B.exec
  have hb := B.bytes
  have hr := B.returns
  have hts := atoms_spec (ws := wsL_tag) B.pre
  have hown : s.vm.findClass RL = some m.cls := findClass_of_methodNamed B.named
  subst hsz
  have htg : ∀ w ∈ GW, w.before _ s = true := fun w h => hts w (List.mem_cons_of_mem _ h)
  have hD := hD0.self (sz := s.heap.size)
  generalize hAe : va_A (wBO cI cJ h σ o f) s.heap.size = A at hD ⊢
  have hA : ∀ q : Nat, s.heap.size ≤ q → A q := fun q h => by rw [← hAe]; exact Or.inr h
  have hS : va_S A s.heap s.heap [] := va_S.rf
  have hl := lv_entry [.ref (h 0), .int v, .ref o] (n := 4) (Nat.le_of_ble_eq_true rfl)
  rw [lg_entry_eq]
  generalize (lg_sl [.ref (h 0), .int v, .ref o] ++ List.replicate (4 - (lg_sl [.ref (h 0), .int v, .ref o]).length) Slot.unset).toArray = ls at hl ⊢
  have hl : lv_has ls 4 [(0, .ref (h 0)), (1, .int v), (2, .ref o)] := hl
  refine lv_aload_n hx hb dL_tag_0 rfl (lv_at hl 2 rfl) ?_
  refine lv_iconst (v := nI 0) hx hb dL_tag_1 (by decide) ?_
  refine lv_aload_n hx hb dL_tag_2 rfl (lv_at hl 0 rfl) ?_
  refine lv_iload_n hx hb dL_tag_3 rfl (lv_at hl 1 rfl) ?_
  refine bo_rl (As := [.int v]) (rest := [.int (nI 0), .ref o]) (n := 1) ⟨hx, hb, hml, hown, htg⟩ hM (cwV 1 htg gL_41 rfl hrc hrs (by decide +kernel) ⟨hfr, hlo⟩) hK hP hD hS hA hl.1 rfl rfl (Nat.le_of_ble_eq_true rfl) dL_tag_4 (Nat.zero_le _) (Nat.zero_le _) (fun H locs hP hD hS => ?_)
  refine xr_last (f := f) (i := 0) (x := r) hx hb hK hP hD hS 10 1 rfl rfl (by decide) (by decide) dL_tag_7 (fun H locs hP hD hS => ?_)
  have hP : va_P (dC, dI) vwCl (wBO cI cJ h σ o (vp_updL f 0 r)) H := hP
  have hD : va_D A (wBO cI cJ h σ o (vp_updL f 0 r)) := hD
  refine lv_goto (tgt := 14) hx hb dL_tag_8 (by decide) ?_
  refine lv_iconst (v := nI 0) hx hb dL_tag_14 (by decide) ?_
  refine W.widen (k := 1) (n := 6) (by decide) (by decide) ?_
  exact W.iret (v := nI 0) hx hb hr (fun t ht hW => ⟨⟨_, (), rfl, rfl, by rw [ht]; exact hP, va_K.moved hW.alike hK, hD⟩, hS.F ht⟩) hS.2.2 dL_tag_15
set_option maxRecDepth 100000 in
set_option maxHeartbeats 4000000 in
theorem t_tag_t1 (l : Launch) (σ : BJ) (v : Int32) {rm : Room} (hM : tB l yX0_tag wsX0_tag rm TXL σ [.int v] "java/lang/IllegalArgumentException") (hrc : rm.cells = 1) (hrs : rm.slots = 6) (hfr : rm.frames + 1 ≤ 8) (hlo : 8 + (3 + 11) + rm.locals ≤ 170) : tW l yL_tag wsL_tag σ (fun o => [.int v, .ref o]) 1 none σ := by
  intro dC dI cI cJ h o f sz
  refine va_MetW (cc := cL_tag) (maxL := 4) (ret := (some .int)) (hh := [(0, 8, 11, 19)]) (by decide) rfl ?_
  intro p e s m args below meth c s₁ B hml hv
  obtain ⟨rfl, hsz, hP, hK, hD0, hH, hN⟩ := hv
  have hx := B.exec
  have hb := B.bytes
  have hr := B.returns
  have hts := atoms_spec (ws := wsL_tag) B.pre
  have hown : s.vm.findClass RL = some m.cls := findClass_of_methodNamed B.named
  subst hsz
  have htg : ∀ w ∈ GW, w.before _ s = true := fun w h => hts w (List.mem_cons_of_mem _ h)
  have hD := hD0.self (sz := s.heap.size)
  generalize hAe : va_A (wBO cI cJ h σ o f) s.heap.size = A at hD ⊢
  have hA : ∀ q : Nat, s.heap.size ≤ q → A q := fun q h => by rw [← hAe]; exact Or.inr h
  have hS : va_S A s.heap s.heap [] := va_S.rf
  have hl := lv_entry [.ref (h 0), .int v, .ref o] (n := 4) (Nat.le_of_ble_eq_true rfl)
  rw [lg_entry_eq]
  generalize (lg_sl [.ref (h 0), .int v, .ref o] ++ List.replicate (4 - (lg_sl [.ref (h 0), .int v, .ref o]).length) Slot.unset).toArray = ls at hl ⊢
  have hl : lv_has ls 4 [(0, .ref (h 0)), (1, .int v), (2, .ref o)] := hl
  refine lv_aload_n hx hb dL_tag_0 rfl (lv_at hl 2 rfl) ?_
  refine lv_iconst (v := nI 0) hx hb dL_tag_1 (by decide) ?_
  refine lv_aload_n hx hb dL_tag_2 rfl (lv_at hl 0 rfl) ?_
  refine lv_iload_n hx hb dL_tag_3 rfl (lv_at hl 1 rfl) ?_
  have hL0 := tw_code B (hts _ List.mem_cons_self)
  obtain ⟨z0, L1, eL0, z0a, z0b, z0c, z0d, hL1⟩ := tw_one hL0
  refine bo_t (E := "java/lang/IllegalArgumentException") (As := [.int v]) (rest := [.int (nI 0), .ref o]) (n := 1) ⟨hx, hb, hml, hown, htg⟩ hM (cwV 1 htg gL_41 rfl hrc hrs (by decide +kernel) ⟨hfr, hlo⟩) hK hP hD hA hH hN hl.1 rfl rfl (Nat.le_of_ble_eq_true rfl) dL_tag_4 (Nat.le_of_ble_eq_true rfl) (Nat.le_of_ble_eq_true rfl) [] z0 L1 (by rw [eL0]; rfl) (fun w hw => absurd hw List.not_mem_nil) (by simp [covers, z0a, z0b]) (by rw [z0d]; decide) (by rw [z0d]; exact htg _ hL_19) (fun x H locs hP hS => ?_)
  rw [z0c]
  refine lv_astore_n (lv' := [(3, .ref x), (0, .ref (h 0)), (1, .int v), (2, .ref o)]) hx hb dL_tag_11 rfl hl (by decide) rfl (fun ls hl => ?_)
  refine lv_iconst (v := nI 1) hx hb dL_tag_12 (by decide) ?_
  exact W.iret (v := nI 1) hx hb hr (fun t ht hW => ⟨⟨_, (), rfl, rfl, by rw [ht]; exact hP, va_K.moved hW.alike hK, hD⟩, hS.F ht⟩) hS.2.2 dL_tag_13
set_option maxRecDepth 100000 in
set_option maxHeartbeats 4000000 in
theorem t_look_rl (l : Launch) (σ : BJ) (r : Int64) (k : Int64) {rm : Room} (hM : rBl l yX0_look wsX0_look rm σ [.long k] r) (hrc : rm.cells = 0) (hrs : rm.slots = 0) (hfr : rm.frames + 1 ≤ 8) (hlo : 8 + (4 + 11) + rm.locals ≤ 170) : tW l yL_look wsL_look σ (fun o => [.long k, .ref o]) 0 (some r) σ := by
  intro dC dI cI cJ h o f sz
  refine va_MetW (cc := cL_look) (maxL := 5) (ret := (some .int)) (hh := [(0, 8, 11, 29)]) (by decide) rfl ?_
  intro p e s m args below meth c s₁ B hml hv
  obtain ⟨rfl, hsz, hP, hK, hD0, hH, hN⟩ := hv
  have hx := B.exec
  have hb := B.bytes
  have hr := B.returns
  have hts := atoms_spec (ws := wsL_look) B.pre
  have hown : s.vm.findClass RL = some m.cls := findClass_of_methodNamed B.named
  subst hsz
  have htg : ∀ w ∈ GW, w.before _ s = true := fun w h => hts w (List.mem_cons_of_mem _ h)
  have hD := hD0.self (sz := s.heap.size)
  generalize hAe : va_A (wBO cI cJ h σ o f) s.heap.size = A at hD ⊢
  have hA : ∀ q : Nat, s.heap.size ≤ q → A q := fun q h => by rw [← hAe]; exact Or.inr h
  have hS : va_S A s.heap s.heap [] := va_S.rf
  have hl := lv_entry [.ref (h 0), .long k, .ref o] (n := 5) (Nat.le_of_ble_eq_true rfl)
  rw [lg_entry_eq]
  generalize (lg_sl [.ref (h 0), .long k, .ref o] ++ List.replicate (5 - (lg_sl [.ref (h 0), .long k, .ref o]).length) Slot.unset).toArray = ls at hl ⊢
  have hl : lv_has ls 5 [(0, .ref (h 0)), (1, .long k), (3, .ref o)] := hl
  refine lv_aload_n hx hb dL_look_0 rfl (lv_at hl 2 rfl) ?_
  refine lv_iconst (v := nI 0) hx hb dL_look_1 (by decide) ?_
  refine lv_aload_n hx hb dL_look_2 rfl (lv_at hl 0 rfl) ?_
  refine lv_lload_n hx hb dL_look_3 rfl (lv_at hl 1 rfl) ?_
  refine bo_rl (As := [.long k]) (rest := [.int (nI 0), .ref o]) (n := 1) ⟨hx, hb, hml, hown, htg⟩ hM (cwV 1 htg gL_45 rfl hrc hrs (by decide +kernel) ⟨hfr, hlo⟩) hK hP hD hS hA hl.1 rfl rfl (Nat.le_of_ble_eq_true rfl) dL_look_4 (Nat.zero_le _) (Nat.zero_le _) (fun H locs hP hD hS => ?_)
  refine xr_last (f := f) (i := 0) (x := r) hx hb hK hP hD hS 10 1 rfl rfl (by decide) (by decide) dL_look_7 (fun H locs hP hD hS => ?_)
  have hP : va_P (dC, dI) vwCl (wBO cI cJ h σ o (vp_updL f 0 r)) H := hP
  have hD : va_D A (wBO cI cJ h σ o (vp_updL f 0 r)) := hD
  refine lv_goto (tgt := 15) hx hb dL_look_8 (by decide) ?_
  refine lv_iconst (v := nI 0) hx hb dL_look_15 (by decide) ?_
  refine W.widen (k := 1) (n := 6) (by decide) (by decide) ?_
  exact W.iret (v := nI 0) hx hb hr (fun t ht hW => ⟨⟨_, (), rfl, rfl, by rw [ht]; exact hP, va_K.moved hW.alike hK, hD⟩, hS.F ht⟩) hS.2.2 dL_look_16
set_option maxRecDepth 100000 in
set_option maxHeartbeats 4000000 in
theorem t_look_t1 (l : Launch) (σ : BJ) (k : Int64) {rm : Room} (hM : tB l yX0_look wsX0_look rm TXL σ [.long k] "java/util/NoSuchElementException") (hrc : rm.cells = 1) (hrs : rm.slots = 6) (hfr : rm.frames + 1 ≤ 8) (hlo : 8 + (4 + 11) + rm.locals ≤ 170) : tW l yL_look wsL_look σ (fun o => [.long k, .ref o]) 1 none σ := by
  intro dC dI cI cJ h o f sz
  refine va_MetW (cc := cL_look) (maxL := 5) (ret := (some .int)) (hh := [(0, 8, 11, 29)]) (by decide) rfl ?_
  intro p e s m args below meth c s₁ B hml hv
  obtain ⟨rfl, hsz, hP, hK, hD0, hH, hN⟩ := hv
  have hx := B.exec
  have hb := B.bytes
  have hr := B.returns
  have hts := atoms_spec (ws := wsL_look) B.pre
  have hown : s.vm.findClass RL = some m.cls := findClass_of_methodNamed B.named
  subst hsz
  have htg : ∀ w ∈ GW, w.before _ s = true := fun w h => hts w (List.mem_cons_of_mem _ h)
  have hD := hD0.self (sz := s.heap.size)
  generalize hAe : va_A (wBO cI cJ h σ o f) s.heap.size = A at hD ⊢
  have hA : ∀ q : Nat, s.heap.size ≤ q → A q := fun q h => by rw [← hAe]; exact Or.inr h
  have hS : va_S A s.heap s.heap [] := va_S.rf
  have hl := lv_entry [.ref (h 0), .long k, .ref o] (n := 5) (Nat.le_of_ble_eq_true rfl)
  rw [lg_entry_eq]
  generalize (lg_sl [.ref (h 0), .long k, .ref o] ++ List.replicate (5 - (lg_sl [.ref (h 0), .long k, .ref o]).length) Slot.unset).toArray = ls at hl ⊢
  have hl : lv_has ls 5 [(0, .ref (h 0)), (1, .long k), (3, .ref o)] := hl
  refine lv_aload_n hx hb dL_look_0 rfl (lv_at hl 2 rfl) ?_
  refine lv_iconst (v := nI 0) hx hb dL_look_1 (by decide) ?_
  refine lv_aload_n hx hb dL_look_2 rfl (lv_at hl 0 rfl) ?_
  refine lv_lload_n hx hb dL_look_3 rfl (lv_at hl 1 rfl) ?_
  have hL0 := tw_code B (hts _ List.mem_cons_self)
  obtain ⟨z0, L1, eL0, z0a, z0b, z0c, z0d, hL1⟩ := tw_one hL0
  refine bo_t (E := "java/util/NoSuchElementException") (As := [.long k]) (rest := [.int (nI 0), .ref o]) (n := 1) ⟨hx, hb, hml, hown, htg⟩ hM (cwV 1 htg gL_45 rfl hrc hrs (by decide +kernel) ⟨hfr, hlo⟩) hK hP hD hA hH hN hl.1 rfl rfl (Nat.le_of_ble_eq_true rfl) dL_look_4 (Nat.le_of_ble_eq_true rfl) (Nat.le_of_ble_eq_true rfl) [] z0 L1 (by rw [eL0]; rfl) (fun w hw => absurd hw List.not_mem_nil) (by simp [covers, z0a, z0b]) (by rw [z0d]; decide) (by rw [z0d]; exact htg _ hL_29) (fun x H locs hP hS => ?_)
  rw [z0c]
  refine lv_astore (lv' := [(4, .ref x), (0, .ref (h 0)), (1, .long k), (3, .ref o)]) hx hb dL_look_11 hl (by decide) rfl (fun ls hl => ?_)
  refine lv_iconst (v := nI 1) hx hb dL_look_13 (by decide) ?_
  exact W.iret (v := nI 1) hx hb hr (fun t ht hW => ⟨⟨_, (), rfl, rfl, by rw [ht]; exact hP, va_K.moved hW.alike hK, hD⟩, hS.F ht⟩) hS.2.2 dL_look_14
set_option maxRecDepth 100000 in
set_option maxHeartbeats 4000000 in
theorem t_byteOf_ri (l : Launch) (σ : BJ) (r : Int32) (d : Int64) (v : Int32) {rm : Room} (hM : rBi l yX0_byteOf wsX0_byteOf rm σ [.long d, .int v] r) (hrc : rm.cells = 0) (hrs : rm.slots = 0) (hfr : rm.frames + 1 ≤ 8) (hlo : 8 + (5 + 11) + rm.locals ≤ 170) : tW l yL_byteOf wsL_byteOf σ (fun o => [.long d, .int v, .ref o]) 0 (some r.toInt64) σ := by
  intro dC dI cI cJ h o f sz
  refine va_MetW (cc := cL_byteOf) (maxL := 6) (ret := (some .int)) (hh := [(0, 11, 14, 29), (0, 11, 18, 53)]) (by decide) rfl ?_
  intro p e s m args below meth c s₁ B hml hv
  obtain ⟨rfl, hsz, hP, hK, hD0, hH, hN⟩ := hv
  have hx := B.exec
  have hb := B.bytes
  have hr := B.returns
  have hts := atoms_spec (ws := wsL_byteOf) B.pre
  have hown : s.vm.findClass RL = some m.cls := findClass_of_methodNamed B.named
  subst hsz
  have htg : ∀ w ∈ GW, w.before _ s = true := fun w h => hts w (List.mem_cons_of_mem _ h)
  have hD := hD0.self (sz := s.heap.size)
  generalize hAe : va_A (wBO cI cJ h σ o f) s.heap.size = A at hD ⊢
  have hA : ∀ q : Nat, s.heap.size ≤ q → A q := fun q h => by rw [← hAe]; exact Or.inr h
  have hS : va_S A s.heap s.heap [] := va_S.rf
  have hl := lv_entry [.ref (h 0), .long d, .int v, .ref o] (n := 6) (Nat.le_of_ble_eq_true rfl)
  rw [lg_entry_eq]
  generalize (lg_sl [.ref (h 0), .long d, .int v, .ref o] ++ List.replicate (6 - (lg_sl [.ref (h 0), .long d, .int v, .ref o]).length) Slot.unset).toArray = ls at hl ⊢
  have hl : lv_has ls 6 [(0, .ref (h 0)), (1, .long d), (3, .int v), (4, .ref o)] := hl
  refine lv_aload hx hb dL_byteOf_0 (lv_at hl 3 rfl) ?_
  refine lv_iconst (v := nI 0) hx hb dL_byteOf_2 (by decide) ?_
  refine lv_aload_n hx hb dL_byteOf_3 rfl (lv_at hl 0 rfl) ?_
  refine lv_lload_n hx hb dL_byteOf_4 rfl (lv_at hl 1 rfl) ?_
  refine lv_iload_n hx hb dL_byteOf_5 rfl (lv_at hl 2 rfl) ?_
  refine bo_ri (As := [.long d, .int v]) (rest := [.int (nI 0), .ref o]) (n := 2) ⟨hx, hb, hml, hown, htg⟩ hM (cwV 2 htg gL_49 rfl hrc hrs (by decide +kernel) ⟨hfr, hlo⟩) hK hP hD hS hA hl.1 rfl rfl (Nat.le_of_ble_eq_true rfl) dL_byteOf_6 (Nat.zero_le _) (Nat.zero_le _) (fun H locs hP hD hS => ?_)
  refine lv_i2l (v := r.toInt64) hx hb dL_byteOf_9 rfl ?_
  refine xr_last (f := f) (i := 0) (x := r.toInt64) hx hb hK hP hD hS 10 1 rfl rfl (by decide) (by decide) dL_byteOf_10 (fun H locs hP hD hS => ?_)
  have hP : va_P (dC, dI) vwCl (wBO cI cJ h σ o (vp_updL f 0 r.toInt64)) H := hP
  have hD : va_D A (wBO cI cJ h σ o (vp_updL f 0 r.toInt64)) := hD
  refine lv_goto (tgt := 22) hx hb dL_byteOf_11 (by decide) ?_
  refine lv_iconst (v := nI 0) hx hb dL_byteOf_22 (by decide) ?_
  refine W.widen (k := 1) (n := 6) (by decide) (by decide) ?_
  exact W.iret (v := nI 0) hx hb hr (fun t ht hW => ⟨⟨_, (), rfl, rfl, by rw [ht]; exact hP, va_K.moved hW.alike hK, hD⟩, hS.F ht⟩) hS.2.2 dL_byteOf_23
set_option maxRecDepth 100000 in
set_option maxHeartbeats 4000000 in
theorem t_byteOf_t1 (l : Launch) (σ : BJ) (d : Int64) (v : Int32) {rm : Room} (hM : tB l yX0_byteOf wsX0_byteOf rm TXL σ [.long d, .int v] "java/util/NoSuchElementException") (hrc : rm.cells = 1) (hrs : rm.slots = 6) (hfr : rm.frames + 1 ≤ 8) (hlo : 8 + (5 + 11) + rm.locals ≤ 170) : tW l yL_byteOf wsL_byteOf σ (fun o => [.long d, .int v, .ref o]) 1 none σ := by
  intro dC dI cI cJ h o f sz
  refine va_MetW (cc := cL_byteOf) (maxL := 6) (ret := (some .int)) (hh := [(0, 11, 14, 29), (0, 11, 18, 53)]) (by decide) rfl ?_
  intro p e s m args below meth c s₁ B hml hv
  obtain ⟨rfl, hsz, hP, hK, hD0, hH, hN⟩ := hv
  have hx := B.exec
  have hb := B.bytes
  have hr := B.returns
  have hts := atoms_spec (ws := wsL_byteOf) B.pre
  have hown : s.vm.findClass RL = some m.cls := findClass_of_methodNamed B.named
  subst hsz
  have htg : ∀ w ∈ GW, w.before _ s = true := fun w h => hts w (List.mem_cons_of_mem _ h)
  have hD := hD0.self (sz := s.heap.size)
  generalize hAe : va_A (wBO cI cJ h σ o f) s.heap.size = A at hD ⊢
  have hA : ∀ q : Nat, s.heap.size ≤ q → A q := fun q h => by rw [← hAe]; exact Or.inr h
  have hS : va_S A s.heap s.heap [] := va_S.rf
  have hl := lv_entry [.ref (h 0), .long d, .int v, .ref o] (n := 6) (Nat.le_of_ble_eq_true rfl)
  rw [lg_entry_eq]
  generalize (lg_sl [.ref (h 0), .long d, .int v, .ref o] ++ List.replicate (6 - (lg_sl [.ref (h 0), .long d, .int v, .ref o]).length) Slot.unset).toArray = ls at hl ⊢
  have hl : lv_has ls 6 [(0, .ref (h 0)), (1, .long d), (3, .int v), (4, .ref o)] := hl
  refine lv_aload hx hb dL_byteOf_0 (lv_at hl 3 rfl) ?_
  refine lv_iconst (v := nI 0) hx hb dL_byteOf_2 (by decide) ?_
  refine lv_aload_n hx hb dL_byteOf_3 rfl (lv_at hl 0 rfl) ?_
  refine lv_lload_n hx hb dL_byteOf_4 rfl (lv_at hl 1 rfl) ?_
  refine lv_iload_n hx hb dL_byteOf_5 rfl (lv_at hl 2 rfl) ?_
  have hL0 := tw_code B (hts _ List.mem_cons_self)
  obtain ⟨z0, L1, eL0, z0a, z0b, z0c, z0d, hL1⟩ := tw_one hL0
  refine bo_t (E := "java/util/NoSuchElementException") (As := [.long d, .int v]) (rest := [.int (nI 0), .ref o]) (n := 2) ⟨hx, hb, hml, hown, htg⟩ hM (cwV 2 htg gL_49 rfl hrc hrs (by decide +kernel) ⟨hfr, hlo⟩) hK hP hD hA hH hN hl.1 rfl rfl (Nat.le_of_ble_eq_true rfl) dL_byteOf_6 (Nat.le_of_ble_eq_true rfl) (Nat.le_of_ble_eq_true rfl) [] z0 L1 (by rw [eL0]; rfl) (fun w hw => absurd hw List.not_mem_nil) (by simp [covers, z0a, z0b]) (by rw [z0d]; decide) (by rw [z0d]; exact htg _ hL_29) (fun x H locs hP hS => ?_)
  rw [z0c]
  refine lv_astore (lv' := [(5, .ref x), (0, .ref (h 0)), (1, .long d), (3, .int v), (4, .ref o)]) hx hb dL_byteOf_14 hl (by decide) rfl (fun ls hl => ?_)
  refine lv_iconst (v := nI 1) hx hb dL_byteOf_16 (by decide) ?_
  exact W.iret (v := nI 1) hx hb hr (fun t ht hW => ⟨⟨_, (), rfl, rfl, by rw [ht]; exact hP, va_K.moved hW.alike hK, hD⟩, hS.F ht⟩) hS.2.2 dL_byteOf_17
set_option maxRecDepth 100000 in
set_option maxHeartbeats 4000000 in
theorem t_byteOf_t2 (l : Launch) (σ : BJ) (d : Int64) (v : Int32) {rm : Room} (hM : tB l yX0_byteOf wsX0_byteOf rm TXL σ [.long d, .int v] "java/lang/IndexOutOfBoundsException") (hrc : rm.cells = 1) (hrs : rm.slots = 6) (hfr : rm.frames + 1 ≤ 8) (hlo : 8 + (5 + 11) + rm.locals ≤ 170) : tW l yL_byteOf wsL_byteOf σ (fun o => [.long d, .int v, .ref o]) 2 none σ := by
  intro dC dI cI cJ h o f sz
  refine va_MetW (cc := cL_byteOf) (maxL := 6) (ret := (some .int)) (hh := [(0, 11, 14, 29), (0, 11, 18, 53)]) (by decide) rfl ?_
  intro p e s m args below meth c s₁ B hml hv
  obtain ⟨rfl, hsz, hP, hK, hD0, hH, hN⟩ := hv
  have hx := B.exec
  have hb := B.bytes
  have hr := B.returns
  have hts := atoms_spec (ws := wsL_byteOf) B.pre
  have hown : s.vm.findClass RL = some m.cls := findClass_of_methodNamed B.named
  subst hsz
  have htg : ∀ w ∈ GW, w.before _ s = true := fun w h => hts w (List.mem_cons_of_mem _ h)
  have hD := hD0.self (sz := s.heap.size)
  generalize hAe : va_A (wBO cI cJ h σ o f) s.heap.size = A at hD ⊢
  have hA : ∀ q : Nat, s.heap.size ≤ q → A q := fun q h => by rw [← hAe]; exact Or.inr h
  have hS : va_S A s.heap s.heap [] := va_S.rf
  have hl := lv_entry [.ref (h 0), .long d, .int v, .ref o] (n := 6) (Nat.le_of_ble_eq_true rfl)
  rw [lg_entry_eq]
  generalize (lg_sl [.ref (h 0), .long d, .int v, .ref o] ++ List.replicate (6 - (lg_sl [.ref (h 0), .long d, .int v, .ref o]).length) Slot.unset).toArray = ls at hl ⊢
  have hl : lv_has ls 6 [(0, .ref (h 0)), (1, .long d), (3, .int v), (4, .ref o)] := hl
  refine lv_aload hx hb dL_byteOf_0 (lv_at hl 3 rfl) ?_
  refine lv_iconst (v := nI 0) hx hb dL_byteOf_2 (by decide) ?_
  refine lv_aload_n hx hb dL_byteOf_3 rfl (lv_at hl 0 rfl) ?_
  refine lv_lload_n hx hb dL_byteOf_4 rfl (lv_at hl 1 rfl) ?_
  refine lv_iload_n hx hb dL_byteOf_5 rfl (lv_at hl 2 rfl) ?_
  have hL0 := tw_code B (hts _ List.mem_cons_self)
  obtain ⟨z0, L1, eL0, z0a, z0b, z0c, z0d, hL1⟩ := tw_one hL0
  obtain ⟨z1, L2, eL1, z1a, z1b, z1c, z1d, hL2⟩ := tw_one hL1
  refine bo_t (E := "java/lang/IndexOutOfBoundsException") (As := [.long d, .int v]) (rest := [.int (nI 0), .ref o]) (n := 2) ⟨hx, hb, hml, hown, htg⟩ hM (cwV 2 htg gL_49 rfl hrc hrs (by decide +kernel) ⟨hfr, hlo⟩) hK hP hD hA hH hN hl.1 rfl rfl (Nat.le_of_ble_eq_true rfl) dL_byteOf_6 (Nat.le_of_ble_eq_true rfl) (Nat.le_of_ble_eq_true rfl) [z0] z1 L2 (by rw [eL0, eL1]; rfl) (fun w hw => by
          cases List.mem_singleton.mp hw
          exact ⟨by rw [z0d]; decide, "java/util/NoSuchElementException", by rw [z0d]; exact htg _ hL_29, by decide⟩) (by simp [covers, z1a, z1b]) (by rw [z1d]; decide) (by rw [z1d]; exact htg _ hL_53) (fun x H locs hP hS => ?_)
  rw [z1c]
  refine lv_astore (lv' := [(5, .ref x), (0, .ref (h 0)), (1, .long d), (3, .int v), (4, .ref o)]) hx hb dL_byteOf_18 hl (by decide) rfl (fun ls hl => ?_)
  refine lv_iconst (v := nI 2) hx hb dL_byteOf_20 (by decide) ?_
  exact W.iret (v := nI 2) hx hb hr (fun t ht hW => ⟨⟨_, (), rfl, rfl, by rw [ht]; exact hP, va_K.moved hW.alike hK, hD⟩, hS.F ht⟩) hS.2.2 dL_byteOf_21
set_option maxRecDepth 100000 in
set_option maxHeartbeats 4000000 in
theorem t_count_ri (l : Launch) (σ : BJ) (r : Int32) (v : Int32) {rm : Room} (hM : rBi l yX0_count wsX0_count rm σ [.int v] r) (hrc : rm.cells = 0) (hrs : rm.slots = 0) (hfr : rm.frames + 1 ≤ 8) (hlo : 8 + (2 + 11) + rm.locals ≤ 170) : tW l yL_count wsL_count σ (fun o => [.int v, .ref o]) 0 (some r.toInt64) σ := by
  intro dC dI cI cJ h o f sz
  refine va_MetW (cc := cL_count) (maxL := 4) (ret := (some .int)) (hh := [(0, 9, 12, 19)]) (by decide) rfl ?_
  intro p e s m args below meth c s₁ B hml hv
  obtain ⟨rfl, hsz, hP, hK, hD0, hH, hN⟩ := hv
  have hx := B.exec
  have hb := B.bytes
  have hr := B.returns
  have hts := atoms_spec (ws := wsL_count) B.pre
  have hown : s.vm.findClass RL = some m.cls := findClass_of_methodNamed B.named
  subst hsz
  have htg : ∀ w ∈ GW, w.before _ s = true := fun w h => hts w (List.mem_cons_of_mem _ h)
  have hD := hD0.self (sz := s.heap.size)
  generalize hAe : va_A (wBO cI cJ h σ o f) s.heap.size = A at hD ⊢
  have hA : ∀ q : Nat, s.heap.size ≤ q → A q := fun q h => by rw [← hAe]; exact Or.inr h
  have hS : va_S A s.heap s.heap [] := va_S.rf
  have hl := lv_entry [.ref (h 0), .int v, .ref o] (n := 4) (Nat.le_of_ble_eq_true rfl)
  rw [lg_entry_eq]
  generalize (lg_sl [.ref (h 0), .int v, .ref o] ++ List.replicate (4 - (lg_sl [.ref (h 0), .int v, .ref o]).length) Slot.unset).toArray = ls at hl ⊢
  have hl : lv_has ls 4 [(0, .ref (h 0)), (1, .int v), (2, .ref o)] := hl
  refine lv_aload_n hx hb dL_count_0 rfl (lv_at hl 2 rfl) ?_
  refine lv_iconst (v := nI 0) hx hb dL_count_1 (by decide) ?_
  refine lv_aload_n hx hb dL_count_2 rfl (lv_at hl 0 rfl) ?_
  refine lv_iload_n hx hb dL_count_3 rfl (lv_at hl 1 rfl) ?_
  refine bo_ri (As := [.int v]) (rest := [.int (nI 0), .ref o]) (n := 1) ⟨hx, hb, hml, hown, htg⟩ hM (cwV 1 htg gL_55 rfl hrc hrs (by decide +kernel) ⟨hfr, hlo⟩) hK hP hD hS hA hl.1 rfl rfl (Nat.le_of_ble_eq_true rfl) dL_count_4 (Nat.zero_le _) (Nat.zero_le _) (fun H locs hP hD hS => ?_)
  refine lv_i2l (v := r.toInt64) hx hb dL_count_7 rfl ?_
  refine xr_last (f := f) (i := 0) (x := r.toInt64) hx hb hK hP hD hS 10 1 rfl rfl (by decide) (by decide) dL_count_8 (fun H locs hP hD hS => ?_)
  have hP : va_P (dC, dI) vwCl (wBO cI cJ h σ o (vp_updL f 0 r.toInt64)) H := hP
  have hD : va_D A (wBO cI cJ h σ o (vp_updL f 0 r.toInt64)) := hD
  refine lv_goto (tgt := 15) hx hb dL_count_9 (by decide) ?_
  refine lv_iconst (v := nI 0) hx hb dL_count_15 (by decide) ?_
  refine W.widen (k := 1) (n := 6) (by decide) (by decide) ?_
  exact W.iret (v := nI 0) hx hb hr (fun t ht hW => ⟨⟨_, (), rfl, rfl, by rw [ht]; exact hP, va_K.moved hW.alike hK, hD⟩, hS.F ht⟩) hS.2.2 dL_count_16
set_option maxRecDepth 100000 in
set_option maxHeartbeats 4000000 in
theorem t_count_t1 (l : Launch) (σ : BJ) (v : Int32) {rm : Room} (hM : tB l yX0_count wsX0_count rm TXL σ [.int v] "java/lang/IllegalArgumentException") (hrc : rm.cells = 1) (hrs : rm.slots = 6) (hfr : rm.frames + 1 ≤ 8) (hlo : 8 + (2 + 11) + rm.locals ≤ 170) : tW l yL_count wsL_count σ (fun o => [.int v, .ref o]) 1 none σ := by
  intro dC dI cI cJ h o f sz
  refine va_MetW (cc := cL_count) (maxL := 4) (ret := (some .int)) (hh := [(0, 9, 12, 19)]) (by decide) rfl ?_
  intro p e s m args below meth c s₁ B hml hv
  obtain ⟨rfl, hsz, hP, hK, hD0, hH, hN⟩ := hv
  have hx := B.exec
  have hb := B.bytes
  have hr := B.returns
  have hts := atoms_spec (ws := wsL_count) B.pre
  have hown : s.vm.findClass RL = some m.cls := findClass_of_methodNamed B.named
  subst hsz
  have htg : ∀ w ∈ GW, w.before _ s = true := fun w h => hts w (List.mem_cons_of_mem _ h)
  have hD := hD0.self (sz := s.heap.size)
  generalize hAe : va_A (wBO cI cJ h σ o f) s.heap.size = A at hD ⊢
  have hA : ∀ q : Nat, s.heap.size ≤ q → A q := fun q h => by rw [← hAe]; exact Or.inr h
  have hS : va_S A s.heap s.heap [] := va_S.rf
  have hl := lv_entry [.ref (h 0), .int v, .ref o] (n := 4) (Nat.le_of_ble_eq_true rfl)
  rw [lg_entry_eq]
  generalize (lg_sl [.ref (h 0), .int v, .ref o] ++ List.replicate (4 - (lg_sl [.ref (h 0), .int v, .ref o]).length) Slot.unset).toArray = ls at hl ⊢
  have hl : lv_has ls 4 [(0, .ref (h 0)), (1, .int v), (2, .ref o)] := hl
  refine lv_aload_n hx hb dL_count_0 rfl (lv_at hl 2 rfl) ?_
  refine lv_iconst (v := nI 0) hx hb dL_count_1 (by decide) ?_
  refine lv_aload_n hx hb dL_count_2 rfl (lv_at hl 0 rfl) ?_
  refine lv_iload_n hx hb dL_count_3 rfl (lv_at hl 1 rfl) ?_
  have hL0 := tw_code B (hts _ List.mem_cons_self)
  obtain ⟨z0, L1, eL0, z0a, z0b, z0c, z0d, hL1⟩ := tw_one hL0
  refine bo_t (E := "java/lang/IllegalArgumentException") (As := [.int v]) (rest := [.int (nI 0), .ref o]) (n := 1) ⟨hx, hb, hml, hown, htg⟩ hM (cwV 1 htg gL_55 rfl hrc hrs (by decide +kernel) ⟨hfr, hlo⟩) hK hP hD hA hH hN hl.1 rfl rfl (Nat.le_of_ble_eq_true rfl) dL_count_4 (Nat.le_of_ble_eq_true rfl) (Nat.le_of_ble_eq_true rfl) [] z0 L1 (by rw [eL0]; rfl) (fun w hw => absurd hw List.not_mem_nil) (by simp [covers, z0a, z0b]) (by rw [z0d]; decide) (by rw [z0d]; exact htg _ hL_19) (fun x H locs hP hS => ?_)
  rw [z0c]
  refine lv_astore_n (lv' := [(3, .ref x), (0, .ref (h 0)), (1, .int v), (2, .ref o)]) hx hb dL_count_12 rfl hl (by decide) rfl (fun ls hl => ?_)
  refine lv_iconst (v := nI 1) hx hb dL_count_13 (by decide) ?_
  exact W.iret (v := nI 1) hx hb hr (fun t ht hW => ⟨⟨_, (), rfl, rfl, by rw [ht]; exact hP, va_K.moved hW.alike hK, hD⟩, hS.F ht⟩) hS.2.2 dL_count_14
set_option maxRecDepth 100000 in
set_option maxHeartbeats 4000000 in
theorem t_journal_ri (l : Launch) (σ : BJ) (r : Int32) (v : Int32) {rm : Room} (hM : rBi l yX0_journal wsX0_journal rm σ [.int v] r) (hrc : rm.cells = 0) (hrs : rm.slots = 0) (hfr : rm.frames + 1 ≤ 8) (hlo : 8 + (2 + 11) + rm.locals ≤ 170) : tW l yL_journal wsL_journal σ (fun o => [.int v, .ref o]) 0 (some r.toInt64) σ := by
  intro dC dI cI cJ h o f sz
  refine va_MetW (cc := cL_journal) (maxL := 4) (ret := (some .int)) (hh := [(0, 9, 12, 53)]) (by decide) rfl ?_
  intro p e s m args below meth c s₁ B hml hv
  obtain ⟨rfl, hsz, hP, hK, hD0, hH, hN⟩ := hv
  have hx := B.exec
  have hb := B.bytes
  have hr := B.returns
  have hts := atoms_spec (ws := wsL_journal) B.pre
  have hown : s.vm.findClass RL = some m.cls := findClass_of_methodNamed B.named
  subst hsz
  have htg : ∀ w ∈ GW, w.before _ s = true := fun w h => hts w (List.mem_cons_of_mem _ h)
  have hD := hD0.self (sz := s.heap.size)
  generalize hAe : va_A (wBO cI cJ h σ o f) s.heap.size = A at hD ⊢
  have hA : ∀ q : Nat, s.heap.size ≤ q → A q := fun q h => by rw [← hAe]; exact Or.inr h
  have hS : va_S A s.heap s.heap [] := va_S.rf
  have hl := lv_entry [.ref (h 0), .int v, .ref o] (n := 4) (Nat.le_of_ble_eq_true rfl)
  rw [lg_entry_eq]
  generalize (lg_sl [.ref (h 0), .int v, .ref o] ++ List.replicate (4 - (lg_sl [.ref (h 0), .int v, .ref o]).length) Slot.unset).toArray = ls at hl ⊢
  have hl : lv_has ls 4 [(0, .ref (h 0)), (1, .int v), (2, .ref o)] := hl
  refine lv_aload_n hx hb dL_journal_0 rfl (lv_at hl 2 rfl) ?_
  refine lv_iconst (v := nI 0) hx hb dL_journal_1 (by decide) ?_
  refine lv_aload_n hx hb dL_journal_2 rfl (lv_at hl 0 rfl) ?_
  refine lv_iload_n hx hb dL_journal_3 rfl (lv_at hl 1 rfl) ?_
  refine bo_ri (As := [.int v]) (rest := [.int (nI 0), .ref o]) (n := 1) ⟨hx, hb, hml, hown, htg⟩ hM (cwV 1 htg gL_58 rfl hrc hrs (by decide +kernel) ⟨hfr, hlo⟩) hK hP hD hS hA hl.1 rfl rfl (Nat.le_of_ble_eq_true rfl) dL_journal_4 (Nat.zero_le _) (Nat.zero_le _) (fun H locs hP hD hS => ?_)
  refine lv_i2l (v := r.toInt64) hx hb dL_journal_7 rfl ?_
  refine xr_last (f := f) (i := 0) (x := r.toInt64) hx hb hK hP hD hS 10 1 rfl rfl (by decide) (by decide) dL_journal_8 (fun H locs hP hD hS => ?_)
  have hP : va_P (dC, dI) vwCl (wBO cI cJ h σ o (vp_updL f 0 r.toInt64)) H := hP
  have hD : va_D A (wBO cI cJ h σ o (vp_updL f 0 r.toInt64)) := hD
  refine lv_goto (tgt := 15) hx hb dL_journal_9 (by decide) ?_
  refine lv_iconst (v := nI 0) hx hb dL_journal_15 (by decide) ?_
  refine W.widen (k := 1) (n := 6) (by decide) (by decide) ?_
  exact W.iret (v := nI 0) hx hb hr (fun t ht hW => ⟨⟨_, (), rfl, rfl, by rw [ht]; exact hP, va_K.moved hW.alike hK, hD⟩, hS.F ht⟩) hS.2.2 dL_journal_16
set_option maxRecDepth 100000 in
set_option maxHeartbeats 4000000 in
theorem t_journal_t1 (l : Launch) (σ : BJ) (v : Int32) {rm : Room} (hM : tB l yX0_journal wsX0_journal rm TXL σ [.int v] "java/lang/IndexOutOfBoundsException") (hrc : rm.cells = 1) (hrs : rm.slots = 6) (hfr : rm.frames + 1 ≤ 8) (hlo : 8 + (2 + 11) + rm.locals ≤ 170) : tW l yL_journal wsL_journal σ (fun o => [.int v, .ref o]) 1 none σ := by
  intro dC dI cI cJ h o f sz
  refine va_MetW (cc := cL_journal) (maxL := 4) (ret := (some .int)) (hh := [(0, 9, 12, 53)]) (by decide) rfl ?_
  intro p e s m args below meth c s₁ B hml hv
  obtain ⟨rfl, hsz, hP, hK, hD0, hH, hN⟩ := hv
  have hx := B.exec
  have hb := B.bytes
  have hr := B.returns
  have hts := atoms_spec (ws := wsL_journal) B.pre
  have hown : s.vm.findClass RL = some m.cls := findClass_of_methodNamed B.named
  subst hsz
  have htg : ∀ w ∈ GW, w.before _ s = true := fun w h => hts w (List.mem_cons_of_mem _ h)
  have hD := hD0.self (sz := s.heap.size)
  generalize hAe : va_A (wBO cI cJ h σ o f) s.heap.size = A at hD ⊢
  have hA : ∀ q : Nat, s.heap.size ≤ q → A q := fun q h => by rw [← hAe]; exact Or.inr h
  have hS : va_S A s.heap s.heap [] := va_S.rf
  have hl := lv_entry [.ref (h 0), .int v, .ref o] (n := 4) (Nat.le_of_ble_eq_true rfl)
  rw [lg_entry_eq]
  generalize (lg_sl [.ref (h 0), .int v, .ref o] ++ List.replicate (4 - (lg_sl [.ref (h 0), .int v, .ref o]).length) Slot.unset).toArray = ls at hl ⊢
  have hl : lv_has ls 4 [(0, .ref (h 0)), (1, .int v), (2, .ref o)] := hl
  refine lv_aload_n hx hb dL_journal_0 rfl (lv_at hl 2 rfl) ?_
  refine lv_iconst (v := nI 0) hx hb dL_journal_1 (by decide) ?_
  refine lv_aload_n hx hb dL_journal_2 rfl (lv_at hl 0 rfl) ?_
  refine lv_iload_n hx hb dL_journal_3 rfl (lv_at hl 1 rfl) ?_
  have hL0 := tw_code B (hts _ List.mem_cons_self)
  obtain ⟨z0, L1, eL0, z0a, z0b, z0c, z0d, hL1⟩ := tw_one hL0
  refine bo_t (E := "java/lang/IndexOutOfBoundsException") (As := [.int v]) (rest := [.int (nI 0), .ref o]) (n := 1) ⟨hx, hb, hml, hown, htg⟩ hM (cwV 1 htg gL_58 rfl hrc hrs (by decide +kernel) ⟨hfr, hlo⟩) hK hP hD hA hH hN hl.1 rfl rfl (Nat.le_of_ble_eq_true rfl) dL_journal_4 (Nat.le_of_ble_eq_true rfl) (Nat.le_of_ble_eq_true rfl) [] z0 L1 (by rw [eL0]; rfl) (fun w hw => absurd hw List.not_mem_nil) (by simp [covers, z0a, z0b]) (by rw [z0d]; decide) (by rw [z0d]; exact htg _ hL_53) (fun x H locs hP hS => ?_)
  rw [z0c]
  refine lv_astore_n (lv' := [(3, .ref x), (0, .ref (h 0)), (1, .int v), (2, .ref o)]) hx hb dL_journal_12 rfl hl (by decide) rfl (fun ls hl => ?_)
  refine lv_iconst (v := nI 1) hx hb dL_journal_13 (by decide) ?_
  exact W.iret (v := nI 1) hx hb hr (fun t ht hW => ⟨⟨_, (), rfl, rfl, by rw [ht]; exact hP, va_K.moved hW.alike hK, hD⟩, hS.F ht⟩) hS.2.2 dL_journal_14
set_option maxRecDepth 100000 in
set_option maxHeartbeats 4000000 in
theorem t_crash_wi (l : Launch) (σ σ' : BJ) (r : Int32) (v : Int32) (u : Int32) {rm : Room} (hM : wBi l yX0_crash wsX0_crash rm σ [.int v, .int u] r σ') (hrc : rm.cells = 0) (hrs : rm.slots = 0) (hfr : rm.frames + 1 ≤ 8) (hlo : 8 + (3 + 11) + rm.locals ≤ 170) : tW l yL_crash wsL_crash σ (fun o => [.int v, .int u, .ref o]) 0 (some r.toInt64) σ' := by
  intro dC dI cI cJ h o f sz
  refine va_MetW (cc := cL_crash) (maxL := 5) (ret := (some .int)) (hh := [(0, 10, 13, 19)]) (by decide) rfl ?_
  intro p e s m args below meth c s₁ B hml hv
  obtain ⟨rfl, hsz, hP, hK, hD0, hH, hN⟩ := hv
  have hx := B.exec
  have hb := B.bytes
  have hr := B.returns
  have hts := atoms_spec (ws := wsL_crash) B.pre
  have hown : s.vm.findClass RL = some m.cls := findClass_of_methodNamed B.named
  subst hsz
  have htg : ∀ w ∈ GW, w.before _ s = true := fun w h => hts w (List.mem_cons_of_mem _ h)
  have hD := hD0.self (sz := s.heap.size)
  generalize hAe : va_A (wBO cI cJ h σ o f) s.heap.size = A at hD ⊢
  have hA : ∀ q : Nat, s.heap.size ≤ q → A q := fun q h => by rw [← hAe]; exact Or.inr h
  have hS : va_S A s.heap s.heap [] := va_S.rf
  have hl := lv_entry [.ref (h 0), .int v, .int u, .ref o] (n := 5) (Nat.le_of_ble_eq_true rfl)
  rw [lg_entry_eq]
  generalize (lg_sl [.ref (h 0), .int v, .int u, .ref o] ++ List.replicate (5 - (lg_sl [.ref (h 0), .int v, .int u, .ref o]).length) Slot.unset).toArray = ls at hl ⊢
  have hl : lv_has ls 5 [(0, .ref (h 0)), (1, .int v), (2, .int u), (3, .ref o)] := hl
  refine lv_aload_n hx hb dL_crash_0 rfl (lv_at hl 3 rfl) ?_
  refine lv_iconst (v := nI 0) hx hb dL_crash_1 (by decide) ?_
  refine lv_aload_n hx hb dL_crash_2 rfl (lv_at hl 0 rfl) ?_
  refine lv_iload_n hx hb dL_crash_3 rfl (lv_at hl 1 rfl) ?_
  refine lv_iload_n hx hb dL_crash_4 rfl (lv_at hl 2 rfl) ?_
  refine bo_wi (As := [.int v, .int u]) (rest := [.int (nI 0), .ref o]) (n := 2) ⟨hx, hb, hml, hown, htg⟩ hM (cwV 2 htg gL_61 rfl hrc hrs (by decide +kernel) ⟨hfr, hlo⟩) hK hP hD hS hA hl.1 rfl rfl (Nat.le_of_ble_eq_true rfl) dL_crash_5 (Nat.zero_le _) (Nat.zero_le _) (fun H locs hP hD hS => ?_)
  refine lv_i2l (v := r.toInt64) hx hb dL_crash_8 rfl ?_
  refine xr_last (f := f) (i := 0) (x := r.toInt64) hx hb hK hP hD hS 10 1 rfl rfl (by decide) (by decide) dL_crash_9 (fun H locs hP hD hS => ?_)
  have hP : va_P (dC, dI) vwCl (wBO cI cJ h σ' o (vp_updL f 0 r.toInt64)) H := hP
  have hD : va_D A (wBO cI cJ h σ' o (vp_updL f 0 r.toInt64)) := hD
  refine lv_goto (tgt := 17) hx hb dL_crash_10 (by decide) ?_
  refine lv_iconst (v := nI 0) hx hb dL_crash_17 (by decide) ?_
  refine W.widen (k := 1) (n := 6) (by decide) (by decide) ?_
  exact W.iret (v := nI 0) hx hb hr (fun t ht hW => ⟨⟨_, (), rfl, rfl, by rw [ht]; exact hP, va_K.moved hW.alike hK, hD⟩, hS.F ht⟩) hS.2.2 dL_crash_18
set_option maxRecDepth 100000 in
set_option maxHeartbeats 4000000 in
theorem t_crash_t1 (l : Launch) (σ : BJ) (v : Int32) (u : Int32) {rm : Room} (hM : tB l yX0_crash wsX0_crash rm TXL σ [.int v, .int u] "java/lang/IllegalArgumentException") (hrc : rm.cells = 1) (hrs : rm.slots = 6) (hfr : rm.frames + 1 ≤ 8) (hlo : 8 + (3 + 11) + rm.locals ≤ 170) : tW l yL_crash wsL_crash σ (fun o => [.int v, .int u, .ref o]) 1 none σ := by
  intro dC dI cI cJ h o f sz
  refine va_MetW (cc := cL_crash) (maxL := 5) (ret := (some .int)) (hh := [(0, 10, 13, 19)]) (by decide) rfl ?_
  intro p e s m args below meth c s₁ B hml hv
  obtain ⟨rfl, hsz, hP, hK, hD0, hH, hN⟩ := hv
  have hx := B.exec
  have hb := B.bytes
  have hr := B.returns
  have hts := atoms_spec (ws := wsL_crash) B.pre
  have hown : s.vm.findClass RL = some m.cls := findClass_of_methodNamed B.named
  subst hsz
  have htg : ∀ w ∈ GW, w.before _ s = true := fun w h => hts w (List.mem_cons_of_mem _ h)
  have hD := hD0.self (sz := s.heap.size)
  generalize hAe : va_A (wBO cI cJ h σ o f) s.heap.size = A at hD ⊢
  have hA : ∀ q : Nat, s.heap.size ≤ q → A q := fun q h => by rw [← hAe]; exact Or.inr h
  have hS : va_S A s.heap s.heap [] := va_S.rf
  have hl := lv_entry [.ref (h 0), .int v, .int u, .ref o] (n := 5) (Nat.le_of_ble_eq_true rfl)
  rw [lg_entry_eq]
  generalize (lg_sl [.ref (h 0), .int v, .int u, .ref o] ++ List.replicate (5 - (lg_sl [.ref (h 0), .int v, .int u, .ref o]).length) Slot.unset).toArray = ls at hl ⊢
  have hl : lv_has ls 5 [(0, .ref (h 0)), (1, .int v), (2, .int u), (3, .ref o)] := hl
  refine lv_aload_n hx hb dL_crash_0 rfl (lv_at hl 3 rfl) ?_
  refine lv_iconst (v := nI 0) hx hb dL_crash_1 (by decide) ?_
  refine lv_aload_n hx hb dL_crash_2 rfl (lv_at hl 0 rfl) ?_
  refine lv_iload_n hx hb dL_crash_3 rfl (lv_at hl 1 rfl) ?_
  refine lv_iload_n hx hb dL_crash_4 rfl (lv_at hl 2 rfl) ?_
  have hL0 := tw_code B (hts _ List.mem_cons_self)
  obtain ⟨z0, L1, eL0, z0a, z0b, z0c, z0d, hL1⟩ := tw_one hL0
  refine bo_t (E := "java/lang/IllegalArgumentException") (As := [.int v, .int u]) (rest := [.int (nI 0), .ref o]) (n := 2) ⟨hx, hb, hml, hown, htg⟩ hM (cwV 2 htg gL_61 rfl hrc hrs (by decide +kernel) ⟨hfr, hlo⟩) hK hP hD hA hH hN hl.1 rfl rfl (Nat.le_of_ble_eq_true rfl) dL_crash_5 (Nat.le_of_ble_eq_true rfl) (Nat.le_of_ble_eq_true rfl) [] z0 L1 (by rw [eL0]; rfl) (fun w hw => absurd hw List.not_mem_nil) (by simp [covers, z0a, z0b]) (by rw [z0d]; decide) (by rw [z0d]; exact htg _ hL_19) (fun x H locs hP hS => ?_)
  rw [z0c]
  refine lv_astore (lv' := [(4, .ref x), (0, .ref (h 0)), (1, .int v), (2, .int u), (3, .ref o)]) hx hb dL_crash_13 hl (by decide) rfl (fun ls hl => ?_)
  refine lv_iconst (v := nI 1) hx hb dL_crash_15 (by decide) ?_
  exact W.iret (v := nI 1) hx hb hr (fun t ht hW => ⟨⟨_, (), rfl, rfl, by rw [ht]; exact hP, va_K.moved hW.alike hK, hD⟩, hS.F ht⟩) hS.2.2 dL_crash_16
