set_option maxRecDepth 100000 in
set_option maxHeartbeats 4000000 in
theorem op_byteOf {p : Program} {l : Launch} {e : Env} {s : State} {m : MethodId} {below : List Frame} {meth : Method} {c : Code} {b L : Nat} {xs : Nat → Int32} {dC : Nat → ClassId} {dI : Nat → Nat → Nat} {cI cJ cZ : ClassId} {h g : Nat → Nat} {o : Nat} {Q : State → Prop} (C : opC p s m c b L xs dC dI cI cJ cZ) {i cells slots : Nat} (hi : i + 5 ≤ L) (hc : cells + 1 ≤ 1062) (hs : slots + 6 ≤ 24739) {σ : BJ} {τ τ' : BM} {f : Nat → Int64} {σ' : BJ} {k : Nat} {z : Option Int64} {r : Int32} (h1 : tW l yL_byteOf wsL_byteOf σ (fun o => [.long (jL (xs (i + 1)) (xs (i + 2))), .int (xs (i + 3)), .ref o]) k z σ') (hk : kgTh τ' = k) (hk3 : k ≤ 3) (h2 : wMi l yX1_byteOf wsX1_byteOf ({ frames := 1, cells := 0, slots := 0, locals := 23 } : Room) τ [.long (jL (xs (i + 1)) (xs (i + 2))), .int (xs (i + 3))] r τ') (hv : k = 0 → z = some r.toInt64) {H : Heap} {locs : List Loc} (hP : va_P (dC, dI) vwCl (wLW cI cJ cZ h g o σ τ f) H) (hD : va_D (fun q : Nat => s.heap.size ≤ q) (wLW cI cJ cZ h g o σ τ f)) (hS : va_S (fun q : Nat => s.heap.size ≤ q) s.heap H locs) {ls : Array Slot} (hl : lv_has ls 8 [(4, .int (nI i)), (3, .ref o), (2, .ref (g 0)), (1, .ref (h 0)), (0, .ref b)]) (kk : ∀ (H1 : Heap) (locs1 : List Loc) (ls1 : Array Slot), va_P (dC, dI) vwCl (wLW cI cJ cZ h g o σ' τ' (ofV z f)) H1 → va_D (fun q : Nat => s.heap.size ≤ q) (wLW cI cJ cZ h g o σ' τ' (ofV z f)) → va_S (fun q : Nat => s.heap.size ≤ q) s.heap H1 locs1 → lv_has ls1 8 [(4, .int (nI i)), (3, .ref o), (2, .ref (g 0)), (1, .ref (h 0)), (0, .ref b)] → W p l e room_1 s m #[Value.ref b] below meth c H1 locs1 (cells + 1) (slots + 6) Q (F0 m 1080 ls1 [])) : W p l e room_1 s m #[Value.ref b] below meth c H locs cells slots Q (F0 m 776 ls []) := by
  obtain ⟨hx, hb, hml, hown, htg, hX, hbl, hK, hH, hN, hL⟩ := C
  have hA : ∀ q : Nat, s.heap.size ≤ q → (fun q : Nat => s.heap.size ≤ q) q := fun _ h => h
  have hbA : ¬ (fun q : Nat => s.heap.size ≤ q) b := Nat.not_le.mpr hbl
  refine lv_aload_n hx hb dL_law_776 rfl (lv_at hl 3 rfl) ?_
  refine lv_aload_n hx hb dL_law_777 rfl (lv_at hl 4 rfl) ?_
  refine lv_iload hx hb dL_law_778 (lv_at hl 0 rfl) ?_
  refine lv_iconst (v := nI 1) hx hb dL_law_780 (by decide) ?_
  refine xr_iadd hx hb dL_law_781 ?_
  refine va_sld (i := nI (i + 1)) hx hb hX hbl hbA hS (nI_in (by omega) (by omega)) dL_law_782 ?_
  rw [show (nI (i + 1)).toNatClampNeg = i + 1 from nI_clamp (by omega)]
  refine lv_i2l (v := (xs (i + 1)).toInt64) hx hb dL_law_783 rfl ?_
  refine lv_bipush (v := nI 32) hx hb dL_law_784 (by decide) ?_
  refine lv_lshl (v := ((xs (i + 1)).toInt64) <<< (((nI 32)).toInt64 &&& 63)) hx hb dL_law_786 rfl ?_
  refine lv_aload_n hx hb dL_law_787 rfl (lv_at hl 4 rfl) ?_
  refine lv_iload hx hb dL_law_788 (lv_at hl 0 rfl) ?_
  refine lv_iconst (v := nI 2) hx hb dL_law_790 (by decide) ?_
  refine xr_iadd hx hb dL_law_791 ?_
  refine va_sld (i := nI (i + 2)) hx hb hX hbl hbA hS (nI_in (by omega) (by omega)) dL_law_792 ?_
  rw [show (nI (i + 2)).toNatClampNeg = i + 2 from nI_clamp (by omega)]
  refine lv_i2l (v := (xs (i + 2)).toInt64) hx hb dL_law_793 rfl ?_
  refine lv_ldc2 hx hb hown (htg _ qL_91) dL_law_794 ?_
  refine lv_land hx hb dL_law_797 ?_
  refine lv_lor hx hb dL_law_798 ?_
  refine lv_aload_n hx hb dL_law_799 rfl (lv_at hl 4 rfl) ?_
  refine lv_iload hx hb dL_law_800 (lv_at hl 0 rfl) ?_
  refine lv_iconst (v := nI 3) hx hb dL_law_802 (by decide) ?_
  refine xr_iadd hx hb dL_law_803 ?_
  refine va_sld (i := nI (i + 3)) hx hb hX hbl hbA hS (nI_in (by omega) (by omega)) dL_law_804 ?_
  rw [show (nI (i + 3)).toNatClampNeg = i + 3 from nI_clamp (by omega)]
  refine lv_aload_n hx hb dL_law_805 rfl (lv_at hl 1 rfl) ?_
  refine lw_tw (As := [.ref (h 0), .long (jL (xs (i + 1)) (xs (i + 2))), .int (xs (i + 3)), .ref o]) (rest := []) (n := 4) ⟨hx, hb, hml, hown, htg⟩ h1 gL_119 rfl (by decide +kernel) (Nat.le_of_ble_eq_true rfl) (Nat.le_of_ble_eq_true rfl) hH hN rfl rfl hK hP hD hS hA hl.1 rfl rfl (Nat.le_of_ble_eq_true rfl) dL_law_806 hc hs (fun H locs hP hD hS => ?_)
  refine lv_istore (lv' := [(5, .int (nI k)), (4, .int (nI i)), (3, .ref o), (2, .ref (g 0)), (1, .ref (h 0)), (0, .ref b)]) hx hb dL_law_809 hl (by decide) rfl (fun ls hl => ?_)
  refine lv_aload_n hx hb dL_law_811 rfl (lv_at hl 3 rfl) ?_
  refine lv_aload_n hx hb dL_law_812 rfl (lv_at hl 5 rfl) ?_
  refine lv_iload hx hb dL_law_813 (lv_at hl 1 rfl) ?_
  refine lv_iconst (v := nI 1) hx hb dL_law_815 (by decide) ?_
  refine xr_iadd hx hb dL_law_816 ?_
  refine va_sld (i := nI (i + 1)) hx hb hX hbl hbA hS (nI_in (by omega) (by omega)) dL_law_817 ?_
  rw [show (nI (i + 1)).toNatClampNeg = i + 1 from nI_clamp (by omega)]
  refine lv_i2l (v := (xs (i + 1)).toInt64) hx hb dL_law_818 rfl ?_
  refine lv_bipush (v := nI 32) hx hb dL_law_819 (by decide) ?_
  refine lv_lshl (v := ((xs (i + 1)).toInt64) <<< (((nI 32)).toInt64 &&& 63)) hx hb dL_law_821 rfl ?_
  refine lv_aload_n hx hb dL_law_822 rfl (lv_at hl 5 rfl) ?_
  refine lv_iload hx hb dL_law_823 (lv_at hl 1 rfl) ?_
  refine lv_iconst (v := nI 2) hx hb dL_law_825 (by decide) ?_
  refine xr_iadd hx hb dL_law_826 ?_
  refine va_sld (i := nI (i + 2)) hx hb hX hbl hbA hS (nI_in (by omega) (by omega)) dL_law_827 ?_
  rw [show (nI (i + 2)).toNatClampNeg = i + 2 from nI_clamp (by omega)]
  refine lv_i2l (v := (xs (i + 2)).toInt64) hx hb dL_law_828 rfl ?_
  refine lv_ldc2 hx hb hown (htg _ qL_91) dL_law_829 ?_
  refine lv_land hx hb dL_law_832 ?_
  refine lv_lor hx hb dL_law_833 ?_
  refine lv_aload_n hx hb dL_law_834 rfl (lv_at hl 5 rfl) ?_
  refine lv_iload hx hb dL_law_835 (lv_at hl 1 rfl) ?_
  refine lv_iconst (v := nI 3) hx hb dL_law_837 (by decide) ?_
  refine xr_iadd hx hb dL_law_838 ?_
  refine va_sld (i := nI (i + 3)) hx hb hX hbl hbA hS (nI_in (by omega) (by omega)) dL_law_839 ?_
  rw [show (nI (i + 3)).toNatClampNeg = i + 3 from nI_clamp (by omega)]
  refine lwm_wi (As := [.long (jL (xs (i + 1)) (xs (i + 2))), .int (xs (i + 3))]) (rest := []) (n := 2) ⟨hx, hb, hml, hown, htg⟩ h2 (cwV 2 htg gL_122 rfl rfl rfl (by decide +kernel) ⟨Nat.le_of_ble_eq_true rfl, Nat.le_of_ble_eq_true rfl⟩) hK hP hD hS hA hl.1 rfl rfl (Nat.le_of_ble_eq_true rfl) dL_law_840 hc hs (fun H locs hP hD hS => ?_)
  refine lv_istore (lv' := [(6, .int r), (5, .int (nI k)), (4, .int (nI i)), (3, .ref o), (2, .ref (g 0)), (1, .ref (h 0)), (0, .ref b)]) hx hb dL_law_843 hl (by decide) rfl (fun ls hl => ?_)
  refine lv_aload_n hx hb dL_law_845 rfl (lv_at hl 4 rfl) ?_
  refine lwm_ri (As := []) (rest := []) (n := 0) ⟨hx, hb, hml, hown, htg⟩ (m_thrown l τ') (cwV 0 htg gL_75 rfl rfl rfl (by decide +kernel) ⟨Nat.le_of_ble_eq_true rfl, Nat.le_of_ble_eq_true rfl⟩) hK hP hD hS hA hl.1 rfl rfl (Nat.le_of_ble_eq_true rfl) dL_law_846 hc hs (fun H locs hP hD hS => ?_)
  rw [hk]
  refine lv_iload hx hb dL_law_849 (lv_at hl 1 rfl) ?_
  refine xr_icmp_eq (tgt := 856) hx hb dL_law_851 (by decide) (by omega) (by omega) (fun c851 => ?_) (fun c851 => absurd c851 (by exact not_not_intro rfl))
  refine lv_iload hx hb dL_law_856 (lv_at hl 1 rfl) ?_
  refine lv_if_ne (tgt := 873) hx hb dL_law_858 (by decide) (fun c858 => ?_) (fun c858 => ?_)
  · refine lv_goto (tgt := 1080) hx hb dL_law_873 (by decide) ?_
    exact kk _ _ ls hP hD hS (lv_sub hl [2, 3, 4, 5, 6] rfl)
  · have hz0 : ofV z f 0 = r.toInt64 := by rw [hv ((nI_eq (by omega) (by omega)).mp (c858.trans nI_0.symm))]; rfl
    refine lv_aload_n hx hb dL_law_861 rfl (lv_at hl 3 rfl) ?_
    refine lv_iconst (v := nI 0) hx hb dL_law_862 (by decide) ?_
    refine xr_lald (f := ofV z f) (i := 0) hx hb hK hP 22 1 rfl rfl (by decide) (by decide) dL_law_863 ?_
    refine lv_iload hx hb dL_law_864 (lv_at hl 0 rfl) ?_
    refine lv_i2l (v := r.toInt64) hx hb dL_law_866 rfl ?_
    refine xr_lcmp_eq (tgt := 873) hx hb dL_law_867 dL_law_868 (by decide) (fun c867 => ?_) (fun c867 => absurd c867 (by exact not_not_intro hz0))
    refine lv_goto (tgt := 1080) hx hb dL_law_873 (by decide) ?_
    exact kk _ _ ls hP hD hS (lv_sub hl [2, 3, 4, 5, 6] rfl)
set_option maxRecDepth 100000 in
set_option maxHeartbeats 4000000 in
theorem op_count {p : Program} {l : Launch} {e : Env} {s : State} {m : MethodId} {below : List Frame} {meth : Method} {c : Code} {b L : Nat} {xs : Nat → Int32} {dC : Nat → ClassId} {dI : Nat → Nat → Nat} {cI cJ cZ : ClassId} {h g : Nat → Nat} {o : Nat} {Q : State → Prop} (C : opC p s m c b L xs dC dI cI cJ cZ) {i cells slots : Nat} (hi : i + 5 ≤ L) (hc : cells + 1 ≤ 1062) (hs : slots + 6 ≤ 24739) {σ : BJ} {τ τ' : BM} {f : Nat → Int64} {σ' : BJ} {k : Nat} {z : Option Int64} {r : Int32} (h1 : tW l yL_count wsL_count σ (fun o => [.int (xs (i + 1)), .ref o]) k z σ') (hk : kgTh τ' = k) (hk3 : k ≤ 3) (h2 : wMi l yX1_count wsX1_count ({ frames := 0, cells := 0, slots := 0, locals := 0 } : Room) τ [.int (xs (i + 1))] r τ') (hv : k = 0 → z = some r.toInt64) {H : Heap} {locs : List Loc} (hP : va_P (dC, dI) vwCl (wLW cI cJ cZ h g o σ τ f) H) (hD : va_D (fun q : Nat => s.heap.size ≤ q) (wLW cI cJ cZ h g o σ τ f)) (hS : va_S (fun q : Nat => s.heap.size ≤ q) s.heap H locs) {ls : Array Slot} (hl : lv_has ls 8 [(4, .int (nI i)), (3, .ref o), (2, .ref (g 0)), (1, .ref (h 0)), (0, .ref b)]) (kk : ∀ (H1 : Heap) (locs1 : List Loc) (ls1 : Array Slot), va_P (dC, dI) vwCl (wLW cI cJ cZ h g o σ' τ' (ofV z f)) H1 → va_D (fun q : Nat => s.heap.size ≤ q) (wLW cI cJ cZ h g o σ' τ' (ofV z f)) → va_S (fun q : Nat => s.heap.size ≤ q) s.heap H1 locs1 → lv_has ls1 8 [(4, .int (nI i)), (3, .ref o), (2, .ref (g 0)), (1, .ref (h 0)), (0, .ref b)] → W p l e room_1 s m #[Value.ref b] below meth c H1 locs1 (cells + 1) (slots + 6) Q (F0 m 1080 ls1 [])) : W p l e room_1 s m #[Value.ref b] below meth c H locs cells slots Q (F0 m 876 ls []) := by
  obtain ⟨hx, hb, hml, hown, htg, hX, hbl, hK, hH, hN, hL⟩ := C
  have hA : ∀ q : Nat, s.heap.size ≤ q → (fun q : Nat => s.heap.size ≤ q) q := fun _ h => h
  have hbA : ¬ (fun q : Nat => s.heap.size ≤ q) b := Nat.not_le.mpr hbl
  refine lv_aload_n hx hb dL_law_876 rfl (lv_at hl 3 rfl) ?_
  refine lv_aload_n hx hb dL_law_877 rfl (lv_at hl 4 rfl) ?_
  refine lv_iload hx hb dL_law_878 (lv_at hl 0 rfl) ?_
  refine lv_iconst (v := nI 1) hx hb dL_law_880 (by decide) ?_
  refine xr_iadd hx hb dL_law_881 ?_
  refine va_sld (i := nI (i + 1)) hx hb hX hbl hbA hS (nI_in (by omega) (by omega)) dL_law_882 ?_
  rw [show (nI (i + 1)).toNatClampNeg = i + 1 from nI_clamp (by omega)]
  refine lv_aload_n hx hb dL_law_883 rfl (lv_at hl 1 rfl) ?_
  refine lw_tw (As := [.ref (h 0), .int (xs (i + 1)), .ref o]) (rest := []) (n := 3) ⟨hx, hb, hml, hown, htg⟩ h1 gL_123 rfl (by decide +kernel) (Nat.le_of_ble_eq_true rfl) (Nat.le_of_ble_eq_true rfl) hH hN rfl rfl hK hP hD hS hA hl.1 rfl rfl (Nat.le_of_ble_eq_true rfl) dL_law_884 hc hs (fun H locs hP hD hS => ?_)
  refine lv_istore (lv' := [(5, .int (nI k)), (4, .int (nI i)), (3, .ref o), (2, .ref (g 0)), (1, .ref (h 0)), (0, .ref b)]) hx hb dL_law_887 hl (by decide) rfl (fun ls hl => ?_)
  refine lv_aload_n hx hb dL_law_889 rfl (lv_at hl 3 rfl) ?_
  refine lv_aload_n hx hb dL_law_890 rfl (lv_at hl 5 rfl) ?_
  refine lv_iload hx hb dL_law_891 (lv_at hl 1 rfl) ?_
  refine lv_iconst (v := nI 1) hx hb dL_law_893 (by decide) ?_
  refine xr_iadd hx hb dL_law_894 ?_
  refine va_sld (i := nI (i + 1)) hx hb hX hbl hbA hS (nI_in (by omega) (by omega)) dL_law_895 ?_
  rw [show (nI (i + 1)).toNatClampNeg = i + 1 from nI_clamp (by omega)]
  refine lwm_wi (As := [.int (xs (i + 1))]) (rest := []) (n := 1) ⟨hx, hb, hml, hown, htg⟩ h2 (cwV 1 htg gL_125 rfl rfl rfl (by decide +kernel) ⟨Nat.le_of_ble_eq_true rfl, Nat.le_of_ble_eq_true rfl⟩) hK hP hD hS hA hl.1 rfl rfl (Nat.le_of_ble_eq_true rfl) dL_law_896 hc hs (fun H locs hP hD hS => ?_)
  refine lv_istore (lv' := [(6, .int r), (5, .int (nI k)), (4, .int (nI i)), (3, .ref o), (2, .ref (g 0)), (1, .ref (h 0)), (0, .ref b)]) hx hb dL_law_899 hl (by decide) rfl (fun ls hl => ?_)
  refine lv_aload_n hx hb dL_law_901 rfl (lv_at hl 4 rfl) ?_
  refine lwm_ri (As := []) (rest := []) (n := 0) ⟨hx, hb, hml, hown, htg⟩ (m_thrown l τ') (cwV 0 htg gL_75 rfl rfl rfl (by decide +kernel) ⟨Nat.le_of_ble_eq_true rfl, Nat.le_of_ble_eq_true rfl⟩) hK hP hD hS hA hl.1 rfl rfl (Nat.le_of_ble_eq_true rfl) dL_law_902 hc hs (fun H locs hP hD hS => ?_)
  rw [hk]
  refine lv_iload hx hb dL_law_905 (lv_at hl 1 rfl) ?_
  refine xr_icmp_eq (tgt := 912) hx hb dL_law_907 (by decide) (by omega) (by omega) (fun c907 => ?_) (fun c907 => absurd c907 (by exact not_not_intro rfl))
  refine lv_iload hx hb dL_law_912 (lv_at hl 1 rfl) ?_
  refine lv_if_ne (tgt := 929) hx hb dL_law_914 (by decide) (fun c914 => ?_) (fun c914 => ?_)
  · refine lv_goto (tgt := 1080) hx hb dL_law_929 (by decide) ?_
    exact kk _ _ ls hP hD hS (lv_sub hl [2, 3, 4, 5, 6] rfl)
  · have hz0 : ofV z f 0 = r.toInt64 := by rw [hv ((nI_eq (by omega) (by omega)).mp (c914.trans nI_0.symm))]; rfl
    refine lv_aload_n hx hb dL_law_917 rfl (lv_at hl 3 rfl) ?_
    refine lv_iconst (v := nI 0) hx hb dL_law_918 (by decide) ?_
    refine xr_lald (f := ofV z f) (i := 0) hx hb hK hP 22 1 rfl rfl (by decide) (by decide) dL_law_919 ?_
    refine lv_iload hx hb dL_law_920 (lv_at hl 0 rfl) ?_
    refine lv_i2l (v := r.toInt64) hx hb dL_law_922 rfl ?_
    refine xr_lcmp_eq (tgt := 929) hx hb dL_law_923 dL_law_924 (by decide) (fun c923 => ?_) (fun c923 => absurd c923 (by exact not_not_intro hz0))
    refine lv_goto (tgt := 1080) hx hb dL_law_929 (by decide) ?_
    exact kk _ _ ls hP hD hS (lv_sub hl [2, 3, 4, 5, 6] rfl)
set_option maxRecDepth 100000 in
set_option maxHeartbeats 4000000 in
theorem op_journal {p : Program} {l : Launch} {e : Env} {s : State} {m : MethodId} {below : List Frame} {meth : Method} {c : Code} {b L : Nat} {xs : Nat → Int32} {dC : Nat → ClassId} {dI : Nat → Nat → Nat} {cI cJ cZ : ClassId} {h g : Nat → Nat} {o : Nat} {Q : State → Prop} (C : opC p s m c b L xs dC dI cI cJ cZ) {i cells slots : Nat} (hi : i + 5 ≤ L) (hc : cells + 1 ≤ 1062) (hs : slots + 6 ≤ 24739) {σ : BJ} {τ τ' : BM} {f : Nat → Int64} {σ' : BJ} {k : Nat} {z : Option Int64} {r : Int32} (h1 : tW l yL_journal wsL_journal σ (fun o => [.int (xs (i + 1)), .ref o]) k z σ') (hk : kgTh τ' = k) (hk3 : k ≤ 3) (h2 : wMi l yX1_journal wsX1_journal ({ frames := 0, cells := 0, slots := 0, locals := 0 } : Room) τ [.int (xs (i + 1))] r τ') (hv : k = 0 → z = some r.toInt64) {H : Heap} {locs : List Loc} (hP : va_P (dC, dI) vwCl (wLW cI cJ cZ h g o σ τ f) H) (hD : va_D (fun q : Nat => s.heap.size ≤ q) (wLW cI cJ cZ h g o σ τ f)) (hS : va_S (fun q : Nat => s.heap.size ≤ q) s.heap H locs) {ls : Array Slot} (hl : lv_has ls 8 [(4, .int (nI i)), (3, .ref o), (2, .ref (g 0)), (1, .ref (h 0)), (0, .ref b)]) (kk : ∀ (H1 : Heap) (locs1 : List Loc) (ls1 : Array Slot), va_P (dC, dI) vwCl (wLW cI cJ cZ h g o σ' τ' (ofV z f)) H1 → va_D (fun q : Nat => s.heap.size ≤ q) (wLW cI cJ cZ h g o σ' τ' (ofV z f)) → va_S (fun q : Nat => s.heap.size ≤ q) s.heap H1 locs1 → lv_has ls1 8 [(4, .int (nI i)), (3, .ref o), (2, .ref (g 0)), (1, .ref (h 0)), (0, .ref b)] → W p l e room_1 s m #[Value.ref b] below meth c H1 locs1 (cells + 1) (slots + 6) Q (F0 m 1080 ls1 [])) : W p l e room_1 s m #[Value.ref b] below meth c H locs cells slots Q (F0 m 932 ls []) := by
  obtain ⟨hx, hb, hml, hown, htg, hX, hbl, hK, hH, hN, hL⟩ := C
  have hA : ∀ q : Nat, s.heap.size ≤ q → (fun q : Nat => s.heap.size ≤ q) q := fun _ h => h
  have hbA : ¬ (fun q : Nat => s.heap.size ≤ q) b := Nat.not_le.mpr hbl
  refine lv_aload_n hx hb dL_law_932 rfl (lv_at hl 3 rfl) ?_
  refine lv_aload_n hx hb dL_law_933 rfl (lv_at hl 4 rfl) ?_
  refine lv_iload hx hb dL_law_934 (lv_at hl 0 rfl) ?_
  refine lv_iconst (v := nI 1) hx hb dL_law_936 (by decide) ?_
  refine xr_iadd hx hb dL_law_937 ?_
  refine va_sld (i := nI (i + 1)) hx hb hX hbl hbA hS (nI_in (by omega) (by omega)) dL_law_938 ?_
  rw [show (nI (i + 1)).toNatClampNeg = i + 1 from nI_clamp (by omega)]
  refine lv_aload_n hx hb dL_law_939 rfl (lv_at hl 1 rfl) ?_
  refine lw_tw (As := [.ref (h 0), .int (xs (i + 1)), .ref o]) (rest := []) (n := 3) ⟨hx, hb, hml, hown, htg⟩ h1 gL_126 rfl (by decide +kernel) (Nat.le_of_ble_eq_true rfl) (Nat.le_of_ble_eq_true rfl) hH hN rfl rfl hK hP hD hS hA hl.1 rfl rfl (Nat.le_of_ble_eq_true rfl) dL_law_940 hc hs (fun H locs hP hD hS => ?_)
  refine lv_istore (lv' := [(5, .int (nI k)), (4, .int (nI i)), (3, .ref o), (2, .ref (g 0)), (1, .ref (h 0)), (0, .ref b)]) hx hb dL_law_943 hl (by decide) rfl (fun ls hl => ?_)
  refine lv_aload_n hx hb dL_law_945 rfl (lv_at hl 3 rfl) ?_
  refine lv_aload_n hx hb dL_law_946 rfl (lv_at hl 5 rfl) ?_
  refine lv_iload hx hb dL_law_947 (lv_at hl 1 rfl) ?_
  refine lv_iconst (v := nI 1) hx hb dL_law_949 (by decide) ?_
  refine xr_iadd hx hb dL_law_950 ?_
  refine va_sld (i := nI (i + 1)) hx hb hX hbl hbA hS (nI_in (by omega) (by omega)) dL_law_951 ?_
  rw [show (nI (i + 1)).toNatClampNeg = i + 1 from nI_clamp (by omega)]
  refine lwm_wi (As := [.int (xs (i + 1))]) (rest := []) (n := 1) ⟨hx, hb, hml, hown, htg⟩ h2 (cwV 1 htg gL_128 rfl rfl rfl (by decide +kernel) ⟨Nat.le_of_ble_eq_true rfl, Nat.le_of_ble_eq_true rfl⟩) hK hP hD hS hA hl.1 rfl rfl (Nat.le_of_ble_eq_true rfl) dL_law_952 hc hs (fun H locs hP hD hS => ?_)
  refine lv_istore (lv' := [(6, .int r), (5, .int (nI k)), (4, .int (nI i)), (3, .ref o), (2, .ref (g 0)), (1, .ref (h 0)), (0, .ref b)]) hx hb dL_law_955 hl (by decide) rfl (fun ls hl => ?_)
  refine lv_aload_n hx hb dL_law_957 rfl (lv_at hl 4 rfl) ?_
  refine lwm_ri (As := []) (rest := []) (n := 0) ⟨hx, hb, hml, hown, htg⟩ (m_thrown l τ') (cwV 0 htg gL_75 rfl rfl rfl (by decide +kernel) ⟨Nat.le_of_ble_eq_true rfl, Nat.le_of_ble_eq_true rfl⟩) hK hP hD hS hA hl.1 rfl rfl (Nat.le_of_ble_eq_true rfl) dL_law_958 hc hs (fun H locs hP hD hS => ?_)
  rw [hk]
  refine lv_iload hx hb dL_law_961 (lv_at hl 1 rfl) ?_
  refine xr_icmp_eq (tgt := 968) hx hb dL_law_963 (by decide) (by omega) (by omega) (fun c963 => ?_) (fun c963 => absurd c963 (by exact not_not_intro rfl))
  refine lv_iload hx hb dL_law_968 (lv_at hl 1 rfl) ?_
  refine lv_if_ne (tgt := 985) hx hb dL_law_970 (by decide) (fun c970 => ?_) (fun c970 => ?_)
  · refine lv_goto (tgt := 1080) hx hb dL_law_985 (by decide) ?_
    exact kk _ _ ls hP hD hS (lv_sub hl [2, 3, 4, 5, 6] rfl)
  · have hz0 : ofV z f 0 = r.toInt64 := by rw [hv ((nI_eq (by omega) (by omega)).mp (c970.trans nI_0.symm))]; rfl
    refine lv_aload_n hx hb dL_law_973 rfl (lv_at hl 3 rfl) ?_
    refine lv_iconst (v := nI 0) hx hb dL_law_974 (by decide) ?_
    refine xr_lald (f := ofV z f) (i := 0) hx hb hK hP 22 1 rfl rfl (by decide) (by decide) dL_law_975 ?_
    refine lv_iload hx hb dL_law_976 (lv_at hl 0 rfl) ?_
    refine lv_i2l (v := r.toInt64) hx hb dL_law_978 rfl ?_
    refine xr_lcmp_eq (tgt := 985) hx hb dL_law_979 dL_law_980 (by decide) (fun c979 => ?_) (fun c979 => absurd c979 (by exact not_not_intro hz0))
    refine lv_goto (tgt := 1080) hx hb dL_law_985 (by decide) ?_
    exact kk _ _ ls hP hD hS (lv_sub hl [2, 3, 4, 5, 6] rfl)
set_option maxRecDepth 100000 in
set_option maxHeartbeats 4000000 in
theorem op_sync {p : Program} {l : Launch} {e : Env} {s : State} {m : MethodId} {below : List Frame} {meth : Method} {c : Code} {b L : Nat} {xs : Nat → Int32} {dC : Nat → ClassId} {dI : Nat → Nat → Nat} {cI cJ cZ : ClassId} {h g : Nat → Nat} {o : Nat} {Q : State → Prop} (C : opC p s m c b L xs dC dI cI cJ cZ) {i cells slots : Nat} (hi : i + 5 ≤ L) (hc : cells + 1 ≤ 1062) (hs : slots + 6 ≤ 24739) {σ : BJ} {τ τ' : BM} {f : Nat → Int64} {σ' : BJ} {rm : Room} (h2 : wMv l yX1_sync wsX1_sync ({ frames := 0, cells := 0, slots := 0, locals := 0 } : Room) τ [] τ') (h1 : wBv l yX0_sync wsX0_sync rm σ [] σ') (hrc : rm.cells = 0) (hrs : rm.slots = 0) (hfr : rm.frames + 1 ≤ 11) (hlo : 8 + (1 + 11) + rm.locals ≤ 394) {H : Heap} {locs : List Loc} (hP : va_P (dC, dI) vwCl (wLW cI cJ cZ h g o σ τ f) H) (hD : va_D (fun q : Nat => s.heap.size ≤ q) (wLW cI cJ cZ h g o σ τ f)) (hS : va_S (fun q : Nat => s.heap.size ≤ q) s.heap H locs) {ls : Array Slot} (hl : lv_has ls 8 [(4, .int (nI i)), (3, .ref o), (2, .ref (g 0)), (1, .ref (h 0)), (0, .ref b)]) (kk : ∀ (H1 : Heap) (locs1 : List Loc) (ls1 : Array Slot), va_P (dC, dI) vwCl (wLW cI cJ cZ h g o σ' τ' f) H1 → va_D (fun q : Nat => s.heap.size ≤ q) (wLW cI cJ cZ h g o σ' τ' f) → va_S (fun q : Nat => s.heap.size ≤ q) s.heap H1 locs1 → lv_has ls1 8 [(4, .int (nI i)), (3, .ref o), (2, .ref (g 0)), (1, .ref (h 0)), (0, .ref b)] → W p l e room_1 s m #[Value.ref b] below meth c H1 locs1 (cells + 1) (slots + 6) Q (F0 m 1080 ls1 [])) : W p l e room_1 s m #[Value.ref b] below meth c H locs cells slots Q (F0 m 988 ls []) := by
  obtain ⟨hx, hb, hml, hown, htg, hX, hbl, hK, hH, hN, hL⟩ := C
  have hA : ∀ q : Nat, s.heap.size ≤ q → (fun q : Nat => s.heap.size ≤ q) q := fun _ h => h
  have hbA : ¬ (fun q : Nat => s.heap.size ≤ q) b := Nat.not_le.mpr hbl
  refine lv_aload_n hx hb dL_law_988 rfl (lv_at hl 3 rfl) ?_
  refine lwc_wv (As := []) (rest := []) (n := 0) ⟨hx, hb, hml, hown, htg⟩ h1 (cwV 0 htg gL_129 rfl hrc hrs (by decide +kernel) ⟨hfr, hlo⟩) hK hP hD hS hA hl.1 rfl rfl (Nat.le_of_ble_eq_true rfl) dL_law_989 (Nat.le_trans (Nat.le_succ _) hc) (Nat.le_trans (Nat.le_add_right _ 6) hs) (fun H locs hP hD hS => ?_)
  refine lv_aload_n hx hb dL_law_992 rfl (lv_at hl 2 rfl) ?_
  refine lwm_wv (As := []) (rest := []) (n := 0) ⟨hx, hb, hml, hown, htg⟩ h2 (cwV 0 htg gL_132 rfl rfl rfl (by decide +kernel) ⟨Nat.le_of_ble_eq_true rfl, Nat.le_of_ble_eq_true rfl⟩) hK hP hD hS hA hl.1 rfl rfl (Nat.le_of_ble_eq_true rfl) dL_law_993 (Nat.le_trans (Nat.le_succ _) hc) (Nat.le_trans (Nat.le_add_right _ 6) hs) (fun H locs hP hD hS => ?_)
  refine lv_goto (tgt := 1080) hx hb dL_law_996 (by decide) ?_
  refine W.widen (k := cells + 1) (n := slots + 6) (by omega) (by omega) ?_
  exact kk _ _ ls hP hD hS (lv_sub hl [0, 1, 2, 3, 4] rfl)
set_option maxRecDepth 100000 in
set_option maxHeartbeats 4000000 in
theorem op_crash {p : Program} {l : Launch} {e : Env} {s : State} {m : MethodId} {below : List Frame} {meth : Method} {c : Code} {b L : Nat} {xs : Nat → Int32} {dC : Nat → ClassId} {dI : Nat → Nat → Nat} {cI cJ cZ : ClassId} {h g : Nat → Nat} {o : Nat} {Q : State → Prop} (C : opC p s m c b L xs dC dI cI cJ cZ) {i cells slots : Nat} (hi : i + 5 ≤ L) (hc : cells + 1 ≤ 1062) (hs : slots + 6 ≤ 24739) {σ : BJ} {τ τ' : BM} {f : Nat → Int64} {σ' : BJ} {k : Nat} {z : Option Int64} {r : Int32} (h1 : tW l yL_crash wsL_crash σ (fun o => [.int (xs (i + 1)), .int (xs (i + 2)), .ref o]) k z σ') (hk : kgTh τ' = k) (hk3 : k ≤ 3) (h2 : wMi l yX1_crash wsX1_crash ({ frames := 4, cells := 0, slots := 0, locals := 95 } : Room) τ [.int (xs (i + 1)), .int (xs (i + 2))] r τ') (hv : k = 0 → z = some r.toInt64) {H : Heap} {locs : List Loc} (hP : va_P (dC, dI) vwCl (wLW cI cJ cZ h g o σ τ f) H) (hD : va_D (fun q : Nat => s.heap.size ≤ q) (wLW cI cJ cZ h g o σ τ f)) (hS : va_S (fun q : Nat => s.heap.size ≤ q) s.heap H locs) {ls : Array Slot} (hl : lv_has ls 8 [(4, .int (nI i)), (3, .ref o), (2, .ref (g 0)), (1, .ref (h 0)), (0, .ref b)]) (kk : ∀ (H1 : Heap) (locs1 : List Loc) (ls1 : Array Slot), va_P (dC, dI) vwCl (wLW cI cJ cZ h g o σ' τ' (ofV z f)) H1 → va_D (fun q : Nat => s.heap.size ≤ q) (wLW cI cJ cZ h g o σ' τ' (ofV z f)) → va_S (fun q : Nat => s.heap.size ≤ q) s.heap H1 locs1 → lv_has ls1 8 [(4, .int (nI i)), (3, .ref o), (2, .ref (g 0)), (1, .ref (h 0)), (0, .ref b)] → W p l e room_1 s m #[Value.ref b] below meth c H1 locs1 (cells + 1) (slots + 6) Q (F0 m 1080 ls1 [])) : W p l e room_1 s m #[Value.ref b] below meth c H locs cells slots Q (F0 m 999 ls []) := by
  obtain ⟨hx, hb, hml, hown, htg, hX, hbl, hK, hH, hN, hL⟩ := C
  have hA : ∀ q : Nat, s.heap.size ≤ q → (fun q : Nat => s.heap.size ≤ q) q := fun _ h => h
  have hbA : ¬ (fun q : Nat => s.heap.size ≤ q) b := Nat.not_le.mpr hbl
  refine lv_aload_n hx hb dL_law_999 rfl (lv_at hl 3 rfl) ?_
  refine lv_aload_n hx hb dL_law_1000 rfl (lv_at hl 4 rfl) ?_
  refine lv_iload hx hb dL_law_1001 (lv_at hl 0 rfl) ?_
  refine lv_iconst (v := nI 1) hx hb dL_law_1003 (by decide) ?_
  refine xr_iadd hx hb dL_law_1004 ?_
  refine va_sld (i := nI (i + 1)) hx hb hX hbl hbA hS (nI_in (by omega) (by omega)) dL_law_1005 ?_
  rw [show (nI (i + 1)).toNatClampNeg = i + 1 from nI_clamp (by omega)]
  refine lv_aload_n hx hb dL_law_1006 rfl (lv_at hl 4 rfl) ?_
  refine lv_iload hx hb dL_law_1007 (lv_at hl 0 rfl) ?_
  refine lv_iconst (v := nI 2) hx hb dL_law_1009 (by decide) ?_
  refine xr_iadd hx hb dL_law_1010 ?_
  refine va_sld (i := nI (i + 2)) hx hb hX hbl hbA hS (nI_in (by omega) (by omega)) dL_law_1011 ?_
  rw [show (nI (i + 2)).toNatClampNeg = i + 2 from nI_clamp (by omega)]
  refine lv_aload_n hx hb dL_law_1012 rfl (lv_at hl 1 rfl) ?_
  refine lw_tw (As := [.ref (h 0), .int (xs (i + 1)), .int (xs (i + 2)), .ref o]) (rest := []) (n := 4) ⟨hx, hb, hml, hown, htg⟩ h1 gL_133 rfl (by decide +kernel) (Nat.le_of_ble_eq_true rfl) (Nat.le_of_ble_eq_true rfl) hH hN rfl rfl hK hP hD hS hA hl.1 rfl rfl (Nat.le_of_ble_eq_true rfl) dL_law_1013 hc hs (fun H locs hP hD hS => ?_)
  refine lv_istore (lv' := [(5, .int (nI k)), (4, .int (nI i)), (3, .ref o), (2, .ref (g 0)), (1, .ref (h 0)), (0, .ref b)]) hx hb dL_law_1016 hl (by decide) rfl (fun ls hl => ?_)
  refine lv_aload_n hx hb dL_law_1018 rfl (lv_at hl 3 rfl) ?_
  refine lv_aload_n hx hb dL_law_1019 rfl (lv_at hl 5 rfl) ?_
  refine lv_iload hx hb dL_law_1020 (lv_at hl 1 rfl) ?_
  refine lv_iconst (v := nI 1) hx hb dL_law_1022 (by decide) ?_
  refine xr_iadd hx hb dL_law_1023 ?_
  refine va_sld (i := nI (i + 1)) hx hb hX hbl hbA hS (nI_in (by omega) (by omega)) dL_law_1024 ?_
  rw [show (nI (i + 1)).toNatClampNeg = i + 1 from nI_clamp (by omega)]
  refine lv_aload_n hx hb dL_law_1025 rfl (lv_at hl 5 rfl) ?_
  refine lv_iload hx hb dL_law_1026 (lv_at hl 1 rfl) ?_
  refine lv_iconst (v := nI 2) hx hb dL_law_1028 (by decide) ?_
  refine xr_iadd hx hb dL_law_1029 ?_
  refine va_sld (i := nI (i + 2)) hx hb hX hbl hbA hS (nI_in (by omega) (by omega)) dL_law_1030 ?_
  rw [show (nI (i + 2)).toNatClampNeg = i + 2 from nI_clamp (by omega)]
  refine lwm_wi (As := [.int (xs (i + 1)), .int (xs (i + 2))]) (rest := []) (n := 2) ⟨hx, hb, hml, hown, htg⟩ h2 (cwV 2 htg gL_136 rfl rfl rfl (by decide +kernel) ⟨Nat.le_of_ble_eq_true rfl, Nat.le_of_ble_eq_true rfl⟩) hK hP hD hS hA hl.1 rfl rfl (Nat.le_of_ble_eq_true rfl) dL_law_1031 hc hs (fun H locs hP hD hS => ?_)
  refine lv_istore (lv' := [(6, .int r), (5, .int (nI k)), (4, .int (nI i)), (3, .ref o), (2, .ref (g 0)), (1, .ref (h 0)), (0, .ref b)]) hx hb dL_law_1034 hl (by decide) rfl (fun ls hl => ?_)
  refine lv_aload_n hx hb dL_law_1036 rfl (lv_at hl 4 rfl) ?_
  refine lwm_ri (As := []) (rest := []) (n := 0) ⟨hx, hb, hml, hown, htg⟩ (m_thrown l τ') (cwV 0 htg gL_75 rfl rfl rfl (by decide +kernel) ⟨Nat.le_of_ble_eq_true rfl, Nat.le_of_ble_eq_true rfl⟩) hK hP hD hS hA hl.1 rfl rfl (Nat.le_of_ble_eq_true rfl) dL_law_1037 hc hs (fun H locs hP hD hS => ?_)
  rw [hk]
  refine lv_iload hx hb dL_law_1040 (lv_at hl 1 rfl) ?_
  refine xr_icmp_eq (tgt := 1047) hx hb dL_law_1042 (by decide) (by omega) (by omega) (fun c1042 => ?_) (fun c1042 => absurd c1042 (by exact not_not_intro rfl))
  refine lv_iload hx hb dL_law_1047 (lv_at hl 1 rfl) ?_
  refine lv_if_ne (tgt := 1064) hx hb dL_law_1049 (by decide) (fun c1049 => ?_) (fun c1049 => ?_)
  · refine lv_goto (tgt := 1080) hx hb dL_law_1064 (by decide) ?_
    exact kk _ _ ls hP hD hS (lv_sub hl [2, 3, 4, 5, 6] rfl)
  · have hz0 : ofV z f 0 = r.toInt64 := by rw [hv ((nI_eq (by omega) (by omega)).mp (c1049.trans nI_0.symm))]; rfl
    refine lv_aload_n hx hb dL_law_1052 rfl (lv_at hl 3 rfl) ?_
    refine lv_iconst (v := nI 0) hx hb dL_law_1053 (by decide) ?_
    refine xr_lald (f := ofV z f) (i := 0) hx hb hK hP 22 1 rfl rfl (by decide) (by decide) dL_law_1054 ?_
    refine lv_iload hx hb dL_law_1055 (lv_at hl 0 rfl) ?_
    refine lv_i2l (v := r.toInt64) hx hb dL_law_1057 rfl ?_
    refine xr_lcmp_eq (tgt := 1064) hx hb dL_law_1058 dL_law_1059 (by decide) (fun c1058 => ?_) (fun c1058 => absurd c1058 (by exact not_not_intro hz0))
    refine lv_goto (tgt := 1080) hx hb dL_law_1064 (by decide) ?_
    exact kk _ _ ls hP hD hS (lv_sub hl [2, 3, 4, 5, 6] rfl)
set_option maxRecDepth 100000 in
set_option maxHeartbeats 4000000 in
theorem op_collect {p : Program} {l : Launch} {e : Env} {s : State} {m : MethodId} {below : List Frame} {meth : Method} {c : Code} {b L : Nat} {xs : Nat → Int32} {dC : Nat → ClassId} {dI : Nat → Nat → Nat} {cI cJ cZ : ClassId} {h g : Nat → Nat} {o : Nat} {Q : State → Prop} (C : opC p s m c b L xs dC dI cI cJ cZ) {i cells slots : Nat} (hi : i + 5 ≤ L) (hc : cells + 1 ≤ 1062) (hs : slots + 6 ≤ 24739) {σ : BJ} {τ τ' : BM} {f : Nat → Int64} {r : Int32} {σ' : BJ} {rm : Room} (h2 : wMi l yX1_collect wsX1_collect ({ frames := 1, cells := 0, slots := 0, locals := 24 } : Room) τ [] r τ') (h1 : wBi l yX0_collect wsX0_collect rm σ [] r σ') (hrc : rm.cells = 0) (hrs : rm.slots = 0) (hfr : rm.frames + 1 ≤ 11) (hlo : 8 + (2 + 11) + rm.locals ≤ 394) {H : Heap} {locs : List Loc} (hP : va_P (dC, dI) vwCl (wLW cI cJ cZ h g o σ τ f) H) (hD : va_D (fun q : Nat => s.heap.size ≤ q) (wLW cI cJ cZ h g o σ τ f)) (hS : va_S (fun q : Nat => s.heap.size ≤ q) s.heap H locs) {ls : Array Slot} (hl : lv_has ls 8 [(4, .int (nI i)), (3, .ref o), (2, .ref (g 0)), (1, .ref (h 0)), (0, .ref b)]) (kk : ∀ (H1 : Heap) (locs1 : List Loc) (ls1 : Array Slot), va_P (dC, dI) vwCl (wLW cI cJ cZ h g o σ' τ' f) H1 → va_D (fun q : Nat => s.heap.size ≤ q) (wLW cI cJ cZ h g o σ' τ' f) → va_S (fun q : Nat => s.heap.size ≤ q) s.heap H1 locs1 → lv_has ls1 8 [(4, .int (nI i)), (3, .ref o), (2, .ref (g 0)), (1, .ref (h 0)), (0, .ref b)] → W p l e room_1 s m #[Value.ref b] below meth c H1 locs1 (cells + 1) (slots + 6) Q (F0 m 1080 ls1 [])) : W p l e room_1 s m #[Value.ref b] below meth c H locs cells slots Q (F0 m 1067 ls []) := by
  obtain ⟨hx, hb, hml, hown, htg, hX, hbl, hK, hH, hN, hL⟩ := C
  have hA : ∀ q : Nat, s.heap.size ≤ q → (fun q : Nat => s.heap.size ≤ q) q := fun _ h => h
  have hbA : ¬ (fun q : Nat => s.heap.size ≤ q) b := Nat.not_le.mpr hbl
  refine lv_aload_n hx hb dL_law_1067 rfl (lv_at hl 3 rfl) ?_
  refine lwc_wi (As := []) (rest := []) (n := 0) ⟨hx, hb, hml, hown, htg⟩ h1 (cwV 0 htg gL_137 rfl hrc hrs (by decide +kernel) ⟨hfr, hlo⟩) hK hP hD hS hA hl.1 rfl rfl (Nat.le_of_ble_eq_true rfl) dL_law_1068 (Nat.le_trans (Nat.le_succ _) hc) (Nat.le_trans (Nat.le_add_right _ 6) hs) (fun H locs hP hD hS => ?_)
  refine lv_aload_n hx hb dL_law_1071 rfl (lv_at hl 2 rfl) ?_
  refine lwm_wi (As := []) (rest := [.int r]) (n := 0) ⟨hx, hb, hml, hown, htg⟩ h2 (cwV 0 htg gL_140 rfl rfl rfl (by decide +kernel) ⟨Nat.le_of_ble_eq_true rfl, Nat.le_of_ble_eq_true rfl⟩) hK hP hD hS hA hl.1 rfl rfl (Nat.le_of_ble_eq_true rfl) dL_law_1072 (Nat.le_trans (Nat.le_succ _) hc) (Nat.le_trans (Nat.le_add_right _ 6) hs) (fun H locs hP hD hS => ?_)
  refine lv_icmp_eq (tgt := 1080) hx hb dL_law_1075 (by decide) (fun c1075 => ?_) (fun c1075 => absurd c1075 (by exact not_not_intro rfl))
  refine W.widen (k := cells + 1) (n := slots + 6) (by omega) (by omega) ?_
  exact kk _ _ ls hP hD hS (lv_sub hl [0, 1, 2, 3, 4] rfl)
