set_option maxRecDepth 100000 in
set_option maxHeartbeats 4000000 in
theorem law_exit {p : Program} {l : Launch} {e : Env} {s : State} {m : MethodId} {below : List Frame} {meth : Method} {c : Code} {b L : Nat} {xs : Nat → Int32} {dC : Nat → ClassId} {dI : Nat → Nat → Nat} {cI cJ cZ : ClassId} (C : opC p s m c b L xs dC dI cI cJ cZ) (hr : meth.sig.returnType = ret) (hlocks : meth.locks = false) {k n : Nat} (h1 : k ≤ 1062) (h2 : n ≤ 24739) {H0 H : Heap} {locs : List Loc} (hS : va_S (fun q : Nat => s.heap.size ≤ q) H0 H locs) {ls : Array Slot} : W p l e room_1 s m #[Value.ref b] below meth c H locs (k) (n) (lw_Z below #[Value.ref b] s) (F0 m 1086 ls []) := by
  obtain ⟨hx, hb, hml, hown, htg, hX, hbl, hK, hH, hN, hL⟩ := C
  refine va_forget (fun q hq => hS.2.2 q hq) ?_
  refine W.widen (k := 1062) (n := 24739) h1 h2 ?_
  refine lv_iconst (v := 1) hx hb dL_law_1086 (by decide) ?_
  exact lw_ret hx hb hr hlocks dL_law_1087
set_option maxRecDepth 100000 in
set_option maxHeartbeats 4000000 in
theorem law_loop {p : Program} {l : Launch} {e : Env} {s : State} {m : MethodId} {below : List Frame} {meth : Method} {c : Code} {b L : Nat} {xs : Nat → Int32} {dC : Nat → ClassId} {dI : Nat → Nat → Nat} {cI cJ cZ : ClassId} {h g : Nat → Nat} {o : Nat} (hl0 : l.stackTraces = false) (C : opC p s m c b L xs dC dI cI cJ cZ) (hr : meth.sig.returnType = ret) (hlocks : meth.locks = false) :
    ∀ (n j : Nat) (σ : BJ) (τ : BM) (f : Nat → Int64), 5 * j ≤ L → L < 5 * j + 5 * n → Rel σ τ → ∀ (H : Heap) (locs : List Loc), va_P (dC, dI) vwCl (wLW cI cJ cZ h g o σ τ f) H → va_D (fun q : Nat => s.heap.size ≤ q) (wLW cI cJ cZ h g o σ τ f) → va_S (fun q : Nat => s.heap.size ≤ q) s.heap H locs → ∀ ls : Array Slot, lv_has ls 8 [(4, .int (nI (5 * j))), (3, .ref o), (2, .ref (g 0)), (1, .ref (h 0)), (0, .ref b)] → W p l e room_1 s m #[Value.ref b] below meth c H locs (23 + j) (16457 + 6 * j) (lw_Z below #[Value.ref b] s) (F0 m 23 ls []) := by
  intro n
  induction n with
  | zero => intro j σ τ f h1 h2; exact absurd h2 (by omega)
  | succ n ih =>
    intro j σ τ f hj1 hj2 R H locs hP hD hS ls hl
    obtain ⟨hx, hb, hml, hown, htg, hX, hbl, hK, hH, hN, hL⟩ := id C
    have hA : ∀ q : Nat, s.heap.size ≤ q → (fun q : Nat => s.heap.size ≤ q) q := fun _ h => h
    have hbA : ¬ (fun q : Nat => s.heap.size ≤ q) b := Nat.not_le.mpr hbl
    have tail : ∀ (σ : BJ) (τ : BM) (f : Nat → Int64), 5 * j + 5 ≤ L → Rel σ τ → ∀ (H : Heap) (locs : List Loc) (ls : Array Slot), va_P (dC, dI) vwCl (wLW cI cJ cZ h g o σ τ f) H → va_D (fun q : Nat => s.heap.size ≤ q) (wLW cI cJ cZ h g o σ τ f) → va_S (fun q : Nat => s.heap.size ≤ q) s.heap H locs → lv_has ls 8 [(4, .int (nI (5 * j))), (3, .ref o), (2, .ref (g 0)), (1, .ref (h 0)), (0, .ref b)] → W p l e room_1 s m #[Value.ref b] below meth c H locs (23 + j + 1) (16457 + 6 * j + 6) (lw_Z below #[Value.ref b] s) (F0 m 1080 ls []) := by
      intro σ τ f hi R H locs ls hP hD hS hl
      refine lv_iinc (v := nI (5 * (j + 1))) (lv' := [(4, .int (nI (5 * (j + 1)))), (3, .ref o), (2, .ref (g 0)), (1, .ref (h 0)), (0, .ref b)]) hx hb dL_law_1080 hl (k := 0) rfl (nI_add _ 5) (by decide) rfl (fun ls hl => ?_)
      refine lv_goto (tgt := 23) hx hb dL_law_1083 (by decide) ?_
      exact ih (j + 1) σ τ f (by omega) (by omega) R H locs hP hD hS ls hl
    have hc : 23 + j + 1 ≤ 1062 := by omega
    have hs : 16457 + 6 * j + 6 ≤ 24739 := by omega
    by_cases h5 : 5 ≤ L
    · refine lv_iload hx hb dL_law_23 (lv_at hl 0 rfl) ?_
      refine lv_aload_n hx hb dL_law_25 rfl (lv_at hl 4 rfl) ?_
      refine va_slen hx hb hX hbl hbA hS dL_law_26 ?_
      refine lv_iconst (v := nI 5) hx hb dL_law_27 (by decide) ?_
      refine xr_isub hx hb (by omega) dL_law_28 ?_
      refine xr_icmp_gt (tgt := 1086) hx hb dL_law_29 (by decide) (by omega) (by omega) (fun c29 => ?_) (fun c29 => ?_)
      · exact law_exit C hr hlocks (by omega) (by omega) hS
      · have hi : 5 * j + 5 ≤ L := by omega
        refine lv_aload_n hx hb dL_law_32 rfl (lv_at hl 4 rfl) ?_
        refine lv_iload hx hb dL_law_33 (lv_at hl 0 rfl) ?_
        refine va_sld (i := nI (5 * j)) hx hb hX hbl hbA hS (nI_in (by omega) (by omega)) dL_law_35 ?_
        rw [show (nI (5 * j)).toNatClampNeg = 5 * j from nI_clamp (by omega)]
        refine lv_bipush (v := nI 31) hx hb dL_law_36 (by decide) ?_
        refine lv_iand hx hb dL_law_38 ?_
        by_cases c39_0 : (xs (5 * j)) &&& (nI 31) = 0
        · rw [c39_0]
          refine lv_tableIn (tgt := 120) (off := 81) hx hb dL_law_39 (by decide) (by decide) (by decide) (by decide) ?_
          obtain ⟨k, z, σ', r, τ', h1, h2, hk, hk3, hv, hR⟩ := pr_type hl0 R (xs (5 * j + 1))
          exact op_type C (i := 5 * j) hi hc hs h1 hk hk3 h2 hv hP hD hS hl (fun H1 locs1 ls1 hP hD hS hl => tail _ _ _ hi hR H1 locs1 ls1 hP hD hS hl)
        by_cases c39_1 : (xs (5 * j)) &&& (nI 31) = 1
        · rw [c39_1]
          refine lv_tableIn (tgt := 176) (off := 137) hx hb dL_law_39 (by decide) (by decide) (by decide) (by decide) ?_
          obtain ⟨k, z, σ', τ', h1, h2, hk, hk3, hR⟩ := pr_cut hl0 R (xs (5 * j + 1))
          exact op_cut C (i := 5 * j) hi hc hs h1 hk hk3 h2 hP hD hS hl (fun H1 locs1 ls1 hP hD hS hl => tail _ _ _ hi hR H1 locs1 ls1 hP hD hS hl)
        by_cases c39_2 : (xs (5 * j)) &&& (nI 31) = 2
        · rw [c39_2]
          refine lv_tableIn (tgt := 212) (off := 173) hx hb dL_law_39 (by decide) (by decide) (by decide) (by decide) ?_
          have h2 := m_digest l τ (by have := R.my; omega)
          rw [R_dig R] at h2
          exact op_digest C (i := 5 * j) hi hc hs h2 (c_digest l σ (by have := R.my; omega)) rfl rfl (Nat.le_of_ble_eq_true rfl) (Nat.le_of_ble_eq_true rfl) hP hD hS hl (fun H1 locs1 ls1 hP hD hS hl => tail _ _ _ hi (R.th 0) H1 locs1 ls1 hP hD hS hl)
        by_cases c39_3 : (xs (5 * j)) &&& (nI 31) = 3
        · rw [c39_3]
          refine lv_tableIn (tgt := 226) (off := 187) hx hb dL_law_39 (by decide) (by decide) (by decide) (by decide) ?_
          obtain ⟨k, z, σ', r, τ', h1, h2, hk, hk3, hv, hR⟩ := pr_keep hl0 R
          exact op_keep C (i := 5 * j) hi hc hs h1 hk hk3 h2 hv hP hD hS hl (fun H1 locs1 ls1 hP hD hS hl => tail _ _ _ hi hR H1 locs1 ls1 hP hD hS hl)
        by_cases c39_4 : (xs (5 * j)) &&& (nI 31) = 4
        · rw [c39_4]
          refine lv_tableIn (tgt := 269) (off := 230) hx hb dL_law_39 (by decide) (by decide) (by decide) (by decide) ?_
          obtain ⟨k, z, σ', τ', h1, h2, hk, hk3, hR⟩ := pr_tell hl0 R (xs (5 * j + 1)) (jL (xs (5 * j + 2)) (xs (5 * j + 3)))
          exact op_tell C (i := 5 * j) hi hc hs h1 hk hk3 h2 hP hD hS hl (fun H1 locs1 ls1 hP hD hS hl => tail _ _ _ hi hR H1 locs1 ls1 hP hD hS hl)
        by_cases c39_5 : (xs (5 * j)) &&& (nI 31) = 5
        · rw [c39_5]
          refine lv_tableIn (tgt := 349) (off := 310) hx hb dL_law_39 (by decide) (by decide) (by decide) (by decide) ?_
          obtain ⟨k, z, σ', τ', h1, h2, hk, hk3, hR⟩ := pr_untell hl0 R (xs (5 * j + 1))
          exact op_untell C (i := 5 * j) hi hc hs h1 hk hk3 h2 hP hD hS hl (fun H1 locs1 ls1 hP hD hS hl => tail _ _ _ hi hR H1 locs1 ls1 hP hD hS hl)
        by_cases c39_6 : (xs (5 * j)) &&& (nI 31) = 6
        · rw [c39_6]
          refine lv_tableIn (tgt := 385) (off := 346) hx hb dL_law_39 (by decide) (by decide) (by decide) (by decide) ?_
          obtain ⟨k, z, σ', τ', h1, h2, hk, hk3, hR⟩ := pr_learn hl0 R (jL (xs (5 * j + 1)) (xs (5 * j + 2))) (jL (xs (5 * j + 3)) (xs (5 * j + 4)))
          exact op_learn C (i := 5 * j) hi hc hs h1 hk hk3 h2 hP hD hS hl (fun H1 locs1 ls1 hP hD hS hl => tail _ _ _ hi hR H1 locs1 ls1 hP hD hS hl)
        by_cases c39_7 : (xs (5 * j)) &&& (nI 31) = 7
        · rw [c39_7]
          refine lv_tableIn (tgt := 497) (off := 458) hx hb dL_law_39 (by decide) (by decide) (by decide) (by decide) ?_
          obtain ⟨k, z, σ', τ', h1, h2, hk, hk3, hR⟩ := pr_pin hl0 R (xs (5 * j + 1)) (jL (xs (5 * j + 2)) (xs (5 * j + 3)))
          exact op_pin C (i := 5 * j) hi hc hs h1 hk hk3 h2 hP hD hS hl (fun H1 locs1 ls1 hP hD hS hl => tail _ _ _ hi hR H1 locs1 ls1 hP hD hS hl)
        by_cases c39_8 : (xs (5 * j)) &&& (nI 31) = 8
        · rw [c39_8]
          refine lv_tableIn (tgt := 577) (off := 538) hx hb dL_law_39 (by decide) (by decide) (by decide) (by decide) ?_
          obtain ⟨k, z, σ', r, τ', h1, h2, hk, hk3, hv, hR⟩ := pr_tag hl0 R (xs (5 * j + 1))
          exact op_tag C (i := 5 * j) hi hc hs h1 hk hk3 h2 hv hP hD hS hl (fun H1 locs1 ls1 hP hD hS hl => tail _ _ _ hi hR H1 locs1 ls1 hP hD hS hl)
        by_cases c39_9 : (xs (5 * j)) &&& (nI 31) = 9
        · rw [c39_9]
          refine lv_tableIn (tgt := 632) (off := 593) hx hb dL_law_39 (by decide) (by decide) (by decide) (by decide) ?_
          obtain ⟨k, z, σ', r, τ', h1, h2, hk, hk3, hv, hR⟩ := pr_look hl0 R (jL (xs (5 * j + 1)) (xs (5 * j + 2)))
          exact op_look C (i := 5 * j) hi hc hs h1 hk hk3 h2 hv hP hD hS hl (fun H1 locs1 ls1 hP hD hS hl => tail _ _ _ hi hR H1 locs1 ls1 hP hD hS hl)
        by_cases c39_10 : (xs (5 * j)) &&& (nI 31) = 10
        · rw [c39_10]
          refine lv_tableIn (tgt := 719) (off := 680) hx hb dL_law_39 (by decide) (by decide) (by decide) (by decide) ?_
          have h2 := m_length l τ (jL (xs (5 * j + 1)) (xs (5 * j + 2))) (by have := R.bl; omega)
          rw [pr_length (l := l) R] at h2
          exact op_length C (i := 5 * j) hi hc hs h2 (c_length l σ _ R.bl.2) rfl rfl (Nat.le_of_ble_eq_true rfl) (Nat.le_of_ble_eq_true rfl) hP hD hS hl (fun H1 locs1 ls1 hP hD hS hl => tail _ _ _ hi (R.th 0) H1 locs1 ls1 hP hD hS hl)
        by_cases c39_11 : (xs (5 * j)) &&& (nI 31) = 11
        · rw [c39_11]
          refine lv_tableIn (tgt := 776) (off := 737) hx hb dL_law_39 (by decide) (by decide) (by decide) (by decide) ?_
          obtain ⟨k, z, σ', r, τ', h1, h2, hk, hk3, hv, hR⟩ := pr_byteOf hl0 R (jL (xs (5 * j + 1)) (xs (5 * j + 2))) (xs (5 * j + 3))
          exact op_byteOf C (i := 5 * j) hi hc hs h1 hk hk3 h2 hv hP hD hS hl (fun H1 locs1 ls1 hP hD hS hl => tail _ _ _ hi hR H1 locs1 ls1 hP hD hS hl)
        by_cases c39_12 : (xs (5 * j)) &&& (nI 31) = 12
        · rw [c39_12]
          refine lv_tableIn (tgt := 876) (off := 837) hx hb dL_law_39 (by decide) (by decide) (by decide) (by decide) ?_
          obtain ⟨k, z, σ', r, τ', h1, h2, hk, hk3, hv, hR⟩ := pr_count hl0 R (xs (5 * j + 1))
          exact op_count C (i := 5 * j) hi hc hs h1 hk hk3 h2 hv hP hD hS hl (fun H1 locs1 ls1 hP hD hS hl => tail _ _ _ hi hR H1 locs1 ls1 hP hD hS hl)
        by_cases c39_13 : (xs (5 * j)) &&& (nI 31) = 13
        · rw [c39_13]
          refine lv_tableIn (tgt := 932) (off := 893) hx hb dL_law_39 (by decide) (by decide) (by decide) (by decide) ?_
          obtain ⟨k, z, σ', r, τ', h1, h2, hk, hk3, hv, hR⟩ := pr_journal hl0 R (xs (5 * j + 1))
          exact op_journal C (i := 5 * j) hi hc hs h1 hk hk3 h2 hv hP hD hS hl (fun H1 locs1 ls1 hP hD hS hl => tail _ _ _ hi hR H1 locs1 ls1 hP hD hS hl)
        by_cases c39_14 : (xs (5 * j)) &&& (nI 31) = 14
        · rw [c39_14]
          refine lv_tableIn (tgt := 988) (off := 949) hx hb dL_law_39 (by decide) (by decide) (by decide) (by decide) ?_
          exact op_sync C (i := 5 * j) hi hc hs (m_sync l τ) (c_sync l σ) rfl rfl (Nat.le_of_ble_eq_true rfl) (Nat.le_of_ble_eq_true rfl) hP hD hS hl (fun H1 locs1 ls1 hP hD hS hl => tail _ _ _ hi (R_sync R) H1 locs1 ls1 hP hD hS hl)
        by_cases c39_15 : (xs (5 * j)) &&& (nI 31) = 15
        · rw [c39_15]
          refine lv_tableIn (tgt := 999) (off := 960) hx hb dL_law_39 (by decide) (by decide) (by decide) (by decide) ?_
          obtain ⟨k, z, σ', r, τ', h1, h2, hk, hk3, hv, hR⟩ := pr_crash hl0 R (xs (5 * j + 1)) (xs (5 * j + 2))
          exact op_crash C (i := 5 * j) hi hc hs h1 hk hk3 h2 hv hP hD hS hl (fun H1 locs1 ls1 hP hD hS hl => tail _ _ _ hi hR H1 locs1 ls1 hP hD hS hl)
        by_cases c39_16 : (xs (5 * j)) &&& (nI 31) = 16
        · rw [c39_16]
          refine lv_tableIn (tgt := 1067) (off := 1028) hx hb dL_law_39 (by decide) (by decide) (by decide) (by decide) ?_
          obtain ⟨a1, a2, a3, a4⟩ := ok_class R
          obtain ⟨b1, b2, b3, b4⟩ := ok_ref R
          obtain ⟨r1, r2⟩ := R_collect R
          have hbl2 := R.bl
          have hkn := R.kn
          have h2 := m_collect l τ (by omega) (by omega) b1 b2 b3 b4
          rw [← r1, hbl2.1] at h2
          have hle : jgBc (restore (co3 σ)) ≤ jgBc σ := by rw [r1]; exact Nat.le_trans (cbL_keep (cm0 τ) (kgBl τ)).1 (by omega)
          exact op_collect C (i := 5 * j) hi hc hs h2 (c_collect l σ hbl2.2 hkn.2 a1 a2 a3 (co3_en R) a4 hle) rfl rfl (Nat.le_of_ble_eq_true rfl) (Nat.le_of_ble_eq_true rfl) hP hD hS hl (fun H1 locs1 ls1 hP hD hS hl => tail _ _ _ hi r2 H1 locs1 ls1 hP hD hS hl)
        have n39_0 := lv_neT (a := 0) c39_0 (by decide)
        have n39_1 := lv_neT (a := 1) c39_1 (by decide)
        have n39_2 := lv_neT (a := 2) c39_2 (by decide)
        have n39_3 := lv_neT (a := 3) c39_3 (by decide)
        have n39_4 := lv_neT (a := 4) c39_4 (by decide)
        have n39_5 := lv_neT (a := 5) c39_5 (by decide)
        have n39_6 := lv_neT (a := 6) c39_6 (by decide)
        have n39_7 := lv_neT (a := 7) c39_7 (by decide)
        have n39_8 := lv_neT (a := 8) c39_8 (by decide)
        have n39_9 := lv_neT (a := 9) c39_9 (by decide)
        have n39_10 := lv_neT (a := 10) c39_10 (by decide)
        have n39_11 := lv_neT (a := 11) c39_11 (by decide)
        have n39_12 := lv_neT (a := 12) c39_12 (by decide)
        have n39_13 := lv_neT (a := 13) c39_13 (by decide)
        have n39_14 := lv_neT (a := 14) c39_14 (by decide)
        have n39_15 := lv_neT (a := 15) c39_15 (by decide)
        have n39_16 := lv_neT (a := 16) c39_16 (by decide)
        refine lv_tableOut (tgt := 1080) hx hb dL_law_39 (by omega) (by decide) ?_
        refine W.widen (k := 23 + j + 1) (n := 16457 + 6 * j + 6) (by omega) (by omega) ?_
        exact tail σ τ f hi R H locs ls hP hD hS hl
    · have hj0 : j = 0 := by omega
      subst hj0
      refine lv_iload hx hb dL_law_23 (lv_at hl 0 rfl) ?_
      refine lv_aload_n hx hb dL_law_25 rfl (lv_at hl 4 rfl) ?_
      refine va_slen hx hb hX hbl hbA hS dL_law_26 ?_
      refine lv_iconst (v := nI 5) hx hb dL_law_27 (by decide) ?_
      refine lv_isub hx hb dL_law_28 ?_
      have hneg : Int32.ofNat L - nI 5 < nI (5 * 0) := by
        rcases (show L = 0 ∨ L = 1 ∨ L = 2 ∨ L = 3 ∨ L = 4 by omega) with rfl | rfl | rfl | rfl | rfl <;> decide
      refine lv_icmp_gt (tgt := 1086) hx hb dL_law_29 (by decide) (fun _ => ?_) (fun q => absurd hneg q)
      exact law_exit C hr hlocks (by omega) (by omega) hS
