theorem rel_0 : Rel bj0 bm0 := by
  have hz : ∀ n, byt (fun _ => 0) n := fun n i _ => ⟨show (0 : Int32) = nI (nb (fun _ => 0) 0) from by decide, show nb (fun _ => 0) 0 < 256 from by decide⟩
  refine ⟨core_0 rfl rfl rfl rfl (fun t ht => flI_at ht) (fun t ht => rfl), hz _, hz _, hz _, rfl, fun i _ => rfl, ⟨rfl, Nat.le_refl _⟩, ⟨rfl, Nat.zero_le _⟩, fun i _ => rfl, hz _, fun k _ => rfl⟩
theorem st_arr {U : State} {cA comp : ClassId} {kA : Class} {ty : FieldType} (hk : U.vm.classes[cA]? = some kA) (hkind : kA.kind = .array comp ty) : ArrOfT U cA ty := fun n z => ⟨fun k h => (by cases h), kA, hk, comp, hkind⟩
theorem tx_in : ∀ q ∈ TXL, Cond.stringRef q.1 q.2.1 q.2.2 ∈ lw_tbl := by decide +kernel
theorem tx_in1 : Cond.laysStatic Bundle.tN "UNASSIGNED_STACK" Bundle.steD ∈ lw_tbl := by decide +kernel
theorem tx_in2 : Cond.laysStatic Bundle.tN "SUPPRESSED_SENTINEL" Bundle.listD ∈ lw_tbl := by decide +kernel
theorem tx_H.of {b : Nat} {s : State} (hts : ∀ w ∈ lw_tbl, w.before #[Value.ref b] s = true) (hgv : (Jvm.Cond.and given_1 narrow_1).before #[Value.ref b] s = true) : tx_H TXL s := by
  have hs := flat_of_before _ hgv
  have hW : s.WarmedH s.vm := State.WarmedH.refl s
  have h3 : (Cond.isRef (.static Bundle.tN "UNASSIGNED_STACK" Bundle.steD)).before #[Value.ref b] s = true := hs _ (by decide +kernel)
  have h4 : (Cond.isRef (.static Bundle.tN "SUPPRESSED_SENTINEL" Bundle.listD)).before #[Value.ref b] s = true := hs _ (by decide +kernel)
  refine ⟨fun w hw => ?_, fun q hq => tx_strKeep (hts _ (tx_in q hq)) hW⟩
  rcases List.mem_cons.mp hw with rfl | hw
  · exact tx_layKeep (hts _ tx_in1) hW (fun _ _ => rfl)
  rcases List.mem_cons.mp hw with rfl | hw
  · exact tx_layKeep (hts _ tx_in2) hW (fun _ _ => rfl)
  rcases List.mem_cons.mp hw with rfl | hw
  · exact tx_refKeep h3 hW (fun _ _ => rfl)
  rcases List.mem_cons.mp hw with rfl | hw
  · exact tx_refKeep h4 hW (fun _ _ => rfl)
  · cases hw
theorem tx_N.at {b : Nat} {s : State} (hgv : (Jvm.Cond.and given_1 narrow_1).before #[Value.ref b] s = true) : tx_N s := by
  have hs := flat_of_before _ hgv
  refine tx_N.of (args := #[Value.ref b]) (fun q hq => ?_)
  rcases List.mem_cons.mp hq with rfl | hq
  · exact hs _ (by decide +kernel)
  rcases List.mem_cons.mp hq with rfl | hq
  · exact hs _ (by decide +kernel)
  rcases List.mem_cons.mp hq with rfl | hq
  · exact hs _ (by decide +kernel)
  rcases List.mem_cons.mp hq with rfl | hq
  · exact hs _ (by decide +kernel)
  · cases hq
theorem law_known {b : Nat} {s : State} (htg : ∀ w ∈ GW, w.before #[Value.ref b] s = true) : ∃ (dC : Nat → ClassId) (dI : Nat → Nat → Nat) (cI cJ cZ : ClassId), va_K (dC, dI) vwCl [(cI, .int), (cJ, .long), (cZ, .boolean)] s := by
  obtain ⟨c0, iS0, hKn0⟩ := u_known (C := RX0) (T := TX0) (N := 14) (n := 14) htg inX0 (htg _ z_X0)
  obtain ⟨c1, iS1, hKn1⟩ := u_known (C := RX1) (T := TX1) (N := 18) (n := 18) htg inX1 (htg _ z_X1)
  obtain ⟨cI, kI, pI, fI, gI, hI⟩ := Cond.arrayClass_spec (htg _ w_aI)
  obtain ⟨cJ, kJ, pJ, fJ, gJ, hJ⟩ := Cond.arrayClass_spec (htg _ w_aJ)
  obtain ⟨cZ, kZ, pZ, fZ, gZ, hZ⟩ := Cond.arrayClass_spec (htg _ w_aZ)
  refine ⟨fun k => if k = 0 then c0 else c1, fun k => if k = 0 then iS0 else iS1, cI, cJ, cZ, ?_, ?_⟩
  · intro k q hq
    match k, hq with
    | 0, hq => cases hq; exact hKn0
    | 1, hq => cases hq; exact hKn1
    | k + 2, hq => simp [vwCl] at hq
  · intro k q hq
    match k, hq with
    | 0, hq => cases hq; exact ⟨st_arr gI hI, fI⟩
    | 1, hq => cases hq; exact ⟨st_arr gJ hJ, fJ⟩
    | 2, hq => cases hq; exact ⟨st_arr gZ hZ, fZ⟩
    | k + 3, hq => simp at hq
set_option maxHeartbeats 4000000 in
set_option maxRecDepth 100000 in
theorem whole_start {p : Program} {e : Env} {s : State} {m : MethodId} {below : List Frame} {meth : Method} {c : Code} (l : Launch) (hl0 : l.stackTraces = false) {b L : Nat} {xs : Nat → Int32} (hL : L ≤ 2560) (C0 : lw_At p s m meth c b L xs) : W p l e room_1 s m #[Value.ref b] below meth c s.heap [] 0 0 (lw_Z below #[Value.ref b] s) (entryFrame m ([Value.ref b] : List Value).toArray 8) := by
  obtain ⟨hx, hb, hr, hml, hown, hts, hX, hbl, hlocks, hgv⟩ := id C0
  have hown : s.vm.findClass RL = some m.cls := hown
  have htg : ∀ w ∈ GW, w.before #[Value.ref b] s = true := fun w hw => hts w (List.mem_filter.mp hw).1
  have hA : ∀ q : Nat, s.heap.size ≤ q → (fun q : Nat => s.heap.size ≤ q) q := fun _ h => h
  obtain ⟨dC, dI, cI, cJ, cZ, hK⟩ := law_known htg
  have hKj : va_K (dC, dI) vwCl [(cI, .int), (cJ, .long)] s := hK.sub [0, 1] rfl
  have C : opC p s m c b L xs dC dI cI cJ cZ := ⟨hx, hb, hml, hown, htg, hX, hbl, hK, tx_H.of hts hgv, tx_N.at hgv, hL⟩
  have hS : va_S (fun q : Nat => s.heap.size ≤ q) s.heap s.heap [] := va_S.rf
  have hP : va_P (dC, dI) vwCl [] s.heap := fun k q h => by simp at h
  have hD : va_D (fun q : Nat => s.heap.size ≤ q) [] := ⟨fun i j p q h => by simp at h, fun k q h => by simp at h⟩
  have hl := lv_entry ([.ref b]) (n := 8) (Nat.le_of_ble_eq_true rfl)
  rw [lg_entry_eq]
  generalize (lg_sl ([.ref b]) ++ List.replicate (8 - (lg_sl ([.ref b])).length) Slot.unset).toArray = ls at hl ⊢
  have hl : lv_has ls 8 [(0, .ref b)] := hl
  refine va_new (ci := 0) (fs := [.null, .int 0, .null, .int 0, .int 0, .null, .null, .null, .int 0, .null, .null, .null, .int 0, .null]) (C := RX0) (T := TX0) (N := 14) hx hb htg inX0 tyX0 tyX0_ok hown (htg _ hL_8) (htg _ z_X0) (htg _ nX0) hK hP hD hS hA rfl (fun j hj => by rcases (show j = 0 ∨ j = 1 ∨ j = 2 ∨ j = 3 ∨ j = 4 ∨ j = 5 ∨ j = 6 ∨ j = 7 ∨ j = 8 ∨ j = 9 ∨ j = 10 ∨ j = 11 ∨ j = 12 ∨ j = 13 by omega) with rfl | rfl | rfl | rfl | rfl | rfl | rfl | rfl | rfl | rfl | rfl | rfl | rfl | rfl <;> rfl) (Nat.le_of_ble_eq_true rfl) (Nat.le_of_ble_eq_true rfl) dL_law_0 (fun q0 H hP hD hS => ?_)
  have hP : va_P (dC, dI) vwCl [(q0, .inr (0, [.null, .int 0, .null, .int 0, .int 0, .null, .null, .null, .int 0, .null, .null, .null, .int 0, .null]))] H := hP
  have hD : va_D (fun q : Nat => s.heap.size ≤ q) [(q0, .inr (0, [.null, .int 0, .null, .int 0, .int 0, .null, .null, .null, .int 0, .null, .null, .null, .int 0, .null]))] := hD
  refine lv_dup hx hb dL_law_3 rfl ?_
  have hPc := hP
  have hDc := hD
  have hFc := va_free (wc := [(q0, .inr (0, [.null, .int 0, .null, .int 0, .int 0, .null, .null, .null, .int 0, .null, .null, .null, .int 0, .null]))]) hD hS hA [0] rfl
  refine va_callv (va_runI (As := []) (rest := [.ref q0]) ⟨hx, hb, hml, hown, htg⟩ (cX0_ctor l dC dI cI cJ q0 H.size) (cwI 0 htg gL_65 rfl rfl rfl (htg _ nX0) (htg _ lL_65) (htg _ iX0_init) rfl (by decide +kernel) ⟨Nat.le_of_ble_eq_true rfl, Nat.le_of_ble_eq_true rfl⟩) ⟨fun a U g mk q => by obtain ⟨q0, q1, qP, qK, qD⟩ := q; exact ⟨q0, q1, qP, va_K.moved (u := U) (U := U.calling g mk a) (Vm.Alike.refl U.vm) qK, qD⟩, fun U hU hW => ⟨rfl, by rw [hU], by rw [hU]; exact hPc, va_K.moved hW.alike hKj, hDc.weaken (fun _ _ _ _ => trivial)⟩⟩ rfl rfl hl.1 rfl (lv_room (Nat.le_of_ble_eq_true rfl)) dL_law_4 ⟨Nat.le_of_ble_eq_true rfl, Nat.le_of_ble_eq_true rfl⟩) hS (fun q _ h => hFc q h) hFc (fun h t H1 locs ht hvm hw hB hz1 hk1 hS2 => ?_)
  obtain ⟨hP1, hK1, hD1⟩ := hB
  rw [ht] at hP1
  try dsimp only at hw
  obtain ⟨hP2, hD2⟩ := va_join (wr := []) (w1 := wBJ cI cJ h bj0) hP hD [0] [] rfl rfl (by decide) (by decide) hk1 hFc hP1 hD1
  clear hPc hDc hFc hk1 hP1 hD1 hK1 ht hz1 hvm
  subst hw
  generalize H1 = H at hP2 hS2 ⊢
  have hP : va_P (dC, dI) vwCl (wBJ cI cJ h bj0) H := hP2
  have hD : va_D (fun q : Nat => s.heap.size ≤ q) (wBJ cI cJ h bj0) := hD2
  have hS := hS2
  refine lv_astore_n (lv' := [(1, .ref (h 0)), (0, .ref b)]) hx hb dL_law_7 rfl hl (by decide) rfl (fun ls hl => ?_)
  refine va_new (ci := 1) (fs := [.int 0, .null, .int 0, .null, .null, .null, .int 0, .null, .null, .null, .null, .int 0, .null, .null, .int 0, .int 0, .null, .int 0]) (C := RX1) (T := TX1) (N := 18) hx hb htg inX1 tyX1 tyX1_ok hown (htg _ hL_66) (htg _ z_X1) (htg _ nX1) hK hP hD hS hA rfl (fun j hj => by rcases (show j = 0 ∨ j = 1 ∨ j = 2 ∨ j = 3 ∨ j = 4 ∨ j = 5 ∨ j = 6 ∨ j = 7 ∨ j = 8 ∨ j = 9 ∨ j = 10 ∨ j = 11 ∨ j = 12 ∨ j = 13 ∨ j = 14 ∨ j = 15 ∨ j = 16 ∨ j = 17 by omega) with rfl | rfl | rfl | rfl | rfl | rfl | rfl | rfl | rfl | rfl | rfl | rfl | rfl | rfl | rfl | rfl | rfl | rfl <;> rfl) (Nat.le_of_ble_eq_true rfl) (Nat.le_of_ble_eq_true rfl) dL_law_8 (fun q0 H hP hD hS => ?_)
  refine lv_dup hx hb dL_law_11 rfl ?_
  have hPc := hP.sub (ws' := [(q0, .inr (1, [.int 0, .null, .int 0, .null, .null, .null, .int 0, .null, .null, .null, .null, .int 0, .null, .null, .int 0, .int 0, .null, .int 0]))]) [10] rfl
  have hDc := hD.sub (ws' := [(q0, .inr (1, [.int 0, .null, .int 0, .null, .null, .null, .int 0, .null, .null, .null, .null, .int 0, .null, .null, .int 0, .int 0, .null, .int 0]))]) [10] (by decide) rfl
  have hFc := va_free (wc := [(q0, .inr (1, [.int 0, .null, .int 0, .null, .null, .null, .int 0, .null, .null, .null, .null, .int 0, .null, .null, .int 0, .int 0, .null, .int 0]))]) hD hS hA [10] rfl
  refine va_callv (va_runI (As := []) (rest := [.ref q0]) ⟨hx, hb, hml, hown, htg⟩ (cX1_ctor l dC dI cI cJ cZ q0 H.size) (cwI 0 htg gL_68 rfl rfl rfl (htg _ nX1) (htg _ lL_68) (htg _ iX1_init) rfl (by decide +kernel) ⟨Nat.le_of_ble_eq_true rfl, Nat.le_of_ble_eq_true rfl⟩) ⟨fun a U g mk q => by obtain ⟨q0, q1, qP, qK, qD⟩ := q; exact ⟨q0, q1, qP, va_K.moved (u := U) (U := U.calling g mk a) (Vm.Alike.refl U.vm) qK, qD⟩, fun U hU hW => ⟨rfl, by rw [hU], by rw [hU]; exact hPc, va_K.moved hW.alike hK, hDc.weaken (fun _ _ _ _ => trivial)⟩⟩ rfl rfl hl.1 rfl (lv_room (Nat.le_of_ble_eq_true rfl)) dL_law_12 ⟨Nat.le_of_ble_eq_true rfl, Nat.le_of_ble_eq_true rfl⟩) hS (fun q _ h => hFc q h) hFc (fun g t H1 locs ht hvm hw hB hz1 hk1 hS2 => ?_)
  obtain ⟨hP1, hK1, hD1⟩ := hB
  rw [ht] at hP1
  try dsimp only at hw
  obtain ⟨hP2, hD2⟩ := va_join (wr := wBJ cI cJ h bj0) (w1 := wBM cI cJ cZ g bm0) hP hD [10] [0, 1, 2, 3, 4, 5, 6, 7, 8, 9] rfl rfl (by decide) (by decide) hk1 hFc hP1 hD1
  clear hPc hDc hFc hk1 hP1 hD1 hK1 ht hz1 hvm
  subst hw
  generalize H1 = H at hP2 hS2 ⊢
  have hP := hP2
  have hD := hD2
  have hS := hS2
  refine lv_astore_n (lv' := [(2, .ref (g 0)), (1, .ref (h 0)), (0, .ref b)]) hx hb dL_law_15 rfl hl (by decide) rfl (fun ls hl => ?_)
  refine lv_iconst (v := 1) hx hb dL_law_16 (by decide) ?_
  refine va_newa (atype := .long) (a0 := (1, .inr (.inl (fun _ => 0)))) hx hb (htg _ w_aJ) rfl hK hP hD hS hA (fun _ => rfl) (by decide) (by decide) (by decide) (Nat.le_of_ble_eq_true rfl) (Nat.le_of_ble_eq_true rfl) dL_law_17 (fun o cA H hK9 hP hD hS => ?_)
  have e9 : cJ = cA := kJ_uniq (i := 1) (j := 3) hK9 rfl rfl
  subst e9
  clear hK9
  have hP : va_P (dC, dI) vwCl (wLW cI cJ cZ h g o bj0 bm0 (fun _ => 0)) H := hP.sub [0, 1, 2, 3, 4, 5, 6, 7, 8, 9, 10, 11, 12, 13, 14, 15, 16, 17, 18, 19, 20, 21, 22] rfl
  have hD : va_D (fun q : Nat => s.heap.size ≤ q) (wLW cI cJ cZ h g o bj0 bm0 (fun _ => 0)) := hD.sub [0, 1, 2, 3, 4, 5, 6, 7, 8, 9, 10, 11, 12, 13, 14, 15, 16, 17, 18, 19, 20, 21, 22] (by decide) rfl
  refine lv_astore_n (lv' := [(3, .ref o), (2, .ref (g 0)), (1, .ref (h 0)), (0, .ref b)]) hx hb dL_law_19 rfl hl (by decide) rfl (fun ls hl => ?_)
  refine lv_iconst (v := nI (5 * 0)) hx hb dL_law_20 (by decide) ?_
  refine lv_istore (lv' := [(4, .int (nI (5 * 0))), (3, .ref o), (2, .ref (g 0)), (1, .ref (h 0)), (0, .ref b)]) hx hb dL_law_21 hl (by decide) rfl (fun ls hl => ?_)
  refine W.widen (k := 23 + 0) (n := 16457 + 6 * 0) (by omega) (by omega) ?_
  exact law_loop hl0 C hr hlocks (L + 1) 0 bj0 bm0 (fun _ => 0) (by omega) (by omega) rel_0 H _ hP hD hS ls hl
