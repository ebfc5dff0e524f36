set_option maxRecDepth 100000 in
set_option maxHeartbeats 4000000 in
theorem m_collect (l : Launch) (σ : BM) (hc : kgBl σ ≤ 20) (hk : kgKn σ ≤ 16) (hb1 : ∀ b, b < kgBl σ → cbOk (cm0 σ) b) (hb2 : ∀ t, t < 8 → ctOk (cm1 σ) t) (hb3 : ∀ k, k < kgKn σ → ckOk (cm2 σ) k) (hkn : kgKn (cm1 σ) = kgKn σ) : wMi l yX1_collect wsX1_collect ({ frames := 1, cells := 0, slots := 0, locals := 24 } : Room) σ [] (nI (kgBl σ - (cbL (cm0 σ) (kgBl σ)).1)) (cmM σ) := by
  intro dC dI cI cJ cZ h sz
  refine Met.ofW (cc := cX1_collect) (maxL := 4) (ret := (some .int)) (by decide) rfl ?_
  intro p e s m args below meth c s₁ B hml hv
  obtain ⟨rfl, hsz, hP, hK, hD0⟩ := hv
  have hx := B.exec
  have hb := B.bytes
  have hr := B.returns
  have hts := atoms_spec (ws := wsX1_collect) B.pre
  have hown : s.vm.findClass RX1 = some m.cls := findClass_of_methodNamed B.named
  have hlocks := B.notSynchronized
  subst hsz
  have htg : ∀ w ∈ GW, w.before _ s = true := fun w h => hts w (List.mem_cons_of_mem _ h)
  have hD := hD0.self (sz := s.heap.size)
  generalize hAe : va_A (wBM cI cJ cZ h σ) s.heap.size = A at hD ⊢
  have hA : ∀ q : Nat, s.heap.size ≤ q → A q := fun q h => by rw [← hAe]; exact Or.inr h
  have hS : va_S A s.heap s.heap [] := va_S.rf
  have hl := lv_entry [.ref (h 0)] (n := 4) (Nat.le_of_ble_eq_true rfl)
  rw [lg_entry_eq]
  generalize (lg_sl [.ref (h 0)] ++ List.replicate (4 - (lg_sl [.ref (h 0)]).length) Slot.unset).toArray = ls at hl ⊢
  have hl : lv_has ls 4 [(0, .ref (h 0))] := hl
  have hP : va_P (dC, dI) vwCl (wBM cI cJ cZ h σ) s.heap := hP
  refine lv_aload_n hx hb dX1_collect_0 rfl (lv_at hl 0 rfl) ?_
  refine lv_iconst (v := nI 0) hx hb dX1_collect_1 (by decide) ?_
  refine va_put (D := (dC, dI)) (ci := 1) (v := .int (nI 0)) (ty := .int) (C := RX1) (T := TX1) (N := 18) hx hb htg inX1 tyX1 tyX1_ok nmX1 (fs := fsBM h σ) hown hK hP hD hS 0 rfl rfl 0 (by decide) (htg _ fX1_45) (fun _ h9 => h9) rfl (by decide +kernel) rfl rfl (Nat.le_of_ble_eq_true rfl) dX1_collect_2 (fun H locs hP hD hS => ?_)
  rw [wBM_Th] at hP hD
  refine lv_aload_n hx hb dX1_collect_5 rfl (lv_at hl 0 rfl) ?_
  refine lv_iconst (v := nI 0) hx hb dX1_collect_6 (by decide) ?_
  refine va_put (D := (dC, dI)) (ci := 1) (v := .int (nI 0)) (ty := .int) (C := RX1) (T := TX1) (N := 18) hx hb htg inX1 tyX1 tyX1_ok nmX1 (fs := fsBM h (kuTh σ 0)) hown hK hP hD hS 0 rfl rfl 14 (by decide) (htg _ fX1_80) (fun _ h9 => h9) rfl (by decide +kernel) rfl rfl (Nat.le_of_ble_eq_true rfl) dX1_collect_7 (fun H locs hP hD hS => ?_)
  rw [wBM_Sz] at hP hD
  refine lv_iconst (v := nI 0) hx hb dX1_collect_10 (by decide) ?_
  refine lv_istore_n (lv' := [(1, .int (nI 0)), (0, .ref (h 0))]) hx hb dX1_collect_11 rfl hl (by decide) rfl (fun ls hl => ?_)
  refine lv_iconst (v := nI 0) hx hb dX1_collect_12 (by decide) ?_
  refine lv_istore_n (lv' := [(2, .int (nI 0)), (1, .int (nI 0)), (0, .ref (h 0))]) hx hb dX1_collect_13 rfl hl (by decide) rfl (fun ls hl => ?_)
  have loop : ∀ (fu i : Nat) (z : BM), i ≤ kgBl σ → kgBl σ < i + fu → z = (cbL (cm0 σ) i).2 → ∀ (H : Heap) (locs : List Loc), va_P (dC, dI) vwCl (wBM cI cJ cZ h z) H → va_D A (wBM cI cJ cZ h z) → va_S A s.heap H locs → ∀ (ls : Array Slot), lv_has ls 4 [(2, .int (nI i)), (1, .int (nI ((cbL (cm0 σ) i).1))), (0, .ref (h 0))] → W p l e (headSpec wsX1_collect ({ frames := 1, cells := 0, slots := 0, locals := 24 } : Room)).room s m ([.ref (h 0)].toArray) below meth c H locs 0 0 (MQ below (va_Qi (fun (r' : Int32) (_ : Unit) => r' = (nI (kgBl σ - (cbL (cm0 σ) (kgBl σ)).1))) (fun _ => aBM dC dI cI cJ cZ h A (cmM σ)) A) ([.ref (h 0)].toArray) s 0 0 A) (F0 m 14 ls []) := by
    intro fu
    induction fu with
    | zero => intro i z h1 h2; exact absurd h2 (by omega)
    | succ fu ih =>
      intro i z hi hin ez H locs hP hD hS ls hl
      refine lv_iload_n hx hb dX1_collect_14 rfl (lv_at hl 0 rfl) ?_
      have hkp := cbL_keep (cm0 σ) i
      have hBl : kgBl z = kgBl σ := by rw [ez]; exact hkp.2
      obtain ⟨hle, _⟩ := hkp
      obtain ⟨lf, elf⟩ : ∃ zq, zq = (cbL (cm0 σ) i).1 := ⟨_, rfl⟩
      rw [← elf] at hl hle
      have hl : lv_has ls 4 [(2, .int (nI i)), (1, .int (nI lf)), (0, .ref (h 0))] := hl
      refine lv_aload_n hx hb dX1_collect_15 rfl (lv_at hl 2 rfl) ?_
      refine va_get (D := (dC, dI)) (ci := 1) (v := .int (nI (kgBl z))) (C := RX1) (T := TX1) (N := 18) hx hb htg inX1 (fs := fsBM h z) hown hK hP 0 rfl rfl 6 (by decide) (htg _ fX1_72) (fun _ h9 => h9) rfl dX1_collect_16 ?_
      refine xr_icmp_ge (tgt := 132) hx hb dX1_collect_19 (by decide) (by omega) (by omega) (fun c19 => ?_) (fun c19 => ?_)
      · have hi9 : i = kgBl σ := by omega
        rw [hi9] at ez elf
        refine lv_aload_n hx hb dX1_collect_132 rfl (lv_at hl 2 rfl) ?_
        refine va_get (D := (dC, dI)) (ci := 1) (v := .int (nI (kgBl z))) (C := RX1) (T := TX1) (N := 18) hx hb htg inX1 (fs := fsBM h z) hown hK hP 0 rfl rfl 6 (by decide) (htg _ fX1_72) (fun _ h9 => h9) rfl dX1_collect_133 ?_
        refine lv_iload_n hx hb dX1_collect_136 rfl (lv_at hl 1 rfl) ?_
        refine xr_isub hx hb (by omega) dX1_collect_137 ?_
        refine lv_istore_n (lv' := [(2, .int (nI (kgBl z - lf))), (1, .int (nI lf)), (0, .ref (h 0))]) hx hb dX1_collect_138 rfl hl (by decide) rfl (fun ls hl => ?_)
        refine lv_aload_n hx hb dX1_collect_139 rfl (lv_at hl 2 rfl) ?_
        refine lv_iload_n hx hb dX1_collect_140 rfl (lv_at hl 1 rfl) ?_
        refine va_put (D := (dC, dI)) (ci := 1) (v := .int (nI lf)) (ty := .int) (C := RX1) (T := TX1) (N := 18) hx hb htg inX1 tyX1 tyX1_ok nmX1 (fs := fsBM h z) hown hK hP hD hS 0 rfl rfl 6 (by decide) (htg _ fX1_72) (fun _ h9 => h9) rfl (by decide +kernel) rfl rfl (Nat.le_of_ble_eq_true rfl) dX1_collect_141 (fun H locs hP hD hS => ?_)
        rw [wBM_Bl] at hP hD
        refine lv_iconst (v := nI 0) hx hb dX1_collect_144 (by decide) ?_
        refine lv_istore_n (lv' := [(3, .int (nI 0)), (2, .int (nI (kgBl z - lf))), (1, .int (nI lf)), (0, .ref (h 0))]) hx hb dX1_collect_145 rfl hl (by decide) rfl (fun ls hl => ?_)
        have hc1 : kuBl z lf = cm1 σ := by rw [ez, elf]; rfl
        rw [hc1] at hP hD
        rw [hBl] at hl
        have loop : ∀ (fu t : Nat) (u : BM), t ≤ 8 → 8 < t + fu → u = ctL (cm1 σ) t → ∀ (H : Heap) (locs : List Loc), va_P (dC, dI) vwCl (wBM cI cJ cZ h u) H → va_D A (wBM cI cJ cZ h u) → va_S A s.heap H locs → ∀ (ls : Array Slot), lv_has ls 4 [(3, .int (nI t)), (2, .int (nI (kgBl σ - lf))), (0, .ref (h 0))] → W p l e (headSpec wsX1_collect ({ frames := 1, cells := 0, slots := 0, locals := 24 } : Room)).room s m ([.ref (h 0)].toArray) below meth c H locs 0 0 (MQ below (va_Qi (fun (r' : Int32) (_ : Unit) => r' = (nI (kgBl σ - (cbL (cm0 σ) (kgBl σ)).1))) (fun _ => aBM dC dI cI cJ cZ h A (cmM σ)) A) ([.ref (h 0)].toArray) s 0 0 A) (F0 m 146 ls []) := by
          intro fu
          induction fu with
          | zero => intro t u h1 h2; exact absurd h2 (by omega)
          | succ fu ih =>
            intro t u hi hin eu H locs hP hD hS ls hl
            refine lv_iload_n hx hb dX1_collect_146 rfl (lv_at hl 0 rfl) ?_
            refine lv_bipush (v := nI 8) hx hb dX1_collect_147 (by decide) ?_
            refine xr_icmp_ge (tgt := 196) hx hb dX1_collect_149 (by decide) (by omega) (by omega) (fun c149 => ?_) (fun c149 => ?_)
            · have ht9 : t = 8 := by omega
              rw [ht9] at eu
              have hc2 : u = cm2 σ := eu
              refine lv_iconst (v := nI 0) hx hb dX1_collect_196 (by decide) ?_
              refine lv_istore_n (lv' := [(1, .int (nI 0)), (3, .int (nI t)), (2, .int (nI (kgBl σ - lf))), (0, .ref (h 0))]) hx hb dX1_collect_197 rfl hl (by decide) rfl (fun ls hl => ?_)
              refine lv_iconst (v := nI 0) hx hb dX1_collect_198 (by decide) ?_
              refine lv_istore_n (lv' := [(3, .int (nI 0)), (1, .int (nI 0)), (2, .int (nI (kgBl σ - lf))), (0, .ref (h 0))]) hx hb dX1_collect_199 rfl hl (by decide) rfl (fun ls hl => ?_)
              have loop : ∀ (fu k : Nat) (v : BM), k ≤ kgKn σ → kgKn σ < k + fu → v = (ckL (cm2 σ) k).2 → ∀ (H : Heap) (locs : List Loc), va_P (dC, dI) vwCl (wBM cI cJ cZ h v) H → va_D A (wBM cI cJ cZ h v) → va_S A s.heap H locs → ∀ (ls : Array Slot), lv_has ls 4 [(3, .int (nI k)), (1, .int (nI ((ckL (cm2 σ) k).1))), (2, .int (nI (kgBl σ - lf))), (0, .ref (h 0))] → W p l e (headSpec wsX1_collect ({ frames := 1, cells := 0, slots := 0, locals := 24 } : Room)).room s m ([.ref (h 0)].toArray) below meth c H locs 0 0 (MQ below (va_Qi (fun (r' : Int32) (_ : Unit) => r' = (nI (kgBl σ - (cbL (cm0 σ) (kgBl σ)).1))) (fun _ => aBM dC dI cI cJ cZ h A (cmM σ)) A) ([.ref (h 0)].toArray) s 0 0 A) (F0 m 200 ls []) := by
                intro fu
                induction fu with
                | zero => intro k v h1 h2; exact absurd h2 (by omega)
                | succ fu ih =>
                  intro k v hi hin ev H locs hP hD hS ls hl
                  refine lv_iload_n hx hb dX1_collect_200 rfl (lv_at hl 0 rfl) ?_
                  have hkp := ckL_keep (cm2 σ) k
                  rw [← ev] at hkp
                  obtain ⟨hle2, hBv, hKv⟩ := hkp
                  have hBv : kgBl v = lf := by rw [hBv, cm2_bk, elf]
                  have hKv : kgKn v = kgKn σ := by rw [hKv, ← hkn]; exact (ctL_keep _ _).2
                  obtain ⟨mf, emf⟩ : ∃ zq, zq = (ckL (cm2 σ) k).1 := ⟨_, rfl⟩
                  rw [← emf] at hl hle2
                  have hl : lv_has ls 4 [(3, .int (nI k)), (1, .int (nI mf)), (2, .int (nI (kgBl σ - lf))), (0, .ref (h 0))] := hl
                  refine lv_aload_n hx hb dX1_collect_201 rfl (lv_at hl 3 rfl) ?_
                  refine va_get (D := (dC, dI)) (ci := 1) (v := .int (nI (kgKn v))) (C := RX1) (T := TX1) (N := 18) hx hb htg inX1 (fs := fsBM h v) hown hK hP 0 rfl rfl 11 (by decide) (htg _ fX1_75) (fun _ h9 => h9) rfl dX1_collect_202 ?_
                  refine xr_icmp_ge (tgt := 289) hx hb dX1_collect_205 (by decide) (by omega) (by omega) (fun c205 => ?_) (fun c205 => ?_)
                  · refine lv_aload_n hx hb dX1_collect_289 rfl (lv_at hl 3 rfl) ?_
                    refine lv_iload_n hx hb dX1_collect_290 rfl (lv_at hl 1 rfl) ?_
                    refine va_put (D := (dC, dI)) (ci := 1) (v := .int (nI mf)) (ty := .int) (C := RX1) (T := TX1) (N := 18) hx hb htg inX1 tyX1 tyX1_ok nmX1 (fs := fsBM h v) hown hK hP hD hS 0 rfl rfl 11 (by decide) (htg _ fX1_75) (fun _ h9 => h9) rfl (by decide +kernel) rfl rfl (Nat.le_of_ble_eq_true rfl) dX1_collect_291 (fun H locs hP hD hS => ?_)
                    rw [wBM_Kn] at hP hD
                    refine lv_aload_n hx hb dX1_collect_294 rfl (lv_at hl 3 rfl) ?_
                    refine lv_aload_n hx hb dX1_collect_295 rfl (lv_at hl 3 rfl) ?_
                    refine va_get (D := (dC, dI)) (ci := 1) (v := .int (nI (kgSz v))) (C := RX1) (T := TX1) (N := 18) hx hb htg inX1 (fs := fsBM h (kuKn v mf)) hown hK hP 0 rfl rfl 14 (by decide) (htg _ fX1_80) (fun _ h9 => h9) rfl dX1_collect_296 ?_
                    refine va_put (D := (dC, dI)) (ci := 1) (v := .int (nI (kgSz v))) (ty := .int) (C := RX1) (T := TX1) (N := 18) hx hb htg inX1 tyX1 tyX1_ok nmX1 (fs := fsBM h (kuKn v mf)) hown hK hP hD hS 0 rfl rfl 15 (by decide) (htg _ fX1_123) (fun _ h9 => h9) rfl (by decide +kernel) rfl rfl (Nat.le_of_ble_eq_true rfl) dX1_collect_299 (fun H locs hP hD hS => ?_)
                    rw [wBM_Sy] at hP hD
                    refine lv_iload_n hx hb dX1_collect_302 rfl (lv_at hl 2 rfl) ?_
                    have hfin : kuSy (kuKn v mf) (kgSz v) = cmM σ := by rw [show k = kgKn σ by omega] at ev emf; rw [ev, emf]; rfl
                    rw [hfin] at hP hD
                    exact W.iret (v := nI (kgBl σ - lf)) hx hb hr (fun t ht hW => ⟨⟨_, (), rfl, by rw [elf], by rw [ht]; exact hP, va_K.moved hW.alike hK, hD⟩, hS.F ht⟩) hS.2.2 dX1_collect_303
                  · refine lv_aload_n hx hb dX1_collect_208 rfl (lv_at hl 3 rfl) ?_
                    refine lv_aload_n hx hb dX1_collect_209 rfl (lv_at hl 3 rfl) ?_
                    refine va_get (D := (dC, dI)) (ci := 1) (v := .ref (h 8)) (C := RX1) (T := TX1) (N := 18) hx hb htg inX1 (fs := fsBM h v) hown hK hP 0 rfl rfl 10 (by decide) (htg _ fX1_33) (fun _ h9 => h9) rfl dX1_collect_210 ?_
                    refine lv_iload_n hx hb dX1_collect_213 rfl (lv_at hl 0 rfl) ?_
                    refine xr_lald (f := kgTO v) (i := k) hx hb hK hP 8 1 rfl rfl (by omega) (by decide) dX1_collect_214 ?_
                    refine bm_ri (As := [.long ((kgTO v) k)]) (rest := []) (n := 1) ⟨hx, hb, hml, hown, htg⟩ (m_blobOf l v ((kgTO v) k) (by omega)) (cwV 1 htg gX1_91 rfl rfl rfl (by decide +kernel) ⟨Nat.le_of_ble_eq_true rfl, Nat.le_of_ble_eq_true rfl⟩) hK hP hD hS hA hl.1 rfl rfl (Nat.le_of_ble_eq_true rfl) dX1_collect_215 (Nat.zero_le _) (Nat.zero_le _) (fun H locs hP hS => ?_)
                    obtain ⟨o, ho⟩ : ∃ zq, zq = fnd (kgDG v) (kgTO v k) (kgBl v) := ⟨_, rfl⟩
                    rw [← ho]
                    cases o with
                    | none =>
                      refine W.eq (g2 := F0 m 218 ls [.int (-1)]) rfl ?_
                      refine lv_iconst (v := -1) hx hb dX1_collect_218 (by decide) ?_
                      refine lv_icmp_eq (tgt := 283) hx hb dX1_collect_219 (by decide) (fun _ => ?_) (fun c => absurd rfl c)
                      refine lv_iinc (v := nI (k + 1)) (lv' := [(3, .int (nI (k + 1))), (1, .int (nI mf)), (2, .int (nI (kgBl σ - lf))), (0, .ref (h 0))]) hx hb dX1_collect_283 hl (k := 0) rfl (nI_add _ 1) (by decide) rfl (fun ls hl => ?_)
                      refine lv_goto (tgt := 200) hx hb dX1_collect_286 (by decide) ?_
                      have hst : ckL (cm2 σ) (k + 1) = (ckL (cm2 σ) k) := ckS_no (by rw [← ev]; exact ho.symm)
                      have hl : lv_has ls 4 [(3, .int (nI (k + 1))), (1, .int (nI mf)), (2, .int (nI (kgBl σ - lf))), (0, .ref (h 0))] := hl
                      rw [emf, ← hst] at hl
                      exact ih (k + 1) v (by omega) (by omega) (by rw [ev, hst]) H locs hP hD hS ls (lv_sub hl [0, 1, 2, 3] rfl)
                    | some b =>
                      have hlto := (fnd_lt ho.symm).1
                      have hro := hb3 k (by omega) b (by rw [← ev]; exact ho.symm)
                      rw [← ev] at hro
                      refine W.eq (g2 := F0 m 218 ls [.int (nI b)]) rfl ?_
                      refine lv_iconst (v := -1) hx hb dX1_collect_218 (by decide) ?_
                      refine lv_icmp_eq (tgt := 283) hx hb dX1_collect_219 (by decide) (fun c => absurd c (optI_none (by omega))) (fun _ => ?_)
                      refine lv_aload_n hx hb dX1_collect_222 rfl (lv_at hl 3 rfl) ?_
                      refine lv_iconst (v := nI 0) hx hb dX1_collect_223 (by decide) ?_
                      refine va_put (D := (dC, dI)) (ci := 1) (v := .int (nI 0)) (ty := .int) (C := RX1) (T := TX1) (N := 18) hx hb htg inX1 tyX1 tyX1_ok nmX1 (fs := fsBM h v) hown hK hP hD hS 0 rfl rfl 17 (by decide) (htg _ fX1_65) (fun _ h9 => h9) rfl (by decide +kernel) rfl rfl (Nat.le_of_ble_eq_true rfl) dX1_collect_224 (fun H locs hP hD hS => ?_)
                      rw [wBM_Le] at hP hD
                      refine lv_aload_n hx hb dX1_collect_227 rfl (lv_at hl 3 rfl) ?_
                      refine lv_aload_n hx hb dX1_collect_228 rfl (lv_at hl 3 rfl) ?_
                      refine va_get (D := (dC, dI)) (ci := 1) (v := .ref (h 7)) (C := RX1) (T := TX1) (N := 18) hx hb htg inX1 (fs := fsBM h (kuLe v 0)) hown hK hP 0 rfl rfl 9 (by decide) (htg _ fX1_30) (fun _ h9 => h9) rfl dX1_collect_229 ?_
                      refine lv_iload_n hx hb dX1_collect_232 rfl (lv_at hl 0 rfl) ?_
                      refine xr_lald (f := kgKS v) (i := k) hx hb hK hP 7 1 rfl rfl (by omega) (by decide) dX1_collect_233 ?_
                      refine lv_bipush (v := nI 8) hx hb dX1_collect_234 (by decide) ?_
                      refine bm_wv (As := [.long ((kgKS v) k), .int (nI 8)]) (rest := []) (n := 2) ⟨hx, hb, hml, hown, htg⟩ (m_next l (kuLe v 0) ((kgKS v) k) 8 (by show 0 + 8 ≤ 700; omega) (by omega)) (cwV 2 htg gX1_105 rfl rfl rfl (by decide +kernel) ⟨Nat.le_of_ble_eq_true rfl, Nat.le_of_ble_eq_true rfl⟩) hK hP hD hS hA hl.1 rfl rfl (Nat.le_of_ble_eq_true rfl) dX1_collect_236 (Nat.zero_le _) (Nat.zero_le _) (fun H locs hP hD hS => ?_)
                      obtain ⟨z1, ez1⟩ : ∃ zq : BM, zq = nxSt (kuLe v 0) ((kgKS v) k) 8 := ⟨_, rfl⟩
                      rw [← ez1] at hP hD
                      have hLe1 : kgLe z1 = 8 := by rw [ez1]; rfl
                      have hSz1 : kgSz z1 = kgSz v := by rw [ez1]; rfl
                      refine lv_aload_n hx hb dX1_collect_239 rfl (lv_at hl 3 rfl) ?_
                      refine lv_aload_n hx hb dX1_collect_240 rfl (lv_at hl 3 rfl) ?_
                      refine va_get (D := (dC, dI)) (ci := 1) (v := .ref (h 8)) (C := RX1) (T := TX1) (N := 18) hx hb htg inX1 (fs := fsBM h z1) hown hK hP 0 rfl rfl 10 (by decide) (htg _ fX1_33) (fun _ h9 => h9) rfl dX1_collect_241 ?_
                      refine lv_iload_n hx hb dX1_collect_244 rfl (lv_at hl 0 rfl) ?_
                      refine xr_lald (f := kgTO z1) (i := k) hx hb hK hP 8 1 rfl rfl (by omega) (by decide) dX1_collect_245 ?_
                      refine lv_bipush (v := nI 8) hx hb dX1_collect_246 (by decide) ?_
                      refine bm_wv (As := [.long ((kgTO z1) k), .int (nI 8)]) (rest := []) (n := 2) ⟨hx, hb, hml, hown, htg⟩ (m_next l z1 ((kgTO z1) k) 8 (by omega) (by omega)) (cwV 2 htg gX1_105 rfl rfl rfl (by decide +kernel) ⟨Nat.le_of_ble_eq_true rfl, Nat.le_of_ble_eq_true rfl⟩) hK hP hD hS hA hl.1 rfl rfl (Nat.le_of_ble_eq_true rfl) dX1_collect_248 (Nat.zero_le _) (Nat.zero_le _) (fun H locs hP hD hS => ?_)
                      obtain ⟨z2, ez2⟩ : ∃ zq : BM, zq = nxSt z1 ((kgTO z1) k) 8 := ⟨_, rfl⟩
                      rw [← ez2] at hP hD
                      have hLe2 : kgLe z2 = 16 := by rw [ez2]; show kgLe z1 + 8 = 16; omega
                      have hSz2 : kgSz z2 = kgSz v := by rw [ez2]; exact hSz1
                      refine lv_aload_n hx hb dX1_collect_251 rfl (lv_at hl 3 rfl) ?_
                      refine va_get (D := (dC, dI)) (ci := 1) (v := .ref (h 7)) (C := RX1) (T := TX1) (N := 18) hx hb htg inX1 (fs := fsBM h z2) hown hK hP 0 rfl rfl 9 (by decide) (htg _ fX1_30) (fun _ h9 => h9) rfl dX1_collect_252 ?_
                      refine lv_iload_n hx hb dX1_collect_255 rfl (lv_at hl 1 rfl) ?_
                      refine lv_aload_n hx hb dX1_collect_256 rfl (lv_at hl 3 rfl) ?_
                      refine va_get (D := (dC, dI)) (ci := 1) (v := .ref (h 7)) (C := RX1) (T := TX1) (N := 18) hx hb htg inX1 (fs := fsBM h z2) hown hK hP 0 rfl rfl 9 (by decide) (htg _ fX1_30) (fun _ h9 => h9) rfl dX1_collect_257 ?_
                      refine lv_iload_n hx hb dX1_collect_260 rfl (lv_at hl 0 rfl) ?_
                      refine xr_lald (f := kgKS z2) (i := k) hx hb hK hP 7 1 rfl rfl (by omega) (by decide) dX1_collect_261 ?_
                      refine xr_last (f := kgKS z2) (i := mf) (x := (kgKS z2) k) hx hb hK hP hD hS 7 1 rfl rfl (by omega) (by decide) dX1_collect_262 (fun H locs hP hD hS => ?_)
                      rw [wBM_KS] at hP hD
                      refine lv_aload_n hx hb dX1_collect_263 rfl (lv_at hl 3 rfl) ?_
                      refine va_get (D := (dC, dI)) (ci := 1) (v := .ref (h 8)) (C := RX1) (T := TX1) (N := 18) hx hb htg inX1 (fs := fsBM h (kuKS z2 (vp_updL (kgKS z2) mf ((kgKS z2) k)))) hown hK hP 0 rfl rfl 10 (by decide) (htg _ fX1_33) (fun _ h9 => h9) rfl dX1_collect_264 ?_
                      refine lv_iload_n hx hb dX1_collect_267 rfl (lv_at hl 1 rfl) ?_
                      refine lv_aload_n hx hb dX1_collect_268 rfl (lv_at hl 3 rfl) ?_
                      refine va_get (D := (dC, dI)) (ci := 1) (v := .ref (h 8)) (C := RX1) (T := TX1) (N := 18) hx hb htg inX1 (fs := fsBM h (kuKS z2 (vp_updL (kgKS z2) mf ((kgKS z2) k)))) hown hK hP 0 rfl rfl 10 (by decide) (htg _ fX1_33) (fun _ h9 => h9) rfl dX1_collect_269 ?_
                      refine lv_iload_n hx hb dX1_collect_272 rfl (lv_at hl 0 rfl) ?_
                      refine xr_lald (f := kgTO z2) (i := k) hx hb hK hP 8 1 rfl rfl (by omega) (by decide) dX1_collect_273 ?_
                      refine xr_last (f := kgTO z2) (i := mf) (x := (kgTO z2) k) hx hb hK hP hD hS 8 1 rfl rfl (by omega) (by decide) dX1_collect_274 (fun H locs hP hD hS => ?_)
                      rw [wBM_TO] at hP hD
                      refine lv_iinc (v := nI (mf + 1)) (lv' := [(1, .int (nI (mf + 1))), (3, .int (nI k)), (2, .int (nI (kgBl σ - lf))), (0, .ref (h 0))]) hx hb dX1_collect_275 hl (k := 1) rfl (nI_add _ 1) (by decide) rfl (fun ls hl => ?_)
                      refine lv_aload_n hx hb dX1_collect_278 rfl (lv_at hl 3 rfl) ?_
                      refine lv_iconst (v := nI 4) hx hb dX1_collect_279 (by decide) ?_
                      refine bm_wv (As := [.int (nI 4)]) (rest := []) (n := 1) ⟨hx, hb, hml, hown, htg⟩ (m_write l (kuTO (kuKS z2 (vp_updL (kgKS z2) mf ((kgKS z2) k))) (vp_updL (kgTO z2) mf ((kgTO z2) k))) (nI 4) (by show kgSz z2 + kgLe z2 + 4 ≤ 700; omega)) (cwV 1 htg gX1_112 rfl rfl rfl (by decide +kernel) ⟨Nat.le_of_ble_eq_true rfl, Nat.le_of_ble_eq_true rfl⟩) hK hP hD hS hA hl.1 rfl rfl (Nat.le_of_ble_eq_true rfl) dX1_collect_280 (Nat.zero_le _) (Nat.zero_le _) (fun H locs hP hD hS => ?_)
                      obtain ⟨z3, ez3⟩ : ∃ zq : BM, zq = wrM (kuTO (kuKS z2 (vp_updL (kgKS z2) mf ((kgKS z2) k))) (vp_updL (kgTO z2) mf ((kgTO z2) k))) (nI 4) := ⟨_, rfl⟩
                      rw [← ez3] at hP hD
                      refine lv_iinc (v := nI (k + 1)) (lv' := [(3, .int (nI (k + 1))), (1, .int (nI (mf + 1))), (2, .int (nI (kgBl σ - lf))), (0, .ref (h 0))]) hx hb dX1_collect_283 hl (k := 1) rfl (nI_add _ 1) (by decide) rfl (fun ls hl => ?_)
                      refine lv_goto (tgt := 200) hx hb dX1_collect_286 (by decide) ?_
                      have hst : ckL (cm2 σ) (k + 1) = ((ckL (cm2 σ) k).1 + 1, wrM (ckW (ckN (ckL (cm2 σ) k).2 k) k (ckL (cm2 σ) k).1) (nI 4)) := ckS_yes (by rw [← ev]; exact ho.symm)
                      have hst2 : (ckL (cm2 σ) (k + 1)).2 = z3 := by rw [hst, ← ev, ← emf, ez3, ez2, ez1]; rfl
                      have hst1 : (ckL (cm2 σ) (k + 1)).1 = mf + 1 := by rw [hst, ← emf]
                      have hl : lv_has ls 4 [(3, .int (nI (k + 1))), (1, .int (nI (mf + 1))), (2, .int (nI (kgBl σ - lf))), (0, .ref (h 0))] := hl
                      rw [← hst1] at hl
                      exact ih (k + 1) z3 (by omega) (by omega) (hst2.symm) H locs hP hD hS ls (lv_sub hl [0, 1, 2, 3] rfl)
              exact loop (kgKn σ + 1) 0 u (by omega) (by omega) (hc2) _ _ hP hD hS ls (lv_sub hl [0, 1, 2, 3] rfl)
            · refine lv_aload_n hx hb dX1_collect_152 rfl (lv_at hl 2 rfl) ?_
              refine va_get (D := (dC, dI)) (ci := 1) (v := .ref (h 6)) (C := RX1) (T := TX1) (N := 18) hx hb htg inX1 (fs := fsBM h u) hown hK hP 0 rfl rfl 8 (by decide) (htg _ fX1_26) (fun _ h9 => h9) rfl dX1_collect_153 ?_
              refine lv_iload_n hx hb dX1_collect_156 rfl (lv_at hl 0 rfl) ?_
              refine xr_zald (f := fun j => bI ((kgTE u) j)) (i := t) hx hb hK hP 6 2 rfl rfl (by omega) (by decide) dX1_collect_157 ?_
              refine xr_ifeqB (tgt := 190) hx hb dX1_collect_158 (by decide) (fun c158 => ?_) (fun c158 => ?_)
              · refine lv_iinc (v := nI (t + 1)) (lv' := [(3, .int (nI (t + 1))), (2, .int (nI (kgBl σ - lf))), (0, .ref (h 0))]) hx hb dX1_collect_190 hl (k := 0) rfl (nI_add _ 1) (by decide) rfl (fun ls hl => ?_)
                refine lv_goto (tgt := 146) hx hb dX1_collect_193 (by decide) ?_
                exact ih (t + 1) u (by omega) (by omega) (by rw [eu]; exact (ctS_no (by rw [← eu]; exact c158)).symm) H locs hP hD hS ls (lv_sub hl [0, 1, 2] rfl)
              · refine lv_aload_n hx hb dX1_collect_161 rfl (lv_at hl 2 rfl) ?_
                refine lv_iconst (v := nI 0) hx hb dX1_collect_162 (by decide) ?_
                refine va_put (D := (dC, dI)) (ci := 1) (v := .int (nI 0)) (ty := .int) (C := RX1) (T := TX1) (N := 18) hx hb htg inX1 tyX1 tyX1_ok nmX1 (fs := fsBM h u) hown hK hP hD hS 0 rfl rfl 17 (by decide) (htg _ fX1_65) (fun _ h9 => h9) rfl (by decide +kernel) rfl rfl (Nat.le_of_ble_eq_true rfl) dX1_collect_163 (fun H locs hP hD hS => ?_)
                rw [wBM_Le] at hP hD
                refine lv_aload_n hx hb dX1_collect_166 rfl (lv_at hl 2 rfl) ?_
                refine lv_iload_n hx hb dX1_collect_167 rfl (lv_at hl 0 rfl) ?_
                refine lv_i2l (v := (nI t).toInt64) hx hb dX1_collect_168 rfl ?_
                refine lv_iconst (v := nI 1) hx hb dX1_collect_169 (by decide) ?_
                refine bm_wv (As := [.long ((nI t).toInt64), .int (nI 1)]) (rest := []) (n := 2) ⟨hx, hb, hml, hown, htg⟩ (m_next l (kuLe u 0) ((nI t).toInt64) 1 (by show 0 + 1 ≤ 700; omega) (by omega)) (cwV 2 htg gX1_105 rfl rfl rfl (by decide +kernel) ⟨Nat.le_of_ble_eq_true rfl, Nat.le_of_ble_eq_true rfl⟩) hK hP hD hS hA hl.1 rfl rfl (Nat.le_of_ble_eq_true rfl) dX1_collect_170 (Nat.zero_le _) (Nat.zero_le _) (fun H locs hP hD hS => ?_)
                obtain ⟨z4, ez4⟩ : ∃ zq : BM, zq = nxSt (kuLe u 0) ((nI t).toInt64) 1 := ⟨_, rfl⟩
                rw [← ez4] at hP hD
                have hLe1 : kgLe z4 = 1 := by rw [ez4]; rfl
                have hSz1 : kgSz z4 = kgSz u := by rw [ez4]; rfl
                refine lv_aload_n hx hb dX1_collect_173 rfl (lv_at hl 2 rfl) ?_
                refine lv_aload_n hx hb dX1_collect_174 rfl (lv_at hl 2 rfl) ?_
                refine va_get (D := (dC, dI)) (ci := 1) (v := .ref (h 5)) (C := RX1) (T := TX1) (N := 18) hx hb htg inX1 (fs := fsBM h z4) hown hK hP 0 rfl rfl 7 (by decide) (htg _ fX1_23) (fun _ h9 => h9) rfl dX1_collect_175 ?_
                refine lv_iload_n hx hb dX1_collect_178 rfl (lv_at hl 0 rfl) ?_
                refine xr_lald (f := kgTG z4) (i := t) hx hb hK hP 5 1 rfl rfl (by omega) (by decide) dX1_collect_179 ?_
                refine lv_bipush (v := nI 8) hx hb dX1_collect_180 (by decide) ?_
                refine bm_wv (As := [.long ((kgTG z4) t), .int (nI 8)]) (rest := []) (n := 2) ⟨hx, hb, hml, hown, htg⟩ (m_next l z4 ((kgTG z4) t) 8 (by omega) (by omega)) (cwV 2 htg gX1_105 rfl rfl rfl (by decide +kernel) ⟨Nat.le_of_ble_eq_true rfl, Nat.le_of_ble_eq_true rfl⟩) hK hP hD hS hA hl.1 rfl rfl (Nat.le_of_ble_eq_true rfl) dX1_collect_182 (Nat.zero_le _) (Nat.zero_le _) (fun H locs hP hD hS => ?_)
                obtain ⟨z5, ez5⟩ : ∃ zq : BM, zq = nxSt z4 ((kgTG z4) t) 8 := ⟨_, rfl⟩
                rw [← ez5] at hP hD
                have hLe2 : kgLe z5 = 9 := by rw [ez5]; show kgLe z4 + 8 = 9; omega
                have hSz2 : kgSz z5 = kgSz u := by rw [ez5]; exact hSz1
                refine lv_aload_n hx hb dX1_collect_185 rfl (lv_at hl 2 rfl) ?_
                refine lv_iconst (v := nI 2) hx hb dX1_collect_186 (by decide) ?_
                refine bm_wv (As := [.int (nI 2)]) (rest := []) (n := 1) ⟨hx, hb, hml, hown, htg⟩ (m_write l z5 (nI 2) (by have := hb2 t (by omega) (by rw [← eu]; exact c158); rw [← eu] at this; omega)) (cwV 1 htg gX1_112 rfl rfl rfl (by decide +kernel) ⟨Nat.le_of_ble_eq_true rfl, Nat.le_of_ble_eq_true rfl⟩) hK hP hD hS hA hl.1 rfl rfl (Nat.le_of_ble_eq_true rfl) dX1_collect_187 (Nat.zero_le _) (Nat.zero_le _) (fun H locs hP hD hS => ?_)
                obtain ⟨z6, ez6⟩ : ∃ zq : BM, zq = wrM z5 (nI 2) := ⟨_, rfl⟩
                rw [← ez6] at hP hD
                refine lv_iinc (v := nI (t + 1)) (lv' := [(3, .int (nI (t + 1))), (2, .int (nI (kgBl σ - lf))), (0, .ref (h 0))]) hx hb dX1_collect_190 hl (k := 0) rfl (nI_add _ 1) (by decide) rfl (fun ls hl => ?_)
                refine lv_goto (tgt := 146) hx hb dX1_collect_193 (by decide) ?_
                exact ih (t + 1) z6 (by omega) (by omega) (by rw [ez6, ez5, ez4, eu]; exact (ctS_yes (by rw [← eu]; exact c158)).symm) H locs hP hD hS ls (lv_sub hl [0, 1, 2] rfl)
        exact loop (8 + 1) 0 (cm1 σ) (by omega) (by omega) (rfl) _ _ hP hD hS ls (lv_sub hl [0, 1, 3] rfl)
      · refine lv_aload_n hx hb dX1_collect_22 rfl (lv_at hl 2 rfl) ?_
        refine lv_aload_n hx hb dX1_collect_23 rfl (lv_at hl 2 rfl) ?_
        refine va_get (D := (dC, dI)) (ci := 1) (v := .ref (h 2)) (C := RX1) (T := TX1) (N := 18) hx hb htg inX1 (fs := fsBM h z) hown hK hP 0 rfl rfl 3 (by decide) (htg _ fX1_13) (fun _ h9 => h9) rfl dX1_collect_24 ?_
        refine lv_iload_n hx hb dX1_collect_27 rfl (lv_at hl 0 rfl) ?_
        refine xr_lald (f := kgDG z) (i := i) hx hb hK hP 2 1 rfl rfl (by omega) (by decide) dX1_collect_28 ?_
        refine bm_ri (As := [.long ((kgDG z) i)]) (rest := []) (n := 1) ⟨hx, hb, hml, hown, htg⟩ (m_isTold l z ((kgDG z) i) ) (cwV 1 htg gX1_133 rfl rfl rfl (by decide +kernel) ⟨Nat.le_of_ble_eq_true rfl, Nat.le_of_ble_eq_true rfl⟩) hK hP hD hS hA hl.1 rfl rfl (Nat.le_of_ble_eq_true rfl) dX1_collect_29 (Nat.zero_le _) (Nat.zero_le _) (fun H locs hP hS => ?_)
        refine xr_ifeqB (tgt := 126) hx hb dX1_collect_32 (by decide) (fun c32 => ?_) (fun c32 => ?_)
        · refine lv_iinc (v := nI (i + 1)) (lv' := [(2, .int (nI (i + 1))), (1, .int (nI lf)), (0, .ref (h 0))]) hx hb dX1_collect_126 hl (k := 0) rfl (nI_add _ 1) (by decide) rfl (fun ls hl => ?_)
          refine lv_goto (tgt := 14) hx hb dX1_collect_129 (by decide) ?_
          have hst : cbL (cm0 σ) (i + 1) = (cbL (cm0 σ) i) := cbS_no (by rw [← ez]; exact c32)
          have hl : lv_has ls 4 [(2, .int (nI (i + 1))), (1, .int (nI lf)), (0, .ref (h 0))] := hl
          rw [elf, ← hst] at hl
          exact ih (i + 1) z (by omega) (by omega) (by rw [ez, hst]) H locs hP hD hS ls (lv_sub hl [0, 1, 2] rfl)
        · obtain ⟨hn1, hn2⟩ := hb1 i (by omega)
          rw [← ez] at hn1 hn2
          have hn2 := hn2 c32
          obtain ⟨n, hn⟩ : ∃ zq, zq = nb (kgLN z) i := ⟨_, rfl⟩
          rw [← hn] at hn1 hn2
          refine lv_aload_n hx hb dX1_collect_35 rfl (lv_at hl 2 rfl) ?_
          refine lv_iconst (v := nI 0) hx hb dX1_collect_36 (by decide) ?_
          refine va_put (D := (dC, dI)) (ci := 1) (v := .int (nI 0)) (ty := .int) (C := RX1) (T := TX1) (N := 18) hx hb htg inX1 tyX1 tyX1_ok nmX1 (fs := fsBM h z) hown hK hP hD hS 0 rfl rfl 17 (by decide) (htg _ fX1_65) (fun _ h9 => h9) rfl (by decide +kernel) rfl rfl (Nat.le_of_ble_eq_true rfl) dX1_collect_37 (fun H locs hP hD hS => ?_)
          rw [wBM_Le] at hP hD
          refine lv_iconst (v := nI 0) hx hb dX1_collect_40 (by decide) ?_
          refine lv_istore_n (lv' := [(3, .int (nI 0)), (2, .int (nI i)), (1, .int (nI lf)), (0, .ref (h 0))]) hx hb dX1_collect_41 rfl hl (by decide) rfl (fun ls hl => ?_)
          have loop : ∀ (fu k : Nat) (y : BM), k ≤ n → n < k + fu → y = ciSt z i lf k → ∀ (H : Heap) (locs : List Loc), va_P (dC, dI) vwCl (wBM cI cJ cZ h y) H → va_D A (wBM cI cJ cZ h y) → va_S A s.heap H locs → ∀ (ls : Array Slot), lv_has ls 4 [(3, .int (nI k)), (2, .int (nI i)), (1, .int (nI lf)), (0, .ref (h 0))] → W p l e (headSpec wsX1_collect ({ frames := 1, cells := 0, slots := 0, locals := 24 } : Room)).room s m ([.ref (h 0)].toArray) below meth c H locs 0 0 (MQ below (va_Qi (fun (r' : Int32) (_ : Unit) => r' = (nI (kgBl σ - (cbL (cm0 σ) (kgBl σ)).1))) (fun _ => aBM dC dI cI cJ cZ h A (cmM σ)) A) ([.ref (h 0)].toArray) s 0 0 A) (F0 m 42 ls []) := by
            intro fu
            induction fu with
            | zero => intro k y h1 h2; exact absurd h2 (by omega)
            | succ fu ih2 =>
              intro k y hi hin ey H locs hP hD hS ls hl
              refine lv_iload_n hx hb dX1_collect_42 rfl (lv_at hl 0 rfl) ?_
              have hkq := ciSt_keep z i lf k
              rw [← ey] at hkq
              obtain ⟨hy1, hy2, hy3, hy4, hy5⟩ := hkq
              have hLNy : kgLN y i = nI n := by rw [hy1]; exact hn1
              refine lv_aload_n hx hb dX1_collect_43 rfl (lv_at hl 3 rfl) ?_
              refine va_get (D := (dC, dI)) (ci := 1) (v := .ref (h 3)) (C := RX1) (T := TX1) (N := 18) hx hb htg inX1 (fs := fsBM h y) hown hK hP 0 rfl rfl 4 (by decide) (htg _ fX1_17) (fun _ h9 => h9) rfl dX1_collect_44 ?_
              refine lv_iload_n hx hb dX1_collect_47 rfl (lv_at hl 1 rfl) ?_
              refine xr_iald (f := kgLN y) (i := i) hx hb hK hP 3 0 rfl rfl (by omega) (by decide) dX1_collect_48 ?_
              refine W.eq (g2 := F0 m 49 ls [.int (nI n), .int (nI k)]) (by rw [hLNy]) ?_
              refine xr_icmp_ge (tgt := 94) hx hb dX1_collect_49 (by decide) (by omega) (by omega) (fun c49 => ?_) (fun c49 => ?_)
              · refine lv_aload_n hx hb dX1_collect_94 rfl (lv_at hl 3 rfl) ?_
                refine va_get (D := (dC, dI)) (ci := 1) (v := .ref (h 2)) (C := RX1) (T := TX1) (N := 18) hx hb htg inX1 (fs := fsBM h y) hown hK hP 0 rfl rfl 3 (by decide) (htg _ fX1_13) (fun _ h9 => h9) rfl dX1_collect_95 ?_
                refine lv_iload_n hx hb dX1_collect_98 rfl (lv_at hl 2 rfl) ?_
                refine lv_aload_n hx hb dX1_collect_99 rfl (lv_at hl 3 rfl) ?_
                refine va_get (D := (dC, dI)) (ci := 1) (v := .ref (h 2)) (C := RX1) (T := TX1) (N := 18) hx hb htg inX1 (fs := fsBM h y) hown hK hP 0 rfl rfl 3 (by decide) (htg _ fX1_13) (fun _ h9 => h9) rfl dX1_collect_100 ?_
                refine lv_iload_n hx hb dX1_collect_103 rfl (lv_at hl 1 rfl) ?_
                refine xr_lald (f := kgDG y) (i := i) hx hb hK hP 2 1 rfl rfl (by omega) (by decide) dX1_collect_104 ?_
                refine xr_last (f := kgDG y) (i := lf) (x := (kgDG y) i) hx hb hK hP hD hS 2 1 rfl rfl (by omega) (by decide) dX1_collect_105 (fun H locs hP hD hS => ?_)
                rw [wBM_DG] at hP hD
                refine lv_aload_n hx hb dX1_collect_106 rfl (lv_at hl 3 rfl) ?_
                refine va_get (D := (dC, dI)) (ci := 1) (v := .ref (h 3)) (C := RX1) (T := TX1) (N := 18) hx hb htg inX1 (fs := fsBM h (kuDG y (vp_updL (kgDG y) lf ((kgDG y) i)))) hown hK hP 0 rfl rfl 4 (by decide) (htg _ fX1_17) (fun _ h9 => h9) rfl dX1_collect_107 ?_
                refine lv_iload_n hx hb dX1_collect_110 rfl (lv_at hl 2 rfl) ?_
                refine lv_aload_n hx hb dX1_collect_111 rfl (lv_at hl 3 rfl) ?_
                refine va_get (D := (dC, dI)) (ci := 1) (v := .ref (h 3)) (C := RX1) (T := TX1) (N := 18) hx hb htg inX1 (fs := fsBM h (kuDG y (vp_updL (kgDG y) lf ((kgDG y) i)))) hown hK hP 0 rfl rfl 4 (by decide) (htg _ fX1_17) (fun _ h9 => h9) rfl dX1_collect_112 ?_
                refine lv_iload_n hx hb dX1_collect_115 rfl (lv_at hl 1 rfl) ?_
                refine xr_iald (f := kgLN y) (i := i) hx hb hK hP 3 0 rfl rfl (by omega) (by decide) dX1_collect_116 ?_
                refine xr_iast (f := kgLN y) (i := lf) (x := (kgLN y) i) hx hb hK hP hD hS 3 0 rfl rfl (by omega) (by decide) dX1_collect_117 (fun H locs hP hD hS => ?_)
                rw [wBM_LN] at hP hD
                refine lv_iinc (v := nI (lf + 1)) (lv' := [(1, .int (nI (lf + 1))), (3, .int (nI k)), (2, .int (nI i)), (0, .ref (h 0))]) hx hb dX1_collect_118 hl (k := 2) rfl (nI_add _ 1) (by decide) rfl (fun ls hl => ?_)
                refine lv_aload_n hx hb dX1_collect_121 rfl (lv_at hl 3 rfl) ?_
                refine lv_iconst (v := nI 1) hx hb dX1_collect_122 (by decide) ?_
                refine bm_wv (As := [.int (nI 1)]) (rest := []) (n := 1) ⟨hx, hb, hml, hown, htg⟩ (m_write l (kuLN (kuDG y (vp_updL (kgDG y) lf ((kgDG y) i))) (upd (kgLN y) lf ((kgLN y) i))) (nI 1) (by show kgSz y + kgLe y + 4 ≤ 700; omega)) (cwV 1 htg gX1_112 rfl rfl rfl (by decide +kernel) ⟨Nat.le_of_ble_eq_true rfl, Nat.le_of_ble_eq_true rfl⟩) hK hP hD hS hA hl.1 rfl rfl (Nat.le_of_ble_eq_true rfl) dX1_collect_123 (Nat.zero_le _) (Nat.zero_le _) (fun H locs hP hD hS => ?_)
                obtain ⟨z7, ez7⟩ : ∃ zq : BM, zq = wrM (kuLN (kuDG y (vp_updL (kgDG y) lf ((kgDG y) i))) (upd (kgLN y) lf ((kgLN y) i))) (nI 1) := ⟨_, rfl⟩
                rw [← ez7] at hP hD
                refine lv_iinc (v := nI (i + 1)) (lv' := [(2, .int (nI (i + 1))), (1, .int (nI (lf + 1))), (3, .int (nI k)), (0, .ref (h 0))]) hx hb dX1_collect_126 hl (k := 2) rfl (nI_add _ 1) (by decide) rfl (fun ls hl => ?_)
                refine lv_goto (tgt := 14) hx hb dX1_collect_129 (by decide) ?_
                have hst : cbL (cm0 σ) (i + 1) = ((cbL (cm0 σ) i).1 + 1, wrM (cbW (ciSt (cbL (cm0 σ) i).2 i (cbL (cm0 σ) i).1 (nb (kgLN (cbL (cm0 σ) i).2) i)) i (cbL (cm0 σ) i).1) (nI 1)) := cbS_yes (by rw [← ez]; exact c32)
                have hst2 : (cbL (cm0 σ) (i + 1)).2 = z7 := by rw [hst, ← ez, ← elf, ← hn, ez7, ey, show k = n by omega]; rfl
                have hst1 : (cbL (cm0 σ) (i + 1)).1 = lf + 1 := by rw [hst, ← elf]
                have hl : lv_has ls 4 [(2, .int (nI (i + 1))), (1, .int (nI (lf + 1))), (3, .int (nI k)), (0, .ref (h 0))] := hl
                rw [← hst1] at hl
                exact ih (i + 1) z7 (by omega) (by omega) (hst2.symm) H locs hP hD hS ls (lv_sub hl [0, 1, 3] rfl)
              · refine lv_aload_n hx hb dX1_collect_52 rfl (lv_at hl 3 rfl) ?_
                refine lv_aload_n hx hb dX1_collect_53 rfl (lv_at hl 3 rfl) ?_
                refine va_get (D := (dC, dI)) (ci := 1) (v := .ref (h 4)) (C := RX1) (T := TX1) (N := 18) hx hb htg inX1 (fs := fsBM h y) hown hK hP 0 rfl rfl 5 (by decide) (htg _ fX1_20) (fun _ h9 => h9) rfl dX1_collect_54 ?_
                refine lv_sipush (v := nI 700) hx hb dX1_collect_57 (by decide) ?_
                refine lv_iload_n hx hb dX1_collect_60 rfl (lv_at hl 1 rfl) ?_
                refine xr_imul hx hb dX1_collect_61 ?_
                refine lv_iload_n hx hb dX1_collect_62 rfl (lv_at hl 0 rfl) ?_
                refine xr_iadd hx hb dX1_collect_63 ?_
                refine xr_iald (f := kgBY y) (i := 700 * i + k) hx hb hK hP 4 0 rfl rfl (by omega) (by decide) dX1_collect_64 ?_
                refine lv_i2l (v := ((kgBY y) (700 * i + k)).toInt64) hx hb dX1_collect_65 rfl ?_
                refine lv_iconst (v := nI 1) hx hb dX1_collect_66 (by decide) ?_
                refine bm_wv (As := [.long (((kgBY y) (700 * i + k)).toInt64), .int (nI 1)]) (rest := []) (n := 2) ⟨hx, hb, hml, hown, htg⟩ (m_next l y (((kgBY y) (700 * i + k)).toInt64) 1 (by omega) (by omega)) (cwV 2 htg gX1_105 rfl rfl rfl (by decide +kernel) ⟨Nat.le_of_ble_eq_true rfl, Nat.le_of_ble_eq_true rfl⟩) hK hP hD hS hA hl.1 rfl rfl (Nat.le_of_ble_eq_true rfl) dX1_collect_67 (Nat.zero_le _) (Nat.zero_le _) (fun H locs hP hD hS => ?_)
                obtain ⟨z8, ez8⟩ : ∃ zq : BM, zq = nxSt y (((kgBY y) (700 * i + k)).toInt64) 1 := ⟨_, rfl⟩
                rw [← ez8] at hP hD
                refine lv_aload_n hx hb dX1_collect_70 rfl (lv_at hl 3 rfl) ?_
                refine va_get (D := (dC, dI)) (ci := 1) (v := .ref (h 4)) (C := RX1) (T := TX1) (N := 18) hx hb htg inX1 (fs := fsBM h z8) hown hK hP 0 rfl rfl 5 (by decide) (htg _ fX1_20) (fun _ h9 => h9) rfl dX1_collect_71 ?_
                refine lv_sipush (v := nI 700) hx hb dX1_collect_74 (by decide) ?_
                refine lv_iload_n hx hb dX1_collect_77 rfl (lv_at hl 2 rfl) ?_
                refine xr_imul hx hb dX1_collect_78 ?_
                refine lv_iload_n hx hb dX1_collect_79 rfl (lv_at hl 0 rfl) ?_
                refine xr_iadd hx hb dX1_collect_80 ?_
                refine lv_aload_n hx hb dX1_collect_81 rfl (lv_at hl 3 rfl) ?_
                refine va_get (D := (dC, dI)) (ci := 1) (v := .ref (h 11)) (C := RX1) (T := TX1) (N := 18) hx hb htg inX1 (fs := fsBM h z8) hown hK hP 0 rfl rfl 16 (by decide) (htg _ fX1_42) (fun _ h9 => h9) rfl dX1_collect_82 ?_
                refine lv_iload_n hx hb dX1_collect_85 rfl (lv_at hl 0 rfl) ?_
                refine xr_iald (f := kgRC z8) (i := k) hx hb hK hP 11 0 rfl rfl (by omega) (by decide) dX1_collect_86 ?_
                refine xr_iast (f := kgBY z8) (i := 700 * lf + k) (x := (kgRC z8) k) hx hb hK hP hD hS 4 0 rfl rfl (by omega) (by decide) dX1_collect_87 (fun H locs hP hD hS => ?_)
                rw [wBM_BY] at hP hD
                refine lv_iinc (v := nI (k + 1)) (lv' := [(3, .int (nI (k + 1))), (2, .int (nI i)), (1, .int (nI lf)), (0, .ref (h 0))]) hx hb dX1_collect_88 hl (k := 0) rfl (nI_add _ 1) (by decide) rfl (fun ls hl => ?_)
                refine lv_goto (tgt := 42) hx hb dX1_collect_91 (by decide) ?_
                exact ih2 (k + 1) (kuBY z8 (upd (kgBY z8) (700 * lf + k) ((kgRC z8) k))) (by omega) (by omega) (by rw [ez8, ey]; rfl) H locs hP hD hS ls (lv_sub hl [0, 1, 2, 3] rfl)
          exact loop (n + 1) 0 (kuLe z 0) (by omega) (by omega) (rfl) _ _ hP hD hS ls (lv_sub hl [0, 1, 2, 3] rfl)
  exact loop (kgBl σ + 1) 0 (kuSz (kuTh σ 0) 0) (by omega) (by omega) (rfl) _ _ hP hD hS ls (lv_sub hl [0, 1, 2] rfl)
