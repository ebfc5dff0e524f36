def jL (a b : Int32) : Int64 := (a.toInt64 <<< ((nI 32).toInt64 &&& 63)) ||| (b.toInt64 &&& 4294967295)
def opC (p : Program) (s : State) (m : MethodId) (c : Code) (b L : Nat) (xs : Nat → Int32) (dC : Nat → ClassId) (dI : Nat → Nat → Nat) (cI cJ cZ : ClassId) : Prop :=
  p.tables.exec = Jvm.exec ∧ c.code = code ∧ c.maxLocals = 8 ∧ s.vm.findClass RL = some m.cls ∧ (∀ w ∈ GW, w.before #[Value.ref b] s = true) ∧ va_X b L xs s s.heap ∧ b < s.heap.size ∧ va_K (dC, dI) vwCl [(cI, .int), (cJ, .long), (cZ, .boolean)] s ∧ tx_H TXL s ∧ tx_N s ∧ L ≤ 2560
set_option maxRecDepth 100000 in
set_option maxHeartbeats 4000000 in
theorem op_type {p : Program} {l : Launch} {e : Env} {s : State} {m : MethodId} {below : List Frame} {meth : Method} {c : Code} {b L : Nat} {xs : Nat → Int32} {dC : Nat → ClassId} {dI : Nat → Nat → Nat} {cI cJ cZ : ClassId} {h g : Nat → Nat} {o : Nat} {Q : State → Prop} (C : opC p s m c b L xs dC dI cI cJ cZ) {i cells slots : Nat} (hi : i + 5 ≤ L) (hc : cells + 1 ≤ 1062) (hs : slots + 6 ≤ 24739) {σ : BJ} {τ τ' : BM} {f : Nat → Int64} {σ' : BJ} {k : Nat} {z : Option Int64} {r : Int32} (h1 : tW l yL_type wsL_type σ (fun o => [.int (xs (i + 1)), .ref o]) k z σ') (hk : kgTh τ' = k) (hk3 : k ≤ 3) (h2 : wMi l yX1_type wsX1_type ({ frames := 0, cells := 0, slots := 0, locals := 0 } : Room) τ [.int (xs (i + 1))] r τ') (hv : k = 0 → z = some r.toInt64) {H : Heap} {locs : List Loc} (hP : va_P (dC, dI) vwCl (wLW cI cJ cZ h g o σ τ f) H) (hD : va_D (fun q : Nat => s.heap.size ≤ q) (wLW cI cJ cZ h g o σ τ f)) (hS : va_S (fun q : Nat => s.heap.size ≤ q) s.heap H locs) {ls : Array Slot} (hl : lv_has ls 8 [(4, .int (nI i)), (3, .ref o), (2, .ref (g 0)), (1, .ref (h 0)), (0, .ref b)]) (kk : ∀ (H1 : Heap) (locs1 : List Loc) (ls1 : Array Slot), va_P (dC, dI) vwCl (wLW cI cJ cZ h g o σ' τ' (ofV z f)) H1 → va_D (fun q : Nat => s.heap.size ≤ q) (wLW cI cJ cZ h g o σ' τ' (ofV z f)) → va_S (fun q : Nat => s.heap.size ≤ q) s.heap H1 locs1 → lv_has ls1 8 [(4, .int (nI i)), (3, .ref o), (2, .ref (g 0)), (1, .ref (h 0)), (0, .ref b)] → W p l e room_1 s m #[Value.ref b] below meth c H1 locs1 (cells + 1) (slots + 6) Q (F0 m 1080 ls1 [])) : W p l e room_1 s m #[Value.ref b] below meth c H locs cells slots Q (F0 m 120 ls []) := by
  obtain ⟨hx, hb, hml, hown, htg, hX, hbl, hK, hH, hN, hL⟩ := C
  have hA : ∀ q : Nat, s.heap.size ≤ q → (fun q : Nat => s.heap.size ≤ q) q := fun _ h => h
  have hbA : ¬ (fun q : Nat => s.heap.size ≤ q) b := Nat.not_le.mpr hbl
  refine lv_aload_n hx hb dL_law_120 rfl (lv_at hl 3 rfl) ?_
  refine lv_aload_n hx hb dL_law_121 rfl (lv_at hl 4 rfl) ?_
  refine lv_iload hx hb dL_law_122 (lv_at hl 0 rfl) ?_
  refine lv_iconst (v := nI 1) hx hb dL_law_124 (by decide) ?_
  refine xr_iadd hx hb dL_law_125 ?_
  refine va_sld (i := nI (i + 1)) hx hb hX hbl hbA hS (nI_in (by omega) (by omega)) dL_law_126 ?_
  rw [show (nI (i + 1)).toNatClampNeg = i + 1 from nI_clamp (by omega)]
  refine lv_aload_n hx hb dL_law_127 rfl (lv_at hl 1 rfl) ?_
  refine lw_tw (As := [.ref (h 0), .int (xs (i + 1)), .ref o]) (rest := []) (n := 3) ⟨hx, hb, hml, hown, htg⟩ h1 gL_69 rfl (by decide +kernel) (Nat.le_of_ble_eq_true rfl) (Nat.le_of_ble_eq_true rfl) hH hN rfl rfl hK hP hD hS hA hl.1 rfl rfl (Nat.le_of_ble_eq_true rfl) dL_law_128 hc hs (fun H locs hP hD hS => ?_)
  refine lv_istore (lv' := [(5, .int (nI k)), (4, .int (nI i)), (3, .ref o), (2, .ref (g 0)), (1, .ref (h 0)), (0, .ref b)]) hx hb dL_law_131 hl (by decide) rfl (fun ls hl => ?_)
  refine lv_aload_n hx hb dL_law_133 rfl (lv_at hl 3 rfl) ?_
  refine lv_aload_n hx hb dL_law_134 rfl (lv_at hl 5 rfl) ?_
  refine lv_iload hx hb dL_law_135 (lv_at hl 1 rfl) ?_
  refine lv_iconst (v := nI 1) hx hb dL_law_137 (by decide) ?_
  refine xr_iadd hx hb dL_law_138 ?_
  refine va_sld (i := nI (i + 1)) hx hb hX hbl hbA hS (nI_in (by omega) (by omega)) dL_law_139 ?_
  rw [show (nI (i + 1)).toNatClampNeg = i + 1 from nI_clamp (by omega)]
  refine lwm_wi (As := [.int (xs (i + 1))]) (rest := []) (n := 1) ⟨hx, hb, hml, hown, htg⟩ h2 (cwV 1 htg gL_74 rfl rfl rfl (by decide +kernel) ⟨Nat.le_of_ble_eq_true rfl, Nat.le_of_ble_eq_true rfl⟩) hK hP hD hS hA hl.1 rfl rfl (Nat.le_of_ble_eq_true rfl) dL_law_140 hc hs (fun H locs hP hD hS => ?_)
  refine lv_istore (lv' := [(6, .int r), (5, .int (nI k)), (4, .int (nI i)), (3, .ref o), (2, .ref (g 0)), (1, .ref (h 0)), (0, .ref b)]) hx hb dL_law_143 hl (by decide) rfl (fun ls hl => ?_)
  refine lv_aload_n hx hb dL_law_145 rfl (lv_at hl 4 rfl) ?_
  refine lwm_ri (As := []) (rest := []) (n := 0) ⟨hx, hb, hml, hown, htg⟩ (m_thrown l τ') (cwV 0 htg gL_75 rfl rfl rfl (by decide +kernel) ⟨Nat.le_of_ble_eq_true rfl, Nat.le_of_ble_eq_true rfl⟩) hK hP hD hS hA hl.1 rfl rfl (Nat.le_of_ble_eq_true rfl) dL_law_146 hc hs (fun H locs hP hD hS => ?_)
  rw [hk]
  refine lv_iload hx hb dL_law_149 (lv_at hl 1 rfl) ?_
  refine xr_icmp_eq (tgt := 156) hx hb dL_law_151 (by decide) (by omega) (by omega) (fun c151 => ?_) (fun c151 => absurd c151 (by exact not_not_intro rfl))
  refine lv_iload hx hb dL_law_156 (lv_at hl 1 rfl) ?_
  refine lv_if_ne (tgt := 173) hx hb dL_law_158 (by decide) (fun c158 => ?_) (fun c158 => ?_)
  · refine lv_goto (tgt := 1080) hx hb dL_law_173 (by decide) ?_
    exact kk _ _ ls hP hD hS (lv_sub hl [2, 3, 4, 5, 6] rfl)
  · have hz0 : ofV z f 0 = r.toInt64 := by rw [hv ((nI_eq (by omega) (by omega)).mp (c158.trans nI_0.symm))]; rfl
    refine lv_aload_n hx hb dL_law_161 rfl (lv_at hl 3 rfl) ?_
    refine lv_iconst (v := nI 0) hx hb dL_law_162 (by decide) ?_
    refine xr_lald (f := ofV z f) (i := 0) hx hb hK hP 22 1 rfl rfl (by decide) (by decide) dL_law_163 ?_
    refine lv_iload hx hb dL_law_164 (lv_at hl 0 rfl) ?_
    refine lv_i2l (v := r.toInt64) hx hb dL_law_166 rfl ?_
    refine xr_lcmp_eq (tgt := 173) hx hb dL_law_167 dL_law_168 (by decide) (fun c167 => ?_) (fun c167 => absurd c167 (by exact not_not_intro hz0))
    refine lv_goto (tgt := 1080) hx hb dL_law_173 (by decide) ?_
    exact kk _ _ ls hP hD hS (lv_sub hl [2, 3, 4, 5, 6] rfl)
set_option maxRecDepth 100000 in
set_option maxHeartbeats 4000000 in
theorem op_cut {p : Program} {l : Launch} {e : Env} {s : State} {m : MethodId} {below : List Frame} {meth : Method} {c : Code} {b L : Nat} {xs : Nat → Int32} {dC : Nat → ClassId} {dI : Nat → Nat → Nat} {cI cJ cZ : ClassId} {h g : Nat → Nat} {o : Nat} {Q : State → Prop} (C : opC p s m c b L xs dC dI cI cJ cZ) {i cells slots : Nat} (hi : i + 5 ≤ L) (hc : cells + 1 ≤ 1062) (hs : slots + 6 ≤ 24739) {σ : BJ} {τ τ' : BM} {f : Nat → Int64} {σ' : BJ} {k : Nat} {z : Option Int64} (h1 : tW l yL_cut wsL_cut σ (fun _ => [.int (xs (i + 1))]) k z σ') (hk : kgTh τ' = k) (hk3 : k ≤ 3) (h2 : wMv l yX1_cut wsX1_cut ({ frames := 0, cells := 0, slots := 0, locals := 0 } : Room) τ [.int (xs (i + 1))] τ') {H : Heap} {locs : List Loc} (hP : va_P (dC, dI) vwCl (wLW cI cJ cZ h g o σ τ f) H) (hD : va_D (fun q : Nat => s.heap.size ≤ q) (wLW cI cJ cZ h g o σ τ f)) (hS : va_S (fun q : Nat => s.heap.size ≤ q) s.heap H locs) {ls : Array Slot} (hl : lv_has ls 8 [(4, .int (nI i)), (3, .ref o), (2, .ref (g 0)), (1, .ref (h 0)), (0, .ref b)]) (kk : ∀ (H1 : Heap) (locs1 : List Loc) (ls1 : Array Slot), va_P (dC, dI) vwCl (wLW cI cJ cZ h g o σ' τ' (ofV z f)) H1 → va_D (fun q : Nat => s.heap.size ≤ q) (wLW cI cJ cZ h g o σ' τ' (ofV z f)) → va_S (fun q : Nat => s.heap.size ≤ q) s.heap H1 locs1 → lv_has ls1 8 [(4, .int (nI i)), (3, .ref o), (2, .ref (g 0)), (1, .ref (h 0)), (0, .ref b)] → W p l e room_1 s m #[Value.ref b] below meth c H1 locs1 (cells + 1) (slots + 6) Q (F0 m 1080 ls1 [])) : W p l e room_1 s m #[Value.ref b] below meth c H locs cells slots Q (F0 m 176 ls []) := by
  obtain ⟨hx, hb, hml, hown, htg, hX, hbl, hK, hH, hN, hL⟩ := C
  have hA : ∀ q : Nat, s.heap.size ≤ q → (fun q : Nat => s.heap.size ≤ q) q := fun _ h => h
  have hbA : ¬ (fun q : Nat => s.heap.size ≤ q) b := Nat.not_le.mpr hbl
  refine lv_aload_n hx hb dL_law_176 rfl (lv_at hl 3 rfl) ?_
  refine lv_aload_n hx hb dL_law_177 rfl (lv_at hl 4 rfl) ?_
  refine lv_iload hx hb dL_law_178 (lv_at hl 0 rfl) ?_
  refine lv_iconst (v := nI 1) hx hb dL_law_180 (by decide) ?_
  refine xr_iadd hx hb dL_law_181 ?_
  refine va_sld (i := nI (i + 1)) hx hb hX hbl hbA hS (nI_in (by omega) (by omega)) dL_law_182 ?_
  rw [show (nI (i + 1)).toNatClampNeg = i + 1 from nI_clamp (by omega)]
  refine lw_tw (As := [.ref (h 0), .int (xs (i + 1))]) (rest := []) (n := 2) ⟨hx, hb, hml, hown, htg⟩ h1 gL_79 rfl (by decide +kernel) (Nat.le_of_ble_eq_true rfl) (Nat.le_of_ble_eq_true rfl) hH hN rfl rfl hK hP hD hS hA hl.1 rfl rfl (Nat.le_of_ble_eq_true rfl) dL_law_183 hc hs (fun H locs hP hD hS => ?_)
  refine lv_istore (lv' := [(5, .int (nI k)), (4, .int (nI i)), (3, .ref o), (2, .ref (g 0)), (1, .ref (h 0)), (0, .ref b)]) hx hb dL_law_186 hl (by decide) rfl (fun ls hl => ?_)
  refine lv_aload_n hx hb dL_law_188 rfl (lv_at hl 3 rfl) ?_
  refine lv_aload_n hx hb dL_law_189 rfl (lv_at hl 5 rfl) ?_
  refine lv_iload hx hb dL_law_190 (lv_at hl 1 rfl) ?_
  refine lv_iconst (v := nI 1) hx hb dL_law_192 (by decide) ?_
  refine xr_iadd hx hb dL_law_193 ?_
  refine va_sld (i := nI (i + 1)) hx hb hX hbl hbA hS (nI_in (by omega) (by omega)) dL_law_194 ?_
  rw [show (nI (i + 1)).toNatClampNeg = i + 1 from nI_clamp (by omega)]
  refine lwm_wv (As := [.int (xs (i + 1))]) (rest := []) (n := 1) ⟨hx, hb, hml, hown, htg⟩ h2 (cwV 1 htg gL_82 rfl rfl rfl (by decide +kernel) ⟨Nat.le_of_ble_eq_true rfl, Nat.le_of_ble_eq_true rfl⟩) hK hP hD hS hA hl.1 rfl rfl (Nat.le_of_ble_eq_true rfl) dL_law_195 hc hs (fun H locs hP hD hS => ?_)
  refine lv_aload_n hx hb dL_law_198 rfl (lv_at hl 3 rfl) ?_
  refine lwm_ri (As := []) (rest := []) (n := 0) ⟨hx, hb, hml, hown, htg⟩ (m_thrown l τ') (cwV 0 htg gL_75 rfl rfl rfl (by decide +kernel) ⟨Nat.le_of_ble_eq_true rfl, Nat.le_of_ble_eq_true rfl⟩) hK hP hD hS hA hl.1 rfl rfl (Nat.le_of_ble_eq_true rfl) dL_law_199 hc hs (fun H locs hP hD hS => ?_)
  rw [hk]
  refine lv_iload hx hb dL_law_202 (lv_at hl 0 rfl) ?_
  refine xr_icmp_eq (tgt := 209) hx hb dL_law_204 (by decide) (by omega) (by omega) (fun c204 => ?_) (fun c204 => absurd c204 (by exact not_not_intro rfl))
  refine lv_goto (tgt := 1080) hx hb dL_law_209 (by decide) ?_
  exact kk _ _ ls hP hD hS (lv_sub hl [1, 2, 3, 4, 5] rfl)
set_option maxRecDepth 100000 in
set_option maxHeartbeats 4000000 in
theorem op_digest {p : Program} {l : Launch} {e : Env} {s : State} {m : MethodId} {below : List Frame} {meth : Method} {c : Code} {b L : Nat} {xs : Nat → Int32} {dC : Nat → ClassId} {dI : Nat → Nat → Nat} {cI cJ cZ : ClassId} {h g : Nat → Nat} {o : Nat} {Q : State → Prop} (C : opC p s m c b L xs dC dI cI cJ cZ) {i cells slots : Nat} (hi : i + 5 ≤ L) (hc : cells + 1 ≤ 1062) (hs : slots + 6 ≤ 24739) {σ : BJ} {τ τ' : BM} {f : Nat → Int64} {r : Int64} {rm : Room} (h2 : wMl l yX1_digest wsX1_digest ({ frames := 2, cells := 0, slots := 0, locals := 47 } : Room) τ [] r τ') (h1 : rBl l yX0_digest wsX0_digest rm σ [] r) (hrc : rm.cells = 0) (hrs : rm.slots = 0) (hfr : rm.frames + 1 ≤ 11) (hlo : 8 + (1 + 11) + rm.locals ≤ 394) {H : Heap} {locs : List Loc} (hP : va_P (dC, dI) vwCl (wLW cI cJ cZ h g o σ τ f) H) (hD : va_D (fun q : Nat => s.heap.size ≤ q) (wLW cI cJ cZ h g o σ τ f)) (hS : va_S (fun q : Nat => s.heap.size ≤ q) s.heap H locs) {ls : Array Slot} (hl : lv_has ls 8 [(4, .int (nI i)), (3, .ref o), (2, .ref (g 0)), (1, .ref (h 0)), (0, .ref b)]) (kk : ∀ (H1 : Heap) (locs1 : List Loc) (ls1 : Array Slot), va_P (dC, dI) vwCl (wLW cI cJ cZ h g o σ τ' f) H1 → va_D (fun q : Nat => s.heap.size ≤ q) (wLW cI cJ cZ h g o σ τ' f) → va_S (fun q : Nat => s.heap.size ≤ q) s.heap H1 locs1 → lv_has ls1 8 [(4, .int (nI i)), (3, .ref o), (2, .ref (g 0)), (1, .ref (h 0)), (0, .ref b)] → W p l e room_1 s m #[Value.ref b] below meth c H1 locs1 (cells + 1) (slots + 6) Q (F0 m 1080 ls1 [])) : W p l e room_1 s m #[Value.ref b] below meth c H locs cells slots Q (F0 m 212 ls []) := by
  obtain ⟨hx, hb, hml, hown, htg, hX, hbl, hK, hH, hN, hL⟩ := C
  have hA : ∀ q : Nat, s.heap.size ≤ q → (fun q : Nat => s.heap.size ≤ q) q := fun _ h => h
  have hbA : ¬ (fun q : Nat => s.heap.size ≤ q) b := Nat.not_le.mpr hbl
  refine lv_aload_n hx hb dL_law_212 rfl (lv_at hl 3 rfl) ?_
  refine lwc_rl (As := []) (rest := []) (n := 0) ⟨hx, hb, hml, hown, htg⟩ h1 (cwV 0 htg gL_83 rfl hrc hrs (by decide +kernel) ⟨hfr, hlo⟩) hK hP hD hS hA hl.1 rfl rfl (Nat.le_of_ble_eq_true rfl) dL_law_213 (Nat.le_trans (Nat.le_succ _) hc) (Nat.le_trans (Nat.le_add_right _ 6) hs) (fun H locs hP hD hS => ?_)
  refine lv_aload_n hx hb dL_law_216 rfl (lv_at hl 2 rfl) ?_
  refine lwm_wl (As := []) (rest := [.long r]) (n := 0) ⟨hx, hb, hml, hown, htg⟩ h2 (cwV 0 htg gL_86 rfl rfl rfl (by decide +kernel) ⟨Nat.le_of_ble_eq_true rfl, Nat.le_of_ble_eq_true rfl⟩) hK hP hD hS hA hl.1 rfl rfl (Nat.le_of_ble_eq_true rfl) dL_law_217 (Nat.le_trans (Nat.le_succ _) hc) (Nat.le_trans (Nat.le_add_right _ 6) hs) (fun H locs hP hD hS => ?_)
  refine xr_lcmp_eq (tgt := 1080) hx hb dL_law_220 dL_law_221 (by decide) (fun c220 => ?_) (fun c220 => absurd c220 (by exact not_not_intro rfl))
  refine W.widen (k := cells + 1) (n := slots + 6) (by omega) (by omega) ?_
  exact kk _ _ ls hP hD hS (lv_sub hl [0, 1, 2, 3, 4] rfl)
set_option maxRecDepth 100000 in
set_option maxHeartbeats 4000000 in
theorem op_keep {p : Program} {l : Launch} {e : Env} {s : State} {m : MethodId} {below : List Frame} {meth : Method} {c : Code} {b L : Nat} {xs : Nat → Int32} {dC : Nat → ClassId} {dI : Nat → Nat → Nat} {cI cJ cZ : ClassId} {h g : Nat → Nat} {o : Nat} {Q : State → Prop} (C : opC p s m c b L xs dC dI cI cJ cZ) {i cells slots : Nat} (hi : i + 5 ≤ L) (hc : cells + 1 ≤ 1062) (hs : slots + 6 ≤ 24739) {σ : BJ} {τ τ' : BM} {f : Nat → Int64} {σ' : BJ} {k : Nat} {z : Option Int64} {r : Int64} (h1 : tW l yL_keep wsL_keep σ (fun o => [.ref o]) k z σ') (hk : kgTh τ' = k) (hk3 : k ≤ 3) (h2 : wMl l yX1_keep wsX1_keep ({ frames := 4, cells := 0, slots := 0, locals := 95 } : Room) τ [] r τ') (hv : k = 0 → z = some r) {H : Heap} {locs : List Loc} (hP : va_P (dC, dI) vwCl (wLW cI cJ cZ h g o σ τ f) H) (hD : va_D (fun q : Nat => s.heap.size ≤ q) (wLW cI cJ cZ h g o σ τ f)) (hS : va_S (fun q : Nat => s.heap.size ≤ q) s.heap H locs) {ls : Array Slot} (hl : lv_has ls 8 [(4, .int (nI i)), (3, .ref o), (2, .ref (g 0)), (1, .ref (h 0)), (0, .ref b)]) (kk : ∀ (H1 : Heap) (locs1 : List Loc) (ls1 : Array Slot), va_P (dC, dI) vwCl (wLW cI cJ cZ h g o σ' τ' (ofV z f)) H1 → va_D (fun q : Nat => s.heap.size ≤ q) (wLW cI cJ cZ h g o σ' τ' (ofV z f)) → va_S (fun q : Nat => s.heap.size ≤ q) s.heap H1 locs1 → lv_has ls1 8 [(4, .int (nI i)), (3, .ref o), (2, .ref (g 0)), (1, .ref (h 0)), (0, .ref b)] → W p l e room_1 s m #[Value.ref b] below meth c H1 locs1 (cells + 1) (slots + 6) Q (F0 m 1080 ls1 [])) : W p l e room_1 s m #[Value.ref b] below meth c H locs cells slots Q (F0 m 226 ls []) := by
  obtain ⟨hx, hb, hml, hown, htg, hX, hbl, hK, hH, hN, hL⟩ := C
  have hA : ∀ q : Nat, s.heap.size ≤ q → (fun q : Nat => s.heap.size ≤ q) q := fun _ h => h
  have hbA : ¬ (fun q : Nat => s.heap.size ≤ q) b := Nat.not_le.mpr hbl
  refine lv_aload_n hx hb dL_law_226 rfl (lv_at hl 3 rfl) ?_
  refine lv_aload_n hx hb dL_law_227 rfl (lv_at hl 1 rfl) ?_
  refine lw_tw (As := [.ref (h 0), .ref o]) (rest := []) (n := 2) ⟨hx, hb, hml, hown, htg⟩ h1 gL_87 rfl (by decide +kernel) (Nat.le_of_ble_eq_true rfl) (Nat.le_of_ble_eq_true rfl) hH hN rfl rfl hK hP hD hS hA hl.1 rfl rfl (Nat.le_of_ble_eq_true rfl) dL_law_228 hc hs (fun H locs hP hD hS => ?_)
  refine lv_istore (lv' := [(5, .int (nI k)), (4, .int (nI i)), (3, .ref o), (2, .ref (g 0)), (1, .ref (h 0)), (0, .ref b)]) hx hb dL_law_231 hl (by decide) rfl (fun ls hl => ?_)
  refine lv_aload_n hx hb dL_law_233 rfl (lv_at hl 3 rfl) ?_
  refine lwm_wl (As := []) (rest := []) (n := 0) ⟨hx, hb, hml, hown, htg⟩ h2 (cwV 0 htg gL_90 rfl rfl rfl (by decide +kernel) ⟨Nat.le_of_ble_eq_true rfl, Nat.le_of_ble_eq_true rfl⟩) hK hP hD hS hA hl.1 rfl rfl (Nat.le_of_ble_eq_true rfl) dL_law_234 hc hs (fun H locs hP hD hS => ?_)
  refine lv_lstore (lv' := [(6, .long r), (5, .int (nI k)), (4, .int (nI i)), (3, .ref o), (2, .ref (g 0)), (1, .ref (h 0)), (0, .ref b)]) hx hb dL_law_237 hl (by decide) rfl (fun ls hl => ?_)
  refine lv_aload_n hx hb dL_law_239 rfl (lv_at hl 4 rfl) ?_
  refine lwm_ri (As := []) (rest := []) (n := 0) ⟨hx, hb, hml, hown, htg⟩ (m_thrown l τ') (cwV 0 htg gL_75 rfl rfl rfl (by decide +kernel) ⟨Nat.le_of_ble_eq_true rfl, Nat.le_of_ble_eq_true rfl⟩) hK hP hD hS hA hl.1 rfl rfl (Nat.le_of_ble_eq_true rfl) dL_law_240 hc hs (fun H locs hP hD hS => ?_)
  rw [hk]
  refine lv_iload hx hb dL_law_243 (lv_at hl 1 rfl) ?_
  refine xr_icmp_eq (tgt := 250) hx hb dL_law_245 (by decide) (by omega) (by omega) (fun c245 => ?_) (fun c245 => absurd c245 (by exact not_not_intro rfl))
  refine lv_iload hx hb dL_law_250 (lv_at hl 1 rfl) ?_
  refine lv_if_ne (tgt := 266) hx hb dL_law_252 (by decide) (fun c252 => ?_) (fun c252 => ?_)
  · refine lv_goto (tgt := 1080) hx hb dL_law_266 (by decide) ?_
    exact kk _ _ ls hP hD hS (lv_sub hl [2, 3, 4, 5, 6] rfl)
  · have hz0 : ofV z f 0 = r := by rw [hv ((nI_eq (by omega) (by omega)).mp (c252.trans nI_0.symm))]; rfl
    refine lv_aload_n hx hb dL_law_255 rfl (lv_at hl 3 rfl) ?_
    refine lv_iconst (v := nI 0) hx hb dL_law_256 (by decide) ?_
    refine xr_lald (f := ofV z f) (i := 0) hx hb hK hP 22 1 rfl rfl (by decide) (by decide) dL_law_257 ?_
    refine lv_lload hx hb dL_law_258 (lv_at hl 0 rfl) ?_
    refine xr_lcmp_eq (tgt := 266) hx hb dL_law_260 dL_law_261 (by decide) (fun c260 => ?_) (fun c260 => absurd c260 (by exact not_not_intro hz0))
    refine lv_goto (tgt := 1080) hx hb dL_law_266 (by decide) ?_
    exact kk _ _ ls hP hD hS (lv_sub hl [2, 3, 4, 5, 6] rfl)
set_option maxRecDepth 100000 in
set_option maxHeartbeats 4000000 in
theorem op_tell {p : Program} {l : Launch} {e : Env} {s : State} {m : MethodId} {below : List Frame} {meth : Method} {c : Code} {b L : Nat} {xs : Nat → Int32} {dC : Nat → ClassId} {dI : Nat → Nat → Nat} {cI cJ cZ : ClassId} {h g : Nat → Nat} {o : Nat} {Q : State → Prop} (C : opC p s m c b L xs dC dI cI cJ cZ) {i cells slots : Nat} (hi : i + 5 ≤ L) (hc : cells + 1 ≤ 1062) (hs : slots + 6 ≤ 24739) {σ : BJ} {τ τ' : BM} {f : Nat → Int64} {σ' : BJ} {k : Nat} {z : Option Int64} (h1 : tW l yL_tell wsL_tell σ (fun _ => [.int (xs (i + 1)), .long (jL (xs (i + 2)) (xs (i + 3)))]) k z σ') (hk : kgTh τ' = k) (hk3 : k ≤ 3) (h2 : wMv l yX1_tell wsX1_tell ({ frames := 4, cells := 0, slots := 0, locals := 95 } : Room) τ [.int (xs (i + 1)), .long (jL (xs (i + 2)) (xs (i + 3)))] τ') {H : Heap} {locs : List Loc} (hP : va_P (dC, dI) vwCl (wLW cI cJ cZ h g o σ τ f) H) (hD : va_D (fun q : Nat => s.heap.size ≤ q) (wLW cI cJ cZ h g o σ τ f)) (hS : va_S (fun q : Nat => s.heap.size ≤ q) s.heap H locs) {ls : Array Slot} (hl : lv_has ls 8 [(4, .int (nI i)), (3, .ref o), (2, .ref (g 0)), (1, .ref (h 0)), (0, .ref b)]) (kk : ∀ (H1 : Heap) (locs1 : List Loc) (ls1 : Array Slot), va_P (dC, dI) vwCl (wLW cI cJ cZ h g o σ' τ' (ofV z f)) H1 → va_D (fun q : Nat => s.heap.size ≤ q) (wLW cI cJ cZ h g o σ' τ' (ofV z f)) → va_S (fun q : Nat => s.heap.size ≤ q) s.heap H1 locs1 → lv_has ls1 8 [(4, .int (nI i)), (3, .ref o), (2, .ref (g 0)), (1, .ref (h 0)), (0, .ref b)] → W p l e room_1 s m #[Value.ref b] below meth c H1 locs1 (cells + 1) (slots + 6) Q (F0 m 1080 ls1 [])) : W p l e room_1 s m #[Value.ref b] below meth c H locs cells slots Q (F0 m 269 ls []) := by
  obtain ⟨hx, hb, hml, hown, htg, hX, hbl, hK, hH, hN, hL⟩ := C
  have hA : ∀ q : Nat, s.heap.size ≤ q → (fun q : Nat => s.heap.size ≤ q) q := fun _ h => h
  have hbA : ¬ (fun q : Nat => s.heap.size ≤ q) b := Nat.not_le.mpr hbl
  refine lv_aload_n hx hb dL_law_269 rfl (lv_at hl 3 rfl) ?_
  refine lv_aload_n hx hb dL_law_270 rfl (lv_at hl 4 rfl) ?_
  refine lv_iload hx hb dL_law_271 (lv_at hl 0 rfl) ?_
  refine lv_iconst (v := nI 1) hx hb dL_law_273 (by decide) ?_
  refine xr_iadd hx hb dL_law_274 ?_
  refine va_sld (i := nI (i + 1)) hx hb hX hbl hbA hS (nI_in (by omega) (by omega)) dL_law_275 ?_
  rw [show (nI (i + 1)).toNatClampNeg = i + 1 from nI_clamp (by omega)]
  refine lv_aload_n hx hb dL_law_276 rfl (lv_at hl 4 rfl) ?_
  refine lv_iload hx hb dL_law_277 (lv_at hl 0 rfl) ?_
  refine lv_iconst (v := nI 2) hx hb dL_law_279 (by decide) ?_
  refine xr_iadd hx hb dL_law_280 ?_
  refine va_sld (i := nI (i + 2)) hx hb hX hbl hbA hS (nI_in (by omega) (by omega)) dL_law_281 ?_
  rw [show (nI (i + 2)).toNatClampNeg = i + 2 from nI_clamp (by omega)]
  refine lv_i2l (v := (xs (i + 2)).toInt64) hx hb dL_law_282 rfl ?_
  refine lv_bipush (v := nI 32) hx hb dL_law_283 (by decide) ?_
  refine lv_lshl (v := ((xs (i + 2)).toInt64) <<< (((nI 32)).toInt64 &&& 63)) hx hb dL_law_285 rfl ?_
  refine lv_aload_n hx hb dL_law_286 rfl (lv_at hl 4 rfl) ?_
  refine lv_iload hx hb dL_law_287 (lv_at hl 0 rfl) ?_
  refine lv_iconst (v := nI 3) hx hb dL_law_289 (by decide) ?_
  refine xr_iadd hx hb dL_law_290 ?_
  refine va_sld (i := nI (i + 3)) hx hb hX hbl hbA hS (nI_in (by omega) (by omega)) dL_law_291 ?_
  rw [show (nI (i + 3)).toNatClampNeg = i + 3 from nI_clamp (by omega)]
  refine lv_i2l (v := (xs (i + 3)).toInt64) hx hb dL_law_292 rfl ?_
  refine lv_ldc2 hx hb hown (htg _ qL_91) dL_law_293 ?_
  refine lv_land hx hb dL_law_296 ?_
  refine lv_lor hx hb dL_law_297 ?_
  refine lw_tw (As := [.ref (h 0), .int (xs (i + 1)), .long (jL (xs (i + 2)) (xs (i + 3)))]) (rest := []) (n := 3) ⟨hx, hb, hml, hown, htg⟩ h1 gL_93 rfl (by decide +kernel) (Nat.le_of_ble_eq_true rfl) (Nat.le_of_ble_eq_true rfl) hH hN rfl rfl hK hP hD hS hA hl.1 rfl rfl (Nat.le_of_ble_eq_true rfl) dL_law_298 hc hs (fun H locs hP hD hS => ?_)
  refine lv_istore (lv' := [(5, .int (nI k)), (4, .int (nI i)), (3, .ref o), (2, .ref (g 0)), (1, .ref (h 0)), (0, .ref b)]) hx hb dL_law_301 hl (by decide) rfl (fun ls hl => ?_)
  refine lv_aload_n hx hb dL_law_303 rfl (lv_at hl 3 rfl) ?_
  refine lv_aload_n hx hb dL_law_304 rfl (lv_at hl 5 rfl) ?_
  refine lv_iload hx hb dL_law_305 (lv_at hl 1 rfl) ?_
  refine lv_iconst (v := nI 1) hx hb dL_law_307 (by decide) ?_
  refine xr_iadd hx hb dL_law_308 ?_
  refine va_sld (i := nI (i + 1)) hx hb hX hbl hbA hS (nI_in (by omega) (by omega)) dL_law_309 ?_
  rw [show (nI (i + 1)).toNatClampNeg = i + 1 from nI_clamp (by omega)]
  refine lv_aload_n hx hb dL_law_310 rfl (lv_at hl 5 rfl) ?_
  refine lv_iload hx hb dL_law_311 (lv_at hl 1 rfl) ?_
  refine lv_iconst (v := nI 2) hx hb dL_law_313 (by decide) ?_
  refine xr_iadd hx hb dL_law_314 ?_
  refine va_sld (i := nI (i + 2)) hx hb hX hbl hbA hS (nI_in (by omega) (by omega)) dL_law_315 ?_
  rw [show (nI (i + 2)).toNatClampNeg = i + 2 from nI_clamp (by omega)]
  refine lv_i2l (v := (xs (i + 2)).toInt64) hx hb dL_law_316 rfl ?_
  refine lv_bipush (v := nI 32) hx hb dL_law_317 (by decide) ?_
  refine lv_lshl (v := ((xs (i + 2)).toInt64) <<< (((nI 32)).toInt64 &&& 63)) hx hb dL_law_319 rfl ?_
  refine lv_aload_n hx hb dL_law_320 rfl (lv_at hl 5 rfl) ?_
  refine lv_iload hx hb dL_law_321 (lv_at hl 1 rfl) ?_
  refine lv_iconst (v := nI 3) hx hb dL_law_323 (by decide) ?_
  refine xr_iadd hx hb dL_law_324 ?_
  refine va_sld (i := nI (i + 3)) hx hb hX hbl hbA hS (nI_in (by omega) (by omega)) dL_law_325 ?_
  rw [show (nI (i + 3)).toNatClampNeg = i + 3 from nI_clamp (by omega)]
  refine lv_i2l (v := (xs (i + 3)).toInt64) hx hb dL_law_326 rfl ?_
  refine lv_ldc2 hx hb hown (htg _ qL_91) dL_law_327 ?_
  refine lv_land hx hb dL_law_330 ?_
  refine lv_lor hx hb dL_law_331 ?_
  refine lwm_wv (As := [.int (xs (i + 1)), .long (jL (xs (i + 2)) (xs (i + 3)))]) (rest := []) (n := 2) ⟨hx, hb, hml, hown, htg⟩ h2 (cwV 2 htg gL_96 rfl rfl rfl (by decide +kernel) ⟨Nat.le_of_ble_eq_true rfl, Nat.le_of_ble_eq_true rfl⟩) hK hP hD hS hA hl.1 rfl rfl (Nat.le_of_ble_eq_true rfl) dL_law_332 hc hs (fun H locs hP hD hS => ?_)
  refine lv_aload_n hx hb dL_law_335 rfl (lv_at hl 3 rfl) ?_
  refine lwm_ri (As := []) (rest := []) (n := 0) ⟨hx, hb, hml, hown, htg⟩ (m_thrown l τ') (cwV 0 htg gL_75 rfl rfl rfl (by decide +kernel) ⟨Nat.le_of_ble_eq_true rfl, Nat.le_of_ble_eq_true rfl⟩) hK hP hD hS hA hl.1 rfl rfl (Nat.le_of_ble_eq_true rfl) dL_law_336 hc hs (fun H locs hP hD hS => ?_)
  rw [hk]
  refine lv_iload hx hb dL_law_339 (lv_at hl 0 rfl) ?_
  refine xr_icmp_eq (tgt := 346) hx hb dL_law_341 (by decide) (by omega) (by omega) (fun c341 => ?_) (fun c341 => absurd c341 (by exact not_not_intro rfl))
  refine lv_goto (tgt := 1080) hx hb dL_law_346 (by decide) ?_
  exact kk _ _ ls hP hD hS (lv_sub hl [1, 2, 3, 4, 5] rfl)
set_option maxRecDepth 100000 in
set_option maxHeartbeats 4000000 in
theorem op_untell {p : Program} {l : Launch} {e : Env} {s : State} {m : MethodId} {below : List Frame} {meth : Method} {c : Code} {b L : Nat} {xs : Nat → Int32} {dC : Nat → ClassId} {dI : Nat → Nat → Nat} {cI cJ cZ : ClassId} {h g : Nat → Nat} {o : Nat} {Q : State → Prop} (C : opC p s m c b L xs dC dI cI cJ cZ) {i cells slots : Nat} (hi : i + 5 ≤ L) (hc : cells + 1 ≤ 1062) (hs : slots + 6 ≤ 24739) {σ : BJ} {τ τ' : BM} {f : Nat → Int64} {σ' : BJ} {k : Nat} {z : Option Int64} (h1 : tW l yL_untell wsL_untell σ (fun _ => [.int (xs (i + 1))]) k z σ') (hk : kgTh τ' = k) (hk3 : k ≤ 3) (h2 : wMv l yX1_untell wsX1_untell ({ frames := 4, cells := 0, slots := 0, locals := 95 } : Room) τ [.int (xs (i + 1))] τ') {H : Heap} {locs : List Loc} (hP : va_P (dC, dI) vwCl (wLW cI cJ cZ h g o σ τ f) H) (hD : va_D (fun q : Nat => s.heap.size ≤ q) (wLW cI cJ cZ h g o σ τ f)) (hS : va_S (fun q : Nat => s.heap.size ≤ q) s.heap H locs) {ls : Array Slot} (hl : lv_has ls 8 [(4, .int (nI i)), (3, .ref o), (2, .ref (g 0)), (1, .ref (h 0)), (0, .ref b)]) (kk : ∀ (H1 : Heap) (locs1 : List Loc) (ls1 : Array Slot), va_P (dC, dI) vwCl (wLW cI cJ cZ h g o σ' τ' (ofV z f)) H1 → va_D (fun q : Nat => s.heap.size ≤ q) (wLW cI cJ cZ h g o σ' τ' (ofV z f)) → va_S (fun q : Nat => s.heap.size ≤ q) s.heap H1 locs1 → lv_has ls1 8 [(4, .int (nI i)), (3, .ref o), (2, .ref (g 0)), (1, .ref (h 0)), (0, .ref b)] → W p l e room_1 s m #[Value.ref b] below meth c H1 locs1 (cells + 1) (slots + 6) Q (F0 m 1080 ls1 [])) : W p l e room_1 s m #[Value.ref b] below meth c H locs cells slots Q (F0 m 349 ls []) := by
  obtain ⟨hx, hb, hml, hown, htg, hX, hbl, hK, hH, hN, hL⟩ := C
  have hA : ∀ q : Nat, s.heap.size ≤ q → (fun q : Nat => s.heap.size ≤ q) q := fun _ h => h
  have hbA : ¬ (fun q : Nat => s.heap.size ≤ q) b := Nat.not_le.mpr hbl
  refine lv_aload_n hx hb dL_law_349 rfl (lv_at hl 3 rfl) ?_
  refine lv_aload_n hx hb dL_law_350 rfl (lv_at hl 4 rfl) ?_
  refine lv_iload hx hb dL_law_351 (lv_at hl 0 rfl) ?_
  refine lv_iconst (v := nI 1) hx hb dL_law_353 (by decide) ?_
  refine xr_iadd hx hb dL_law_354 ?_
  refine va_sld (i := nI (i + 1)) hx hb hX hbl hbA hS (nI_in (by omega) (by omega)) dL_law_355 ?_
  rw [show (nI (i + 1)).toNatClampNeg = i + 1 from nI_clamp (by omega)]
  refine lw_tw (As := [.ref (h 0), .int (xs (i + 1))]) (rest := []) (n := 2) ⟨hx, hb, hml, hown, htg⟩ h1 gL_97 rfl (by decide +kernel) (Nat.le_of_ble_eq_true rfl) (Nat.le_of_ble_eq_true rfl) hH hN rfl rfl hK hP hD hS hA hl.1 rfl rfl (Nat.le_of_ble_eq_true rfl) dL_law_356 hc hs (fun H locs hP hD hS => ?_)
  refine lv_istore (lv' := [(5, .int (nI k)), (4, .int (nI i)), (3, .ref o), (2, .ref (g 0)), (1, .ref (h 0)), (0, .ref b)]) hx hb dL_law_359 hl (by decide) rfl (fun ls hl => ?_)
  refine lv_aload_n hx hb dL_law_361 rfl (lv_at hl 3 rfl) ?_
  refine lv_aload_n hx hb dL_law_362 rfl (lv_at hl 5 rfl) ?_
  refine lv_iload hx hb dL_law_363 (lv_at hl 1 rfl) ?_
  refine lv_iconst (v := nI 1) hx hb dL_law_365 (by decide) ?_
  refine xr_iadd hx hb dL_law_366 ?_
  refine va_sld (i := nI (i + 1)) hx hb hX hbl hbA hS (nI_in (by omega) (by omega)) dL_law_367 ?_
  rw [show (nI (i + 1)).toNatClampNeg = i + 1 from nI_clamp (by omega)]
  refine lwm_wv (As := [.int (xs (i + 1))]) (rest := []) (n := 1) ⟨hx, hb, hml, hown, htg⟩ h2 (cwV 1 htg gL_99 rfl rfl rfl (by decide +kernel) ⟨Nat.le_of_ble_eq_true rfl, Nat.le_of_ble_eq_true rfl⟩) hK hP hD hS hA hl.1 rfl rfl (Nat.le_of_ble_eq_true rfl) dL_law_368 hc hs (fun H locs hP hD hS => ?_)
  refine lv_aload_n hx hb dL_law_371 rfl (lv_at hl 3 rfl) ?_
  refine lwm_ri (As := []) (rest := []) (n := 0) ⟨hx, hb, hml, hown, htg⟩ (m_thrown l τ') (cwV 0 htg gL_75 rfl rfl rfl (by decide +kernel) ⟨Nat.le_of_ble_eq_true rfl, Nat.le_of_ble_eq_true rfl⟩) hK hP hD hS hA hl.1 rfl rfl (Nat.le_of_ble_eq_true rfl) dL_law_372 hc hs (fun H locs hP hD hS => ?_)
  rw [hk]
  refine lv_iload hx hb dL_law_375 (lv_at hl 0 rfl) ?_
  refine xr_icmp_eq (tgt := 382) hx hb dL_law_377 (by decide) (by omega) (by omega) (fun c377 => ?_) (fun c377 => absurd c377 (by exact not_not_intro rfl))
  refine lv_goto (tgt := 1080) hx hb dL_law_382 (by decide) ?_
  exact kk _ _ ls hP hD hS (lv_sub hl [1, 2, 3, 4, 5] rfl)
