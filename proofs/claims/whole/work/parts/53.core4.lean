/-! the calls, one by one, in pure words -/
theorem tyL_at (f : Nat → Int32) (tc : Nat) (v : Int32) (n j : Nat) : tyL f tc v n j = if tc ≤ j ∧ j < tc + n then by4 v (j - tc) else f j := by
  induction n with
  | zero => rw [if_neg (by omega)]; rfl
  | succ n ih =>
    show upd (tyL f tc v n) (tc + n) (by4 v n) j = _
    rw [upd_eq]
    by_cases e : j = tc + n
    · rw [if_pos e, if_pos (by omega), show j - tc = n by omega]
    · rw [if_neg e, ih]
      by_cases q : tc ≤ j ∧ j < tc + n
      · rw [if_pos q, if_pos (by omega)]
      · rw [if_neg q, if_neg (by omega)]
theorem R_type {σ : BJ} {τ : BM} (R : Rel σ τ) (h : jgTc σ + 4 ≤ 64) (v : Int32) : Rel (juTc (juT σ (tyL (jgT σ) (jgTc σ) v 4)) (jgTc σ + 4)) (tySt τ v 4) := by
  obtain ⟨r1, r2, r3, r4, r5, r6, r7, r8, r9, r10, r11⟩ := R
  refine ⟨r1.view ⟨rfl, rfl, rfl, rfl, rfl, rfl, rfl, rfl⟩ ⟨rfl, rfl, rfl, rfl, rfl, rfl, rfl, rfl, rfl⟩ (fun _ _ => rfl), r2, r3, r4, r5, r6, r7, ⟨?_, h⟩, ?_, ?_, r11⟩
  · show kgMy τ + 4 = jgTc σ + 4
    rw [r8.1]
  · intro i hi
    have hi : i < jgTc σ + 4 := hi
    show putL (kgT τ) (kgMy τ) ((List.range 4).map (ishrB v)) i = tyL (jgT σ) (jgTc σ) v 4 i
    rw [tyL_at, r8.1]
    by_cases q : i < jgTc σ
    · rw [if_neg (by omega), putL_out (Or.inl q)]
      exact r9 i q
    · rw [if_pos (by omega)]
      have : i = jgTc σ + (i - jgTc σ) := by omega
      rw [this, putL_in (by omega), show jgTc σ + (i - jgTc σ) - jgTc σ = i - jgTc σ by omega]
      exact ishrB_by4 v (by omega)
  · intro i hi
    show isB (tyL (jgT σ) (jgTc σ) v 4 i)
    rw [tyL_at]
    by_cases q : jgTc σ ≤ i ∧ i < jgTc σ + 4
    · rw [if_pos q]; exact isB_and _
    · rw [if_neg q]; exact r10 i hi
theorem R_cut {σ : BJ} {τ : BM} (R : Rel σ τ) {k : Nat} (hk : k ≤ jgTc σ) (x : Nat) : Rel (juTc σ k) (kuMy (kuTh τ x) k) := by
  obtain ⟨r1, r2, r3, r4, r5, r6, r7, r8, r9, r10, r11⟩ := R
  exact ⟨r1.view ⟨rfl, rfl, rfl, rfl, rfl, rfl, rfl, rfl⟩ ⟨rfl, rfl, rfl, rfl, rfl, rfl, rfl, rfl, rfl⟩ (fun _ _ => rfl), r2, r3, r4, r5, r6, r7, ⟨rfl, Nat.le_trans hk r8.2⟩, fun i hi => r9 i (Nat.lt_of_lt_of_le hi hk), r10, r11⟩
theorem R_cutT {σ : BJ} {τ : BM} (R : Rel σ τ) (x : Nat) : Rel σ (kuMy (kuTh τ x) (kgMy τ)) := by
  obtain ⟨r1, r2, r3, r4, r5, r6, r7, r8, r9, r10, r11⟩ := R
  exact ⟨r1.view (viewC.rf σ) ⟨rfl, rfl, rfl, rfl, rfl, rfl, rfl, rfl, rfl⟩ (fun _ _ => rfl), r2, r3, r4, r5, r6, r7, r8, r9, r10, r11⟩
theorem R_dig {σ : BJ} {τ : BM} (R : Rel σ τ) : dg (kgT τ) 0 (kgMy τ) = dg (jgT σ) 0 (jgTc σ) := by
  rw [R.2.2.2.2.2.2.2.1.1]
  exact dg_congr (fun i hi => by rw [Nat.zero_add]; exact R.2.2.2.2.2.2.2.2.1 i hi)
theorem nb8_byte {x : Int32} (h : isB x) : nb8 x.toInt64 0 = x := by
  obtain ⟨h1, h2⟩ := h
  rw [nb8_b8 _ (by omega), b8_eq _ (by omega), h1, qN_nI (by omega)]
  rw [show 8 * 0 = 0 from rfl, Nat.pow_zero, Nat.div_one, Nat.mod_eq_of_lt h2]
theorem nx_RC {τ : BM} {v : Int64} {i j : Nat} (h : j < i) : kgRC (nxSt τ v i) (kgLe τ + j) = nb8 v j := by
  show putL (kgRC τ) (kgLe τ) ((List.range i).map (nb8 v)) (kgLe τ + j) = _
  exact putL_in h
theorem nx_RClo {τ : BM} {v : Int64} {i j : Nat} (h : j < kgLe τ) : kgRC (nxSt τ v i) j = kgRC τ j := by
  show putL (kgRC τ) (kgLe τ) ((List.range i).map (nb8 v)) j = _
  exact putL_out (Or.inl h)
theorem kp_RC (τ : BM) : ∀ i j, j < i → kgRC (kpSt τ i) j = nb8 (kgT τ j).toInt64 0
  | 0, j, h => by omega
  | i + 1, j, h => by
    have hL := (kpSt_keep τ i).2.2.1
    show kgRC (nxSt (kpSt τ i) (kgT τ i).toInt64 1) j = _
    by_cases e : j = i
    · subst e
      have := nx_RC (τ := kpSt τ j) (v := (kgT τ j).toInt64) (i := 1) (j := 0) (by omega)
      rw [hL, Nat.add_zero] at this
      exact this
    · rw [nx_RClo (by omega)]
      exact kp_RC τ i j (by omega)
theorem R_keep {σ : BJ} {τ : BM} (R : Rel σ τ) (hroom : jgWc σ + 4 + jgTc σ ≤ 700) :
    (jgWc σ + 2 < 700 ∧ jgWc σ + 3 + lenAt (jgW (wR σ (rTyped σ))) (jgWc σ) < 700 ∧ byt (jgW (wR σ (rTyped σ))) 700 ∧ jgBc (wR σ (rTyped σ)) ≤ 20 ∧ jgKc (wR σ (rTyped σ)) ≤ 16) ∧ Rel (ofO (follow (wR σ (rTyped σ)) (jgWc σ)) (wR σ (rTyped σ))) (ofM (sBlob (wrM (kuTh (kpSt τ (kgMy τ)) 0) (nI 1))) (wrM (kuTh (kpSt τ (kgMy τ)) 0) (nI 1))) ∧ kgTh (ofM (sBlob (wrM (kuTh (kpSt τ (kgMy τ)) 0) (nI 1))) (wrM (kuTh (kpSt τ (kgMy τ)) 0) (nI 1))) = 0 := by
  have hMy := R.2.2.2.2.2.2.2.1.1
  have hT := R.2.2.2.2.2.2.2.2.1
  have hTb := R.2.2.2.2.2.2.2.2.2.1
  have h64 := R.2.2.2.2.2.2.2.1.2
  have hq := write_step (κ := 1) (n := jgTc σ) (body := tyB σ) ((R.kp (kgMy τ)).th 0) rfl rfl ⟨by omega, by omega⟩ (by rw [tyB, rng_len]) hroom (by show kgLe (kpSt τ (kgMy τ)) = _; rw [(kpSt_keep τ _).2.2.1, hMy]) (fun j hj => by
    show kgRC (kpSt τ (kgMy τ)) j = _
    rw [kp_RC τ _ j (by omega), hT j hj, nb8_byte (hTb j (by omega)), tyB, List.getD_eq_getElem?_getD, List.getElem?_map, List.getElem?_range hj]
    rfl) (fun x hx => by
    obtain ⟨j, hj, rfl⟩ := List.mem_map.mp hx
    have := List.mem_range.mp hj
    exact hTb j (by omega))
  exact hq
theorem l8_len (d : Int64) : (l8 d).length = 8 := by rw [l8, rng_len]
theorem l8_get (d : Int64) {j : Nat} (h : j < 8) : (l8 d).getD j 0 = b8 d j := by
  rw [l8, List.getD_eq_getElem?_getD, List.getElem?_map, List.getElem?_range h]
  rfl
theorem l8_B (d : Int64) : ∀ x ∈ l8 d, isB x := fun x hx => by
  obtain ⟨j, -, rfl⟩ := List.mem_map.mp hx
  exact b8_isB d j
theorem tl_RC {τ : BM} {t : Nat} (ht : t < 256) (hLe : kgLe τ = 0) (d : Int64) : ∀ j, j < 9 → kgRC (nxSt (nxSt τ (nI t).toInt64 1) d 8) j = ([nI t] ++ l8 d).getD j 0 := by
  intro j hj
  have hL1 : kgLe (nxSt τ (nI t).toInt64 1) = 1 := by show kgLe τ + 1 = 1; rw [hLe]
  cases j with
  | zero =>
    rw [nx_RClo (by omega)]
    have := nx_RC (τ := τ) (v := (nI t).toInt64) (i := 1) (j := 0) (by omega)
    rw [hLe] at this
    rw [show (0 : Nat) = 0 + 0 from rfl, this, nb8_byte (isB_nI ht)]
    rfl
  | succ j =>
    have := nx_RC (τ := nxSt τ (nI t).toInt64 1) (v := d) (i := 8) (j := j) (by omega)
    rw [hL1] at this
    rw [Nat.add_comm j 1, this, nb8_b8 d (by omega), Nat.add_comm 1 j]
    show _ = (l8 d).getD j 0
    rw [l8_get d (by omega)]
theorem R_tell {σ : BJ} {τ : BM} (R : Rel σ τ) (hroom : jgWc σ + 13 ≤ 700) {t : Nat} (ht : t < 8) (d : Int64) :
    (jgWc σ + 2 < 700 ∧ jgWc σ + 3 + lenAt (jgW (wR σ (rTell t d))) (jgWc σ) < 700 ∧ byt (jgW (wR σ (rTell t d))) 700 ∧ jgBc (wR σ (rTell t d)) ≤ 20 ∧ jgKc (wR σ (rTell t d)) ≤ 16) ∧ Rel (ofO (follow (wR σ (rTell t d)) (jgWc σ)) (wR σ (rTell t d))) (ofM (sTell (wrM (kuTh (tlSt τ t d) 0) (nI 2))) (wrM (kuTh (tlSt τ t d) 0) (nI 2))) ∧ kgTh (ofM (sTell (wrM (kuTh (tlSt τ t d) 0) (nI 2))) (wrM (kuTh (tlSt τ t d) 0) (nI 2))) = 0 := by
  have e : rTell t d = hd (nI 2) 9 ++ ([nI t] ++ l8 d) := by rw [rTell, List.append_assoc]
  rw [e]
  exact write_step (κ := 2) (n := 9) (body := [nI t] ++ l8 d) (((((R.th 0).le 0).nx (nI t).toInt64 (by omega)).nx d (by omega)).th 0) rfl rfl ⟨by omega, by omega⟩ (by rw [List.length_append, l8_len]; rfl) (by omega) rfl (fun j hj => tl_RC (τ := kuLe (kuTh τ 0) 0) (by omega) rfl d j hj) (fun x hx => by
    rcases List.mem_append.mp hx with h | h
    · rw [List.mem_singleton.mp h]; exact isB_nI (by omega)
    · exact l8_B d x h)
theorem R_untell {σ : BJ} {τ : BM} (R : Rel σ τ) (hroom : jgWc σ + 5 ≤ 700) {t : Nat} (ht : t < 8) :
    (jgWc σ + 2 < 700 ∧ jgWc σ + 3 + lenAt (jgW (wR σ (rUntell t))) (jgWc σ) < 700 ∧ byt (jgW (wR σ (rUntell t))) 700 ∧ jgBc (wR σ (rUntell t)) ≤ 20 ∧ jgKc (wR σ (rUntell t)) ≤ 16) ∧ Rel (ofO (follow (wR σ (rUntell t)) (jgWc σ)) (wR σ (rUntell t))) (ofM (sUnt (wrM (kuTh (utSt τ t) 0) (nI 3))) (wrM (kuTh (utSt τ t) 0) (nI 3))) ∧ kgTh (ofM (sUnt (wrM (kuTh (utSt τ t) 0) (nI 3))) (wrM (kuTh (utSt τ t) 0) (nI 3))) = 0 := by
  exact write_step (κ := 3) (n := 1) (body := [nI t]) ((((R.th 0).le 0).nx (nI t).toInt64 (i := 1) (by omega)).th 0) rfl rfl ⟨by omega, by omega⟩ rfl (by omega) rfl (fun j hj => by
    have := nx_RC (τ := kuLe (kuTh τ 0) 0) (v := (nI t).toInt64) (i := 1) (j := 0) (by omega)
    rw [show j = 0 by omega]
    exact this.trans (nb8_byte (isB_nI (by omega)))) (fun x hx => by
    rw [List.mem_singleton.mp hx]; exact isB_nI (by omega))
theorem ln_RC {τ : BM} (hLe : kgLe τ = 0) (k d : Int64) : ∀ j, j < 16 → kgRC (nxSt (nxSt τ k 8) d 8) j = (l8 k ++ l8 d).getD j 0 := by
  intro j hj
  have hL1 : kgLe (nxSt τ k 8) = 8 := by show kgLe τ + 8 = 8; rw [hLe]
  by_cases q : j < 8
  · rw [nx_RClo (by omega)]
    have := nx_RC (τ := τ) (v := k) (i := 8) (j := j) q
    rw [hLe, Nat.zero_add] at this
    rw [this, nb8_b8 k q, List.getD_eq_getElem?_getD, List.getElem?_append_left (by rw [l8_len]; exact q), ← List.getD_eq_getElem?_getD, l8_get k q]
  · have := nx_RC (τ := nxSt τ k 8) (v := d) (i := 8) (j := j - 8) (by omega)
    rw [hL1, show 8 + (j - 8) = j by omega] at this
    rw [this, nb8_b8 d (by omega), List.getD_eq_getElem?_getD, List.getElem?_append_right (by rw [l8_len]; omega), l8_len, ← List.getD_eq_getElem?_getD, l8_get d (by omega)]
theorem R_learn {σ : BJ} {τ : BM} (R : Rel σ τ) (hroom : jgWc σ + 20 ≤ 700) (k d : Int64) :
    (jgWc σ + 2 < 700 ∧ jgWc σ + 3 + lenAt (jgW (wR σ (rKey k d))) (jgWc σ) < 700 ∧ byt (jgW (wR σ (rKey k d))) 700 ∧ jgBc (wR σ (rKey k d)) ≤ 20 ∧ jgKc (wR σ (rKey k d)) ≤ 16) ∧ Rel (ofO (follow (wR σ (rKey k d)) (jgWc σ)) (wR σ (rKey k d))) (ofM (sK16 (wrM (kuTh (lnSt τ k d) 0) (nI 4))) (wrM (kuTh (lnSt τ k d) 0) (nI 4))) ∧ kgTh (ofM (sK16 (wrM (kuTh (lnSt τ k d) 0) (nI 4))) (wrM (kuTh (lnSt τ k d) 0) (nI 4))) = 0 := by
  exact write_step (κ := 4) (n := 16) (body := l8 k ++ l8 d) (((((R.th 0).le 0).nx k (by omega)).nx d (by omega)).th 0) rfl rfl ⟨by omega, by omega⟩ (by rw [List.length_append, l8_len, l8_len]) (by omega) rfl (fun j hj => ln_RC (τ := kuLe (kuTh τ 0) 0) rfl k d j hj) (fun x hx => by
    rcases List.mem_append.mp hx with h | h
    · exact l8_B k x h
    · exact l8_B d x h)
theorem R_pin {σ : BJ} {τ : BM} (R : Rel σ τ) {k : Nat} (d : Int64) : Rel (juPD σ (vp_updL (jgPD σ) k d)) (kuPN (kuTh τ 0) (vp_updL (kgPN τ) k d)) := by
  obtain ⟨r1, r2, r3, r4, r5, r6, r7, r8, r9, r10, r11⟩ := R
  refine ⟨r1.view ⟨rfl, rfl, rfl, rfl, rfl, rfl, rfl, rfl⟩ ⟨rfl, rfl, rfl, rfl, rfl, rfl, rfl, rfl, rfl⟩ (fun _ _ => rfl), r2, r3, r4, r5, r6, r7, r8, r9, r10, fun j hj => ?_⟩
  show vp_updL (kgPN τ) k d j = vp_updL (jgPD σ) k d j
  rw [updL_eq, updL_eq, r11 j hj]
theorem R_sync {σ : BJ} {τ : BM} (R : Rel σ τ) : Rel (juSc σ (jgWc σ)) (kuSy (kuTh τ 0) (kgSz τ)) := by
  obtain ⟨r1, r2, r3, r4, r5, r6, r7, r8, r9, r10, r11⟩ := R
  exact ⟨r1.view ⟨rfl, rfl, rfl, rfl, rfl, rfl, rfl, rfl⟩ ⟨rfl, rfl, rfl, rfl, rfl, rfl, rfl, rfl, rfl⟩ (fun _ _ => rfl), r2, r3, r4, r5, r6, ⟨r5, Nat.le_refl _⟩, r8, r9, r10, r11⟩
theorem xor_sub : ∀ b : Fin 256, nI 255 - nI b.1 = nI b.1 ^^^ nI 255 := by decide +kernel
theorem isB_xor {x : Int32} (h : isB x) : nI 255 - x = x ^^^ nI 255 := by
  rw [h.1]
  exact xor_sub ⟨x.toNatClampNeg, h.2⟩
theorem flB_at {f : Nat → Bool} {n j : Nat} (h : j < n) : flB f n j = false := by
  induction n with
  | zero => omega
  | succ n ih =>
    show updB (flB f n) n false j = false
    rw [updB_eq]
    by_cases e : j = n
    · rw [if_pos e]
    · rw [if_neg e]; exact ih (by omega)
theorem core_0 {σ : BJ} {τ : BM} (h1 : jgBc σ = 0) (h2 : kgBl τ = 0) (h3 : jgKc σ = 0) (h4 : kgKn τ = 0) (h5 : ∀ t, t < 8 → jgTB σ t = -1) (h6 : ∀ t, t < 8 → kgTE τ t = false) : Core 0 σ τ := by
  refine ⟨by omega, ⟨by omega, by omega⟩, ⟨by omega, by omega⟩, ?_, ⟨fun i hi => by omega, fun i j _ hj => by omega, fun i j hi => by omega⟩, fun i hi => by omega, fun t ht => Or.inl ⟨h6 t ht, h5 t ht⟩, fun i hi => by omega, fun i j hi => by omega⟩
  unfold bud
  rw [h1, h3, sumN_congr (n := 8) (g := fun _ => 0) (fun t ht => by rw [if_pos (h5 t ht)])]
  exact Nat.le_refl _
/-- what a restore and the reference's reading leave -/
theorem R_restore {σ : BJ} {τ : BM} {en : Nat} (hen : en ≤ 700) (hWc : jgWc σ = en) (hby : byt (jgW σ) 700) (hbj : byt (kgJR τ) 700) (hbr : byt (kgRC τ) 700) (hJ : ∀ i, i < en → kgJR τ i = jgW σ i) (hT : kgMy τ = jgTc σ ∧ jgTc σ ≤ 64) (hT2 : ∀ i, i < jgTc σ → kgT τ i = jgT σ i) (hT3 : byt (jgT σ) 64) (hp : ∀ k, k < 4 → kgPN τ k = jgPD σ k) (hB : kgBl τ = 0) (hK : kgKn τ = 0) (hE : ∀ t, t < 8 → kgTE τ t = false) :
    Rel (restore σ) (kuSy (kuSz (crL en 176 0 τ).2 (crL en 176 0 τ).1) (crL en 176 0 τ).1) ∧ jgWc (restore σ) = (crL en 176 0 τ).1 ∧ kgTh (crL en 176 0 τ).2 = kgTh τ := by
  have hC : Core 0 (rs0 σ) τ := core_0 rfl hB rfl hK (fun t ht => flI_at ht) hE
  obtain ⟨q1, q2, q3, q4, q5, q6⟩ := crash_lock hen 175 176 0 (rs0 σ) τ hC hby hbj hbr hJ (Nat.zero_le _) (by omega) (by omega)
  unfold restore
  rw [hWc]
  obtain ⟨p, ep⟩ : ∃ p, p = rsL en 175 0 (rs0 σ) := ⟨_, rfl⟩
  obtain ⟨r, er⟩ : ∃ r, r = crL en 176 0 τ := ⟨_, rfl⟩
  rw [← ep, ← er] at q1 q3
  rw [← ep] at q2 q4
  rw [← er] at q5 q6
  rw [← ep, ← er, ← q1]
  obtain ⟨k1, k2, k3, k4, k5, k6⟩ := q4
  obtain ⟨m1, m2, m3, m4, m5, m6, m7⟩ := q5
  refine ⟨⟨q3.view ⟨rfl, rfl, rfl, rfl, rfl, rfl, rfl, rfl⟩ ⟨rfl, rfl, rfl, rfl, rfl, rfl, rfl, rfl, rfl⟩ (fun _ _ => rfl), ?_, ?_, q6, rfl, ?_, ⟨rfl, Nat.le_refl _⟩, ?_, ?_, ?_, ?_⟩, rfl, m7⟩
  · show byt (jgW p.2) 700
    rw [k1]; exact hby
  · show byt (kgJR r.2) 700
    rw [m1]; exact hbj
  · intro i hi
    have hi : i < p.1 := hi
    show kgJR r.2 i = jgW p.2 i
    rw [m1, k1]
    exact hJ i (by omega)
  · show kgMy r.2 = jgTc p.2 ∧ jgTc p.2 ≤ 64
    rw [m5, k5]; exact hT
  · intro i hi
    have hi : i < jgTc p.2 := hi
    rw [k5] at hi
    show kgT r.2 i = jgT p.2 i
    rw [m4, k4]; exact hT2 i hi
  · show byt (jgT p.2) 64
    rw [k4]; exact hT3
  · intro k hk
    show kgPN r.2 k = jgPD p.2 k
    rw [m6, k6]; exact hp k hk
theorem R_crash {σ σx : BJ} {τ : BM} {sp : Int32} {n : Nat} (R : Rel σ τ) (hn : n ≤ jgWc σ - jgSc σ) (hx : ((sp < 0 ∨ nI n ≤ sp) ∧ σx = σ) ∨ ∃ k, k < n ∧ sp = nI k ∧ σx = juW σ (upd (jgW σ) (jgSc σ + k) ((jgW σ (jgSc σ + k)) ^^^ (nI 255)))) :
    byt (jgW σx) 700 ∧ Rel (restore (juPD (juWc σx (jgSc σ + n)) (flJ (jgPD σ) 0 4))) (kuSy (kuSz (crM τ sp n).2 (crM τ sp n).1) (crM τ sp n).1) ∧ jgWc (restore (juPD (juWc σx (jgSc σ + n)) (flJ (jgPD σ) 0 4))) = (crM τ sp n).1 ∧ kgTh (crM τ sp n).2 = 0 := by
  obtain ⟨r1, r2, r3, r4, r5, r6, r7, r8, r9, r10, r11⟩ := R
  have h700 := r1.1
  have hk0 := spM_keep (kuTh τ 0) sp n
  have hfacts : byt (jgW σx) 700 ∧ (∀ i, i < jgWc σ → kgJR (spM (kuTh τ 0) sp n) i = jgW σx i) ∧ jgTc σx = jgTc σ ∧ jgT σx = jgT σ ∧ byt (kgJR (spM (kuTh τ 0) sp n)) 700 := by
    have hbj : byt (kgJR (spM (kuTh τ 0) sp n)) 700 := spM_byt r3 (by show kgSy τ + n ≤ 700; rw [r7.1]; omega)
    rcases hx with ⟨h1, rfl⟩ | ⟨k, hk, rfl, rfl⟩
    · refine ⟨r2, fun i hi => ?_, rfl, rfl, hbj⟩
      rw [← spM_no h1]
      exact r6 i hi
    · refine ⟨?_, fun i hi => ?_, rfl, rfl, hbj⟩
      · refine upd_byt r2 ?_
        have hb := r2 (jgSc σ + k) (by omega)
        rw [← isB_xor hb]
        exact isB_255 hb
      · rw [spM_yes (by omega) (by omega) hk]
        show upd (kgJR τ) (kgSy τ + k) (nI 255 - kgJR τ (kgSy τ + k)) i = upd (jgW σ) (jgSc σ + k) ((jgW σ (jgSc σ + k)) ^^^ (nI 255)) i
        rw [r7.1, upd_eq, upd_eq, r6 (jgSc σ + k) (by omega), isB_xor (r2 _ (by omega)), r6 i hi]
  obtain ⟨f1, f2, f3, f4, f5⟩ := hfacts
  refine ⟨f1, ?_⟩
  have hq := R_restore (σ := juPD (juWc σx (jgSc σ + n)) (flJ (jgPD σ) 0 4)) (τ := cr0 τ sp n) (en := kgSy τ + n) (by rw [r7.1]; omega) (by show jgSc σ + n = _; rw [r7.1]) f1 f5 (by show byt (kgRC (spM (kuTh τ 0) sp n)) 700; rw [hk0.2.1]; exact r4) (fun i hi => f2 i (by rw [r7.1] at hi; omega)) (by
      show kgMy (spM (kuTh τ 0) sp n) = jgTc σx ∧ jgTc σx ≤ 64
      rw [f3, show kgMy (spM (kuTh τ 0) sp n) = kgMy τ by unfold spM; by_cases q : ¬ sp < 0 ∧ sp < nI n <;> simp only [q] <;> rfl]
      exact r8) (fun i hi => by
      show kgT (spM (kuTh τ 0) sp n) i = jgT σx i
      have hi : i < jgTc σx := hi
      rw [f3] at hi
      rw [f4, show kgT (spM (kuTh τ 0) sp n) = kgT τ by unfold spM; by_cases q : ¬ sp < 0 ∧ sp < nI n <;> simp only [q] <;> rfl]
      exact r9 i hi) (by show byt (jgT σx) 64; rw [f4]; exact r10) (fun k hk => by
      show flJ (kgPN (emSt (spM (kuTh τ 0) sp n) 8)) 0 4 k = flJ (jgPD σ) 0 4 k
      rw [flJ_at hk, flJ_at hk]) rfl rfl (fun t ht => flB_at ht)
  refine ⟨hq.1, hq.2.1, hq.2.2.trans ?_⟩
  show kgTh (spM (kuTh τ 0) sp n) = 0
  unfold spM
  by_cases q : ¬ sp < 0 ∧ sp < nI n <;> simp only [q] <;> rfl
