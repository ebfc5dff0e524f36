/-! collecting: tags and keys -/
def wT (σ : BJ) (t : Nat) : Nat := if jgTB σ t = -1 then 0 else 13
def AT (σ : BJ) (τ u0 : BM) (lf t : Nat) (x : BJ) (u : BM) : Prop :=
  (onlyW σ x ∧ byt (jgW x) 700 ∧ jgWc x ≤ sumN (wB4 σ) (jgBc σ) + sumN (wT σ) t) ∧ (kgSz u = jgWc x ∧ (∀ q, q < jgWc x → kgJR u q = jgW x q) ∧ byt (kgJR u) 700 ∧ byt (kgRC u) 700) ∧ (sameM τ u ∧ kgKS u = kgKS τ ∧ kgTO u = kgTO τ ∧ kgKn u = kgKn τ ∧ kgBl u = lf) ∧ kgDG u = kgDG u0 ∧ kgLN u = kgLN u0 ∧ kgBY u = kgBY u0
/-- how a turn over the tags goes -/
def TX (σ : BJ) (τ : BM) (t : Nat) (x x' : BJ) (u u' : BM) : Prop := (kgTE τ t = false ∧ x' = x ∧ u' = u) ∨ (kgTE τ t = true ∧ ∃ b, b < jgBc σ ∧ jgTB σ t = nI b ∧ kgTG τ t = jgBD σ b ∧ x' = wR x (rTell t (jgBD σ b)))
theorem at_step {σ x : BJ} {τ u0 u : BM} {t lf : Nat} (R : Rel σ τ) (ht : t < 8) (hq : AT σ τ u0 lf t x u) : AT σ τ u0 lf (t + 1) (rtS x t) (ctS u t) ∧ TX σ τ t x (rtS x t) u (ctS u t) := by
  obtain ⟨⟨a1, a2, a3⟩, ⟨b1, b2, b3, b4⟩, ⟨c1, c2, c3, c4, c5⟩, d1, d2, d3⟩ := hq
  have hTB : jgTB x = jgTB σ := a1.1.2.2.2.2.2.1
  have hBD : jgBD x = jgBD σ := a1.1.2.2.2.2.1
  have hTE : kgTE u = kgTE τ := c1.1
  have hTG : kgTG u = kgTG τ := c1.2.1
  rcases R.1.2.2.2.2.2.2.1 t ht with ⟨q1, q2⟩ | ⟨q1, b, q2, q3, q4⟩
  · have h1 : rtS x t = x := by rw [rtS, if_pos (by rw [hTB]; exact q2)]
    have h2 : ctS u t = u := ctS_no (by rw [hTE]; exact q1)
    rw [h1, h2]
    exact ⟨⟨⟨a1, a2, Nat.le_trans a3 (Nat.add_le_add_left (Nat.le_add_right _ _) _)⟩, ⟨b1, b2, b3, b4⟩, ⟨c1, c2, c3, c4, c5⟩, d1, d2, d3⟩, Or.inl ⟨q1, rfl, rfl⟩⟩
  · have hB20 := R.1.2.1.2
    have h1 : rtS x t = wR x (rTell t (jgBD σ b)) := by
      rw [rtS, if_neg (by rw [hTB, q3]; exact optI_none (by omega)), hTB, hBD, nb_of q3 (by omega)]
    have h2 : ctS u t = wrM (nxSt (nxSt (kuLe u 0) (nI t).toInt64 1) (jgBD σ b) 8) (nI 2) := by
      rw [ctS_yes (by rw [hTE]; exact q1), hTG, q4]
    have e : rTell t (jgBD σ b) = hd (nI 2) 9 ++ ([nI t] ++ l8 (jgBD σ b)) := by rw [rTell, List.append_assoc]
    obtain ⟨z, ez⟩ : ∃ z, z = nxSt (nxSt (kuLe u 0) (nI t).toInt64 1) (jgBD σ b) 8 := ⟨_, rfl⟩
    have hRC : ∀ j, j < 9 → kgRC z j = ([nI t] ++ l8 (jgBD σ b)).getD j 0 := fun j hj => by rw [ez]; exact tl_RC (τ := kuLe u 0) (by omega) rfl _ j hj
    have hlen : ([nI t] ++ l8 (jgBD σ b)).length = 9 := by rw [List.length_append, l8_len]; rfl
    have zb : byt (kgRC z) 700 := by rw [ez]; exact nx_byt (by omega) (nx_byt (by omega) b4)
    have zs : kgSz z = kgSz u ∧ kgJR z = kgJR u ∧ kgLe z = 9 := by rw [ez]; exact ⟨rfl, rfl, rfl⟩
    have zv : kgTE (wrM z (nI 2)) = kgTE u ∧ kgTG (wrM z (nI 2)) = kgTG u ∧ kgPN (wrM z (nI 2)) = kgPN u ∧ kgT (wrM z (nI 2)) = kgT u ∧ kgMy (wrM z (nI 2)) = kgMy u ∧ kgTh (wrM z (nI 2)) = kgTh u ∧ kgKS (wrM z (nI 2)) = kgKS u ∧ kgTO (wrM z (nI 2)) = kgTO u ∧ kgKn (wrM z (nI 2)) = kgKn u ∧ kgBl (wrM z (nI 2)) = kgBl u ∧ kgDG (wrM z (nI 2)) = kgDG u ∧ kgLN (wrM z (nI 2)) = kgLN u ∧ kgBY (wrM z (nI 2)) = kgBY u ∧ kgRC (wrM z (nI 2)) = kgRC z := by
      rw [ez]
      exact ⟨rfl, rfl, rfl, rfl, rfl, rfl, rfl, rfl, rfl, rfl, rfl, rfl, rfl, rfl⟩
    obtain ⟨v1, v2, v3, v4, v5, v6, v7, v8, v9, v10, v11, v12, v13, v14⟩ := zv
    obtain ⟨s1, s2⟩ := wr_same (σ := x) (τ := z) (k := nI 2) (n := 9) (by omega) (zs.1.trans b1) (fun i hi => by rw [zs.2.1]; exact b2 i hi) hlen zs.2.2 hRC
    rw [← e] at s1 s2
    rw [h1, h2, ← ez]
    refine ⟨⟨⟨a1.tr (onlyW.wR x _), ?_, ?_⟩, ⟨s1, s2, wrM_byt (isB_nI (by omega)) (by rw [zs.2.1]; exact b3) zb (by rw [zs.2.2]; omega), by rw [v14]; exact zb⟩, ⟨c1.tr0 v1 v2 v3 v4 v5 v6, v7.trans c2, v8.trans c3, v9.trans c4, v10.trans c5⟩, v11.trans d1, v12.trans d2, v13.trans d3⟩, Or.inr ⟨q1, b, q2, q3, q4, rfl⟩⟩
    · refine wR_byt a2 ?_
      rw [e, hd_eq (by omega)]
      intro y hy
      rcases List.mem_append.mp hy with h | h
      · rcases List.mem_cons.mp h with rfl | h
        · exact isB_nI (by omega)
        · rcases List.mem_cons.mp h with rfl | h
          · exact isB_nI (by omega)
          · rw [List.mem_singleton.mp h]; exact isB_nI (by omega)
      · rcases List.mem_append.mp h with h | h
        · rw [List.mem_singleton.mp h]; exact isB_nI (by omega)
        · exact l8_B _ y h
    · rw [wR_Wc, e, List.length_append, hlen]
      show jgWc x + (3 + 9) + 1 ≤ _ + (sumN (wT σ) t + wT σ t)
      have : wT σ t = 13 := by rw [wT, if_neg (by rw [q3]; exact optI_none (by omega))]
      omega
def AK (σ : BJ) (τ u0 : BM) (lf k : Nat) (x : BJ) (left : Nat) (u : BM) : Prop :=
  (onlyW σ x ∧ byt (jgW x) 700 ∧ jgWc x ≤ sumN (wB4 σ) (jgBc σ) + sumN (wT σ) 8 + 20 * k) ∧ (kgSz u = jgWc x ∧ (∀ q, q < jgWc x → kgJR u q = jgW x q) ∧ byt (kgJR u) 700 ∧ byt (kgRC u) 700) ∧ (sameM τ u ∧ kgKn u = kgKn τ ∧ kgBl u = lf) ∧ (kgDG u = kgDG u0 ∧ kgLN u = kgLN u0 ∧ kgBY u = kgBY u0) ∧ left ≤ k ∧ (∀ j, k ≤ j → kgKS u j = kgKS τ j ∧ kgTO u j = kgTO τ j) ∧ ∀ r, r < left → ∃ j, j < k ∧ kgKS u r = kgKS τ j
def KX (σ : BJ) (k : Nat) (x : BJ) (left : Nat) (u : BM) (x' : BJ) (left' : Nat) (u' : BM) : Prop := (x' = x ∧ left' = left ∧ u' = u) ∨ (left' = left + 1 ∧ x' = wR x (rKey (jgKS σ k) (jgKD σ k)) ∧ kgKS u' = vp_updL (kgKS u) left (jgKS σ k) ∧ kgTO u' = vp_updL (kgTO u) left (jgKD σ k))
theorem ak_step {σ x : BJ} {τ u0 u : BM} {k lf left : Nat} (R : Rel σ τ) (hk : k < jgKc σ) (hD3 : ∀ r, r < lf → ∃ j, j < jgBc σ ∧ isTold σ j = true ∧ kgDG u0 r = jgBD σ j) (hD4 : ∀ j, j < jgBc σ → isTold σ j = true → ∃ r, r < lf ∧ kgDG u0 r = jgBD σ j) (hq : AK σ τ u0 lf k x left u) :
    AK σ τ u0 lf (k + 1) (rkS x k) (ckS (left, u) k).1 (ckS (left, u) k).2 ∧ KX σ k x left u (rkS x k) (ckS (left, u) k).1 (ckS (left, u) k).2 := by
  obtain ⟨⟨a1, a2, a3⟩, ⟨b1, b2, b3, b4⟩, ⟨c1, c2, c3⟩, ⟨d1, d2, d3⟩, f1, f2, f3⟩ := hq
  obtain ⟨-, h2, -, -, ⟨-, -, h7⟩, -, -, h10, h11⟩ := R.1
  have hBD : jgBD x = jgBD σ := a1.1.2.2.2.2.1
  have hBc : jgBc x = jgBc σ := a1.1.1
  have hKS : jgKS x = jgKS σ := a1.1.2.2.2.2.2.2.1
  have hKD : jgKD x = jgKD σ := a1.1.2.2.2.2.2.2.2
  obtain ⟨g1, g2⟩ := f2 k (Nat.le_refl _)
  have eK : kgKS u k = jgKS σ k := by rw [g1]; exact (h10 k hk).1
  have eD : kgTO u k = jgKD σ k := by rw [g2]; exact (h10 k hk).2
  obtain ⟨d, ed⟩ : ∃ d, d = jgKD σ k := ⟨_, rfl⟩
  obtain ⟨key, ekey⟩ : ∃ z, z = jgKS σ k := ⟨_, rfl⟩
  rw [← ekey] at eK
  rw [← ed] at eD
  have hno : fnd (kgDG u) d (kgBl u) = none → (∀ b, fnd (jgBD σ) d (jgBc σ) = some b → isTold σ b = false) := fun hn b hb => by
    cases ht : isTold σ b with
    | false => rfl
    | true =>
      obtain ⟨q1, q2⟩ := fnd_lt hb
      obtain ⟨r, r1, r2⟩ := hD4 b q1 ht
      exact absurd ((by rw [d1, r2, q2] : kgDG u r = d)) (fnd_none.mp hn r (by rw [c3]; exact r1))
  cases hf : fnd (kgDG u) d (kgBl u) with
  | none =>
    have hx : rkS x k = x := by
      rw [rkS, hBD, hKD, hBc, ← ed]
      cases hb : fnd (jgBD σ) d (jgBc σ) with
      | none => rfl
      | some b => simp only [a1.told, hno hf b hb]; rfl
    have hu : ckS (left, u) k = (left, u) := ckS_no (q := (left, u)) (k := k) (by show fnd (kgDG u) (kgTO u k) (kgBl u) = none; rw [eD]; exact hf)
    rw [hx, hu]
    refine ⟨⟨⟨a1, a2, by omega⟩, ⟨b1, b2, b3, b4⟩, ⟨c1, c2, c3⟩, ⟨d1, d2, d3⟩, by show left ≤ k + 1; omega, fun j hj => f2 j (by omega), fun r hr => ?_⟩, Or.inl ⟨rfl, rfl, rfl⟩⟩
    obtain ⟨j, q1, q2⟩ := f3 r hr
    exact ⟨j, by omega, q2⟩
  | some r =>
    obtain ⟨r1, r2⟩ := fnd_lt hf
    obtain ⟨j, j1, j2, j3⟩ := hD3 r (by rw [← c3]; exact r1)
    have hjd : jgBD σ j = d := by rw [← j3, ← d1]; exact r2
    have hb : fnd (jgBD σ) d (jgBc σ) = some j := by
      cases hb : fnd (jgBD σ) d (jgBc σ) with
      | none => exact absurd hjd (fnd_none.mp hb j j1)
      | some b =>
        obtain ⟨q1, q2⟩ := fnd_lt hb
        rw [h7 b j q1 j1 (q2.trans hjd.symm)]
    have hx : rkS x k = wR x (rKey key d) := by
      rw [rkS, hBD, hKD, hBc, hKS, ← ed, ← ekey, hb]
      simp only [a1.told, j2]
      rfl
    have hu : ckS (left, u) k = (left + 1, wrM (ckW (ckN u k) k left) (nI 4)) := ckS_yes (q := (left, u)) (k := k) (i := r) (by show fnd (kgDG u) (kgTO u k) (kgBl u) = some r; rw [eD]; exact hf)
    obtain ⟨z, ez⟩ : ∃ z, z = ckW (ckN u k) k left := ⟨_, rfl⟩
    have zN : ckN u k = nxSt (nxSt (kuLe u 0) key 8) d 8 := by rw [ckN, eK, eD]
    have hRC : ∀ j, j < 16 → kgRC z j = (l8 key ++ l8 d).getD j 0 := fun j hj => by
      rw [ez]
      show kgRC (ckN u k) j = _
      rw [zN]
      exact ln_RC (τ := kuLe u 0) rfl key d j hj
    have hlen : (l8 key ++ l8 d).length = 16 := by rw [List.length_append, l8_len, l8_len]
    have zb : byt (kgRC z) 700 := by
      rw [ez]
      show byt (kgRC (ckN u k)) 700
      rw [zN]
      exact nx_byt (by omega) (nx_byt (by omega) b4)
    have zs : kgSz z = kgSz u ∧ kgJR z = kgJR u ∧ kgLe z = 16 := by
      rw [ez]
      show kgSz (ckN u k) = _ ∧ kgJR (ckN u k) = _ ∧ kgLe (ckN u k) = _
      exact ⟨rfl, rfl, rfl⟩
    have zv : kgTE (wrM z (nI 4)) = kgTE u ∧ kgTG (wrM z (nI 4)) = kgTG u ∧ kgPN (wrM z (nI 4)) = kgPN u ∧ kgT (wrM z (nI 4)) = kgT u ∧ kgMy (wrM z (nI 4)) = kgMy u ∧ kgTh (wrM z (nI 4)) = kgTh u ∧ kgKn (wrM z (nI 4)) = kgKn u ∧ kgBl (wrM z (nI 4)) = kgBl u ∧ kgDG (wrM z (nI 4)) = kgDG u ∧ kgLN (wrM z (nI 4)) = kgLN u ∧ kgBY (wrM z (nI 4)) = kgBY u ∧ kgRC (wrM z (nI 4)) = kgRC z ∧ kgKS (wrM z (nI 4)) = vp_updL (kgKS u) left (kgKS u k) ∧ kgTO (wrM z (nI 4)) = vp_updL (kgTO u) left (kgTO u k) := by
      rw [ez]
      exact ⟨rfl, rfl, rfl, rfl, rfl, rfl, rfl, rfl, rfl, rfl, rfl, rfl, rfl, rfl⟩
    obtain ⟨v1, v2, v3, v4, v5, v6, v7, v8, v9, v10, v11, v12, v13, v14⟩ := zv
    obtain ⟨s1, s2⟩ := wr_same (σ := x) (τ := z) (k := nI 4) (n := 16) (by omega) (zs.1.trans b1) (fun i hi => by rw [zs.2.1]; exact b2 i hi) hlen zs.2.2 hRC
    rw [eK] at v13
    rw [eD] at v14
    rw [hx, hu, ← ez]
    refine ⟨⟨⟨a1.tr (onlyW.wR x _), ?_, ?_⟩, ⟨s1, s2, wrM_byt (isB_nI (by omega)) (by rw [zs.2.1]; exact b3) zb (by rw [zs.2.2]; omega), by show byt (kgRC (wrM z (nI 4))) 700; rw [v12]; exact zb⟩, ⟨c1.tr0 v1 v2 v3 v4 v5 v6, v7.trans c2, v8.trans c3⟩, ⟨v9.trans d1, v10.trans d2, v11.trans d3⟩, by show left + 1 ≤ k + 1; omega, fun j hj => ?_, fun r hr => ?_⟩, Or.inr ⟨rfl, by rw [← ekey, ← ed], by rw [← ekey]; exact v13, by rw [← ed]; exact v14⟩⟩
    · refine wR_byt a2 ?_
      rw [rKey, hd_eq (by omega)]
      intro y hy
      rcases List.mem_append.mp hy with h | h
      · rcases List.mem_cons.mp h with rfl | h
        · exact isB_nI (by omega)
        · rcases List.mem_cons.mp h with rfl | h
          · exact isB_nI (by omega)
          · rw [List.mem_singleton.mp h]; exact isB_nI (by omega)
      · rcases List.mem_append.mp h with h | h
        · exact l8_B _ y h
        · exact l8_B _ y h
    · rw [wR_Wc, rKey, List.length_append, hlen]
      show jgWc x + (3 + 16) + 1 ≤ _
      omega
    · show kgKS (wrM z (nI 4)) j = _ ∧ kgTO (wrM z (nI 4)) j = _
      rw [v13, v14, updL_eq, updL_eq, if_neg (by omega), if_neg (by omega)]
      exact f2 j (by omega)
    · have hr : r < left + 1 := hr
      show ∃ j, j < k + 1 ∧ kgKS (wrM z (nI 4)) r = _
      rw [v13, updL_eq]
      by_cases e : r = left
      · rw [if_pos e]
        exact ⟨k, by omega, by rw [← g1, eK]⟩
      · rw [if_neg e]
        obtain ⟨j, q1, q2⟩ := f3 r (by omega)
        exact ⟨j, by omega, q2⟩
