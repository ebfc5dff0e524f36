/-! the relation between the class's state and the reference's; what is written by both is the same -/
def Rel (σ : BJ) (τ : BM) : Prop := Core (jgWc σ) σ τ ∧ byt (jgW σ) 700 ∧ byt (kgJR τ) 700 ∧ byt (kgRC τ) 700 ∧ kgSz τ = jgWc σ ∧ (∀ i, i < jgWc σ → kgJR τ i = jgW σ i) ∧ (kgSy τ = jgSc σ ∧ jgSc σ ≤ jgWc σ) ∧ (kgMy τ = jgTc σ ∧ jgTc σ ≤ 64) ∧ (∀ i, i < jgTc σ → kgT τ i = jgT σ i) ∧ byt (jgT σ) 64 ∧ ∀ k, k < 4 → kgPN τ k = jgPD σ k
theorem Rel.viewM {σ : BJ} {τ τ' : BM} (R : Rel σ τ) (v : viewM τ τ') (h1 : kgJR τ' = kgJR τ) (h2 : kgSz τ' = kgSz τ) (h3 : kgSy τ' = kgSy τ) (h4 : kgMy τ' = kgMy τ) (h5 : kgT τ' = kgT τ) (h6 : kgPN τ' = kgPN τ) (h7 : byt (kgRC τ') 700) : Rel σ τ' := by
  obtain ⟨r1, r2, r3, r4, r5, r6, r7, r8, r9, r10, r11⟩ := R
  refine ⟨r1.view (viewC.rf σ) v (fun _ _ => rfl), r2, by rw [h1]; exact r3, h7, by rw [h2]; exact r5, by rw [h1]; exact r6, by rw [h3]; exact r7, by rw [h4]; exact r8, by rw [h5]; exact r9, r10, by rw [h6]; exact r11⟩
theorem Rel.th {σ : BJ} {τ : BM} (R : Rel σ τ) (k : Nat) : Rel σ (kuTh τ k) := R.viewM ⟨rfl, rfl, rfl, rfl, rfl, rfl, rfl, rfl, rfl⟩ rfl rfl rfl rfl rfl rfl R.2.2.2.1
theorem Rel.le {σ : BJ} {τ : BM} (R : Rel σ τ) (n : Nat) : Rel σ (kuLe τ n) := R.viewM ⟨rfl, rfl, rfl, rfl, rfl, rfl, rfl, rfl, rfl⟩ rfl rfl rfl rfl rfl rfl R.2.2.2.1
theorem Rel.nx {σ : BJ} {τ : BM} (R : Rel σ τ) (v : Int64) {i : Nat} (hi : i ≤ 8) : Rel σ (nxSt τ v i) := R.viewM ⟨rfl, rfl, rfl, rfl, rfl, rfl, rfl, rfl, rfl⟩ rfl rfl rfl rfl rfl rfl (nx_byt hi R.2.2.2.1)
theorem Rel.kp {σ : BJ} {τ : BM} (R : Rel σ τ) : ∀ i, Rel σ (kpSt τ i)
  | 0 => R.le 0
  | i + 1 => (Rel.kp R i).nx _ (by omega)
theorem wL_Sc (σ : BJ) (a : List Int32) : jgSc (wL σ a) = jgSc σ := by
  induction a generalizing σ with
  | nil => rfl
  | cons x a ih => exact ih (wB σ x)
theorem wR_Wc (σ : BJ) (bs : List Int32) : jgWc (wR σ bs) = jgWc σ + bs.length + 1 := by
  show jgWc (wL σ bs) + 1 = _
  rw [wL_wc]
theorem wR_W (σ : BJ) (bs : List Int32) (i : Nat) : jgW (wR σ bs) i = upd (jgW (wL σ bs)) (jgWc (wL σ bs)) (sm (jgW (wL σ bs)) (jgWc σ) bs.length) i := rfl
theorem wR_lo {σ : BJ} {bs : List Int32} {i : Nat} (h : i < jgWc σ) : jgW (wR σ bs) i = jgW σ i := by
  rw [wR_W, upd_eq, if_neg (by rw [wL_wc]; omega), wL_W, if_neg (by omega)]
theorem wR_mid {σ : BJ} {bs : List Int32} {i : Nat} (h : i < bs.length) : jgW (wR σ bs) (jgWc σ + i) = bs.getD i 0 := by
  rw [wR_W, upd_eq, if_neg (by rw [wL_wc]; omega), wL_W, if_pos (by omega), show jgWc σ + i - jgWc σ = i by omega]
theorem wR_end (σ : BJ) (bs : List Int32) : jgW (wR σ bs) (jgWc σ + bs.length) = sm (jgW (wR σ bs)) (jgWc σ) bs.length := by
  rw [wR_W, upd_eq, if_pos (wL_wc σ bs).symm]
  refine sm_congr (fun i hi => ?_)
  rw [wR_W, upd_eq, if_neg (by rw [wL_wc]; omega)]
theorem wR_byt {σ : BJ} {bs : List Int32} (h : byt (jgW σ) 700) (hb : ∀ x ∈ bs, isB x) : byt (jgW (wR σ bs)) 700 := by
  intro i hi
  show isB (jgW (wR σ bs) i)
  rw [wR_W, upd_eq]
  by_cases e : i = jgWc (wL σ bs)
  · rw [if_pos e]; exact isB_and _
  · rw [if_neg e, wL_W]
    by_cases q : jgWc σ ≤ i ∧ i < jgWc σ + bs.length
    · rw [if_pos q]
      have hl : i - jgWc σ < bs.length := by omega
      rw [List.getD_eq_getElem?_getD, List.getElem?_eq_getElem hl]
      exact hb _ (List.getElem_mem hl)
    · rw [if_neg q]; exact h i hi
theorem wR_view (σ : BJ) (bs : List Int32) : viewC σ (wR σ bs) := by
  obtain ⟨h1, h2, h3, h4, h5, h6, h7, h8, h9⟩ := wR_keep σ bs
  exact ⟨h3, h4, h9, h8, h2, h1, h6, h5⟩
theorem rng_ext {f : Nat → Int32} {n : Nat} {bs : List Int32} (hl : bs.length = n) (h : ∀ j, j < n → f j = bs.getD j 0) : (List.range n).map f = bs := by
  apply List.ext_getElem
  · rw [rng_len, hl]
  · intro j h1 h2
    rw [List.getElem_map, List.getElem_range, h j (by omega), List.getD_eq_getElem?_getD, List.getElem?_eq_getElem h2]
    rfl
theorem hi_eq : ∀ n : Fin 701, nI n.1 >>> (nI 8 &&& 31) = ((nI n.1).toUInt32 >>> ((nI 8).toUInt32 &&& Int32.toUInt32 31)).toInt32 := by decide +kernel
theorem hdM_eq {k : Int32} {n : Nat} (h : n ≤ 700) : hdM k n = hd k n := by
  rw [hdM, hd, hi_eq ⟨n, by omega⟩]
theorem wrM_JR (τ : BM) (k : Int32) (i : Nat) : kgJR (wrM τ k) i = upd (putL (kgJR τ) (kgSz τ) (hdM k (kgLe τ) ++ (List.range (kgLe τ)).map (kgRC τ))) (kgSz τ + 3 + kgLe τ) (sm (putL (kgJR τ) (kgSz τ) (hdM k (kgLe τ) ++ (List.range (kgLe τ)).map (kgRC τ))) (kgSz τ) (3 + kgLe τ)) i := rfl
theorem putL_get {f : Nat → Int32} {a i : Nat} {bs : List Int32} (h : i < bs.length) : putL f a bs (a + i) = bs.getD i 0 := by
  unfold putL
  rw [if_pos (by omega), show a + i - a = i by omega]
/-- both write the same record -/
theorem wr_same {σ : BJ} {τ : BM} {k : Int32} {n : Nat} {body : List Int32} (hn : n ≤ 700) (hSz : kgSz τ = jgWc σ) (hJ : ∀ i, i < jgWc σ → kgJR τ i = jgW σ i) (hlen : body.length = n) (hLe : kgLe τ = n) (hRC : ∀ j, j < n → kgRC τ j = body.getD j 0) :
    kgSz (wrM τ k) = jgWc (wR σ (hd k n ++ body)) ∧ ∀ i, i < jgWc (wR σ (hd k n ++ body)) → kgJR (wrM τ k) i = jgW (wR σ (hd k n ++ body)) i := by
  have hbs : (hd k n ++ body).length = 3 + n := by rw [List.length_append, hlen]; rfl
  have hL : hdM k (kgLe τ) ++ (List.range (kgLe τ)).map (kgRC τ) = hd k n ++ body := by rw [hLe, hdM_eq hn, rng_ext hlen hRC]
  constructor
  · show kgSz τ + 3 + kgLe τ + 1 = _
    rw [wR_Wc, hbs, hSz, hLe]; omega
  · intro i hi
    rw [wR_Wc, hbs] at hi
    rw [wrM_JR, hL, hSz, hLe, upd_eq]
    by_cases e : i = jgWc σ + 3 + n
    · rw [if_pos e, show i = jgWc σ + (hd k n ++ body).length by rw [hbs]; omega, wR_end, hbs]
      refine sm_congr (fun j hj => ?_)
      rw [putL_get (by rw [hbs]; omega), wR_mid (by rw [hbs]; omega)]
    · rw [if_neg e]
      by_cases h2 : i < jgWc σ
      · rw [putL_out (Or.inl h2), wR_lo h2]; exact hJ i h2
      · have : i = jgWc σ + (i - jgWc σ) := by omega
        rw [this, putL_get (by rw [hbs]; omega), wR_mid (by rw [hbs]; omega)]
theorem wrM_byt {τ : BM} {k : Int32} (hk : isB k) (h : byt (kgJR τ) 700) (hr : byt (kgRC τ) 700) (hn : kgLe τ ≤ 700) : byt (kgJR (wrM τ k)) 700 := by
  intro i hi
  show isB (kgJR (wrM τ k) i)
  rw [wrM_JR]
  refine (upd_byt (putL_byt h ?_) (isB_and _)) i hi
  intro x hx
  rcases List.mem_append.mp hx with h1 | h1
  · rw [hdM_eq hn, hd_eq (by omega)] at h1
    rcases List.mem_cons.mp h1 with rfl | h1
    · exact hk
    · rcases List.mem_cons.mp h1 with rfl | h1
      · exact isB_nI (Nat.mod_lt _ (by decide))
      · rcases List.mem_cons.mp h1 with rfl | h1
        · exact isB_nI (by omega)
        · cases h1
  · obtain ⟨j, hj, rfl⟩ := List.mem_map.mp h1
    have := List.mem_range.mp hj
    exact hr j (by omega)
theorem hdb_get (k : Int32) (n j : Nat) (body : List Int32) : (hd k n ++ body).getD (3 + j) 0 = body.getD j 0 := by
  rw [hd, Nat.add_comm 3 j]
  rfl
theorem write_step {σ σ1 : BJ} {τ τ1 : BM} {κ n : Nat} {body : List Int32} (R : Rel σ τ) (e1 : σ1 = wR σ (hd (nI κ) n ++ body)) (e2 : τ1 = wrM τ (nI κ)) (hκ : 1 ≤ κ ∧ κ ≤ 4) (hlen : body.length = n) (hroom : jgWc σ + 4 + n ≤ 700) (hLe : kgLe τ = n) (hRC : ∀ j, j < n → kgRC τ j = body.getD j 0) (hB : ∀ x ∈ body, isB x) :
    (jgWc σ + 2 < 700 ∧ jgWc σ + 3 + lenAt (jgW σ1) (jgWc σ) < 700 ∧ byt (jgW σ1) 700 ∧ jgBc σ1 ≤ 20 ∧ jgKc σ1 ≤ 16) ∧ Rel (ofO (follow σ1 (jgWc σ)) σ1) (ofM (saysM τ1 κ) τ1) ∧ kgTh (ofM (saysM τ1 κ) τ1) = kgTh τ := by
  obtain ⟨r1, r2, r3, r4, r5, r6, r7, r8, r9, r10, r11⟩ := R
  have hbs : (hd (nI κ) n ++ body).length = 3 + n := by rw [List.length_append, hlen]; rfl
  have hhd : hd (nI κ) n = [nI κ, nI (n % 256), nI (n / 256)] := hd_eq (by omega)
  have hBs : ∀ x ∈ hd (nI κ) n ++ body, isB x := by
    intro x hx
    rcases List.mem_append.mp hx with h1 | h1
    · rw [hhd] at h1
      rcases List.mem_cons.mp h1 with rfl | h1
      · exact isB_nI (by omega)
      · rcases List.mem_cons.mp h1 with rfl | h1
        · exact isB_nI (Nat.mod_lt _ (by decide))
        · rcases List.mem_cons.mp h1 with rfl | h1
          · exact isB_nI (by omega)
          · cases h1
    · exact hB x h1
  have hget : ∀ i, i < 3 + n → jgW σ1 (jgWc σ + i) = (hd (nI κ) n ++ body).getD i 0 := fun i hi => by rw [e1]; exact wR_mid (by rw [hbs]; exact hi)
  have hWa : jgW σ1 (jgWc σ) = nI κ := by
    have := hget 0 (by omega)
    rw [hhd] at this
    exact this
  have hW1 : jgW σ1 (jgWc σ + 1) = nI (n % 256) := by
    have := hget 1 (by omega)
    rw [hhd] at this
    exact this
  have hW2 : jgW σ1 (jgWc σ + 2) = nI (n / 256) := by
    have := hget 2 (by omega)
    rw [hhd] at this
    exact this
  have hlenAt : lenAt (jgW σ1) (jgWc σ) = n := by
    have m1 : n % 256 < 256 := Nat.mod_lt _ (by decide)
    rw [lenAt, nb_of hW1 (by omega), nb_of hW2 (by omega)]
    omega
  have hnb : nb (jgW σ1) (jgWc σ) = κ := nb_of hWa (by omega)
  have hby1 : byt (jgW σ1) 700 := by rw [e1]; exact wR_byt r2 hBs
  have hv : viewC σ σ1 := by rw [e1]; exact wR_view σ _
  have hWc1 : jgWc σ1 = jgWc σ + (4 + n) := by rw [e1, wR_Wc, hbs]; omega
  have hkC0 : jgSc σ1 = jgSc σ ∧ jgT σ1 = jgT σ ∧ jgTc σ1 = jgTc σ ∧ jgPD σ1 = jgPD σ := by
    rw [e1]
    exact ⟨wL_Sc σ _, wL_T σ _, wL_Tc σ _, (wR_keep σ _).2.2.2.2.2.2.1⟩
  obtain ⟨s1, s2⟩ := wr_same (k := nI κ) (by omega) r5 r6 hlen hLe hRC
  rw [← e1, ← e2] at s1 s2
  have hvM : viewM τ τ1 ∧ keepM τ (kuSz (kuJR τ1 (kgJR τ)) (kgSz τ)) ∧ kgRC τ1 = kgRC τ ∧ kgLe τ1 = kgLe τ ∧ kgSy τ1 = kgSy τ ∧ kgT τ1 = kgT τ ∧ kgMy τ1 = kgMy τ ∧ kgPN τ1 = kgPN τ ∧ kgTh τ1 = kgTh τ := by
    rw [e2]
    exact ⟨⟨rfl, rfl, rfl, rfl, rfl, rfl, rfl, rfl, rfl⟩, ⟨rfl, rfl, rfl, rfl, rfl, rfl, rfl⟩, rfl, rfl, rfl, rfl, rfl, rfl, rfl⟩
  obtain ⟨v1, -, v3, v4, v5, v6, v7, v8, v9⟩ := hvM
  have hbj1 : byt (kgJR τ1) 700 := by rw [e2]; exact wrM_byt (isB_nI (by omega)) r3 r4 (by omega)
  have hC1 : Core (jgWc σ) σ1 τ1 := r1.view hv v1 (fun i hi => by rw [e1]; exact wR_lo hi)
  have hwh : isWh (jgW σ1) (jgWc σ) (jgWc σ + (4 + n)) = true := by
    refine isWh_iff.mpr ⟨by omega, by rw [hlenAt]; omega, ?_⟩
    rw [hlenAt]
    have := wR_end σ (hd (nI κ) n ++ body)
    rw [← e1, hbs] at this
    rw [Nat.add_assoc]
    exact this
  have hfin : ∃ σ' τ', ofO (follow σ1 (jgWc σ)) σ1 = σ' ∧ ofM (saysM τ1 κ) τ1 = τ' ∧ Core (jgWc σ + (4 + n)) σ' τ' ∧ keepC σ1 σ' ∧ keepM τ1 τ' ∧ kgRC τ' = kgRC τ1 := by
    have hq := core_follow hC1 hby1 (en := jgWc σ + (4 + n)) (by omega) hwh (by rw [hlenAt, v4, hLe]) (fun k hk => by
      rw [hlenAt] at hk
      rw [v3, hRC k hk, Nat.add_assoc, hget (3 + k) (by omega), hdb_get]) (by rw [hnb]; exact hκ)
    rw [hnb, hlenAt] at hq
    rcases hq with ⟨f1, f2⟩ | ⟨σ2, τ2, f1, f2, c, d, e⟩
    · exact ⟨σ1, τ1, by rw [f1]; rfl, by rw [f2]; rfl, hC1.mono (by omega) (by omega), keepC.rf _, keepM.rf _, rfl⟩
    · exact ⟨σ2, τ2, by rw [f1]; rfl, by rw [f2]; rfl, c, d, e, (saysM_keep f2).2.2.2⟩
  refine ⟨⟨by omega, by rw [hlenAt]; omega, hby1, by rw [hv.1]; exact r1.2.1.2, by rw [hv.2.1]; exact r1.2.2.1.2⟩, ?_⟩
  obtain ⟨σ', τ', q1, q2, q3, q4, q5, q6⟩ := hfin
  rw [q1, q2]
  obtain ⟨k1, k2, k3, k4, k5, k6⟩ := q4
  obtain ⟨m1, m2, m3, m4, m5, m6, m7⟩ := q5
  refine ⟨⟨by rw [k2, hWc1]; exact q3, by rw [k1]; exact hby1, by rw [m1]; exact hbj1, by rw [q6, v3]; exact r4, by rw [m2, k2]; exact s1, by rw [k2, m1, k1]; exact s2, ?_, ?_, ?_, ?_, ?_⟩, by rw [m7, v9]⟩
  · rw [m3, v5, k3, hkC0.1, k2, hWc1]
    exact ⟨r7.1, by omega⟩
  · rw [m5, v7, k5, hkC0.2.2.1]; exact r8
  · rw [m4, v6, k4, k5, hkC0.2.1, hkC0.2.2.1]; exact r9
  · rw [k4, hkC0.2.1]; exact r10
  · rw [m6, v8, k6, hkC0.2.2.2]; exact r11
