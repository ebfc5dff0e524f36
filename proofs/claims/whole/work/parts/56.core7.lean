/-! collecting: what was written is read again -/
def Ext (x y : BJ) : Prop := jgWc x ≤ jgWc y ∧ ∀ q, q < jgWc x → jgW y q = jgW x q
theorem Ext.rf (x : BJ) : Ext x x := ⟨Nat.le_refl _, fun _ _ => rfl⟩
theorem Ext.tr {x y z : BJ} (h : Ext x y) (g : Ext y z) : Ext x z := ⟨Nat.le_trans h.1 g.1, fun q hq => (g.2 q (Nat.lt_of_lt_of_le hq h.1)).trans (h.2 q hq)⟩
theorem Ext.wR (x : BJ) (bs : List Int32) : Ext x (wR x bs) := ⟨by rw [wR_Wc]; omega, fun q hq => wR_lo hq⟩
theorem ext_rb (x : BJ) (i : Nat) : Ext x (rbS x i) := by
  rw [rbS]
  by_cases h : isTold x i = true
  · rw [if_pos h]
    refine ⟨Nat.le_add_right _ _, fun q hq => ?_⟩
    show (if jgWc x ≤ q ∧ q < jgWc x + (4 + nb (jgBL x) i) then jgW x (nb (jgBS x) i - 3 + (q - jgWc x)) else jgW x q) = _
    rw [if_neg (by omega)]
  · rw [if_neg h]; exact Ext.rf x
theorem ext_rt (x : BJ) (t : Nat) : Ext x (rtS x t) := by
  rw [rtS]
  by_cases h : jgTB x t = -1
  · rw [if_pos h]; exact Ext.rf x
  · rw [if_neg h]; exact Ext.wR x _
theorem ext_rk (x : BJ) (k : Nat) : Ext x (rkS x k) := by
  rw [rkS]
  cases fnd (jgBD x) (jgKD x k) (jgBc x) with
  | none => exact Ext.rf x
  | some b =>
    by_cases h : isTold x b = true
    · simp only [if_pos h]; exact Ext.wR x _
    · simp only [if_neg h]; exact Ext.rf x
theorem ext_it {f : Nat → BJ} (h : ∀ i, Ext (f i) (f (i + 1))) (i : Nat) : ∀ j, i ≤ j → Ext (f i) (f j)
  | 0, hj => by rw [show i = 0 by omega]; exact Ext.rf _
  | j + 1, hj => by
    by_cases e : i = j + 1
    · rw [e]; exact Ext.rf _
    · exact (ext_it h i j (by omega)).tr (h j)
theorem Core.viewB {a : Nat} {σ : BJ} {τ τ' : BM} (h : Core a σ τ) (h1 : kgBl τ' = kgBl τ) (h2 : kgKn τ' = kgKn τ) (h3 : kgDG τ' = kgDG τ) (h4 : kgLN τ' = kgLN τ) (h5 : kgBY τ' = kgBY τ) (h6 : ∀ t, t < 8 → kgTE τ' t = kgTE τ t) (h7 : kgTG τ' = kgTG τ) (h8 : kgKS τ' = kgKS τ) (h9 : kgTO τ' = kgTO τ) : Core a σ τ' := by
  obtain ⟨q1, q2, q3, q4, q5, q6, q7, q8⟩ := h
  refine ⟨q1, by rw [h1]; exact q2, by rw [h2]; exact q3, q4, q5, by unfold cSame; rw [h3, h4, h5]; exact q6, fun t ht => ?_, by unfold cKeys; rw [h8, h9]; exact q8⟩
  rw [h6 t ht, h7]
  exact q7 t ht
/-- the reading has come to p, and the picture there is ρ's -/
def PS (en : Nat) (S0 : BJ) (p : Nat) (ρ : BM) : Prop := ∃ (r : Nat) (P : BJ), 4 * r ≤ p ∧ (∀ n, rsL en (n + r) 0 S0 = rsL en n p P) ∧ Core p P ρ ∧ keepC S0 P
theorem PS.view {en : Nat} {S0 : BJ} {p : Nat} {ρ ρ' : BM} (h : PS en S0 p ρ) (hv : ∀ P, Core p P ρ → Core p P ρ') : PS en S0 p ρ' := by
  obtain ⟨r, P, h1, h2, h3, h4⟩ := h
  exact ⟨r, P, h1, h2, hv P h3, h4⟩
theorem PS.step {en : Nat} {S0 : BJ} {p n : Nat} {ρ ρ' : BM} (h : PS en S0 p ρ) (hw : isWh (jgW S0) p en = true) (hn : lenAt (jgW S0) p = n) (hs : ∀ P, Core p P ρ → keepC S0 P → ∃ P', follow P p = some P' ∧ Core (p + (4 + n)) P' ρ' ∧ keepC P P') : PS en S0 (p + (4 + n)) ρ' := by
  obtain ⟨r, P, h1, h2, h3, h4⟩ := h
  obtain ⟨P', f1, f2, f3⟩ := hs P h3 h4
  refine ⟨r + 1, P', by omega, fun m => ?_, f2, h4.tr f3⟩
  rw [show m + (r + 1) = (m + 1) + r by omega, h2 (m + 1), rsL_go (by rw [h4.1]; exact hw) f1, h4.1, hn]
def rhoB (c : Nat × BM) : BM := kuTE (kuKn (kuBl c.2 c.1) 0) (fun _ => false)
theorem ps_blob {σ x x' : BJ} {τ y y' : BM} {S0 : BJ} {en i lf lf' : Nat} (R : Rel σ τ) (hi : i < jgBc σ) (hA : AB σ τ i x lf y) (hA' : AB σ τ (i + 1) x' lf' y') (hX : AX σ i x lf y x' lf' y') (hen : en ≤ 700) (hV : ∀ q, q < jgWc x' → jgW S0 q = jgW x' q) (hle : jgWc x' ≤ en) (h : PS en S0 (jgWc x) (rhoB (lf, y))) : PS en S0 (jgWc x') (rhoB (lf', y')) := by
  rcases hX with ⟨-, rfl, rfl, rfl⟩ | ⟨ht, rfl, hWc, hcp, hDG, hLN, hBY⟩
  · exact h
  · obtain ⟨-, -, ⟨c1, -⟩, d1, -, d3, -⟩ := hA
    have hTG : kgTG y' = kgTG y := by rw [hA'.2.2.1.1.2.1, c1.2.1]
    obtain ⟨st, n, e1, e2, e3, e4, e5, e6, e7, e8, e9, e10, -⟩ := blob_at R hi
    obtain ⟨-, h20, -, -, ⟨-, -, h7⟩, -⟩ := R.1
    rw [e2] at hWc hcp hBY
    rw [e1] at hcp hBY
    rw [e4] at hLN
    obtain ⟨p, ep⟩ : ∃ p, p = jgWc x := ⟨_, rfl⟩
    rw [← ep] at hWc hcp h
    have hVq : ∀ q, q < 4 + n → jgW S0 (p + q) = jgW σ (st - 3 + q) := fun q hq => by rw [hV _ (by omega)]; exact hcp q hq
    have hkind : jgW S0 p = nI 1 := by
      have := hVq 0 (by omega)
      rw [Nat.add_zero, Nat.add_zero] at this
      rw [this]; exact e7
    have hlen : lenAt (jgW S0) p = n := by rw [← e8]; exact lenAt_congr (hVq 1 (by omega)) (hVq 2 (by omega))
    have hsum : jgW S0 (p + 3 + n) = sm (jgW S0) p (3 + n) := by
      rw [Nat.add_assoc, hVq (3 + n) (by omega), ← Nat.add_assoc, e9]
      exact sm_congr (fun j hj => (hVq j (by omega)).symm)
    have hdg : dg (jgW S0) (p + 3) n = jgBD σ i := by
      rw [e10]
      refine dg_congr (fun j hj => ?_)
      rw [Nat.add_assoc, hVq (3 + j) (by omega)]
      congr 1
      omega
    rw [hWc]
    refine h.step (isWh_iff.mpr ⟨by omega, by rw [hlen]; omega, by rw [hlen]; exact hsum⟩) hlen (fun P hC hk => ?_)
    have hW : jgW P = jgW S0 := hk.1
    have hBc : jgBc P = lf := hC.2.1.1.symm
    have hold : ∀ r, r < jgBc P → jgBD P r ≠ dg (jgW P) (p + 3) n := fun r hr q => by
      rw [hBc] at hr
      obtain ⟨j, j1, -, j3⟩ := d3 r hr
      have c1 : kgDG y r = jgBD P r := (hC.2.2.2.2.2.1 r (by rw [hBc]; exact hr)).1
      rw [hW, hdg, ← c1, j3] at q
      have := h7 j i (by omega) hi q
      omega
    have hf : follow P p = some (newB P (p + 3) n) := by
      rw [follow, if_pos (by rw [hW]; exact hkind), hW, hlen, fBlob_new (fnd_none.mpr hold) (by rw [hBc]; have := h20.2; omega)]
      rfl
    refine ⟨_, hf, ?_, ⟨rfl, rfl, rfl, rfl, rfl, rfl⟩⟩
    refine core_blob hC (by rw [hBc]; have := h20.2; omega) (by omega) (by rw [hW]; exact hkind) (by rw [hW]; exact hlen) (by rw [hW]; exact hsum) hold ?_ ?_ ?_ (fun t _ => ⟨rfl, by show kgTG y' t = kgTG y t; rw [hTG]⟩) rfl (fun i hi => absurd hi (Nat.not_lt_zero _))
    · show lf + 1 = _
      rw [hBc]
    · rw [hBc]
      intro r hr
      show kgDG y' r = kgDG y r ∧ kgLN y' r = kgLN y r ∧ ∀ k, k < 700 → kgBY y' (700 * r + k) = kgBY y (700 * r + k)
      rw [hDG, hLN, hBY, updL_eq, upd_eq, if_neg (by omega), if_neg (by omega)]
      exact ⟨rfl, rfl, fun k hk => putL_out (Or.inl (by omega))⟩
    · rw [hBc]
      show kgDG y' lf = _ ∧ kgLN y' lf = _ ∧ ∀ k, k < n → kgBY y' (700 * lf + k) = _
      rw [hDG, hLN, hBY, updL_eq, upd_eq, if_pos rfl, if_pos rfl, hW, hdg]
      refine ⟨rfl, rfl, fun k hk => ?_⟩
      rw [putL_in hk, Nat.add_assoc, hVq (3 + k) (by omega)]
      congr 1
      omega
theorem rec_in {x x' S0 : BJ} {κ n : Nat} {body : List Int32} (hn : n ≤ 700) (hκ : κ < 256) (hlen : body.length = n) (hx : x' = wR x (hd (nI κ) n ++ body)) (hV : ∀ q, q < jgWc x' → jgW S0 q = jgW x' q) :
    jgWc x' = jgWc x + (4 + n) ∧ jgW S0 (jgWc x) = nI κ ∧ lenAt (jgW S0) (jgWc x) = n ∧ jgW S0 (jgWc x + 3 + n) = sm (jgW S0) (jgWc x) (3 + n) ∧ ∀ j, j < n → jgW S0 (jgWc x + 3 + j) = body.getD j 0 := by
  have hbs : (hd (nI κ) n ++ body).length = 3 + n := by rw [List.length_append, hlen]; rfl
  have hhd : hd (nI κ) n = [nI κ, nI (n % 256), nI (n / 256)] := hd_eq (by omega)
  have hWc : jgWc x' = jgWc x + (4 + n) := by rw [hx, wR_Wc, hbs]; omega
  have hget : ∀ q, q < 3 + n → jgW S0 (jgWc x + q) = (hd (nI κ) n ++ body).getD q 0 := fun q hq => by
    rw [hV _ (by omega), hx]
    exact wR_mid (by rw [hbs]; exact hq)
  have h0 : jgW S0 (jgWc x) = nI κ := by
    have := hget 0 (by omega)
    rw [hhd] at this
    exact this
  have h1 : jgW S0 (jgWc x + 1) = nI (n % 256) := by
    have := hget 1 (by omega)
    rw [hhd] at this
    exact this
  have h2 : jgW S0 (jgWc x + 2) = nI (n / 256) := by
    have := hget 2 (by omega)
    rw [hhd] at this
    exact this
  refine ⟨hWc, h0, ?_, ?_, fun j hj => ?_⟩
  · have m1 : n % 256 < 256 := Nat.mod_lt _ (by decide)
    rw [lenAt, nb_of h1 (by omega), nb_of h2 (by omega)]
    omega
  · have := wR_end x (hd (nI κ) n ++ body)
    rw [← hx, hbs] at this
    rw [Nat.add_assoc, hV _ (by omega), this]
    exact sm_congr (fun j hj => (hV _ (by omega)).symm)
  · rw [Nat.add_assoc, hget (3 + j) (by omega), hdb_get]
def rhoT (t : Nat) (u : BM) : BM := kuTE (kuKn u 0) (fun s => decide (s < t) && kgTE u s)
theorem ps_tag {σ x x' : BJ} {τ u0 u u' : BM} {S0 : BJ} {en t lf : Nat} (R : Rel σ τ) (ht : t < 8) (hD4 : ∀ j, j < jgBc σ → isTold σ j = true → ∃ r, r < lf ∧ kgDG u0 r = jgBD σ j) (hA : AT σ τ u0 lf t x u) (hA' : AT σ τ u0 lf (t + 1) x' u') (hX : TX σ τ t x x' u u') (hen : en ≤ 700) (hV : ∀ q, q < jgWc x' → jgW S0 q = jgW x' q) (hle : jgWc x' ≤ en) (h : PS en S0 (jgWc x) (rhoT t u)) : PS en S0 (jgWc x') (rhoT (t + 1) u') := by
  obtain ⟨-, -, ⟨c1, c2, c3, c4, c5⟩, d1, d2, d3⟩ := hA
  obtain ⟨-, -, ⟨c1', c2', c3', c4', c5'⟩, d1', d2', d3'⟩ := hA'
  rcases hX with ⟨q1, rfl, rfl⟩ | ⟨q1, b, q2, q3, q4, hx⟩
  · refine h.view (fun P hC => hC.viewB rfl rfl rfl rfl rfl (fun s _ => ?_) rfl rfl rfl)
    show (decide (s < t + 1) && kgTE u' s) = (decide (s < t) && kgTE u' s)
    by_cases e : s = t
    · rw [e, c1.1, q1, Bool.and_false, Bool.and_false]
    · by_cases e2 : s < t
      · rw [decide_eq_true e2, decide_eq_true (show s < t + 1 by omega)]
      · rw [decide_eq_false e2, decide_eq_false (show ¬ s < t + 1 by omega)]
  · have hB20 := R.1.2.1.2
    have htold : isTold σ b = true := by
      rw [isTold, anyB_hit (i := t) ht (decide_eq_true q3), Bool.true_or]
    obtain ⟨r, r1, r2⟩ := hD4 b q2 htold
    obtain ⟨d, ed⟩ : ∃ d, d = jgBD σ b := ⟨_, rfl⟩
    rw [← ed] at hx r2 q4
    rw [show rTell t d = hd (nI 2) 9 ++ ([nI t] ++ l8 d) by rw [rTell, List.append_assoc]] at hx
    have hlen : ([nI t] ++ l8 d).length = 9 := by rw [List.length_append, l8_len]; rfl
    obtain ⟨w1, w2, w3, w4, w5⟩ := rec_in (S0 := S0) (by omega) (by omega) hlen hx hV
    obtain ⟨p, ep⟩ : ∃ p, p = jgWc x := ⟨_, rfl⟩
    rw [← ep] at w1 w2 w3 w4 w5 h
    rw [w1]
    refine h.step (isWh_iff.mpr ⟨by omega, by rw [w3]; omega, by rw [w3]; exact w4⟩) w3 (fun P hC hk => ?_)
    have hW : jgW P = jgW S0 := hk.1
    have hBc : jgBc P = lf := by rw [← hC.2.1.1]; exact c5
    have hnb : nb (jgW P) (p + 3) = t := by
      rw [hW]
      exact nb_of (w5 0 (by omega)) (by omega)
    have hlo : longAt (jgW P) (p + 3 + 1) = d := by
      rw [hW]
      refine longAt_l8 (fun i hi => ?_)
      rw [Nat.add_assoc (p + 3) 1 i, w5 (1 + i) (by omega), Nat.add_comm 1 i]
      show (l8 d).getD i 0 = _
      exact l8_get d hi
    have hP : ∀ s, s < lf → jgBD P s = kgDG u s := fun s hs => ((hC.2.2.2.2.2.1 s (by rw [hBc]; exact hs)).1).symm
    cases hf : fnd (jgBD P) d (jgBc P) with
    | none => exact absurd (by rw [hP r r1, d1]; exact r2) (fnd_none.mp hf r (by rw [hBc]; exact r1))
    | some b' =>
      obtain ⟨f1, f2⟩ := fnd_lt hf
      refine ⟨juTB P (upd (jgTB P) t (nI b')), ?_, ?_, ⟨rfl, rfl, rfl, rfl, rfl, rfl⟩⟩
      · rw [follow, if_neg (by rw [hW, w2]; decide), if_pos (by rw [hW, w2]; rfl), if_pos (by rw [hW]; exact w3), hnb, hlo, fTell_some hf ht]
      · refine core_tell hC ht f1 f2 (by omega) (by omega) ?_ ?_ ?_ ?_ (fun s _ => ?_) (fun s _ => ?_) rfl ?_ ?_
        · show kgBl u' = kgBl u
          rw [c5', c5]
        · show kgDG u' = kgDG u
          rw [d1', d1]
        · show kgLN u' = kgLN u
          rw [d2', d2]
        · show kgBY u' = kgBY u
          rw [d3', d3]
        · rw [updB_eq]
          show (decide (s < t + 1) && kgTE u' s) = if s = t then true else (decide (s < t) && kgTE u s)
          by_cases e : s = t
          · rw [if_pos e, e, c1'.1, q1, decide_eq_true (show t < t + 1 by omega)]; rfl
          · rw [if_neg e, c1'.1, c1.1]
            by_cases e2 : s < t
            · rw [decide_eq_true e2, decide_eq_true (show s < t + 1 by omega)]
            · rw [decide_eq_false e2, decide_eq_false (show ¬ s < t + 1 by omega)]
        · rw [updL_eq]
          show kgTG u' s = if s = t then d else kgTG u s
          rw [c1'.2.1, c1.2.1]
          by_cases e : s = t
          · rw [if_pos e, e, q4]
          · rw [if_neg e]
        · show kgKS u' = kgKS u
          rw [c2', c2]
        · show kgTO u' = kgTO u
          rw [c3', c3]
theorem ps_key {σ x x' : BJ} {τ u0 u u' : BM} {S0 : BJ} {en k lf left left' : Nat} (R : Rel σ τ) (hkc : k < jgKc σ) (hA : AK σ τ u0 lf k x left u) (hA' : AK σ τ u0 lf (k + 1) x' left' u') (hX : KX σ k x left u x' left' u') (hen : en ≤ 700) (hV : ∀ q, q < jgWc x' → jgW S0 q = jgW x' q) (hle : jgWc x' ≤ en) (h : PS en S0 (jgWc x) (kuKn u left)) : PS en S0 (jgWc x') (kuKn u' left') := by
  obtain ⟨-, -, ⟨c1, c2, c3⟩, ⟨d1, d2, d3⟩, f1, f2, f3⟩ := hA
  obtain ⟨-, -, ⟨c1', c2', c3'⟩, ⟨d1', d2', d3'⟩, -⟩ := hA'
  rcases hX with ⟨rfl, rfl, rfl⟩ | ⟨rfl, hx, hKS, hTO⟩
  · exact h
  · obtain ⟨-, -, h3, -, -, -, -, h10, h11⟩ := R.1
    obtain ⟨d, ed⟩ : ∃ d, d = jgKD σ k := ⟨_, rfl⟩
    obtain ⟨key, ekey⟩ : ∃ z, z = jgKS σ k := ⟨_, rfl⟩
    rw [← ed, ← ekey] at hx
    rw [← ekey] at hKS
    rw [← ed] at hTO
    have hlen : (l8 key ++ l8 d).length = 16 := by rw [List.length_append, l8_len, l8_len]
    obtain ⟨w1, w2, w3, w4, w5⟩ := rec_in (S0 := S0) (κ := 4) (n := 16) (body := l8 key ++ l8 d) (by omega) (by omega) hlen hx hV
    obtain ⟨p, ep⟩ : ∃ p, p = jgWc x := ⟨_, rfl⟩
    rw [← ep] at w1 w2 w3 w4 w5 h
    rw [w1]
    refine h.step (isWh_iff.mpr ⟨by omega, by rw [w3]; omega, by rw [w3]; exact w4⟩) w3 (fun P hC hk => ?_)
    have hW : jgW P = jgW S0 := hk.1
    have hKc : jgKc P = left := hC.2.2.1.1.symm
    have hk1 : longAt (jgW P) (p + 3) = key := by
      rw [hW]
      refine longAt_l8 (fun i hi => ?_)
      rw [w5 i (by omega), List.getD_eq_getElem?_getD, List.getElem?_append_left (by rw [l8_len]; exact hi), ← List.getD_eq_getElem?_getD, l8_get key hi]
    have hd1 : longAt (jgW P) (p + 3 + 8) = d := by
      rw [hW]
      refine longAt_l8 (fun i hi => ?_)
      rw [Nat.add_assoc (p + 3) 8 i, w5 (8 + i) (by omega), List.getD_eq_getElem?_getD, List.getElem?_append_right (by rw [l8_len]; omega), l8_len, show 8 + i - 8 = i by omega, ← List.getD_eq_getElem?_getD, l8_get d hi]
    have hold : ∀ r, r < jgKc P → jgKS P r ≠ key := fun r hr q => by
      have hr' : r < left := by rw [← hKc]; exact hr
      obtain ⟨j, j1, j2⟩ := f3 r hr'
      have q1 : kgKS u r = jgKS P r := (hC.2.2.2.2.2.2.2.1 r hr).1
      have q2 : kgKS τ j = jgKS σ j := (h10 j (by omega)).1
      have := h11 j k (by omega) hkc (by rw [← q2, ← j2, q1, q, ekey])
      omega
    refine ⟨newK P key d, ?_, ?_, ⟨rfl, rfl, rfl, rfl, rfl, rfl⟩⟩
    · rw [follow, if_neg (by rw [hW, w2]; decide), if_neg (by rw [hW, w2]; decide), if_neg (by rw [hW, w2]; decide), if_pos (by rw [hW, w2]; rfl), if_pos (by rw [hW]; exact w3), hk1, hd1, fKey_new (fnd_none.mpr hold) (by rw [hKc]; have := h3.2; omega)]
      rfl
    · refine core_keyN hC (by rw [hKc]; have := h3.2; omega) hold (by omega) (by omega) ?_ ?_ ?_ ?_ ?_ ?_ ?_ (fun i _ => ?_) (fun i _ => ?_)
      · show kgBl u' = kgBl u
        rw [c3', c3]
      · show kgDG u' = kgDG u
        rw [d1', d1]
      · show kgLN u' = kgLN u
        rw [d2', d2]
      · show kgBY u' = kgBY u
        rw [d3', d3]
      · show kgTE u' = kgTE u
        rw [c1'.1, c1.1]
      · show kgTG u' = kgTG u
        rw [c1'.2.1, c1.2.1]
      · show left + 1 = jgKc P + 1
        rw [hKc]
      · show kgKS u' i = vp_updL (kgKS u) (jgKc P) key i
        rw [hKS, hKc]
      · show kgTO u' i = vp_updL (kgTO u) (jgKc P) d i
        rw [hTO, hKc]
