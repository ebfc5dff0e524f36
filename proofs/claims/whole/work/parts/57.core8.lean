/-! collecting: the whole of it -/
theorem sumN_le (f : Nat → Nat) (i : Nat) : ∀ j, i ≤ j → sumN f i ≤ sumN f j
  | 0, h => by rw [show i = 0 by omega]; exact Nat.le_refl _
  | j + 1, h => by
    by_cases e : i = j + 1
    · rw [e]; exact Nat.le_refl _
    · exact Nat.le_trans (sumN_le f i j (by omega)) (Nat.le_add_right _ _)
theorem at_all {σ : BJ} {τ : BM} (R : Rel σ τ) (t : Nat) (ht : t ≤ 8) : AT σ τ (cm1 τ) (cbL (cm0 τ) (kgBl τ)).1 t (rtL (co1 σ) t) (ctL (cm1 τ) t) := by
  induction t with
  | zero =>
    have hA := ab_all R (jgBc σ) (Nat.le_refl _)
    have hBl := R.1.2.1.1
    obtain ⟨⟨a1, a2, a3, a4⟩, ⟨b1, b2, b3, b4⟩, ⟨c1, c2, c3, c4, c5⟩, -⟩ := hA
    rw [← hBl] at b1 b2 b3 b4 c1 c2 c3 c4
    show AT σ τ (cm1 τ) (cbL (cm0 τ) (kgBl τ)).1 0 (co1 σ) (cm1 τ)
    have e1 : co1 σ = rbL (juWc σ 0) (jgBc σ) := rfl
    refine ⟨⟨a1, a2, a4⟩, ⟨?_, ?_, b3, b4⟩, ⟨c1, c2, c3, c4, rfl⟩, rfl, rfl, rfl⟩
    · rw [e1, ← hBl]; exact b1
    · rw [e1, ← hBl]; exact b2
  | succ t ih => exact (at_step R (by omega) (ih (by omega))).1
theorem D34 {σ : BJ} {τ : BM} (R : Rel σ τ) : (∀ r, r < (cbL (cm0 τ) (kgBl τ)).1 → ∃ j, j < jgBc σ ∧ isTold σ j = true ∧ kgDG (cm1 τ) r = jgBD σ j) ∧ ∀ j, j < jgBc σ → isTold σ j = true → ∃ r, r < (cbL (cm0 τ) (kgBl τ)).1 ∧ kgDG (cm1 τ) r = jgBD σ j := by
  have hA := ab_all R (jgBc σ) (Nat.le_refl _)
  have hBl := R.1.2.1.1
  obtain ⟨-, -, -, -, -, d3, d4⟩ := hA
  rw [← hBl] at d3 d4
  exact ⟨fun r hr => by obtain ⟨j, q⟩ := d3 r hr; exact ⟨j, by rw [← hBl]; exact q.1, q.2⟩, fun j hj => d4 j (by rw [hBl]; exact hj)⟩
theorem ak_all {σ : BJ} {τ : BM} (R : Rel σ τ) (k : Nat) (hk : k ≤ jgKc σ) : AK σ τ (cm1 τ) (cbL (cm0 τ) (kgBl τ)).1 k (rkL (co2 σ) k) (ckL (cm2 τ) k).1 (ckL (cm2 τ) k).2 := by
  induction k with
  | zero =>
    obtain ⟨⟨a1, a2, a3⟩, ⟨b1, b2, b3, b4⟩, ⟨c1, c2, c3, c4, c5⟩, d1, d2, d3⟩ := at_all R 8 (Nat.le_refl _)
    exact ⟨⟨a1, a2, a3⟩, ⟨b1, b2, b3, b4⟩, ⟨c1, c4, c5⟩, ⟨d1, d2, d3⟩, Nat.le_refl _, fun j _ => ⟨by show kgKS (ctL (cm1 τ) 8) j = _; rw [c2], by show kgTO (ctL (cm1 τ) 8) j = _; rw [c3]⟩, fun r hr => absurd hr (Nat.not_lt_zero _)⟩
  | succ k ih => exact (ak_step R (by omega) (D34 R).1 (D34 R).2 (ih (by omega))).1
theorem ext3b (σ : BJ) {i : Nat} (hi : i ≤ jgBc σ) : Ext (rbL (juWc σ 0) i) (co3 σ) :=
  ((ext_it (f := rbL (juWc σ 0)) (fun i => ext_rb _ i) i (jgBc σ) hi).tr (ext_it (f := rtL (co1 σ)) (fun t => ext_rt _ t) 0 8 (by omega))).tr (ext_it (f := rkL (co2 σ)) (fun k => ext_rk _ k) 0 (jgKc σ) (by omega))
theorem ext3t (σ : BJ) {t : Nat} (ht : t ≤ 8) : Ext (rtL (co1 σ) t) (co3 σ) :=
  (ext_it (f := rtL (co1 σ)) (fun t => ext_rt _ t) t 8 ht).tr (ext_it (f := rkL (co2 σ)) (fun k => ext_rk _ k) 0 (jgKc σ) (by omega))
theorem ext3k (σ : BJ) {k : Nat} (hk : k ≤ jgKc σ) : Ext (rkL (co2 σ) k) (co3 σ) := ext_it (f := rkL (co2 σ)) (fun k => ext_rk _ k) k (jgKc σ) hk
theorem bud_le {σ : BJ} {τ : BM} (R : Rel σ τ) : sumN (wB4 σ) (jgBc σ) + sumN (wT σ) 8 + 20 * jgKc σ ≤ 700 := Nat.le_trans R.1.2.2.2.1 R.1.1
theorem co3_en {σ : BJ} {τ : BM} (R : Rel σ τ) : jgWc (co3 σ) ≤ 700 := Nat.le_trans (ak_all R (jgKc σ) (Nat.le_refl _)).1.2.2 (bud_le R)
theorem ps_blobs {σ : BJ} {τ : BM} (R : Rel σ τ) (i : Nat) (hi : i ≤ jgBc σ) : PS (jgWc (co3 σ)) (rs0 (co3 σ)) (jgWc (rbL (juWc σ 0) i)) (rhoB ((cbL (cm0 τ) i).1, (cbL (cm0 τ) i).2)) := by
  induction i with
  | zero => exact ⟨0, rs0 (co3 σ), Nat.zero_le _, fun n => rfl, core_0 rfl rfl rfl rfl (fun t ht => flI_at ht) (fun t _ => rfl), keepC.rf _⟩
  | succ i ih =>
    have hx := ext3b σ hi
    exact ps_blob R (by omega) (ab_all R i (by omega)) (ab_all R (i + 1) hi) (ab_step R hi (ab_all R i (by omega))).2 (co3_en R) hx.2 hx.1 (ih (by omega))
theorem ps_tags {σ : BJ} {τ : BM} (R : Rel σ τ) (t : Nat) (ht : t ≤ 8) : PS (jgWc (co3 σ)) (rs0 (co3 σ)) (jgWc (rtL (co1 σ) t)) (rhoT t (ctL (cm1 τ) t)) := by
  induction t with
  | zero =>
    have h := ps_blobs R (jgBc σ) (Nat.le_refl _)
    rw [← R.1.2.1.1] at h
    have e : jgWc (rtL (co1 σ) 0) = jgWc (rbL (juWc σ 0) (kgBl τ)) := by rw [R.1.2.1.1]; rfl
    rw [e]
    refine h.view (fun P hC => hC.viewB rfl rfl rfl rfl rfl (fun s _ => ?_) rfl rfl rfl)
    show (decide (s < 0) && kgTE (cm1 τ) s) = false
    rw [decide_eq_false (Nat.not_lt_zero s)]
    rfl
  | succ t ih =>
    have hx := ext3t σ ht
    exact ps_tag R (by omega) (D34 R).2 (at_all R t (by omega)) (at_all R (t + 1) ht) (at_step R (by omega) (at_all R t (by omega))).2 (co3_en R) hx.2 hx.1 (ih (by omega))
theorem ps_keys {σ : BJ} {τ : BM} (R : Rel σ τ) (k : Nat) (hk : k ≤ jgKc σ) : PS (jgWc (co3 σ)) (rs0 (co3 σ)) (jgWc (rkL (co2 σ) k)) (kuKn (ckL (cm2 τ) k).2 (ckL (cm2 τ) k).1) := by
  induction k with
  | zero =>
    have h := ps_tags R 8 (Nat.le_refl _)
    refine h.view (fun P hC => hC.viewB rfl rfl rfl rfl rfl (fun s hs => ?_) rfl rfl rfl)
    show kgTE (ctL (cm1 τ) 8) s = (decide (s < 8) && kgTE (ctL (cm1 τ) 8) s)
    rw [decide_eq_true hs]
    rfl
  | succ k ih =>
    have hx := ext3k σ hk
    exact ps_key R (by omega) (ak_all R k (by omega)) (ak_all R (k + 1) hk) (ak_step R (by omega) (D34 R).1 (D34 R).2 (ak_all R k (by omega))).2 (co3_en R) hx.2 hx.1 (ih (by omega))
theorem R_collect {σ : BJ} {τ : BM} (R : Rel σ τ) : jgBc (restore (co3 σ)) = (cbL (cm0 τ) (kgBl τ)).1 ∧ Rel (restore (co3 σ)) (cmM τ) := by
  have hkn : kgKn τ = jgKc σ := R.1.2.2.1.1
  have hPS := ps_keys R (jgKc σ) (Nat.le_refl _)
  obtain ⟨⟨a1, a2, a3⟩, ⟨b1, b2, b3, b4⟩, ⟨c1, c2, c3⟩, ⟨d1, d2, d3⟩, f1, f2, f3⟩ := ak_all R (jgKc σ) (Nat.le_refl _)
  have ec : co3 σ = rkL (co2 σ) (jgKc σ) := rfl
  rw [← ec] at hPS a1 a2 a3 b1 b2
  have em : cm3 τ = kuKn (ckL (cm2 τ) (jgKc σ)).2 (ckL (cm2 τ) (jgKc σ)).1 := by rw [cm3, hkn]
  rw [← em] at hPS
  have m1 : kgSz (cm3 τ) = jgWc (co3 σ) := by rw [em]; exact b1
  have m2 : ∀ q, q < jgWc (co3 σ) → kgJR (cm3 τ) q = jgW (co3 σ) q := by rw [em]; exact b2
  have m3 : byt (kgJR (cm3 τ)) 700 := by rw [em]; exact b3
  have m4 : byt (kgRC (cm3 τ)) 700 := by rw [em]; exact b4
  have m5 : kgT (cm3 τ) = kgT τ := by rw [em]; exact c1.2.2.2.1
  have m6 : kgMy (cm3 τ) = kgMy τ := by rw [em]; exact c1.2.2.2.2.1
  have m7 : kgPN (cm3 τ) = kgPN τ := by rw [em]; exact c1.2.2.1
  have m8 : kgBl (cm3 τ) = (cbL (cm0 τ) (kgBl τ)).1 := by rw [em]; exact c3
  obtain ⟨r, P, h1, h2, h3, h4⟩ := hPS
  have hen := co3_en R
  obtain ⟨en, een⟩ : ∃ en, en = jgWc (co3 σ) := ⟨_, rfl⟩
  rw [← een] at h1 h2 h3 hen m1 m2
  have hend : rsL en 175 0 (rs0 (co3 σ)) = (en, P) := by
    have := h2 (175 - r)
    rw [show 175 - r + r = 175 by omega] at this
    rw [this]
    refine rsL_no ?_
    cases hw : isWh (jgW P) en en with
    | false => rfl
    | true => have := (isWh_of hw).1; omega
  have hres : restore (co3 σ) = juSc (juWc P en) en := by rw [restore, ← een, hend]
  obtain ⟨k1, k2, k3, k4, k5, k6⟩ := h4
  have k1 : jgW P = jgW (co3 σ) := k1
  have k4 : jgT P = jgT σ := k4.trans a1.2.2.1
  have k5 : jgTc P = jgTc σ := k5.trans a1.2.2.2.1
  have k6 : jgPD P = jgPD σ := k6.trans a1.2.2.2.2
  obtain ⟨r1, r2, r3, r4, r5, r6, r7, r8, r9, r10, r11⟩ := R
  rw [hres]
  refine ⟨?_, h3.view ⟨rfl, rfl, rfl, rfl, rfl, rfl, rfl, rfl⟩ ⟨rfl, rfl, rfl, rfl, rfl, rfl, rfl, rfl, rfl⟩ (fun _ _ => rfl), ?_, m3, m4, m1, ?_, ⟨m1, Nat.le_refl _⟩, ?_, ?_, ?_, ?_⟩
  · show jgBc P = _
    rw [← h3.2.1.1, m8]
  · show byt (jgW P) 700
    rw [k1]; exact a2
  · intro i hi
    show kgJR (cm3 τ) i = jgW P i
    rw [k1]
    exact m2 i hi
  · show kgMy (cm3 τ) = jgTc P ∧ jgTc P ≤ 64
    rw [m6, k5]; exact r8
  · intro i hi
    have hi : i < jgTc P := hi
    rw [k5] at hi
    show kgT (cm3 τ) i = jgT P i
    rw [m5, k4]; exact r9 i hi
  · show byt (jgT P) 64
    rw [k4]; exact r10
  · intro k hk
    show kgPN (cm3 τ) k = jgPD P k
    rw [m7, k6]; exact r11 k hk
theorem ok_class {σ : BJ} {τ : BM} (R : Rel σ τ) : (∀ i, i < jgBc σ → rbOk (juWc σ 0) i) ∧ (∀ t, t < 8 → rtOk (co1 σ) t) ∧ (∀ i, i < jgKc σ → rkOk (co2 σ) i) ∧ byt (jgW (co3 σ)) 700 := by
  have hb := bud_le R
  refine ⟨fun i hi => ?_, fun t ht => ?_, fun i hi b h1 h2 => ?_, (ak_all R (jgKc σ) (Nat.le_refl _)).1.2.1⟩
  · obtain ⟨st, n, e1, e2, e3, e4, e5, e6, -⟩ := blob_at R hi
    have hst := starts R.1.2.2.2.2.1 i hi
    obtain ⟨⟨-, -, -, a4⟩, -⟩ := ab_all R i (by omega)
    have f1 : nb (jgBS (juWc σ 0)) i = st := e1
    have f2 : nb (jgBL (juWc σ 0)) i = n := e2
    unfold rbOk
    rw [f1, f2]
    exact ⟨e3, e5, e4, e6, by omega⟩
  · obtain ⟨⟨a1, -, a3⟩, -⟩ := at_all R t (by omega)
    obtain ⟨⟨a1', -⟩, -⟩ := at_all R 0 (by omega)
    have hTB : jgTB (co1 σ) = jgTB σ := a1'.1.2.2.2.2.2.1
    unfold rtOk
    rw [hTB]
    rcases R.1.2.2.2.2.2.2.1 t ht with ⟨q1, q2⟩ | ⟨q1, b, q2, q3, q4⟩
    · exact Or.inl q2
    · have hB20 := R.1.2.1.2
      have hn : nb (jgTB σ) t = b := nb_of q3 (by omega)
      have hw : wT σ t = 13 := by rw [wT, if_neg (by rw [q3]; exact optI_none (by omega))]
      have hs := sumN_le (wT σ) (t + 1) 8 (by omega)
      have hs : sumN (wT σ) t + wT σ t ≤ sumN (wT σ) 8 := hs
      exact Or.inr ⟨by rw [hn]; exact q3, by omega, by omega⟩
  · obtain ⟨⟨a1, -, a3⟩, -⟩ := ak_all R i (by omega)
    omega
theorem ok_ref {σ : BJ} {τ : BM} (R : Rel σ τ) : (∀ b, b < kgBl τ → cbOk (cm0 τ) b) ∧ (∀ t, t < 8 → ctOk (cm1 τ) t) ∧ (∀ k, k < kgKn τ → ckOk (cm2 τ) k) ∧ kgKn (cm1 τ) = kgKn τ := by
  have hb := bud_le R
  have hBl : kgBl τ = jgBc σ := R.1.2.1.1
  have hKn : kgKn τ = jgKc σ := R.1.2.2.1.1
  refine ⟨fun i hi => ?_, fun t ht hE => ?_, fun k hk i h => ?_, (at_all R 0 (by omega)).2.2.1.2.2.2.1⟩
  · rw [hBl] at hi
    obtain ⟨st, n, e1, e2, e3, e4, e5, e6, e7, e8, e9, e10, e11, e12, e13⟩ := blob_at R hi
    have hst := starts R.1.2.2.2.2.1 i hi
    obtain ⟨⟨-, -, -, a4⟩, ⟨b1, -⟩, -, -, d2, -⟩ := ab_all R i (by omega)
    obtain ⟨-, f2, -⟩ := d2 i (Nat.le_refl _) hi
    have hn : nb (kgLN (cbL (cm0 τ) i).2) i = n := nb_of (f2.trans e12) (by omega)
    unfold cbOk
    rw [hn, b1]
    exact ⟨f2.trans e12, fun _ => by omega⟩
  · obtain ⟨⟨a1, -, a3⟩, ⟨b1, -⟩, ⟨c1, -⟩, -⟩ := at_all R t (by omega)
    rw [c1.1] at hE
    rcases R.1.2.2.2.2.2.2.1 t ht with ⟨q1, q2⟩ | ⟨q1, b, q2, q3, q4⟩
    · rw [q1] at hE; cases hE
    · have hB20 := R.1.2.1.2
      have hw : wT σ t = 13 := by rw [wT, if_neg (by rw [q3]; exact optI_none (by omega))]
      have hs := sumN_le (wT σ) (t + 1) 8 (by omega)
      have hs : sumN (wT σ) t + wT σ t ≤ sumN (wT σ) 8 := hs
      rw [b1]
      omega
  · rw [hKn] at hk
    obtain ⟨⟨a1, -, a3⟩, ⟨b1, -⟩, -⟩ := ak_all R k (by omega)
    rw [b1]
    omega
