/-! each call of the law: what the class does and what the reference does, and that the relation stays -/
theorem Rel.w7 {σ : BJ} {τ : BM} (R : Rel σ τ) : jgWc σ ≤ 700 := R.1.1
theorem Rel.sz {σ : BJ} {τ : BM} (R : Rel σ τ) : kgSz τ = jgWc σ := R.2.2.2.2.1
theorem Rel.bl {σ : BJ} {τ : BM} (R : Rel σ τ) : kgBl τ = jgBc σ ∧ jgBc σ ≤ 20 := R.1.2.1
theorem Rel.kn {σ : BJ} {τ : BM} (R : Rel σ τ) : kgKn τ = jgKc σ ∧ jgKc σ ≤ 16 := R.1.2.2.1
theorem Rel.my {σ : BJ} {τ : BM} (R : Rel σ τ) : kgMy τ = jgTc σ ∧ jgTc σ ≤ 64 := R.2.2.2.2.2.2.2.1
theorem Rel.sy {σ : BJ} {τ : BM} (R : Rel σ τ) : kgSy τ = jgSc σ ∧ jgSc σ ≤ jgWc σ := R.2.2.2.2.2.2.1
theorem isTg_of {v : Int32} (h : isTg v = true) : ∃ t : Nat, t < 8 ∧ v = nI t := by
  rw [isTg, Bool.and_eq_true, decide_eq_true_eq, decide_eq_true_eq] at h
  obtain ⟨t, ht, rfl⟩ := nI_of h.1
  refine ⟨t, ?_, rfl⟩
  by_cases q : t < 8
  · exact q
  · exact absurd (nI_le (by omega : 8 ≤ t) ht) h.2
theorem pr_type {l : Launch} (hl0 : l.stackTraces = false) {σ : BJ} {τ : BM} (R : Rel σ τ) (v : Int32) : ∃ (k : Nat) (z : Option Int64) (σ' : BJ) (r : Int32) (τ' : BM), tW l yL_type wsL_type σ (fun o => [.int v, .ref o]) k z σ' ∧ wMi l yX1_type wsX1_type ({ frames := 0, cells := 0, slots := 0, locals := 0 } : Room) τ [.int v] r τ' ∧ kgTh τ' = k ∧ k ≤ 3 ∧ (k = 0 → z = some r.toInt64) ∧ Rel σ' τ' := by
  have hm := R.my
  by_cases h : jgTc σ + 4 ≤ 64
  · exact ⟨0, _, _, _, _, t_type_wi l σ _ _ v (c_type l σ v h) rfl rfl (by decide) (by decide), m_typeN l τ v (by omega), rfl, by omega, fun _ => by rw [hm.1], R_type R h v⟩
  · exact ⟨1, _, _, _, _, t_type_t1 l σ v (c_typeT l hl0 σ v (by omega) hm.2) rfl rfl (by decide) (by decide), m_typeT l τ v (by omega) (by omega), rfl, by omega, fun h => by omega, R.th 1⟩
theorem pr_cut {l : Launch} (hl0 : l.stackTraces = false) {σ : BJ} {τ : BM} (R : Rel σ τ) (v : Int32) : ∃ (k : Nat) (z : Option Int64) (σ' : BJ) (τ' : BM), tW l yL_cut wsL_cut σ (fun _ => [.int v]) k z σ' ∧ wMv l yX1_cut wsX1_cut ({ frames := 0, cells := 0, slots := 0, locals := 0 } : Room) τ [.int v] τ' ∧ kgTh τ' = k ∧ k ≤ 3 ∧ Rel σ' τ' := by
  have hm := R.my
  by_cases h : v < 0 ∨ ¬ v ≤ nI (jgTc σ)
  · exact ⟨1, _, _, _, t_cut_t1 l σ v (c_cutT l hl0 σ v h) rfl rfl (by decide) (by decide), m_cutT l τ v (by rw [hm.1]; exact h), rfl, by omega, R_cutT R 1⟩
  · obtain ⟨j, hj, rfl⟩ := nI_of (fun q => h (Or.inl q))
    have hjk : j ≤ jgTc σ := (nI_leI hj (by omega)).mp (Classical.byContradiction fun q => h (Or.inr q))
    exact ⟨0, _, _, _, t_cut_wv l σ _ (nI j) (c_cut l σ j hjk hm.2) rfl rfl (by decide) (by decide), m_cutN l τ j (by omega) (by omega), rfl, by omega, R_cut R hjk 0⟩
theorem pr_keep {l : Launch} (hl0 : l.stackTraces = false) {σ : BJ} {τ : BM} (R : Rel σ τ) : ∃ (k : Nat) (z : Option Int64) (σ' : BJ) (r : Int64) (τ' : BM), tW l yL_keep wsL_keep σ (fun o => [.ref o]) k z σ' ∧ wMl l yX1_keep wsX1_keep ({ frames := 4, cells := 0, slots := 0, locals := 95 } : Room) τ [] r τ' ∧ kgTh τ' = k ∧ k ≤ 3 ∧ (k = 0 → z = some r) ∧ Rel σ' τ' := by
  have hm := R.my
  have hb := R.bl
  have hd := R_dig R
  have hs := R.sz
  have hw := R.w7
  have hf := core_fnd R.1 (dg (jgT σ) 0 (jgTc σ))
  rw [← hd] at hf
  cases hq : fnd (jgBD σ) (dg (jgT σ) 0 (jgTc σ)) (jgBc σ) with
  | some i =>
    have hq2 : fnd (kgDG τ) (dg (kgT τ) 0 (kgMy τ)) (kgBl τ) = some i := by rw [hf, hd]; exact hq
    exact ⟨0, _, _, _, _, t_keep_rl l σ _ (c_keepO l σ i hm.2 hb.2 hq) rfl rfl (by decide) (by decide), m_keepO l τ i (by omega) (by omega) (by omega) hq2, rfl, by omega, fun _ => by rw [hd], (R.kp (kgMy τ)).th 0⟩
  | none =>
    have hq2 : fnd (kgDG τ) (dg (kgT τ) 0 (kgMy τ)) (kgBl τ) = none := by rw [hf, hd]; exact hq
    by_cases h20 : jgBc σ < 20
    · by_cases hr : jgWc σ + 4 + jgTc σ ≤ 700
      · obtain ⟨⟨h1, h2, h3, h4, h5⟩, h6, h7⟩ := R_keep R hr
        exact ⟨0, _, _, _, _, t_keep_wl l σ _ _ (c_keepN l σ hm.2 h20 hq hr h1 h2 h3 h4 h5) rfl rfl (by decide) (by decide), m_keepN l τ (by omega) (by omega) (by omega) hq2 (by omega) (by omega), h7, by omega, fun _ => by rw [hd], h6⟩
      · exact ⟨1, _, _, _, _, t_keep_t1 l σ (c_keepT2 l hl0 σ hm.2 h20 hq (by omega) hw) rfl rfl (by decide) (by decide), m_keepT l τ (by omega) (by omega) (by omega) hq2 (Or.inr (by omega)), rfl, by omega, fun h => by omega, (R.kp (kgMy τ)).th 1⟩
    · exact ⟨1, _, _, _, _, t_keep_t1 l σ (c_keepT1 l hl0 σ hm.2 (by omega) hb.2 hq) rfl rfl (by decide) (by decide), m_keepT l τ (by omega) (by omega) (by omega) hq2 (Or.inl (by omega)), rfl, by omega, fun h => by omega, (R.kp (kgMy τ)).th 1⟩
theorem Rel.tl {σ : BJ} {τ : BM} (R : Rel σ τ) (t : Nat) (d : Int64) (k : Nat) : Rel σ (kuTh (tlSt τ t d) k) := ((((R.th 0).le 0).nx (nI t).toInt64 (i := 1) (by omega)).nx d (i := 8) (by omega)).th k
theorem Rel.ut {σ : BJ} {τ : BM} (R : Rel σ τ) (t k : Nat) : Rel σ (kuTh (utSt τ t) k) := (((R.th 0).le 0).nx (nI t).toInt64 (i := 1) (by omega)).th k
theorem Rel.ln {σ : BJ} {τ : BM} (R : Rel σ τ) (a d : Int64) (k : Nat) : Rel σ (kuTh (lnSt τ a d) k) := ((((R.th 0).le 0).nx a (i := 8) (by omega)).nx d (i := 8) (by omega)).th k
theorem pr_tell {l : Launch} (hl0 : l.stackTraces = false) {σ : BJ} {τ : BM} (R : Rel σ τ) (v : Int32) (d : Int64) : ∃ (k : Nat) (z : Option Int64) (σ' : BJ) (τ' : BM), tW l yL_tell wsL_tell σ (fun _ => [.int v, .long d]) k z σ' ∧ wMv l yX1_tell wsX1_tell ({ frames := 4, cells := 0, slots := 0, locals := 95 } : Room) τ [.int v, .long d] τ' ∧ kgTh τ' = k ∧ k ≤ 3 ∧ Rel σ' τ' := by
  have hb := R.bl
  have hs := R.sz
  have hw := R.w7
  have hf := core_fnd R.1 d
  cases ht : isTg v with
  | false => exact ⟨1, _, _, _, t_tell_t1 l σ v d (c_tellT1 l hl0 σ v d ht) rfl rfl (by decide) (by decide), m_tellT1 l τ v d ht, rfl, by omega, R.th 1⟩
  | true =>
    obtain ⟨t, h8, rfl⟩ := isTg_of ht
    cases hq : fnd (jgBD σ) d (jgBc σ) with
    | none => exact ⟨2, _, _, _, t_tell_t2 l σ (nI t) d (c_tellT2 l hl0 σ t d h8 hb.2 hq) rfl rfl (by decide) (by decide), m_tellT2 l τ t d h8 (by omega) (hf.trans hq), rfl, by omega, R.th 2⟩
    | some b =>
      obtain ⟨f1, f2⟩ := fnd_lt hq
      have htag := R.1.2.2.2.2.2.2.1 t h8
      have hinj := R.1.2.2.2.2.1.2.2
      by_cases hsame : jgTB σ t = nI b
      · have h12 : kgTE τ t = true ∧ kgTG τ t = d := by
          rcases htag with ⟨q1, q2⟩ | ⟨q1, b', q2, q3, q4⟩
          · exact absurd (hsame.symm.trans q2) (optI_none (by omega))
          · have : b' = b := (nI_eq (by omega) (by omega)).mp (q3.symm.trans hsame)
            subst this
            exact ⟨q1, q4.trans f2⟩
        exact ⟨0, _, _, _, t_tell_rv l σ (nI t) d (c_tellO l σ t d b h8 hb.2 hq hsame) rfl rfl (by decide) (by decide), m_tellO l τ t d b h8 (by omega) (hf.trans hq) h12.1 h12.2, rfl, by omega, R.th 0⟩
      · have h2 : kgTE τ t = true → ¬ kgTG τ t = d := fun hE hG => by
          rcases htag with ⟨q1, q2⟩ | ⟨q1, b', q2, q3, q4⟩
          · rw [q1] at hE; cases hE
          · have := hinj b' b q2 f1 (by rw [← q4, hG, f2])
            subst this
            exact hsame q3
        by_cases hr : jgWc σ + 13 ≤ 700
        · obtain ⟨⟨h1, h2', h3, h4, h5⟩, h6, h7⟩ := R_tell R hr h8 d
          exact ⟨0, _, _, _, t_tell_wv l σ _ (nI t) d (c_tellN l σ t d b h8 hb.2 hq hsame hr h1 h2' h3 h4 h5) rfl rfl (by decide) (by decide), m_tellN l τ t d b h8 (by omega) (hf.trans hq) h2 (by omega) (by omega) R.2.2.2.1, h7, by omega, h6⟩
        · exact ⟨3, _, _, _, t_tell_t3 l σ (nI t) d (c_tellT3 l hl0 σ t d b h8 hb.2 hq hsame (by omega) hw) rfl rfl (by decide) (by decide), m_tellT3 l τ t d b h8 (by omega) (hf.trans hq) h2 (by omega) (by omega), rfl, by omega, R.tl t d 3⟩
theorem pr_untell {l : Launch} (hl0 : l.stackTraces = false) {σ : BJ} {τ : BM} (R : Rel σ τ) (v : Int32) : ∃ (k : Nat) (z : Option Int64) (σ' : BJ) (τ' : BM), tW l yL_untell wsL_untell σ (fun _ => [.int v]) k z σ' ∧ wMv l yX1_untell wsX1_untell ({ frames := 4, cells := 0, slots := 0, locals := 95 } : Room) τ [.int v] τ' ∧ kgTh τ' = k ∧ k ≤ 3 ∧ Rel σ' τ' := by
  have hb := R.bl
  have hs := R.sz
  have hw := R.w7
  cases ht : isTg v with
  | false => exact ⟨1, _, _, _, t_untell_t1 l σ v (c_untellT1 l hl0 σ v ht) rfl rfl (by decide) (by decide), m_untellT1 l τ v ht, rfl, by omega, R.th 1⟩
  | true =>
    obtain ⟨t, h8, rfl⟩ := isTg_of ht
    rcases R.1.2.2.2.2.2.2.1 t h8 with ⟨q1, q2⟩ | ⟨q1, b, q2, q3, q4⟩
    · exact ⟨2, _, _, _, t_untell_t2 l σ (nI t) (c_untellT2 l hl0 σ t h8 q2) rfl rfl (by decide) (by decide), m_untellT2 l τ t h8 q1, rfl, by omega, R.th 2⟩
    · have hne : jgTB σ t ≠ -1 := by rw [q3]; exact optI_none (by omega)
      by_cases hr : jgWc σ + 5 ≤ 700
      · obtain ⟨⟨h1, h2', h3, h4, h5⟩, h6, h7⟩ := R_untell R hr h8
        exact ⟨0, _, _, _, t_untell_wv l σ _ (nI t) (c_untellN l σ t h8 hne hr h1 h2' h3 h4 h5) rfl rfl (by decide) (by decide), m_untellN l τ t h8 (by omega) q1 (by omega) (by omega) R.2.2.2.1, h7, by omega, h6⟩
      · exact ⟨3, _, _, _, t_untell_t3 l σ (nI t) (c_untellT3 l hl0 σ t h8 hne (by omega) hw) rfl rfl (by decide) (by decide), m_untellT3 l τ t h8 (by omega) q1 (by omega) (by omega), rfl, by omega, R.ut t 3⟩
theorem pr_learn {l : Launch} (hl0 : l.stackTraces = false) {σ : BJ} {τ : BM} (R : Rel σ τ) (a d : Int64) : ∃ (k : Nat) (z : Option Int64) (σ' : BJ) (τ' : BM), tW l yL_learn wsL_learn σ (fun _ => [.long a, .long d]) k z σ' ∧ wMv l yX1_learn wsX1_learn ({ frames := 4, cells := 0, slots := 0, locals := 95 } : Room) τ [.long a, .long d] τ' ∧ kgTh τ' = k ∧ k ≤ 3 ∧ Rel σ' τ' := by
  have hk := R.kn
  have hs := R.sz
  have hw := R.w7
  have hf := core_fndK R.1 a
  cases hq : fnd (jgKS σ) a (jgKc σ) with
  | some i =>
    obtain ⟨f1, f2⟩ := fnd_lt hq
    have hTO : kgTO τ i = jgKD σ i := (R.1.2.2.2.2.2.2.2.1 i f1).2
    by_cases hsame : jgKD σ i = d
    · exact ⟨0, _, _, _, t_learn_rv l σ a d (c_learnO l σ a d i hk.2 hq hsame) rfl rfl (by decide) (by decide), m_learnO l τ a d i (by omega) (hf.trans hq) (hTO.trans hsame), rfl, by omega, R.th 0⟩
    · have h2 : ∀ j, fnd (kgKS τ) a (kgKn τ) = some j → ¬ kgTO τ j = d := fun j hj => by
        rw [hf, hq] at hj
        cases hj
        rw [hTO]; exact hsame
      by_cases hr : jgWc σ + 20 ≤ 700
      · obtain ⟨⟨h1, h2', h3, h4, h5⟩, h6, h7⟩ := R_learn R hr a d
        exact ⟨0, _, _, _, t_learn_wv l σ _ a d (c_learnM l σ a d i hk.2 hq hsame hr h1 h2' h3 h4 h5) rfl rfl (by decide) (by decide), m_learnN l τ a d (by omega) h2 (by omega) (fun q => by rw [hf, hq] at q; cases q) (by omega), h7, by omega, h6⟩
      · exact ⟨1, _, _, _, t_learn_t1 l σ a d (c_learnT3 l hl0 σ a d i hk.2 hq hsame (by omega) hw) rfl rfl (by decide) (by decide), m_learnT l τ a d (by omega) h2 (by omega) (Or.inr (by omega)), rfl, by omega, R.ln a d 1⟩
  | none =>
    have h2 : ∀ j, fnd (kgKS τ) a (kgKn τ) = some j → ¬ kgTO τ j = d := fun j hj => by rw [hf, hq] at hj; cases hj
    by_cases h16 : jgKc σ < 16
    · by_cases hr : jgWc σ + 20 ≤ 700
      · obtain ⟨⟨h1, h2', h3, h4, h5⟩, h6, h7⟩ := R_learn R hr a d
        exact ⟨0, _, _, _, t_learn_wv l σ _ a d (c_learnN l σ a d h16 hq hr h1 h2' h3 h4 h5) rfl rfl (by decide) (by decide), m_learnN l τ a d (by omega) h2 (by omega) (fun _ => by omega) (by omega), h7, by omega, h6⟩
      · exact ⟨1, _, _, _, t_learn_t1 l σ a d (c_learnT2 l hl0 σ a d h16 hq (by omega) hw) rfl rfl (by decide) (by decide), m_learnT l τ a d (by omega) h2 (by omega) (Or.inr (by omega)), rfl, by omega, R.ln a d 1⟩
    · exact ⟨1, _, _, _, t_learn_t1 l σ a d (c_learnT1 l hl0 σ a d (by omega) hq) rfl rfl (by decide) (by decide), m_learnT l τ a d (by omega) h2 (by omega) (Or.inl ⟨hf.trans hq, by omega⟩), rfl, by omega, R.ln a d 1⟩
theorem pr_pin {l : Launch} (hl0 : l.stackTraces = false) {σ : BJ} {τ : BM} (R : Rel σ τ) (v : Int32) (d : Int64) : ∃ (k : Nat) (z : Option Int64) (σ' : BJ) (τ' : BM), tW l yL_pin wsL_pin σ (fun _ => [.int v, .long d]) k z σ' ∧ wMv l yX1_pin wsX1_pin ({ frames := 0, cells := 0, slots := 0, locals := 0 } : Room) τ [.int v, .long d] τ' ∧ kgTh τ' = k ∧ k ≤ 3 ∧ Rel σ' τ' := by
  by_cases h : v < 0 ∨ ¬ v < nI 4
  · exact ⟨1, _, _, _, t_pin_t1 l σ v d (c_pinT l hl0 σ v d h) rfl rfl (by decide) (by decide), m_pinT l τ v d h, rfl, by omega, R.th 1⟩
  · obtain ⟨j, hj, rfl⟩ := nI_of (fun q => h (Or.inl q))
    have hjk : j < 4 := (nI_ltI hj (by omega)).mp (Classical.byContradiction fun q => h (Or.inr q))
    exact ⟨0, _, _, _, t_pin_wv l σ _ (nI j) d (c_pin l σ j d hjk) rfl rfl (by decide) (by decide), m_pinN l τ j d hjk, rfl, by omega, R_pin R d⟩
theorem pr_tag {l : Launch} (hl0 : l.stackTraces = false) {σ : BJ} {τ : BM} (R : Rel σ τ) (v : Int32) : ∃ (k : Nat) (z : Option Int64) (σ' : BJ) (r : Int64) (τ' : BM), tW l yL_tag wsL_tag σ (fun o => [.int v, .ref o]) k z σ' ∧ wMl l yX1_tag wsX1_tag ({ frames := 1, cells := 0, slots := 0, locals := 20 } : Room) τ [.int v] r τ' ∧ kgTh τ' = k ∧ k ≤ 3 ∧ (k = 0 → z = some r) ∧ Rel σ' τ' := by
  have hb := R.bl
  cases ht : isTg v with
  | false => exact ⟨1, _, _, _, _, t_tag_t1 l σ v (c_tagT l hl0 σ v ht) rfl rfl (by decide) (by decide), m_tagT l τ v ht, rfl, by omega, fun h => by omega, R.th 1⟩
  | true =>
    obtain ⟨t, h8, rfl⟩ := isTg_of ht
    rcases R.1.2.2.2.2.2.2.1 t h8 with ⟨q1, q2⟩ | ⟨q1, b, q2, q3, q4⟩
    · exact ⟨0, _, _, _, _, t_tag_rl l σ _ (nI t) (c_tagO l σ t h8 q2) rfl rfl (by decide) (by decide), m_tagN l τ t h8, rfl, by omega, fun _ => by rw [q1]; rfl, R.th 0⟩
    · exact ⟨0, _, _, _, _, t_tag_rl l σ _ (nI t) (c_tagN l σ t b h8 q3 (by omega)) rfl rfl (by decide) (by decide), m_tagN l τ t h8, rfl, by omega, fun _ => by rw [q1, q4]; rfl, R.th 0⟩
theorem pr_look {l : Launch} (hl0 : l.stackTraces = false) {σ : BJ} {τ : BM} (R : Rel σ τ) (a : Int64) : ∃ (k : Nat) (z : Option Int64) (σ' : BJ) (r : Int64) (τ' : BM), tW l yL_look wsL_look σ (fun o => [.long a, .ref o]) k z σ' ∧ wMl l yX1_look wsX1_look ({ frames := 1, cells := 0, slots := 0, locals := 23 } : Room) τ [.long a] r τ' ∧ kgTh τ' = k ∧ k ≤ 3 ∧ (k = 0 → z = some r) ∧ Rel σ' τ' := by
  have hk := R.kn
  have hf := core_fndK R.1 a
  cases hq : fnd (jgKS σ) a (jgKc σ) with
  | none => exact ⟨1, _, _, _, _, t_look_t1 l σ a (c_lookT l hl0 σ a hk.2 hq) rfl rfl (by decide) (by decide), m_lookT l τ a (by omega) (hf.trans hq), rfl, by omega, fun h => by omega, R.th 1⟩
  | some i => exact ⟨0, _, _, _, _, t_look_rl l σ _ a (c_look l σ a i hk.2 hq) rfl rfl (by decide) (by decide), m_lookN l τ a i (by omega) (hf.trans hq), rfl, by omega, fun _ => by rw [(R.1.2.2.2.2.2.2.2.1 i (fnd_lt hq).1).2], R.th 0⟩
theorem pr_length {l : Launch} {σ : BJ} {τ : BM} (R : Rel σ τ) (d : Int64) : lenM τ d = lenS σ d := by
  have hf := core_fnd R.1 d
  rw [lenM, lenS, hf]
  cases hq : fnd (jgBD σ) d (jgBc σ) with
  | none => rfl
  | some i => exact (R.1.2.2.2.2.2.1 i (fnd_lt hq).1).2.1
theorem pr_byteOf {l : Launch} (hl0 : l.stackTraces = false) {σ : BJ} {τ : BM} (R : Rel σ τ) (d : Int64) (v : Int32) : ∃ (k : Nat) (z : Option Int64) (σ' : BJ) (r : Int32) (τ' : BM), tW l yL_byteOf wsL_byteOf σ (fun o => [.long d, .int v, .ref o]) k z σ' ∧ wMi l yX1_byteOf wsX1_byteOf ({ frames := 1, cells := 0, slots := 0, locals := 23 } : Room) τ [.long d, .int v] r τ' ∧ kgTh τ' = k ∧ k ≤ 3 ∧ (k = 0 → z = some r.toInt64) ∧ Rel σ' τ' := by
  have hb := R.bl
  have hf := core_fnd R.1 d
  cases hq : fnd (jgBD σ) d (jgBc σ) with
  | none => exact ⟨1, _, _, _, _, t_byteOf_t1 l σ d v (c_byteOfT1 l hl0 σ d v hb.2 hq) rfl rfl (by decide) (by decide), m_byteOfT1 l τ d v (by omega) (hf.trans hq), rfl, by omega, fun h => by omega, R.th 1⟩
  | some b =>
    obtain ⟨f1, -⟩ := fnd_lt hq
    obtain ⟨st, n, e1, e2, e3, e4, e5, e6, e7, e8, e9, e10, e11, e12, e13⟩ := blob_at R f1
    by_cases h : v < 0 ∨ ¬ v < nI n
    · exact ⟨2, _, _, _, _, t_byteOf_t2 l σ d v (c_byteOfT2 l hl0 σ d v b hb.2 hq (by rw [e4]; exact h)) rfl rfl (by decide) (by decide), m_byteOfT2 l τ d v b (by omega) (hf.trans hq) (by rw [e12]; exact h), rfl, by omega, fun h => by omega, R.th 2⟩
    · obtain ⟨j, hj, rfl⟩ := nI_of (fun q => h (Or.inl q))
      have hjn : j < n := (nI_ltI hj (by omega)).mp (Classical.byContradiction fun q => h (Or.inr q))
      exact ⟨0, _, _, _, _, t_byteOf_ri l σ _ d (nI j) (c_byteOf l σ d j b st n hb.2 hq e3 e4 hjn (by omega)) rfl rfl (by decide) (by decide), m_byteOfN l τ d j b n (by omega) (hf.trans hq) e12 hjn (by omega), rfl, by omega, fun _ => by rw [e13 j hjn], R.th 0⟩
theorem pr_count {l : Launch} (hl0 : l.stackTraces = false) {σ : BJ} {τ : BM} (R : Rel σ τ) (v : Int32) : ∃ (k : Nat) (z : Option Int64) (σ' : BJ) (r : Int32) (τ' : BM), tW l yL_count wsL_count σ (fun o => [.int v, .ref o]) k z σ' ∧ wMi l yX1_count wsX1_count ({ frames := 0, cells := 0, slots := 0, locals := 0 } : Room) τ [.int v] r τ' ∧ kgTh τ' = k ∧ k ≤ 3 ∧ (k = 0 → z = some r.toInt64) ∧ Rel σ' τ' := by
  by_cases h : v < 0 ∨ ¬ v ≤ nI 3
  · have h2 : v.toInt < 0 ∨ 3 < v.toInt := by
      rcases h with h | h
      · exact Or.inl (Int32.lt_iff_toInt_lt.mp h)
      · have := Int32.lt_iff_toInt_lt.mp (Int32.not_le.mp h)
        exact Or.inr this
    exact ⟨1, _, _, _, _, t_count_t1 l σ v (c_countT l hl0 σ v h2) rfl rfl (by decide) (by decide), m_countT l τ v h, rfl, by omega, fun h => by omega, R.th 1⟩
  · obtain ⟨j, hj, rfl⟩ := nI_of (fun q => h (Or.inl q))
    have hjn : j ≤ 3 := (nI_leI hj (by omega)).mp (Classical.byContradiction fun q => h (Or.inr q))
    have hcase : j = 0 ∨ j = 1 ∨ j = 2 ∨ j = 3 := by omega
    rcases hcase with rfl | rfl | rfl | rfl
    · exact ⟨0, _, _, _, _, t_count_ri l σ _ (nI 0) (c_count0 l σ) rfl rfl (by decide) (by decide), m_count0 l τ, rfl, by omega, fun _ => by rw [R.bl.1], R.th 0⟩
    · exact ⟨0, _, _, _, _, t_count_ri l σ _ (nI 1) (c_count1 l σ) rfl rfl (by decide) (by decide), m_count1 l τ, rfl, by omega, fun _ => by rw [R.kn.1], R.th 0⟩
    · exact ⟨0, _, _, _, _, t_count_ri l σ _ (nI 2) (c_count2 l σ) rfl rfl (by decide) (by decide), m_count2 l τ, rfl, by omega, fun _ => by rw [R.sz], R.th 0⟩
    · exact ⟨0, _, _, _, _, t_count_ri l σ _ (nI 3) (c_count3 l σ) rfl rfl (by decide) (by decide), m_count3 l τ, rfl, by omega, fun _ => by rw [R.sy.1], R.th 0⟩
theorem pr_journal {l : Launch} (hl0 : l.stackTraces = false) {σ : BJ} {τ : BM} (R : Rel σ τ) (v : Int32) : ∃ (k : Nat) (z : Option Int64) (σ' : BJ) (r : Int32) (τ' : BM), tW l yL_journal wsL_journal σ (fun o => [.int v, .ref o]) k z σ' ∧ wMi l yX1_journal wsX1_journal ({ frames := 0, cells := 0, slots := 0, locals := 0 } : Room) τ [.int v] r τ' ∧ kgTh τ' = k ∧ k ≤ 3 ∧ (k = 0 → z = some r.toInt64) ∧ Rel σ' τ' := by
  have hs := R.sz
  have hw := R.w7
  by_cases h : v < 0 ∨ ¬ v < nI (jgWc σ)
  · exact ⟨1, _, _, _, _, t_journal_t1 l σ v (c_journalT l hl0 σ v h) rfl rfl (by decide) (by decide), m_journalT l τ v (by rw [hs]; exact h), rfl, by omega, fun h => by omega, R.th 1⟩
  · obtain ⟨j, hj, rfl⟩ := nI_of (fun q => h (Or.inl q))
    have hjn : j < jgWc σ := (nI_ltI hj (by omega)).mp (Classical.byContradiction fun q => h (Or.inr q))
    exact ⟨0, _, _, _, _, t_journal_ri l σ _ (nI j) (c_journal l σ j hjn hw) rfl rfl (by decide) (by decide), m_journalN l τ j (by omega) (by omega), rfl, by omega, fun _ => by rw [R.2.2.2.2.2.1 j hjn], R.th 0⟩
theorem pr_crash {l : Launch} (hl0 : l.stackTraces = false) {σ : BJ} {τ : BM} (R : Rel σ τ) (v u : Int32) : ∃ (k : Nat) (z : Option Int64) (σ' : BJ) (r : Int32) (τ' : BM), tW l yL_crash wsL_crash σ (fun o => [.int v, .int u, .ref o]) k z σ' ∧ wMi l yX1_crash wsX1_crash ({ frames := 4, cells := 0, slots := 0, locals := 95 } : Room) τ [.int v, .int u] r τ' ∧ kgTh τ' = k ∧ k ≤ 3 ∧ (k = 0 → z = some r.toInt64) ∧ Rel σ' τ' := by
  have hs := R.sz
  have hy := R.sy
  have hw := R.w7
  by_cases h : v < 0 ∨ ¬ v ≤ nI (jgWc σ - jgSc σ)
  · exact ⟨1, _, _, _, _, t_crash_t1 l σ v u (c_crashT l hl0 σ v u h hy.2) rfl rfl (by decide) (by decide), m_crashT l τ v u (by rw [hs, hy.1]; exact h) (by omega), rfl, by omega, fun h => by omega, R.th 1⟩
  · obtain ⟨n, hn, rfl⟩ := nI_of (fun q => h (Or.inl q))
    have hnn : n ≤ jgWc σ - jgSc σ := (nI_leI hn (by omega)).mp (Classical.byContradiction fun q => h (Or.inr q))
    have hM := m_crashN l τ n u (by omega) (by omega) (by omega) R.2.2.1 R.2.2.2.1
    by_cases hu : u < 0 ∨ nI n ≤ u
    · obtain ⟨q1, q2, q3, q4⟩ := R_crash (σx := σ) (sp := u) R hnn (Or.inl ⟨hu, rfl⟩)
      exact ⟨0, _, _, _, _, t_crash_wi l σ _ _ (nI n) u (c_crashO l σ n u hnn hy.2 hw R.2.1 hu) rfl rfl (by decide) (by decide), hM, q4, by omega, fun _ => by rw [q3], q2⟩
    · obtain ⟨k, hk, rfl⟩ := nI_of (fun q => hu (Or.inl q))
      have hkn : k < n := (nI_ltI hk (by omega)).mp (Int32.not_le.mp fun q => hu (Or.inr q))
      obtain ⟨q1, q2, q3, q4⟩ := R_crash (sp := nI k) R hnn (Or.inr ⟨k, hkn, rfl, rfl⟩)
      exact ⟨0, _, _, _, _, t_crash_wi l σ _ _ (nI n) (nI k) (c_crashN l σ n k hnn hy.2 hw hkn q1) rfl rfl (by decide) (by decide), hM, q4, by omega, fun _ => by rw [q3], q2⟩
