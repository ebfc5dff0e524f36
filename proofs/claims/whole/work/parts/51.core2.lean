/-! a record is followed by both alike -/
def keepC (σ σ' : BJ) : Prop := jgW σ' = jgW σ ∧ jgWc σ' = jgWc σ ∧ jgSc σ' = jgSc σ ∧ jgT σ' = jgT σ ∧ jgTc σ' = jgTc σ ∧ jgPD σ' = jgPD σ
def keepM (τ τ' : BM) : Prop := kgJR τ' = kgJR τ ∧ kgSz τ' = kgSz τ ∧ kgSy τ' = kgSy τ ∧ kgT τ' = kgT τ ∧ kgMy τ' = kgMy τ ∧ kgPN τ' = kgPN τ ∧ kgTh τ' = kgTh τ
theorem keepC.rf (σ : BJ) : keepC σ σ := ⟨rfl, rfl, rfl, rfl, rfl, rfl⟩
theorem keepM.rf (τ : BM) : keepM τ τ := ⟨rfl, rfl, rfl, rfl, rfl, rfl, rfl⟩
theorem keepC.tr {a b c : BJ} (h : keepC a b) (g : keepC b c) : keepC a c := ⟨g.1.trans h.1, g.2.1.trans h.2.1, g.2.2.1.trans h.2.2.1, g.2.2.2.1.trans h.2.2.2.1, g.2.2.2.2.1.trans h.2.2.2.2.1, g.2.2.2.2.2.trans h.2.2.2.2.2⟩
theorem keepM.tr {a b c : BM} (h : keepM a b) (g : keepM b c) : keepM a c := ⟨g.1.trans h.1, g.2.1.trans h.2.1, g.2.2.1.trans h.2.2.1, g.2.2.2.1.trans h.2.2.2.1, g.2.2.2.2.1.trans h.2.2.2.2.1, g.2.2.2.2.2.1.trans h.2.2.2.2.2.1, g.2.2.2.2.2.2.trans h.2.2.2.2.2.2⟩
theorem viewC.rf (σ : BJ) : viewC σ σ := ⟨rfl, rfl, rfl, rfl, rfl, rfl, rfl, rfl⟩
theorem viewM.rf (τ : BM) : viewM τ τ := ⟨rfl, rfl, rfl, rfl, rfl, rfl, rfl, rfl, rfl⟩
theorem putL_in {f : Nat → Int32} {a k n : Nat} {g : Nat → Int32} (h : k < n) : putL f a ((List.range n).map g) (a + k) = g k := by
  unfold putL
  rw [rng_len, if_pos (by omega), show a + k - a = k by omega, List.getD_eq_getElem?_getD, List.getElem?_map, List.getElem?_range h]
  rfl
theorem putL_out {f : Nat → Int32} {a i : Nat} {bs : List Int32} (h : i < a ∨ a + bs.length ≤ i) : putL f a bs i = f i := by
  unfold putL
  rw [if_neg (by omega)]
theorem isWh_of {f : Nat → Int32} {a en : Nat} (h : isWh f a en = true) : a + 4 ≤ en ∧ a + 3 + lenAt f a < en ∧ f (a + 3 + lenAt f a) = sm f a (3 + lenAt f a) := isWh_iff.mp h
theorem core_fnd {a : Nat} {σ : BJ} {τ : BM} (h : Core a σ τ) (d : Int64) : fnd (kgDG τ) d (kgBl τ) = fnd (jgBD σ) d (jgBc σ) := by
  rw [h.2.1.1]
  exact fnd_congr (fun i hi => (h.2.2.2.2.2.1 i hi).1)
theorem core_fndK {a : Nat} {σ : BJ} {τ : BM} (h : Core a σ τ) (k : Int64) : fnd (kgKS τ) k (kgKn τ) = fnd (jgKS σ) k (jgKc σ) := by
  rw [h.2.2.1.1]
  exact fnd_congr (fun i hi => (h.2.2.2.2.2.2.2.1 i hi).1)
theorem core_follow {a en : Nat} {σ : BJ} {τ : BM} (hC : Core a σ τ) (hby : byt (jgW σ) 700) (hen : en ≤ 700) (hw : isWh (jgW σ) a en = true) (hLe : kgLe τ = lenAt (jgW σ) a) (hRC : ∀ k, k < lenAt (jgW σ) a → kgRC τ k = jgW σ (a + 3 + k)) (hk : 1 ≤ nb (jgW σ) a ∧ nb (jgW σ) a ≤ 4) :
    (follow σ a = none ∧ saysM τ (nb (jgW σ) a) = none) ∨ ∃ σ' τ', follow σ a = some σ' ∧ saysM τ (nb (jgW σ) a) = some τ' ∧ Core (a + (4 + lenAt (jgW σ) a)) σ' τ' ∧ keepC σ σ' ∧ keepM τ τ' := by
  obtain ⟨w1, w2, w3⟩ := isWh_of hw
  obtain ⟨n, hn⟩ : ∃ n, n = lenAt (jgW σ) a := ⟨_, rfl⟩
  rw [← hn] at w2 w3 hLe hRC ⊢
  have hWa : jgW σ a = nI (nb (jgW σ) a) := (hby a (by omega)).1
  have hcase : nb (jgW σ) a = 1 ∨ nb (jgW σ) a = 2 ∨ nb (jgW σ) a = 3 ∨ nb (jgW σ) a = 4 := by omega
  rcases hcase with q | q | q | q
  · -- a blob
    rw [q] at hWa ⊢
    have e1 : follow σ a = fBlob σ (a + 3) n := by rw [follow, if_pos (by rw [hWa]; rfl), ← hn]
    have e2 : saysM τ 1 = sBlob τ := rfl
    have hd : dg (kgRC τ) 0 (kgLe τ) = dg (jgW σ) (a + 3) n := by
      rw [hLe]
      exact dg_congr (fun i hi => by rw [Nat.zero_add]; exact hRC i hi)
    have hf := core_fnd hC (dg (jgW σ) (a + 3) n)
    rw [e1, e2]
    cases hq : fnd (jgBD σ) (dg (jgW σ) (a + 3) n) (jgBc σ) with
    | some i =>
      rw [fBlob_some hq, sBlob_some (i := i) (by rw [hd, hf, hq])]
      exact Or.inr ⟨σ, τ, rfl, rfl, hC.mono (by omega) (by omega), keepC.rf σ, keepM.rf τ⟩
    | none =>
      have hfb : fnd (kgDG τ) (dg (kgRC τ) 0 (kgLe τ)) (kgBl τ) = none := by rw [hd, hf, hq]
      by_cases h20 : jgBc σ < 20
      · rw [fBlob_new hq h20, sBlob_new hfb (by rw [hC.2.1.1]; omega)]
        refine Or.inr ⟨newB σ (a + 3) n, _, rfl, rfl, ?_, ⟨rfl, rfl, rfl, rfl, rfl, rfl⟩, ⟨rfl, rfl, rfl, rfl, rfl, rfl, rfl⟩⟩
        have hBl := hC.2.1.1
        refine core_blob hC h20 (by omega) hWa hn.symm w3 (fnd_none.mp hq) ?_ ?_ ?_ (fun t _ => ⟨rfl, rfl⟩) rfl (fun i _ => ⟨rfl, rfl⟩)
        · show kgBl τ + 1 = _
          rw [hBl]
        · intro i hi
          refine ⟨?_, ?_, fun k hk => ?_⟩
          · show vp_updL (kgDG τ) (kgBl τ) (dg (kgRC τ) 0 (kgLe τ)) i = _
            rw [updL_eq, if_neg (by omega)]
          · show upd (kgLN τ) (kgBl τ) (nI (kgLe τ)) i = _
            rw [upd_eq, if_neg (by omega)]
          · show putL (kgBY τ) (700 * kgBl τ) ((List.range (kgLe τ)).map (kgRC τ)) (700 * i + k) = _
            exact putL_out (Or.inl (by rw [hBl]; omega))
        · refine ⟨?_, ?_, fun k hk => ?_⟩
          · show vp_updL (kgDG τ) (kgBl τ) (dg (kgRC τ) 0 (kgLe τ)) (jgBc σ) = _
            rw [updL_eq, if_pos hBl.symm, hd]
          · show upd (kgLN τ) (kgBl τ) (nI (kgLe τ)) (jgBc σ) = _
            rw [upd_eq, if_pos hBl.symm, hLe]
          · show putL (kgBY τ) (700 * kgBl τ) ((List.range (kgLe τ)).map (kgRC τ)) (700 * jgBc σ + k) = _
            rw [hBl, putL_in (by omega)]
            exact hRC k hk
      · rw [fBlob_full hq h20, sBlob_full hfb (by rw [hC.2.1.1]; have := hC.2.1.2; omega)]
        exact Or.inl ⟨rfl, rfl⟩
  · -- a tag told
    rw [q] at hWa ⊢
    have e1 : follow σ a = if n = 9 then fTell σ (nb (jgW σ) (a + 3)) (longAt (jgW σ) (a + 3 + 1)) else none := by rw [follow, if_neg (by rw [hWa]; decide), if_pos (by rw [hWa]; rfl), ← hn]
    have e2 : saysM τ 2 = sTell τ := rfl
    rw [e1, e2]
    by_cases h9 : n = 9
    · subst h9
      have ht : nb (kgRC τ) 0 = nb (jgW σ) (a + 3) := nb_congr (hRC 0 (by omega))
      have hd : longAt (kgRC τ) 1 = longAt (jgW σ) (a + 3 + 1) := longAt_congr (fun i hi => by rw [hRC (1 + i) (by omega), Nat.add_assoc (a + 3) 1 i])
      obtain ⟨t, et⟩ : ∃ t, t = nb (jgW σ) (a + 3) := ⟨_, rfl⟩
      obtain ⟨d, ed⟩ : ∃ d, d = longAt (jgW σ) (a + 3 + 1) := ⟨_, rfl⟩
      rw [← et] at ht ⊢
      rw [← ed] at hd ⊢
      rw [if_pos rfl]
      have hf := core_fnd hC d
      by_cases h8 : t < 8
      · cases hq : fnd (jgBD σ) d (jgBc σ) with
        | none =>
          rw [fTell_none hq, sTell_none hLe (by rw [ht]; exact h8) (by rw [hd, hf, hq])]
          exact Or.inl ⟨rfl, rfl⟩
        | some b =>
          have hb := fnd_lt hq
          rw [fTell_some hq h8, sTell_some hLe (by rw [ht]; exact h8) (by rw [hd, hf, hq])]
          refine Or.inr ⟨_, _, rfl, rfl, ?_, ⟨rfl, rfl, rfl, rfl, rfl, rfl⟩, ⟨rfl, rfl, rfl, rfl, rfl, rfl, rfl⟩⟩
          rw [hd, ht]
          exact core_tell hC h8 hb.1 hb.2 (by omega) (by omega) rfl rfl rfl rfl (fun _ _ => rfl) (fun _ _ => rfl) rfl rfl rfl
      · rw [fTell_out h8, sTell_tag hLe (by rw [ht]; exact h8)]
        exact Or.inl ⟨rfl, rfl⟩
    · rw [if_neg h9, sTell_len (by rw [hLe]; exact h9)]
      exact Or.inl ⟨rfl, rfl⟩
  · -- a tag untold
    rw [q] at hWa ⊢
    have e1 : follow σ a = if n = 1 then fUntell σ (nb (jgW σ) (a + 3)) else none := by rw [follow, if_neg (by rw [hWa]; decide), if_neg (by rw [hWa]; decide), if_pos (by rw [hWa]; rfl), ← hn]
    have e2 : saysM τ 3 = sUnt τ := rfl
    rw [e1, e2]
    by_cases h9 : n = 1
    · subst h9
      have ht : nb (kgRC τ) 0 = nb (jgW σ) (a + 3) := nb_congr (hRC 0 (by omega))
      obtain ⟨t, et⟩ : ∃ t, t = nb (jgW σ) (a + 3) := ⟨_, rfl⟩
      rw [← et] at ht ⊢
      rw [if_pos rfl, fUntell]
      by_cases h8 : t < 8
      · rw [if_pos h8, sUnt_some hLe (by rw [ht]; exact h8)]
        refine Or.inr ⟨_, _, rfl, rfl, ?_, ⟨rfl, rfl, rfl, rfl, rfl, rfl⟩, ⟨rfl, rfl, rfl, rfl, rfl, rfl, rfl⟩⟩
        rw [ht]
        exact core_untell hC h8 (by omega) rfl rfl rfl rfl (fun _ _ => rfl) rfl rfl rfl rfl
      · rw [if_neg h8, sUnt_tag hLe (by rw [ht]; exact h8)]
        exact Or.inl ⟨rfl, rfl⟩
    · rw [if_neg h9, sUnt_len (by rw [hLe]; exact h9)]
      exact Or.inl ⟨rfl, rfl⟩
  · -- a key
    rw [q] at hWa ⊢
    have e1 : follow σ a = if n = 16 then fKey σ (longAt (jgW σ) (a + 3)) (longAt (jgW σ) (a + 3 + 8)) else none := by rw [follow, if_neg (by rw [hWa]; decide), if_neg (by rw [hWa]; decide), if_neg (by rw [hWa]; decide), if_pos (by rw [hWa]; rfl), ← hn]
    have e2 : saysM τ 4 = sK16 τ := rfl
    rw [e1, e2, sK16, hLe]
    by_cases h9 : n = 16
    · subst h9
      have hk : longAt (kgRC τ) 0 = longAt (jgW σ) (a + 3) := longAt_congr (fun i hi => by rw [Nat.zero_add]; exact hRC i (by omega))
      have hd : longAt (kgRC τ) 8 = longAt (jgW σ) (a + 3 + 8) := longAt_congr (fun i hi => by rw [hRC (8 + i) (by omega), Nat.add_assoc (a + 3) 8 i])
      rw [if_pos rfl, if_pos rfl, hk, hd]
      obtain ⟨k, ek⟩ : ∃ k, k = longAt (jgW σ) (a + 3) := ⟨_, rfl⟩
      obtain ⟨d, ed⟩ : ∃ d, d = longAt (jgW σ) (a + 3 + 8) := ⟨_, rfl⟩
      rw [← ek, ← ed]
      have hf := core_fndK hC k
      cases hq : fnd (jgKS σ) k (jgKc σ) with
      | some i =>
        have hi := fnd_lt hq
        rw [fKey_some hq, sKey_some (hf.trans hq)]
        exact Or.inr ⟨_, _, rfl, rfl, core_keyO hC hi.1 hi.2 (by omega) rfl rfl rfl rfl rfl rfl rfl rfl rfl, ⟨rfl, rfl, rfl, rfl, rfl, rfl⟩, ⟨rfl, rfl, rfl, rfl, rfl, rfl, rfl⟩⟩
      | none =>
        have hKn := hC.2.2.1.1
        by_cases h16 : jgKc σ < 16
        · rw [fKey_new hq h16, sKey_new (hf.trans hq) (by rw [hKn]; omega)]
          refine Or.inr ⟨newK σ k d, _, rfl, rfl, ?_, ⟨rfl, rfl, rfl, rfl, rfl, rfl⟩, ⟨rfl, rfl, rfl, rfl, rfl, rfl, rfl⟩⟩
          refine core_keyN hC h16 (fnd_none.mp hq) (by omega) (by omega) rfl rfl rfl rfl rfl rfl ?_ (fun i _ => ?_) (fun i _ => ?_)
          · show kgKn τ + 1 = _
            rw [hKn]
          · show vp_updL (kgKS τ) (kgKn τ) k i = _
            rw [hKn]
          · show vp_updL (kgTO τ) (kgKn τ) d i = _
            rw [hKn]
        · rw [fKey_full hq h16, sKey_full (hf.trans hq) (by rw [hKn]; have := hC.2.2.1.2; omega)]
          exact Or.inl ⟨rfl, rfl⟩
    · rw [if_neg h9, if_neg h9]
      exact Or.inl ⟨rfl, rfl⟩
theorem follow_bad {σ : BJ} {a : Nat} (hby : byt (jgW σ) 700) (ha : a < 700) (h : ¬ (1 ≤ nb (jgW σ) a ∧ nb (jgW σ) a ≤ 4)) : follow σ a = none := by
  have hWa := hby a ha
  have key : ∀ k : Nat, 1 ≤ k → k ≤ 4 → jgW σ a ≠ nI k := fun k h1 h2 e => by
    rw [hWa.1] at e
    have := (nI_eq (by omega) (by omega)).mp e
    omega
  rw [follow, if_neg (show ¬ jgW σ a = 1 from key 1 (by omega) (by omega)), if_neg (show ¬ jgW σ a = 2 from key 2 (by omega) (by omega)), if_neg (show ¬ jgW σ a = 3 from key 3 (by omega) (by omega)), if_neg (show ¬ jgW σ a = 4 from key 4 (by omega) (by omega))]
/-- after a crash both read the same records -/
theorem crash_lock {en : Nat} (hen : en ≤ 700) : ∀ (n m a : Nat) (σ : BJ) (τ : BM), Core a σ τ → byt (jgW σ) 700 → byt (kgJR τ) 700 → byt (kgRC τ) 700 → (∀ i, i < en → kgJR τ i = jgW σ i) → a ≤ en → en ≤ a + 4 * n → en < a + 4 * m →
    (rsL en n a σ).1 = (crL en m a τ).1 ∧ (rsL en n a σ).1 ≤ en ∧ Core (rsL en n a σ).1 (rsL en n a σ).2 (crL en m a τ).2 ∧ keepC σ (rsL en n a σ).2 ∧ keepM τ (crL en m a τ).2 ∧ byt (kgRC (crL en m a τ).2) 700 := by
  intro n
  induction n with
  | zero =>
    intro m a σ τ hC hby hbj hbr hJ ha hn hm
    cases m with
    | zero => omega
    | succ m =>
      have h1 : rdR τ a en = (none, τ) := rdR_1 (by omega)
      have h2 : crL en (m + 1) a τ = (a, τ) := by rw [crL_1 (by rw [h1]), h1]
      rw [h2]
      exact ⟨rfl, ha, hC, keepC.rf σ, keepM.rf τ, hbr⟩
  | succ n ih =>
    intro m a σ τ hC hby hbj hbr hJ ha hn hm
    cases m with
    | zero => omega
    | succ m =>
      by_cases hw : isWh (jgW σ) a en = true
      · obtain ⟨w1, w2, w3⟩ := isWh_of hw
        have hna : nb (kgJR τ) a = nb (jgW σ) a := nb_congr (hJ a (by omega))
        have hla : lenAt (kgJR τ) a = lenAt (jgW σ) a := lenAt_congr (hJ _ (by omega)) (hJ _ (by omega))
        by_cases hk : 1 ≤ nb (jgW σ) a ∧ nb (jgW σ) a ≤ 4
        · have hsum : sm (kgJR τ) a (3 + lenAt (kgJR τ) a) = kgJR τ (a + 3 + lenAt (kgJR τ) a) := by
            rw [hla, hJ _ w2, w3]
            exact sm_congr (fun i hi => hJ _ (by omega))
          have hr := rdR_4 (τ := τ) (a := a) (en := en) ⟨w1, by rw [hna]; exact hk.1, by rw [hna]; exact hk.2⟩ (by rw [hla]; exact w2) hsum
          have hkp := rdR_keep τ a en
          rw [hr] at hkp
          obtain ⟨-, -, -, hbr1⟩ := hkp
          have hbr1 := hbr1 hbr hbj hen
          obtain ⟨τ1, et1⟩ : ∃ t, t = rdSt τ a (lenAt (kgJR τ) a) (lenAt (kgJR τ) a) := ⟨_, rfl⟩
          rw [← et1] at hr hbr1
          have hbr1 : byt (kgRC τ1) 700 := hbr1
          have hC1 : Core a σ τ1 := hC.view (viewC.rf σ) (by rw [et1]; exact ⟨rfl, rfl, rfl, rfl, rfl, rfl, rfl, rfl, rfl⟩) (fun _ _ => rfl)
          have hM1 : keepM τ τ1 := by rw [et1]; exact ⟨rfl, rfl, rfl, rfl, rfl, rfl, rfl⟩
          have hLe1 : kgLe τ1 = lenAt (jgW σ) a := by rw [et1]; exact hla
          have hRC1 : ∀ k, k < lenAt (jgW σ) a → kgRC τ1 k = jgW σ (a + 3 + k) := fun k hk9 => by
            rw [et1]
            show putL (kgRC τ) 0 ((List.range (lenAt (kgJR τ) a)).map (fun k => kgJR τ (a + 3 + k))) k = _
            rw [show k = 0 + k by omega, putL_in (by omega)]
            show kgJR τ (a + 3 + k) = jgW σ (a + 3 + (0 + k))
            rw [hJ _ (by omega), Nat.zero_add]
          have hr1 : (rdR τ a en).1 = some (a + 3 + lenAt (kgJR τ) a + 1) := by rw [hr]
          rcases core_follow hC1 hby hen hw hLe1 hRC1 hk with ⟨f1, f2⟩ | ⟨σ2, τ2, f1, f2, hC2, hKC, hKM⟩
          · have h2 : crL en (m + 1) a τ = (a, τ1) := by rw [crL_2 hr1 (by rw [hr, hna]; exact f2), hr]
            rw [rsL_stop f1, h2]
            exact ⟨rfl, ha, hC1, keepC.rf σ, hM1, hbr1⟩
          · have h2 : crL en (m + 1) a τ = crL en m (a + 3 + lenAt (kgJR τ) a + 1) τ2 := crL_3 hr1 (by rw [hr, hna]; exact f2)
            have hrc2 : byt (kgRC τ2) 700 := by
              rw [(saysM_keep f2).2.2.2]; exact hbr1
            rw [rsL_go hw f1, h2, hla, show a + 3 + lenAt (jgW σ) a + 1 = a + (4 + lenAt (jgW σ) a) by omega]
            have hq := ih m (a + (4 + lenAt (jgW σ) a)) σ2 τ2 hC2 (by rw [hKC.1]; exact hby) (by rw [hKM.1, hM1.1]; exact hbj) hrc2 (fun i hi => by rw [hKM.1, hM1.1, hKC.1]; exact hJ i hi) (by omega) (by omega) (by omega)
            exact ⟨hq.1, hq.2.1, hq.2.2.1, hKC.tr hq.2.2.2.1, (hM1.tr hKM).tr hq.2.2.2.2.1, hq.2.2.2.2.2⟩
        · have h1 : rdR τ a en = (none, τ) := rdR_1 (by rw [hna]; omega)
          have h2 : crL en (m + 1) a τ = (a, τ) := by rw [crL_1 (by rw [h1]), h1]
          rw [rsL_stop (follow_bad hby (by omega) hk), h2]
          exact ⟨rfl, ha, hC, keepC.rf σ, keepM.rf τ, hbr⟩
      · have hw : isWh (jgW σ) a en = false := by
          cases h : isWh (jgW σ) a en with
          | false => rfl
          | true => exact absurd h hw
        rw [rsL_no hw]
        have hnone : (rdR τ a en).1 = none := by
          by_cases h1 : a + 4 ≤ en ∧ 1 ≤ nb (kgJR τ) a ∧ nb (kgJR τ) a ≤ 4
          · have hla : lenAt (kgJR τ) a = lenAt (jgW σ) a := lenAt_congr (hJ _ (by omega)) (hJ _ (by omega))
            by_cases h2 : a + 3 + lenAt (kgJR τ) a < en
            · rw [rdR_3 h1 h2 (fun h3 => ?_)]
              have : isWh (jgW σ) a en = true := isWh_iff.mpr ⟨h1.1, by rw [← hla]; exact h2, by
                rw [← hla, ← hJ _ h2, ← h3]
                exact sm_congr (fun i hi => hJ _ (by omega))⟩
              rw [hw] at this
              cases this
            · rw [rdR_2 h1 h2]
          · rw [rdR_1 h1]
        have hkp := rdR_keep τ a en
        have h2 : crL en (m + 1) a τ = (a, (rdR τ a en).2) := crL_1 hnone
        have hv : viewM τ (rdR τ a en).2 ∧ keepM τ (rdR τ a en).2 := by
          by_cases h1 : a + 4 ≤ en ∧ 1 ≤ nb (kgJR τ) a ∧ nb (kgJR τ) a ≤ 4
          · by_cases h2 : a + 3 + lenAt (kgJR τ) a < en
            · rw [rdR, if_pos h1, if_pos h2]
              exact ⟨⟨rfl, rfl, rfl, rfl, rfl, rfl, rfl, rfl, rfl⟩, ⟨rfl, rfl, rfl, rfl, rfl, rfl, rfl⟩⟩
            · rw [rdR_2 h1 h2]
              exact ⟨⟨rfl, rfl, rfl, rfl, rfl, rfl, rfl, rfl, rfl⟩, ⟨rfl, rfl, rfl, rfl, rfl, rfl, rfl⟩⟩
          · rw [rdR_1 h1]
            exact ⟨viewM.rf τ, keepM.rf τ⟩
        rw [h2]
        exact ⟨rfl, ha, hC.view (viewC.rf σ) hv.1 (fun _ _ => rfl), keepC.rf σ, hv.2, hkp.2.2.2 hbr hbj hen⟩
