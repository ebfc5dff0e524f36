/-! the class's picture beside the reference's -/
theorem dgL_congr {f g : Nat → Int32} {a b n : Nat} (h : ∀ i, i < n → f (a + i) = g (b + i)) : dgL f a n = dgL g b n := by
  induction n with
  | zero => rfl
  | succ n ih =>
    show (dgL f a n ^^^ (f (a + n)).toInt64) * 1099511628211 = (dgL g b n ^^^ (g (b + n)).toInt64) * 1099511628211
    rw [ih (fun i hi => h i (by omega)), h n (by omega)]
theorem dg_congr {f g : Nat → Int32} {a b n : Nat} (h : ∀ i, i < n → f (a + i) = g (b + i)) : dg f a n = dg g b n := by rw [dg, dg, dgL_congr h]
theorem smL_congr {f g : Nat → Int32} {a b n : Nat} (h : ∀ i, i < n → f (a + i) = g (b + i)) : smL f a n = smL g b n := by
  induction n with
  | zero => rfl
  | succ n ih =>
    show smL f a n + f (a + n) = smL g b n + g (b + n)
    rw [ih (fun i hi => h i (by omega)), h n (by omega)]
theorem sm_congr {f g : Nat → Int32} {a b n : Nat} (h : ∀ i, i < n → f (a + i) = g (b + i)) : sm f a n = sm g b n := by rw [sm, sm, smL_congr h]
theorem nb_congr {f g : Nat → Int32} {a b : Nat} (h : f a = g b) : nb f a = nb g b := by rw [nb, nb, h]
theorem lenAt_congr {f g : Nat → Int32} {a b : Nat} (h1 : f (a + 1) = g (b + 1)) (h2 : f (a + 2) = g (b + 2)) : lenAt f a = lenAt g b := by rw [lenAt, lenAt, nb_congr h1, nb_congr h2]
theorem laL_congr {f g : Nat → Int32} {a b : Nat} (h : ∀ i, i < 8 → f (a + i) = g (b + i)) : ∀ k, laL f a k = laL g b k
  | 0 => rfl
  | k + 1 => by
    show (laL f a k <<< ((nI 8).toInt64 &&& 63)) ||| (f (a + (7 - k))).toInt64 = (laL g b k <<< ((nI 8).toInt64 &&& 63)) ||| (g (b + (7 - k))).toInt64
    rw [laL_congr h k, h (7 - k) (by omega)]
theorem longAt_congr {f g : Nat → Int32} {a b : Nat} (h : ∀ i, i < 8 → f (a + i) = g (b + i)) : longAt f a = longAt g b := laL_congr h 8
theorem fnd_congr {f g : Nat → Int64} {d : Int64} : ∀ {n : Nat}, (∀ i, i < n → f i = g i) → fnd f d n = fnd g d n
  | 0, _ => rfl
  | n + 1, h => by
    unfold fnd
    rw [fnd_congr (fun i hi => h i (by omega)), h n (by omega)]
def sumN (f : Nat → Nat) : Nat → Nat
  | 0 => 0
  | n + 1 => sumN f n + f n
theorem sumN_congr {f g : Nat → Nat} : ∀ {n : Nat}, (∀ i, i < n → f i = g i) → sumN f n = sumN g n
  | 0, _ => rfl
  | n + 1, h => by
    show sumN f n + f n = sumN g n + g n
    rw [sumN_congr (fun i hi => h i (by omega)), h n (by omega)]
theorem sumN_upd {f g : Nat → Nat} {t c : Nat} (hg : g t ≤ f t + c) : ∀ {n : Nat}, (∀ i, i < n → i ≠ t → g i ≤ f i) → sumN g n ≤ sumN f n + c ∧ (n ≤ t → sumN g n ≤ sumN f n)
  | 0, _ => ⟨Nat.zero_le _, fun _ => Nat.le_refl _⟩
  | n + 1, h => by
    obtain ⟨h1, h2⟩ := sumN_upd hg (n := n) (fun i hi => h i (by omega))
    constructor
    · show sumN g n + g n ≤ sumN f n + f n + c
      by_cases e : n = t
      · subst e
        have := h2 (Nat.le_refl _)
        omega
      · have := h n (by omega) e
        omega
    · intro hn
      show sumN g n + g n ≤ sumN f n + f n
      have := h n (by omega) (by omega)
      have := h2 (by omega)
      omega
theorem updB_eq (f : Nat → Bool) (i : Nat) (v : Bool) (j : Nat) : updB f i v j = if j = i then v else f j := rfl
theorem upd_eq (f : Nat → Int32) (i : Nat) (v : Int32) (j : Nat) : upd f i v j = if j = i then v else f j := rfl
theorem updL_eq (f : Nat → Int64) (i : Nat) (v : Int64) (j : Nat) : vp_updL f i v j = if j = i then v else f j := rfl
/-- a blob's record stands whole below a -/
def BlobOk (a : Nat) (W : Nat → Int32) (bs bl : Int32) (d : Int64) : Prop :=
  bs = nI bs.toNatClampNeg ∧ bl = nI bl.toNatClampNeg ∧ 3 ≤ bs.toNatClampNeg ∧ bs.toNatClampNeg + bl.toNatClampNeg + 1 ≤ a ∧ W (bs.toNatClampNeg - 3) = nI 1 ∧ lenAt W (bs.toNatClampNeg - 3) = bl.toNatClampNeg ∧ W (bs.toNatClampNeg + bl.toNatClampNeg) = sm W (bs.toNatClampNeg - 3) (3 + bl.toNatClampNeg) ∧ d = dg W bs.toNatClampNeg bl.toNatClampNeg
theorem BlobOk.mono {a b : Nat} {W : Nat → Int32} {bs bl : Int32} {d : Int64} (h : BlobOk a W bs bl d) (hab : a ≤ b) : BlobOk b W bs bl d := by
  obtain ⟨h1, h2, h3, h4, h5⟩ := h
  exact ⟨h1, h2, h3, by omega, h5⟩
theorem BlobOk.move {a : Nat} {W V : Nat → Int32} {bs bl : Int32} {d : Int64} (h : BlobOk a W bs bl d) (hW : ∀ i, i < a → V i = W i) : BlobOk a V bs bl d := by
  obtain ⟨h1, h2, h3, h4, h5, h6, h7, h8⟩ := h
  refine ⟨h1, h2, h3, h4, ?_, ?_, ?_, ?_⟩
  · rw [hW _ (by omega)]; exact h5
  · rw [← h6]; exact lenAt_congr (hW _ (by omega)) (hW _ (by omega))
  · rw [hW _ (by omega), h7]; exact sm_congr (fun i hi => (hW _ (by omega)).symm)
  · rw [h8]; exact dg_congr (fun i hi => (hW _ (by omega)).symm)
def bud (σ : BJ) : Nat := sumN (fun i => 4 + nb (jgBL σ) i) (jgBc σ) + sumN (fun t => if jgTB σ t = -1 then 0 else 13) 8 + 20 * jgKc σ
def cBlobs (a : Nat) (σ : BJ) : Prop := (∀ i, i < jgBc σ → BlobOk a (jgW σ) (jgBS σ i) (jgBL σ i) (jgBD σ i)) ∧ (∀ i j, i < j → j < jgBc σ → nb (jgBS σ) i + nb (jgBL σ) i + 4 ≤ nb (jgBS σ) j) ∧ (∀ i j, i < jgBc σ → j < jgBc σ → jgBD σ i = jgBD σ j → i = j)
def cSame (σ : BJ) (τ : BM) : Prop := ∀ i, i < jgBc σ → kgDG τ i = jgBD σ i ∧ kgLN τ i = jgBL σ i ∧ ∀ k, k < nb (jgBL σ) i → kgBY τ (700 * i + k) = jgW σ (nb (jgBS σ) i + k)
def cTags (σ : BJ) (τ : BM) : Prop := ∀ t, t < 8 → (kgTE τ t = false ∧ jgTB σ t = -1) ∨ (kgTE τ t = true ∧ ∃ b, b < jgBc σ ∧ jgTB σ t = nI b ∧ kgTG τ t = jgBD σ b)
def cKeys (σ : BJ) (τ : BM) : Prop := (∀ i, i < jgKc σ → kgKS τ i = jgKS σ i ∧ kgTO τ i = jgKD σ i) ∧ ∀ i j, i < jgKc σ → j < jgKc σ → jgKS σ i = jgKS σ j → i = j
def Core (a : Nat) (σ : BJ) (τ : BM) : Prop := a ≤ 700 ∧ (kgBl τ = jgBc σ ∧ jgBc σ ≤ 20) ∧ (kgKn τ = jgKc σ ∧ jgKc σ ≤ 16) ∧ bud σ ≤ a ∧ cBlobs a σ ∧ cSame σ τ ∧ cTags σ τ ∧ cKeys σ τ
theorem Core.mono {a b : Nat} {σ : BJ} {τ : BM} (h : Core a σ τ) (hab : a ≤ b) (hb : b ≤ 700) : Core b σ τ := by
  obtain ⟨h1, h2, h3, h4, ⟨h5, h6, h7⟩, h8⟩ := h
  exact ⟨hb, h2, h3, by omega, ⟨fun i hi => (h5 i hi).mono hab, h6, h7⟩, h8⟩
/-- Core speaks of these alone -/
def viewC (σ σ' : BJ) : Prop := jgBc σ' = jgBc σ ∧ jgKc σ' = jgKc σ ∧ jgBL σ' = jgBL σ ∧ jgBS σ' = jgBS σ ∧ jgBD σ' = jgBD σ ∧ jgTB σ' = jgTB σ ∧ jgKS σ' = jgKS σ ∧ jgKD σ' = jgKD σ
def viewM (τ τ' : BM) : Prop := kgBl τ' = kgBl τ ∧ kgKn τ' = kgKn τ ∧ kgDG τ' = kgDG τ ∧ kgLN τ' = kgLN τ ∧ kgBY τ' = kgBY τ ∧ kgTE τ' = kgTE τ ∧ kgTG τ' = kgTG τ ∧ kgKS τ' = kgKS τ ∧ kgTO τ' = kgTO τ
theorem Core.view {a : Nat} {σ σ' : BJ} {τ τ' : BM} (h : Core a σ τ) (v : viewC σ σ') (w : viewM τ τ') (hW : ∀ i, i < a → jgW σ' i = jgW σ i) : Core a σ' τ' := by
  obtain ⟨h1, h2, h3, h4, ⟨h5, h6, h7⟩, h8, h9, h10⟩ := h
  obtain ⟨v1, v2, v3, v4, v5, v6, v7, v8⟩ := v
  obtain ⟨w1, w2, w3, w4, w5, w6, w7, w8, w9⟩ := w
  refine ⟨h1, by rw [w1, v1]; exact h2, by rw [w2, v2]; exact h3, ?_, ⟨?_, ?_, ?_⟩, ?_, ?_, ?_⟩
  · unfold bud at h4 ⊢; rw [v1, v2, v3, v6]; exact h4
  · rw [v1, v3, v4, v5]; exact fun i hi => (h5 i hi).move hW
  · rw [v1, v3, v4]; exact h6
  · rw [v1, v5]; exact h7
  · unfold cSame at h8 ⊢
    rw [v1, v3, v4, v5, w3, w4, w5]
    intro i hi
    obtain ⟨q1, q2, q3⟩ := h8 i hi
    obtain ⟨-, -, -, p4, -⟩ := h5 i hi
    have p4 : nb (jgBS σ) i + nb (jgBL σ) i + 1 ≤ a := p4
    exact ⟨q1, q2, fun k hk => by rw [hW _ (by omega)]; exact q3 k hk⟩
  · unfold cTags at h9 ⊢; rw [v1, v5, v6, w6, w7]; exact h9
  · unfold cKeys at h10 ⊢; rw [v2, v7, v8, w8, w9]; exact h10
/-- a new blob, out of the record at a -/
def newB (σ : BJ) (st n : Nat) : BJ := juBc (juBL (juBS (juBD σ (vp_updL (jgBD σ) (jgBc σ) (dg (jgW σ) st n))) (upd (jgBS σ) (jgBc σ) (nI st))) (upd (jgBL σ) (jgBc σ) (nI n))) (jgBc σ + 1)
theorem core_blob {a n : Nat} {σ : BJ} {τ τ' : BM} (h : Core a σ τ) (h20 : jgBc σ < 20) (ha : a + (4 + n) ≤ 700) (hk : jgW σ a = nI 1) (hlen : lenAt (jgW σ) a = n) (hsum : jgW σ (a + 3 + n) = sm (jgW σ) a (3 + n)) (hf : ∀ i, i < jgBc σ → jgBD σ i ≠ dg (jgW σ) (a + 3) n)
    (b1 : kgBl τ' = jgBc σ + 1) (b2 : ∀ i, i < jgBc σ → kgDG τ' i = kgDG τ i ∧ kgLN τ' i = kgLN τ i ∧ ∀ k, k < 700 → kgBY τ' (700 * i + k) = kgBY τ (700 * i + k))
    (b3 : kgDG τ' (jgBc σ) = dg (jgW σ) (a + 3) n ∧ kgLN τ' (jgBc σ) = nI n ∧ ∀ k, k < n → kgBY τ' (700 * jgBc σ + k) = jgW σ (a + 3 + k)) (b4 : ∀ t, t < 8 → kgTE τ' t = kgTE τ t ∧ kgTG τ' t = kgTG τ t) (b5 : kgKn τ' = kgKn τ) (b6 : ∀ i, i < kgKn τ → kgKS τ' i = kgKS τ i ∧ kgTO τ' i = kgTO τ i) :
    Core (a + (4 + n)) (newB σ (a + 3) n) τ' := by
  obtain ⟨h1, h2, h3, h4, ⟨h5, h6, h7⟩, h8, h9, h10, h11⟩ := h
  have eD : jgBD (newB σ (a + 3) n) = vp_updL (jgBD σ) (jgBc σ) (dg (jgW σ) (a + 3) n) := rfl
  have eS : jgBS (newB σ (a + 3) n) = upd (jgBS σ) (jgBc σ) (nI (a + 3)) := rfl
  have eL : jgBL (newB σ (a + 3) n) = upd (jgBL σ) (jgBc σ) (nI n) := rfl
  have eC : jgBc (newB σ (a + 3) n) = jgBc σ + 1 := rfl
  have eW : jgW (newB σ (a + 3) n) = jgW σ := rfl
  have eT : jgTB (newB σ (a + 3) n) = jgTB σ := rfl
  have oD : ∀ i, i < jgBc σ → vp_updL (jgBD σ) (jgBc σ) (dg (jgW σ) (a + 3) n) i = jgBD σ i := fun i hi => by rw [updL_eq, if_neg (by omega)]
  have oS : ∀ i, i < jgBc σ → upd (jgBS σ) (jgBc σ) (nI (a + 3)) i = jgBS σ i := fun i hi => by rw [upd_eq, if_neg (by omega)]
  have oL : ∀ i, i < jgBc σ → upd (jgBL σ) (jgBc σ) (nI n) i = jgBL σ i := fun i hi => by rw [upd_eq, if_neg (by omega)]
  have nD : vp_updL (jgBD σ) (jgBc σ) (dg (jgW σ) (a + 3) n) (jgBc σ) = dg (jgW σ) (a + 3) n := by rw [updL_eq, if_pos rfl]
  have nS : upd (jgBS σ) (jgBc σ) (nI (a + 3)) (jgBc σ) = nI (a + 3) := by rw [upd_eq, if_pos rfl]
  have nL : upd (jgBL σ) (jgBc σ) (nI n) (jgBc σ) = nI n := by rw [upd_eq, if_pos rfl]
  have cS : nb (upd (jgBS σ) (jgBc σ) (nI (a + 3))) (jgBc σ) = a + 3 := nb_of nS (by omega)
  have cL : nb (upd (jgBL σ) (jgBc σ) (nI n)) (jgBc σ) = n := nb_of nL (by omega)
  have kS : ∀ i, i < jgBc σ → nb (upd (jgBS σ) (jgBc σ) (nI (a + 3))) i = nb (jgBS σ) i := fun i hi => nb_congr (oS i hi)
  have kL : ∀ i, i < jgBc σ → nb (upd (jgBL σ) (jgBc σ) (nI n)) i = nb (jgBL σ) i := fun i hi => nb_congr (oL i hi)
  refine ⟨ha, ⟨b1, by rw [eC]; omega⟩, ⟨b5.trans h3.1, h3.2⟩, ?_, ⟨?_, ?_, ?_⟩, ?_, ?_, ?_, ?_⟩
  · unfold bud at h4 ⊢
    rw [eL, eC, eT]
    show sumN (fun i => 4 + nb (upd (jgBL σ) (jgBc σ) (nI n)) i) (jgBc σ) + (4 + nb (upd (jgBL σ) (jgBc σ) (nI n)) (jgBc σ)) + sumN (fun t => if jgTB σ t = -1 then 0 else 13) 8 + 20 * jgKc σ ≤ _
    rw [cL, sumN_congr (g := fun i => 4 + nb (jgBL σ) i) (fun i hi => by rw [kL i hi])]
    omega
  · rw [eC, eW, eS, eL, eD]
    intro i hi
    by_cases e : i = jgBc σ
    · subst e
      rw [nD, nS, nL]
      unfold BlobOk
      rw [nI_clamp (by omega), nI_clamp (by omega)]
      refine ⟨rfl, rfl, by omega, by omega, ?_, ?_, ?_, rfl⟩
      · rw [show a + 3 - 3 = a by omega]; exact hk
      · rw [show a + 3 - 3 = a by omega]; exact hlen
      · rw [show a + 3 - 3 = a by omega]; exact hsum
    · rw [oD i (by omega), oS i (by omega), oL i (by omega)]
      exact (h5 i (by omega)).mono (by omega)
  · rw [eC, eS, eL]
    intro i j hij hj
    by_cases e : j = jgBc σ
    · subst e
      rw [kS i hij, kL i hij, cS]
      obtain ⟨-, -, -, p4, -⟩ := h5 i hij
      have p4 : nb (jgBS σ) i + nb (jgBL σ) i + 1 ≤ a := p4
      omega
    · rw [kS i (by omega), kL i (by omega), kS j (by omega)]
      exact h6 i j hij (by omega)
  · rw [eC, eD]
    intro i j hi hj
    by_cases ei : i = jgBc σ
    · by_cases ej : j = jgBc σ
      · omega
      · subst ei
        rw [nD, oD j (by omega)]
        exact fun q => absurd q.symm (hf j (by omega))
    · by_cases ej : j = jgBc σ
      · subst ej
        rw [nD, oD i (by omega)]
        exact fun q => absurd q (hf i (by omega))
      · rw [oD i (by omega), oD j (by omega)]
        exact h7 i j (by omega) (by omega)
  · unfold cSame
    rw [eC, eD, eL, eS, eW]
    intro i hi
    by_cases e : i = jgBc σ
    · subst e
      rw [nD, nL, cL, cS]
      exact b3
    · have hi' : i < jgBc σ := by omega
      rw [oD i hi', oL i hi', kL i hi', kS i hi']
      obtain ⟨q1, q2, q3⟩ := h8 i hi'
      obtain ⟨c1, c2, c3⟩ := b2 i hi'
      obtain ⟨-, -, -, p4, -⟩ := h5 i hi'
      have p4 : nb (jgBS σ) i + nb (jgBL σ) i + 1 ≤ a := p4
      exact ⟨c1.trans q1, c2.trans q2, fun k hk => (c3 k (by omega)).trans (q3 k hk)⟩
  · unfold cTags
    rw [eC, eT, eD]
    intro t ht
    rw [(b4 t ht).1, (b4 t ht).2]
    rcases h9 t ht with q | ⟨q1, b, q2, q3, q4⟩
    · exact Or.inl q
    · exact Or.inr ⟨q1, b, by omega, q3, by rw [oD b q2]; exact q4⟩
  · intro i hi
    have hi' : i < kgKn τ := by rw [h3.1]; exact hi
    rw [(b6 i hi').1, (b6 i hi').2]
    exact h10 i hi
  · exact h11
theorem core_tell {a b t n : Nat} {d : Int64} {σ : BJ} {τ τ' : BM} (h : Core a σ τ) (ht : t < 8) (hb : b < jgBc σ) (hd : jgBD σ b = d) (ha : a + (4 + n) ≤ 700) (hn : 9 ≤ n)
    (c1 : kgBl τ' = kgBl τ) (c2 : kgDG τ' = kgDG τ) (c3 : kgLN τ' = kgLN τ) (c4 : kgBY τ' = kgBY τ) (c5 : ∀ u, u < 8 → kgTE τ' u = updB (kgTE τ) t true u) (c6 : ∀ u, u < 8 → kgTG τ' u = vp_updL (kgTG τ) t d u) (c7 : kgKn τ' = kgKn τ) (c8 : kgKS τ' = kgKS τ) (c9 : kgTO τ' = kgTO τ) :
    Core (a + (4 + n)) (juTB σ (upd (jgTB σ) t (nI b))) τ' := by
  obtain ⟨h1, h2, h3, h4, ⟨h5, h6, h7⟩, h8, h9, h10⟩ := h
  have eT : jgTB (juTB σ (upd (jgTB σ) t (nI b))) = upd (jgTB σ) t (nI b) := rfl
  refine ⟨ha, ⟨c1.trans h2.1, h2.2⟩, ⟨c7.trans h3.1, h3.2⟩, ?_, ⟨fun i hi => (h5 i hi).mono (by omega), h6, h7⟩, ?_, ?_, ?_⟩
  · unfold bud at h4 ⊢
    rw [eT]
    have := (sumN_upd (f := fun t => if jgTB σ t = -1 then 0 else 13) (g := fun u => if upd (jgTB σ) t (nI b) u = -1 then 0 else 13) (t := t) (c := 13) (by
      show (if upd (jgTB σ) t (nI b) t = -1 then 0 else 13) ≤ _
      by_cases q : upd (jgTB σ) t (nI b) t = -1
      · rw [if_pos q]; omega
      · rw [if_neg q]; omega) (n := 8) (fun i hi e => by
      show (if upd (jgTB σ) t (nI b) i = -1 then 0 else 13) ≤ _
      rw [upd_eq, if_neg e]; exact Nat.le_refl _)).1
    show sumN (fun i => 4 + nb (jgBL σ) i) (jgBc σ) + sumN (fun u => if upd (jgTB σ) t (nI b) u = -1 then 0 else 13) 8 + 20 * jgKc σ ≤ _
    omega
  · intro i hi
    rw [c2, c3, c4]
    exact h8 i hi
  · intro u hu
    rw [c5 u hu, c6 u hu, eT, updB_eq, updL_eq, upd_eq]
    by_cases e : u = t
    · rw [if_pos e, if_pos e, if_pos e]
      exact Or.inr ⟨rfl, b, hb, rfl, hd.symm⟩
    · rw [if_neg e, if_neg e, if_neg e]
      exact h9 u hu
  · unfold cKeys
    rw [c8, c9]
    exact h10
theorem core_untell {a t n : Nat} {σ : BJ} {τ τ' : BM} (h : Core a σ τ) (ht : t < 8) (ha : a + (4 + n) ≤ 700)
    (c1 : kgBl τ' = kgBl τ) (c2 : kgDG τ' = kgDG τ) (c3 : kgLN τ' = kgLN τ) (c4 : kgBY τ' = kgBY τ) (c5 : ∀ u, u < 8 → kgTE τ' u = updB (kgTE τ) t false u) (c6 : kgTG τ' = kgTG τ) (c7 : kgKn τ' = kgKn τ) (c8 : kgKS τ' = kgKS τ) (c9 : kgTO τ' = kgTO τ) :
    Core (a + (4 + n)) (juTB σ (upd (jgTB σ) t (-1))) τ' := by
  obtain ⟨h1, h2, h3, h4, ⟨h5, h6, h7⟩, h8, h9, h10⟩ := h
  have eT : jgTB (juTB σ (upd (jgTB σ) t (-1))) = upd (jgTB σ) t (-1) := rfl
  refine ⟨ha, ⟨c1.trans h2.1, h2.2⟩, ⟨c7.trans h3.1, h3.2⟩, ?_, ⟨fun i hi => (h5 i hi).mono (by omega), h6, h7⟩, ?_, ?_, ?_⟩
  · unfold bud at h4 ⊢
    rw [eT]
    have := (sumN_upd (f := fun t => if jgTB σ t = -1 then 0 else 13) (g := fun u => if upd (jgTB σ) t (-1) u = -1 then 0 else 13) (t := t) (c := 0) (by
      show (if upd (jgTB σ) t (-1) t = -1 then 0 else 13) ≤ _
      rw [upd_eq, if_pos rfl, if_pos rfl]; omega) (n := 8) (fun i hi e => by
      show (if upd (jgTB σ) t (-1) i = -1 then 0 else 13) ≤ _
      rw [upd_eq, if_neg e]; exact Nat.le_refl _)).1
    show sumN (fun i => 4 + nb (jgBL σ) i) (jgBc σ) + sumN (fun u => if upd (jgTB σ) t (-1) u = -1 then 0 else 13) 8 + 20 * jgKc σ ≤ _
    omega
  · intro i hi
    rw [c2, c3, c4]
    exact h8 i hi
  · intro u hu
    rw [c5 u hu, c6, eT, updB_eq, upd_eq]
    by_cases e : u = t
    · rw [if_pos e, if_pos e]
      exact Or.inl ⟨rfl, rfl⟩
    · rw [if_neg e, if_neg e]
      exact h9 u hu
  · unfold cKeys
    rw [c8, c9]
    exact h10
/-- a key learned anew, known (i is its place) or not (i is the count) -/
def newK (σ : BJ) (k d : Int64) : BJ := juKD (juKc (juKS σ (vp_updL (jgKS σ) (jgKc σ) k)) (jgKc σ + 1)) (vp_updL (jgKD σ) (jgKc σ) d)
theorem core_keyN {a n : Nat} {k d : Int64} {σ : BJ} {τ τ' : BM} (h : Core a σ τ) (h16 : jgKc σ < 16) (hf : ∀ i, i < jgKc σ → jgKS σ i ≠ k) (ha : a + (4 + n) ≤ 700) (hn : 16 ≤ n)
    (c1 : kgBl τ' = kgBl τ) (c2 : kgDG τ' = kgDG τ) (c3 : kgLN τ' = kgLN τ) (c4 : kgBY τ' = kgBY τ) (c5 : kgTE τ' = kgTE τ) (c6 : kgTG τ' = kgTG τ) (c7 : kgKn τ' = jgKc σ + 1) (c8 : ∀ i, i < jgKc σ + 1 → kgKS τ' i = vp_updL (kgKS τ) (jgKc σ) k i) (c9 : ∀ i, i < jgKc σ + 1 → kgTO τ' i = vp_updL (kgTO τ) (jgKc σ) d i) :
    Core (a + (4 + n)) (newK σ k d) τ' := by
  obtain ⟨h1, h2, h3, h4, ⟨h5, h6, h7⟩, h8, h9, h10, h11⟩ := h
  have eK : jgKc (newK σ k d) = jgKc σ + 1 := rfl
  have eS : jgKS (newK σ k d) = vp_updL (jgKS σ) (jgKc σ) k := rfl
  have eD : jgKD (newK σ k d) = vp_updL (jgKD σ) (jgKc σ) d := rfl
  refine ⟨ha, ⟨c1.trans h2.1, h2.2⟩, ⟨c7, by rw [eK]; omega⟩, ?_, ⟨fun i hi => (h5 i hi).mono (by omega), h6, h7⟩, ?_, ?_, ?_, ?_⟩
  · unfold bud at h4 ⊢
    show sumN (fun i => 4 + nb (jgBL σ) i) (jgBc σ) + sumN (fun t => if jgTB σ t = -1 then 0 else 13) 8 + 20 * (jgKc σ + 1) ≤ _
    omega
  · intro i hi
    rw [c2, c3, c4]
    exact h8 i hi
  · unfold cTags
    rw [c5, c6]
    exact h9
  · rw [eK, eS, eD]
    intro i hi
    rw [c8 i hi, c9 i hi, updL_eq, updL_eq, updL_eq, updL_eq]
    by_cases e : i = jgKc σ
    · rw [if_pos e, if_pos e, if_pos e, if_pos e]; exact ⟨rfl, rfl⟩
    · rw [if_neg e, if_neg e, if_neg e, if_neg e]; exact h10 i (by omega)
  · rw [eK, eS]
    intro i j hi hj
    rw [updL_eq, updL_eq]
    by_cases ei : i = jgKc σ
    · by_cases ej : j = jgKc σ
      · omega
      · rw [if_pos ei, if_neg ej]; exact fun q => absurd q.symm (hf j (by omega))
    · by_cases ej : j = jgKc σ
      · rw [if_neg ei, if_pos ej]; exact fun q => absurd q (hf i (by omega))
      · rw [if_neg ei, if_neg ej]; exact h11 i j (by omega) (by omega)
theorem core_keyO {a n i : Nat} {k d : Int64} {σ : BJ} {τ τ' : BM} (h : Core a σ τ) (hi : i < jgKc σ) (hk : jgKS σ i = k) (ha : a + (4 + n) ≤ 700)
    (c1 : kgBl τ' = kgBl τ) (c2 : kgDG τ' = kgDG τ) (c3 : kgLN τ' = kgLN τ) (c4 : kgBY τ' = kgBY τ) (c5 : kgTE τ' = kgTE τ) (c6 : kgTG τ' = kgTG τ) (c7 : kgKn τ' = kgKn τ) (c8 : kgKS τ' = vp_updL (kgKS τ) i k) (c9 : kgTO τ' = vp_updL (kgTO τ) i d) :
    Core (a + (4 + n)) (juKD σ (vp_updL (jgKD σ) i d)) τ' := by
  obtain ⟨h1, h2, h3, h4, ⟨h5, h6, h7⟩, h8, h9, h10, h11⟩ := h
  have eD : jgKD (juKD σ (vp_updL (jgKD σ) i d)) = vp_updL (jgKD σ) i d := rfl
  refine ⟨ha, ⟨c1.trans h2.1, h2.2⟩, ⟨c7.trans h3.1, h3.2⟩, ?_, ⟨fun i hi => (h5 i hi).mono (by omega), h6, h7⟩, ?_, ?_, ?_, h11⟩
  · exact Nat.le_trans h4 (by omega)
  · intro i hi
    rw [c2, c3, c4]
    exact h8 i hi
  · unfold cTags
    rw [c5, c6]
    exact h9
  · rw [eD]
    intro j hj
    have hj : j < jgKc σ := hj
    have q := h10 j hj
    rw [c8, c9, updL_eq, updL_eq, updL_eq]
    show _ = jgKS σ j ∧ _
    by_cases e : j = i
    · rw [if_pos e, if_pos e, if_pos e, e]; exact ⟨hk.symm, rfl⟩
    · rw [if_neg e, if_neg e, if_neg e]; exact q
