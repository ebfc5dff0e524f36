/-! collecting: what both write -/
def onlyW (σ x : BJ) : Prop := viewC σ x ∧ jgSc x = jgSc σ ∧ jgT x = jgT σ ∧ jgTc x = jgTc σ ∧ jgPD x = jgPD σ
theorem onlyW.rf (σ : BJ) : onlyW σ σ := ⟨viewC.rf σ, rfl, rfl, rfl, rfl⟩
theorem viewC.tr {a b c : BJ} (h : viewC a b) (g : viewC b c) : viewC a c := ⟨g.1.trans h.1, g.2.1.trans h.2.1, g.2.2.1.trans h.2.2.1, g.2.2.2.1.trans h.2.2.2.1, g.2.2.2.2.1.trans h.2.2.2.2.1, g.2.2.2.2.2.1.trans h.2.2.2.2.2.1, g.2.2.2.2.2.2.1.trans h.2.2.2.2.2.2.1, g.2.2.2.2.2.2.2.trans h.2.2.2.2.2.2.2⟩
theorem onlyW.tr {a b c : BJ} (h : onlyW a b) (g : onlyW b c) : onlyW a c := ⟨h.1.tr g.1, g.2.1.trans h.2.1, g.2.2.1.trans h.2.2.1, g.2.2.2.1.trans h.2.2.2.1, g.2.2.2.2.trans h.2.2.2.2⟩
theorem onlyW.wR (σ : BJ) (bs : List Int32) : onlyW σ (wR σ bs) := ⟨wR_view σ bs, wL_Sc σ _, wL_T σ _, wL_Tc σ _, (wR_keep σ _).2.2.2.2.2.2.1⟩
theorem onlyW.told {σ x : BJ} (h : onlyW σ x) (i : Nat) : isTold x i = isTold σ i := by
  unfold isTold
  rw [h.1.2.2.2.2.2.1, h.2.2.2.2, h.1.2.2.2.2.1]
theorem anyB_congr {p q : Nat → Bool} : ∀ {n : Nat}, (∀ i, i < n → p i = q i) → anyB p n = anyB q n
  | 0, _ => rfl
  | n + 1, h => by
    rw [anyB_s, anyB_s, anyB_congr (fun i hi => h i (by omega)), h n (by omega)]
theorem told_eq {a : Nat} {σ : BJ} {τ : BM} (hC : Core a σ τ) (hp : ∀ k, k < 4 → kgPN τ k = jgPD σ k) {i : Nat} (hi : i < jgBc σ) : isToldM τ (jgBD σ i) = isTold σ i := by
  obtain ⟨-, h2, -, -, ⟨-, -, h7⟩, -, h9, -⟩ := hC
  unfold isToldM isTold
  rw [anyB_congr (n := 8) (q := fun t => decide (jgTB σ t = nI i)) (fun t ht => ?_), anyB_congr (n := 4) (q := fun k => decide (jgPD σ k ≠ 0) && decide (jgPD σ k = jgBD σ i)) (fun k hk => by rw [hp k hk])]
  rcases h9 t ht with ⟨q1, q2⟩ | ⟨q1, b, q2, q3, q4⟩
  · rw [q1, Bool.false_and, decide_eq_false (by rw [q2]; exact Ne.symm (optI_none (by omega)))]
  · rw [q1, Bool.true_and, q4, q3]
    by_cases e : b = i
    · rw [decide_eq_true (by rw [e]), decide_eq_true (by rw [e])]
    · rw [decide_eq_false (fun q => e (h7 b i q2 hi q)), decide_eq_false (fun q => e ((nI_eq (by omega) (by omega)).mp q))]
def sameM (τ y : BM) : Prop := kgTE y = kgTE τ ∧ kgTG y = kgTG τ ∧ kgPN y = kgPN τ ∧ kgT y = kgT τ ∧ kgMy y = kgMy τ ∧ kgTh y = 0
theorem sameM.told {τ y : BM} (h : sameM τ y) (d : Int64) : isToldM y d = isToldM τ d := by
  unfold isToldM
  rw [h.1, h.2.1, h.2.2.1]
theorem sameM.tr0 {τ y z : BM} (h : sameM τ y) (g1 : kgTE z = kgTE y) (g2 : kgTG z = kgTG y) (g3 : kgPN z = kgPN y) (g4 : kgT z = kgT y) (g5 : kgMy z = kgMy y) (g6 : kgTh z = kgTh y) : sameM τ z := ⟨g1.trans h.1, g2.trans h.2.1, g3.trans h.2.2.1, g4.trans h.2.2.2.1, g5.trans h.2.2.2.2.1, g6.trans h.2.2.2.2.2⟩
theorem ciSt_same (τ : BM) (b left k : Nat) : kgTE (ciSt τ b left k) = kgTE τ ∧ kgTG (ciSt τ b left k) = kgTG τ ∧ kgPN (ciSt τ b left k) = kgPN τ ∧ kgT (ciSt τ b left k) = kgT τ ∧ kgMy (ciSt τ b left k) = kgMy τ ∧ kgTh (ciSt τ b left k) = kgTh τ ∧ kgKS (ciSt τ b left k) = kgKS τ ∧ kgTO (ciSt τ b left k) = kgTO τ ∧ kgKn (ciSt τ b left k) = kgKn τ ∧ kgJR (ciSt τ b left k) = kgJR τ := by
  induction k with
  | zero => exact ⟨rfl, rfl, rfl, rfl, rfl, rfl, rfl, rfl, rfl, rfl⟩
  | succ k ih => exact ih
theorem ciSt_RCb {τ : BM} {b left : Nat} (h : byt (kgRC τ) 700) : ∀ k, byt (kgRC (ciSt τ b left k)) 700
  | 0 => h
  | k + 1 => nx_byt (τ := ciSt τ b left k) (by omega) (ciSt_RCb h k)
theorem ciSt_BY {τ : BM} {b left n : Nat} (hlb : left ≤ b) (hn : n ≤ 700) (hb : ∀ j, j < n → isB (kgBY τ (700 * b + j))) : ∀ k, k ≤ n → kgBY (ciSt τ b left k) = putL (kgBY τ) (700 * left) ((List.range k).map (fun j => kgBY τ (700 * b + j))) ∧ ∀ j, j < k → kgRC (ciSt τ b left k) j = kgBY τ (700 * b + j)
  | 0, _ => ⟨by rw [List.range_zero, List.map_nil, putL_nil]; rfl, fun j h => by omega⟩
  | k + 1, hk => by
    obtain ⟨h1, h2⟩ := ciSt_BY hlb hn hb k (by omega)
    have hL := (ciSt_keep τ b left k).2.1
    have hv : kgBY (ciSt τ b left k) (700 * b + k) = kgBY τ (700 * b + k) := by
      rw [h1]
      refine putL_out ?_
      rw [rng_len]
      by_cases e : left = b
      · subst e; exact Or.inr (by omega)
      · exact Or.inr (by omega)
    have hr : kgRC (nxSt (ciSt τ b left k) (kgBY (ciSt τ b left k) (700 * b + k)).toInt64 1) k = kgBY τ (700 * b + k) := by
      have := nx_RC (τ := ciSt τ b left k) (v := (kgBY (ciSt τ b left k) (700 * b + k)).toInt64) (i := 1) (j := 0) (by omega)
      rw [hL, Nat.add_zero] at this
      rw [this, hv, nb8_byte (hb k (by omega))]
    constructor
    · show upd (kgBY (ciSt τ b left k)) (700 * left + k) (kgRC (nxSt (ciSt τ b left k) (kgBY (ciSt τ b left k) (700 * b + k)).toInt64 1) k) = _
      rw [hr, h1]
      have := putL_snoc (kgBY τ) (700 * left) ((List.range k).map (fun j => kgBY τ (700 * b + j))) (kgBY τ (700 * b + k))
      rw [rng_len] at this
      rw [this, rng_map (fun j => kgBY τ (700 * b + j))]
    · intro j hj
      show kgRC (nxSt (ciSt τ b left k) (kgBY (ciSt τ b left k) (700 * b + k)).toInt64 1) j = _
      by_cases e : j = k
      · subst e; exact hr
      · rw [nx_RClo (by omega)]; exact h2 j (by omega)
theorem wrM_rec {y : BM} {k : Int32} {g : Nat → Int32} {s n : Nat} (hn : n ≤ 700) (hLe : kgLe y = n) (hRC : ∀ j, j < n → kgRC y j = g (s + 3 + j)) (h0 : g s = k) (h1 : lenAt g s = n) (hb1 : isB (g (s + 1))) (hb2 : isB (g (s + 2))) (hsum : g (s + 3 + n) = sm g s (3 + n)) : ∀ q, q < 4 + n → kgJR (wrM y k) (kgSz y + q) = g (s + q) := by
  have hbs : (hdM k n ++ (List.range n).map (kgRC y)).length = 3 + n := by rw [List.length_append, rng_len]; rfl
  have key : ∀ q, q < 3 + n → (hdM k n ++ (List.range n).map (kgRC y)).getD q 0 = g (s + q) := by
    intro q hq
    rw [hdM_eq hn]
    obtain ⟨a1, a2⟩ := hb1
    obtain ⟨c1, c2⟩ := hb2
    have hlen : nb g (s + 1) + 256 * nb g (s + 2) = n := h1
    have a1 : g (s + 1) = nI (nb g (s + 1)) := a1
    have c1 : g (s + 2) = nI (nb g (s + 2)) := c1
    have a2 : nb g (s + 1) < 256 := a2
    have c2 : nb g (s + 2) < 256 := c2
    by_cases q0 : q = 0
    · subst q0; rw [hd_eq (by omega)]; exact h0.symm
    · by_cases q1 : q = 1
      · subst q1; rw [hd_eq (by omega), a1, show nb g (s + 1) = n % 256 by omega]; rfl
      · by_cases q2 : q = 2
        · subst q2; rw [hd_eq (by omega), c1, show nb g (s + 2) = n / 256 by omega]; rfl
        · rw [show q = 3 + (q - 3) by omega, hdb_get, List.getD_eq_getElem?_getD, List.getElem?_map, List.getElem?_range (by omega : q - 3 < n)]
          show kgRC y (q - 3) = _
          rw [hRC _ (by omega), Nat.add_assoc s 3]
  intro q hq
  rw [wrM_JR, hLe, upd_eq]
  by_cases e : kgSz y + q = kgSz y + 3 + n
  · rw [if_pos e, show s + q = s + 3 + n by omega, hsum]
    refine sm_congr (fun j hj => ?_)
    rw [putL_get (by rw [hbs]; omega)]
    exact key j hj
  · rw [if_neg e, putL_get (by rw [hbs]; omega)]
    exact key q (by omega)
theorem wrM_lo {y : BM} {k : Int32} {q : Nat} (h : q < kgSz y) : kgJR (wrM y k) q = kgJR y q := by
  rw [wrM_JR, upd_eq, if_neg (by omega), putL_out (Or.inl h)]
def wB4 (σ : BJ) (j : Nat) : Nat := 4 + nb (jgBL σ) j
theorem starts {a : Nat} {σ : BJ} (h : cBlobs a σ) : ∀ i, i < jgBc σ → sumN (wB4 σ) i + 3 ≤ nb (jgBS σ) i
  | 0, h0 => by
    obtain ⟨-, -, p3, -⟩ := h.1 0 h0
    have p3 : 3 ≤ nb (jgBS σ) 0 := p3
    show 0 + 3 ≤ _
    omega
  | i + 1, hi => by
    have h1 := starts h i (by omega)
    have h2 := h.2.1 i (i + 1) (by omega) hi
    show sumN (wB4 σ) i + (4 + nb (jgBL σ) i) + 3 ≤ _
    omega
def AB (σ : BJ) (τ : BM) (i : Nat) (x : BJ) (lf : Nat) (y : BM) : Prop :=
  (onlyW σ x ∧ byt (jgW x) 700 ∧ (∀ q, jgWc x ≤ q → jgW x q = jgW σ q) ∧ jgWc x ≤ sumN (wB4 σ) i) ∧ (kgSz y = jgWc x ∧ (∀ q, q < jgWc x → kgJR y q = jgW x q) ∧ byt (kgJR y) 700 ∧ byt (kgRC y) 700) ∧ (sameM τ y ∧ kgKS y = kgKS τ ∧ kgTO y = kgTO τ ∧ kgKn y = kgKn τ ∧ kgBl y = kgBl τ) ∧ lf ≤ i ∧
  (∀ j, i ≤ j → j < jgBc σ → kgDG y j = kgDG τ j ∧ kgLN y j = kgLN τ j ∧ ∀ k, k < 700 → kgBY y (700 * j + k) = kgBY τ (700 * j + k)) ∧ (∀ r, r < lf → ∃ j, j < i ∧ isTold σ j = true ∧ kgDG y r = jgBD σ j) ∧ ∀ j, j < i → isTold σ j = true → ∃ r, r < lf ∧ kgDG y r = jgBD σ j
/-- what is known of blob i and its record -/
theorem blob_at {σ : BJ} {τ : BM} (R : Rel σ τ) {i : Nat} (hi : i < jgBc σ) : ∃ st n, nb (jgBS σ) i = st ∧ nb (jgBL σ) i = n ∧ jgBS σ i = nI st ∧ jgBL σ i = nI n ∧ 3 ≤ st ∧ st + n + 1 ≤ 700 ∧ jgW σ (st - 3) = nI 1 ∧ lenAt (jgW σ) (st - 3) = n ∧ jgW σ (st - 3 + 3 + n) = sm (jgW σ) (st - 3) (3 + n) ∧ jgBD σ i = dg (jgW σ) st n ∧ kgDG τ i = jgBD σ i ∧ kgLN τ i = nI n ∧ ∀ k, k < n → kgBY τ (700 * i + k) = jgW σ (st + k) := by
  obtain ⟨r1, -⟩ := R
  obtain ⟨h1, -, -, -, hB, h8, -⟩ := r1
  obtain ⟨b1, b2, b3, b4, b5, b6, b7, b8⟩ := hB.1 i hi
  obtain ⟨c1, c2, c3⟩ := h8 i hi
  have b4 : nb (jgBS σ) i + nb (jgBL σ) i + 1 ≤ jgWc σ := b4
  have b3 : 3 ≤ nb (jgBS σ) i := b3
  refine ⟨_, _, rfl, rfl, b1, b2, b3, by omega, b5, b6, ?_, b8, c1, c2.trans b2, c3⟩
  rw [show nb (jgBS σ) i - 3 + 3 = nb (jgBS σ) i by omega]
  exact b7
/-- how a turn over the blobs goes -/
def AX (σ : BJ) (i : Nat) (x : BJ) (lf : Nat) (y : BM) (x' : BJ) (lf' : Nat) (y' : BM) : Prop := (isTold σ i = false ∧ x' = x ∧ lf' = lf ∧ y' = y) ∨ (isTold σ i = true ∧ lf' = lf + 1 ∧ jgWc x' = jgWc x + (4 + nb (jgBL σ) i) ∧ (∀ q, q < 4 + nb (jgBL σ) i → jgW x' (jgWc x + q) = jgW σ (nb (jgBS σ) i - 3 + q)) ∧ kgDG y' = vp_updL (kgDG y) lf (jgBD σ i) ∧ kgLN y' = upd (kgLN y) lf (jgBL σ i) ∧ kgBY y' = putL (kgBY y) (700 * lf) ((List.range (nb (jgBL σ) i)).map (fun j => jgW σ (nb (jgBS σ) i + j))))
set_option maxHeartbeats 8000000 in
theorem ab_step {σ x : BJ} {τ y : BM} {i lf : Nat} (R : Rel σ τ) (hi : i + 1 ≤ jgBc σ) (hq : AB σ τ i x lf y) : AB σ τ (i + 1) (rbS x i) (cbS (lf, y) i).1 (cbS (lf, y) i).2 ∧ AX σ i x lf y (rbS x i) (cbS (lf, y) i).1 (cbS (lf, y) i).2 := by
  obtain ⟨⟨a1, a2, a3, a4⟩, ⟨b1, b2, b3, b4⟩, ⟨c1, c2, c3, c4, c5⟩, d1, d2, d3, d4⟩ := hq
  obtain ⟨st, n, e1, e2, e3, e4, e5, e6, e7, e8, e9, e10, e11, e12, e13⟩ := blob_at R (show i < jgBc σ by omega)
  have hst := starts R.1.2.2.2.2.1 i (by omega)
  rw [e1] at hst
  obtain ⟨f1, f2, f3⟩ := d2 i (Nat.le_refl _) (by omega)
  have htold : isToldM y (kgDG y i) = isTold σ i := by rw [c1.told, f1, e11]; exact told_eq R.1 R.2.2.2.2.2.2.2.2.2.2 (by omega)
  cases ht : isTold σ i with
  | false =>
    have h1 : rbS x i = x := by rw [rbS, if_neg (by rw [a1.told, ht]; decide)]
    have h2 : cbS (lf, y) i = (lf, y) := cbS_no (q := (lf, y)) (b := i) (htold.trans ht)
    rw [h1, h2]
    refine ⟨?_, Or.inl ⟨ht, rfl, rfl, rfl⟩⟩
    refine ⟨⟨a1, a2, a3, Nat.le_trans a4 (Nat.le_add_right _ _)⟩, ⟨b1, b2, b3, b4⟩, ⟨c1, c2, c3, c4, c5⟩, by show lf ≤ i + 1; omega, fun j hj hj2 => d2 j (by omega) hj2, fun r hr => ?_, fun j hj hj2 => ?_⟩
    · obtain ⟨j, q1, q2⟩ := d3 r hr
      exact ⟨j, by omega, q2⟩
    · by_cases e : j = i
      · subst e; rw [ht] at hj2; cases hj2
      · exact d4 j (by omega) hj2
  | true =>
    have hxS : nb (jgBS x) i = st := by rw [a1.1.2.2.2.1]; exact e1
    have hxL : nb (jgBL x) i = n := by rw [a1.1.2.2.1]; exact e2
    have h1 : rbS x i = juWc (juW x (va_cpy (jgW x) (jgW x) (st - 3) (jgWc x) (4 + n))) (jgWc x + (4 + n)) := by rw [rbS, if_pos (by rw [a1.told, ht]), hxS, hxL]
    have hyn : nb (kgLN y) i = n := nb_of (by rw [f2]; exact e12) (by omega)
    have h2 : cbS (lf, y) i = (lf + 1, wrM (cbW (ciSt y i lf n) i lf) (nI 1)) := by
      rw [cbS_yes (q := (lf, y)) (b := i) (htold.trans ht)]
      show (lf + 1, wrM (cbW (ciSt y i lf (nb (kgLN y) i)) i lf) (nI 1)) = _
      rw [hyn]
    rw [h1, h2]
    have hby : byt (jgW σ) 700 := R.2.1
    have hB : ∀ j, j < n → isB (kgBY y (700 * i + j)) := fun j hj => by rw [f3 j (by omega), e13 j hj]; exact hby _ (by omega)
    obtain ⟨g1, g2⟩ := ciSt_BY (τ := y) (b := i) (left := lf) d1 (by omega) hB n (Nat.le_refl _)
    obtain ⟨k1, k2, k3, k4, k5⟩ := ciSt_keep y i lf n
    obtain ⟨m1, m2, m3, m4, m5, m6, m7, m8, m9, m10⟩ := ciSt_same y i lf n
    obtain ⟨z, ez⟩ : ∃ z, z = cbW (ciSt y i lf n) i lf := ⟨_, rfl⟩
    have zSz : kgSz z = jgWc x := by rw [ez]; exact k3.trans b1
    have zLe : kgLe z = n := by rw [ez]; exact k2
    have zJR : kgJR z = kgJR y := by rw [ez]; exact m10
    have zRC : ∀ j, j < n → kgRC z j = jgW σ (st - 3 + 3 + j) := fun j hj => by
      rw [ez, show st - 3 + 3 = st by omega]
      exact (g2 j hj).trans ((f3 j (by omega)).trans (e13 j hj))
    have hsrc : ∀ q, q < 4 + n → jgW x (st - 3 + q) = jgW σ (st - 3 + q) := fun q _ => a3 _ (by omega)
    have hcp : ∀ q, q < 4 + n → va_cpy (jgW x) (jgW x) (st - 3) (jgWc x) (4 + n) (jgWc x + q) = jgW σ (st - 3 + q) := fun q hq => by
      show (if jgWc x ≤ jgWc x + q ∧ jgWc x + q < jgWc x + (4 + n) then jgW x (st - 3 + (jgWc x + q - jgWc x)) else jgW x (jgWc x + q)) = _
      rw [if_pos (by omega), show jgWc x + q - jgWc x = q by omega]
      exact hsrc q hq
    have hout : ∀ q, q < jgWc x ∨ jgWc x + (4 + n) ≤ q → va_cpy (jgW x) (jgW x) (st - 3) (jgWc x) (4 + n) q = jgW x q := fun q hq => by
      show (if jgWc x ≤ q ∧ q < jgWc x + (4 + n) then jgW x (st - 3 + (q - jgWc x)) else jgW x q) = _
      rw [if_neg (by omega)]
    have hrec := wrM_rec (y := z) (k := nI 1) (g := jgW σ) (s := st - 3) (n := n) (by omega) zLe zRC e7 e8 (hby _ (by omega)) (hby _ (by omega)) e9
    rw [zSz] at hrec
    rw [← ez]
    have zv : kgTE (wrM z (nI 1)) = kgTE y ∧ kgTG (wrM z (nI 1)) = kgTG y ∧ kgPN (wrM z (nI 1)) = kgPN y ∧ kgT (wrM z (nI 1)) = kgT y ∧ kgMy (wrM z (nI 1)) = kgMy y ∧ kgTh (wrM z (nI 1)) = kgTh y ∧ kgKS (wrM z (nI 1)) = kgKS y ∧ kgTO (wrM z (nI 1)) = kgTO y ∧ kgKn (wrM z (nI 1)) = kgKn y ∧ kgBl (wrM z (nI 1)) = kgBl y := by
      rw [ez]
      exact ⟨m1, m2, m3, m4, m5, m6, m7, m8, m9, k5⟩
    obtain ⟨v1, v2, v3, v4, v5, v6, v7, v8, v9, v10⟩ := zv
    have zRCb : byt (kgRC z) 700 := by rw [ez]; exact ciSt_RCb b4 n
    have zDG : kgDG (wrM z (nI 1)) = vp_updL (kgDG y) lf (kgDG y i) := by
      rw [ez]
      show vp_updL (kgDG (ciSt y i lf n)) lf (kgDG (ciSt y i lf n) i) = _
      rw [k4]
    have zLN : kgLN (wrM z (nI 1)) = upd (kgLN y) lf (kgLN y i) := by
      rw [ez]
      show upd (kgLN (ciSt y i lf n)) lf (kgLN (ciSt y i lf n) i) = _
      rw [k1]
    have zBY : kgBY (wrM z (nI 1)) = putL (kgBY y) (700 * lf) ((List.range n).map (fun j => kgBY y (700 * i + j))) := by
      rw [ez]
      exact g1
    refine ⟨?_, Or.inr ⟨ht, rfl, by rw [e2]; rfl, by rw [e1, e2]; exact hcp, by show kgDG (wrM z (nI 1)) = _; rw [zDG, f1, e11], by show kgLN (wrM z (nI 1)) = _; rw [zLN, f2, e12, e4], ?_⟩⟩
    rotate_left
    · show kgBY (wrM z (nI 1)) = _
      rw [zBY, e1, e2]
      congr 1
      apply List.map_congr_left
      intro j hj
      have hj := List.mem_range.mp hj
      rw [f3 j (by omega), e13 j hj]
    refine ⟨⟨a1.tr ⟨⟨rfl, rfl, rfl, rfl, rfl, rfl, rfl, rfl⟩, rfl, rfl, rfl, rfl⟩, ?_, ?_, ?_⟩, ⟨?_, ?_, ?_, zRCb⟩, ⟨c1.tr0 v1 v2 v3 v4 v5 v6, v7.trans c2, v8.trans c3, v9.trans c4, v10.trans c5⟩, by show lf + 1 ≤ i + 1; omega, ?_, ?_, ?_⟩
    · intro q hq
      show isB (va_cpy (jgW x) (jgW x) (st - 3) (jgWc x) (4 + n) q)
      by_cases e : q < jgWc x ∨ jgWc x + (4 + n) ≤ q
      · rw [hout q e]; exact a2 q hq
      · have := hcp (q - jgWc x) (by omega)
        rw [show jgWc x + (q - jgWc x) = q by omega] at this
        rw [this]
        exact hby _ (by omega)
    · intro q hq
      have hq : jgWc x + (4 + n) ≤ q := hq
      show va_cpy (jgW x) (jgW x) (st - 3) (jgWc x) (4 + n) q = _
      rw [hout q (Or.inr hq)]
      exact a3 q (by omega)
    · show jgWc x + (4 + n) ≤ sumN (wB4 σ) i + (4 + nb (jgBL σ) i)
      rw [e2]; omega
    · show kgSz z + 3 + kgLe z + 1 = jgWc x + (4 + n)
      rw [zSz, zLe]; omega
    · intro q hq
      have hq : q < jgWc x + (4 + n) := hq
      show kgJR (wrM z (nI 1)) q = va_cpy (jgW x) (jgW x) (st - 3) (jgWc x) (4 + n) q
      by_cases e : q < jgWc x
      · rw [wrM_lo (by rw [zSz]; exact e), zJR, hout q (Or.inl e)]
        exact b2 q e
      · have h3 := hrec (q - jgWc x) (by omega)
        have h4 := hcp (q - jgWc x) (by omega)
        rw [show jgWc x + (q - jgWc x) = q by omega] at h3 h4
        rw [h3, h4]
    · exact wrM_byt (isB_nI (by omega)) (by rw [zJR]; exact b3) zRCb (by omega)
    · intro j hj hj2
      obtain ⟨q1, q2, q3⟩ := d2 j (by omega) hj2
      rw [zDG, zLN, zBY, updL_eq, upd_eq, if_neg (by omega), if_neg (by omega)]
      exact ⟨q1, q2, fun k hk => by rw [putL_out (Or.inr (by rw [rng_len]; omega))]; exact q3 k hk⟩
    · intro r hr
      have hr : r < lf + 1 := hr
      rw [zDG, updL_eq]
      by_cases e : r = lf
      · rw [if_pos e]
        exact ⟨i, by omega, ht, by rw [f1, e11]⟩
      · rw [if_neg e]
        obtain ⟨j, q1, q2⟩ := d3 r (by omega)
        exact ⟨j, by omega, q2⟩
    · intro j hj hj2
      show ∃ r, r < lf + 1 ∧ _
      rw [zDG]
      by_cases e : j = i
      · subst e
        exact ⟨lf, by omega, by rw [updL_eq, if_pos rfl, f1, e11]⟩
      · obtain ⟨r, q1, q2⟩ := d4 j (by omega) hj2
        exact ⟨r, by omega, by rw [updL_eq, if_neg (by omega)]; exact q2⟩
theorem ab_all {σ : BJ} {τ : BM} (R : Rel σ τ) (i : Nat) (hi : i ≤ jgBc σ) : AB σ τ i (rbL (juWc σ 0) i) (cbL (cm0 τ) i).1 (cbL (cm0 τ) i).2 := by
  induction i with
  | zero =>
    obtain ⟨r1, r2, r3, r4, r5, r6, r7, r8, r9, r10, r11⟩ := R
    exact ⟨⟨⟨⟨rfl, rfl, rfl, rfl, rfl, rfl, rfl, rfl⟩, rfl, rfl, rfl, rfl⟩, r2, fun _ _ => rfl, Nat.le_refl _⟩, ⟨rfl, fun q hq => absurd hq (Nat.not_lt_zero _), r3, r4⟩, ⟨⟨rfl, rfl, rfl, rfl, rfl, rfl⟩, rfl, rfl, rfl, rfl⟩, Nat.le_refl _, fun j _ _ => ⟨rfl, rfl, fun _ _ => rfl⟩, fun r hr => absurd hr (Nat.not_lt_zero _), fun j hj => absurd hj (Nat.not_lt_zero _)⟩
  | succ i ih => exact (ab_step R hi (ih (by omega))).1
