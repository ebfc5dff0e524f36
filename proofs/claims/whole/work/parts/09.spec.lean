/-! writing: bytes, records -/
def wB (σ : BJ) (v : Int32) : BJ := juWc (juW σ (upd (jgW σ) (jgWc σ) v)) (jgWc σ + 1)
def wL (σ : BJ) : List Int32 → BJ
  | [] => σ
  | b :: bs => wL (wB σ b) bs
theorem wL_app (σ : BJ) (a b : List Int32) : wL σ (a ++ b) = wL (wL σ a) b := by
  induction a generalizing σ with
  | nil => rfl
  | cons x a ih => exact ih (wB σ x)
theorem wL_snoc (σ : BJ) (a : List Int32) (b : Int32) : wB (wL σ a) b = wL σ (a ++ [b]) := (wL_app σ a [b]).symm
theorem wL_wc (σ : BJ) (a : List Int32) : jgWc (wL σ a) = jgWc σ + a.length := by
  induction a generalizing σ with
  | nil => rfl
  | cons x a ih =>
    show jgWc (wL (wB σ x) a) = _
    rw [ih]
    show jgWc σ + 1 + a.length = _
    simp only [List.length_cons]
    omega
/-- byte i of a long, as the class cuts it -/
def b8 (v : Int64) (i : Nat) : Int32 := ((v).toUInt64 >>> ((nI (8 * i)).toInt64.toUInt64 &&& Int64.toUInt64 63)).toInt64.toInt32 &&& nI 255
def l8 (v : Int64) : List Int32 := (List.range 8).map (b8 v)
def hd (k : Int32) (n : Nat) : List Int32 := [k, nI n &&& nI 255, ((nI n).toUInt32 >>> ((nI 8).toUInt32 &&& Int32.toUInt32 31)).toInt32]
def sm (f : Nat → Int32) (st n : Nat) : Int32 := smL f st n &&& nI 255
/-- a record: its bytes, and their sum -/
def wR (σ : BJ) (bs : List Int32) : BJ := wB (wL σ bs) (sm (jgW (wL σ bs)) (jgWc σ) bs.length)
def tyB (σ : BJ) : List Int32 := (List.range (jgTc σ)).map (jgT σ)
def rTyped (σ : BJ) : List Int32 := hd (nI 1) (jgTc σ) ++ tyB σ
def rTell (t : Nat) (d : Int64) : List Int32 := hd (nI 2) 9 ++ [nI t] ++ l8 d
def rUntell (t : Nat) : List Int32 := hd (nI 3) 1 ++ [nI t]
def rKey (k d : Int64) : List Int32 := hd (nI 4) 16 ++ (l8 k ++ l8 d)
/-! reading -/
def nb (f : Nat → Int32) (i : Nat) : Nat := (f i).toNatClampNeg
/-- the first n numbers of f are bytes -/
def byt (f : Nat → Int32) (n : Nat) : Prop := ∀ i, i < n → f i = nI (nb f i) ∧ nb f i < 256
def lenAt (f : Nat → Int32) (a : Nat) : Nat := nb f (a + 1) + 256 * nb f (a + 2)
def laL (f : Nat → Int32) (a : Nat) : Nat → Int64
  | 0 => 0
  | k + 1 => (laL f a k <<< ((nI 8).toInt64 &&& 63)) ||| (f (a + (7 - k))).toInt64
def longAt (f : Nat → Int32) (a : Nat) : Int64 := laL f a 8
def isWh (f : Nat → Int32) (a en : Nat) : Bool := decide (a + 4 ≤ en) && (decide (a + 3 + lenAt f a < en) && decide (f (a + 3 + lenAt f a) = sm f a (3 + lenAt f a)))
def fBlob (σ : BJ) (st n : Nat) : Option BJ := match fnd (jgBD σ) (dg (jgW σ) st n) (jgBc σ) with
  | some _ => some σ
  | none => if jgBc σ < 20 then some (juBc (juBL (juBS (juBD σ (vp_updL (jgBD σ) (jgBc σ) (dg (jgW σ) st n))) (upd (jgBS σ) (jgBc σ) (nI st))) (upd (jgBL σ) (jgBc σ) (nI n))) (jgBc σ + 1)) else none
def fTell (σ : BJ) (t : Nat) (d : Int64) : Option BJ := match fnd (jgBD σ) d (jgBc σ) with
  | some b => if t < 8 then some (juTB σ (upd (jgTB σ) t (nI b))) else none
  | none => none
def fUntell (σ : BJ) (t : Nat) : Option BJ := if t < 8 then some (juTB σ (upd (jgTB σ) t (-1))) else none
def fKey (σ : BJ) (k d : Int64) : Option BJ := match fnd (jgKS σ) k (jgKc σ) with
  | some i => some (juKD σ (vp_updL (jgKD σ) i d))
  | none => if jgKc σ < 16 then some (juKD (juKc (juKS σ (vp_updL (jgKS σ) (jgKc σ) k)) (jgKc σ + 1)) (vp_updL (jgKD σ) (jgKc σ) d)) else none
def follow (σ : BJ) (a : Nat) : Option BJ :=
  if jgW σ a = 1 then fBlob σ (a + 3) (lenAt (jgW σ) a)
  else if jgW σ a = 2 then (if lenAt (jgW σ) a = 9 then fTell σ (nb (jgW σ) (a + 3)) (longAt (jgW σ) (a + 3 + 1)) else none)
  else if jgW σ a = 3 then (if lenAt (jgW σ) a = 1 then fUntell σ (nb (jgW σ) (a + 3)) else none)
  else if jgW σ a = 4 then (if lenAt (jgW σ) a = 16 then fKey σ (longAt (jgW σ) (a + 3)) (longAt (jgW σ) (a + 3 + 8)) else none)
  else none
def ofO (o : Option BJ) (σ : BJ) : BJ := o.getD σ
/-- so many records at most are followed -/
def rsL (en : Nat) : Nat → Nat → BJ → Nat × BJ
  | 0, a, σ => (a, σ)
  | n + 1, a, σ => if isWh (jgW σ) a en = true then (match follow σ a with
      | some σ' => rsL en n (a + (4 + lenAt (jgW σ) a)) σ'
      | none => (a, σ)) else (a, σ)
def flI (f : Nat → Int32) (v : Int32) : Nat → (Nat → Int32)
  | 0 => f
  | n + 1 => upd (flI f v n) n v
def flJ (f : Nat → Int64) (v : Int64) : Nat → (Nat → Int64)
  | 0 => f
  | n + 1 => vp_updL (flJ f v n) n v
theorem flI_at {f : Nat → Int32} {v : Int32} {n j : Nat} (h : j < n) : flI f v n j = v := by
  induction n with
  | zero => omega
  | succ n ih =>
    show upd (flI f v n) n v j = v
    by_cases e : j = n
    · rw [upd, if_pos e]
    · rw [upd, if_neg e]; exact ih (by omega)
theorem flJ_at {f : Nat → Int64} {v : Int64} {n j : Nat} (h : j < n) : flJ f v n j = v := by
  induction n with
  | zero => omega
  | succ n ih =>
    show vp_updL (flJ f v n) n v j = v
    by_cases e : j = n
    · rw [vp_updL, if_pos e]
    · rw [vp_updL, if_neg e]; exact ih (by omega)
def rs0 (σ : BJ) : BJ := juTB (juKc (juBc σ 0) 0) (flI (jgTB σ) (-1) 8)
def restore (σ : BJ) : BJ := juSc (juWc (rsL (jgWc σ) 175 0 (rs0 σ)).2 (rsL (jgWc σ) 175 0 (rs0 σ)).1) (rsL (jgWc σ) 175 0 (rs0 σ)).1
/-! collecting -/
def anyB (q : Nat → Bool) : Nat → Bool
  | 0 => false
  | n + 1 => anyB q n || q n
def isTold (σ : BJ) (i : Nat) : Bool := anyB (fun t => decide (jgTB σ t = nI i)) 8 || anyB (fun k => decide (jgPD σ k ≠ 0) && decide (jgPD σ k = jgBD σ i)) 4
def rbS (σ : BJ) (i : Nat) : BJ := if isTold σ i = true then juWc (juW σ (va_cpy (jgW σ) (jgW σ) (nb (jgBS σ) i - 3) (jgWc σ) (4 + nb (jgBL σ) i))) (jgWc σ + (4 + nb (jgBL σ) i)) else σ
def rbL (σ : BJ) : Nat → BJ
  | 0 => σ
  | n + 1 => rbS (rbL σ n) n
def rtS (σ : BJ) (t : Nat) : BJ := if jgTB σ t = -1 then σ else wR σ (rTell t (jgBD σ (nb (jgTB σ) t)))
def rtL (σ : BJ) : Nat → BJ
  | 0 => σ
  | n + 1 => rtS (rtL σ n) n
def rkS (σ : BJ) (i : Nat) : BJ := match fnd (jgBD σ) (jgKD σ i) (jgBc σ) with
  | some b => if isTold σ b = true then wR σ (rKey (jgKS σ i) (jgKD σ i)) else σ
  | none => σ
def rkL (σ : BJ) : Nat → BJ
  | 0 => σ
  | n + 1 => rkS (rkL σ n) n
def isTg (t : Int32) : Bool := decide (¬ t < 0) && decide (¬ nI 8 ≤ t)
theorem isTg_no {t : Int32} (h : t < 0 ∨ nI 8 ≤ t) : nI 0 = bI (isTg t) := by
  rcases h with h | h
  · rw [isTg, decide_eq_false (by simpa using h)]; rfl
  · rw [isTg, decide_eq_false (p := ¬ nI 8 ≤ t) (by simpa using h), Bool.and_false]; rfl
theorem bI_nar (b : Bool) : narrow .boolean (.int (bI b)) = .int (bI b) := by cases b <;> decide
theorem lenAt_lt {f : Nat → Int32} {a : Nat} (h : byt f 700) (ha : a + 2 < 700) : lenAt f a < 65536 := by
  have h1 := (h (a + 1) (by omega)).2
  have h2 := (h (a + 2) (by omega)).2
  unfold lenAt
  omega
theorem anyB_hit {q : Nat → Bool} {i n : Nat} (hi : i < n) (h : q i = true) : anyB q n = true := by
  induction n with
  | zero => omega
  | succ n ih =>
    show (anyB q n || q n) = true
    by_cases e : i = n
    · subst e; rw [h, Bool.or_true]
    · rw [ih (by omega), Bool.true_or]
theorem anyB_miss {q : Nat → Bool} {i : Nat} (h0 : anyB q i = false) (h : q i = false) : anyB q (i + 1) = false := by
  show (anyB q i || q i) = false
  rw [h0, h]; rfl
theorem wL_Tc (σ : BJ) (a : List Int32) : jgTc (wL σ a) = jgTc σ := by
  induction a generalizing σ with
  | nil => rfl
  | cons x a ih => exact ih (wB σ x)
theorem wL_T (σ : BJ) (a : List Int32) : jgT (wL σ a) = jgT σ := by
  induction a generalizing σ with
  | nil => rfl
  | cons x a ih => exact ih (wB σ x)
theorem fBlob_some {σ : BJ} {st n i : Nat} (h : fnd (jgBD σ) (dg (jgW σ) st n) (jgBc σ) = some i) : fBlob σ st n = some σ := by rw [fBlob, h]
theorem fBlob_new {σ : BJ} {st n : Nat} (h : fnd (jgBD σ) (dg (jgW σ) st n) (jgBc σ) = none) (hb : jgBc σ < 20) : fBlob σ st n = some (juBc (juBL (juBS (juBD σ (vp_updL (jgBD σ) (jgBc σ) (dg (jgW σ) st n))) (upd (jgBS σ) (jgBc σ) (nI st))) (upd (jgBL σ) (jgBc σ) (nI n))) (jgBc σ + 1)) := by rw [fBlob, h]; exact if_pos hb
theorem fBlob_full {σ : BJ} {st n : Nat} (h : fnd (jgBD σ) (dg (jgW σ) st n) (jgBc σ) = none) (hb : ¬ jgBc σ < 20) : fBlob σ st n = none := by rw [fBlob, h]; exact if_neg hb
theorem fTell_some {σ : BJ} {t i : Nat} {d : Int64} (h : fnd (jgBD σ) d (jgBc σ) = some i) (ht : t < 8) : fTell σ t d = some (juTB σ (upd (jgTB σ) t (nI i))) := by rw [fTell, h]; exact if_pos ht
theorem fTell_none {σ : BJ} {t : Nat} {d : Int64} (h : fnd (jgBD σ) d (jgBc σ) = none) : fTell σ t d = none := by rw [fTell, h]
theorem fTell_out {σ : BJ} {t : Nat} {d : Int64} (ht : ¬ t < 8) : fTell σ t d = none := by
  rw [fTell]
  cases fnd (jgBD σ) d (jgBc σ) with
  | none => rfl
  | some i => exact if_neg ht
theorem fKey_some {σ : BJ} {i : Nat} {k d : Int64} (h : fnd (jgKS σ) k (jgKc σ) = some i) : fKey σ k d = some (juKD σ (vp_updL (jgKD σ) i d)) := by rw [fKey, h]
theorem fKey_new {σ : BJ} {k d : Int64} (h : fnd (jgKS σ) k (jgKc σ) = none) (hk : jgKc σ < 16) : fKey σ k d = some (juKD (juKc (juKS σ (vp_updL (jgKS σ) (jgKc σ) k)) (jgKc σ + 1)) (vp_updL (jgKD σ) (jgKc σ) d)) := by rw [fKey, h]; exact if_pos hk
theorem fKey_full {σ : BJ} {k d : Int64} (h : fnd (jgKS σ) k (jgKc σ) = none) (hk : ¬ jgKc σ < 16) : fKey σ k d = none := by rw [fKey, h]; exact if_neg hk
theorem isTg_nI {t : Nat} (h : t < 2 ^ 31) : isTg (nI t) = decide (t < 8) := by
  rw [isTg, decide_eq_true (nI_pos h), Bool.true_and]
  by_cases q : t < 8
  · rw [decide_eq_true q, decide_eq_true (p := ¬ nI 8 ≤ nI t) (fun z => absurd ((nI_leI (by omega) h).mp z) (by omega))]
  · rw [decide_eq_false q, decide_eq_false (p := ¬ nI 8 ≤ nI t) (fun z => z ((nI_leI (by omega) h).mpr (by omega)))]
theorem isWh_iff {f : Nat → Int32} {a en : Nat} : isWh f a en = true ↔ a + 4 ≤ en ∧ a + 3 + lenAt f a < en ∧ f (a + 3 + lenAt f a) = sm f a (3 + lenAt f a) := by
  simp only [isWh, Bool.and_eq_true, decide_eq_true_eq]
theorem fBlob_keep {σ τ : BJ} {st n : Nat} (h : fBlob σ st n = some τ) : jgW τ = jgW σ ∧ jgWc τ = jgWc σ ∧ (jgBc σ ≤ 20 → jgBc τ ≤ 20) ∧ jgKc τ = jgKc σ := by
  rw [fBlob] at h
  cases hq : fnd (jgBD σ) (dg (jgW σ) st n) (jgBc σ) with
  | some i => rw [hq] at h; cases h; exact ⟨rfl, rfl, id, rfl⟩
  | none =>
    rw [hq] at h
    by_cases hb : jgBc σ < 20
    · simp only [if_pos hb] at h; cases h; exact ⟨rfl, rfl, fun _ => hb, rfl⟩
    · simp only [if_neg hb] at h; cases h
theorem fTell_keep {σ τ : BJ} {t : Nat} {d : Int64} (h : fTell σ t d = some τ) : jgW τ = jgW σ ∧ jgWc τ = jgWc σ ∧ jgBc τ = jgBc σ ∧ jgKc τ = jgKc σ := by
  rw [fTell] at h
  cases hq : fnd (jgBD σ) d (jgBc σ) with
  | none => rw [hq] at h; cases h
  | some i =>
    rw [hq] at h
    by_cases ht : t < 8
    · simp only [if_pos ht] at h; cases h; exact ⟨rfl, rfl, rfl, rfl⟩
    · simp only [if_neg ht] at h; cases h
theorem fUntell_keep {σ τ : BJ} {t : Nat} (h : fUntell σ t = some τ) : jgW τ = jgW σ ∧ jgWc τ = jgWc σ ∧ jgBc τ = jgBc σ ∧ jgKc τ = jgKc σ := by
  rw [fUntell] at h
  by_cases ht : t < 8
  · rw [if_pos ht] at h; cases h; exact ⟨rfl, rfl, rfl, rfl⟩
  · rw [if_neg ht] at h; cases h
theorem fKey_keep {σ τ : BJ} {k d : Int64} (h : fKey σ k d = some τ) : jgW τ = jgW σ ∧ jgWc τ = jgWc σ ∧ jgBc τ = jgBc σ ∧ (jgKc σ ≤ 16 → jgKc τ ≤ 16) := by
  rw [fKey] at h
  cases hq : fnd (jgKS σ) k (jgKc σ) with
  | some i => rw [hq] at h; cases h; exact ⟨rfl, rfl, rfl, id⟩
  | none =>
    rw [hq] at h
    by_cases hb : jgKc σ < 16
    · simp only [if_pos hb] at h; cases h; exact ⟨rfl, rfl, rfl, fun _ => hb⟩
    · simp only [if_neg hb] at h; cases h
theorem follow_keep {σ τ : BJ} {a : Nat} (h : follow σ a = some τ) : jgW τ = jgW σ ∧ jgWc τ = jgWc σ ∧ (jgBc σ ≤ 20 → jgBc τ ≤ 20) ∧ (jgKc σ ≤ 16 → jgKc τ ≤ 16) := by
  rw [follow] at h
  by_cases h1 : jgW σ a = 1
  · rw [if_pos h1] at h
    have q := fBlob_keep h
    exact ⟨q.1, q.2.1, q.2.2.1, fun z => by rw [q.2.2.2]; exact z⟩
  · rw [if_neg h1] at h
    by_cases h2 : jgW σ a = 2
    · rw [if_pos h2] at h
      by_cases h9 : lenAt (jgW σ) a = 9
      · rw [if_pos h9] at h
        have q := fTell_keep h
        exact ⟨q.1, q.2.1, fun z => by rw [q.2.2.1]; exact z, fun z => by rw [q.2.2.2]; exact z⟩
      · rw [if_neg h9] at h; cases h
    · rw [if_neg h2] at h
      by_cases h3 : jgW σ a = 3
      · rw [if_pos h3] at h
        by_cases h9 : lenAt (jgW σ) a = 1
        · rw [if_pos h9] at h
          have q := fUntell_keep h
          exact ⟨q.1, q.2.1, fun z => by rw [q.2.2.1]; exact z, fun z => by rw [q.2.2.2]; exact z⟩
        · rw [if_neg h9] at h; cases h
      · rw [if_neg h3] at h
        by_cases h4 : jgW σ a = 4
        · rw [if_pos h4] at h
          by_cases h9 : lenAt (jgW σ) a = 16
          · rw [if_pos h9] at h
            have q := fKey_keep h
            exact ⟨q.1, q.2.1, fun z => by rw [q.2.2.1]; exact z, q.2.2.2⟩
          · rw [if_neg h9] at h; cases h
        · rw [if_neg h4] at h; cases h
theorem rsL_no {en n a : Nat} {σ : BJ} (h : isWh (jgW σ) a en = false) : rsL en n a σ = (a, σ) := by
  cases n with
  | zero => rfl
  | succ n => rw [rsL, if_neg (by rw [h]; decide)]
theorem rsL_stop {en n a : Nat} {σ : BJ} (h : follow σ a = none) : rsL en n a σ = (a, σ) := by
  cases n with
  | zero => rfl
  | succ n =>
    rw [rsL]
    by_cases hw : isWh (jgW σ) a en = true
    · rw [if_pos hw, h]
    · rw [if_neg hw]
theorem rsL_go {en n a : Nat} {σ τ : BJ} (hw : isWh (jgW σ) a en = true) (h : follow σ a = some τ) : rsL en (n + 1) a σ = rsL en n (a + (4 + lenAt (jgW σ) a)) τ := by
  rw [rsL, if_pos hw, h]
def by4 (v : Int32) (i : Nat) : Int32 := ((v).toUInt32 >>> ((nI (8 * i)).toUInt32 &&& Int32.toUInt32 31)).toInt32 &&& nI 255
def tyL (f : Nat → Int32) (tc : Nat) (v : Int32) : Nat → (Nat → Int32)
  | 0 => f
  | i + 1 => upd (tyL f tc v i) (tc + i) (by4 v i)
def lenS (σ : BJ) (d : Int64) : Int32 := match fnd (jgBD σ) d (jgBc σ) with
  | none => -1
  | some i => jgBL σ i
/-- what a blob's record must be for its moving: its place and length are naturals, it ends in the row, and it moves to no later place -/
def rbOk (σ : BJ) (i : Nat) : Prop := jgBS σ i = nI (nb (jgBS σ) i) ∧ 3 ≤ nb (jgBS σ) i ∧ jgBL σ i = nI (nb (jgBL σ) i) ∧ nb (jgBS σ) i + nb (jgBL σ) i + 1 ≤ 700 ∧ jgWc (rbL σ i) + 3 ≤ nb (jgBS σ) i
theorem rbS_keep (σ : BJ) (i : Nat) : jgBc (rbS σ i) = jgBc σ ∧ jgBS (rbS σ i) = jgBS σ ∧ jgBL (rbS σ i) = jgBL σ ∧ jgBD (rbS σ i) = jgBD σ := by
  unfold rbS
  by_cases h : isTold σ i = true
  · rw [if_pos h]; exact ⟨rfl, rfl, rfl, rfl⟩
  · rw [if_neg h]; exact ⟨rfl, rfl, rfl, rfl⟩
theorem rbL_keep (σ : BJ) (i : Nat) : jgBc (rbL σ i) = jgBc σ ∧ jgBS (rbL σ i) = jgBS σ ∧ jgBL (rbL σ i) = jgBL σ ∧ jgBD (rbL σ i) = jgBD σ := by
  induction i with
  | zero => exact ⟨rfl, rfl, rfl, rfl⟩
  | succ i ih =>
    have q := rbS_keep (rbL σ i) i
    exact ⟨q.1.trans ih.1, q.2.1.trans ih.2.1, q.2.2.1.trans ih.2.2.1, q.2.2.2.trans ih.2.2.2⟩
theorem wL_keep (σ : BJ) (a : List Int32) : jgTB (wL σ a) = jgTB σ ∧ jgBD (wL σ a) = jgBD σ ∧ jgBc (wL σ a) = jgBc σ ∧ jgKc (wL σ a) = jgKc σ ∧ jgKD (wL σ a) = jgKD σ ∧ jgKS (wL σ a) = jgKS σ ∧ jgPD (wL σ a) = jgPD σ ∧ jgBS (wL σ a) = jgBS σ ∧ jgBL (wL σ a) = jgBL σ := by
  induction a generalizing σ with
  | nil => exact ⟨rfl, rfl, rfl, rfl, rfl, rfl, rfl, rfl, rfl⟩
  | cons x a ih => exact ih (wB σ x)
theorem wR_keep (σ : BJ) (a : List Int32) : jgTB (wR σ a) = jgTB σ ∧ jgBD (wR σ a) = jgBD σ ∧ jgBc (wR σ a) = jgBc σ ∧ jgKc (wR σ a) = jgKc σ ∧ jgKD (wR σ a) = jgKD σ ∧ jgKS (wR σ a) = jgKS σ ∧ jgPD (wR σ a) = jgPD σ ∧ jgBS (wR σ a) = jgBS σ ∧ jgBL (wR σ a) = jgBL σ := wL_keep σ a
def rtOk (σ : BJ) (t : Nat) : Prop := jgTB σ t = -1 ∨ (jgTB σ t = nI (nb (jgTB σ) t) ∧ nb (jgTB σ) t < 20 ∧ jgWc (rtL σ t) + 13 ≤ 700)
theorem rtL_keep (σ : BJ) (i : Nat) : jgTB (rtL σ i) = jgTB σ ∧ jgBD (rtL σ i) = jgBD σ := by
  induction i with
  | zero => exact ⟨rfl, rfl⟩
  | succ i ih =>
    show jgTB (rtS (rtL σ i) i) = _ ∧ jgBD (rtS (rtL σ i) i) = _
    rw [rtS]
    by_cases h : jgTB (rtL σ i) i = -1
    · rw [if_pos h]; exact ih
    · rw [if_neg h, (wR_keep _ _).1, (wR_keep _ _).2.1]; exact ih
def rkOk (σ : BJ) (i : Nat) : Prop := ∀ b, fnd (jgBD (rkL σ i)) (jgKD (rkL σ i) i) (jgBc (rkL σ i)) = some b → isTold (rkL σ i) b = true → jgWc (rkL σ i) + 20 ≤ 700
theorem rkL_keep (σ : BJ) (i : Nat) : jgKc (rkL σ i) = jgKc σ ∧ jgBc (rkL σ i) = jgBc σ ∧ jgBD (rkL σ i) = jgBD σ := by
  induction i with
  | zero => exact ⟨rfl, rfl, rfl⟩
  | succ i ih =>
    show jgKc (rkS (rkL σ i) i) = _ ∧ jgBc (rkS (rkL σ i) i) = _ ∧ jgBD (rkS (rkL σ i) i) = _
    rw [rkS]
    cases fnd (jgBD (rkL σ i)) (jgKD (rkL σ i) i) (jgBc (rkL σ i)) with
    | none => exact ih
    | some b =>
      by_cases h : isTold (rkL σ i) b = true
      · simp only [if_pos h]
        have q := wR_keep (rkL σ i) (rKey (jgKS (rkL σ i) i) (jgKD (rkL σ i) i))
        exact ⟨q.2.2.2.1.trans ih.1, q.2.2.1.trans ih.2.1, q.2.1.trans ih.2.2⟩
      · simp only [if_neg h]; exact ih
def co1 (σ : BJ) : BJ := rbL (juWc σ 0) (jgBc σ)
def co2 (σ : BJ) : BJ := rtL (co1 σ) 8
def co3 (σ : BJ) : BJ := rkL (co2 σ) (jgKc σ)
theorem rbL_kc (σ : BJ) (i : Nat) : jgKc (rbL σ i) = jgKc σ := by
  induction i with
  | zero => rfl
  | succ i ih =>
    show jgKc (rbS (rbL σ i) i) = _
    rw [rbS]
    by_cases h : isTold (rbL σ i) i = true
    · rw [if_pos h]; exact ih
    · rw [if_neg h]; exact ih
theorem rtL_bk (σ : BJ) (i : Nat) : jgBc (rtL σ i) = jgBc σ ∧ jgKc (rtL σ i) = jgKc σ := by
  induction i with
  | zero => exact ⟨rfl, rfl⟩
  | succ i ih =>
    show jgBc (rtS (rtL σ i) i) = _ ∧ jgKc (rtS (rtL σ i) i) = _
    rw [rtS]
    by_cases h : jgTB (rtL σ i) i = -1
    · rw [if_pos h]; exact ih
    · rw [if_neg h, (wR_keep _ _).2.2.1, (wR_keep _ _).2.2.2.1]; exact ih
theorem co2_bc (σ : BJ) : jgBc (co2 σ) = jgBc σ := (rtL_bk _ _).1.trans (rbL_keep _ _).1
theorem co2_kc (σ : BJ) : jgKc (co2 σ) = jgKc σ := (rtL_bk _ _).2.trans (rbL_kc _ _)
