/-! what is written can be read -/
theorem wL_W (σ : BJ) (a : List Int32) (i : Nat) : jgW (wL σ a) i = if jgWc σ ≤ i ∧ i < jgWc σ + a.length then a.getD (i - jgWc σ) 0 else jgW σ i := by
  induction a generalizing σ with
  | nil =>
    rw [if_neg (by simp only [List.length_nil]; omega)]
    rfl
  | cons x a ih =>
    show jgW (wL (wB σ x) a) i = _
    rw [ih]
    show (if jgWc σ + 1 ≤ i ∧ i < jgWc σ + 1 + a.length then a.getD (i - (jgWc σ + 1)) 0 else upd (jgW σ) (jgWc σ) x i) = _
    simp only [List.length_cons]
    by_cases h1 : i < jgWc σ
    · rw [if_neg (by omega), if_neg (by omega), upd, if_neg (by omega)]
    · by_cases h2 : i = jgWc σ
      · subst h2
        rw [if_neg (by omega), if_pos (by omega), Nat.sub_self, upd, if_pos rfl]
        rfl
      · by_cases h3 : i < jgWc σ + 1 + a.length
        · rw [if_pos (by omega), if_pos (by omega), show i - jgWc σ = (i - (jgWc σ + 1)) + 1 by omega]
          rfl
        · rw [if_neg (by omega), if_neg (by omega), upd, if_neg h2]
theorem nx_lo {n : Nat} (h : n < 65536) : nI n &&& nI 255 = nI (n % 256) := pk_andN (by omega) 8 (by decide)
theorem nx_hi {n : Nat} (h : n < 65536) : ((nI n).toUInt32 >>> ((nI 8).toUInt32 &&& Int32.toUInt32 31)).toInt32 = nI (n / 256) := pk_ushrN (by omega) (nI 8) 8 (by decide)
theorem hd_eq {k : Int32} {n : Nat} (h : n < 65536) : hd k n = [k, nI (n % 256), nI (n / 256)] := by rw [hd, nx_lo h, nx_hi h]
theorem nb_of {f : Nat → Int32} {i b : Nat} (h : f i = nI b) (hb : b < 2 ^ 31) : nb f i = b := by rw [nb, h]; exact nI_clamp hb
/-! a long's bytes -/
def qN (x : Int64) : Nat := x.toUInt64.toNat
theorem qN_lt (x : Int64) : qN x < 2 ^ 64 := x.toUInt64.toNat_lt
theorem qN_inj {x y : Int64} (h : qN x = qN y) : x = y := congrArg UInt64.toInt64 (UInt64.toNat_inj.mp h)
theorem qN_shr (x : Int64) {k : Nat} (hk : k < 64) : qN (x.toUInt64 >>> ((nI k).toInt64.toUInt64 &&& Int64.toUInt64 63)).toInt64 = qN x / 2 ^ k := by
  have h : ((nI k).toInt64.toUInt64 &&& Int64.toUInt64 63).toNat % 64 = k := by
    rw [nI_l (by omega), UInt64.toNat_and]
    have e : (lN k).toUInt64.toNat = k % 2 ^ 64 := rfl
    have e2 : (Int64.toUInt64 63).toNat = 2 ^ 6 - 1 := by decide
    rw [e, e2, Nat.and_two_pow_sub_one_eq_mod]
    omega
  show (x.toUInt64 >>> ((nI k).toInt64.toUInt64 &&& Int64.toUInt64 63)).toNat = _
  rw [UInt64.toNat_shiftRight, Nat.shiftRight_eq_div_pow, h]
  rfl
theorem qN_i32 (x : Int64) : x.toInt32.toBitVec.toNat = qN x % 2 ^ 32 := by
  show (x.toBitVec.signExtend 32).toNat = _
  rw [BitVec.signExtend_eq_setWidth_of_le _ (by decide), BitVec.toNat_setWidth]
  rfl
theorem b8_eq (v : Int64) {i : Nat} (hi : i < 8) : b8 v i = nI (qN v / 2 ^ (8 * i) % 256) := by
  rw [b8, pk_and _ 8 (by decide), qN_i32, qN_shr v (by omega)]
  congr 1
  omega
theorem qN_nI {b : Nat} (h : b < 2 ^ 31) : qN (nI b).toInt64 = b := by
  rw [nI_l h]
  show b % 2 ^ 64 = b
  omega
theorem qN_sl8 (x : Int64) {b : Nat} (hb : b < 256) (hx : qN x < 2 ^ 56) : qN ((x <<< ((nI 8).toInt64 &&& 63)) ||| (nI b).toInt64) = qN x * 256 + b := by
  have h8 : (((nI 8).toInt64 &&& 63).toBitVec.smod 64).toNat = 8 := by decide
  have e1 : qN (x <<< ((nI 8).toInt64 &&& 63)) = qN x * 256 := by
    show (x.toBitVec <<< (((nI 8).toInt64 &&& 63).toBitVec.smod 64).toNat).toNat = _
    rw [h8, BitVec.toNat_shiftLeft, Nat.shiftLeft_eq]
    show qN x * 2 ^ 8 % 2 ^ 64 = _
    omega
  show ((x <<< ((nI 8).toInt64 &&& 63)).toBitVec ||| ((nI b).toInt64).toBitVec).toNat = _
  rw [BitVec.toNat_or]
  have e2 : (((nI b).toInt64).toBitVec).toNat = b := qN_nI (by omega)
  have e3 : ((x <<< ((nI 8).toInt64 &&& 63)).toBitVec).toNat = qN x * 256 := e1
  rw [e2, e3]
  rw [show (256 : Nat) = 2 ^ 8 from rfl, Nat.mul_comm, ← Nat.two_pow_add_eq_or_of_lt (by omega : b < 2 ^ 8)]
theorem longAt_l8 {f : Nat → Int32} {a : Nat} {v : Int64} (h : ∀ i, i < 8 → f (a + i) = b8 v i) : longAt f a = v := by
  have key : ∀ k, k ≤ 8 → qN (laL f a k) = qN v / 2 ^ (8 * (8 - k)) := by
    intro k
    induction k with
    | zero =>
      intro _
      have := qN_lt v
      show 0 = _
      rw [show 8 * (8 - 0) = 64 from rfl, Nat.div_eq_of_lt this]
    | succ k ih =>
      intro hk
      have h1 := ih (by omega)
      have h2 := qN_lt v
      show qN ((laL f a k <<< ((nI 8).toInt64 &&& 63)) ||| (f (a + (7 - k))).toInt64) = _
      rw [h (7 - k) (by omega), b8_eq v (by omega)]
      have hb : qN v / 2 ^ (8 * (7 - k)) % 256 < 256 := Nat.mod_lt _ (by decide)
      have hp : (2 : Nat) ^ (8 * (8 - k)) = 2 ^ (8 * (7 - k)) * 256 := by
        rw [show 8 * (8 - k) = 8 * (7 - k) + 8 by omega, Nat.pow_add]
      have hx : qN (laL f a k) < 2 ^ 56 := by
        rw [h1]
        apply Nat.div_lt_of_lt_mul
        calc qN v < 2 ^ 64 := h2
          _ ≤ 2 ^ (8 * (8 - k)) * 2 ^ 56 := by
            rw [← Nat.pow_add]
            exact Nat.pow_le_pow_right (by decide) (by omega)
      rw [qN_sl8 _ hb hx, h1, hp, ← Nat.div_div_eq_div_mul, show 8 * (8 - (k + 1)) = 8 * (7 - k) by omega]
      omega
  apply qN_inj
  have := key 8 (Nat.le_refl _)
  rw [longAt, this]
  simp
