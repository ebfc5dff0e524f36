/-! bytes -/
def isB (x : Int32) : Prop := x = nI x.toNatClampNeg ∧ x.toNatClampNeg < 256
theorem isB_nI {n : Nat} (h : n < 256) : isB (nI n) := by
  unfold isB
  rw [nI_clamp (by omega)]
  exact ⟨rfl, h⟩
theorem isB_and (x : Int32) : isB (x &&& nI 255) := by
  rw [pk_and x 8 (by decide)]
  exact isB_nI (Nat.mod_lt _ (by decide))
theorem b8_isB (v : Int64) (i : Nat) : isB (b8 v i) := isB_and _
theorem sh64 : ∀ k : Fin 8, (((nI (8 * k.1)).toInt64 &&& 63).toBitVec.smod 64).toNat = 8 * k.1 := by decide
theorem sh64u : ∀ k : Fin 8, (((nI (8 * k.1)).toInt64.toUInt64 &&& Int64.toUInt64 63).toBitVec % 64).toNat = 8 * k.1 := by decide
theorem nb8_b8 (v : Int64) {k : Nat} (hk : k < 8) : nb8 v k = b8 v k := by
  have h1 := sh64 ⟨k, hk⟩
  have h2 := sh64u ⟨k, hk⟩
  apply Int32.toBitVec_inj.mp
  have e1 : (nb8 v k).toBitVec = ((v.toBitVec.sshiftRight (((nI (8 * k)).toInt64 &&& 63).toBitVec.smod 64).toNat) &&& 255#64).setWidth 32 := BitVec.signExtend_eq_setWidth_of_le _ (by decide)
  have e2 : (b8 v k).toBitVec = (v.toBitVec >>> (((nI (8 * k)).toInt64.toUInt64 &&& Int64.toUInt64 63).toBitVec % 64).toNat).setWidth 32 &&& 255#32 := congrArg (· &&& 255#32) (BitVec.signExtend_eq_setWidth_of_le _ (by decide))
  rw [e1, e2, h1, h2]
  apply BitVec.eq_of_getLsbD_eq
  intro i hi
  have q1 : ∀ i, i < 32 → (255#64).getLsbD i = decide (i < 8) := by decide
  have q2 : ∀ i, i < 32 → (255#32).getLsbD i = decide (i < 8) := by decide
  simp only [BitVec.getLsbD_setWidth, BitVec.getLsbD_and, BitVec.getLsbD_sshiftRight, BitVec.getLsbD_ushiftRight]
  rw [q1 i hi, q2 i hi]
  by_cases h8 : i < 8
  · have : 8 * k + i < 64 := by omega
    simp [hi, h8, this, show ¬ 64 ≤ i by omega]
  · simp [h8]
theorem sh32 : ∀ k : Fin 4, (((nI (8 * k.1)) &&& 31).toBitVec.smod 32).toNat = 8 * k.1 := by decide
theorem sh32u : ∀ k : Fin 4, (((nI (8 * k.1)).toUInt32 &&& Int32.toUInt32 31).toBitVec % 32).toNat = 8 * k.1 := by decide
theorem ishrB_by4 (v : Int32) {k : Nat} (hk : k < 4) : ishrB v k = by4 v k := by
  have h1 := sh32 ⟨k, hk⟩
  have h2 := sh32u ⟨k, hk⟩
  apply Int32.toBitVec_inj.mp
  have e1 : (ishrB v k).toBitVec = (v.toBitVec.sshiftRight (((nI (8 * k)) &&& 31).toBitVec.smod 32).toNat) &&& 255#32 := rfl
  have e2 : (by4 v k).toBitVec = (v.toBitVec >>> (((nI (8 * k)).toUInt32 &&& Int32.toUInt32 31).toBitVec % 32).toNat) &&& 255#32 := rfl
  rw [e1, e2, h1, h2]
  apply BitVec.eq_of_getLsbD_eq
  intro i hi
  have q2 : ∀ i, i < 32 → (255#32).getLsbD i = decide (i < 8) := by decide
  simp only [BitVec.getLsbD_and, BitVec.getLsbD_sshiftRight, BitVec.getLsbD_ushiftRight]
  rw [q2 i hi]
  by_cases h8 : i < 8
  · have : 8 * k + i < 32 := by omega
    simp [h8, this, show ¬ 32 ≤ i by omega]
  · simp [h8]
theorem nb8_isB (v : Int64) {k : Nat} (hk : k < 8) : isB (nb8 v k) := by rw [nb8_b8 v hk]; exact b8_isB v k
theorem putL_byt {f : Nat → Int32} {a n : Nat} {bs : List Int32} (h : byt f n) (hb : ∀ x ∈ bs, isB x) : byt (putL f a bs) n := by
  intro i hi
  show isB (putL f a bs i)
  unfold putL
  by_cases q : a ≤ i ∧ i < a + bs.length
  · rw [if_pos q]
    have hl : i - a < bs.length := by omega
    rw [List.getD_eq_getElem?_getD, List.getElem?_eq_getElem hl]
    exact hb _ (List.getElem_mem hl)
  · rw [if_neg q]; exact h i hi
theorem nx_byt {τ : BM} {v : Int64} {i : Nat} (hi : i ≤ 8) (h : byt (kgRC τ) 700) : byt (kgRC (nxSt τ v i)) 700 := by
  show byt (putL (kgRC τ) (kgLe τ) ((List.range i).map (nb8 v))) 700
  refine putL_byt h ?_
  intro x hx
  obtain ⟨k, hk, rfl⟩ := List.mem_map.mp hx
  have := List.mem_range.mp hk
  exact nb8_isB v (by omega)
/-! reading a record -/
def rdSt (τ : BM) (a n i : Nat) : BM := kuRC (kuLe τ n) (putL (kgRC τ) 0 ((List.range i).map (fun k => kgJR τ (a + 3 + k))))
theorem rdSt_0 (τ : BM) (a n : Nat) : kuLe τ n = rdSt τ a n 0 := by
  unfold rdSt
  rw [List.range_zero, List.map_nil, putL_nil]
  show _ = kuRC (kuLe τ n) (kgRC (kuLe τ n))
  unfold kuRC kgRC
  simp only [setN_self]
theorem rdSt_step (τ : BM) (a n i : Nat) : kuRC (rdSt τ a n i) (upd (kgRC (rdSt τ a n i)) i (kgJR (rdSt τ a n i) (a + 3 + i))) = rdSt τ a n (i + 1) := by
  have h1 : kgRC (rdSt τ a n i) = putL (kgRC τ) 0 ((List.range i).map (fun k => kgJR τ (a + 3 + k))) := rfl
  have h2 : kgJR (rdSt τ a n i) = kgJR τ := rfl
  have e := putL_snoc (kgRC τ) 0 ((List.range i).map (fun k => kgJR τ (a + 3 + k))) (kgJR τ (a + 3 + i))
  rw [rng_len, Nat.zero_add] at e
  rw [h1, h2, e, ← rng_map (fun k => kgJR τ (a + 3 + k))]
  unfold rdSt
  rw [ku_RC_RC]
def rdR (τ : BM) (a en : Nat) : Option Nat × BM :=
  if a + 4 ≤ en ∧ 1 ≤ nb (kgJR τ) a ∧ nb (kgJR τ) a ≤ 4 then
    (if a + 3 + lenAt (kgJR τ) a < en then
      (if sm (kgJR τ) a (3 + lenAt (kgJR τ) a) = kgJR τ (a + 3 + lenAt (kgJR τ) a) then some (a + 3 + lenAt (kgJR τ) a + 1) else none, rdSt τ a (lenAt (kgJR τ) a) (lenAt (kgJR τ) a))
    else (none, kuLe τ (lenAt (kgJR τ) a)))
  else (none, τ)
theorem rdR_1 {τ : BM} {a en : Nat} (h : ¬ (a + 4 ≤ en ∧ 1 ≤ nb (kgJR τ) a ∧ nb (kgJR τ) a ≤ 4)) : rdR τ a en = (none, τ) := by rw [rdR, if_neg h]
theorem rdR_2 {τ : BM} {a en : Nat} (h : a + 4 ≤ en ∧ 1 ≤ nb (kgJR τ) a ∧ nb (kgJR τ) a ≤ 4) (h2 : ¬ a + 3 + lenAt (kgJR τ) a < en) : rdR τ a en = (none, kuLe τ (lenAt (kgJR τ) a)) := by rw [rdR, if_pos h, if_neg h2]
theorem rdR_3 {τ : BM} {a en : Nat} (h : a + 4 ≤ en ∧ 1 ≤ nb (kgJR τ) a ∧ nb (kgJR τ) a ≤ 4) (h2 : a + 3 + lenAt (kgJR τ) a < en) (h3 : ¬ sm (kgJR τ) a (3 + lenAt (kgJR τ) a) = kgJR τ (a + 3 + lenAt (kgJR τ) a)) : rdR τ a en = (none, rdSt τ a (lenAt (kgJR τ) a) (lenAt (kgJR τ) a)) := by rw [rdR, if_pos h, if_pos h2, if_neg h3]
theorem rdR_4 {τ : BM} {a en : Nat} (h : a + 4 ≤ en ∧ 1 ≤ nb (kgJR τ) a ∧ nb (kgJR τ) a ≤ 4) (h2 : a + 3 + lenAt (kgJR τ) a < en) (h3 : sm (kgJR τ) a (3 + lenAt (kgJR τ) a) = kgJR τ (a + 3 + lenAt (kgJR τ) a)) : rdR τ a en = (some (a + 3 + lenAt (kgJR τ) a + 1), rdSt τ a (lenAt (kgJR τ) a) (lenAt (kgJR τ) a)) := by rw [rdR, if_pos h, if_pos h2, if_pos h3]
def saysM (τ : BM) (k : Nat) : Option BM := if k = 1 then sBlob τ else if k = 2 then sTell τ else if k = 3 then sUnt τ else sK16 τ
def crL (en : Nat) : Nat → Nat → BM → Nat × BM
  | 0, a, τ => (a, τ)
  | n + 1, a, τ => match (rdR τ a en).1 with
    | none => (a, (rdR τ a en).2)
    | some b => match saysM (rdR τ a en).2 (nb (kgJR τ) a) with
      | none => (a, (rdR τ a en).2)
      | some z => crL en n b z
theorem crL_1 {en n a : Nat} {τ : BM} (h : (rdR τ a en).1 = none) : crL en (n + 1) a τ = (a, (rdR τ a en).2) := by rw [crL, h]
theorem crL_2 {en n a b : Nat} {τ : BM} (h : (rdR τ a en).1 = some b) (h2 : saysM (rdR τ a en).2 (nb (kgJR τ) a) = none) : crL en (n + 1) a τ = (a, (rdR τ a en).2) := by rw [crL, h, h2]
theorem crL_3 {en n a b : Nat} {τ z : BM} (h : (rdR τ a en).1 = some b) (h2 : saysM (rdR τ a en).2 (nb (kgJR τ) a) = some z) : crL en (n + 1) a τ = crL en n b z := by rw [crL, h, h2]
theorem rdR_keep (τ : BM) (a en : Nat) : kgJR (rdR τ a en).2 = kgJR τ ∧ kgBl (rdR τ a en).2 = kgBl τ ∧ kgKn (rdR τ a en).2 = kgKn τ ∧ (byt (kgRC τ) 700 → byt (kgJR τ) 700 → en ≤ 700 → byt (kgRC (rdR τ a en).2) 700) := by
  by_cases h : a + 4 ≤ en ∧ 1 ≤ nb (kgJR τ) a ∧ nb (kgJR τ) a ≤ 4
  · by_cases h2 : a + 3 + lenAt (kgJR τ) a < en
    · have q : (rdR τ a en).2 = rdSt τ a (lenAt (kgJR τ) a) (lenAt (kgJR τ) a) := by rw [rdR, if_pos h, if_pos h2]
      rw [q]
      refine ⟨rfl, rfl, rfl, fun h3 h4 h5 => putL_byt h3 ?_⟩
      intro x hx
      obtain ⟨k, hk, rfl⟩ := List.mem_map.mp hx
      have := List.mem_range.mp hk
      exact h4 _ (by omega)
    · rw [rdR_2 h h2]; exact ⟨rfl, rfl, rfl, fun h _ _ => h⟩
  · rw [rdR_1 h]; exact ⟨rfl, rfl, rfl, fun h _ _ => h⟩
theorem rdR_some {τ : BM} {a en b : Nat} (h : (rdR τ a en).1 = some b) : a + 4 ≤ en ∧ 1 ≤ nb (kgJR τ) a ∧ nb (kgJR τ) a ≤ 4 ∧ a + 3 + lenAt (kgJR τ) a < en ∧ b = a + 3 + lenAt (kgJR τ) a + 1 ∧ kgLe (rdR τ a en).2 = lenAt (kgJR τ) a := by
  by_cases h1 : a + 4 ≤ en ∧ 1 ≤ nb (kgJR τ) a ∧ nb (kgJR τ) a ≤ 4
  · by_cases h2 : a + 3 + lenAt (kgJR τ) a < en
    · by_cases h3 : sm (kgJR τ) a (3 + lenAt (kgJR τ) a) = kgJR τ (a + 3 + lenAt (kgJR τ) a)
      · rw [rdR_4 h1 h2 h3] at h ⊢
        cases h
        exact ⟨h1.1, h1.2.1, h1.2.2, h2, rfl, rfl⟩
      · rw [rdR_3 h1 h2 h3] at h; cases h
    · rw [rdR_2 h1 h2] at h; cases h
  · rw [rdR_1 h1] at h; cases h
theorem sBlob_keep {τ z : BM} (h : sBlob τ = some z) : kgJR z = kgJR τ ∧ (kgBl τ ≤ 20 → kgBl z ≤ 20) ∧ kgKn z = kgKn τ ∧ kgRC z = kgRC τ := by
  rw [sBlob] at h
  cases hq : fnd (kgDG τ) (dg (kgRC τ) 0 (kgLe τ)) (kgBl τ) with
  | some i => rw [hq] at h; cases h; exact ⟨rfl, id, rfl, rfl⟩
  | none =>
    rw [hq] at h
    by_cases hb : kgBl τ = 20
    · simp only [if_pos hb] at h; cases h
    · simp only [if_neg hb] at h
      cases h
      refine ⟨rfl, fun q => ?_, rfl, rfl⟩
      show kgBl τ + 1 ≤ 20
      omega
theorem sTell_keep {τ z : BM} (h : sTell τ = some z) : kgJR z = kgJR τ ∧ kgBl z = kgBl τ ∧ kgKn z = kgKn τ ∧ kgRC z = kgRC τ := by
  rw [sTell] at h
  by_cases h1 : kgLe τ = 9
  · by_cases h2 : nb (kgRC τ) 0 < 8
    · rw [if_pos h1, if_pos h2] at h
      cases hq : fnd (kgDG τ) (longAt (kgRC τ) 1) (kgBl τ) with
      | none => rw [hq] at h; cases h
      | some i => rw [hq] at h; cases h; exact ⟨rfl, rfl, rfl, rfl⟩
    · rw [if_pos h1, if_neg h2] at h; cases h
  · rw [if_neg h1] at h; cases h
theorem sUnt_keep {τ z : BM} (h : sUnt τ = some z) : kgJR z = kgJR τ ∧ kgBl z = kgBl τ ∧ kgKn z = kgKn τ ∧ kgRC z = kgRC τ := by
  rw [sUnt] at h
  by_cases h1 : kgLe τ = 1
  · by_cases h2 : nb (kgRC τ) 0 < 8
    · rw [if_pos h1, if_pos h2] at h; cases h; exact ⟨rfl, rfl, rfl, rfl⟩
    · rw [if_pos h1, if_neg h2] at h; cases h
  · rw [if_neg h1] at h; cases h
theorem sKey_keep {τ z : BM} {k d : Int64} (h : sKey τ k d = some z) : kgJR z = kgJR τ ∧ kgBl z = kgBl τ ∧ (kgKn τ ≤ 16 → kgKn z ≤ 16) ∧ kgRC z = kgRC τ := by
  rw [sKey] at h
  cases hq : fnd (kgKS τ) k (kgKn τ) with
  | some i => rw [hq] at h; cases h; exact ⟨rfl, rfl, id, rfl⟩
  | none =>
    rw [hq] at h
    by_cases hb : kgKn τ = 16
    · simp only [if_pos hb] at h; cases h
    · simp only [if_neg hb] at h
      cases h
      refine ⟨rfl, rfl, fun q => ?_, rfl⟩
      show kgKn τ + 1 ≤ 16
      omega
theorem sK16_keep {τ z : BM} (h : sK16 τ = some z) : kgJR z = kgJR τ ∧ kgBl z = kgBl τ ∧ (kgKn τ ≤ 16 → kgKn z ≤ 16) ∧ kgRC z = kgRC τ := by
  rw [sK16] at h
  by_cases h1 : kgLe τ = 16
  · rw [if_pos h1] at h; exact sKey_keep h
  · rw [if_neg h1] at h; cases h
theorem saysM_keep {τ z : BM} {k : Nat} (h : saysM τ k = some z) : kgJR z = kgJR τ ∧ (kgBl τ ≤ 20 → kgBl z ≤ 20) ∧ (kgKn τ ≤ 16 → kgKn z ≤ 16) ∧ kgRC z = kgRC τ := by
  rw [saysM] at h
  by_cases h1 : k = 1
  · rw [if_pos h1] at h
    have q := sBlob_keep h
    exact ⟨q.1, q.2.1, fun z => by rw [q.2.2.1]; exact z, q.2.2.2⟩
  · rw [if_neg h1] at h
    by_cases h2 : k = 2
    · rw [if_pos h2] at h
      have q := sTell_keep h
      exact ⟨q.1, fun z => by rw [q.2.1]; exact z, fun z => by rw [q.2.2.1]; exact z, q.2.2.2⟩
    · rw [if_neg h2] at h
      by_cases h3 : k = 3
      · rw [if_pos h3] at h
        have q := sUnt_keep h
        exact ⟨q.1, fun z => by rw [q.2.1]; exact z, fun z => by rw [q.2.2.1]; exact z, q.2.2.2⟩
      · rw [if_neg h3] at h
        have q := sK16_keep h
        exact ⟨q.1, fun z => by rw [q.2.1]; exact z, q.2.2.1, q.2.2.2⟩
/-! a crash -/
def spM (τ : BM) (sp : Int32) (n : Nat) : BM := if ¬ sp < 0 ∧ sp < nI n then kuJR τ (upd (kgJR τ) (kgSy τ + sp.toNatClampNeg) (nI 255 - kgJR τ (kgSy τ + sp.toNatClampNeg))) else τ
def pnSt (τ : BM) (i : Nat) : BM := kuPN τ (flJ (kgPN τ) 0 i)
theorem pnSt_0 (τ : BM) : τ = pnSt τ 0 := by
  unfold pnSt kuPN kgPN
  show τ = _
  simp only [flJ, setN_self]
theorem pnSt_step (τ : BM) (i : Nat) : kuPN (pnSt τ i) (vp_updL (kgPN (pnSt τ i)) i 0) = pnSt τ (i + 1) := by
  have h1 : kgPN (pnSt τ i) = flJ (kgPN τ) 0 i := rfl
  rw [h1]
  unfold pnSt kuPN
  simp only [setN_setN]
  rfl
def cr0 (τ : BM) (sp : Int32) (n : Nat) : BM := pnSt (emSt (spM (kuTh τ 0) sp n) 8) 4
def crM (τ : BM) (sp : Int32) (n : Nat) : Nat × BM := crL (kgSy τ + n) 176 0 (cr0 τ sp n)
/-! collecting -/
def ciSt (τ : BM) (b left : Nat) : Nat → BM
  | 0 => kuLe τ 0
  | k + 1 => kuBY (nxSt (ciSt τ b left k) (kgBY (ciSt τ b left k) (700 * b + k)).toInt64 1) (upd (kgBY (ciSt τ b left k)) (700 * left + k) (kgRC (nxSt (ciSt τ b left k) (kgBY (ciSt τ b left k) (700 * b + k)).toInt64 1) k))
theorem ciSt_keep (τ : BM) (b left k : Nat) : kgLN (ciSt τ b left k) = kgLN τ ∧ kgLe (ciSt τ b left k) = k ∧ kgSz (ciSt τ b left k) = kgSz τ ∧ kgDG (ciSt τ b left k) = kgDG τ ∧ kgBl (ciSt τ b left k) = kgBl τ := by
  induction k with
  | zero => exact ⟨rfl, rfl, rfl, rfl, rfl⟩
  | succ k ih =>
    obtain ⟨h1, h2, h3, h4, h5⟩ := ih
    refine ⟨h1, ?_, h3, h4, h5⟩
    show kgLe (ciSt τ b left k) + 1 = k + 1
    rw [h2]
def cbW (τ : BM) (b left : Nat) : BM := kuLN (kuDG τ (vp_updL (kgDG τ) left (kgDG τ b))) (upd (kgLN τ) left (kgLN τ b))
def cbS (q : Nat × BM) (b : Nat) : Nat × BM := if isToldM q.2 (kgDG q.2 b) = true then (q.1 + 1, wrM (cbW (ciSt q.2 b q.1 (nb (kgLN q.2) b)) b q.1) (nI 1)) else q
def cbL (τ : BM) : Nat → Nat × BM
  | 0 => (0, τ)
  | n + 1 => cbS (cbL τ n) n
theorem cbS_yes {q : Nat × BM} {b : Nat} (h : isToldM q.2 (kgDG q.2 b) = true) : cbS q b = (q.1 + 1, wrM (cbW (ciSt q.2 b q.1 (nb (kgLN q.2) b)) b q.1) (nI 1)) := by rw [cbS, if_pos h]
theorem cbS_no {q : Nat × BM} {b : Nat} (h : isToldM q.2 (kgDG q.2 b) = false) : cbS q b = q := by rw [cbS, if_neg (by rw [h]; decide)]
theorem cbL_keep (τ : BM) (n : Nat) : (cbL τ n).1 ≤ n ∧ kgBl (cbL τ n).2 = kgBl τ := by
  induction n with
  | zero => exact ⟨Nat.le_refl _, rfl⟩
  | succ n ih =>
    show (cbS (cbL τ n) n).1 ≤ n + 1 ∧ kgBl (cbS (cbL τ n) n).2 = kgBl τ
    cases h : isToldM (cbL τ n).2 (kgDG (cbL τ n).2 n) with
    | false => rw [cbS_no h]; exact ⟨by omega, ih.2⟩
    | true =>
      rw [cbS_yes h]
      refine ⟨by have := ih.1; show (cbL τ n).1 + 1 ≤ n + 1; omega, ?_⟩
      exact (ciSt_keep _ _ _ _).2.2.2.2.trans ih.2
def cbOk (τ : BM) (b : Nat) : Prop := kgLN (cbL τ b).2 b = nI (nb (kgLN (cbL τ b).2) b) ∧ (isToldM (cbL τ b).2 (kgDG (cbL τ b).2 b) = true → kgSz (cbL τ b).2 + nb (kgLN (cbL τ b).2) b + 4 ≤ 700)
def ctS (τ : BM) (t : Nat) : BM := if kgTE τ t = true then wrM (nxSt (nxSt (kuLe τ 0) (nI t).toInt64 1) (kgTG τ t) 8) (nI 2) else τ
theorem ctS_yes {τ : BM} {t : Nat} (h : kgTE τ t = true) : ctS τ t = wrM (nxSt (nxSt (kuLe τ 0) (nI t).toInt64 1) (kgTG τ t) 8) (nI 2) := by rw [ctS, if_pos h]
theorem ctS_no {τ : BM} {t : Nat} (h : kgTE τ t = false) : ctS τ t = τ := by rw [ctS, if_neg (by rw [h]; decide)]
def ctL (τ : BM) : Nat → BM
  | 0 => τ
  | n + 1 => ctS (ctL τ n) n
theorem ctL_keep (τ : BM) (n : Nat) : kgBl (ctL τ n) = kgBl τ ∧ kgKn (ctL τ n) = kgKn τ := by
  induction n with
  | zero => exact ⟨rfl, rfl⟩
  | succ n ih =>
    show kgBl (ctS (ctL τ n) n) = kgBl τ ∧ kgKn (ctS (ctL τ n) n) = kgKn τ
    cases h : kgTE (ctL τ n) n with
    | false => rw [ctS_no h]; exact ih
    | true => rw [ctS_yes h]; exact ih
def ctOk (τ : BM) (t : Nat) : Prop := kgTE (ctL τ t) t = true → kgSz (ctL τ t) + 13 ≤ 700
def ckW (τ : BM) (k left : Nat) : BM := kuTO (kuKS τ (vp_updL (kgKS τ) left (kgKS τ k))) (vp_updL (kgTO τ) left (kgTO τ k))
def ckN (τ : BM) (k : Nat) : BM := nxSt (nxSt (kuLe τ 0) (kgKS τ k) 8) (kgTO τ k) 8
def ckS (q : Nat × BM) (k : Nat) : Nat × BM := match fnd (kgDG q.2) (kgTO q.2 k) (kgBl q.2) with
  | none => q
  | some _ => (q.1 + 1, wrM (ckW (ckN q.2 k) k q.1) (nI 4))
theorem ckS_no {q : Nat × BM} {k : Nat} (h : fnd (kgDG q.2) (kgTO q.2 k) (kgBl q.2) = none) : ckS q k = q := by rw [ckS, h]
theorem ckS_yes {q : Nat × BM} {k i : Nat} (h : fnd (kgDG q.2) (kgTO q.2 k) (kgBl q.2) = some i) : ckS q k = (q.1 + 1, wrM (ckW (ckN q.2 k) k q.1) (nI 4)) := by rw [ckS, h]
def ckL (τ : BM) : Nat → Nat × BM
  | 0 => (0, τ)
  | n + 1 => ckS (ckL τ n) n
theorem ckL_keep (τ : BM) (n : Nat) : (ckL τ n).1 ≤ n ∧ kgBl (ckL τ n).2 = kgBl τ ∧ kgKn (ckL τ n).2 = kgKn τ := by
  induction n with
  | zero => exact ⟨Nat.le_refl _, rfl, rfl⟩
  | succ n ih =>
    show (ckS (ckL τ n) n).1 ≤ n + 1 ∧ kgBl (ckS (ckL τ n) n).2 = kgBl τ ∧ kgKn (ckS (ckL τ n) n).2 = kgKn τ
    cases h : fnd (kgDG (ckL τ n).2) (kgTO (ckL τ n).2 n) (kgBl (ckL τ n).2) with
    | none => rw [ckS_no h]; exact ⟨by omega, ih.2⟩
    | some i =>
      rw [ckS_yes h]
      exact ⟨by have := ih.1; show (ckL τ n).1 + 1 ≤ n + 1; omega, ih.2⟩
def ckOk (τ : BM) (k : Nat) : Prop := ∀ i, fnd (kgDG (ckL τ k).2) (kgTO (ckL τ k).2 k) (kgBl (ckL τ k).2) = some i → kgSz (ckL τ k).2 + 20 ≤ 700
def cm0 (τ : BM) : BM := kuSz (kuTh τ 0) 0
def cm1 (τ : BM) : BM := kuBl (cbL (cm0 τ) (kgBl τ)).2 (cbL (cm0 τ) (kgBl τ)).1
def cm2 (τ : BM) : BM := ctL (cm1 τ) 8
def cm3 (τ : BM) : BM := kuKn (ckL (cm2 τ) (kgKn τ)).2 (ckL (cm2 τ) (kgKn τ)).1
def cmM (τ : BM) : BM := kuSy (cm3 τ) (kgSz (cm3 τ))
theorem cm2_bk (τ : BM) : kgBl (cm2 τ) = (cbL (cm0 τ) (kgBl τ)).1 := (ctL_keep _ _).1
theorem sBlob_Th (τ : BM) : kgTh (ofM (sBlob τ) τ) = kgTh τ := by
  rw [sBlob]
  cases fnd (kgDG τ) (dg (kgRC τ) 0 (kgLe τ)) (kgBl τ) with
  | some i => rfl
  | none =>
    by_cases hb : kgBl τ = 20
    · simp only [if_pos hb]; rfl
    · simp only [if_neg hb]; rfl
theorem anyB_s (q : Nat → Bool) (n : Nat) : anyB q (n + 1) = (anyB q n || q n) := rfl
theorem isB_255 {x : Int32} (h : isB x) : isB (nI 255 - x) := by
  obtain ⟨h1, h2⟩ := h
  rw [h1]
  rw [show nI 255 - nI x.toNatClampNeg = nI (255 - x.toNatClampNeg) from (by
    have : nI 255 = nI (255 - x.toNatClampNeg) + nI x.toNatClampNeg := by rw [nI_add, show 255 - x.toNatClampNeg + x.toNatClampNeg = 255 by omega]
    rw [this, Int32.add_sub_cancel])]
  exact isB_nI (by omega)
theorem upd_byt {f : Nat → Int32} {n i : Nat} {v : Int32} (h : byt f n) (hv : isB v) : byt (upd f i v) n := by
  intro j hj
  show isB (upd f i v j)
  unfold upd
  by_cases q : j = i
  · rw [if_pos q]; exact hv
  · rw [if_neg q]; exact h j hj
theorem spM_byt {τ : BM} {sp : Int32} {n : Nat} (h : byt (kgJR τ) 700) (hn : kgSy τ + n ≤ 700) : byt (kgJR (spM τ sp n)) 700 := by
  unfold spM
  by_cases q : ¬ sp < 0 ∧ sp < nI n
  · rw [if_pos q]
    obtain ⟨j, hj, rfl⟩ := nI_of q.1
    have := (nI_ltI hj (by omega)).mp q.2
    rw [nI_clamp hj]
    exact upd_byt h (isB_255 (h _ (by omega)))
  · rw [if_neg q]; exact h
theorem spM_keep (τ : BM) (sp : Int32) (n : Nat) : kgSy (spM τ sp n) = kgSy τ ∧ kgRC (spM τ sp n) = kgRC τ ∧ kgSz (spM τ sp n) = kgSz τ := by
  unfold spM
  by_cases q : ¬ sp < 0 ∧ sp < nI n
  · rw [if_pos q]; exact ⟨rfl, rfl, rfl⟩
  · rw [if_neg q]; exact ⟨rfl, rfl, rfl⟩
theorem spM_no {τ : BM} {sp : Int32} {n : Nat} (h : sp < 0 ∨ nI n ≤ sp) : τ = spM τ sp n := by
  rw [spM, if_neg (by rintro ⟨h1, h2⟩; rcases h with h | h; exact h1 h; exact absurd h2 (Int32.not_lt.mpr h))]
theorem spM_yes {τ : BM} {j n : Nat} (hj : j < 2 ^ 31) (hn : n < 2 ^ 31) (h : j < n) : spM τ (nI j) n = kuJR τ (upd (kgJR τ) (kgSy τ + j) (nI 255 - kgJR τ (kgSy τ + j))) := by
  rw [spM, if_pos ⟨nI_pos hj, nI_lt h hn⟩, nI_clamp hj]
theorem crL_le {en : Nat} : ∀ (n a : Nat) (τ : BM), a ≤ en → (crL en n a τ).1 ≤ en
  | 0, a, τ, h => h
  | n + 1, a, τ, h => by
    cases hq : (rdR τ a en).1 with
    | none => rw [crL_1 hq]; exact h
    | some b =>
      cases hs : saysM (rdR τ a en).2 (nb (kgJR τ) a) with
      | none => rw [crL_2 hq hs]; exact h
      | some z =>
        rw [crL_3 hq hs]
        have := rdR_some hq
        exact crL_le n b z (by omega)
