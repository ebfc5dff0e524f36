/-! what the reference's methods do, in pure words -/
/-- a list laid into a row from place a on -/
def putL (f : Nat → Int32) (a : Nat) (bs : List Int32) : Nat → Int32 := fun i => if a ≤ i ∧ i < a + bs.length then bs.getD (i - a) 0 else f i
theorem putL_nil (f : Nat → Int32) (a : Nat) : putL f a [] = f := by
  funext i
  rw [putL, if_neg (by simp only [List.length_nil]; omega)]
theorem putL_snoc (f : Nat → Int32) (a : Nat) (bs : List Int32) (v : Int32) : upd (putL f a bs) (a + bs.length) v = putL f a (bs ++ [v]) := by
  funext i
  unfold upd putL
  simp only [List.length_append, List.length_cons, List.length_nil]
  by_cases h : i = a + bs.length
  · subst h
    rw [if_pos rfl, if_pos (by omega), show a + bs.length - a = bs.length by omega]
    simp [List.getD_eq_getElem?_getD]
  · rw [if_neg h]
    by_cases h2 : a ≤ i ∧ i < a + bs.length
    · rw [if_pos h2, if_pos (by omega)]
      rw [List.getD_eq_getElem?_getD, List.getD_eq_getElem?_getD, List.getElem?_append_left (by omega)]
    · rw [if_neg h2, if_neg (by omega)]
theorem putL_one (f : Nat → Int32) (a : Nat) (v : Int32) : upd f a v = putL f a [v] := by
  have := putL_snoc f a [] v
  rw [putL_nil] at this
  exact this
theorem rng_map {α : Type} (f : Nat → α) (n : Nat) : (List.range (n + 1)).map f = (List.range n).map f ++ [f n] := by rw [List.range_succ, List.map_append]; rfl
theorem rng_len {α : Type} (f : Nat → α) (n : Nat) : ((List.range n).map f).length = n := by simp
def ishrB (v : Int32) (k : Nat) : Int32 := (v >>> ((nI (8 * k)) &&& 31)) &&& nI 255
def tySt (τ : BM) (v : Int32) (i : Nat) : BM := kuMy (kuT (kuTh τ 0) (putL (kgT τ) (kgMy τ) ((List.range i).map (ishrB v)))) (kgMy τ + i)
theorem ku_T_My (τ : BM) (b : Nat) (c : Nat → Int32) : kuT (kuMy τ b) c = kuMy (kuT τ c) b := rfl
theorem ku_T_T (τ : BM) (a c : Nat → Int32) : kuT (kuT τ a) c = kuT τ c := by unfold kuT; rw [setN_setN]
theorem ku_My_My (τ : BM) (a c : Nat) : kuMy (kuMy τ a) c = kuMy τ c := by unfold kuMy; rw [setN_setN]
theorem ku_MT (τ : BM) (a c : Nat → Int32) (b d : Nat) : kuMy (kuT (kuMy (kuT τ a) b) c) d = kuMy (kuT τ c) d := by rw [ku_T_My, ku_T_T, ku_My_My]
theorem tySt_step (τ : BM) (v : Int32) (i : Nat) : kuMy (kuT (tySt τ v i) (upd (kgT (tySt τ v i)) (kgMy (tySt τ v i)) (ishrB v i))) (kgMy (tySt τ v i) + 1) = tySt τ v (i + 1) := by
  have h1 : kgT (tySt τ v i) = putL (kgT τ) (kgMy τ) ((List.range i).map (ishrB v)) := rfl
  have h2 : kgMy (tySt τ v i) = kgMy τ + i := rfl
  have e := putL_snoc (kgT τ) (kgMy τ) ((List.range i).map (ishrB v)) (ishrB v i)
  rw [rng_len] at e
  rw [h1, h2, e, ← rng_map]
  unfold tySt
  rw [ku_MT, Nat.add_assoc]
/-- byte k of a long, as the reference cuts it -/
def nb8 (v : Int64) (k : Nat) : Int32 := ((v >>> ((nI (8 * k)).toInt64 &&& 63)) &&& 255).toInt32
theorem setN_self {α : Type} (f : Nat → α) (k : Nat) : setN f k (f k) = f := by
  funext j
  unfold setN
  by_cases h : j = k
  · rw [if_pos h, h]
  · rw [if_neg h]
theorem ku_self_LR (τ : BM) : kuLe (kuRC τ (kgRC τ)) (kgLe τ) = τ := by
  unfold kuLe kuRC kgRC kgLe
  simp only [setN_self]
def nxSt (τ : BM) (v : Int64) (i : Nat) : BM := kuLe (kuRC τ (putL (kgRC τ) (kgLe τ) ((List.range i).map (nb8 v)))) (kgLe τ + i)
theorem nxSt_0 (τ : BM) (v : Int64) : nxSt τ v 0 = τ := by
  unfold nxSt
  rw [List.range_zero, List.map_nil, putL_nil, Nat.add_zero]
  exact ku_self_LR τ
theorem ku_RC_Le (τ : BM) (b : Nat) (c : Nat → Int32) : kuRC (kuLe τ b) c = kuLe (kuRC τ c) b := rfl
theorem ku_RC_RC (τ : BM) (a c : Nat → Int32) : kuRC (kuRC τ a) c = kuRC τ c := by unfold kuRC; rw [setN_setN]
theorem ku_Le_Le (τ : BM) (a c : Nat) : kuLe (kuLe τ a) c = kuLe τ c := by unfold kuLe; rw [setN_setN]
theorem ku_LR (τ : BM) (a c : Nat → Int32) (b d : Nat) : kuLe (kuRC (kuLe (kuRC τ a) b) c) d = kuLe (kuRC τ c) d := by rw [ku_RC_Le, ku_RC_RC, ku_Le_Le]
theorem nxSt_step (τ : BM) (v : Int64) (i : Nat) : kuLe (kuRC (nxSt τ v i) (upd (kgRC (nxSt τ v i)) (kgLe (nxSt τ v i)) (nb8 v i))) (kgLe (nxSt τ v i) + 1) = nxSt τ v (i + 1) := by
  have h1 : kgRC (nxSt τ v i) = putL (kgRC τ) (kgLe τ) ((List.range i).map (nb8 v)) := rfl
  have h2 : kgLe (nxSt τ v i) = kgLe τ + i := rfl
  have e := putL_snoc (kgRC τ) (kgLe τ) ((List.range i).map (nb8 v)) (nb8 v i)
  rw [rng_len] at e
  rw [h1, h2, e, ← rng_map]
  unfold nxSt
  rw [ku_LR, Nat.add_assoc]
def recB (τ : BM) : List Int32 := (List.range (kgLe τ)).map (kgRC τ)
def hdM (k : Int32) (n : Nat) : List Int32 := [k, nI n &&& nI 255, nI n >>> (nI 8 &&& 31)]
/-- a write: the head and i bytes of the record -/
def wrSt (τ : BM) (k : Int32) (i : Nat) : BM := kuSz (kuJR τ (putL (kgJR τ) (kgSz τ) (hdM k (kgLe τ) ++ (List.range i).map (kgRC τ)))) (kgSz τ + 3 + i)
theorem ku_JJ (τ : BM) (a b : Nat → Int32) : kuJR (kuJR τ a) b = kuJR τ b := by unfold kuJR; rw [setN_setN]
theorem ku_JR_Sz (τ : BM) (b : Nat) (c : Nat → Int32) : kuJR (kuSz τ b) c = kuSz (kuJR τ c) b := rfl
theorem ku_Sz_Sz (τ : BM) (a c : Nat) : kuSz (kuSz τ a) c = kuSz τ c := by unfold kuSz; rw [setN_setN]
theorem ku_SJ (τ : BM) (a c : Nat → Int32) (b d : Nat) : kuSz (kuJR (kuSz (kuJR τ a) b) c) d = kuSz (kuJR τ c) d := by rw [ku_JR_Sz, ku_JJ, ku_Sz_Sz]
theorem wrSt_0 (τ : BM) (k : Int32) : kuSz (kuJR (kuJR (kuJR τ (upd (kgJR τ) (kgSz τ) k)) (upd (upd (kgJR τ) (kgSz τ) k) (kgSz τ + 1) (nI (kgLe τ) &&& nI 255))) (upd (upd (upd (kgJR τ) (kgSz τ) k) (kgSz τ + 1) (nI (kgLe τ) &&& nI 255)) (kgSz τ + 2) (nI (kgLe τ) >>> (nI 8 &&& 31)))) (kgSz τ + 3) = wrSt τ k 0 := by
  have e1 := putL_one (kgJR τ) (kgSz τ) k
  have e2 : upd (putL (kgJR τ) (kgSz τ) [k]) (kgSz τ + 1) (nI (kgLe τ) &&& nI 255) = putL (kgJR τ) (kgSz τ) [k, nI (kgLe τ) &&& nI 255] := putL_snoc (kgJR τ) (kgSz τ) [k] (nI (kgLe τ) &&& nI 255)
  have e3 : upd (putL (kgJR τ) (kgSz τ) [k, nI (kgLe τ) &&& nI 255]) (kgSz τ + 2) (nI (kgLe τ) >>> (nI 8 &&& 31)) = putL (kgJR τ) (kgSz τ) (hdM k (kgLe τ)) := putL_snoc (kgJR τ) (kgSz τ) [k, nI (kgLe τ) &&& nI 255] (nI (kgLe τ) >>> (nI 8 &&& 31))
  rw [e1, e2, e3, ku_JJ, ku_JJ]
  unfold wrSt
  rw [List.range_zero, List.map_nil, List.append_nil]
theorem wrSt_step (τ : BM) (k : Int32) (i : Nat) : kuSz (kuJR (wrSt τ k i) (upd (kgJR (wrSt τ k i)) (kgSz (wrSt τ k i)) (kgRC (wrSt τ k i) i))) (kgSz (wrSt τ k i) + 1) = wrSt τ k (i + 1) := by
  have h1 : kgJR (wrSt τ k i) = putL (kgJR τ) (kgSz τ) (hdM k (kgLe τ) ++ (List.range i).map (kgRC τ)) := rfl
  have h2 : kgSz (wrSt τ k i) = kgSz τ + 3 + i := rfl
  have h3 : kgRC (wrSt τ k i) = kgRC τ := rfl
  have e := putL_snoc (kgJR τ) (kgSz τ) (hdM k (kgLe τ) ++ (List.range i).map (kgRC τ)) (kgRC τ i)
  rw [List.length_append, rng_len, show (hdM k (kgLe τ)).length = 3 from rfl, ← Nat.add_assoc] at e
  rw [h1, h2, h3, e, List.append_assoc, ← rng_map]
  unfold wrSt
  rw [ku_SJ, Nat.add_assoc (kgSz τ + 3)]
def wrM (τ : BM) (k : Int32) : BM := kuSz (kuJR (wrSt τ k (kgLe τ)) (upd (kgJR (wrSt τ k (kgLe τ))) (kgSz τ + 3 + kgLe τ) (sm (kgJR (wrSt τ k (kgLe τ))) (kgSz τ) (3 + kgLe τ)))) (kgSz τ + 3 + kgLe τ + 1)
