/-! what the reference's methods do, in pure words -/
/-- a list laid into a row from place a on -/
def putL (f : Nat → Int32) (a : Nat) (bs : List Int32) : Nat → Int32 := fun i => if a ≤ i ∧ i < a + bs.length then bs.getD (i - a) 0 else f i
theorem putL_nil (f : Nat → Int32) (a : Nat) : putL f a [] = f := by
  funext i
  rw [putL, if_neg (by simp only [List.length_nil]; omega)]
theorem putL_snoc (f : Nat → Int32) (a : Nat) (bs : List Int32) (v : Int32) : upd (putL f a bs) (a + bs.length) v = putL f a (bs ++ [v]) := by
  funext i
  unfold upd putL
  simp only [List.length_append, List.length_cons, List.length_nil]
  by_cases h : i = a + bs.length
  · subst h
    rw [if_pos rfl, if_pos (by omega), show a + bs.length - a = bs.length by omega]
    simp [List.getD_eq_getElem?_getD]
  · rw [if_neg h]
    by_cases h2 : a ≤ i ∧ i < a + bs.length
    · rw [if_pos h2, if_pos (by omega)]
      rw [List.getD_eq_getElem?_getD, List.getD_eq_getElem?_getD, List.getElem?_append_left (by omega)]
    · rw [if_neg h2, if_neg (by omega)]
theorem putL_one (f : Nat → Int32) (a : Nat) (v : Int32) : upd f a v = putL f a [v] := by
  have := putL_snoc f a [] v
  rw [putL_nil] at this
  exact this
theorem rng_map {α : Type} (f : Nat → α) (n : Nat) : (List.range (n + 1)).map f = (List.range n).map f ++ [f n] := by rw [List.range_succ, List.map_append]; rfl
theorem rng_len {α : Type} (f : Nat → α) (n : Nat) : ((List.range n).map f).length = n := by simp
def ishrB (v : Int32) (k : Nat) : Int32 := (v >>> ((nI (8 * k)) &&& 31)) &&& nI 255
def tySt (τ : BM) (v : Int32) (i : Nat) : BM := kuMy (kuT (kuTh τ 0) (putL (kgT τ) (kgMy τ) ((List.range i).map (ishrB v)))) (kgMy τ + i)
theorem ku_T_My (τ : BM) (b : Nat) (c : Nat → Int32) : kuT (kuMy τ b) c = kuMy (kuT τ c) b := rfl
theorem ku_T_T (τ : BM) (a c : Nat → Int32) : kuT (kuT τ a) c = kuT τ c := by unfold kuT; rw [setN_setN]
theorem ku_My_My (τ : BM) (a c : Nat) : kuMy (kuMy τ a) c = kuMy τ c := by unfold kuMy; rw [setN_setN]
theorem ku_MT (τ : BM) (a c : Nat → Int32) (b d : Nat) : kuMy (kuT (kuMy (kuT τ a) b) c) d = kuMy (kuT τ c) d := by rw [ku_T_My, ku_T_T, ku_My_My]
theorem tySt_step (τ : BM) (v : Int32) (i : Nat) : kuMy (kuT (tySt τ v i) (upd (kgT (tySt τ v i)) (kgMy (tySt τ v i)) (ishrB v i))) (kgMy (tySt τ v i) + 1) = tySt τ v (i + 1) := by
  have h1 : kgT (tySt τ v i) = putL (kgT τ) (kgMy τ) ((List.range i).map (ishrB v)) := rfl
  have h2 : kgMy (tySt τ v i) = kgMy τ + i := rfl
  have e := putL_snoc (kgT τ) (kgMy τ) ((List.range i).map (ishrB v)) (ishrB v i)
  rw [rng_len] at e
  rw [h1, h2, e, ← rng_map]
  unfold tySt
  rw [ku_MT, Nat.add_assoc]
/-- byte k of a long, as the reference cuts it -/
def nb8 (v : Int64) (k : Nat) : Int32 := ((v >>> ((nI (8 * k)).toInt64 &&& 63)) &&& 255).toInt32
theorem setN_self {α : Type} (f : Nat → α) (k : Nat) : setN f k (f k) = f := by
  funext j
  unfold setN
  by_cases h : j = k
  · rw [if_pos h, h]
  · rw [if_neg h]
theorem ku_self_LR (τ : BM) : kuLe (kuRC τ (kgRC τ)) (kgLe τ) = τ := by
  unfold kuLe kuRC kgRC kgLe
  simp only [setN_self]
def nxSt (τ : BM) (v : Int64) (i : Nat) : BM := kuLe (kuRC τ (putL (kgRC τ) (kgLe τ) ((List.range i).map (nb8 v)))) (kgLe τ + i)
theorem nxSt_0 (τ : BM) (v : Int64) : nxSt τ v 0 = τ := by
  unfold nxSt
  rw [List.range_zero, List.map_nil, putL_nil, Nat.add_zero]
  exact ku_self_LR τ
theorem ku_RC_Le (τ : BM) (b : Nat) (c : Nat → Int32) : kuRC (kuLe τ b) c = kuLe (kuRC τ c) b := rfl
theorem ku_RC_RC (τ : BM) (a c : Nat → Int32) : kuRC (kuRC τ a) c = kuRC τ c := by unfold kuRC; rw [setN_setN]
theorem ku_Le_Le (τ : BM) (a c : Nat) : kuLe (kuLe τ a) c = kuLe τ c := by unfold kuLe; rw [setN_setN]
theorem ku_LR (τ : BM) (a c : Nat → Int32) (b d : Nat) : kuLe (kuRC (kuLe (kuRC τ a) b) c) d = kuLe (kuRC τ c) d := by rw [ku_RC_Le, ku_RC_RC, ku_Le_Le]
theorem nxSt_step (τ : BM) (v : Int64) (i : Nat) : kuLe (kuRC (nxSt τ v i) (upd (kgRC (nxSt τ v i)) (kgLe (nxSt τ v i)) (nb8 v i))) (kgLe (nxSt τ v i) + 1) = nxSt τ v (i + 1) := by
  have h1 : kgRC (nxSt τ v i) = putL (kgRC τ) (kgLe τ) ((List.range i).map (nb8 v)) := rfl
  have h2 : kgLe (nxSt τ v i) = kgLe τ + i := rfl
  have e := putL_snoc (kgRC τ) (kgLe τ) ((List.range i).map (nb8 v)) (nb8 v i)
  rw [rng_len] at e
  rw [h1, h2, e, ← rng_map]
  unfold nxSt
  rw [ku_LR, Nat.add_assoc]
def recB (τ : BM) : List Int32 := (List.range (kgLe τ)).map (kgRC τ)
def hdM (k : Int32) (n : Nat) : List Int32 := [k, nI n &&& nI 255, nI n >>> (nI 8 &&& 31)]
/-- a write: the head and i bytes of the record -/
def wrSt (τ : BM) (k : Int32) (i : Nat) : BM := kuSz (kuJR τ (putL (kgJR τ) (kgSz τ) (hdM k (kgLe τ) ++ (List.range i).map (kgRC τ)))) (kgSz τ + 3 + i)
theorem ku_JJ (τ : BM) (a b : Nat → Int32) : kuJR (kuJR τ a) b = kuJR τ b := by unfold kuJR; rw [setN_setN]
theorem ku_JR_Sz (τ : BM) (b : Nat) (c : Nat → Int32) : kuJR (kuSz τ b) c = kuSz (kuJR τ c) b := rfl
theorem ku_Sz_Sz (τ : BM) (a c : Nat) : kuSz (kuSz τ a) c = kuSz τ c := by unfold kuSz; rw [setN_setN]
theorem ku_SJ (τ : BM) (a c : Nat → Int32) (b d : Nat) : kuSz (kuJR (kuSz (kuJR τ a) b) c) d = kuSz (kuJR τ c) d := by rw [ku_JR_Sz, ku_JJ, ku_Sz_Sz]
theorem wrSt_0 (τ : BM) (k : Int32) : kuSz (kuJR (kuJR (kuJR τ (upd (kgJR τ) (kgSz τ) k)) (upd (upd (kgJR τ) (kgSz τ) k) (kgSz τ + 1) (nI (kgLe τ) &&& nI 255))) (upd (upd (upd (kgJR τ) (kgSz τ) k) (kgSz τ + 1) (nI (kgLe τ) &&& nI 255)) (kgSz τ + 2) (nI (kgLe τ) >>> (nI 8 &&& 31)))) (kgSz τ + 3) = wrSt τ k 0 := by
  have e1 := putL_one (kgJR τ) (kgSz τ) k
  have e2 : upd (putL (kgJR τ) (kgSz τ) [k]) (kgSz τ + 1) (nI (kgLe τ) &&& nI 255) = putL (kgJR τ) (kgSz τ) [k, nI (kgLe τ) &&& nI 255] := putL_snoc (kgJR τ) (kgSz τ) [k] (nI (kgLe τ) &&& nI 255)
  have e3 : upd (putL (kgJR τ) (kgSz τ) [k, nI (kgLe τ) &&& nI 255]) (kgSz τ + 2) (nI (kgLe τ) >>> (nI 8 &&& 31)) = putL (kgJR τ) (kgSz τ) (hdM k (kgLe τ)) := putL_snoc (kgJR τ) (kgSz τ) [k, nI (kgLe τ) &&& nI 255] (nI (kgLe τ) >>> (nI 8 &&& 31))
  rw [e1, e2, e3, ku_JJ, ku_JJ]
  unfold wrSt
  rw [List.range_zero, List.map_nil, List.append_nil]
theorem wrSt_step (τ : BM) (k : Int32) (i : Nat) : kuSz (kuJR (wrSt τ k i) (upd (kgJR (wrSt τ k i)) (kgSz (wrSt τ k i)) (kgRC (wrSt τ k i) i))) (kgSz (wrSt τ k i) + 1) = wrSt τ k (i + 1) := by
  have h1 : kgJR (wrSt τ k i) = putL (kgJR τ) (kgSz τ) (hdM k (kgLe τ) ++ (List.range i).map (kgRC τ)) := rfl
  have h2 : kgSz (wrSt τ k i) = kgSz τ + 3 + i := rfl
  have h3 : kgRC (wrSt τ k i) = kgRC τ := rfl
  have e := putL_snoc (kgJR τ) (kgSz τ) (hdM k (kgLe τ) ++ (List.range i).map (kgRC τ)) (kgRC τ i)
  rw [List.length_append, rng_len, show (hdM k (kgLe τ)).length = 3 from rfl, ← Nat.add_assoc] at e
  rw [h1, h2, h3, e, List.append_assoc, ← rng_map]
  unfold wrSt
  rw [ku_SJ, Nat.add_assoc (kgSz τ + 3)]
def wrM (τ : BM) (k : Int32) : BM := kuSz (kuJR (wrSt τ k (kgLe τ)) (upd (kgJR (wrSt τ k (kgLe τ))) (kgSz τ + 3 + kgLe τ) (sm (kgJR (wrSt τ k (kgLe τ))) (kgSz τ) (3 + kgLe τ)))) (kgSz τ + 3 + kgLe τ + 1)
theorem ku_self_BY (τ : BM) : kuBY τ (kgBY τ) = τ := by
  unfold kuBY kgBY
  simp only [setN_self]
theorem ku_BY_BY (τ : BM) (a c : Nat → Int32) : kuBY (kuBY τ a) c = kuBY τ c := by unfold kuBY; rw [setN_setN]
def sbSt (τ : BM) (i : Nat) : BM := kuBY (kuLN (kuDG τ (vp_updL (kgDG τ) (kgBl τ) (dg (kgRC τ) 0 (kgLe τ)))) (upd (kgLN τ) (kgBl τ) (nI (kgLe τ)))) (putL (kgBY τ) (700 * kgBl τ) ((List.range i).map (kgRC τ)))
theorem sbSt_0 (τ : BM) : kuLN (kuDG τ (vp_updL (kgDG τ) (kgBl τ) (dg (kgRC τ) 0 (kgLe τ)))) (upd (kgLN τ) (kgBl τ) (nI (kgLe τ))) = sbSt τ 0 := by
  unfold sbSt
  rw [List.range_zero, List.map_nil, putL_nil]
  exact (ku_self_BY (kuLN (kuDG τ (vp_updL (kgDG τ) (kgBl τ) (dg (kgRC τ) 0 (kgLe τ)))) (upd (kgLN τ) (kgBl τ) (nI (kgLe τ))))).symm
theorem sbSt_step (τ : BM) (i : Nat) : kuBY (sbSt τ i) (upd (kgBY (sbSt τ i)) (700 * kgBl (sbSt τ i) + i) (kgRC (sbSt τ i) i)) = sbSt τ (i + 1) := by
  have h1 : kgBY (sbSt τ i) = putL (kgBY τ) (700 * kgBl τ) ((List.range i).map (kgRC τ)) := rfl
  have h2 : kgBl (sbSt τ i) = kgBl τ := rfl
  have h3 : kgRC (sbSt τ i) = kgRC τ := rfl
  have e := putL_snoc (kgBY τ) (700 * kgBl τ) ((List.range i).map (kgRC τ)) (kgRC τ i)
  rw [rng_len] at e
  rw [h1, h2, h3, e, ← rng_map]
  unfold sbSt
  rw [ku_BY_BY]
def sBlob (τ : BM) : Option BM := match fnd (kgDG τ) (dg (kgRC τ) 0 (kgLe τ)) (kgBl τ) with
  | some _ => some τ
  | none => if kgBl τ = 20 then none else some (kuBl (sbSt τ (kgLe τ)) (kgBl τ + 1))
theorem sBlob_some {τ : BM} {i : Nat} (h : fnd (kgDG τ) (dg (kgRC τ) 0 (kgLe τ)) (kgBl τ) = some i) : sBlob τ = some τ := by rw [sBlob, h]
theorem sBlob_full {τ : BM} (h : fnd (kgDG τ) (dg (kgRC τ) 0 (kgLe τ)) (kgBl τ) = none) (hb : kgBl τ = 20) : sBlob τ = none := by rw [sBlob, h]; exact if_pos hb
theorem sBlob_new {τ : BM} (h : fnd (kgDG τ) (dg (kgRC τ) 0 (kgLe τ)) (kgBl τ) = none) (hb : kgBl τ ≠ 20) : sBlob τ = some (kuBl (sbSt τ (kgLe τ)) (kgBl τ + 1)) := by rw [sBlob, h]; exact if_neg hb
def sKey (τ : BM) (k d : Int64) : Option BM := match fnd (kgKS τ) k (kgKn τ) with
  | some i => some (kuTO (kuKS τ (vp_updL (kgKS τ) i k)) (vp_updL (kgTO τ) i d))
  | none => if kgKn τ = 16 then none else some (kuTO (kuKS (kuKn τ (kgKn τ + 1)) (vp_updL (kgKS τ) (kgKn τ) k)) (vp_updL (kgTO τ) (kgKn τ) d))
theorem sKey_some {τ : BM} {k d : Int64} {i : Nat} (h : fnd (kgKS τ) k (kgKn τ) = some i) : sKey τ k d = some (kuTO (kuKS τ (vp_updL (kgKS τ) i k)) (vp_updL (kgTO τ) i d)) := by rw [sKey, h]
theorem sKey_full {τ : BM} {k d : Int64} (h : fnd (kgKS τ) k (kgKn τ) = none) (hb : kgKn τ = 16) : sKey τ k d = none := by rw [sKey, h]; exact if_pos hb
theorem sKey_new {τ : BM} {k d : Int64} (h : fnd (kgKS τ) k (kgKn τ) = none) (hb : kgKn τ ≠ 16) : sKey τ k d = some (kuTO (kuKS (kuKn τ (kgKn τ + 1)) (vp_updL (kgKS τ) (kgKn τ) k)) (vp_updL (kgTO τ) (kgKn τ) d)) := by rw [sKey, h]; exact if_neg hb
def sTell (τ : BM) : Option BM := if kgLe τ = 9 then (if nb (kgRC τ) 0 < 8 then (match fnd (kgDG τ) (longAt (kgRC τ) 1) (kgBl τ) with
    | some _ => some (kuTE (kuTG τ (vp_updL (kgTG τ) (nb (kgRC τ) 0) (longAt (kgRC τ) 1))) (updB (kgTE τ) (nb (kgRC τ) 0) true))
    | none => none) else none) else none
theorem sTell_len {τ : BM} (h : kgLe τ ≠ 9) : sTell τ = none := by rw [sTell, if_neg h]
theorem sTell_tag {τ : BM} (h : kgLe τ = 9) (h8 : ¬ nb (kgRC τ) 0 < 8) : sTell τ = none := by rw [sTell, if_pos h, if_neg h8]
theorem sTell_none {τ : BM} (h : kgLe τ = 9) (h8 : nb (kgRC τ) 0 < 8) (hf : fnd (kgDG τ) (longAt (kgRC τ) 1) (kgBl τ) = none) : sTell τ = none := by rw [sTell, if_pos h, if_pos h8, hf]
theorem sTell_some {τ : BM} {i : Nat} (h : kgLe τ = 9) (h8 : nb (kgRC τ) 0 < 8) (hf : fnd (kgDG τ) (longAt (kgRC τ) 1) (kgBl τ) = some i) : sTell τ = some (kuTE (kuTG τ (vp_updL (kgTG τ) (nb (kgRC τ) 0) (longAt (kgRC τ) 1))) (updB (kgTE τ) (nb (kgRC τ) 0) true)) := by rw [sTell, if_pos h, if_pos h8, hf]
def sUnt (τ : BM) : Option BM := if kgLe τ = 1 then (if nb (kgRC τ) 0 < 8 then some (kuTE τ (updB (kgTE τ) (nb (kgRC τ) 0) false)) else none) else none
theorem sUnt_len {τ : BM} (h : kgLe τ ≠ 1) : sUnt τ = none := by rw [sUnt, if_neg h]
theorem sUnt_tag {τ : BM} (h : kgLe τ = 1) (h8 : ¬ nb (kgRC τ) 0 < 8) : sUnt τ = none := by rw [sUnt, if_pos h, if_neg h8]
theorem sUnt_some {τ : BM} (h : kgLe τ = 1) (h8 : nb (kgRC τ) 0 < 8) : sUnt τ = some (kuTE τ (updB (kgTE τ) (nb (kgRC τ) 0) false)) := by rw [sUnt, if_pos h, if_pos h8]
def sK16 (τ : BM) : Option BM := if kgLe τ = 16 then sKey τ (longAt (kgRC τ) 0) (longAt (kgRC τ) 8) else none
def ofM (o : Option BM) (τ : BM) : BM := o.getD τ
/-- the typed bytes go into the record -/
def kpSt (τ : BM) : Nat → BM
  | 0 => kuLe τ 0
  | i + 1 => nxSt (kpSt τ i) (kgT τ i).toInt64 1
theorem kpSt_keep (τ : BM) (i : Nat) : kgMy (kpSt τ i) = kgMy τ ∧ kgT (kpSt τ i) = kgT τ ∧ kgLe (kpSt τ i) = i ∧ kgBl (kpSt τ i) = kgBl τ ∧ kgDG (kpSt τ i) = kgDG τ ∧ kgSz (kpSt τ i) = kgSz τ := by
  induction i with
  | zero => exact ⟨rfl, rfl, rfl, rfl, rfl, rfl⟩
  | succ i ih =>
    obtain ⟨h1, h2, h3, h4, h5, h6⟩ := ih
    refine ⟨h1, h2, ?_, h4, h5, h6⟩
    show kgLe (kpSt τ i) + 1 = i + 1
    rw [h3]
def tlSt (τ : BM) (t : Nat) (d : Int64) : BM := nxSt (nxSt (kuLe (kuTh τ 0) 0) (nI t).toInt64 1) d 8
def utSt (τ : BM) (t : Nat) : BM := nxSt (kuLe (kuTh τ 0) 0) (nI t).toInt64 1
def lnSt (τ : BM) (k d : Int64) : BM := nxSt (nxSt (kuLe (kuTh τ 0) 0) k 8) d 8
def lenM (τ : BM) (d : Int64) : Int32 := match fnd (kgDG τ) d (kgBl τ) with
  | none => -1
  | some i => kgLN τ i
def flB (f : Nat → Bool) : Nat → (Nat → Bool)
  | 0 => f
  | n + 1 => updB (flB f n) n false
def emSt (τ : BM) (i : Nat) : BM := kuTE (kuKn (kuBl τ 0) 0) (flB (kgTE τ) i)
theorem emSt_0 (τ : BM) : kuKn (kuBl τ 0) 0 = emSt τ 0 := by
  unfold emSt
  show _ = kuTE (kuKn (kuBl τ 0) 0) (kgTE (kuKn (kuBl τ 0) 0))
  unfold kuTE kgTE
  simp only [setN_self]
theorem emSt_step (τ : BM) (i : Nat) : kuTE (emSt τ i) (updB (kgTE (emSt τ i)) i false) = emSt τ (i + 1) := by
  have h1 : kgTE (emSt τ i) = flB (kgTE τ) i := rfl
  rw [h1]
  unfold emSt kuTE
  simp only [setN_setN]
  rfl
def isToldM (τ : BM) (d : Int64) : Bool := anyB (fun t => kgTE τ t && decide (kgTG τ t = d)) 8 || anyB (fun k => decide (kgPN τ k ≠ 0) && decide (kgPN τ k = d)) 4
theorem ku_self_TM (τ : BM) : kuMy (kuT τ (kgT τ)) (kgMy τ) = τ := by
  unfold kuMy kuT kgMy kgT
  simp only [setN_self]
theorem tySt_0 (τ : BM) (v : Int32) : kuTh τ 0 = tySt τ v 0 := by
  unfold tySt
  rw [List.range_zero, List.map_nil, putL_nil, Nat.add_zero]
  exact (ku_self_TM (kuTh τ 0)).symm
theorem cnt_out {v : Int32} (h : v < 0 ∨ ¬ v ≤ nI 3) (k : Int32) (hk : 0 ≤ k ∧ k ≤ 3) : ¬ v = k := by
  intro e
  subst e
  rcases h with h | h
  · exact absurd h (Int32.not_lt.mpr hk.1)
  · exact h hk.2
