theorem dJ7_fillI_0 : decode cJ7_fillI 0 = .ok (.iconst 0, 1) := by decide +kernel
theorem dJ7_fillI_1 : decode cJ7_fillI 1 = .ok (.istore_n 2, 1) := by decide +kernel
theorem dJ7_fillI_2 : decode cJ7_fillI 2 = .ok (.aload_n 0, 1) := by decide +kernel
theorem dJ7_fillI_3 : decode cJ7_fillI 3 = .ok (.arraylength, 1) := by decide +kernel
theorem dJ7_fillI_4 : decode cJ7_fillI 4 = .ok (.istore_n 3, 1) := by decide +kernel
theorem dJ7_fillI_5 : decode cJ7_fillI 5 = .ok (.iload_n 2, 1) := by decide +kernel
theorem dJ7_fillI_6 : decode cJ7_fillI 6 = .ok (.iload_n 3, 1) := by decide +kernel
theorem dJ7_fillI_7 : decode cJ7_fillI 7 = .ok (.if_icmp .ge 13, 3) := by decide +kernel
theorem dJ7_fillI_10 : decode cJ7_fillI 10 = .ok (.aload_n 0, 1) := by decide +kernel
theorem dJ7_fillI_11 : decode cJ7_fillI 11 = .ok (.iload_n 2, 1) := by decide +kernel
theorem dJ7_fillI_12 : decode cJ7_fillI 12 = .ok (.iload_n 1, 1) := by decide +kernel
theorem dJ7_fillI_13 : decode cJ7_fillI 13 = .ok (.iastore, 1) := by decide +kernel
theorem dJ7_fillI_14 : decode cJ7_fillI 14 = .ok (.iinc 2 1, 3) := by decide +kernel
theorem dJ7_fillI_17 : decode cJ7_fillI 17 = .ok (.goto (-12), 3) := by decide +kernel
theorem dJ7_fillI_20 : decode cJ7_fillI 20 = .ok (.return_, 1) := by decide +kernel
theorem dJ7_fillJ_0 : decode cJ7_fillJ 0 = .ok (.iconst 0, 1) := by decide +kernel
theorem dJ7_fillJ_1 : decode cJ7_fillJ 1 = .ok (.istore_n 3, 1) := by decide +kernel
theorem dJ7_fillJ_2 : decode cJ7_fillJ 2 = .ok (.aload_n 0, 1) := by decide +kernel
theorem dJ7_fillJ_3 : decode cJ7_fillJ 3 = .ok (.arraylength, 1) := by decide +kernel
theorem dJ7_fillJ_4 : decode cJ7_fillJ 4 = .ok (.istore 4, 2) := by decide +kernel
theorem dJ7_fillJ_6 : decode cJ7_fillJ 6 = .ok (.iload_n 3, 1) := by decide +kernel
theorem dJ7_fillJ_7 : decode cJ7_fillJ 7 = .ok (.iload 4, 2) := by decide +kernel
theorem dJ7_fillJ_9 : decode cJ7_fillJ 9 = .ok (.if_icmp .ge 13, 3) := by decide +kernel
theorem dJ7_fillJ_12 : decode cJ7_fillJ 12 = .ok (.aload_n 0, 1) := by decide +kernel
theorem dJ7_fillJ_13 : decode cJ7_fillJ 13 = .ok (.iload_n 3, 1) := by decide +kernel
theorem dJ7_fillJ_14 : decode cJ7_fillJ 14 = .ok (.lload_n 1, 1) := by decide +kernel
theorem dJ7_fillJ_15 : decode cJ7_fillJ 15 = .ok (.lastore, 1) := by decide +kernel
theorem dJ7_fillJ_16 : decode cJ7_fillJ 16 = .ok (.iinc 3 1, 3) := by decide +kernel
theorem dJ7_fillJ_19 : decode cJ7_fillJ 19 = .ok (.goto (-13), 3) := by decide +kernel
theorem dJ7_fillJ_22 : decode cJ7_fillJ 22 = .ok (.return_, 1) := by decide +kernel
set_option maxRecDepth 100000 in
set_option maxHeartbeats 4000000 in
theorem c_fillI (l : Launch) (f : Nat → Int32) (N : Nat) (v : Int32) (hN : N < 2 ^ 31) (dC : Nat → ClassId) (dI : Nat → Nat → Nat) (cI : ClassId) (a sz : Nat) : Met l yJ7_fillI wsJ7_fillI ({ frames := 0, cells := 0, slots := 0, locals := 0 } : Room) (va_Pc [.ref a, .int v] (fun U => U.heap.size = sz ∧ va_P (dC, dI) vwCl [(a, .inl (cI, N, .inl f))] U.heap ∧ va_K (dC, dI) vwCl [(cI, .int)] U ∧ va_D (fun _ => True) [(a, .inl (cI, N, .inl f))])) (va_Qv (fun (_ : Unit) => True) (fun _ t => va_P (dC, dI) vwCl [(a, .inl (cI, N, .inl (flI f v N)))] t.heap ∧ va_D (va_A [(a, .inl (cI, N, .inl f))] sz) [(a, .inl (cI, N, .inl (flI f v N)))]) (va_A [(a, .inl (cI, N, .inl f))] sz)) 0 0 (va_A [(a, .inl (cI, N, .inl f))] sz) := by
  refine Met.ofW (cc := cJ7_fillI) (maxL := 4) (ret := none) (by decide) rfl ?_
  intro p e s m args below meth c s₁ B hml hv
  obtain ⟨rfl, hsz, hP, hK, hD0⟩ := hv
  have hx := B.exec
  have hb := B.bytes
  have hr := B.returns
  have hlocks := B.notSynchronized
  subst hsz
  have hD := hD0.self (sz := s.heap.size)
  generalize hAe : va_A [(a, .inl (cI, N, .inl f))] s.heap.size = A at hD ⊢
  have hS : va_S A s.heap s.heap [] := va_S.rf
  have hl := lv_entry [.ref a, .int v] (n := 4) (Nat.le_of_ble_eq_true rfl)
  rw [lg_entry_eq]
  generalize (lg_sl [.ref a, .int v] ++ List.replicate (4 - (lg_sl [.ref a, .int v]).length) Slot.unset).toArray = ls at hl ⊢
  have hl : lv_has ls 4 [(0, .ref a), (1, .int v)] := hl
  refine lv_iconst (v := nI 0) hx hb dJ7_fillI_0 (by decide) ?_
  refine lv_istore_n (lv' := [(2, .int (nI 0)), (0, .ref a), (1, .int v)]) hx hb dJ7_fillI_1 rfl hl (by decide) rfl (fun ls hl => ?_)
  refine lv_aload_n hx hb dJ7_fillI_2 rfl (lv_at hl 1 rfl) ?_
  refine va_alen (v := nI N) hx hb hK hP 0 0 rfl rfl rfl dJ7_fillI_3 ?_
  refine lv_istore_n (lv' := [(3, .int (nI N)), (2, .int (nI 0)), (0, .ref a), (1, .int v)]) hx hb dJ7_fillI_4 rfl hl (by decide) rfl (fun ls hl => ?_)
  have loop : ∀ (k i : Nat) (g : Nat → Int32), i ≤ N → N < i + k → g = flI f v i → ∀ (H : Heap) (locs : List Loc), va_P (dC, dI) vwCl [(a, .inl (cI, N, .inl g))] H → va_D A [(a, .inl (cI, N, .inl g))] → va_S A s.heap H locs → ∀ (ls : Array Slot), lv_has ls 4 [(2, .int (nI i)), (3, .int (nI N)), (0, .ref a), (1, .int v)] → W p l e (headSpec wsJ7_fillI ({ frames := 0, cells := 0, slots := 0, locals := 0 } : Room)).room s m ([.ref a, .int v].toArray) below meth c H locs 0 0 (MQ below (va_Qv (fun (_ : Unit) => True) (fun _ t => va_P (dC, dI) vwCl [(a, .inl (cI, N, .inl (flI f v N)))] t.heap ∧ va_D A [(a, .inl (cI, N, .inl (flI f v N)))]) A) ([.ref a, .int v].toArray) s 0 0 A) (F0 m 5 ls []) := by
    intro k
    induction k with
    | zero => intro i g h1 h2; exact absurd h2 (by omega)
    | succ k ih =>
      intro i g hi hin eg H locs hP hD hS ls hl
      refine lv_iload_n hx hb dJ7_fillI_5 rfl (lv_at hl 0 rfl) ?_
      refine lv_iload_n hx hb dJ7_fillI_6 rfl (lv_at hl 1 rfl) ?_
      refine xr_icmp_ge (tgt := 20) hx hb dJ7_fillI_7 (by decide) (by omega) (by omega) (fun c7 => ?_) (fun c7 => ?_)
      · have e9 : g = flI f v N := by rw [eg, show i = N by omega]
        rw [e9] at hP hD
        exact W.vret hx hb hr (fun t ht hW => ⟨⟨(), rfl, trivial, by rw [ht]; exact hP, hD⟩, hS.F ht⟩) hS.2.2 dJ7_fillI_20
      · refine lv_aload_n hx hb dJ7_fillI_10 rfl (lv_at hl 2 rfl) ?_
        refine lv_iload_n hx hb dJ7_fillI_11 rfl (lv_at hl 0 rfl) ?_
        refine lv_iload_n hx hb dJ7_fillI_12 rfl (lv_at hl 3 rfl) ?_
        refine xr_iast (f := g) (i := i) (x := v) hx hb hK hP hD hS 0 0 rfl rfl (by omega) hN dJ7_fillI_13 (fun H locs hP hD hS => ?_)
        have hP : va_P (dC, dI) vwCl [(a, .inl (cI, N, .inl (upd g i v)))] H := hP
        have hD : va_D A [(a, .inl (cI, N, .inl (upd g i v)))] := hD
        refine lv_iinc (v := nI (i + 1)) (lv' := [(2, .int (nI (i + 1))), (3, .int (nI N)), (0, .ref a), (1, .int v)]) hx hb dJ7_fillI_14 hl (k := 0) rfl (nI_add _ 1) (by decide) rfl (fun ls hl => ?_)
        refine lv_goto (tgt := 5) hx hb dJ7_fillI_17 (by decide) ?_
        exact ih (i + 1) _ (by omega) (by omega) (by rw [eg]; rfl) H locs hP hD hS ls (lv_sub hl [0, 1, 2, 3] rfl)
  exact loop (N + 1) 0 _ (by omega) (by omega) rfl _ _ hP hD hS ls (lv_sub hl [1, 0, 2, 3] rfl)
theorem xr_fillI {p : Program} {l : Launch} {e : Env} {R : Room} {s : State} {m : MethodId} {args : Array Value} {below : List Frame} {meth : Method} {c : Code} {H : Heap} {locs : List Loc} {cells slots : Nat} {Q : State → Prop} {cc : ByteArray} {pc nL index : Nat} {ls : Array Slot} {rest : List Value} {own : String} {dC : Nat → ClassId} {dI : Nat → Nat → Nat} {tys : List (ClassId × FieldType)} {ws : va_W} {A : Nat → Prop} {H0 : Heap}
    (S : CallFix p m c cc nL s args GW own) (hg : GoodIn GW (va_wsS own index yJ7_fillI wsJ7_fillI)) (hfr : 1 ≤ R.frames) (hlo : 8 + (4 + 11) ≤ R.locals) (hK : va_K (dC, dI) vwCl tys s) (hP : va_P (dC, dI) vwCl ws H) (hD : va_D A ws) (hS : va_S A H0 H locs) (hA : ∀ q, H0.size ≤ q → A q)
    (q t0 : Nat) {a : Nat} {cI : ClassId} {N : Nat} {f : Nat → Int32} {v : Int32} (ha : ws[q]? = some (a, .inl (cI, N, .inl f))) (ht0 : tys[t0]? = some (cI, .int)) (hN : N < 2 ^ 31) (hl : ls.size = nL) (hroom : (rest.map fun v => v.category).sum ≤ 8) (hdg : decode cc pc = .ok (.invokestatic index, 3)) (hc : cells ≤ R.cells) (hs : slots ≤ R.slots)
    (kk : ∀ (H1 : Heap) (locs1 : List Loc), va_P (dC, dI) vwCl (ws.set q (a, .inl (cI, N, .inl (flI f v N)))) H1 → va_D A (ws.set q (a, .inl (cI, N, .inl (flI f v N)))) → va_S A H0 H1 locs1 → W p l e R s m args below meth c H1 locs1 cells slots Q (F0 m (pc + 3) ls rest)) :
    W p l e R s m args below meth c H locs cells slots Q (F0 m pc ls (.int v :: .ref a :: rest)) := by
  have hz0 : q < ws.length := (List.getElem?_eq_some_iff.mp ha).1
  have hsub : [q].map (fun i => ws[i]?) = [(a, .inl (cI, N, .inl f))].map some := by simp only [List.map_cons, List.map_nil, ha]
  have hPc : va_P (dC, dI) vwCl [(a, .inl (cI, N, .inl f))] H := hP.sub [q] (by simp [List.filterMap, ha])
  have hDc : va_D A [(a, .inl (cI, N, .inl f))] := hD.sub [q] (by simp [va_nd]) hsub
  have hKc : va_K (dC, dI) vwCl [(cI, .int)] s := hK.sub [t0] (by simp [List.filterMap, ht0])
  have hFc := va_free (wc := [(a, .inl (cI, N, .inl f))]) hD hS hA [q] hsub
  refine va_callv (va_runS (As := [.ref a, .int v]) (rest := rest) S (c_fillI l f N v hN dC dI cI a H.size) (va_cwS 2 S.2.2.2.2 hg rfl rfl rfl (by decide +kernel) ⟨hfr, hlo⟩) ⟨fun a U g mk q => ⟨q.1, q.2.1, q.2.2.1, va_K.moved (u := U) (U := U.calling g mk a) (Vm.Alike.refl U.vm) q.2.2.2.1, q.2.2.2.2⟩, fun U hU hW => ⟨rfl, by rw [hU], by rw [hU]; exact hPc, va_K.moved hW.alike hKc, hDc.weaken (fun _ _ _ _ => trivial)⟩⟩ rfl rfl hl rfl (lv_room hroom) hdg ⟨hc, hs⟩) hS (fun q _ h => hFc q h) hFc (fun u t H1 locs1 ht hvm hw hB hz1 hk1 hS1 => ?_)
  obtain ⟨hP1, hD1⟩ := hB
  rw [ht] at hP1
  refine kk H1 locs1 (fun k x hx => ?_) (hD.set ha) hS1
  by_cases hkq : k = q
  · subst hkq
    rw [List.getElem?_set_self hz0] at hx
    cases hx
    exact hP1 0 _ rfl
  · rw [List.getElem?_set_ne (Ne.symm hkq)] at hx
    refine (hP k x hx).kept (hk1 x.1 (hP k x hx).lt (fun h9 => ?_))
    rcases h9 with ⟨k2, e2, h9⟩ | h9
    · have h10 : k2 = 0 := by
        cases k2 with
        | zero => rfl
        | succ k2 => simp at h9
      subst h10
      cases h9
      exact hkq (hD.1 k q x _ hx ha rfl)
    · exact absurd (hP k x hx).lt (Nat.not_lt.mpr h9)
set_option maxRecDepth 100000 in
set_option maxHeartbeats 4000000 in
theorem c_fillJ (l : Launch) (f : Nat → Int64) (N : Nat) (v : Int64) (hN : N < 2 ^ 31) (dC : Nat → ClassId) (dI : Nat → Nat → Nat) (cI : ClassId) (a sz : Nat) : Met l yJ7_fillJ wsJ7_fillJ ({ frames := 0, cells := 0, slots := 0, locals := 0 } : Room) (va_Pc [.ref a, .long v] (fun U => U.heap.size = sz ∧ va_P (dC, dI) vwCl [(a, .inl (cI, N, .inr (.inl f)))] U.heap ∧ va_K (dC, dI) vwCl [(cI, .long)] U ∧ va_D (fun _ => True) [(a, .inl (cI, N, .inr (.inl f)))])) (va_Qv (fun (_ : Unit) => True) (fun _ t => va_P (dC, dI) vwCl [(a, .inl (cI, N, .inr (.inl (flJ f v N))))] t.heap ∧ va_D (va_A [(a, .inl (cI, N, .inr (.inl f)))] sz) [(a, .inl (cI, N, .inr (.inl (flJ f v N))))]) (va_A [(a, .inl (cI, N, .inr (.inl f)))] sz)) 0 0 (va_A [(a, .inl (cI, N, .inr (.inl f)))] sz) := by
  refine Met.ofW (cc := cJ7_fillJ) (maxL := 5) (ret := none) (by decide) rfl ?_
  intro p e s m args below meth c s₁ B hml hv
  obtain ⟨rfl, hsz, hP, hK, hD0⟩ := hv
  have hx := B.exec
  have hb := B.bytes
  have hr := B.returns
  have hlocks := B.notSynchronized
  subst hsz
  have hD := hD0.self (sz := s.heap.size)
  generalize hAe : va_A [(a, .inl (cI, N, .inr (.inl f)))] s.heap.size = A at hD ⊢
  have hS : va_S A s.heap s.heap [] := va_S.rf
  have hl := lv_entry [.ref a, .long v] (n := 5) (Nat.le_of_ble_eq_true rfl)
  rw [lg_entry_eq]
  generalize (lg_sl [.ref a, .long v] ++ List.replicate (5 - (lg_sl [.ref a, .long v]).length) Slot.unset).toArray = ls at hl ⊢
  have hl : lv_has ls 5 [(0, .ref a), (1, .long v)] := hl
  refine lv_iconst (v := nI 0) hx hb dJ7_fillJ_0 (by decide) ?_
  refine lv_istore_n (lv' := [(3, .int (nI 0)), (0, .ref a), (1, .long v)]) hx hb dJ7_fillJ_1 rfl hl (by decide) rfl (fun ls hl => ?_)
  refine lv_aload_n hx hb dJ7_fillJ_2 rfl (lv_at hl 1 rfl) ?_
  refine va_alen (v := nI N) hx hb hK hP 0 0 rfl rfl rfl dJ7_fillJ_3 ?_
  refine lv_istore (lv' := [(4, .int (nI N)), (3, .int (nI 0)), (0, .ref a), (1, .long v)]) hx hb dJ7_fillJ_4 hl (by decide) rfl (fun ls hl => ?_)
  have loop : ∀ (k i : Nat) (g : Nat → Int64), i ≤ N → N < i + k → g = flJ f v i → ∀ (H : Heap) (locs : List Loc), va_P (dC, dI) vwCl [(a, .inl (cI, N, .inr (.inl g)))] H → va_D A [(a, .inl (cI, N, .inr (.inl g)))] → va_S A s.heap H locs → ∀ (ls : Array Slot), lv_has ls 5 [(3, .int (nI i)), (4, .int (nI N)), (0, .ref a), (1, .long v)] → W p l e (headSpec wsJ7_fillJ ({ frames := 0, cells := 0, slots := 0, locals := 0 } : Room)).room s m ([.ref a, .long v].toArray) below meth c H locs 0 0 (MQ below (va_Qv (fun (_ : Unit) => True) (fun _ t => va_P (dC, dI) vwCl [(a, .inl (cI, N, .inr (.inl (flJ f v N))))] t.heap ∧ va_D A [(a, .inl (cI, N, .inr (.inl (flJ f v N))))]) A) ([.ref a, .long v].toArray) s 0 0 A) (F0 m 6 ls []) := by
    intro k
    induction k with
    | zero => intro i g h1 h2; exact absurd h2 (by omega)
    | succ k ih =>
      intro i g hi hin eg H locs hP hD hS ls hl
      refine lv_iload_n hx hb dJ7_fillJ_6 rfl (lv_at hl 0 rfl) ?_
      refine lv_iload hx hb dJ7_fillJ_7 (lv_at hl 1 rfl) ?_
      refine xr_icmp_ge (tgt := 22) hx hb dJ7_fillJ_9 (by decide) (by omega) (by omega) (fun c9 => ?_) (fun c9 => ?_)
      · have e9 : g = flJ f v N := by rw [eg, show i = N by omega]
        rw [e9] at hP hD
        exact W.vret hx hb hr (fun t ht hW => ⟨⟨(), rfl, trivial, by rw [ht]; exact hP, hD⟩, hS.F ht⟩) hS.2.2 dJ7_fillJ_22
      · refine lv_aload_n hx hb dJ7_fillJ_12 rfl (lv_at hl 2 rfl) ?_
        refine lv_iload_n hx hb dJ7_fillJ_13 rfl (lv_at hl 0 rfl) ?_
        refine lv_lload_n hx hb dJ7_fillJ_14 rfl (lv_at hl 3 rfl) ?_
        refine xr_last (f := g) (i := i) (x := v) hx hb hK hP hD hS 0 0 rfl rfl (by omega) hN dJ7_fillJ_15 (fun H locs hP hD hS => ?_)
        have hP : va_P (dC, dI) vwCl [(a, .inl (cI, N, .inr (.inl (vp_updL g i v))))] H := hP
        have hD : va_D A [(a, .inl (cI, N, .inr (.inl (vp_updL g i v))))] := hD
        refine lv_iinc (v := nI (i + 1)) (lv' := [(3, .int (nI (i + 1))), (4, .int (nI N)), (0, .ref a), (1, .long v)]) hx hb dJ7_fillJ_16 hl (k := 0) rfl (nI_add _ 1) (by decide) rfl (fun ls hl => ?_)
        refine lv_goto (tgt := 6) hx hb dJ7_fillJ_19 (by decide) ?_
        exact ih (i + 1) _ (by omega) (by omega) (by rw [eg]; rfl) H locs hP hD hS ls (lv_sub hl [0, 1, 2, 3] rfl)
  exact loop (N + 1) 0 _ (by omega) (by omega) rfl _ _ hP hD hS ls (lv_sub hl [1, 0, 2, 3] rfl)
theorem xr_fillJ {p : Program} {l : Launch} {e : Env} {R : Room} {s : State} {m : MethodId} {args : Array Value} {below : List Frame} {meth : Method} {c : Code} {H : Heap} {locs : List Loc} {cells slots : Nat} {Q : State → Prop} {cc : ByteArray} {pc nL index : Nat} {ls : Array Slot} {rest : List Value} {own : String} {dC : Nat → ClassId} {dI : Nat → Nat → Nat} {tys : List (ClassId × FieldType)} {ws : va_W} {A : Nat → Prop} {H0 : Heap}
    (S : CallFix p m c cc nL s args GW own) (hg : GoodIn GW (va_wsS own index yJ7_fillJ wsJ7_fillJ)) (hfr : 1 ≤ R.frames) (hlo : 8 + (5 + 11) ≤ R.locals) (hK : va_K (dC, dI) vwCl tys s) (hP : va_P (dC, dI) vwCl ws H) (hD : va_D A ws) (hS : va_S A H0 H locs) (hA : ∀ q, H0.size ≤ q → A q)
    (q t0 : Nat) {a : Nat} {cI : ClassId} {N : Nat} {f : Nat → Int64} {v : Int64} (ha : ws[q]? = some (a, .inl (cI, N, .inr (.inl f)))) (ht0 : tys[t0]? = some (cI, .long)) (hN : N < 2 ^ 31) (hl : ls.size = nL) (hroom : (rest.map fun v => v.category).sum ≤ 8) (hdg : decode cc pc = .ok (.invokestatic index, 3)) (hc : cells ≤ R.cells) (hs : slots ≤ R.slots)
    (kk : ∀ (H1 : Heap) (locs1 : List Loc), va_P (dC, dI) vwCl (ws.set q (a, .inl (cI, N, .inr (.inl (flJ f v N))))) H1 → va_D A (ws.set q (a, .inl (cI, N, .inr (.inl (flJ f v N))))) → va_S A H0 H1 locs1 → W p l e R s m args below meth c H1 locs1 cells slots Q (F0 m (pc + 3) ls rest)) :
    W p l e R s m args below meth c H locs cells slots Q (F0 m pc ls (.long v :: .ref a :: rest)) := by
  have hz0 : q < ws.length := (List.getElem?_eq_some_iff.mp ha).1
  have hsub : [q].map (fun i => ws[i]?) = [(a, .inl (cI, N, .inr (.inl f)))].map some := by simp only [List.map_cons, List.map_nil, ha]
  have hPc : va_P (dC, dI) vwCl [(a, .inl (cI, N, .inr (.inl f)))] H := hP.sub [q] (by simp [List.filterMap, ha])
  have hDc : va_D A [(a, .inl (cI, N, .inr (.inl f)))] := hD.sub [q] (by simp [va_nd]) hsub
  have hKc : va_K (dC, dI) vwCl [(cI, .long)] s := hK.sub [t0] (by simp [List.filterMap, ht0])
  have hFc := va_free (wc := [(a, .inl (cI, N, .inr (.inl f)))]) hD hS hA [q] hsub
  refine va_callv (va_runS (As := [.ref a, .long v]) (rest := rest) S (c_fillJ l f N v hN dC dI cI a H.size) (va_cwS 2 S.2.2.2.2 hg rfl rfl rfl (by decide +kernel) ⟨hfr, hlo⟩) ⟨fun a U g mk q => ⟨q.1, q.2.1, q.2.2.1, va_K.moved (u := U) (U := U.calling g mk a) (Vm.Alike.refl U.vm) q.2.2.2.1, q.2.2.2.2⟩, fun U hU hW => ⟨rfl, by rw [hU], by rw [hU]; exact hPc, va_K.moved hW.alike hKc, hDc.weaken (fun _ _ _ _ => trivial)⟩⟩ rfl rfl hl rfl (lv_room hroom) hdg ⟨hc, hs⟩) hS (fun q _ h => hFc q h) hFc (fun u t H1 locs1 ht hvm hw hB hz1 hk1 hS1 => ?_)
  obtain ⟨hP1, hD1⟩ := hB
  rw [ht] at hP1
  refine kk H1 locs1 (fun k x hx => ?_) (hD.set ha) hS1
  by_cases hkq : k = q
  · subst hkq
    rw [List.getElem?_set_self hz0] at hx
    cases hx
    exact hP1 0 _ rfl
  · rw [List.getElem?_set_ne (Ne.symm hkq)] at hx
    refine (hP k x hx).kept (hk1 x.1 (hP k x hx).lt (fun h9 => ?_))
    rcases h9 with ⟨k2, e2, h9⟩ | h9
    · have h10 : k2 = 0 := by
        cases k2 with
        | zero => rfl
        | succ k2 => simp at h9
      subst h10
      cases h9
      exact hkq (hD.1 k q x _ hx ha rfl)
    · exact absurd (hP k x hx).lt (Nat.not_lt.mpr h9)
