/-! ===== both objects, fresh ===== -/
def cartI : zCart := (fz, fz, fz, fz, fz, zwr fz 0 zL6, nI 3)
theorem zL6_20 : ∀ t, t < 30 → zwr fz 0 zL6 t = nI 20 := by decide +kernel
theorem zL23_m : ∀ t, t < 4 → zwr fz 0 zL23 t = -1 := by decide +kernel
theorem tp_tp : ∀ t, t < 43 → (zsbyt.getD 0 []).getD t 0 = zwr fz 0 zL26 t := by decide +kernel
theorem tpS_tpI : tpS 43 = tpI 43 := by
  funext t
  unfold tpS tpI
  by_cases h : t < 43
  · rw [if_pos h, if_pos h]
    exact tp_tp t h
  · rw [if_neg h, if_neg h]
theorem woI : wOkW (zwr fz 0 zL31) := by
  show ∀ k, k < 12 → ∀ c, c < 8 → zwr fz 0 zL31 (8 * k + c) = wby (pmI k) c
  decide +kernel
theorem cartI_ok : cOk cartI := by
  refine ⟨fun w _ => ⟨(by show (0 : Int32).toNatClampNeg < 6; decide), rfl⟩, fun t ht => ⟨20, by omega, by omega, zL6_20 t ht⟩, fun i _ => ?_, ⟨?_, ?_⟩, ?_, fun j _ => ?_⟩
  · show ¬ (0 : Int32) < 0
    decide
  · show ¬ (0 : Int32) < 0
    decide
  · show ¬ (0 : Int32) < 0
    decide
  · show ¬ nI 3 < 0
    decide
  · show wiB 0 9 = true
    decide
theorem fr_Rel {R : zS × zS × zS × zS} {cod2 ed : fI} {fv2 : Nat → Int32} {ar2 : Nat → fI} {o1 o2 o3 : List Nat} {k : zCart} (hRq : R = qFF (tpS 43) 43 0) (hrd : rdI 43 R.2.2.2 cod2) (hed : ed = upd (upd (upd fz 0 (nI R.1.2.2.2.2.2.length)) 1 (nI R.2.1.2.2.2.2.2.length)) 2 (nI R.2.2.1.2.2.2.2.2.length)) (ho : txF (arI 31) (tpI 43) 43 = .inr (o1, o2, o3)) (q : tK 0 (upf fvI 14 (nI 43)) (upa arI 13 (tpI 43)) fv2 ar2) (h17 : fv2 17 = nI 1) (h14 : fv2 14 = nI 0) (w0 : ar2 16 0 = nI 0) (w1 : ar2 16 1 = nI o1.length) (w2 : ar2 16 2 = nI o2.length) (w3 : ar2 16 3 = nI o3.length) (w4 : stk (ar2 15) 0 o3) (w5 : o3.length ≤ 160) : ∃ P : zP, tTx (bI (hasT cod2 R.2.2.2.2.2.2.2.2.length)) R.2.2.2.2.2.2.2.2.length cod2 ed P ∧ Rel cartI k row0 row0 ((tpS 43), 0, nI R.2.2.2.1, R.2.2.2.2.1, nI R.2.2.2.2.2.1, R.2.2.2.2.2.2.1, R.2.2.2.2.2.2.2.1, cod2, nI R.2.2.2.2.2.2.2.2.length, ed) (nI 0) (nI 0) (nI 0) (-1, 0, fz) (-1, 0, fz) (-1, 0, fz) (-1, 0, fz) fv2 ar2 1 (fun _ => P) := by
  rw [tpS_tpI] at hRq ⊢
  subst hRq
  have hf : ¬ 0 ≤ (qFF (tpI 43) 43 0).2.2.2.2.2.2.2.1 := by
    rcases ps_ok (wo := arI 31) (tp := tpI 43) (n := 43) (num := 0) woI (by omega) with ⟨b, -, -, hb⟩ | ⟨N1, N2, N3, c1, -⟩
    · rw [ho] at hb
      cases hb
    · rw [c1]
      decide
  obtain ⟨P, p1, p2, p3, e, hP, hM⟩ := tx_both (wo := arI 31) (co := ar2 15) (st := ar2 16) (li := 0) woI (by omega) (by omega) hf hrd hed
  rw [ho] at e
  cases e
  have hM : mTx (ar2 15) (ar2 16) 0 P := hM ⟨w0, w1, w2, w3, w4, w5⟩
  obtain ⟨g1, g2, -, -⟩ := q
  have f : ∀ j, (j = 5 ∨ j = 7 ∨ j = 10 ∨ j = 11 ∨ j = 12 ∨ j = 18 ∨ j = 19 ∨ j = 20 ∨ j = 21) → fv2 j = upf fvI 14 (nI 43) j := fun j hj => g1 j (by omega) (by omega) (by omega) (by omega) (by omega) (by omega) (by omega) (by omega) (by omega)
  have a : ∀ j, j ≠ 15 → j ≠ 16 → j ≠ 32 → ar2 j = upa arI 13 (tpI 43) j := g2
  have f5 : fv2 5 = nI 3 := f 5 (by omega)
  have f7 : fv2 7 = nI 0 := f 7 (by omega)
  have f10 : fv2 10 = nI 1 := f 10 (by omega)
  have f11 : fv2 11 = nI 30 := f 11 (by omega)
  have f12 : fv2 12 = nI 2 := f 12 (by omega)
  have f18 : fv2 18 = nI 0 := f 18 (by omega)
  have f19 : fv2 19 = 0 := f 19 (by omega)
  have a0 : ar2 0 = fz := a 0 (by omega) (by omega) (by omega)
  have a1 : ar2 1 = fz := a 1 (by omega) (by omega) (by omega)
  have a2 : ar2 2 = fz := a 2 (by omega) (by omega) (by omega)
  have a3 : ar2 3 = fz := a 3 (by omega) (by omega) (by omega)
  have a4 : ar2 4 = fz := a 4 (by omega) (by omega) (by omega)
  have a6 : ar2 6 = zwr fz 0 zL6 := a 6 (by omega) (by omega) (by omega)
  have a8 : ar2 8 = fz := a 8 (by omega) (by omega) (by omega)
  have a13 : ar2 13 = tpI 43 := a 13 (by omega) (by omega) (by omega)
  have a23 : ar2 23 = zwr fz 0 zL23 := a 23 (by omega) (by omega) (by omega)
  have a24 : ar2 24 = fz := a 24 (by omega) (by omega) (by omega)
  have a25 : ar2 25 = fz := a 25 (by omega) (by omega) (by omega)
  have a31 : ar2 31 = zwr fz 0 zL31 := a 31 (by omega) (by omega) (by omega)
  refine ⟨P, hP, ⟨?_, cartI_ok⟩, ⟨0, ⟨by omega, rfl, ⟨1, by omega, rfl⟩, ⟨2, by omega, rfl⟩, fun i _ => ⟨0, by omega, rfl⟩, fun i _ => ⟨0, by omega, rfl⟩⟩, f7, ?_, fun i hi => absurd hi (Nat.not_lt_zero i), ?_, ?_, ?_⟩, ⟨?_, ⟨0, by omega, rfl, h14⟩, ⟨_, rfl⟩⟩, ⟨fun s hs => ⟨Or.inl ?_, 0, by omega, ?_⟩, fun s hs => ?_⟩, ⟨?_, fun hne => absurd f19 hne⟩, by omega, by omega, h17, ⟨0, by omega, rfl, f18⟩, fun t ht => ?_, ?_⟩
  · show (fz, fz, fz, fz, fz, zwr fz 0 zL6, nI 3) = (ar2 0, ar2 1, ar2 2, ar2 3, ar2 4, ar2 6, fv2 5)
    rw [a0, a1, a2, a3, a4, a6, f5]
  · rw [a8]
  · rw [f10]
  · rw [f11]
  · rw [f12]
  · rw [a13]
  · rw [a23]
    exact zL23_m s hs
  · rw [a24]
    rfl
  · have hw : shW (-1, 0, fz) (-1, 0, fz) (-1, 0, fz) (-1, 0, fz) s = (-1, 0, fz) := by
      rcases (show s = 0 ∨ s = 1 ∨ s = 2 ∨ s = 3 by omega) with rfl | rfl | rfl | rfl <;> rfl
    rw [hw, a23, a24, a25]
    exact ⟨(zL23_m s hs).symm, rfl, fun _ _ => rfl⟩
  · rw [f19]
    rfl
  · obtain rfl : t = 0 := by omega
    exact hM
  · rw [a31]
    exact woI
/-- the class's first world: the cart's widths as the reference has them -/
theorem cart_sim {o : Nat} : zsim (pCart o cart0) (pCart o cartI) := by
  show zsim [.inr (0, [.ref (2 * (o + 1)), .ref (2 * (o + 2)), .ref (2 * (o + 3)), .ref (2 * (o + 4)), .ref (2 * (o + 5)), .ref (2 * (o + 6)), .int (nI 3)]), .inl (0, 4, .inl fz), .inl (0, 4, .inl fz), .inl (0, 4, .inl fz), .inl (0, 8, .inl fz), .inl (0, 2, .inl fz), .inl (0, 30, .inl (fun _ => nI 20))] [.inr (0, [.ref (2 * (o + 1)), .ref (2 * (o + 2)), .ref (2 * (o + 3)), .ref (2 * (o + 4)), .ref (2 * (o + 5)), .ref (2 * (o + 6)), .int (nI 3)]), .inl (0, 4, .inl fz), .inl (0, 4, .inl fz), .inl (0, 4, .inl fz), .inl (0, 8, .inl fz), .inl (0, 2, .inl fz), .inl (0, 30, .inl (zwr fz 0 zL6))]
  exact zsim_e (zsim_e (zsim_e (zsim_e (zsim_e (zsim_e (zsim_c (zsm_i (fun i hi => (zL6_20 i hi).symm)) (zsim_rfl [])))))))
theorem lB_cart {d k : zCart} {r tr kr : zRow} {rd : zRd} {ft : Nat} {tg : Nat → Option Nat} {tc lw kl ik : Int32} {ri : zRi} {s0 s1 s2 s3 : zSh} : zsim (lB cart0 d k r tr kr rd ft tg tc lw kl ik ri s0 s1 s2 s3) (lB cartI d k r tr kr rd ft tg tc lw kl ik ri s0 s1 s2 s3) := zsim_e (zsim_app (zsim_app cart_sim (zsim_rfl _)) (zsim_rfl _))
/-! ===== the world told in another order, with the locals ===== -/
section
variable {l : Launch} {M : zM} {hs0 hs hs' : List zE} {R : Room} {F : zF} {nc ns pc N : Nat} {lv lv2 : zL} {st st2 : List Value}
theorem V.reordL (σ : List Nat) (hn : hs.length = N) (h0 : σ.take hs0.length = List.range hs0.length) (hnd : va_nd σ = true) (hcs : σ.map (fun i => hs[i]?) = hs'.map (fun x => some (zrc (ze N σ (fun k => k)) x))) (hl : lv = zl (ze N σ (fun k => k)) lv2) (hst : st = st2.map (zrv (ze N σ (fun k => k)))) (h : V l M true hs0 R F nc ns pc lv2 st2 hs') : V l M true hs0 R F nc ns pc lv st hs := by
  subst hn
  subst hl
  subst hst
  intro p en s m args below meth c D tc ad0 ad ls H locs X E xa P A S L
  have hs1 := zsubw (tc := tc) (ad := ad) (e := ze hs.length σ (fun k => k)) rfl hcs
  have P1 := P.sub σ (zfm hs1)
  have hxa : zadx true hs0.length ad0 (fun k => ad (ze hs.length σ (fun k => k) k)) := by
    refine ⟨fun k hk => ?_, fun k => ?_⟩
    · have h1 := congrArg (fun l => l[k]?) h0
      simp only [List.getElem?_take, hk, if_true, List.getElem?_range hk] at h1
      show ad (ze hs.length σ (fun k => k) (2 * k)) = _
      rw [ze_in h1]
      exact xa.1 k hk
    · show ad (ze hs.length σ (fun k => k) (2 * k + 1)) = _
      rw [ze_odd]
      exact xa.2 k
  have A1 : va_D (zA tc ad0 hs0 s) (zw tc (fun k => ad (ze hs.length σ (fun k => k) k)) hs') := by
    have key : ∀ (k : Nat) (q : Nat × va_E), (zw tc (fun k => ad (ze hs.length σ (fun k => k) k)) hs')[k]? = some q → ∃ i, σ[k]? = some i ∧ (zw tc ad hs)[i]? = some q := fun k q hq => by
      have h1 := congrArg (fun l => l[k]?) hs1
      simp only [List.getElem?_map, hq, Option.map_some] at h1
      cases hc : σ[k]? with
      | none => rw [hc] at h1; cases h1
      | some i =>
        rw [hc] at h1
        exact ⟨i, rfl, Option.some.inj h1⟩
    refine ⟨fun i j p q hp hq e1 => ?_, fun k q hq => ?_⟩
    · obtain ⟨i1, h1, h2⟩ := key i p hp
      obtain ⟨j1, h3, h4⟩ := key j q hq
      have h5 := A.1 i1 j1 p q h2 h4 e1
      subst h5
      exact va_nd_inj _ hnd _ _ _ h1 h3
    · obtain ⟨i1, h1, h2⟩ := key k q hq
      exact A.2 i1 q h2
  have el : zl ad (zl (ze hs.length σ (fun k => k)) lv2) = zl (fun k => ad (ze hs.length σ (fun k => k) k)) lv2 := by
    unfold zl
    rw [List.map_map]
    congr 1
    funext q
    show (q.1, zrv ad (zrv (ze hs.length σ (fun k => k)) q.2)) = (q.1, zrv (fun k => ad (ze hs.length σ (fun k => k) k)) q.2)
    rw [zrv_comp]
  have es : (st2.map (zrv (ze hs.length σ (fun k => k)))).map (zrv ad) = st2.map (zrv (fun k => ad (ze hs.length σ (fun k => k) k))) := by
    rw [List.map_map]
    congr 1
    funext v
    exact zrv_comp ad (ze hs.length σ (fun k => k)) v
  rw [el] at L
  rw [es]
  exact h p en s m args below meth c D tc ad0 (fun k => ad (ze hs.length σ (fun k => k) k)) ls H locs X E hxa P1 A1 S L
end
theorem zrc_cc (a b : Nat → Nat) (x : zE) : zrc a (zrc b x) = zrc (fun k => a (b k)) x := by
  rcases x with ⟨t, n, f | g⟩ | ⟨ci, fs⟩
  · rfl
  · simp only [zrc, Option.map_map]
    rfl
  · simp only [zrc, List.map_map]
    congr 3
    funext v
    exact zrv_comp a b v
abbrev sR : List Nat := List.range' 0 51 ++ (List.range' 56 30 ++ List.range' 51 5)
abbrev eR : Nat → Nat := ze 86 sR (fun k => k)
theorem eR_1 {j : Nat} (h : j < 51) : eR (2 * j) = 2 * j := ze_in (by rw [List.getElem?_append_left (by rw [List.length_range']; exact h), rng_get 51 0 j h, Nat.zero_add])
theorem eR_2 {j : Nat} (h : j < 30) : eR (2 * (51 + j)) = 2 * (56 + j) := ze_in (by
  rw [List.getElem?_append_right (by rw [List.length_range']; omega), List.length_range', show 51 + j - 51 = j by omega, List.getElem?_append_left (by rw [List.length_range']; exact h), rng_get 30 56 j h])
theorem eR_3 {j : Nat} (h : j < 5) : eR (2 * (81 + j)) = 2 * (51 + j) := ze_in (by
  rw [List.getElem?_append_right (by rw [List.length_range']; omega), List.length_range', List.getElem?_append_right (by rw [List.length_range']; omega), List.length_range', show 81 + j - 51 - 30 = j by omega, rng_get 5 51 j h])
theorem sR_map {A T Mo A2 T2 Mo2 : List zE} (hA : A.length = 51) (hT : T.length = 5) (hM : Mo.length = 30) (eA : A2.map (zrc eR) = A) (eT : T2.map (zrc eR) = T) (eM : Mo2.map (zrc eR) = Mo) : sR.map (fun i => (A ++ (T ++ Mo))[i]?) = (A2 ++ (Mo2 ++ T2)).map (fun x => some (zrc eR x)) := by
  have h1 := zcs_mid A [] (T ++ Mo)
  rw [hA] at h1
  have h2 := zcs_mid T A Mo
  rw [hA, hT] at h2
  have h3 := zcs_mid Mo (A ++ T) []
  rw [List.length_append, hA, hT, hM, List.append_assoc, List.append_nil] at h3
  have k : ∀ l : List zE, (l.map (zrc eR)).map some = l.map (fun x => some (zrc eR x)) := fun l => by
    rw [List.map_map]
    rfl
  rw [List.map_append, List.map_append, List.map_append, List.map_append]
  refine congr (congrArg _ ?_) (congr (congrArg _ ?_) ?_)
  · refine h1.trans ?_
    rw [← eA, k]
  · refine h3.trans ?_
    rw [← eM, k]
  · refine h2.trans ?_
    rw [← eT, k]
theorem eR_tg : (fun u => (tgW 81 1 u).map eR) = va_up (fun _ => none) 0 (some 102) := by
  funext u
  unfold tgW va_up
  by_cases h : u = 0
  · rw [if_pos (by omega), if_pos h, h]
    exact congrArg some (eR_3 (j := 0) (by omega))
  · rw [if_neg (by omega), if_neg h]
    rfl
theorem eR_lB {c d k : zCart} {r tr kr : zRow} {rd : zRd} {tc lw kl ik : Int32} {rj : zRj} {s0 s1 s2 s3 : zSh} : (lB c d k r tr kr rd (2 * 81) (tgW 81 1) tc lw kl ik (2, 162, rj) s0 s1 s2 s3).map (zrc eR) = lB c d k r tr kr rd 102 (va_up (fun _ => none) 0 (some 102)) tc lw kl ik (2, 102, rj) s0 s1 s2 s3 := by
  have h0 : eR (2 * 81) = 102 := eR_3 (j := 0) (by omega)
  have h2 : eR 2 = 2 := eR_1 (j := 1) (by omega)
  have h3 : eR 162 = 102 := eR_3 (j := 0) (by omega)
  rw [lB_map (fun j hj => eR_1 hj), eR_tg, h0]
  show lB c d k r tr kr rd 102 (va_up (fun _ => none) 0 (some 102)) tc lw kl ik (eR 2, eR 162, rj) s0 s1 s2 s3 = _
  rw [h2, h3]
theorem eR_M {fv : Nat → Int32} {ar : Nat → fI} : (pMo fv ar).map (zrc eR) = (pM fv ar).map (zrc (fun k => k + 112)) := by
  have hc : (pMo fv ar).map (zrc eR) = (pM fv ar).map (zrc (fun k => eR (eM k))) := by
    unfold pMo
    rw [List.map_map]
    congr 1
    funext x
    exact zrc_cc eR eM x
  rw [hc]
  refine zltL_agr (n := 30) (fun j hj => ?_) rfl
  show eR (2 * j + 102) = 2 * j + 112
  rw [show 2 * j + 102 = 2 * (51 + j) by omega, eR_2 hj]
  omega
