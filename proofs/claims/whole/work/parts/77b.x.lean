/-! ===== the world behind a call, by a plan; ride's calls in the class's world, once ===== -/
def zpos : List Nat → Nat → Option Nat
  | [], _ => none
  | c :: cs, i => bif Nat.beq c i then some 0 else (zpos cs i).map (fun j => j + 1)
theorem zpos_none : ∀ {cs : List Nat} {i : Nat}, zpos cs i = none → i ∉ cs
  | [], _, _ => by simp
  | c :: cs, i, h => by
    simp only [zpos] at h
    cases hb : Nat.beq c i with
    | true => rw [hb] at h; cases h
    | false =>
      rw [hb] at h
      simp only [cond_false, Option.map_eq_none_iff] at h
      intro hm
      rcases List.mem_cons.mp hm with e | e
      · rw [e, Nat.beq_refl] at hb; cases hb
      · exact zpos_none h e
theorem zpos_some : ∀ {cs : List Nat} {i j : Nat}, zpos cs i = some j → cs[j]? = some i
  | [], _, _, h => by cases h
  | c :: cs, i, j, h => by
    simp only [zpos] at h
    cases hb : Nat.beq c i with
    | true => rw [hb] at h; cases h; rw [Nat.eq_of_beq_eq_true hb]; rfl
    | false =>
      rw [hb] at h
      simp only [cond_false, Option.map_eq_some_iff] at h
      obtain ⟨k, hk, e⟩ := h
      rw [← e]
      exact zpos_some (j := k) hk
def zpl (plan : List (Option Nat)) (hs xs : List zE) : List zE := List.zipWith (fun p x => match p with
  | none => x
  | some j => match xs[j]? with
    | some y => y
    | none => x) plan hs
theorem zput_plan {hs xs : List zE} {cs : List Nat} {plan : List (Option Nat)} (hnd : va_nd cs = true) (hl : xs.length = cs.length) (hp : plan = (List.range plan.length).map (zpos cs)) (hn : plan.length = hs.length) : zput hs cs xs = zpl plan hs xs := by
  apply List.ext_getElem?
  intro k
  rw [zpl, List.getElem?_zipWith]
  by_cases hk : k < hs.length
  · have hx := List.getElem?_eq_getElem hk
    have hpk : plan[k]? = some (zpos cs k) := by
      have h1 := congrArg (fun l => l[k]?) hp
      simp only [List.getElem?_map, List.getElem?_range (show k < plan.length by omega)] at h1
      exact h1
    rw [hpk, hx]
    cases hz : zpos cs k with
    | none => rw [zput_out _ _ _ _ (zpos_none hz), hx]
    | some j =>
      have hj := zpos_some hz
      have hjl : j < xs.length := by rw [hl]; exact (List.getElem?_eq_some_iff.mp hj).1
      rw [zput_in cs hs xs j k xs[j] hnd hj (List.getElem?_eq_getElem hjl) hk]
      simp only [List.getElem?_eq_getElem hjl]
  · rw [List.getElem?_eq_none (by rw [zput_len]; omega), List.getElem?_eq_none (show plan.length ≤ k by omega)]
section
variable {l : Launch} {M M' : zM} {b : Bool} {hs0 hs : List zE} {R : Room} {F : zF} {nc ns pc n idx nx tg d' mc' ms' : Nat} {T : zT} {lv : zL} {st : List Value}
theorem V.callVP (hM : zmok M) (hat : zins M pc = some (.invokevirtual idx, nx, tg)) (hlk : zlV (zy M).cls idx M' n) (hC : Ct l M' false d' mc' ms' T) (hR : (Nat.ble (d' + 1) R.frames && Nat.ble (8 + (zmax M' + 11) + 48 * d') R.locals && (Nat.ble (nc + mc') R.cells && Nat.ble (ns + ms') R.slots)) = true) (N : Nat) (hN : hs.length = N) (dl : Nat → Nat) (hdl : ∀ i, i < 27 → dl (2 * i + 1) = 2 * i + 1) (cs : List Nat) (plan : List (Option Nat)) (hp : plan = (List.range N).map (zpos cs)) (wc : List zE) (argsC rest : List Value) (Q : Option Value → List zE → Prop) (hn : argsC.length = n + 1) (j ci : Nat) {q : vw_C} {fs : List Value} (hj : argsC.head? = some (.ref (2 * j))) (hz : wc[j]? = some (.inr (ci, fs))) (hq : zcl[ci]? = some q) (hqc : q.1 = (zy M').cls) (hst : st = ((argsC.map (zrv (ze N cs dl))).reverse) ++ rest) (hW : Nat.ble ((rest.map fun v => v.category).sum) 8 = true) (hnd : va_nd cs = true) (hcs : cs.map (fun i => hs[i]?) = wc.map (fun x => some (zrc (ze N cs dl) x))) (hT : T argsC wc Q) (hQ : ∀ v wc', Q v wc' → wc'.length = wc.length ∧ V l M b hs0 R F (nc + mc') (ns + ms') nx lv ((v.map (zrv (ze N cs dl))).toList ++ rest) (zpl plan hs (wc'.map (zrc (ze N cs dl))))) : V l M b hs0 R F nc ns pc lv st hs := by
  subst hN
  refine V.callV hM hat hlk hC hR dl hdl cs wc argsC rest Q hn j ci hj hz hq hqc hst hW hnd hcs hT (fun v wc' h => ?_)
  obtain ⟨h1, h2⟩ := hQ v wc' h
  refine ⟨h1, ?_⟩
  have hpl : plan.length = hs.length := by rw [hp, List.length_map, List.length_range]
  rw [zput_plan hnd (by rw [List.length_map, h1]; simpa using (congrArg List.length hcs).symm) (by rw [hpl]; exact hp) hpl]
  exact h2
theorem V.cV1P (hM : zmok M) (hat : zins M pc = some (.invokevirtual idx, nx, tg)) (hlk : zlV (zy M).cls idx M' n) (hC : Ct l M' false d' mc' ms' T) (hR : (Nat.ble (d' + 1) R.frames && Nat.ble (8 + (zmax M' + 11) + 48 * d') R.locals && (Nat.ble (nc + mc') R.cells && Nat.ble (ns + ms') R.slots)) = true) (N : Nat) (hN : hs.length = N) (cs : List Nat) (plan : List (Option Nat)) (hp : plan = (List.range N).map (zpos cs)) (wc : List zE) (argsC rest : List Value) (hn : argsC.length = n + 1) (j ci : Nat) {q : vw_C} {fs : List Value} (hj : argsC.head? = some (.ref (2 * j))) (hz : wc[j]? = some (.inr (ci, fs))) (hq : zcl[ci]? = some q) (hqc : q.1 = (zy M').cls) (hst : st = ((argsC.map (zrv (ze N cs (fun k => k)))).reverse) ++ rest) (hW : Nat.ble ((rest.map fun v => v.category).sum) 8 = true) (hnd : va_nd cs = true) (hcs : cs.map (fun i => hs[i]?) = wc.map (fun x => some (zrc (ze N cs (fun k => k)) x))) (r : Option Value) (wc1 : List zE) (hT : T argsC wc (fun v w => v = r ∧ w = wc1)) (hlen : wc1.length = wc.length) (hs1 : List zE) (st1 : List Value) (hw : zpl plan hs (wc1.map (zrc (ze N cs (fun k => k)))) = hs1) (hs2 : (r.map (zrv (ze N cs (fun k => k)))).toList ++ rest = st1) (hV : V l M b hs0 R F (nc + mc') (ns + ms') nx lv st1 hs1) : V l M b hs0 R F nc ns pc lv st hs :=
  V.callVP hM hat hlk hC hR N hN (fun k => k) (fun _ _ => rfl) cs plan hp wc argsC rest _ hn j ci hj hz hq hqc hst hW hnd hcs hT (fun v wc' h => by
    obtain ⟨rfl, rfl⟩ := h
    exact ⟨hlen, by rw [hw, hs2]; exact hV⟩)
end
section
variable {l : Launch} {M : zM} {b : Bool} {hs0 : List zE} {R : Room} {F : zF} {nc ns pc idx nx tg : Nat} {lv : zL} {rest : List Value}
variable {c d k : zCart} {r tr kr : zRow} {rd : zRd} {ft : Nat} {tg2 : Nat → Option Nat} {tc lw kl ik : Int32} {s0 s1 s2 s3 : zSh} {orc orl : Nat} {obl : Int32} {olt : Int64} {ote : Int32} {oha odr : fI} {ohd opu oaz oco oho obu obb ofa : Int32} {nt : Int32} {n : Nat} {cd en nm sk : fI} {P : zP}
set_option maxHeartbeats 4000000 in
theorem V.xstart_c (hM : zmok M) (hat : zins M pc = some (.invokevirtual idx, nx, tg)) (hlk : zlV (zy M).cls idx mX2_start 2) (hR : (Nat.ble (1 + 1) R.frames && Nat.ble (8 + (zmax mX2_start + 11) + 48 * 1) R.locals && (Nat.ble (nc + 0) R.cells && Nat.ble (ns + 0) R.slots)) = true) (hW : Nat.ble ((rest.map fun v => v.category).sum) 8 = true) (h : V l M b hs0 R F nc ns nx lv rest (pX c d k r tr kr rd ft tg2 tc lw kl ik (2, 102, 0, olt, nI 0, haC c, odr, ohd, r0) s0 s1 s2 s3 (nt, n, cd, en, nm, sk))) : V l M b hs0 R F nc ns pc lv (.ref 102 :: .ref 2 :: .ref 78 :: rest) (pX c d k r tr kr rd ft tg2 tc lw kl ik (orc, orl, obl, olt, ote, oha, odr, ohd, opu, oaz, oco, oho, obu, obb, ofa) s0 s1 s2 s3 (nt, n, cd, en, nm, sk)) := by
  refine V.callVP hM hat hlk (ct_start l) hR 56 rfl (dl2 orc orl) (dl2_ok orc orl) [39, 40, 41, 1, 2, 3, 4, 5, 6, 7, 51, 52, 53, 54, 55] [none, some 3, some 4, some 5, some 6, some 7, some 8, some 9, none, none, none, none, none, none, none, none, none, none, none, none, none, none, none, none, none, none, none, none, none, none, none, none, none, none, none, none, none, none, none, some 0, some 1, some 2, none, none, none, none, none, none, none, none, none, some 10, some 11, some 12, some 13, some 14] (by decide +kernel) (pRide 101 103 obl olt ote oha odr ohd opu oaz oco oho obu obb ofa ++ (pCart 3 c ++ pText 10 nt n cd en nm sk)) [.ref 0, .ref 6, .ref 20] rest (fun v wc' => v = none ∧ wc' = pRX 0 olt (nI 0) (haC c) odr ohd r0 c nt n cd en nm sk) rfl 0 2 rfl rfl rfl rfl rfl hW rfl rfl ⟨101, 103, obl, olt, ote, oha, odr, ohd, opu, oaz, oco, oho, obu, obb, ofa, c, nt, n, cd, en, nm, sk, rfl, rfl, ⟨rfl, rfl⟩⟩ (fun v wc' hv => ?_)
  obtain ⟨rfl, rfl⟩ := hv
  exact ⟨rfl, V.w _ rfl h⟩
set_option maxHeartbeats 4000000 in
theorem V.xstep_c (hM : zmok M) (hat : zins M pc = some (.invokevirtual idx, nx, tg)) (hlk : zlV (zy M).cls idx mX2_step 0) (hR : (Nat.ble (5 + 1) R.frames && Nat.ble (8 + (zmax mX2_step + 11) + 48 * 5) R.locals && (Nat.ble (nc + 0) R.cells && Nat.ble (ns + 0) R.slots)) = true) (hW : Nat.ble ((rest.map fun v => v.category).sum) 8 = true) {t : Nat} {dr2 : fI} {hd2 : Int32} {rr : RT} (ht : t < 30) (hok : kOk c) (hT : tTx nt n cd en P) (hd : t = 0 ∨ dhO c P (haC c) dr2 hd2 (nI (t - 1))) (h : ∀ (dr3 nm3 sk3 : fI) (hd3 : Int32) (rr3 : RT), rr3 = stF c P (haC c) t rr → dhO c P (haC c) dr3 hd3 (nI t) → V l M b hs0 R F nc ns nx lv rest (pX c d k r tr kr rd ft tg2 tc lw kl ik (2, 102, 0, olt, nI (t + 1), haC c, dr3, hd3, rr3) s0 s1 s2 s3 (nt, n, cd, en, nm3, sk3))) : V l M b hs0 R F nc ns pc lv (.ref 78 :: rest) (pX c d k r tr kr rd ft tg2 tc lw kl ik (2, 102, 0, olt, nI t, haC c, dr2, hd2, rr) s0 s1 s2 s3 (nt, n, cd, en, nm, sk)) := by
  refine V.callVP hM hat hlk (ct_step l) hR 56 rfl (fun k => k) (fun _ _ => rfl) [39, 40, 41, 1, 2, 3, 4, 5, 6, 7, 51, 52, 53, 54, 55] [none, some 3, some 4, some 5, some 6, some 7, some 8, some 9, none, none, none, none, none, none, none, none, none, none, none, none, none, none, none, none, none, none, none, none, none, none, none, none, none, none, none, none, none, none, none, some 0, some 1, some 2, none, none, none, none, none, none, none, none, none, some 10, some 11, some 12, some 13, some 14] (by decide +kernel) (pRX 0 olt (nI t) (haC c) dr2 hd2 rr c nt n cd en nm sk) [.ref 0] rest (fun v wc' => ∃ (dr3 nm3 sk3 : fI) (hd3 : Int32) (rr3 : RT), rr3 = stF c P (haC c) t rr ∧ dhO c P (haC c) dr3 hd3 (nI t) ∧ v = none ∧ wc' = pRX 0 olt (nI (t + 1)) (haC c) dr3 hd3 rr3 c nt n cd en nm3 sk3) rfl 0 2 rfl rfl rfl rfl rfl hW rfl rfl ⟨0, olt, t, haC c, dr2, hd2, rr, c, nt, n, cd, en, nm, sk, P, ht, hok, hT, rfl, rfl, Or.inl ⟨rfl, hd, fun dr3 hd3 nm3 sk3 hh => ⟨dr3, nm3, sk3, hd3, _, rfl, hh, rfl, rfl⟩⟩⟩ (fun v wc' hv => ?_)
  obtain ⟨dr3, nm3, sk3, hd3, rr3, hst, hh, rfl, rfl⟩ := hv
  exact ⟨rfl, V.w _ rfl (h dr3 nm3 sk3 hd3 rr3 hst hh)⟩
set_option maxHeartbeats 4000000 in
theorem V.xstart_d (hM : zmok M) (hat : zins M pc = some (.invokevirtual idx, nx, tg)) (hlk : zlV (zy M).cls idx mX2_start 2) (hR : (Nat.ble (1 + 1) R.frames && Nat.ble (8 + (zmax mX2_start + 11) + 48 * 1) R.locals && (Nat.ble (nc + 0) R.cells && Nat.ble (ns + 0) R.slots)) = true) (hW : Nat.ble ((rest.map fun v => v.category).sum) 8 = true) (h : V l M b hs0 R F nc ns nx lv rest (pX c d k r tr kr rd ft tg2 tc lw kl ik (16, 102, 0, olt, nI 0, haC d, odr, ohd, r0) s0 s1 s2 s3 (nt, n, cd, en, nm, sk))) : V l M b hs0 R F nc ns pc lv (.ref 102 :: .ref 16 :: .ref 78 :: rest) (pX c d k r tr kr rd ft tg2 tc lw kl ik (orc, orl, obl, olt, ote, oha, odr, ohd, opu, oaz, oco, oho, obu, obb, ofa) s0 s1 s2 s3 (nt, n, cd, en, nm, sk)) := by
  refine V.callVP hM hat hlk (ct_start l) hR 56 rfl (dl2 orc orl) (dl2_ok orc orl) [39, 40, 41, 8, 9, 10, 11, 12, 13, 14, 51, 52, 53, 54, 55] [none, none, none, none, none, none, none, none, some 3, some 4, some 5, some 6, some 7, some 8, some 9, none, none, none, none, none, none, none, none, none, none, none, none, none, none, none, none, none, none, none, none, none, none, none, none, some 0, some 1, some 2, none, none, none, none, none, none, none, none, none, some 10, some 11, some 12, some 13, some 14] (by decide +kernel) (pRide 101 103 obl olt ote oha odr ohd opu oaz oco oho obu obb ofa ++ (pCart 3 d ++ pText 10 nt n cd en nm sk)) [.ref 0, .ref 6, .ref 20] rest (fun v wc' => v = none ∧ wc' = pRX 0 olt (nI 0) (haC d) odr ohd r0 d nt n cd en nm sk) rfl 0 2 rfl rfl rfl rfl rfl hW rfl rfl ⟨101, 103, obl, olt, ote, oha, odr, ohd, opu, oaz, oco, oho, obu, obb, ofa, d, nt, n, cd, en, nm, sk, rfl, rfl, ⟨rfl, rfl⟩⟩ (fun v wc' hv => ?_)
  obtain ⟨rfl, rfl⟩ := hv
  exact ⟨rfl, V.w _ rfl h⟩
set_option maxHeartbeats 4000000 in
theorem V.xstep_d (hM : zmok M) (hat : zins M pc = some (.invokevirtual idx, nx, tg)) (hlk : zlV (zy M).cls idx mX2_step 0) (hR : (Nat.ble (5 + 1) R.frames && Nat.ble (8 + (zmax mX2_step + 11) + 48 * 5) R.locals && (Nat.ble (nc + 0) R.cells && Nat.ble (ns + 0) R.slots)) = true) (hW : Nat.ble ((rest.map fun v => v.category).sum) 8 = true) {t : Nat} {dr2 : fI} {hd2 : Int32} {rr : RT} (ht : t < 30) (hok : kOk d) (hT : tTx nt n cd en P) (hd : t = 0 ∨ dhO d P (haC d) dr2 hd2 (nI (t - 1))) (h : ∀ (dr3 nm3 sk3 : fI) (hd3 : Int32) (rr3 : RT), rr3 = stF d P (haC d) t rr → dhO d P (haC d) dr3 hd3 (nI t) → V l M b hs0 R F nc ns nx lv rest (pX c d k r tr kr rd ft tg2 tc lw kl ik (16, 102, 0, olt, nI (t + 1), haC d, dr3, hd3, rr3) s0 s1 s2 s3 (nt, n, cd, en, nm3, sk3))) : V l M b hs0 R F nc ns pc lv (.ref 78 :: rest) (pX c d k r tr kr rd ft tg2 tc lw kl ik (16, 102, 0, olt, nI t, haC d, dr2, hd2, rr) s0 s1 s2 s3 (nt, n, cd, en, nm, sk)) := by
  refine V.callVP hM hat hlk (ct_step l) hR 56 rfl (fun k => k) (fun _ _ => rfl) [39, 40, 41, 8, 9, 10, 11, 12, 13, 14, 51, 52, 53, 54, 55] [none, none, none, none, none, none, none, none, some 3, some 4, some 5, some 6, some 7, some 8, some 9, none, none, none, none, none, none, none, none, none, none, none, none, none, none, none, none, none, none, none, none, none, none, none, none, some 0, some 1, some 2, none, none, none, none, none, none, none, none, none, some 10, some 11, some 12, some 13, some 14] (by decide +kernel) (pRX 0 olt (nI t) (haC d) dr2 hd2 rr d nt n cd en nm sk) [.ref 0] rest (fun v wc' => ∃ (dr3 nm3 sk3 : fI) (hd3 : Int32) (rr3 : RT), rr3 = stF d P (haC d) t rr ∧ dhO d P (haC d) dr3 hd3 (nI t) ∧ v = none ∧ wc' = pRX 0 olt (nI (t + 1)) (haC d) dr3 hd3 rr3 d nt n cd en nm3 sk3) rfl 0 2 rfl rfl rfl rfl rfl hW rfl rfl ⟨0, olt, t, haC d, dr2, hd2, rr, d, nt, n, cd, en, nm, sk, P, ht, hok, hT, rfl, rfl, Or.inl ⟨rfl, hd, fun dr3 hd3 nm3 sk3 hh => ⟨dr3, nm3, sk3, hd3, _, rfl, hh, rfl, rfl⟩⟩⟩ (fun v wc' hv => ?_)
  obtain ⟨dr3, nm3, sk3, hd3, rr3, hst, hh, rfl, rfl⟩ := hv
  exact ⟨rfl, V.w _ rfl (h dr3 nm3 sk3 hd3 rr3 hst hh)⟩
end
