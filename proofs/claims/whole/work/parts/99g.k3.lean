/-! ===== the world told in another order; a static call that makes cells and answers ===== -/
section
variable {l : Launch} {M M' : zM} {b : Bool} {hs0 hs hs' wc : List zE} {R : Room} {F : zF} {nc ns pc n N idx nx tg d' mc' ms' : Nat} {T : zT} {lv : zL} {st rest : List Value}
/-- what is not named any more may be left out, and the rest told in another order -/
theorem V.reord (σ : List Nat) (hn : hs.length = N) (h0 : σ.take hs0.length = List.range hs0.length) (hnd : va_nd σ = true) (hcs : σ.map (fun i => hs[i]?) = hs'.map (fun x => some (zrc (ze N σ (fun k => k)) x))) (h : V l M true hs0 R F nc ns pc [] [] hs') : V l M true hs0 R F nc ns pc lv [] hs := by
  subst hn
  intro p en s m args below meth c D tc ad0 ad ls H locs X E xa P A S L
  have hs1 := zsubw (tc := tc) (ad := ad) (e := ze hs.length σ (fun k => k)) rfl hcs
  have P1 := P.sub σ (zfm hs1)
  have hxa : zadx true hs0.length ad0 (fun k => ad (ze hs.length σ (fun k => k) k)) := by
    refine ⟨fun k hk => ?_, fun k => ?_⟩
    · have h1 := congrArg (fun l => l[k]?) h0
      simp only [List.getElem?_take, hk, if_true, List.getElem?_range hk] at h1
      show ad (ze hs.length σ (fun k => k) (2 * k)) = _
      rw [ze_in h1]
      exact xa.1 k hk
    · show ad (ze hs.length σ (fun k => k) (2 * k + 1)) = _
      rw [ze_odd]
      exact xa.2 k
  have A1 : va_D (zA tc ad0 hs0 s) (zw tc (fun k => ad (ze hs.length σ (fun k => k) k)) hs') := by
    have key : ∀ (k : Nat) (q : Nat × va_E), (zw tc (fun k => ad (ze hs.length σ (fun k => k) k)) hs')[k]? = some q → ∃ i, σ[k]? = some i ∧ (zw tc ad hs)[i]? = some q := fun k q hq => by
      have h1 := congrArg (fun l => l[k]?) hs1
      simp only [List.getElem?_map, hq, Option.map_some] at h1
      cases hc : σ[k]? with
      | none => rw [hc] at h1; cases h1
      | some i =>
        rw [hc] at h1
        exact ⟨i, rfl, Option.some.inj h1⟩
    refine ⟨fun i j p q hp hq e1 => ?_, fun k q hq => ?_⟩
    · obtain ⟨i1, h1, h2⟩ := key i p hp
      obtain ⟨j1, h3, h4⟩ := key j q hq
      have h5 := A.1 i1 j1 p q h2 h4 e1
      subst h5
      exact va_nd_inj _ hnd _ _ _ h1 h3
    · obtain ⟨i1, h1, h2⟩ := key k q hq
      exact A.2 i1 q h2
  exact h p en s m args below meth c D tc ad0 (fun k => ad (ze hs.length σ (fun k => k) k)) ls H locs X E hxa P1 A1 S ⟨L.1, L.2.1, fun q hq => by cases hq⟩
theorem V.mkS (hM : zmok M) (hat : zins M pc = some (.invokestatic idx, nx, tg)) (hlk : zlS (zy M).cls idx M' n) (hC : Ct l M' true d' mc' ms' T) (hR : (Nat.ble (d' + 1) R.frames && Nat.ble (8 + (zmax M' + 11) + 48 * d') R.locals && (Nat.ble (nc + mc') R.cells && Nat.ble (ns + ms') R.slots)) = true) (N : Nat) (hN : hs.length = N) (h0 : Nat.ble hs0.length N = true) (dl : Nat → Nat) (hdl : ∀ i, i < 27 → dl (2 * i + 1) = 2 * i + 1) (hdd : ∀ j, zlk N (dl (2 * j + 1)) = true) (cs : List Nat) (wc : List zE) (argsC rest : List Value) (hn : argsC.length = n) (hst : st = ((argsC.map (zrv (ze N cs dl))).reverse) ++ rest) (hW : Nat.ble ((rest.map fun v => v.category).sum) 8 = true) (hnd : va_nd cs = true) (hcs : cs.map (fun i => hs[i]?) = wc.map (fun x => some (zrc (ze N cs dl) x))) (hlo : zlowW N hs lv rest) (hT : T argsC wc (fun v w => wc.length ≤ w.length ∧ V l M true hs0 R F (nc + mc') (ns + ms') nx lv ((v.map (zrv (ze N cs dl))).toList ++ rest) (zput hs cs (w.map (zrc (ze N cs dl))) ++ (w.drop cs.length).map (zrc (ze N cs dl))))) : V l M true hs0 R F nc ns pc lv st hs := by
  obtain ⟨hd, e0, -⟩ := zgd_dec (hM.2.1 pc _ hat) (k := 2) rfl
  subst e0
  subst hN
  intro p en s m args below meth c D tc ad0 ad ls H locs X E xa P A S L
  have hrl : ((rest.map (zrv ad)).map fun v => v.category).sum ≤ 8 := by
    rw [List.map_map, show ((fun v => v.category) ∘ zrv ad) = (fun v : Value => v.category) from funext (fun v => zrv_cat ad v)]
    exact Nat.le_of_ble_eq_true hW
  have hrun := zrunS (l := l) (en := en) (below := below) (nc := nc) (ns := ns) (pc := pc) (ls := ls) (rest := rest.map (zrv ad)) X E xa P A S rfl hcs hnd hdl hlk hC hR hT hn L.1 hrl hd
  have est : st.map (zrv ad) = ((argsC.map (zrv (fun k => ad (ze hs.length cs dl k)))).reverse) ++ rest.map (zrv ad) := by
    rw [hst, List.map_append, List.map_reverse, List.map_map]
    congr 3
    funext v
    exact zrv_comp _ _ _
  rw [est]
  have hA : ∀ q, s.heap.size ≤ q → zA tc ad0 hs0 s q := fun q hq => Or.inr hq
  have hfree := va_free A S hA cs (zsubw (tc := tc) (ad := ad) rfl hcs)
  refine z_call hrun S (fun q _ h => hfree q h) hfree (fun _ _ _ h => h.2) (fun v st1 t H1 locs1 hh ht hvm hq hz hk S1 => ?_)
  obtain ⟨⟨ad', v', wc', hv, hpost, xa', P1, K1, D1⟩, -⟩ := hq
  cases hv
  rw [ht] at P1
  obtain ⟨hlen, hV⟩ := hpost
  obtain ⟨P2, A2⟩ := zafterB hdd rfl rfl hcs hnd hlen hlo.1 P A (fun q hq => hA q (Nat.le_trans S.1 hq)) hk xa' P1 D1
  have ha := ad3_agr hs.length cs.length ad ad'
  have hcl : cs.length = wc.length := by simpa using congrArg List.length hcs
  have hcn : ∀ i ∈ cs, i < hs.length := fun i hi => by
    obtain ⟨j, hj⟩ := List.getElem?_of_mem hi
    have h1 := congrArg (fun l => l[j]?) hcs
    simp only [List.getElem?_map, hj, Option.map_some] at h1
    cases hw : wc[j]? with
    | none => rw [hw] at h1; cases h1
    | some x =>
      rw [hw] at h1
      simp only [Option.map_some, Option.some.injEq] at h1
      exact (List.getElem?_eq_some_iff.mp h1).1
  have hze : ∀ k, ad3 hs.length cs.length ad ad' (ze hs.length cs dl k) = ad' k := fun k => ad3_ze hdd hcn (by rw [hcl]; exact xa') k
  have := hV p en s m args below meth c D tc ad0 _ ls H1 locs1 X E (zadx_agr (Nat.le_of_ble_eq_true h0) ha xa) P2 A2 S1 (by rw [zlv_low ha hlo.2.1]; exact L)
  have ev : (((v'.map (zrv (ze hs.length cs dl))).toList ++ rest).map (zrv (ad3 hs.length cs.length ad ad'))) = ((v'.map (zrv ad')).toList ++ rest.map (zrv ad)) := by
    rw [List.map_append, zst_low ha hlo.2.2]
    cases v' with
    | none => rfl
    | some v' =>
      simp only [Option.map_some, Option.toList_some, List.map_cons, List.map_nil, zrv_comp]
      rw [show (fun k => ad3 hs.length cs.length ad ad' (ze hs.length cs dl k)) = ad' from funext hze]
  rw [ev] at this
  exact this
end
