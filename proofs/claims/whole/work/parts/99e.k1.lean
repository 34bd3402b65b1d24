/-! ===== aastore; calls of what makes cells ===== -/
section
variable {l : Launch} {M M' : zM} {b : Bool} {hs0 hs wc : List zE} {R : Room} {F : zF} {nc ns pc n N idx nx tg d' mc' ms' : Nat} {T : zT} {lv : zL} {st rest : List Value}
theorem zup_map {ad : Nat → Nat} (g : Nat → Option Nat) (j v : Nat) : (fun i => (va_up g j (some v) i).map ad) = va_up (fun i => (g i).map ad) j (some (ad v)) := by
  funext i
  unfold va_up
  split <;> rfl
theorem V.aast (hM : zmok M) {C : String} {r : vw_C} (hat : zins M pc = some (.aastore, nx, tg)) (t : Nat) (ht : ∀ tc : Nat → ClassId, (zty tc)[t]? = some (tc t, .object r.1)) (q0 qk ci : Nat) {vs : List Value} {g : Nat → Option Nat} (ha : hs[q0]? = some (.inl (t, N, .inr g))) (hv : hs[qk]? = some (.inr (ci, vs))) (hc : zcl[ci]? = some r) (j : Nat) {x : Int32} (hx : x = nI j) (hj : j < N) (hN : N < 1000) (h : V l M b hs0 R F nc ns nx lv rest (hs.set q0 (.inl (t, N, .inr (va_up g j (some (2 * qk))))))) : V l M b hs0 R F nc ns pc lv (.ref (2 * qk) :: .int x :: .ref (2 * q0) :: rest) hs := by
  obtain ⟨hd, e0, -⟩ := zgd_dec (hM.2.1 pc _ hat) (k := 0) rfl
  subst e0
  intro p en s m args below meth c D tc ad0 ad ls H locs X E xa P A S L
  have hA : ∀ q, s.heap.size ≤ q → zA tc ad0 hs0 s q := fun q hq => Or.inr hq
  have hj2 : x.toNatClampNeg = j := pk_cl j hx (by omega)
  refine va_astq X.1 X.2.1 X.2.2.2.2.2.2.2.2 P A S q0 t qk ci (zw_get ha) (ht tc) (zw_get hv) hc (pk_in j N hj hx (by omega)) hd (fun H1 locs1 P1 A1 S1 => ?_)
  have ew := zw_set (tc := tc) (ad := ad) (hs := hs) (i := q0) (x := .inl (t, N, .inr (va_up g j (some (2 * qk)))))
  rw [show zc tc ad (.inl (t, N, .inr (va_up g j (some (2 * qk))))) = .inl (tc t, N, .inr (.inr (.inr (.inr (va_up (fun i => (g i).map ad) j (some (ad (2 * qk)))))))) by rw [zc, zup_map]] at ew
  rw [hj2, ew] at P1 A1
  exact h p en s m args below meth c D tc ad0 ad ls H1 locs1 X E xa P1 A1 S1 L
/-- the names behind a call that made cells -/
def ad3 (n k0 : Nat) (ad ad' : Nat → Nat) : Nat → Nat := fun k => bif Nat.beq (k % 2) 0 && Nat.ble (2 * n) k then ad' (2 * (k0 + (k / 2 - n))) else ad k
theorem ad3_agr (n k0 : Nat) (ad ad' : Nat → Nat) : zagr n ad (ad3 n k0 ad ad') := fun k hk => by
  unfold ad3
  cases hb : Nat.beq (k % 2) 0 && Nat.ble (2 * n) k with
  | false => rfl
  | true =>
    rw [Bool.and_eq_true] at hb
    have h1 := Nat.eq_of_beq_eq_true hb.1
    have h2 := Nat.le_of_ble_eq_true hb.2
    omega
theorem ad3_new (n k0 i : Nat) (ad ad' : Nat → Nat) : ad3 n k0 ad ad' (2 * (n + i)) = ad' (2 * (k0 + i)) := by
  unfold ad3
  have h1 : 2 * (n + i) % 2 = 0 := by omega
  have h2 : Nat.ble (2 * n) (2 * (n + i)) = true := Nat.ble_eq_true_of_le (by omega)
  rw [h1, h2, show 2 * (n + i) / 2 - n = i by omega]
  rfl
theorem ad3_ze {n : Nat} {cs : List Nat} {ad ad' dl : Nat → Nat} (hd : ∀ j, zlk n (dl (2 * j + 1)) = true) (hcn : ∀ i ∈ cs, i < n) (xa : zadx true cs.length (fun k => ad (ze n cs dl k)) ad') (k : Nat) : ad3 n cs.length ad ad' (ze n cs dl k) = ad' k := by
  have hag := ad3_agr n cs.length ad ad'
  rcases Nat.mod_two_eq_zero_or_one k with hk | hk
  · obtain ⟨j, rfl⟩ : ∃ j, k = 2 * j := ⟨k / 2, by omega⟩
    by_cases hj : j < cs.length
    · have hc := List.getElem?_eq_getElem hj
      have h1 := xa.1 j hj
      dsimp only at h1
      rw [ze_in hc] at h1
      rw [ze_in hc, hag _ (Or.inr (by have := hcn _ (List.getElem_mem hj); omega)), h1]
    · rw [ze_out (by omega), ad3_new, show cs.length + (j - cs.length) = j by omega]
  · obtain ⟨j, rfl⟩ : ∃ j, k = 2 * j + 1 := ⟨k / 2, by omega⟩
    have h1 := xa.2 j
    dsimp only at h1
    rw [ze_odd] at h1
    rw [ze_odd, hag _ (zlk_eq (hd j)), h1]
theorem zput_take {hs xs : List zE} {cs : List Nat} : zput hs cs (xs.take cs.length) = zput hs cs xs := by
  induction cs generalizing hs xs with
  | nil => cases xs <;> rfl
  | cons c cs ih =>
    cases xs with
    | nil => rfl
    | cons x xs => exact ih
/-- behind a call that made cells: the caller's world -/
theorem zafterB {D : va_G} {tc : Nat → ClassId} {ad ad' e : Nat → Nat} {hs wc wc' : List zE} {cs : List Nat} {n : Nat} {dl : Nat → Nat} {A : Nat → Prop} {H H1 : Heap} (hd : ∀ j, zlk n (dl (2 * j + 1)) = true) (hn : hs.length = n) (he : e = ze n cs dl) (hcs : cs.map (fun i => hs[i]?) = wc.map (fun x => some (zrc e x))) (hnd : va_nd cs = true) (hl : wc.length ≤ wc'.length) (hlo : zlowL n hs) (P : va_P D zcl (zw tc ad hs) H) (hA : va_D A (zw tc ad hs)) (hAn : ∀ q, H.size ≤ q → A q) (hk : ∀ q : Nat, q < H.size → ¬ va_A (zw tc (fun k => ad (e k)) wc) H.size q → H1[q]? = H[q]?) (xa : zadx true wc.length (fun k => ad (e k)) ad') (P1 : va_P D zcl (zw tc ad' wc') H1) (D1 : va_D (va_A (zw tc (fun k => ad (e k)) wc) H.size) (zw tc ad' wc')) :
    va_P D zcl (zw tc (ad3 n cs.length ad ad') (zput hs cs (wc'.map (zrc e)) ++ (wc'.drop cs.length).map (zrc e))) H1 ∧ va_D A (zw tc (ad3 n cs.length ad ad') (zput hs cs (wc'.map (zrc e)) ++ (wc'.drop cs.length).map (zrc e))) := by
  have hcl : cs.length = wc.length := by simpa using congrArg List.length hcs
  have hcn : ∀ i ∈ cs, i < n := fun i hi => by
    obtain ⟨j, hj⟩ := List.getElem?_of_mem hi
    have h1 := congrArg (fun l => l[j]?) hcs
    simp only [List.getElem?_map, hj, Option.map_some] at h1
    cases hw : wc[j]? with
    | none => rw [hw] at h1; cases h1
    | some x =>
      rw [hw] at h1
      simp only [Option.map_some, Option.some.injEq] at h1
      rw [← hn]
      exact (List.getElem?_eq_some_iff.mp h1).1
  have hze : ∀ k, ad3 n cs.length ad ad' (e k) = ad' k := fun k => by
    rw [he]
    exact ad3_ze hd hcn (by rw [hcl, ← he]; exact xa) k
  have hag := ad3_agr n cs.length ad ad'
  have hzc : ∀ x, zc tc (ad3 n cs.length ad ad') (zrc e x) = zc tc ad' x := fun x => by
    rw [zc_comp, show (fun k => ad3 n cs.length ad ad' (e k)) = ad' from funext hze]
  have hpl : (zput hs cs (wc'.map (zrc e))).length = n := by rw [zput_len, hn]
  -- the cells, one by one
  have hget : ∀ (k : Nat) (q : Nat × va_E), (zw tc (ad3 n cs.length ad ad') (zput hs cs (wc'.map (zrc e)) ++ (wc'.drop cs.length).map (zrc e)))[k]? = some q → (k < n ∧ q.1 = ad (2 * k) ∧ va_at D zcl q H1) ∨ (∃ i x, k = n + i ∧ wc'[cs.length + i]? = some x ∧ q = (ad' (2 * (cs.length + i)), zc tc ad' x)) := by
    intro k q hq
    obtain ⟨x, hx, rfl⟩ := zw_inv hq
    by_cases hkn : k < n
    · left
      rw [List.getElem?_append_left (by rw [hpl]; exact hkn)] at hx
      refine ⟨hkn, hag _ (Or.inr (by omega)), ?_⟩
      by_cases hin : k ∈ cs
      · obtain ⟨j, hj⟩ := List.getElem?_of_mem hin
        have hjl : j < wc'.length := by have := (List.getElem?_eq_some_iff.mp hj).1; omega
        have hx2 := zput_in cs hs (wc'.map (zrc e)) j k (zrc e wc'[j]) hnd hj (by rw [List.getElem?_map, List.getElem?_eq_getElem hjl]; rfl) (by omega)
        rw [hx] at hx2
        cases hx2
        have hp := P1 j _ (zw_get (List.getElem?_eq_getElem hjl))
        have h2 := hze (2 * j)
        rw [he, ze_in hj] at h2
        rw [hzc, h2]
        exact hp
      · rw [zput_out _ _ _ _ hin] at hx
        have hw := zw_get (tc := tc) (ad := ad) hx
        have hp := P k _ hw
        rw [zc_low hag (zlowL_get hlo hx), hag (2 * k) (Or.inr (by omega))]
        refine hp.kept (hk _ hp.lt (fun hz => ?_))
        rcases hz with ⟨j, e0, hz⟩ | hz
        · have hs1 := zsubw (tc := tc) (ad := ad) (he.trans rfl) hcs
          have h1 : (cs.map (fun i => (zw tc ad hs)[i]?))[j]? = some (some (ad (2 * k), e0)) := by rw [hs1, List.getElem?_map, hz]; rfl
          rw [List.getElem?_map] at h1
          cases hc : cs[j]? with
          | none => rw [hc] at h1; cases h1
          | some i =>
            rw [hc] at h1
            have hij := hA.1 i k (ad (2 * k), e0) (ad (2 * k), zc tc ad x) (Option.some.inj h1) hw rfl
            subst hij
            exact hin (List.mem_of_getElem? hc)
        · exact absurd hp.lt (Nat.not_lt.mpr hz)
    · right
      rw [List.getElem?_append_right (by rw [hpl]; omega), hpl, List.getElem?_map, List.getElem?_drop] at hx
      cases hw : wc'[cs.length + (k - n)]? with
      | none => rw [hw] at hx; cases hx
      | some y =>
        rw [hw] at hx
        cases hx
        refine ⟨k - n, y, by omega, hw, ?_⟩
        have h2 := ad3_new n cs.length (k - n) ad ad'
        rw [show n + (k - n) = k by omega] at h2
        rw [hzc, h2]
  have hnew : ∀ i x, wc'[cs.length + i]? = some x → H.size ≤ ad' (2 * (cs.length + i)) := fun i x hx => by
    rcases D1.2 _ _ (zw_get hx) with ⟨j, e0, hz⟩ | hz
    · obtain ⟨y, hy, hq⟩ := zw_inv hz
      have hj := (List.getElem?_eq_some_iff.mp hy).1
      have e1 : ad' (2 * (cs.length + i)) = ad (e (2 * j)) := congrArg Prod.fst hq
      have e2 : ad' (2 * j) = ad (e (2 * j)) := xa.1 j hj
      have hjw : j < wc'.length := Nat.lt_of_lt_of_le hj hl
      have := D1.1 _ _ _ _ (zw_get hx) (zw_get (List.getElem?_eq_getElem hjw)) (e1.trans e2.symm)
      omega
    · exact hz
  have hold : ∀ k, k < n → ad (2 * k) < H.size := fun k hkn => by
    have hx := List.getElem?_eq_getElem (show k < hs.length by omega)
    exact (P k _ (zw_get hx)).lt
  refine ⟨fun k q hq => ?_, fun i j p q hp hq e1 => ?_, fun k q hq => ?_⟩
  · rcases hget k q hq with ⟨-, -, h⟩ | ⟨i, x, rfl, hx, rfl⟩
    · exact h
    · exact P1 _ _ (zw_get hx)
  · rcases hget i p hp with ⟨h1, h2, -⟩ | ⟨i1, x1, rfl, hx1, rfl⟩ <;> rcases hget j q hq with ⟨h3, h4, -⟩ | ⟨i2, x2, rfl, hx2, rfl⟩
    · have hxi := zw_get (tc := tc) (ad := ad) (List.getElem?_eq_getElem (show i < hs.length by omega))
      have hxj := zw_get (tc := tc) (ad := ad) (List.getElem?_eq_getElem (show j < hs.length by omega))
      exact hA.1 i j _ _ hxi hxj (by rw [h2, h4] at e1; exact e1)
    · have a1 := hold i h1
      have a2 := hnew i2 x2 hx2
      rw [h2] at e1
      have e1 : ad (2 * i) = ad' (2 * (cs.length + i2)) := e1
      omega
    · have a1 := hold j h3
      have a2 := hnew i1 x1 hx1
      rw [h4] at e1
      have e1 : ad' (2 * (cs.length + i1)) = ad (2 * j) := e1
      omega
    · have := D1.1 _ _ _ _ (zw_get hx1) (zw_get hx2) e1
      omega
  · rcases hget k q hq with ⟨h1, h2, -⟩ | ⟨i, x, rfl, hx, rfl⟩
    · have hx := zw_get (tc := tc) (ad := ad) (List.getElem?_eq_getElem (show k < hs.length by omega))
      rw [h2]
      exact hA.2 k _ hx
    · exact hAn _ (hnew i x hx)
theorem V.mkI (hM : zmok M) (hat : zins M pc = some (.invokespecial idx, nx, tg)) (hlk : zlI (zy M).cls idx M' n) (hC : Ct l M' true d' mc' ms' T) (hR : (Nat.ble (d' + 1) R.frames && Nat.ble (8 + (zmax M' + 11) + 48 * d') R.locals && (Nat.ble (nc + mc') R.cells && Nat.ble (ns + ms') R.slots)) = true) (N : Nat) (hN : hs.length = N) (h0 : Nat.ble hs0.length N = true) (dl : Nat → Nat) (hdl : ∀ i, i < 27 → dl (2 * i + 1) = 2 * i + 1) (hdd : ∀ j, zlk N (dl (2 * j + 1)) = true) (cs : List Nat) (wc : List zE) (argsC rest : List Value) (hn : argsC.length = n + 1) {j : Nat} (hj : argsC.head? = some (.ref (2 * j))) (hst : st = ((argsC.map (zrv (ze N cs dl))).reverse) ++ rest) (hW : Nat.ble ((rest.map fun v => v.category).sum) 8 = true) (hnd : va_nd cs = true) (hcs : cs.map (fun i => hs[i]?) = wc.map (fun x => some (zrc (ze N cs dl) x))) (hlo : zlowW N hs lv rest) (hT : T argsC wc (fun v w => v = none ∧ wc.length ≤ w.length ∧ V l M true hs0 R F (nc + mc') (ns + ms') nx lv rest (zput hs cs (w.map (zrc (ze N cs dl))) ++ (w.drop cs.length).map (zrc (ze N cs dl))))) : V l M true hs0 R F nc ns pc lv st hs := by
  obtain ⟨hd, e0, -⟩ := zgd_dec (hM.2.1 pc _ hat) (k := 2) rfl
  subst e0
  subst hN
  intro p en s m args below meth c D tc ad0 ad ls H locs X E xa P A S L
  have hrl : ((rest.map (zrv ad)).map fun v => v.category).sum ≤ 8 := by
    rw [List.map_map, show ((fun v => v.category) ∘ zrv ad) = (fun v : Value => v.category) from funext (fun v => zrv_cat ad v)]
    exact Nat.le_of_ble_eq_true hW
  have hrun := zrunI (l := l) (en := en) (below := below) (nc := nc) (ns := ns) (pc := pc) (ls := ls) (rest := rest.map (zrv ad)) X E xa P A S rfl hcs hnd hdl hlk hC hR hT hn hj L.1 hrl hd
  have est : st.map (zrv ad) = ((argsC.map (zrv (fun k => ad (ze hs.length cs dl k)))).reverse) ++ rest.map (zrv ad) := by
    rw [hst, List.map_append, List.map_reverse, List.map_map]
    congr 3
    funext v
    exact zrv_comp _ _ _
  rw [est]
  have hA : ∀ q, s.heap.size ≤ q → zA tc ad0 hs0 s q := fun q hq => Or.inr hq
  have hfree := va_free A S hA cs (zsubw (tc := tc) (ad := ad) rfl hcs)
  refine z_call hrun S (fun q _ h => hfree q h) hfree (fun _ _ _ h => h.2) (fun v st1 t H1 locs1 hh ht hvm hq hz hk S1 => ?_)
  obtain ⟨⟨ad', v', wc', hv, hpost, xa', P1, K1, D1⟩, -⟩ := hq
  cases hv
  rw [ht] at P1
  obtain ⟨rfl, hlen, hV⟩ := hpost
  obtain ⟨P2, A2⟩ := zafterB hdd rfl rfl hcs hnd hlen hlo.1 P A (fun q hq => hA q (Nat.le_trans S.1 hq)) hk xa' P1 D1
  have ha := ad3_agr hs.length cs.length ad ad'
  have := hV p en s m args below meth c D tc ad0 _ ls H1 locs1 X E (zadx_agr (Nat.le_of_ble_eq_true h0) ha xa) P2 A2 S1 (by rw [zlv_low ha hlo.2.1]; exact L)
  rw [zst_low ha hlo.2.2] at this
  exact this
theorem V.mkIN (hM : zmok M) (hat : zins M pc = some (.invokespecial idx, nx, tg)) (hlk : zlIN (zy M).cls idx M' n) (hC : Ct l M' true d' mc' ms' T) (hR : (Nat.ble (d' + 1) R.frames && Nat.ble (8 + (zmax M' + 11) + 48 * d') R.locals && (Nat.ble (nc + mc') R.cells && Nat.ble (ns + ms') R.slots)) = true) (N : Nat) (hN : hs.length = N) (h0 : Nat.ble hs0.length N = true) (dl : Nat → Nat) (hdl : ∀ i, i < 27 → dl (2 * i + 1) = 2 * i + 1) (hdd : ∀ j, zlk N (dl (2 * j + 1)) = true) (cs : List Nat) (wc : List zE) (argsC rest : List Value) (hn : argsC.length = n + 1) {j : Nat} (hj : argsC.head? = some (.ref (2 * j))) (hst : st = ((argsC.map (zrv (ze N cs dl))).reverse) ++ rest) (hW : Nat.ble ((rest.map fun v => v.category).sum) 8 = true) (hnd : va_nd cs = true) (hcs : cs.map (fun i => hs[i]?) = wc.map (fun x => some (zrc (ze N cs dl) x))) (hlo : zlowW N hs lv rest) (hT : T argsC wc (fun v w => v = none ∧ wc.length ≤ w.length ∧ V l M true hs0 R F (nc + mc') (ns + ms') nx lv rest (zput hs cs (w.map (zrc (ze N cs dl))) ++ (w.drop cs.length).map (zrc (ze N cs dl))))) : V l M true hs0 R F nc ns pc lv st hs := by
  obtain ⟨hd, e0, -⟩ := zgd_dec (hM.2.1 pc _ hat) (k := 2) rfl
  subst e0
  subst hN
  intro p en s m args below meth c D tc ad0 ad ls H locs X E xa P A S L
  have hrl : ((rest.map (zrv ad)).map fun v => v.category).sum ≤ 8 := by
    rw [List.map_map, show ((fun v => v.category) ∘ zrv ad) = (fun v : Value => v.category) from funext (fun v => zrv_cat ad v)]
    exact Nat.le_of_ble_eq_true hW
  have hrun := zrunIN (l := l) (en := en) (below := below) (nc := nc) (ns := ns) (pc := pc) (ls := ls) (rest := rest.map (zrv ad)) X E xa P A S rfl hcs hnd hdl hlk hC hR hT hn hj L.1 hrl hd
  have est : st.map (zrv ad) = ((argsC.map (zrv (fun k => ad (ze hs.length cs dl k)))).reverse) ++ rest.map (zrv ad) := by
    rw [hst, List.map_append, List.map_reverse, List.map_map]
    congr 3
    funext v
    exact zrv_comp _ _ _
  rw [est]
  have hA : ∀ q, s.heap.size ≤ q → zA tc ad0 hs0 s q := fun q hq => Or.inr hq
  have hfree := va_free A S hA cs (zsubw (tc := tc) (ad := ad) rfl hcs)
  refine z_call hrun S (fun q _ h => hfree q h) hfree (fun _ _ _ h => h.2) (fun v st1 t H1 locs1 hh ht hvm hq hz hk S1 => ?_)
  obtain ⟨⟨ad', v', wc', hv, hpost, xa', P1, K1, D1⟩, -⟩ := hq
  cases hv
  rw [ht] at P1
  obtain ⟨rfl, hlen, hV⟩ := hpost
  obtain ⟨P2, A2⟩ := zafterB hdd rfl rfl hcs hnd hlen hlo.1 P A (fun q hq => hA q (Nat.le_trans S.1 hq)) hk xa' P1 D1
  have ha := ad3_agr hs.length cs.length ad ad'
  have := hV p en s m args below meth c D tc ad0 _ ls H1 locs1 X E (zadx_agr (Nat.le_of_ble_eq_true h0) ha xa) P2 A2 S1 (by rw [zlv_low ha hlo.2.1]; exact L)
  rw [zst_low ha hlo.2.2] at this
  exact this
end
