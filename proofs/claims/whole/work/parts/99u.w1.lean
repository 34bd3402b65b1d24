/-! ===== worlds in pieces ===== -/
theorem zput_app : ∀ {cs1 : List Nat} {xs1 : List zE} (hs : List zE) (cs2 : List Nat) (xs2 : List zE), cs1.length = xs1.length → zput hs (cs1 ++ cs2) (xs1 ++ xs2) = zput (zput hs cs1 xs1) cs2 xs2
  | [], [], _, _, _, _ => rfl
  | [], _ :: _, _, _, _, h => by cases h
  | _ :: _, [], _, _, _, h => by cases h
  | c :: _, x :: _, hs, cs2, xs2, h => zput_app (hs.set c x) cs2 xs2 (Nat.succ.inj h)
theorem zput_mid : ∀ (S S2 A C : List zE), S2.length = S.length → zput (A ++ (S ++ C)) (List.range' A.length S.length) S2 = A ++ (S2 ++ C)
  | [], [], A, C, _ => rfl
  | [], _ :: _, _, _, h => by cases h
  | _ :: _, [], _, _, h => by cases h
  | s :: S, y :: S2, A, C, h => by
    have ih := zput_mid S S2 (A ++ [y]) C (Nat.succ.inj h)
    have e : (A ++ (s :: S ++ C)).set A.length y = (A ++ [y]) ++ (S ++ C) := by
      rw [List.set_append_right _ _ (Nat.le_refl _), Nat.sub_self, List.append_assoc]
      rfl
    show zput ((A ++ (s :: S ++ C)).set A.length y) (List.range' (A.length + 1) S.length) S2 = _
    rw [e, show A.length + 1 = (A ++ [y]).length by rw [List.length_append]; rfl, ih, List.append_assoc]
    rfl
theorem zcs_mid : ∀ (S A C : List zE), (List.range' A.length S.length).map (fun i => (A ++ (S ++ C))[i]?) = S.map some
  | [], _, _ => rfl
  | s :: S, A, C => by
    have ih := zcs_mid S (A ++ [s]) C
    rw [show (A ++ [s]).length = A.length + 1 by rw [List.length_append]; rfl, List.append_assoc] at ih
    show (A ++ (s :: S ++ C))[A.length]? :: (List.range' (A.length + 1) S.length).map _ = _
    rw [List.getElem?_append_right (Nat.le_refl _), Nat.sub_self]
    exact congrArg (fun l => some s :: l) ih
theorem rng_get : ∀ (m q j : Nat), j < m → (List.range' q m)[j]? = some (q + j)
  | 0, _, _, h => absurd h (Nat.not_lt_zero _)
  | m + 1, q, 0, _ => rfl
  | m + 1, q, j + 1, h => by
    show (List.range' (q + 1) m)[j]? = _
    rw [rng_get m (q + 1) j (by omega)]
    congr 1
    omega
theorem nd_rng : ∀ (m q : Nat) (l : List Nat), va_nd l = true → (∀ x ∈ l, x < q ∨ q + m ≤ x) → va_nd (List.range' q m ++ l) = true
  | 0, q, l, h, _ => h
  | m + 1, q, l, h, hl => by
    show va_nd (q :: (List.range' (q + 1) m ++ l)) = true
    simp only [va_nd, Bool.and_eq_true, decide_eq_true_eq]
    refine ⟨fun hm => ?_, nd_rng m (q + 1) l h (fun x hx => by have := hl x hx; omega)⟩
    rcases List.mem_append.mp hm with hm | hm
    · rw [List.mem_range'_1] at hm
      omega
    · have := hl q hm
      omega
abbrev csX (q m : Nat) : List Nat := List.range' 0 51 ++ List.range' q m
theorem csX_nd {q m : Nat} (h : 51 ≤ q) : va_nd (csX q m) = true := nd_rng 51 0 _ (by
  have := nd_rng m q [] rfl (fun x hx => by cases hx)
  rwa [List.append_nil] at this) (fun x hx => by rw [List.mem_range'_1] at hx; omega)
theorem csX_len (q m : Nat) : (csX q m).length = 51 + m := by rw [List.length_append, List.length_range', List.length_range']
theorem csX_1 {q m j : Nat} (h : j < 51) : (csX q m)[j]? = some j := by
  rw [List.getElem?_append_left (by rw [List.length_range']; exact h), rng_get 51 0 j h, Nat.zero_add]
theorem csX_2 {q m j : Nat} (h : j < m) : (csX q m)[51 + j]? = some (q + j) := by
  rw [List.getElem?_append_right (by rw [List.length_range']; omega), List.length_range', show 51 + j - 51 = j by omega, rng_get m q j h]
theorem zput_X {X C1 S C2 A B : List zE} (hX : X.length = 51) (hA : A.length = 51) (hB : B.length = S.length) : zput (X ++ (C1 ++ (S ++ C2))) (csX (51 + C1.length) S.length) (A ++ B) = A ++ (C1 ++ (B ++ C2)) := by
  have h1 := zput_mid X A [] (C1 ++ (S ++ C2)) (by rw [hA, hX])
  rw [hX] at h1
  have h1 : zput (X ++ (C1 ++ (S ++ C2))) (List.range' 0 51) A = A ++ (C1 ++ (S ++ C2)) := h1
  have h2 := zput_mid S B (A ++ C1) C2 hB
  rw [List.length_append, hA, List.append_assoc, List.append_assoc] at h2
  rw [zput_app _ _ _ (by rw [List.length_range', hA]), h1]
  exact h2
theorem zcs_X {X C1 S C2 wX wT : List zE} {e : Nat → Nat} (hX : X.length = 51) (eX : wX.map (zrc e) = X) (eS : wT.map (zrc e) = S) : (csX (51 + C1.length) S.length).map (fun i => (X ++ (C1 ++ (S ++ C2)))[i]?) = (wX ++ wT).map (fun x => some (zrc e x)) := by
  rw [List.map_append, List.map_append]
  have h1 := zcs_mid X [] (C1 ++ (S ++ C2))
  rw [hX] at h1
  have h2 := zcs_mid S (X ++ C1) C2
  rw [List.length_append, hX, List.append_assoc] at h2
  refine congr (congrArg _ ?_) ?_
  · refine h1.trans ?_
    rw [← eX, List.map_map]
    rfl
  · refine h2.trans ?_
    rw [← eS, List.map_map]
    rfl
/-- the names are even and belong to the first n cells -/
def zltV (n : Nat) : Value → Bool
  | .ref k => Nat.beq (k % 2) 0 && Nat.ble (k + 1) (2 * n)
  | _ => true
def zltC (n : Nat) : zE → Bool
  | .inl (_, _, .inl _) => true
  | .inl (_, _, .inr _) => false
  | .inr (_, fs) => fs.all (zltV n)
theorem zlt_k {n k : Nat} (q : (Nat.beq (k % 2) 0 && Nat.ble (k + 1) (2 * n)) = true) : ∃ j, j < n ∧ k = 2 * j := by
  rw [Bool.and_eq_true] at q
  have h1 : k % 2 = 0 := Nat.eq_of_beq_eq_true q.1
  have h2 : k + 1 ≤ 2 * n := Nat.le_of_ble_eq_true q.2
  exact ⟨k / 2, by omega, by omega⟩
section
variable {n : Nat} {e1 e2 : Nat → Nat}
theorem zltV_agr (h : ∀ j, j < n → e1 (2 * j) = e2 (2 * j)) : ∀ {v : Value}, zltV n v = true → zrv e1 v = zrv e2 v
  | .ref k, q => by
    obtain ⟨j, hj, hk⟩ := zlt_k (n := n) (k := k) q
    subst hk
    show Value.ref (e1 (2 * j)) = Value.ref (e2 (2 * j))
    rw [h j hj]
  | .int _, _ => rfl
  | .long _, _ => rfl
  | .null, _ => rfl
  | .float _, _ => rfl
  | .double _, _ => rfl
  | .retAddr _, _ => rfl
theorem zltVs_agr (h : ∀ j, j < n → e1 (2 * j) = e2 (2 * j)) : ∀ {l : List Value}, l.all (zltV n) = true → l.map (zrv e1) = l.map (zrv e2)
  | [], _ => rfl
  | v :: l, q => by
    rw [List.all_cons, Bool.and_eq_true] at q
    rw [List.map_cons, List.map_cons, zltV_agr h q.1, zltVs_agr h q.2]
theorem zltC_agr (h : ∀ j, j < n → e1 (2 * j) = e2 (2 * j)) : ∀ {x : zE}, zltC n x = true → zrc e1 x = zrc e2 x
  | .inl (_, _, .inl _), _ => rfl
  | .inl (_, _, .inr _), q => by cases q
  | .inr (ci, fs), q => by
    show Sum.inr (ci, fs.map (zrv e1)) = Sum.inr (ci, fs.map (zrv e2))
    rw [zltVs_agr h q]
theorem zltL_agr (h : ∀ j, j < n → e1 (2 * j) = e2 (2 * j)) : ∀ {l : List zE}, l.all (zltC n) = true → l.map (zrc e1) = l.map (zrc e2)
  | [], _ => rfl
  | x :: l, q => by
    rw [List.all_cons, Bool.and_eq_true] at q
    rw [List.map_cons, List.map_cons, zltC_agr h q.1, zltL_agr h q.2]
theorem zltL_id {e : Nat → Nat} (h : ∀ j, j < n → e (2 * j) = 2 * j) {l : List zE} (q : l.all (zltC n) = true) : l.map (zrc e) = l := by
  rw [zltL_agr (e2 := fun k => k) h q, zrc_ids]
end
section
variable {l : Launch} {M M' : zM} {b : Bool} {hs0 hs wc : List zE} {R : Room} {F : zF} {nc ns pc n idx nx tg d' mc' ms' : Nat} {T : zT} {lv : zL} {st rest : List Value}
theorem V.cX (hM : zmok M) (hat : zins M pc = some (.invokevirtual idx, nx, tg)) (hlk : zlV (zy M).cls idx M' n) (hC : Ct l M' false d' mc' ms' T) (hR : (Nat.ble (d' + 1) R.frames && Nat.ble (8 + (zmax M' + 11) + 48 * d') R.locals && (Nat.ble (nc + mc') R.cells && Nat.ble (ns + ms') R.slots)) = true) (dl : Nat → Nat) (hdl : ∀ i, i < 27 → dl (2 * i + 1) = 2 * i + 1) (N q m : Nat) (X C1 S C2 wX wT : List zE) (hw : hs = X ++ (C1 ++ (S ++ C2))) (hN : hs.length = N) (hX : X.length = 51) (hq : q = 51 + C1.length) (hm : m = S.length) (eX : wX.map (zrc (ze N (csX q m) dl)) = X) (eS : wT.map (zrc (ze N (csX q m) dl)) = S) (argsC rest : List Value) (hn : argsC.length = n + 1) (hj : argsC.head? = some (.ref 0)) {fs : List Value} (hz : (wX ++ wT)[0]? = some (.inr (6, fs))) (hqc : RX6 = (zy M').cls) (hst : st = ((argsC.map (zrv (ze N (csX q m) dl))).reverse) ++ rest) (hW : Nat.ble ((rest.map fun v => v.category).sum) 8 = true) (hT : T argsC (wX ++ wT) (fun v w => ∃ wX2 wT2 : List zE, w = wX2 ++ wT2 ∧ wX2.length = 51 ∧ wT2.length = m ∧ V l M b hs0 R F (nc + mc') (ns + ms') nx lv ((v.map (zrv (ze N (csX q m) dl))).toList ++ rest) (wX2.map (zrc (ze N (csX q m) dl)) ++ (C1 ++ (wT2.map (zrc (ze N (csX q m) dl)) ++ C2))))) : V l M b hs0 R F nc ns pc lv st hs := by
  subst hN
  subst hq
  subst hm
  refine V.callV hM hat hlk hC hR dl hdl (csX (51 + C1.length) S.length) (wX ++ wT) argsC rest _ hn 0 6 hj hz rfl hqc hst hW (csX_nd (by omega)) ?_ hT (fun v w h => ?_)
  · have h1 := zcs_X (C1 := C1) (C2 := C2) hX eX eS
    rw [← hw] at h1
    exact h1
  · obtain ⟨wX2, wT2, rfl, h1, h2, h3⟩ := h
    have l1 : wX.length = 51 := by rw [← hX, ← eX, List.length_map]
    have l2 : wT.length = S.length := by
      have := congrArg List.length eS
      rwa [List.length_map] at this
    refine ⟨by rw [List.length_append, List.length_append, h1, h2, l1, l2], ?_⟩
    obtain ⟨e, he⟩ : ∃ e, e = ze hs.length (csX (51 + C1.length) S.length) dl := ⟨_, rfl⟩
    rw [← he] at h3 ⊢
    rw [List.map_append]
    have h4 := zput_X (C1 := C1) (S := S) (C2 := C2) (A := wX2.map (zrc e)) (B := wT2.map (zrc e)) hX (by rw [List.length_map]; exact h1) (by rw [List.length_map]; exact h2)
    rw [← hw] at h4
    rw [h4]
    exact h3
theorem V.mkV (hM : zmok M) (hat : zins M pc = some (.invokevirtual idx, nx, tg)) (hlk : zlV (zy M).cls idx M' n) (hC : Ct l M' true d' mc' ms' T) (hR : (Nat.ble (d' + 1) R.frames && Nat.ble (8 + (zmax M' + 11) + 48 * d') R.locals && (Nat.ble (nc + mc') R.cells && Nat.ble (ns + ms') R.slots)) = true) (N : Nat) (hN : hs.length = N) (h0 : Nat.ble hs0.length N = true) (dl : Nat → Nat) (hdl : ∀ i, i < 27 → dl (2 * i + 1) = 2 * i + 1) (hdd : ∀ j, zlk N (dl (2 * j + 1)) = true) (cs : List Nat) (wc : List zE) (argsC rest : List Value) (hn : argsC.length = n + 1) (j ci : Nat) {q : vw_C} {fs : List Value} (hj : argsC.head? = some (.ref (2 * j))) (hz : wc[j]? = some (.inr (ci, fs))) (hq : zcl[ci]? = some q) (hqc : q.1 = (zy M').cls) (hst : st = ((argsC.map (zrv (ze N cs dl))).reverse) ++ rest) (hW : Nat.ble ((rest.map fun v => v.category).sum) 8 = true) (hnd : va_nd cs = true) (hcs : cs.map (fun i => hs[i]?) = wc.map (fun x => some (zrc (ze N cs dl) x))) (hlo : zlowW N hs lv rest) (hT : T argsC wc (fun v w => wc.length ≤ w.length ∧ V l M true hs0 R F (nc + mc') (ns + ms') nx lv ((v.map (zrv (ze N cs dl))).toList ++ rest) (zput hs cs (w.map (zrc (ze N cs dl))) ++ (w.drop cs.length).map (zrc (ze N cs dl))))) : V l M true hs0 R F nc ns pc lv st hs := by
  obtain ⟨hd, e0, -⟩ := zgd_dec (hM.2.1 pc _ hat) (k := 2) rfl
  subst e0
  subst hN
  intro p en s m args below meth c D tc ad0 ad ls H locs X E xa P A S L
  have hrl : ((rest.map (zrv ad)).map fun v => v.category).sum ≤ 8 := by
    rw [List.map_map, show ((fun v => v.category) ∘ zrv ad) = (fun v : Value => v.category) from funext (fun v => zrv_cat ad v)]
    exact Nat.le_of_ble_eq_true hW
  have hrun := zrunV (l := l) (en := en) (below := below) (nc := nc) (ns := ns) (pc := pc) (ls := ls) (rest := rest.map (zrv ad)) X E xa P A S rfl hcs hnd hdl hlk hC hR hT hn hj hz hq hqc L.1 hrl hd
  have est : st.map (zrv ad) = ((argsC.map (zrv (fun k => ad (ze hs.length cs dl k)))).reverse) ++ rest.map (zrv ad) := by
    rw [hst, List.map_append, List.map_reverse, List.map_map]
    congr 3
    funext v
    exact zrv_comp _ _ _
  rw [est]
  have hA : ∀ q, s.heap.size ≤ q → zA tc ad0 hs0 s q := fun q hq => Or.inr hq
  have hfree := va_free A S hA cs (zsubw (tc := tc) (ad := ad) rfl hcs)
  refine z_call hrun S (fun q _ h => hfree q h) hfree (fun _ _ _ h => h.2) (fun v st1 t H1 locs1 hh ht hvm hq hz hk S1 => ?_)
  obtain ⟨⟨ad', v', wc', hv, hpost, xa', P1, K1, D1⟩, -⟩ := hq
  cases hv
  rw [ht] at P1
  obtain ⟨hlen, hV⟩ := hpost
  obtain ⟨P2, A2⟩ := zafterB hdd rfl rfl hcs hnd hlen hlo.1 P A (fun q hq => hA q (Nat.le_trans S.1 hq)) hk xa' P1 D1
  have ha := ad3_agr hs.length cs.length ad ad'
  have hcl : cs.length = wc.length := by simpa using congrArg List.length hcs
  have hcn : ∀ i ∈ cs, i < hs.length := fun i hi => by
    obtain ⟨j, hj⟩ := List.getElem?_of_mem hi
    have h1 := congrArg (fun l => l[j]?) hcs
    simp only [List.getElem?_map, hj, Option.map_some] at h1
    cases hw : wc[j]? with
    | none => rw [hw] at h1; cases h1
    | some x =>
      rw [hw] at h1
      simp only [Option.map_some, Option.some.injEq] at h1
      exact (List.getElem?_eq_some_iff.mp h1).1
  have hze : ∀ k, ad3 hs.length cs.length ad ad' (ze hs.length cs dl k) = ad' k := fun k => ad3_ze hdd hcn (by rw [hcl]; exact xa') k
  have := hV p en s m args below meth c D tc ad0 _ ls H1 locs1 X E (zadx_agr (Nat.le_of_ble_eq_true h0) ha xa) P2 A2 S1 (by rw [zlv_low ha hlo.2.1]; exact L)
  have ev : (((v'.map (zrv (ze hs.length cs dl))).toList ++ rest).map (zrv (ad3 hs.length cs.length ad ad'))) = ((v'.map (zrv ad')).toList ++ rest.map (zrv ad)) := by
    rw [List.map_append, zst_low ha hlo.2.2]
    cases v' with
    | none => rfl
    | some v' =>
      simp only [Option.map_some, Option.toList_some, List.map_cons, List.map_nil, zrv_comp]
      rw [show (fun k => ad3 hs.length cs.length ad ad' (ze hs.length cs dl k)) = ad' from funext hze]
  rw [ev] at this
  exact this
theorem V.mkX (hM : zmok M) (hat : zins M pc = some (.invokevirtual idx, nx, tg)) (hlk : zlV (zy M).cls idx M' n) (hC : Ct l M' true d' mc' ms' T) (hR : (Nat.ble (d' + 1) R.frames && Nat.ble (8 + (zmax M' + 11) + 48 * d') R.locals && (Nat.ble (nc + mc') R.cells && Nat.ble (ns + ms') R.slots)) = true) (dl : Nat → Nat) (hdl : ∀ i, i < 27 → dl (2 * i + 1) = 2 * i + 1) (N q m : Nat) (h0 : Nat.ble hs0.length N = true) (hdd : ∀ j, zlk N (dl (2 * j + 1)) = true) (X C1 S C2 wX wT : List zE) (hw : hs = X ++ (C1 ++ (S ++ C2))) (hN : hs.length = N) (hX : X.length = 51) (hq : q = 51 + C1.length) (hm : m = S.length) (eX : wX.map (zrc (ze N (csX q m) dl)) = X) (eS : wT.map (zrc (ze N (csX q m) dl)) = S) (argsC rest : List Value) (hn : argsC.length = n + 1) (hj : argsC.head? = some (.ref 0)) {fs : List Value} (hz : (wX ++ wT)[0]? = some (.inr (6, fs))) (hqc : RX6 = (zy M').cls) (hst : st = ((argsC.map (zrv (ze N (csX q m) dl))).reverse) ++ rest) (hW : Nat.ble ((rest.map fun v => v.category).sum) 8 = true) (hlo : zlowW N hs lv rest) (hT : T argsC (wX ++ wT) (fun v w => ∃ wX2 wT2 wN : List zE, w = wX2 ++ (wT2 ++ wN) ∧ wX2.length = 51 ∧ wT2.length = m ∧ V l M true hs0 R F (nc + mc') (ns + ms') nx lv ((v.map (zrv (ze N (csX q m) dl))).toList ++ rest) ((wX2.map (zrc (ze N (csX q m) dl)) ++ (C1 ++ (wT2.map (zrc (ze N (csX q m) dl)) ++ C2))) ++ wN.map (zrc (ze N (csX q m) dl))))) (hmono : ∀ (Q1 Q2 : Option Value → List zE → Prop), (∀ v w, Q1 v w → Q2 v w) → T argsC (wX ++ wT) Q1 → T argsC (wX ++ wT) Q2) : V l M true hs0 R F nc ns pc lv st hs := by
  subst hq
  subst hm
  have l1 : wX.length = 51 := by rw [← hX, ← eX, List.length_map]
  have l2 : wT.length = S.length := by
    have := congrArg List.length eS
    rwa [List.length_map] at this
  refine V.mkV hM hat hlk hC hR N hN h0 dl hdl hdd (csX (51 + C1.length) S.length) (wX ++ wT) argsC rest hn 0 6 hj hz rfl hqc hst hW (csX_nd (by omega)) ?_ hlo (hmono _ _ (fun v w h => ?_) hT)
  · have h1 := zcs_X (C1 := C1) (C2 := C2) hX eX eS
    rw [← hw] at h1
    exact h1
  · obtain ⟨wX2, wT2, wN, rfl, h1, h2, h3⟩ := h
    refine ⟨by simp only [List.length_append, h1, h2, l1, l2]; omega, ?_⟩
    obtain ⟨e, he⟩ : ∃ e, e = ze N (csX (51 + C1.length) S.length) dl := ⟨_, rfl⟩
    rw [← he] at h3 ⊢
    have h4 := zput_X (C1 := C1) (S := S) (C2 := C2) (A := wX2.map (zrc e)) (B := wT2.map (zrc e)) hX (by rw [List.length_map]; exact h1) (by rw [List.length_map]; exact h2)
    rw [← hw] at h4
    have h5 : ((wX2 ++ (wT2 ++ wN)).map (zrc e)).take (csX (51 + C1.length) S.length).length = wX2.map (zrc e) ++ wT2.map (zrc e) := by
      rw [csX_len, ← List.append_assoc, List.map_append, List.take_left' (by rw [List.length_map, List.length_append, h1, h2]), List.map_append]
    have h6 : (wX2 ++ (wT2 ++ wN)).drop (csX (51 + C1.length) S.length).length = wN := by
      rw [csX_len, ← List.append_assoc, List.drop_left' (by rw [List.length_append, h1, h2])]
    rw [← zput_take, h5, h6, h4]
    exact h3
/-- names told anew: what the law's own judgement allows -/
theorem V.ren {hs2 : List zE} {lv2 : zL} {st2 : List Value} (e : Nat → Nat) (he : ∀ i, i < hs2.length → e (2 * i) = 2 * i) (ho : ∀ i, i < 27 → e (2 * i + 1) = 2 * i + 1) (h3 : e 301 = 301) (hF : ∀ (D : va_G) (tc : Nat → ClassId) (ad0 ad1 : Nat → Nat) (s : State) (args : Array Value) (below : List Frame), ad1 301 = ad0 301 → F D tc ad1 s args below = F D tc ad0 s args below) (h : V l M true [] R F nc ns pc lv2 st2 hs2) : V l M true [] R F nc ns pc (zl e lv2) (st2.map (zrv e)) (hs2.map (zrc e)) := by
  intro p en s m args below meth c D tc ad0 ad ls H locs X E xa P A S L
  have ew : zw tc ad (hs2.map (zrc e)) = zw tc (fun k => ad (e k)) hs2 := by
    apply List.ext_getElem?
    intro i
    cases hx : hs2[i]? with
    | none =>
      have h1 : (hs2.map (zrc e))[i]? = none := by rw [List.getElem?_map, hx]; rfl
      simp only [zw, List.getElem?_mapIdx, hx, h1, Option.map_none]
    | some x =>
      have h1 : (hs2.map (zrc e))[i]? = some (zrc e x) := by rw [List.getElem?_map, hx]; rfl
      have hi := (List.getElem?_eq_some_iff.mp hx).1
      rw [zw_get h1, zw_get hx, zc_comp, he i hi]
  have el : zl ad (zl e lv2) = zl (fun k => ad (e k)) lv2 := by
    unfold zl
    rw [List.map_map]
    congr 1
    funext q
    show (q.1, zrv ad (zrv e q.2)) = (q.1, zrv (fun k => ad (e k)) q.2)
    rw [zrv_comp]
  have es : (st2.map (zrv e)).map (zrv ad) = st2.map (zrv (fun k => ad (e k))) := by
    rw [List.map_map]
    congr 1
    funext v
    exact zrv_comp ad e v
  have ho2 : ∀ i, i < 27 → (fun k => ad (e k)) (2 * i + 1) = ad0 (2 * i + 1) := fun i hi => by
    show ad (e (2 * i + 1)) = _
    rw [ho i hi, xa.2 i]
  have E2 : ZE (fun k => ad (e k)) (zA tc (fun k => ad (e k)) [] s) s s.heap := ZE.re E ho2
  rw [ew] at P A
  rw [el] at L
  have := h p en s m args below meth c D tc (fun k => ad (e k)) (fun k => ad (e k)) ls H locs X E2 ⟨fun k hk => absurd hk (Nat.not_lt_zero k), fun k => rfl⟩ P A S L
  rw [hF D tc ad0 (fun k => ad (e k)) s args below (by show ad (e 301) = _; rw [h3]; exact xa.2 150)] at this
  rw [es]
  exact this
end
