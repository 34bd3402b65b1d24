/-! ===== a callee that is given the whole world ===== -/
theorem ze_id (n : Nat) : ze n (List.range n) (fun k => k) = fun k => k := by
  funext k
  unfold ze
  cases hb : Nat.beq (k % 2) 0 with
  | false => rfl
  | true =>
    have h0 : k % 2 = 0 := Nat.eq_of_beq_eq_true hb
    by_cases hk : k / 2 < n
    · rw [List.getElem?_eq_getElem (by rw [List.length_range]; exact hk)]
      simp only [List.getElem_range, cond_true]
      omega
    · rw [List.getElem?_eq_none (by rw [List.length_range]; omega), List.length_range]
      simp only [cond_true]
      omega
theorem zrv_id (v : Value) : zrv (fun k => k) v = v := by cases v <;> rfl
theorem zrv_ids (l : List Value) : l.map (zrv (fun k => k)) = l := by
  rw [show zrv (fun k => k) = id from funext zrv_id, List.map_id]
theorem zrc_id (x : zE) : zrc (fun k => k) x = x := by
  rcases x with ⟨t, n, f | g⟩ | ⟨ci, fs⟩
  · rfl
  · simp only [zrc]
    congr 4
    funext i
    cases g i <;> rfl
  · simp only [zrc, zrv_ids]
theorem zrc_ids (l : List zE) : l.map (zrc (fun k => k)) = l := by
  rw [show zrc (fun k => k) = id from funext zrc_id, List.map_id]
theorem znd_of : ∀ {l : List Nat}, l.Nodup → va_nd l = true
  | [], _ => rfl
  | a :: l, h => by
    rw [List.nodup_cons] at h
    simp only [va_nd, Bool.and_eq_true, decide_eq_true_eq]
    exact ⟨h.1, znd_of h.2⟩
theorem zput_all {hs xs : List zE} (h : xs.length = hs.length) : zput hs (List.range hs.length) xs = xs := by
  apply List.ext_getElem?
  intro k
  by_cases hk : k < hs.length
  · rw [zput_in (List.range hs.length) hs xs k k xs[k] (znd_of List.nodup_range) (by rw [List.getElem?_eq_getElem (by rw [List.length_range]; exact hk), List.getElem_range]) (List.getElem?_eq_getElem (by omega)) hk]
    rw [List.getElem?_eq_getElem (by omega)]
  · rw [List.getElem?_eq_none (by rw [zput_len]; omega), List.getElem?_eq_none (by omega)]
theorem zcs_all (hs : List zE) : (List.range hs.length).map (fun i => hs[i]?) = hs.map (fun x => some x) := by
  apply List.ext_getElem?
  intro k
  rw [List.getElem?_map, List.getElem?_map]
  by_cases hk : k < hs.length
  · rw [List.getElem?_eq_getElem (by rw [List.length_range]; exact hk), List.getElem?_eq_getElem hk]
    simp [hk]
  · rw [List.getElem?_eq_none (by rw [List.length_range]; omega), List.getElem?_eq_none (by omega)]
    rfl
section ZWW
variable {l : Launch} {M M' : zM} {b : Bool} {hs0 hs : List zE} {R : Room} {F : zF} {nc ns pc n idx nx tg d' mc' ms' : Nat} {T : zT} {lv : zL} {st : List Value}
theorem V.callVW (hM : zmok M) (hat : zins M pc = some (.invokevirtual idx, nx, tg)) (hlk : zlV (zy M).cls idx M' n) (hC : Ct l M' false d' mc' ms' T) (hR : (Nat.ble (d' + 1) R.frames && Nat.ble (8 + (zmax M' + 11) + 48 * d') R.locals && (Nat.ble (nc + mc') R.cells && Nat.ble (ns + ms') R.slots)) = true) (argsC rest : List Value) (Q : Option Value → List zE → Prop) (hn : argsC.length = n + 1) (j ci : Nat) {q : vw_C} {fs : List Value} (hj : argsC.head? = some (.ref (2 * j))) (hz : hs[j]? = some (.inr (ci, fs))) (hq : zcl[ci]? = some q) (hqc : q.1 = (zy M').cls) (hst : st = argsC.reverse ++ rest) (hW : Nat.ble ((rest.map fun v => v.category).sum) 8 = true) (hT : T argsC hs Q) (hQ : ∀ v hs', Q v hs' → hs'.length = hs.length ∧ V l M b hs0 R F (nc + mc') (ns + ms') nx lv (v.toList ++ rest) hs') : V l M b hs0 R F nc ns pc lv st hs := by
  have e := ze_id hs.length
  refine V.callV hM hat hlk hC hR (fun k => k) (fun _ _ => rfl) (List.range hs.length) hs argsC rest Q hn j ci hj hz hq hqc ?_ hW (znd_of List.nodup_range) ?_ hT (fun v hs' h => ?_)
  · rw [e, zrv_ids]; exact hst
  · rw [e]
    simp only [zrc_id]
    exact zcs_all hs
  · obtain ⟨h1, h2⟩ := hQ v hs' h
    refine ⟨h1, ?_⟩
    rw [e, zrc_ids, zput_all h1]
    cases v with
    | none => exact h2
    | some v => simp only [Option.map_some, zrv_id]; exact h2
theorem V.callS0 (hM : zmok M) (hat : zins M pc = some (.invokestatic idx, nx, tg)) (hlk : zlS (zy M).cls idx M' n) (hC : Ct l M' false d' mc' ms' T) (hR : (Nat.ble (d' + 1) R.frames && Nat.ble (8 + (zmax M' + 11) + 48 * d') R.locals && (Nat.ble (nc + mc') R.cells && Nat.ble (ns + ms') R.slots)) = true) (argsC rest : List Value) (Q : Option Value → List zE → Prop) (hn : argsC.length = n) (hst : st = ((argsC.map (zrv (ze hs.length [] (fun k => k)))).reverse) ++ rest) (hW : Nat.ble ((rest.map fun v => v.category).sum) 8 = true) (hT : T argsC [] Q) (hQ : ∀ v wc', Q v wc' → wc'.length = 0 ∧ V l M b hs0 R F (nc + mc') (ns + ms') nx lv ((v.map (zrv (ze hs.length [] (fun k => k)))).toList ++ rest) hs) : V l M b hs0 R F nc ns pc lv st hs :=
  V.callS hM hat hlk hC hR (fun k => k) (fun _ _ => rfl) [] [] argsC rest Q hn hst hW rfl rfl hT hQ
theorem V.callSN0 (hM : zmok M) (hat : zins M pc = some (.invokestatic idx, nx, tg)) (hlk : zlSN (zy M).cls idx M' n) (hC : Ct l M' false d' mc' ms' T) (hR : (Nat.ble (d' + 1) R.frames && Nat.ble (8 + (zmax M' + 11) + 48 * d') R.locals && (Nat.ble (nc + mc') R.cells && Nat.ble (ns + ms') R.slots)) = true) (argsC rest : List Value) (Q : Option Value → List zE → Prop) (hn : argsC.length = n) (hst : st = ((argsC.map (zrv (ze hs.length [] (fun k => k)))).reverse) ++ rest) (hW : Nat.ble ((rest.map fun v => v.category).sum) 8 = true) (hT : T argsC [] Q) (hQ : ∀ v wc', Q v wc' → wc'.length = 0 ∧ V l M b hs0 R F (nc + mc') (ns + ms') nx lv ((v.map (zrv (ze hs.length [] (fun k => k)))).toList ++ rest) hs) : V l M b hs0 R F nc ns pc lv st hs :=
  V.callSN hM hat hlk hC hR (fun k => k) (fun _ _ => rfl) [] [] argsC rest Q hn hst hW rfl rfl hT hQ
end ZWW
