/-! ===== Arrays.copyOf (that "[I" is cloneable: a premise still, see the notes) ===== -/
section
variable {l : Launch} {M M' : zM} {hs0 hs wc : List zE} {R : Room} {F : zF} {nc ns pc n N idx nx tg d' mc' ms' : Nat} {T : zT} {lv : zL} {st rest : List Value}
theorem zIname {s : State} {c : ClassId} (h : va_RA s c .int) : s.vm.findClass "[I" = some c := by
  dsimp only [va_RA] at h
  rwa [show "[" ++ FieldType.int.toString = "[I" from by decide] at h
theorem zIfit (cA : ClassId) (N : Nat) (f : fI) (i : Nat) (v : Value) (h : (vp_cell cA (N, .inl f)).slots[i]? = some v) : fits .int v = true := by
  have h : (Array.ofFn (n := N) fun j => Value.int (f j.val))[i]? = some v := h
  rw [Array.getElem?_ofFn] at h
  split at h
  · cases h; rfl
  · cases h
theorem V.clone (hM : zmok M) (hat : zins M pc = some (.invokevirtual idx, nx, tg)) (hcast : Cond.castable "[I" "java/lang/Cloneable" ∈ ZN) (hl : Cond.methodLink (zy M).cls idx ⟨"[I", "clone", "()Ljava/lang/Object;"⟩ ∈ z_tbl) (n : Nat) (hn : hs.length = n) (h0 : Nat.ble hs0.length n = true) (q0 : Nat) {f : fI} (ha : hs[q0]? = some (.inl (0, N, .inl f))) (hW : Nat.ble ((rest.map fun v => v.category).sum) 8 = true) (hRf : (Nat.ble 1 R.frames && Nat.ble 24 R.locals) = true) (hR : (Nat.ble (nc + 1) R.cells && Nat.ble (ns + N) R.slots) = true) (hlo : zlowW n hs lv rest) (h : V l M true hs0 R F (nc + 1) (ns + N) nx lv (.ref (2 * n) :: rest) (hs ++ [.inl (0, N, .inl f)])) : V l M true hs0 R F nc ns pc lv (.ref (2 * q0) :: rest) hs := by
  obtain ⟨hd, e0, -⟩ := zgd_dec (hM.2.1 pc _ hat) (k := 2) rfl
  subst e0
  intro p en s m args below meth c D tc ad0 ad ls H locs X E xa P A S L
  have hA : ∀ q, s.heap.size ≤ q → zA tc ad0 hs0 s q := fun q hq => Or.inr hq
  have hrl : ((rest.map (zrv ad)).map fun v => v.category).sum ≤ 8 := by
    rw [List.map_map, show ((fun v => v.category) ∘ zrv ad) = (fun v : Value => v.category) from funext (fun v => zrv_cat ad v)]
    exact Nat.le_of_ble_eq_true hW
  rw [Bool.and_eq_true] at hR hRf
  have h24 := Nat.le_of_ble_eq_true hRf.2
  have hnm := zIname (X.2.2.2.2.2.2.2.2.2 0 (tc 0, .int) rfl).2
  have zi2 : ∀ {i : Nat} {w : Cond}, tables_1[i]? = some w → goodWord w = true → w.before args s = true := fun hi hg => X.2.2.2.2.2.1 _ (z_in (List.mem_of_getElem? hi) hg)
  refine va_clone X.1 X.2.1 (X.2.2.2.1.trans L.1.symm) X.2.2.2.2.1 (X.2.2.2.2.2.1 _ hl) (zi2 (i := 318) (by decide +kernel) rfl) (zi2 (i := 319) (by decide +kernel) rfl) (zi2 (i := 320) (by decide +kernel) rfl) (zi2 (i := 321) (by decide +kernel) rfl) (E.2.2.2.2.2 _ hcast) X.2.2.2.2.2.2.2.2 P A S hA q0 0 (x := (N, .inl f)) (ty := .int) (zw_get ha) (zty_get0 tc) hnm (zIfit _ N f) (Nat.le_of_ble_eq_true hRf.1) (by omega) (Nat.le_of_ble_eq_true hR.1) (Nat.le_of_ble_eq_true hR.2) hd (fun q H1 K1 P1 A1 S1 => ?_)
  have hag := ad1_agr n q ad
  have e := zw_add (tc := tc) hag hn hlo.1 (ad1_self n q ad) (x := .inl (0, N, .inl f)) (y := .inl (tc 0, N, .inl f)) rfl
  rw [e] at P1 A1
  have := h p en s m args below meth c D tc ad0 (ad1 n q ad) ls H1 locs X E (zadx_agr (Nat.le_of_ble_eq_true h0) hag xa) P1 A1 S1 (by rw [zlv_low hag hlo.2.1]; exact L)
  rw [List.map_cons, zst_low hag hlo.2.2] at this
  rw [show zrv (ad1 n q ad) (.ref (2 * n)) = .ref q from congrArg Value.ref (ad1_self n q ad)] at this
  exact this
theorem V.castI {b : Bool} (hd : decode (zcode M) pc = .ok (.checkcast idx, 3)) (hl : Cond.classLink (zy M).cls idx "[I" ∈ z_tbl) (q0 : Nat) {f : fI} (ha : hs[q0]? = some (.inl (0, N, .inl f))) (h : V l M b hs0 R F nc ns (pc + 3) lv (.ref (2 * q0) :: rest) hs) : V l M b hs0 R F nc ns pc lv (.ref (2 * q0) :: rest) hs := by
  intro p en s m args below meth c D tc ad0 ad ls H locs X E xa P A S L
  exact va_castA X.1 X.2.1 X.2.2.2.2.1 (X.2.2.2.2.2.1 _ hl) P q0 (zw_get ha) (zIname (X.2.2.2.2.2.2.2.2.2 0 (tc 0, .int) rfl).2) hd (h p en s m args below meth c D tc ad0 ad ls H locs X E xa P A S L)
end
theorem lJ7_316 : Cond.methodLink RJ7 316 ⟨"[I", "clone", "()Ljava/lang/Object;"⟩ ∈ z_tbl := z_in (List.mem_of_getElem? (i := 317) (by decide +kernel)) rfl
theorem lJ7_317 : Cond.classLink RJ7 317 "[I" ∈ z_tbl := z_in (List.mem_of_getElem? (i := 323) (by decide +kernel)) rfl
theorem lJ7_304 : zmth RJ7 304 Lib.Math.min.name Lib.Math.min.code 2 := ⟨z_in (List.mem_of_getElem? (i := 324) (by decide +kernel)) rfl, z_in (List.mem_of_getElem? (i := 325) (by decide +kernel)) rfl, z_in (List.mem_of_getElem? (i := 11) (by decide +kernel)) rfl, z_in (List.mem_of_getElem? (i := 326) (by decide +kernel)) rfl⟩
theorem cJ7c (l : Launch) (hcast : Cond.castable "[I" "java/lang/Cloneable" ∈ ZN) : Ct l mJ7c true 2 1 160 T_copyOf := by
  refine Ct.intro mJ7c_ok ?_
  rintro args hs Q ⟨f, n, m, hmn, hn, rfl, rfl, h⟩
  refine ⟨Nat.le_of_ble_eq_true rfl, ?_⟩
  refine V.g 4 [6, 14] mJ7c_ok rfl ?_
  refine zp_ne m n (fun e1 => ?_) (fun e1 => ?_) rfl rfl (by omega) (by omega)
  case refine_2 =>
    subst e1
    refine V.g 1 [7] mJ7c_ok rfl ?_
    refine V.nm [(0, .ref 0), (1, .int (nI m))] [.ref (2 * 0)] [.inl (0, m, .inl f)] rfl rfl rfl ?_
    refine V.clone mJ7c_ok rfl hcast lJ7_316 1 rfl rfl 0 rfl rfl rfl (by rw [Bool.and_eq_true]; exact ⟨rfl, Nat.ble_eq_true_of_le (by show 0 + m ≤ 160; omega)⟩) (zlowW_of rfl) ?_
    refine V.wide (nc2 := 1) (ns2 := 160) (by decide) (by omega) ?_
    refine V.nm [(0, .ref 0), (1, .int (nI m))] [.ref (2 * 1)] [.inl (0, m, .inl f), .inl (0, m, .inl f)] rfl rfl rfl ?_
    refine V.castI (idx := 317) (by decide +kernel) lJ7_317 1 rfl ?_
    exact V.g 1 [] mJ7c_ok rfl ⟨_, zsim_rfl _, h⟩
  refine V.nm [(0, .ref 0), (1, .int (nI m))] [] [.inl (0, n, .inl f)] rfl rfl rfl ?_
  refine V.g 1 [] mJ7c_ok rfl ?_
  refine V.newI mJ7c_ok rfl 1 m rfl rfl (Nat.ble_eq_true_of_le (by omega)) (by rw [Bool.and_eq_true]; exact ⟨rfl, Nat.ble_eq_true_of_le (by show 0 + m ≤ 160; omega)⟩) (zlowW_of rfl) ?_
  refine V.wide (nc2 := 1) (ns2 := 160) (by decide) (by omega) ?_
  refine V.nm [(0, .ref 0), (1, .int (nI m))] [.ref 2] [.inl (0, n, .inl f), .inl (0, m, .inl fz)] rfl rfl rfl ?_
  refine V.g 9 [25] mJ7c_ok rfl ?_
  refine V.nm [(2, .ref 2), (0, .ref 0), (1, .int (nI m))] [.int (nI m), .int (nI n), .int (nI 0), .ref (2 * 1), .int (nI 0), .ref (2 * 0)] [.inl (0, n, .inl f), .inl (0, m, .inl fz)] rfl rfl rfl ?_
  refine V.mmin mJ7c_ok rfl lJ7_304 rfl rfl ?_
  have hmin : (if nI m < nI n then nI m else nI n) = nI m := by
    by_cases q : nI m < nI n
    · rw [if_pos q]
    · rw [if_neg q]
      have := pk_lt (x := nI m) (y := nI n) (A := True) (B := n ≤ m) m n (fun _ => trivial) (fun z => z) rfl rfl (by omega) (by omega)
      rw [show n = m from Nat.le_antisymm (this.2 q) hmn]
  rw [hmin]
  refine V.acopy mJ7c_ok rfl lJ7_150 rfl rfl 0 1 rfl rfl (by decide) (by decide) (nI_nneg (by omega)) (by rw [pk_cl (x := nI m) m rfl (by omega), pk_cl (x := nI 0) 0 rfl (by omega)]; omega) (by rw [pk_cl (x := nI m) m rfl (by omega), pk_cl (x := nI 0) 0 rfl (by omega)]; omega) ?_
  refine V.g 2 [] mJ7c_ok rfl ?_
  exact ⟨_, zsim_c (zsm_rfl _) (zsim_c (zsm_i (zcpy_full (N := m) (by omega))) (zsim_rfl _)), h⟩
