/-! ===== rows of ints that are alike within their size; JDK's max, min, abs, arraycopy ===== -/
def zsm (x y : zE) : Prop := x = y ∨ ∃ (t n : Nat) (f g : Nat → Int32), x = .inl (t, n, .inl f) ∧ y = .inl (t, n, .inl g) ∧ ∀ i, i < n → f i = g i
theorem zsm_rfl (x : zE) : zsm x x := Or.inl rfl
theorem zsm_i {t n : Nat} {f g : Nat → Int32} (h : ∀ i, i < n → f i = g i) : zsm (.inl (t, n, .inl f)) (.inl (t, n, .inl g)) := Or.inr ⟨t, n, f, g, rfl, rfl, h⟩
def zsim : List zE → List zE → Prop
  | [], y => y = []
  | x :: l, y => ∃ z l', y = z :: l' ∧ zsm x z ∧ zsim l l'
theorem zsim_rfl : ∀ l : List zE, zsim l l
  | [] => rfl
  | x :: l => ⟨x, l, rfl, zsm_rfl x, zsim_rfl l⟩
theorem zsim_c {x y : zE} {l l' : List zE} (h : zsm x y) (h2 : zsim l l') : zsim (x :: l) (y :: l') := ⟨y, l', rfl, h, h2⟩
theorem zsim_e {x : zE} {l l' : List zE} (h2 : zsim l l') : zsim (x :: l) (x :: l') := ⟨x, l', rfl, zsm_rfl x, h2⟩
theorem zsim_len : ∀ {l l' : List zE}, zsim l l' → l'.length = l.length
  | [], _, h => by rw [show _ = [] from h]
  | x :: l, _, ⟨z, l', e, _, h⟩ => by rw [e, List.length_cons, List.length_cons, zsim_len h]
theorem zsim_get : ∀ {l l' : List zE} {k : Nat} {y : zE}, zsim l l' → l'[k]? = some y → ∃ x, l[k]? = some x ∧ zsm x y
  | [], _, k, y, h, hk => by rw [show _ = [] from h] at hk; cases hk
  | x :: l, _, 0, y, ⟨z, l', e, h1, h⟩, hk => by subst e; cases hk; exact ⟨x, rfl, h1⟩
  | x :: l, _, k + 1, y, ⟨z, l', e, h1, h⟩, hk => by subst e; exact zsim_get (k := k) h hk
theorem zsm_at {D : va_G} {tc : Nat → ClassId} {ad : Nat → Nat} {a : Nat} {x y : zE} {H : Heap} (h : zsm x y) (hp : va_at D zcl (a, zc tc ad x) H) : va_at D zcl (a, zc tc ad y) H := by
  rcases h with rfl | ⟨t, n, f, g, rfl, rfl, h⟩
  · exact hp
  · have hp1 : H[a]? = some (vp_cell (tc t) (n, .inl f)) := hp
    show H[a]? = some (vp_cell (tc t) (n, .inl g))
    have e : (Array.ofFn (n := n) fun j => (Value.int (f j.val))) = Array.ofFn (n := n) fun j => .int (g j.val) := congrArg Array.ofFn (funext fun j => by rw [h j.val j.isLt])
    rw [hp1, vp_cell_i, vp_cell_i, arrV, arrV, e]
theorem zsim_P {D : va_G} {tc : Nat → ClassId} {ad : Nat → Nat} {hs hs' : List zE} {H : Heap} (h : zsim hs hs') (hp : va_P D zcl (zw tc ad hs) H) : va_P D zcl (zw tc ad hs') H := by
  intro k q hq
  obtain ⟨y, hy, rfl⟩ := zw_inv hq
  obtain ⟨x, hx, hxy⟩ := zsim_get h hy
  exact zsm_at hxy (hp k _ (zw_get hx))
section ZSIM
variable {l : Launch} {M : zM} {b : Bool} {hs0 hs hs' : List zE} {R : Room} {F : zF} {nc ns pc idx nx tg : Nat} {lv : zL} {st rest : List Value}
theorem V.sim (h : zsim hs hs') (hv : V l M b hs0 R F nc ns pc lv st hs') : V l M b hs0 R F nc ns pc lv st hs :=
  fun p e s m args below meth c D tc ad0 ad ls H locs X E xa P A S L => hv p e s m args below meth c D tc ad0 ad ls H locs X E xa (zsim_P h P) (zD_same (zsim_len h) A) S L
def zmth (own : String) (idx : Nat) (nm : MethodName) (cd : ByteArray) (n : Nat) : Prop := Cond.methodLink own idx nm ∈ z_tbl ∧ Cond.static nm ∈ z_tbl ∧ Cond.initialized "java/lang/Math" ∈ z_tbl ∧ Cond.code nm cd n (some .int) ∈ z_tbl
theorem V.mmax (hM : zmok M) (hat : zins M pc = some (.invokestatic idx, nx, tg)) (hl : zmth (zy M).cls idx Lib.Math.max.name Lib.Math.max.code 2) (hR : (Nat.ble 1 R.frames && Nat.ble 21 R.locals && (Nat.ble nc R.cells && Nat.ble ns R.slots)) = true) (hW : Nat.ble ((rest.map fun v => v.category).sum) 8 = true) {x y : Int32} (h : V l M b hs0 R F nc ns nx lv (.int (if x < y then y else x) :: rest) hs) : V l M b hs0 R F nc ns pc lv (.int y :: .int x :: rest) hs := by
  obtain ⟨hd, e0, -⟩ := zgd_dec (hM.2.1 pc _ hat) (k := 2) rfl
  subst e0
  intro p en s m args below meth c D tc ad0 ad ls H locs X E xa P A S L
  simp only [Bool.and_eq_true] at hR
  have h1 := Nat.le_of_ble_eq_true hR.1.1
  have h2 := Nat.le_of_ble_eq_true hR.1.2
  have h3 : ((rest.map (zrv ad)).map fun v => v.category).sum ≤ 8 := by
    rw [List.map_map, show ((fun v => v.category) ∘ zrv ad) = (fun v : Value => v.category) from funext (fun v => zrv_cat ad v)]
    exact Nat.le_of_ble_eq_true hW
  exact va_mmax X.1 X.2.1 (X.2.2.2.1.trans L.1.symm) X.2.2.2.2.1 (zwords X hl.1) (zwords X hl.2.1) (zwords X hl.2.2.1) (zwords X hl.2.2.2) h1 (by omega) (Nat.le_of_ble_eq_true hR.2.1) (Nat.le_of_ble_eq_true hR.2.2) hd (h p en s m args below meth c D tc ad0 ad ls H locs X E xa P A S L)
theorem V.mmin (hM : zmok M) (hat : zins M pc = some (.invokestatic idx, nx, tg)) (hl : zmth (zy M).cls idx Lib.Math.min.name Lib.Math.min.code 2) (hR : (Nat.ble 1 R.frames && Nat.ble 21 R.locals && (Nat.ble nc R.cells && Nat.ble ns R.slots)) = true) (hW : Nat.ble ((rest.map fun v => v.category).sum) 8 = true) {x y : Int32} (h : V l M b hs0 R F nc ns nx lv (.int (if y < x then y else x) :: rest) hs) : V l M b hs0 R F nc ns pc lv (.int y :: .int x :: rest) hs := by
  obtain ⟨hd, e0, -⟩ := zgd_dec (hM.2.1 pc _ hat) (k := 2) rfl
  subst e0
  intro p en s m args below meth c D tc ad0 ad ls H locs X E xa P A S L
  simp only [Bool.and_eq_true] at hR
  have h1 := Nat.le_of_ble_eq_true hR.1.1
  have h2 := Nat.le_of_ble_eq_true hR.1.2
  have h3 : ((rest.map (zrv ad)).map fun v => v.category).sum ≤ 8 := by
    rw [List.map_map, show ((fun v => v.category) ∘ zrv ad) = (fun v : Value => v.category) from funext (fun v => zrv_cat ad v)]
    exact Nat.le_of_ble_eq_true hW
  exact va_mmin X.1 X.2.1 (X.2.2.2.1.trans L.1.symm) X.2.2.2.2.1 (zwords X hl.1) (zwords X hl.2.1) (zwords X hl.2.2.1) (zwords X hl.2.2.2) h1 (by omega) (Nat.le_of_ble_eq_true hR.2.1) (Nat.le_of_ble_eq_true hR.2.2) hd (h p en s m args below meth c D tc ad0 ad ls H locs X E xa P A S L)
theorem V.mabs (hM : zmok M) (hat : zins M pc = some (.invokestatic idx, nx, tg)) (hl : zmth (zy M).cls idx Lib.Math.abs.name Lib.Math.abs.code 1) (hR : (Nat.ble 1 R.frames && Nat.ble 21 R.locals && (Nat.ble nc R.cells && Nat.ble ns R.slots)) = true) (hW : Nat.ble ((rest.map fun v => v.category).sum) 8 = true) {x : Int32} (h : V l M b hs0 R F nc ns nx lv (.int (if 0 ≤ x then x else 0 - x) :: rest) hs) : V l M b hs0 R F nc ns pc lv (.int x :: rest) hs := by
  obtain ⟨hd, e0, -⟩ := zgd_dec (hM.2.1 pc _ hat) (k := 2) rfl
  subst e0
  intro p en s m args below meth c D tc ad0 ad ls H locs X E xa P A S L
  simp only [Bool.and_eq_true] at hR
  have h1 := Nat.le_of_ble_eq_true hR.1.1
  have h2 := Nat.le_of_ble_eq_true hR.1.2
  have h3 : ((rest.map (zrv ad)).map fun v => v.category).sum ≤ 8 := by
    rw [List.map_map, show ((fun v => v.category) ∘ zrv ad) = (fun v : Value => v.category) from funext (fun v => zrv_cat ad v)]
    exact Nat.le_of_ble_eq_true hW
  exact va_mabs X.1 X.2.1 (X.2.2.2.1.trans L.1.symm) X.2.2.2.2.1 (zwords X hl.1) (zwords X hl.2.1) (zwords X hl.2.2.1) (zwords X hl.2.2.2) h1 (by omega) (Nat.le_of_ble_eq_true hR.2.1) (Nat.le_of_ble_eq_true hR.2.2) hd (h p en s m args below meth c D tc ad0 ad ls H locs X E xa P A S L)
def zacl (own : String) (idx : Nat) : Prop := Cond.methodLink own idx arraycopyName ∈ z_tbl ∧ Cond.native arraycopyName ∈ z_tbl ∧ Cond.static arraycopyName ∈ z_tbl ∧ Cond.initialized "java/lang/System" ∈ z_tbl
theorem V.acopy (hM : zmok M) (hat : zins M pc = some (.invokestatic idx, nx, tg)) (hl : zacl (zy M).cls idx) (hR : (Nat.ble 1 R.frames && Nat.ble 48 R.locals) = true) (hW : Nat.ble ((rest.map fun v => v.category).sum) 8 = true) (q0 q1 : Nat) {n0 n1 : Nat} {f g : Nat → Int32} (h0 : hs[q0]? = some (.inl (0, n0, .inl f))) (h1 : hs[q1]? = some (.inl (0, n1, .inl g))) {sp dp n : Int32} (k1 : ¬ sp < 0) (k2 : ¬ dp < 0) (k3 : ¬ n < 0) (k4 : sp.toNatClampNeg + n.toNatClampNeg ≤ n0) (k5 : dp.toNatClampNeg + n.toNatClampNeg ≤ n1) (h : V l M b hs0 R F nc ns nx lv rest (hs.set q1 (.inl (0, n1, .inl (va_cpy f g sp.toNatClampNeg dp.toNatClampNeg n.toNatClampNeg))))) : V l M b hs0 R F nc ns pc lv (.int n :: .int dp :: .ref (2 * q1) :: .int sp :: .ref (2 * q0) :: rest) hs := by
  obtain ⟨hd, e0, -⟩ := zgd_dec (hM.2.1 pc _ hat) (k := 2) rfl
  subst e0
  intro p en s m args below meth c D tc ad0 ad ls H locs X E xa P A S L
  simp only [Bool.and_eq_true] at hR
  have j1 := Nat.le_of_ble_eq_true hR.1
  have j2 := Nat.le_of_ble_eq_true hR.2
  have j3 : ((rest.map (zrv ad)).map fun v => v.category).sum ≤ 8 := by
    rw [List.map_map, show ((fun v => v.category) ∘ zrv ad) = (fun v : Value => v.category) from funext (fun v => zrv_cat ad v)]
    exact Nat.le_of_ble_eq_true hW
  have j4 : nativeFrameWords "java/lang/System" "arraycopy" 5 + 11 ≤ 40 := by decide +kernel
  refine va_copyi X.1 X.2.1 (X.2.2.2.1.trans L.1.symm) X.2.2.2.2.1 (zwords X hl.1) (zwords X hl.2.1) (zwords X hl.2.2.1) (zwords X hl.2.2.2) X.2.2.2.2.2.2.2.2 P A S q0 q1 0 0 (zw_get h0) (zw_get h1) (zty_get0 tc) (zty_get0 tc) rfl k1 k2 k3 k4 k5 (fun i _ => rfl) j1 (by omega) hd (fun H1 locs1 P1 A1 S1 => ?_)
  have ew := zw_set (tc := tc) (ad := ad) (hs := hs) (i := q1) (x := .inl (0, n1, .inl (va_cpy f g sp.toNatClampNeg dp.toNatClampNeg n.toNatClampNeg)))
  rw [show zc tc ad (.inl (0, n1, .inl (va_cpy f g sp.toNatClampNeg dp.toNatClampNeg n.toNatClampNeg))) = .inl (tc 0, n1, .inl (va_cpy f g sp.toNatClampNeg dp.toNatClampNeg n.toNatClampNeg)) from rfl] at ew
  rw [ew] at P1 A1
  exact h p en s m args below meth c D tc ad0 ad ls H1 locs1 X E xa P1 A1 S1 L
end ZSIM
