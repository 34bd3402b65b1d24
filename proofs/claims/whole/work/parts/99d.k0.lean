/-! ===== what makes cells: new, newarray, anewarray, aastore, Object.<init>, calls of constructors ===== -/
/-- the name lies outside, or belongs to one of the first n cells -/
def zlk (n k : Nat) : Bool := Nat.beq (k % 2) 1 || Nat.ble (k + 1) (2 * n)
def zlow (n : Nat) : Value → Bool
  | .ref k => zlk n k
  | _ => true
def zlowC (n : Nat) : zE → Prop
  | .inl (_, _, .inl _) => True
  | .inl (_, _, .inr g) => ∀ i k, g i = some k → zlk n k = true
  | .inr (_, fs) => fs.all (zlow n) = true
def zlowL (n : Nat) : List zE → Prop
  | [] => True
  | x :: l => zlowC n x ∧ zlowL n l
def zlowW (n : Nat) (hs : List zE) (lv : zL) (st : List Value) : Prop := zlowL n hs ∧ lv.all (fun q => zlow n q.2) = true ∧ st.all (zlow n) = true
theorem zlk_eq {n k : Nat} (h : zlk n k = true) : k % 2 = 1 ∨ k < 2 * n := by
  simp only [zlk, Bool.or_eq_true] at h
  rcases h with h | h
  · exact Or.inl (Nat.eq_of_beq_eq_true h)
  · exact Or.inr (Nat.le_of_ble_eq_true h)
/-- two ways to name that agree on what is low -/
def zagr (n : Nat) (ad ad2 : Nat → Nat) : Prop := ∀ k, (k % 2 = 1 ∨ k < 2 * n) → ad2 k = ad k
section
variable {n : Nat} {ad ad2 : Nat → Nat} {tc : Nat → ClassId}
theorem zrv_low (ha : zagr n ad ad2) : ∀ {v : Value}, zlow n v = true → zrv ad2 v = zrv ad v
  | .ref k, h => by
    show Value.ref (ad2 k) = Value.ref (ad k)
    rw [ha k (zlk_eq h)]
  | .int _, _ => rfl
  | .long _, _ => rfl
  | .null, _ => rfl
  | .float _, _ => rfl
  | .double _, _ => rfl
  | .retAddr _, _ => rfl
theorem zst_low (ha : zagr n ad ad2) : ∀ {st : List Value}, st.all (zlow n) = true → st.map (zrv ad2) = st.map (zrv ad)
  | [], _ => rfl
  | v :: st, h => by
    rw [List.all_cons, Bool.and_eq_true] at h
    rw [List.map_cons, List.map_cons, zrv_low ha h.1, zst_low ha h.2]
theorem zlv_low (ha : zagr n ad ad2) : ∀ {lv : zL}, lv.all (fun q => zlow n q.2) = true → zl ad2 lv = zl ad lv
  | [], _ => rfl
  | v :: lv, h => by
    rw [List.all_cons, Bool.and_eq_true] at h
    show (v.1, zrv ad2 v.2) :: zl ad2 lv = (v.1, zrv ad v.2) :: zl ad lv
    rw [zrv_low ha h.1, zlv_low ha h.2]
theorem zc_low (ha : zagr n ad ad2) : ∀ {x : zE}, zlowC n x → zc tc ad2 x = zc tc ad x
  | .inl (t, N, .inl f), _ => rfl
  | .inl (t, N, .inr g), h => by
    show (Sum.inl (tc t, N, .inr (.inr (.inr (.inr (fun i => (g i).map ad2))))) : va_E) = Sum.inl (tc t, N, .inr (.inr (.inr (.inr (fun i => (g i).map ad)))))
    have : (fun i => (g i).map ad2) = (fun i => (g i).map ad) := by
      funext i
      cases hg : g i with
      | none => rfl
      | some k => simp only [Option.map_some, ha k (zlk_eq (h i k hg))]
    rw [this]
  | .inr (ci, fs), h => by
    show (Sum.inr (ci, fs.map (zrv ad2)) : va_E) = Sum.inr (ci, fs.map (zrv ad))
    rw [zst_low ha h]
theorem zlowL_get : ∀ {hs : List zE} {i : Nat} {x : zE}, zlowL n hs → hs[i]? = some x → zlowC n x
  | _ :: _, 0, _, h, e => by cases e; exact h.1
  | _ :: _, i + 1, _, h, e => zlowL_get (i := i) h.2 e
theorem zw_low (ha : zagr n ad ad2) {hs : List zE} (hn : hs.length = n) (hl : zlowL n hs) : zw tc ad2 hs = zw tc ad hs := by
  apply List.ext_getElem?
  intro i
  cases hx : hs[i]? with
  | none => simp only [zw, List.getElem?_mapIdx, hx, Option.map_none]
  | some x =>
    have hi := (List.getElem?_eq_some_iff.mp hx).1
    rw [zw_get hx, zw_get hx, zc_low ha (zlowL_get hl hx), ha (2 * i) (Or.inr (by omega))]
theorem zw_add (ha : zagr n ad ad2) {hs : List zE} (hn : hs.length = n) (hl : zlowL n hs) {q : Nat} (hq : ad2 (2 * n) = q) {x : zE} {y : va_E} (hy : zc tc ad2 x = y) : zw tc ad hs ++ [(q, y)] = zw tc ad2 (hs ++ [x]) := by
  rw [← zw_low ha hn hl, ← hq, ← hy]
  show _ = (hs ++ [x]).mapIdx _
  rw [List.mapIdx_append]
  simp [zw, hn]
end
theorem nI_nneg {N : Nat} (h : N ≤ 2000) : ¬ nI N < 0 := fun q => (pk_lt (x := nI N) (y := 0) (A := False) (B := True) N 0 (fun q => absurd q (Nat.not_lt_zero N)) (fun _ => trivial) rfl rfl (by omega) (by omega)).1 q
theorem zIA : Cond.arrayClass .int ∈ z_tbl := z_in (List.mem_of_getElem? (i := 66) (by decide +kernel)) rfl
theorem zva_new0 {N : Nat} (cA : ClassId) : vp_cell cA (N, .inl (fun _ => 0)) = arrV cA N (fun _ => defaultValue .int) := rfl
theorem zRA_int {s : State} {a c : ClassId} (h1 : va_RA s a .int) (h2 : va_RA s c .int) : a = c := by
  dsimp only [va_RA] at h1 h2
  exact Option.some.inj (h1.symm.trans h2)
theorem zRA_obj {s : State} {a c : ClassId} {C : String} (h1 : va_RA s a (.object C)) (h2 : va_RA s c (.object C)) : a = c := by
  obtain ⟨kA, comp, -, -, -, k1⟩ := h1
  obtain ⟨kA2, comp2, -, -, -, k0⟩ := h2
  exact Option.some.inj (k1.symm.trans k0)
def ad1 (n q : Nat) (ad : Nat → Nat) : Nat → Nat := fun k => bif Nat.beq k (2 * n) then q else ad k
theorem ad1_agr (n q : Nat) (ad : Nat → Nat) : zagr n ad (ad1 n q ad) := fun k hk => by
  unfold ad1
  cases hb : Nat.beq k (2 * n) with
  | false => rfl
  | true =>
    have := Nat.eq_of_beq_eq_true hb
    omega
theorem ad1_self (n q : Nat) (ad : Nat → Nat) : ad1 n q ad (2 * n) = q := by
  unfold ad1
  rw [Nat.beq_refl]
  rfl
theorem zadx_agr {N n : Nat} {ad0 ad ad2 : Nat → Nat} (hN : N ≤ n) (ha : zagr n ad ad2) (xa : zadx true N ad0 ad) : zadx true N ad0 ad2 := ⟨fun k hk => by rw [ha (2 * k) (Or.inr (by omega))]; exact xa.1 k hk, fun k => by rw [ha (2 * k + 1) (Or.inl (by omega))]; exact xa.2 k⟩
section
variable {l : Launch} {M M' : zM} {hs0 hs wc : List zE} {R : Room} {F : zF} {nc ns pc n N idx nx tg d' mc' ms' : Nat} {T : zT} {lv : zL} {st rest : List Value}
theorem V.newI (hM : zmok M) (hat : zins M pc = some (.newarray .int, nx, tg)) (n N : Nat) (hn : hs.length = n) (h0 : Nat.ble hs0.length n = true) (hN : Nat.ble N 2000 = true) (hR : (Nat.ble (nc + 1) R.cells && Nat.ble (ns + N) R.slots) = true) (hlo : zlowW n hs lv rest) (h : V l M true hs0 R F (nc + 1) (ns + N) nx lv (.ref (2 * n) :: rest) (hs ++ [.inl (0, N, .inl (fun _ => 0))])) : V l M true hs0 R F nc ns pc lv (.int (nI N) :: rest) hs := by
  obtain ⟨hd, e0, -⟩ := zgd_dec (hM.2.1 pc _ hat) (k := 1) rfl
  subst e0
  intro p en s m args below meth c D tc ad0 ad ls H locs X E xa P A S L
  have hA : ∀ q, s.heap.size ≤ q → zA tc ad0 hs0 s q := fun q hq => Or.inr hq
  have hN' := Nat.le_of_ble_eq_true hN
  rw [Bool.and_eq_true] at hR
  refine va_newa X.1 X.2.1 (atype := .int) (X.2.2.2.2.2.1 _ zIA) (ty := .int) rfl X.2.2.2.2.2.2.2.2 P A S hA (N' := N) (a0 := (N, .inl (fun _ => 0))) zva_new0 (nI_nneg hN') (pk_cl (x := nI N) N rfl (by omega)) (by show N * 4 ≤ _; omega) (Nat.le_of_ble_eq_true hR.1) (Nat.le_of_ble_eq_true hR.2) hd (fun q cA H1 K1 P1 A1 S1 => ?_)
  have hc : cA = tc 0 := zRA_int (K1.2 3 (cA, .int) rfl).2 (X.2.2.2.2.2.2.2.2.2 0 (tc 0, .int) rfl).2
  subst hc
  have ha := ad1_agr n q ad
  have e := zw_add (tc := tc) ha hn hlo.1 (ad1_self n q ad) (x := .inl (0, N, .inl (fun _ => 0))) (y := .inl (tc 0, N, .inl (fun _ => 0))) rfl
  rw [e] at P1 A1
  have := h p en s m args below meth c D tc ad0 (ad1 n q ad) ls H1 locs X E (zadx_agr (Nat.le_of_ble_eq_true h0) ha xa) P1 A1 S1 (by rw [zlv_low ha hlo.2.1]; exact L)
  rw [List.map_cons, zst_low ha hlo.2.2] at this
  rw [show zrv (ad1 n q ad) (.ref (2 * n)) = .ref q from congrArg Value.ref (ad1_self n q ad)] at this
  exact this
theorem V.newO (hM : zmok M) {C : String} {T0 : u_T} (hat : zins M pc = some (.new idx, nx, tg)) (ci N : Nat) (fs : List Value) (hc : zcl[ci]? = some (C, T0, N)) (hcl : Cond.classLink (zy M).cls idx C ∈ z_tbl) (hin : Cond.instantiable C N ∈ z_tbl) (hini : Cond.initialized C ∈ z_tbl) (ty : Nat → FieldType) (hty : ∀ k, k < N → parseFieldDescriptor (T0 k).2.2.1 = some (ty k)) (hfs : ∀ j, j < N → defaultValue (ty j) = vp_V fs j) (hfm : ∀ f, fs.map (zrv f) = fs) (n : Nat) (hn : hs.length = n) (h0 : Nat.ble hs0.length n = true) (hR : (Nat.ble (nc + 1) R.cells && Nat.ble (ns + N) R.slots) = true) (hlo : zlowW n hs lv rest) (h : V l M true hs0 R F (nc + 1) (ns + N) nx lv (.ref (2 * n) :: rest) (hs ++ [.inr (ci, fs)])) : V l M true hs0 R F nc ns pc lv rest hs := by
  obtain ⟨hd, e0, -⟩ := zgd_dec (hM.2.1 pc _ hat) (k := 2) rfl
  subst e0
  intro p en s m args below meth c D tc ad0 ad ls H locs X E xa P A S L
  have hA : ∀ q, s.heap.size ≤ q → zA tc ad0 hs0 s q := fun q hq => Or.inr hq
  rw [Bool.and_eq_true] at hR
  refine va_new X.1 X.2.1 (Ts := z_tbl) X.2.2.2.2.2.1 (zcl_all _ _ hc).1 ty hty X.2.2.2.2.1 (X.2.2.2.2.2.1 _ hcl) (X.2.2.2.2.2.1 _ hin) (X.2.2.2.2.2.1 _ hini) X.2.2.2.2.2.2.2.2 P A S hA hc hfs (Nat.le_of_ble_eq_true hR.1) (Nat.le_of_ble_eq_true hR.2) hd (fun q H1 P1 A1 S1 => ?_)
  have ha := ad1_agr n q ad
  have e := zw_add (tc := tc) ha hn hlo.1 (ad1_self n q ad) (x := .inr (ci, fs)) (y := .inr (ci, fs)) (by rw [zc, hfm])
  rw [e] at P1 A1
  have := h p en s m args below meth c D tc ad0 (ad1 n q ad) ls H1 locs X E (zadx_agr (Nat.le_of_ble_eq_true h0) ha xa) P1 A1 S1 (by rw [zlv_low ha hlo.2.1]; exact L)
  rw [List.map_cons, zst_low ha hlo.2.2] at this
  rw [show zrv (ad1 n q ad) (.ref (2 * n)) = .ref q from congrArg Value.ref (ad1_self n q ad)] at this
  exact this
theorem V.newQ (hM : zmok M) {C : String} (hat : zins M pc = some (.anewarray idx, nx, tg)) (t : Nat) (ht : ∀ tc : Nat → ClassId, (zty tc)[t]? = some (tc t, .object C)) (hcl : Cond.classLink (zy M).cls idx C ∈ z_tbl) (hov : Cond.arrayOver (.object C) ∈ ZN) (n N : Nat) (hn : hs.length = n) (h0 : Nat.ble hs0.length n = true) (hN : Nat.ble N 2000 = true) (hR : (Nat.ble (nc + 1) R.cells && Nat.ble (ns + N) R.slots) = true) (hlo : zlowW n hs lv rest) (h : V l M true hs0 R F (nc + 1) (ns + N) nx lv (.ref (2 * n) :: rest) (hs ++ [.inl (t, N, .inr (fun _ => none))])) : V l M true hs0 R F nc ns pc lv (.int (nI N) :: rest) hs := by
  obtain ⟨hd, e0, -⟩ := zgd_dec (hM.2.1 pc _ hat) (k := 2) rfl
  subst e0
  intro p en s m args below meth c D tc ad0 ad ls H locs X E xa P A S L
  have hA : ∀ q, s.heap.size ≤ q → zA tc ad0 hs0 s q := fun q hq => Or.inr hq
  have hN' := Nat.le_of_ble_eq_true hN
  rw [Bool.and_eq_true] at hR
  refine va_newq X.1 X.2.1 X.2.2.2.2.1 (X.2.2.2.2.2.1 _ hcl) (va_AO.of (A := #[]) (E.2.2.2.2.2 _ hov)) X.2.2.2.2.2.2.2.2 P A S hA (N' := N) (nI_nneg hN') (pk_cl (x := nI N) N rfl (by omega)) (by omega) (Nat.le_of_ble_eq_true hR.1) (Nat.le_of_ble_eq_true hR.2) hd (fun q cA H1 K1 P1 A1 S1 => ?_)
  have hc : cA = tc t := zRA_obj (K1.2 3 (cA, .object C) rfl).2 (X.2.2.2.2.2.2.2.2.2 t (tc t, .object C) (ht tc)).2
  subst hc
  have ha := ad1_agr n q ad
  have e := zw_add (tc := tc) ha hn hlo.1 (ad1_self n q ad) (x := .inl (t, N, .inr (fun _ => none))) (y := .inl (tc t, N, .inr (.inr (.inr (.inr (fun _ => none)))))) rfl
  rw [e] at P1 A1
  have := h p en s m args below meth c D tc ad0 (ad1 n q ad) ls H1 locs X E (zadx_agr (Nat.le_of_ble_eq_true h0) ha xa) P1 A1 S1 (by rw [zlv_low ha hlo.2.1]; exact L)
  rw [List.map_cons, zst_low ha hlo.2.2] at this
  rw [show zrv (ad1 n q ad) (.ref (2 * n)) = .ref q from congrArg Value.ref (ad1_self n q ad)] at this
  exact this
theorem V.obj {b : Bool} (hM : zmok M) (hat : zins M pc = some (.invokespecial idx, nx, tg)) (hlk : Cond.methodLink (zy M).cls idx Lib.objectInit ∈ z_tbl) (hW : Nat.ble ((rest.map fun v => v.category).sum) 8 = true) (hR : (Nat.ble 1 R.frames && Nat.ble 20 R.locals) = true) (a : Nat) (h : V l M b hs0 R F nc ns nx lv rest hs) : V l M b hs0 R F nc ns pc lv (.ref a :: rest) hs := by
  obtain ⟨hd, e0, -⟩ := zgd_dec (hM.2.1 pc _ hat) (k := 2) rfl
  subst e0
  intro p en s m args below meth c D tc ad0 ad ls H locs X E xa P A S L
  have hrl : ((rest.map (zrv ad)).map fun v => v.category).sum ≤ 8 := by
    rw [List.map_map, show ((fun v => v.category) ∘ zrv ad) = (fun v : Value => v.category) from funext (fun v => zrv_cat ad v)]
    exact Nat.le_of_ble_eq_true hW
  rw [Bool.and_eq_true] at hR
  have h20 := Nat.le_of_ble_eq_true hR.2
  have hrm := lv_room (m := m) (pc := pc) (ls := ls) (rest := .ref (ad a) :: rest.map (zrv ad)) hrl
  exact W.objInit (g := F0 m pc ls (.ref (ad a) :: rest.map (zrv ad))) X.1 X.2.1 X.2.2.2.2.1 (X.2.2.2.2.2.1 _ hlk) (X.2.2.2.2.2.1 _ (z_in (List.mem_of_getElem? (i := 22) (by decide +kernel)) rfl)) (X.2.2.2.2.2.1 _ (z_in (List.mem_of_getElem? (i := 23) (by decide +kernel)) rfl)) rfl (L.1.trans X.2.2.2.1.symm) rfl hd (Nat.le_of_ble_eq_true hR.1) (by omega) (h p en s m args below meth c D tc ad0 ad ls H locs X E xa P A S L)
end
