/-! ===== steps with numbers; calls with what follows as their answer; the reference's world ===== -/
def upa (f : Nat → fI) (k : Nat) (x : fI) : Nat → fI := fun j => bif Nat.beq j k then x else f j
def upf (f : Nat → Int32) (k : Nat) (x : Int32) : Nat → Int32 := fun j => bif Nat.beq j k then x else f j
section
variable {x y : Int32} {a b : Nat}
theorem nadd (hx : x = nI a) (hy : y = nI b) : x + y = nI (a + b) := by rw [hx, hy, nI_add]
theorem nmul (hx : x = nI a) (hy : y = nI b) : x * y = nI (a * b) := by rw [hx, hy]; exact pk_mul a b
theorem nsub (h : b ≤ a) (hx : x = nI a) (hy : y = nI b) : x - y = nI (a - b) := by rw [hx, hy]; exact pk_sub h
theorem ninc (hx : x = nI a) : x + zi 1 = nI (a + 1) := by rw [hx]; exact nI_1 a
theorem ndec (h : 1 ≤ a) (hx : x = nI a) : x + zi (-1) = nI (a - 1) := by
  obtain ⟨c, rfl⟩ : ∃ c, a = c + 1 := ⟨a - 1, by omega⟩
  rw [hx]; exact pk_m1 _
theorem ndiv (hx : x = nI a) (hy : y = nI b) (h1 : a < 2 ^ 31) (h2 : 0 < b) (h3 : b < 2 ^ 31) : x / y = nI (a / b) := by rw [hx, hy]; exact pk_div h1 h2 h3
theorem nrem (hx : x = nI a) (hy : y = nI b) (h1 : a < 2 ^ 31) (h2 : 0 < b) (h3 : b < 2 ^ 31) : x - x / y * y = nI (a % b) := by rw [hx, hy]; exact pk_rem h1 h2 h3
end
def zstep2 (M : zM) (Rt : Option Value → List zE → Prop) (K Lf : zK) (i : zI) (pc : Nat) (lv : zL) (st : List Value) (hs : List zE) : Prop := match i.1 with
  | .iaload => match st with
    | .int j :: .ref a :: r => match zat hs a with
      | some (.inl (0, n, .inl f)) => ∃ q : Nat, q < n ∧ j = nI q ∧ Nat.ble n 1000000 = true ∧ K i.2.1 lv (.int (f q) :: r) hs
      | _ => False
    | _ => False
  | .iastore => match st with
    | .int x :: .int j :: .ref a :: r => match zat hs a with
      | some (.inl (0, n, .inl f)) => ∃ q : Nat, q < n ∧ j = nI q ∧ Nat.ble n 1000000 = true ∧ K i.2.1 lv r (hs.set (a / 2) (.inl (0, n, .inl (upd f q x))))
      | _ => False
    | _ => False
  | _ => zstep M Rt K Lf i pc lv st hs
theorem zstep2_1 {M : zM} {Rt : Option Value → List zE → Prop} {K Lf : zK} {i : zI} {pc : Nat} {lv : zL} {st : List Value} {hs : List zE} (h : zstep2 M Rt K Lf i pc lv st hs) : zstep M Rt K Lf i pc lv st hs := by
  obtain ⟨i, nx, tg⟩ := i
  cases i
  case iaload =>
    simp only [zstep2] at h
    split at h
    · rename_i j a r
      split at h
      · rename_i n f hz
        obtain ⟨q, h1, h2, h3, h4⟩ := h
        have h5 := Nat.le_of_ble_eq_true h3
        simp only [zstep, hz]
        exact ⟨pk_in q n h1 h2, by rw [pk_cl q h2 (by omega)]; exact h4⟩
      · exact h.elim
    · exact h.elim
  case iastore =>
    simp only [zstep2] at h
    split at h
    · rename_i x j a r
      split at h
      · rename_i n f hz
        obtain ⟨q, h1, h2, h3, h4⟩ := h
        have h5 := Nat.le_of_ble_eq_true h3
        simp only [zstep, hz]
        exact ⟨pk_in q n h1 h2, by rw [pk_cl q h2 (by omega)]; exact h4⟩
      · exact h.elim
    · exact h.elim
  all_goals exact h
def zrun2 (M : zM) (Rt : Option Value → List zE → Prop) (Lf : zK) (stops : List Nat) : Nat → zK
  | 0, pc, lv, st, hs => Lf pc lv st hs
  | n + 1, pc, lv, st, hs => match zins M pc with
    | none => False
    | some i => zstep2 M Rt (fun pc lv st hs => bif zmem pc stops then Lf pc lv st hs else zrun2 M Rt Lf stops n pc lv st hs) Lf i pc lv st hs
section
variable {l : Launch} {M M' : zM} {b : Bool} {hs0 : List zE} {R : Room} {F : zF} {nc ns mc ms pc idx nx tg n d' mc' ms' : Nat} {lv : zL} {st : List Value} {hs : List zE} {T : zT} {Post : Option Value → List zE → Prop}
theorem V.run2 (n : Nat) (stops : List Nat) (hM : zmok M) {Rt : Option Value → List zE → Prop} (hR : ∀ (v : Option Value) (hs : List zE) (pc : Nat) (lv : zL) (i : Instr), zretok M i v → decode (zcode M) pc = .ok (i, 1) → Rt v hs → V l M b hs0 R F nc ns pc lv v.toList hs) : ∀ {pc : Nat} {lv : zL} {st : List Value} {hs : List zE}, zrun2 M Rt (V l M b hs0 R F nc ns) stops n pc lv st hs → V l M b hs0 R F nc ns pc lv st hs := by
  induction n with
  | zero => intro pc lv st hs h; exact h
  | succ n ih =>
    intro pc lv st hs h
    simp only [zrun2] at h
    split at h
    · exact h.elim
    · rename_i i hi
      refine zstep_ok hM hR (fun pc lv st hs h => ?_) hi (zstep2_1 h)
      cases hz : zmem pc stops with
      | true => rw [hz] at h; exact h
      | false => rw [hz] at h; exact ih h
theorem V.g2 (n : Nat) (stops : List Nat) (hM : zmok M) (hb : (Nat.ble nc mc && Nat.ble ns ms) = true) (h : zrun2 M (fun v hs => ∃ hs', zsim hs hs' ∧ Post v hs') (V l M b hs0 R (zFm b hs0 Post mc ms) nc ns) stops n pc lv st hs) : V l M b hs0 R (zFm b hs0 Post mc ms) nc ns pc lv st hs := by
  rw [Bool.and_eq_true] at hb
  refine V.run2 n stops hM (fun v hs pc lv i hr hd hp => ?_) h
  obtain ⟨hs', h1, h2⟩ := hp
  exact V.sim h1 (zret_ok (Nat.le_of_ble_eq_true hb.1) (Nat.le_of_ble_eq_true hb.2) v hs' pc lv i hr hd h2)
theorem V.cw (hM : zmok M) (hat : zins M pc = some (.invokevirtual idx, nx, tg)) (hlk : zlV (zy M).cls idx M' n) (hC : Ct l M' false d' mc' ms' T) (hR : (Nat.ble (d' + 1) R.frames && Nat.ble (8 + (zmax M' + 11) + 48 * d') R.locals && (Nat.ble (nc + mc') R.cells && Nat.ble (ns + ms') R.slots)) = true) (j ci : Nat) {q : vw_C} {fs : List Value} (hj : (st.take (n + 1)).reverse.head? = some (.ref (2 * j))) (hz : hs[j]? = some (.inr (ci, fs))) (hq : zcl[ci]? = some q) (hqc : q.1 = (zy M').cls) (hn : (st.take (n + 1)).length = n + 1) (hW : Nat.ble (((st.drop (n + 1)).map fun v => v.category).sum) 8 = true) (hT : T (st.take (n + 1)).reverse hs (fun v hs' => hs'.length = hs.length ∧ V l M b hs0 R F (nc + mc') (ns + ms') nx lv (v.toList ++ st.drop (n + 1)) hs')) : V l M b hs0 R F nc ns pc lv st hs :=
  V.callVW hM hat hlk hC hR _ (st.drop (n + 1)) _ (by rw [List.length_reverse]; exact hn) j ci hj hz hq hqc (by rw [List.reverse_reverse]; exact (List.take_append_drop _ _).symm) hW hT (fun _ _ h => h)
theorem V.kn (ks : List Nat) (lv1 : zL) (st1 : List Value) (hs1 : List zE) (h0 : zsel lv ks = lv1) (h1 : st = st1) (h : hs = hs1) (hv : V l M b hs0 R F nc ns pc lv1 st1 hs1) : V l M b hs0 R F nc ns pc lv st hs := V.key ks (by rw [h0, h1, h]; exact hv)
def zpr : Value → Bool
  | .ref _ => false
  | _ => true
theorem zpr_map (e : Nat → Nat) : ∀ {l : List Value}, l.all zpr = true → l.map (zrv e) = l
  | [], _ => rfl
  | v :: l, h => by
    rw [List.all_cons, Bool.and_eq_true] at h
    rw [List.map_cons, zpr_map e h.2]
    congr 1
    cases v <;> first | rfl | (cases h.1)
theorem V.cs (hM : zmok M) (hat : zins M pc = some (.invokestatic idx, nx, tg)) (hlk : zlS (zy M).cls idx M' n) (hC : Ct l M' false d' mc' ms' T) (hR : (Nat.ble (d' + 1) R.frames && Nat.ble (8 + (zmax M' + 11) + 48 * d') R.locals && (Nat.ble (nc + mc') R.cells && Nat.ble (ns + ms') R.slots)) = true) (hn : (st.take n).length = n) (hp : (st.take n).reverse.all zpr = true) (hW : Nat.ble (((st.drop n).map fun v => v.category).sum) 8 = true) (hT : T (st.take n).reverse [] (fun v wc' => wc'.length = 0 ∧ V l M b hs0 R F (nc + mc') (ns + ms') nx lv ((v.map (zrv (ze hs.length [] (fun k => k)))).toList ++ st.drop n) hs)) : V l M b hs0 R F nc ns pc lv st hs :=
  V.callS0 hM hat hlk hC hR _ (st.drop n) _ (by rw [List.length_reverse]; exact hn) (by rw [zpr_map _ hp, List.reverse_reverse]; exact (List.take_append_drop _ _).symm) hW hT (fun _ _ h => h)
theorem V.csN (hM : zmok M) (hat : zins M pc = some (.invokestatic idx, nx, tg)) (hlk : zlSN (zy M).cls idx M' n) (hC : Ct l M' false d' mc' ms' T) (hR : (Nat.ble (d' + 1) R.frames && Nat.ble (8 + (zmax M' + 11) + 48 * d') R.locals && (Nat.ble (nc + mc') R.cells && Nat.ble (ns + ms') R.slots)) = true) (hn : (st.take n).length = n) (hp : (st.take n).reverse.all zpr = true) (hW : Nat.ble (((st.drop n).map fun v => v.category).sum) 8 = true) (hT : T (st.take n).reverse [] (fun v wc' => wc'.length = 0 ∧ V l M b hs0 R F (nc + mc') (ns + ms') nx lv ((v.map (zrv (ze hs.length [] (fun k => k)))).toList ++ st.drop n) hs)) : V l M b hs0 R F nc ns pc lv st hs :=
  V.callSN0 hM hat hlk hC hR _ (st.drop n) _ (by rw [List.length_reverse]; exact hn) (by rw [zpr_map _ hp, List.reverse_reverse]; exact (List.take_append_drop _ _).symm) hW hT (fun _ _ h => h)
end
/-- the reference: its numbers by their slots, its rows by theirs -/
abbrev pM (fv : Nat → Int32) (ar : Nat → fI) : List zE := [.inr (7, [.ref 2, .ref 4, .ref 6, .ref 8, .ref 10, .int (fv 5), .ref 12, .int (fv 7), .ref 14, .ref 16, .int (fv 10), .int (fv 11), .int (fv 12), .ref 18, .int (fv 14), .ref 20, .ref 22, .int (fv 17), .int (fv 18), .int (fv 19), .int (fv 20), .int (fv 21), .ref 24, .ref 26, .ref 28, .ref 30, .ref 32, .int (fv 27), .int (fv 28), .int (fv 29), .int (fv 30), .ref 34, .ref 36, .int (fv 33), .int (fv 34), .int (fv 35), .ref 38, .ref 40, .ref 42, .ref 44, .ref 46, .int (fv 41), .int (fv 42), .int (fv 43), .int (fv 44), .int (fv 45), .int (fv 46), .int (fv 47), .int (fv 48), .ref 48, .ref 50, .ref 52, .ref 54, .int (fv 53), .ref 56, .ref 58, .int (fv 56), .int (fv 57), .int (fv 58), .int (fv 59)]), .inl (0, 4, .inl (ar 0)), .inl (0, 4, .inl (ar 1)), .inl (0, 4, .inl (ar 2)), .inl (0, 8, .inl (ar 3)), .inl (0, 2, .inl (ar 4)), .inl (0, 30, .inl (ar 6)), .inl (0, 8, .inl (ar 8)), .inl (0, 8, .inl (ar 9)), .inl (0, 160, .inl (ar 13)), .inl (0, 1200, .inl (ar 15)), .inl (0, 24, .inl (ar 16)), .inl (0, 72, .inl (ar 22)), .inl (0, 4, .inl (ar 23)), .inl (0, 4, .inl (ar 24)), .inl (0, 160, .inl (ar 25)), .inl (0, 43, .inl (ar 26)), .inl (0, 96, .inl (ar 31)), .inl (0, 200, .inl (ar 32)), .inl (0, 200, .inl (ar 36)), .inl (0, 6, .inl (ar 37)), .inl (0, 30, .inl (ar 38)), .inl (0, 30, .inl (ar 39)), .inl (0, 30, .inl (ar 40)), .inl (0, 8, .inl (ar 49)), .inl (0, 4, .inl (ar 50)), .inl (0, 4, .inl (ar 51)), .inl (0, 8, .inl (ar 52)), .inl (0, 8, .inl (ar 54)), .inl (0, 8, .inl (ar 55))]
abbrev f4 (fv : Nat → Int32) (q : RT) : Nat → Int32 := upf (upf (upf (upf fv 41 q.2.2.2.1) 42 q.2.2.2.2.1) 43 q.2.2.2.2.2.1) 44 q.2.2.2.2.2.2
abbrev r5 (ar : Nat → fI) (sk nm pl az cs : fI) : Nat → fI := upa (upa (upa (upa (upa ar 36 sk) 37 nm) 38 pl) 39 az) 40 cs
abbrev cM (fv : Nat → Int32) (ar : Nat → fI) : zCart := (ar 0, ar 1, ar 2, ar 3, ar 4, ar 6, fv 5)
