/-! ===== the pure picture: names of cells are even (twice the place), names of what lies outside odd ===== -/
def zty (tc : Nat → ClassId) : List (ClassId × FieldType) := [(tc 0, .int), (tc 1, .object RX5), (tc 2, .object RX4)]
abbrev zE : Type := (Nat × Nat × ((Nat → Int32) ⊕ (Nat → Option Nat))) ⊕ (Nat × List Value)
def zrv (ad : Nat → Nat) : Value → Value
  | .ref k => .ref (ad k)
  | .int v => .int v
  | .long v => .long v
  | .null => .null
  | .float v => .float v
  | .double v => .double v
  | .retAddr v => .retAddr v
theorem zrv_cat (ad : Nat → Nat) (v : Value) : (zrv ad v).category = v.category := by cases v <;> rfl
theorem zrv_comp (ad e : Nat → Nat) (v : Value) : zrv ad (zrv e v) = zrv (fun k => ad (e k)) v := by cases v <;> rfl
def zrf : Option Nat → Value
  | none => .null
  | some k => .ref k
theorem zrv_rf (ad : Nat → Nat) (o : Option Nat) : zrv ad (zrf o) = va_rf (o.map ad) := by cases o <;> rfl
def zc (tc : Nat → ClassId) (ad : Nat → Nat) : zE → va_E
  | .inl (t, n, .inl f) => .inl (tc t, n, .inl f)
  | .inl (t, n, .inr g) => .inl (tc t, n, .inr (.inr (.inr (.inr (fun i => (g i).map ad)))))
  | .inr (ci, fs) => .inr (ci, fs.map (zrv ad))
def zw (tc : Nat → ClassId) (ad : Nat → Nat) (hs : List zE) : va_W := hs.mapIdx (fun i x => (ad (2 * i), zc tc ad x))
theorem zw_get {tc : Nat → ClassId} {ad : Nat → Nat} {hs : List zE} {i : Nat} {x : zE} (h : hs[i]? = some x) : (zw tc ad hs)[i]? = some (ad (2 * i), zc tc ad x) := by
  simp [zw, List.getElem?_mapIdx, h]
theorem zw_inv {tc : Nat → ClassId} {ad : Nat → Nat} {hs : List zE} {i : Nat} {q : Nat × va_E} (h : (zw tc ad hs)[i]? = some q) : ∃ x, hs[i]? = some x ∧ q = (ad (2 * i), zc tc ad x) := by
  simp only [zw, List.getElem?_mapIdx] at h
  cases hx : hs[i]? with
  | none => rw [hx] at h; cases h
  | some x => rw [hx] at h; cases h; exact ⟨x, rfl, rfl⟩
theorem zw_set {tc : Nat → ClassId} {ad : Nat → Nat} {hs : List zE} {i : Nat} {x : zE} : (zw tc ad hs).set i (ad (2 * i), zc tc ad x) = zw tc ad (hs.set i x) := by
  apply List.ext_getElem?
  intro j
  simp only [zw, List.getElem?_mapIdx, List.getElem?_set, List.length_mapIdx]
  by_cases h : i = j
  · subst h
    simp only [if_true]
    split <;> rfl
  · simp only [if_neg h]
theorem zw_len {tc : Nat → ClassId} {ad : Nat → Nat} {hs : List zE} : (zw tc ad hs).length = hs.length := by simp [zw]
/-- the cell of a name -/
def zat (hs : List zE) (a : Nat) : Option zE := bif Nat.beq (a % 2) 0 then hs[a / 2]? else none
theorem zat_spec {hs : List zE} {a : Nat} {x : zE} (h : zat hs a = some x) : ∃ i, a = 2 * i ∧ hs[i]? = some x := by
  unfold zat at h
  cases hb : Nat.beq (a % 2) 0 with
  | false => rw [hb] at h; cases h
  | true =>
    rw [hb] at h
    have : a % 2 = 0 := Nat.eq_of_beq_eq_true hb
    exact ⟨a / 2, by omega, h⟩
/-- locals -/
def zl (ad : Nat → Nat) (lv : List (Nat × Value)) : List (Nat × Value) := lv.map (fun q => (q.1, zrv ad q.2))
def zgt : List (Nat × Value) → Nat → Option Value
  | [], _ => none
  | (j, v) :: l, i => bif Nat.beq j i then some v else zgt l i
theorem zgt_spec {ad : Nat → Nat} {ls : Array Slot} {nL : Nat} : ∀ {lv : List (Nat × Value)} {i : Nat} {v : Value}, lv_has ls nL (zl ad lv) → zgt lv i = some v → ls[i]? = some (.val (zrv ad v)) := by
  intro lv i v h hg
  have key : ∀ l : List (Nat × Value), zgt l i = some v → (i, v) ∈ l := by
    intro l
    induction l with
    | nil => intro q; cases q
    | cons q l ih =>
      intro hq
      obtain ⟨j, w⟩ := q
      simp only [zgt] at hq
      cases hb : Nat.beq j i with
      | true => rw [hb] at hq; cases hq; rw [Nat.eq_of_beq_eq_true hb]; exact List.mem_cons_self
      | false => rw [hb] at hq; exact List.mem_cons_of_mem _ (ih hq)
  exact h.2.2 (i, zrv ad v) (List.mem_map.mpr ⟨(i, v), key lv hg, rfl⟩)
def zs1 : List (Nat × Value) → Nat → List (Nat × Value)
  | [], _ => []
  | (j, v) :: l, i => bif Nat.beq j i || (Nat.beq (j + 1) i && Nat.beq v.category 2) then zs1 l i else (j, v) :: zs1 l i
def zs2 : List (Nat × Value) → Nat → List (Nat × Value)
  | [], _ => []
  | (j, v) :: l, i => bif Nat.beq j i || (Nat.beq j (i + 1) || (Nat.beq (j + 1) i && Nat.beq v.category 2)) then zs2 l i else (j, v) :: zs2 l i
theorem zbq (a b : Nat) : (a == b) = Nat.beq a b := by rw [Bool.eq_iff_iff, beq_iff_eq, Nat.beq_eq]
theorem zs1_eq (ad : Nat → Nat) (i : Nat) : ∀ lv : List (Nat × Value), (zl ad lv).filter (fun q => !(q.1 == i) && !(q.1 + 1 == i && q.2.category == 2)) = zl ad (zs1 lv i)
  | [] => rfl
  | (j, v) :: l => by
    have ih := zs1_eq ad i l
    have e1 : (j == i) = Nat.beq j i := zbq _ _
    have e2 : (j + 1 == i) = Nat.beq (j + 1) i := zbq _ _
    have e3 : ((zrv ad v).category == 2) = Nat.beq v.category 2 := by rw [zrv_cat]; exact zbq _ _
    show List.filter _ ((j, zrv ad v) :: zl ad l) = _
    rw [List.filter_cons, ih]
    simp only [zs1, e1, e2, e3]
    cases Nat.beq j i <;> cases Nat.beq (j + 1) i <;> cases Nat.beq v.category 2 <;> rfl
theorem zs2_eq (ad : Nat → Nat) (i : Nat) : ∀ lv : List (Nat × Value), (zl ad lv).filter (fun q => !(q.1 == i) && (!(q.1 == i + 1) && !(q.1 + 1 == i && q.2.category == 2))) = zl ad (zs2 lv i)
  | [] => rfl
  | (j, v) :: l => by
    have ih := zs2_eq ad i l
    have e1 : (j == i) = Nat.beq j i := zbq _ _
    have e2 : (j + 1 == i) = Nat.beq (j + 1) i := zbq _ _
    have e4 : (j == i + 1) = Nat.beq j (i + 1) := zbq _ _
    have e3 : ((zrv ad v).category == 2) = Nat.beq v.category 2 := by rw [zrv_cat]; exact zbq _ _
    show List.filter _ ((j, zrv ad v) :: zl ad l) = _
    rw [List.filter_cons, ih]
    simp only [zs2, e1, e2, e3, e4]
    cases Nat.beq j i <;> cases Nat.beq (j + 1) i <;> cases Nat.beq j (i + 1) <;> cases Nat.beq v.category 2 <;> rfl
theorem zl_args (ad : Nat → Nat) : ∀ (vs : List Value) (n : Nat), lv_args n (vs.map (zrv ad)) = zl ad (lv_args n vs)
  | [], _ => rfl
  | v :: vs, n => by
    have ih := fun k => zl_args ad vs k
    simp only [List.map_cons, lv_args, zrv_cat, ih]
    rfl
