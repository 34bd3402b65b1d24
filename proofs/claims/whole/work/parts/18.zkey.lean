/-! ===== fewer locals, told by their numbers ===== -/
def zsel (lv : zL) : List Nat → zL
  | [] => []
  | k :: ks => match zgt lv k with
    | some v => (k, v) :: zsel lv ks
    | none => zsel lv ks
theorem zsel_has {ad : Nat → Nat} {ls : Array Slot} {nL : Nat} {lv : zL} (h : lv_has ls nL (zl ad lv)) (ks : List Nat) : lv_has ls nL (zl ad (zsel lv ks)) := by
  refine ⟨h.1, h.2.1, ?_⟩
  intro q hq
  obtain ⟨r, hr, rfl⟩ := List.mem_map.mp hq
  have key : ∀ ks : List Nat, r ∈ zsel lv ks → zgt lv r.1 = some r.2 := by
    intro ks
    induction ks with
    | nil => intro z; cases z
    | cons k ks ih =>
      intro z
      simp only [zsel] at z
      split at z
      · rename_i v hv
        rcases List.mem_cons.mp z with rfl | z
        · exact hv
        · exact ih z
      · exact ih z
  exact zgt_spec h (key ks hr)
theorem V.key {l : Launch} {M : zM} {b : Bool} {hs0 hs : List zE} {R : Room} {F : zF} {nc ns pc : Nat} {lv : zL} {st : List Value} (ks : List Nat) (h : V l M b hs0 R F nc ns pc (zsel lv ks) st hs) : V l M b hs0 R F nc ns pc lv st hs :=
  fun p e s m args below meth c D tc ad0 ad ls H locs X E xa P A S L => h p e s m args below meth c D tc ad0 ad ls H locs X E xa P A S (zsel_has L ks)
