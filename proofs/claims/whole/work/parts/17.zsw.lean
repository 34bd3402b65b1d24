/-! ===== switches ===== -/
theorem zgd_dec0 {cc : ByteArray} {mL pc nx tg : Nat} {i : Instr} (h : zgd cc mL pc (i, nx, tg) = true) : decode cc pc = .ok (i, nx - pc) := by
  simp only [zgd, Bool.and_eq_true, decide_eq_true_eq] at h
  exact h.1.1.1
section ZSW
variable {l : Launch} {M : zM} {b : Bool} {hs0 hs : List zE} {R : Room} {F : zF} {nc ns pc nx tg : Nat} {lv : zL} {rest : List Value}
theorem V.tsI (hM : zmok M) {dflt lo hi : Int} {offs : Array Int} (hat : zins M pc = some (.tableswitch dflt lo hi offs, nx, tg)) {x : Int32} (k : Int) (hk : x.toInt = k) (h1 : ¬ k < lo) (h2 : ¬ hi < k) (off : Int) (ho : offs[(k - lo).toNat]? = some off) (t : Nat) (ht : (pc : Int) + off = (t : Int)) (h : V l M b hs0 R F nc ns t lv rest hs) : V l M b hs0 R F nc ns pc lv (.int x :: rest) hs := by
  subst hk
  exact V.pure h (fun ad hx hb k => lv_tableIn hx hb (zgd_dec0 (hM.2.1 pc _ hat)) h1 h2 ho ht k)
theorem V.tsO (hM : zmok M) {dflt lo hi : Int} {offs : Array Int} (hat : zins M pc = some (.tableswitch dflt lo hi offs, nx, tg)) {x : Int32} (hk : x.toInt < lo ∨ hi < x.toInt) (t : Nat) (ht : (pc : Int) + dflt = (t : Int)) (h : V l M b hs0 R F nc ns t lv rest hs) : V l M b hs0 R F nc ns pc lv (.int x :: rest) hs :=
  V.pure h (fun ad hx hb k => lv_tableOut hx hb (zgd_dec0 (hM.2.1 pc _ hat)) hk ht k)
theorem V.ls (hM : zmok M) {dflt : Int} {ps : Array (Int × Int)} (hat : zins M pc = some (.lookupswitch dflt ps, nx, tg)) {x : Int32} (hp : (ps.toList.zip (ps.toList.drop 1)).all (fun (a, next) => a.1 < next.1) = true) (off : Int) (ho : Op.lookupswitch.offset ps.toList dflt x.toInt = off) (t : Nat) (ht : (pc : Int) + off = (t : Int)) (h : V l M b hs0 R F nc ns t lv rest hs) : V l M b hs0 R F nc ns pc lv (.int x :: rest) hs :=
  V.pure h (fun ad hx hb k => lv_lookup hx hb (zgd_dec0 (hM.2.1 pc _ hat)) hp ho ht k)
end ZSW
/-- an int is one of the first n, or outside -/
theorem zcase (x : Int32) (n : Nat) (hn : n < 2 ^ 31) : (∃ j : Nat, j < n ∧ x = nI j) ∨ (x.toInt < 0 ∨ (n : Int) ≤ x.toInt) := by
  rcases pk_ix x hn with h | h | h
  · exact Or.inr (Or.inl (by simpa using Int32.lt_iff_toInt_lt.mp h))
  · refine Or.inr (Or.inr ?_)
    have := Int32.le_iff_toInt_le.mp h
    rwa [nI_toInt hn] at this
  · exact Or.inl h
