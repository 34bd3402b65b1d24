/-! ===== Ride: pictures and pure words ===== -/
abbrev pRide (rc rl : Nat) (bl : Int32) (lt : Int64) (te : Int32) (ha dr : fI) (hd pu az co ho bu bb fa : Int32) : List zE := [.inr (2, [.ref rc, .ref rl, .int bl, .long lt, .int te, .ref 2, .ref 4, .int hd, .int pu, .int az, .int co, .int ho, .int bu, .int bb, .int fa]), .inl (0, 2, .inl ha), .inl (0, 4, .inl dr)]
/-- the ride at 0, its cart at 3, its text at 10 -/
abbrev pRW (bl : Int32) (lt : Int64) (te : Int32) (ha dr : fI) (hd pu az co ho bu bb fa : Int32) (c : zCart) (nt : Int32) (n : Nat) (cd en nm sk : fI) : List zE := pRide 6 20 bl lt te ha dr hd pu az co ho bu bb fa ++ (pCart 3 c ++ pText 10 nt n cd en nm sk)
def nmF (lo ha pa te mo wh : Int32) : fI := fun k => match k with
  | 0 => lo
  | 1 => ha
  | 2 => pa
  | 3 => te
  | 4 => mo
  | _ => wh
theorem evO_cong {nm nm' : fI} {op : Nat} {ss : List Int32} (h : op < 6 → nm op = nm' op) : evO nm op ss = evO nm' op ss := by
  unfold evO
  by_cases h6 : op < 6
  · simp only [if_neg (show ¬ 100 ≤ op by omega), if_pos h6, h h6]
  · simp only [if_neg h6]
theorem evL_cong {nm nm' : fI} : ∀ {ops : List Nat} {ss : List Int32}, (∀ op ∈ ops, op < 6 → nm op = nm' op) → evL nm ops ss = evL nm' ops ss
  | [], _, _ => rfl
  | op :: ops, ss, h => by
    simp only [evL]
    rw [evO_cong (h op List.mem_cons_self)]
    cases evO nm' op ss with
    | none => rfl
    | some s2 => exact evL_cong (fun o ho => h o (List.mem_cons_of_mem _ ho))
theorem sayF_cong {nm nm' : fI} {P : List Nat} (h : ∀ op ∈ P, op < 6 → nm op = nm' op) : sayF P nm = sayF P nm' := by
  unfold sayF
  rw [evL_cong h]
/-- a text: its three parts -/
abbrev zP : Type := List Nat × List Nat × List Nat
def tTx (nt : Int32) (n : Nat) (cd en : fI) (P : zP) : Prop := n ≤ 160 ∧ tPart n cd en 0 P.1 ∧ tPart n cd en 1 P.2.1 ∧ tPart n cd en 2 P.2.2 ∧ (nt = 0 ∨ nt = 1) ∧ (nt = 0 → 3 ∉ P.1 ∧ 3 ∉ P.2.1 ∧ 3 ∉ P.2.2)
def drS (c : zCart) (P : zP) (ha : fI) (te : Int32) (w : Nat) : Int32 := sayF P.1 (nmF (ldO c w) (ha (w % 2)) (paC c) te (moC c w) (nI w))
def hoS (c : zCart) (P : zP) (ha : fI) (te : Int32) : Int32 := 0 + sayF P.2.1 (nmF 0 (ha 0) (paC c) te 0 (nI 0)) + sayF P.2.1 (nmF 0 (ha 1) (paC c) te 0 (nI 1))
def flF (f g : fI) (i : Nat) : fI := fun k => if k < i then f k else g k
theorem flF_s (f g : fI) (i : Nat) : upd (flF f g i) i (f i) = flF f g (i + 1) := by
  funext k
  by_cases e : k = i
  · subst e
    rw [pk_us]
    simp only [flF]
    rw [if_pos (by omega)]
  · rw [pk_un e]
    simp only [flF]
    by_cases h : k < i
    · rw [if_pos h, if_pos (by omega)]
    · rw [if_neg h, if_neg (by omega)]
theorem flF_0 (f g : fI) : flF f g 0 = g := by
  funext k
  simp only [flF]
  rw [if_neg (by omega)]
theorem flF_in {f g : fI} {i k : Nat} (h : k < i) : flF f g i k = f k := by simp only [flF]; rw [if_pos h]
/-- six names, told one by one in any order, are these -/
theorem nm_all {nm : fI} {lo ha pa te mo wh : Int32} (h0 : nm 0 = lo) (h1 : nm 1 = ha) (h2 : nm 2 = pa) (h3 : nm 3 = te) (h4 : nm 4 = mo) (h5 : nm 5 = wh) (P : List Nat) : sayF P nm = sayF P (nmF lo ha pa te mo wh) := by
  refine sayF_cong (fun op _ h => ?_)
  rcases (show op = 0 ∨ op = 1 ∨ op = 2 ∨ op = 3 ∨ op = 4 ∨ op = 5 by omega) with rfl | rfl | rfl | rfl | rfl | rfl
  · exact h0
  · exact h1
  · exact h2
  · exact h3
  · exact h4
  · exact h5
