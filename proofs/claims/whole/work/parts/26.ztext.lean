/-! ===== codes: an op is a Nat: 0 .. 5 a name, 11 or, 12 and, 13 not, 14 <, 15 =, 16 +, 17 -, 18 *, 19 the other sign, 100 and more a number ===== -/
def isBin (op : Nat) : Bool := Nat.beq op 11 || Nat.beq op 12 || (Nat.ble 14 op && Nat.ble op 18)
def opOk (op : Nat) : Prop := op < 6 ∨ isBin op = true ∨ op = 13 ∨ op = 19 ∨ (100 ≤ op ∧ op < 10100)
def eC (op : Nat) : Int32 := if 100 ≤ op then nI (op - 100) else match op with
  | 11 => -27
  | 12 => -26
  | 13 => -12
  | 14 => -24
  | 15 => -25
  | 16 => -22
  | 17 => -23
  | 18 => -21
  | 19 => -11
  | k => -1 - nI k
def twF (op : Nat) (a b : Int32) : Int32 := match op with
  | 11 => if a = 0 ∧ b = 0 then 0 else 1
  | 12 => if a = 0 ∨ b = 0 then 0 else 1
  | 14 => if a < b then 1 else 0
  | 15 => if a = b then 1 else 0
  | 16 => a + b
  | 17 => a - b
  | _ => a * b
def evO (nm : fI) (op : Nat) (ss : List Int32) : Option (List Int32) :=
  if 100 ≤ op then some (nI (op - 100) :: ss)
  else if op < 6 then some (nm op :: ss)
  else if op = 13 then (match ss with
    | a :: s => some ((if a = 0 then 1 else 0) :: s)
    | [] => none)
  else if op = 19 then (match ss with
    | a :: s => some (- a :: s)
    | [] => none)
  else (match ss with
    | b :: a :: s => some (twF op a b :: s)
    | _ => none)
def evL (nm : fI) : List Nat → List Int32 → Option (List Int32)
  | [], ss => some ss
  | op :: ops, ss => match evO nm op ss with
    | none => none
    | some s2 => evL nm ops s2
def dO (op d : Nat) : Option Nat :=
  if 100 ≤ op then some (d + 1)
  else if op < 6 then some (d + 1)
  else if op = 13 then (if 1 ≤ d then some d else none)
  else if op = 19 then (if 1 ≤ d then some d else none)
  else (if 2 ≤ d then some (d - 1) else none)
def dpt : List Nat → Nat → Option Nat
  | [], d => some d
  | op :: ops, d => match dO op d with
    | none => none
    | some d2 => dpt ops d2
theorem evO_dO (nm : fI) {op : Nat} {ss : List Int32} {d : Nat} (h : dO op ss.length = some d) : ∃ s2, evO nm op ss = some s2 ∧ s2.length = d := by
  unfold dO at h
  unfold evO
  split at h
  · rename_i c; rw [if_pos c]; cases h; exact ⟨_, rfl, rfl⟩
  · rename_i c; rw [if_neg c]
    split at h
    · rename_i c; rw [if_pos c]; cases h; exact ⟨_, rfl, rfl⟩
    · rename_i c; rw [if_neg c]
      split at h
      · rename_i c; rw [if_pos c]
        cases ss with
        | nil => simp at h
        | cons a s => simp at h; exact ⟨_, rfl, by simp [← h]⟩
      · rename_i c; rw [if_neg c]
        split at h
        · rename_i c; rw [if_pos c]
          cases ss with
          | nil => simp at h
          | cons a s => simp at h; exact ⟨_, rfl, by simp [← h]⟩
        · rename_i c; rw [if_neg c]
          cases ss with
          | nil => simp at h
          | cons b s =>
            cases s with
            | nil => simp at h
            | cons a s => simp at h; exact ⟨_, rfl, by simp [← h]⟩
theorem evL_dpt (nm : fI) : ∀ {ops : List Nat} {ss : List Int32} {d : Nat}, dpt ops ss.length = some d → ∃ s2, evL nm ops ss = some s2 ∧ s2.length = d
  | [], ss, d, h => ⟨ss, rfl, by cases h; rfl⟩
  | op :: ops, ss, d, h => by
    simp only [dpt] at h
    split at h
    · cases h
    · rename_i d2 hd
      obtain ⟨s2, h1, h2⟩ := evO_dO nm hd
      simp only [evL, h1]
      rw [← h2] at h
      exact evL_dpt nm h
def c99 (v : Int32) : Int32 := if nI 0 < (if v < nI 99 then v else nI 99) then (if v < nI 99 then v else nI 99) else nI 0
def sayF (P : List Nat) (nm : fI) : Int32 := match evL nm P [] with
  | some (v :: _) => c99 v
  | _ => 0
/-- a row holds a stack, its lowest first -/
def stR (sk : fI) : List Int32 → Prop
  | [] => True
  | v :: s => sk s.length = v ∧ stR sk s
theorem stR_up {sk : fI} {k : Nat} {v : Int32} : ∀ {s : List Int32}, s.length ≤ k → stR sk s → stR (upd sk k v) s
  | [], _, _ => trivial
  | a :: s, h, hs => by
    simp only [List.length_cons] at h
    exact ⟨by rw [pk_un (by omega)]; exact hs.1, stR_up (by omega) hs.2⟩
theorem stR_push {sk : fI} {v : Int32} {s : List Int32} (h : stR sk s) : stR (upd sk s.length v) (v :: s) := ⟨pk_us, stR_up (Nat.le_refl _) h⟩
/-! ===== Text ===== -/
abbrev pText (o : Nat) (nt : Int32) (n : Nat) (cd en nm sk : fI) : List zE := [.inr (5, [.int nt, .ref (2 * (o + 1)), .ref (2 * (o + 2)), .ref (2 * (o + 3)), .ref (2 * (o + 4))]), .inl (0, n, .inl cd), .inl (0, 3, .inl en), .inl (0, 6, .inl nm), .inl (0, n, .inl sk)]
def T_joined : zT := fun args hs Q => ∃ (op : Nat) (a b : Int32), isBin op = true ∧ args = [.int (eC op), .int a, .int b] ∧ Q (some (.int (twF op a b))) hs
theorem isBin_cases {op : Nat} (h : isBin op = true) : op = 11 ∨ op = 12 ∨ op = 14 ∨ op = 15 ∨ op = 16 ∨ op = 17 ∨ op = 18 := by
  simp only [isBin, Bool.or_eq_true, Bool.and_eq_true, Nat.beq_eq, Nat.ble_eq] at h
  omega
theorem ct_joined (l : Launch) : Ct l mX5_joined false 1 0 0 T_joined := by
  refine Ct.intro mX5_joined_ok ?_
  rintro args hs Q ⟨op, a, b, hop, rfl, h⟩
  refine ⟨Nat.le_of_ble_eq_true rfl, ?_⟩
  refine V.g 40 [] mX5_joined_ok rfl ?_
  rcases isBin_cases hop with rfl | rfl | rfl | rfl | rfl | rfl | rfl
  · refine V.tsO mX5_joined_ok rfl (Or.inl (by decide)) 88 rfl ?_
    refine V.g 40 [] mX5_joined_ok rfl ?_
    refine And.intro (fun c => ⟨_, zsim_rfl _, ?_⟩) (fun c => ?_)
    · simp only [twF] at h
      rw [if_neg (fun q => c q.1)] at h
      exact h
    · refine And.intro (fun c2 => ⟨_, zsim_rfl _, ?_⟩) (fun c2 => ⟨_, zsim_rfl _, ?_⟩)
      · simp only [twF] at h
        rw [if_pos ⟨c, c2⟩] at h
        exact h
      · simp only [twF] at h
        rw [if_neg (fun q => c2 q.2)] at h
        exact h
  · refine V.tsI mX5_joined_ok rfl (-26) (by decide) (by decide) (by decide) 73 rfl 74 rfl ?_
    refine V.g 40 [] mX5_joined_ok rfl ?_
    refine And.intro (fun c => ⟨_, zsim_rfl _, ?_⟩) (fun c => ?_)
    · simp only [twF] at h
      rw [if_pos (Or.inl c)] at h
      exact h
    · refine And.intro (fun c2 => ⟨_, zsim_rfl _, ?_⟩) (fun c2 => ⟨_, zsim_rfl _, ?_⟩)
      · simp only [twF] at h
        rw [if_pos (Or.inr c2)] at h
        exact h
      · simp only [twF] at h
        rw [if_neg (by rintro (q | q); exact c q; exact c2 q)] at h
        exact h
  · refine V.tsI mX5_joined_ok rfl (-24) (by decide) (by decide) (by decide) 51 rfl 52 rfl ?_
    refine V.g 40 [] mX5_joined_ok rfl ?_
    refine And.intro (fun c => ⟨_, zsim_rfl _, ?_⟩) (fun c => ⟨_, zsim_rfl _, ?_⟩)
    · simp only [twF] at h
      rw [if_neg (Int32.not_lt.mpr c)] at h
      exact h
    · simp only [twF] at h
      rw [if_pos (Int32.not_le.mp c)] at h
      exact h
  · refine V.tsI mX5_joined_ok rfl (-25) (by decide) (by decide) (by decide) 62 rfl 63 rfl ?_
    refine V.g 40 [] mX5_joined_ok rfl ?_
    refine And.intro (fun c => ⟨_, zsim_rfl _, ?_⟩) (fun c => ⟨_, zsim_rfl _, ?_⟩)
    · simp only [twF] at h
      rw [if_neg c] at h
      exact h
    · simp only [twF] at h
      rw [if_pos c] at h
      exact h
  · refine V.tsI mX5_joined_ok rfl (-22) (by decide) (by decide) (by decide) 43 rfl 44 rfl ?_
    exact V.g 40 [] mX5_joined_ok rfl ⟨_, zsim_rfl _, h⟩
  · refine V.tsI mX5_joined_ok rfl (-23) (by decide) (by decide) (by decide) 47 rfl 48 rfl ?_
    exact V.g 40 [] mX5_joined_ok rfl ⟨_, zsim_rfl _, h⟩
  · refine V.tsI mX5_joined_ok rfl (-21) (by decide) (by decide) (by decide) 39 rfl 40 rfl ?_
    exact V.g 40 [] mX5_joined_ok rfl ⟨_, zsim_rfl _, h⟩
def T_alone : zT := fun args hs Q => ∃ a : Int32, (args = [.int (-11), .int a] ∧ Q (some (.int (- a))) hs) ∨ (args = [.int (-12), .int a] ∧ Q (some (.int (if a = 0 then 1 else 0))) hs)
theorem ct_alone (l : Launch) : Ct l mX5_alone false 1 0 0 T_alone := by
  refine Ct.intro mX5_alone_ok ?_
  rintro args hs Q ⟨a, ⟨rfl, h⟩ | ⟨rfl, h⟩⟩
  · refine ⟨Nat.le_of_ble_eq_true rfl, ?_⟩
    refine V.g 40 [] mX5_alone_ok rfl ?_
    exact And.intro (fun c => absurd (by decide) c) (fun _ => ⟨_, zsim_rfl _, h⟩)
  · refine ⟨Nat.le_of_ble_eq_true rfl, ?_⟩
    refine V.g 40 [] mX5_alone_ok rfl ?_
    refine And.intro (fun _ => ?_) (fun c => absurd c (by decide))
    refine And.intro (fun c => ⟨_, zsim_rfl _, ?_⟩) (fun c => ⟨_, zsim_rfl _, ?_⟩)
    · rw [if_neg c] at h; exact h
    · rw [if_pos c] at h; exact h
def T_named : zT := fun args hs Q => ∃ (nt : Int32) (n : Nat) (cd en nm sk : fI) (k : Nat), k < 6 ∧ args = [.ref 0, .int (nI k)] ∧ hs = pText 0 nt n cd en nm sk ∧ Q (some (.int (nm k))) hs
theorem ct_named (l : Launch) : Ct l mX5_named false 1 0 0 T_named := by
  refine Ct.intro mX5_named_ok ?_
  rintro args hs Q ⟨nt, n, cd, en, nm, sk, k, hk, rfl, rfl, h⟩
  refine ⟨Nat.le_of_ble_eq_true rfl, ?_⟩
  refine V.g 40 [] mX5_named_ok rfl ?_
  refine pk_le 6 k (fun e => absurd e (by omega)) (fun _ => ?_)
  refine And.intro (pk_in k 6 hk) ⟨_, zsim_rfl _, ?_⟩
  rw [pk_cl (x := nI k) k]
  exact h
def T_name : zT := fun args hs Q => ∃ (nt : Int32) (n : Nat) (cd en nm sk : fI) (k : Nat) (v : Int32), k < 6 ∧ args = [.ref 0, .int (nI k), .int v] ∧ hs = pText 0 nt n cd en nm sk ∧ Q none (pText 0 nt n cd en (upd nm k v) sk)
theorem ct_name (l : Launch) : Ct l mX5_name false 1 0 0 T_name := by
  refine Ct.intro mX5_name_ok ?_
  rintro args hs Q ⟨nt, n, cd, en, nm, sk, k, v, hk, rfl, rfl, h⟩
  refine ⟨Nat.le_of_ble_eq_true rfl, ?_⟩
  refine V.g 40 [] mX5_name_ok rfl ?_
  refine And.intro (pk_in k 6 hk) ⟨_, zsim_rfl _, ?_⟩
  rw [← pk_cl (x := nI k) k] at h
  exact h
