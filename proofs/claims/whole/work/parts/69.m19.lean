/-! ===== the reference: the reader's small words (rank, puts, holds, opensOne, signOf) ===== -/
def rkF (c : Nat) : Nat := if c = 0 then 0 else if c = 11 then 1 else if c = 12 then 2 else if c = 13 then 3 else if c ≤ 15 then 4 else if c ≤ 17 then 5 else if c = 18 then 6 else 7
/-- how many of the held open a level: ( is 0, not is 13, the minus ahead is 19 -/
def opC : List Nat → Nat
  | [] => 0
  | c :: t => opC t + (if c = 0 ∨ c = 13 ∨ c = 19 then 1 else 0)
/-- a row holds these, the last on top, from base on -/
def stk (row : fI) (base : Nat) : List Nat → Prop
  | [] => True
  | c :: t => row (base + t.length) = nI c ∧ stk row base t
theorem stk_u {row : fI} {base k : Nat} {x : Int32} : ∀ {s : List Nat}, (k < base ∨ base + s.length ≤ k) → stk row base s → stk (upd row k x) base s
  | [], _, _ => trivial
  | c :: t, h, hs => by
    have h2 : k < base ∨ base + (t.length + 1) ≤ k := h
    exact ⟨by rw [pk_un (by omega)]; exact hs.1, stk_u (by omega) hs.2⟩
theorem stk_p {row : fI} {base c : Nat} {s : List Nat} {x : Int32} (h : stk row base s) (hx : x = nI c) : stk (upd row (base + s.length) x) base (c :: s) := ⟨by rw [pk_us]; exact hx, stk_u (by omega) h⟩
def T7_rank : zT := fun args hs Q => ∃ (x : Int32) (c : Nat), x = nI c ∧ c < 20 ∧ args = [.int x] ∧ ∀ r : Int32, r = nI (rkF c) → Q (some (.int r)) hs
theorem c7_rank (l : Launch) : Ct l mX7_rank false 1 0 0 T7_rank := by
  refine Ct.intro mX7_rank_ok ?_
  rintro args hs Q ⟨x, c, hx, hc, rfl, h⟩
  refine ⟨Nat.le_of_ble_eq_true rfl, ?_⟩
  subst hx
  have t71 : ∀ (k : Nat), k = rkF c → V l mX7_rank false hs (zrm 1 0 0) (zFm false hs Q 0 0) 0 0 71 [(0, .int (nI c))] [.int (nI k)] (hs) := by
    intro k hk
    refine V.g2 60 [71] mX7_rank_ok rfl ?_
    exact ⟨_, zsim_rfl _, h _ (by rw [hk])⟩
  refine V.g2 60 [71] mX7_rank_ok rfl ?_
  refine zp_ne c 0 (fun e0 => ?_) (fun e0 => ?_) rfl rfl
  · refine zp_ne c 11 (fun e1 => ?_) (fun e1 => ?_) rfl rfl
    · refine zp_ne c 12 (fun e2 => ?_) (fun e2 => ?_) rfl rfl
      · refine zp_ne c 13 (fun e3 => ?_) (fun e3 => ?_) rfl rfl
        · refine pk_lt 15 c (fun e4 => ?_) (fun e4 => ?_) rfl rfl
          · refine pk_lt 17 c (fun e5 => ?_) (fun e5 => ?_) rfl rfl
            · refine zp_ne c 18 (fun e6 => ?_) (fun e6 => ?_) rfl rfl
              · refine V.nm [(0, .int (nI c))] [.int (nI 7)] (hs) rfl rfl rfl ?_
                exact t71 7 (by unfold rkF; repeat (first | rw [if_pos (by omega)] | rw [if_neg (by omega)]))
              · refine V.nm [(0, .int (nI c))] [.int (nI 6)] (hs) rfl rfl rfl ?_
                exact t71 6 (by unfold rkF; repeat (first | rw [if_pos (by omega)] | rw [if_neg (by omega)]))
            · refine V.nm [(0, .int (nI c))] [.int (nI 5)] (hs) rfl rfl rfl ?_
              exact t71 5 (by unfold rkF; repeat (first | rw [if_pos (by omega)] | rw [if_neg (by omega)]))
          · refine V.nm [(0, .int (nI c))] [.int (nI 4)] (hs) rfl rfl rfl ?_
            exact t71 4 (by unfold rkF; repeat (first | rw [if_pos (by omega)] | rw [if_neg (by omega)]))
        · refine V.nm [(0, .int (nI c))] [.int (nI 3)] (hs) rfl rfl rfl ?_
          exact t71 3 (by unfold rkF; repeat (first | rw [if_pos (by omega)] | rw [if_neg (by omega)]))
      · refine V.nm [(0, .int (nI c))] [.int (nI 2)] (hs) rfl rfl rfl ?_
        exact t71 2 (by unfold rkF; repeat (first | rw [if_pos (by omega)] | rw [if_neg (by omega)]))
    · refine V.nm [(0, .int (nI c))] [.int (nI 1)] (hs) rfl rfl rfl ?_
      exact t71 1 (by unfold rkF; repeat (first | rw [if_pos (by omega)] | rw [if_neg (by omega)]))
  · refine V.nm [(0, .int (nI c))] [.int (nI 0)] (hs) rfl rfl rfl ?_
    exact t71 0 (by unfold rkF; repeat (first | rw [if_pos (by omega)] | rw [if_neg (by omega)]))
def T7_holds : zT := fun args hs Q => ∃ (fv : Nat → Int32) (ar : Nat → fI) (x : Int32) (m : Nat), m < 200 ∧ fv 33 = nI m ∧ args = [.ref 0, .int x] ∧ hs = pM fv ar ∧ Q none (pM (upf fv 33 (nI (m + 1))) (upa ar 32 (upd (ar 32) m x)))
theorem c7_holds (l : Launch) : Ct l mX7_holds false 1 0 0 T7_holds := by
  refine Ct.intro mX7_holds_ok ?_
  rintro args hs Q ⟨fv, ar, x, m, hm, h33, rfl, rfl, h⟩
  refine ⟨Nat.le_of_ble_eq_true rfl, ?_⟩
  refine V.g2 60 [] mX7_holds_ok rfl ?_
  refine ⟨m, by omega, h33, rfl, ?_⟩
  refine ⟨_, zsim_rfl _, ?_⟩
  have e : fv 33 + nI 1 = nI (m + 1) := by rw [h33]; exact nI_1 m
  rw [← e] at h
  exact h
def T7_puts : zT := fun args hs Q => ∃ (fv : Nat → Int32) (ar : Nat → fI) (x : Int32) (li o : Nat), li < 6 ∧ o < 200 ∧ fv 17 = nI li ∧ fv 35 = nI o ∧ args = [.ref 0, .int x] ∧ hs = pM fv ar ∧ Q none (pM (upf fv 35 (nI (o + 1))) (upa ar 15 (upd (ar 15) (200 * li + o) x)))
theorem c7_puts (l : Launch) : Ct l mX7_puts false 1 0 0 T7_puts := by
  refine Ct.intro mX7_puts_ok ?_
  rintro args hs Q ⟨fv, ar, x, li, o, hli, ho, h17, h35, rfl, rfl, h⟩
  refine ⟨Nat.le_of_ble_eq_true rfl, ?_⟩
  refine V.g2 60 [] mX7_puts_ok rfl ?_
  refine ⟨((200 * li) + o), by omega, (nadd (nmul rfl h17) h35), rfl, ?_⟩
  refine ⟨_, zsim_rfl _, ?_⟩
  have e : fv 35 + nI 1 = nI (o + 1) := by rw [h35]; exact nI_1 o
  rw [← e] at h
  exact h
def T7_opensOne : zT := fun args hs Q => ∃ (fv : Nat → Int32) (ar : Nat → fI) (x : Int32) (m o : Nat), m < 200 ∧ fv 33 = nI m ∧ o < 2 ^ 30 ∧ fv 34 = nI o ∧ args = [.ref 0, .int x] ∧ hs = pM fv ar ∧ (o = 5 → Q (some (.int (nI 0))) hs) ∧ (¬ o = 5 → Q (some (.int (nI 1))) (pM (upf (upf fv 33 (nI (m + 1))) 34 (nI (o + 1))) (upa ar 32 (upd (ar 32) m x))))
theorem c7_opensOne (l : Launch) : Ct l mX7_opensOne false 2 0 0 T7_opensOne := by
  refine Ct.intro mX7_opensOne_ok ?_
  rintro args hs Q ⟨fv, ar, x, m, o, hm, h33, ho, h34, rfl, rfl, h0, h1⟩
  refine ⟨Nat.le_of_ble_eq_true rfl, ?_⟩
  refine V.g2 60 [] mX7_opensOne_ok rfl ?_
  refine zp_ne o 5 (fun e => ?_) (fun e => ?_) h34 rfl
  · refine V.cw mX7_opensOne_ok rfl lX7_170 (c7_holds l) rfl 0 7 rfl rfl rfl rfl rfl rfl ⟨(upf fv 34 (fv 34 + nI 1)), ar, _, m, hm, h33, rfl, rfl, ⟨rfl, ?_⟩⟩
    have h := h1 e
    have e2 : fv 34 + nI 1 = nI (o + 1) := by rw [h34]; exact nI_1 o
    rw [← e2] at h
    refine V.g2 60 [] mX7_opensOne_ok rfl ?_
    refine And.intro (Or.inr rfl) ?_
    exact ⟨_, zsim_rfl _, h⟩
  · refine And.intro (Or.inl rfl) ?_
    exact ⟨_, zsim_rfl _, h0 e⟩
def sgF (t : Int32) : Int32 := if t = nI 4 then nI 11 else if t = nI 5 then nI 12 else if t = nI 60 then nI 14 else if t = nI 61 then nI 15 else if t = nI 43 then nI 16 else if t = nI 45 then nI 17 else if t = nI 42 then nI 18 else -1
def T7_signOf : zT := fun args hs Q => ∃ (fv : Nat → Int32) (ar : Nat → fI) , args = [.ref 0] ∧ hs = pM fv ar ∧ ∀ r : Int32, r = sgF (fv 29) → Q (some (.int r)) hs
theorem c7_signOf (l : Launch) : Ct l mX7_signOf false 1 0 0 T7_signOf := by
  refine Ct.intro mX7_signOf_ok ?_
  rintro args hs Q ⟨fv, ar, rfl, rfl, h⟩
  refine ⟨Nat.le_of_ble_eq_true rfl, ?_⟩
  have t97 : ∀ (r : Int32), r = sgF (fv 29) → V l mX7_signOf false (pM fv ar) (zrm 1 0 0) (zFm false (pM fv ar) Q 0 0) 0 0 97 [(0, .ref 0)] [.int r] (pM fv ar) := by
    intro r hr
    refine V.g2 60 [97] mX7_signOf_ok rfl ?_
    exact ⟨_, zsim_rfl _, h r hr⟩
  refine V.g2 60 [97] mX7_signOf_ok rfl ?_
  refine And.intro (fun (e0 : ¬ (fv 29) = (nI 4)) => ?_) (fun (e0 : (fv 29) = (nI 4)) => ?_)
  · refine And.intro (fun (e1 : ¬ (fv 29) = (nI 5)) => ?_) (fun (e1 : (fv 29) = (nI 5)) => ?_)
    · refine And.intro (fun (e2 : ¬ (fv 29) = (nI 60)) => ?_) (fun (e2 : (fv 29) = (nI 60)) => ?_)
      · refine And.intro (fun (e3 : ¬ (fv 29) = (nI 61)) => ?_) (fun (e3 : (fv 29) = (nI 61)) => ?_)
        · refine And.intro (fun (e4 : ¬ (fv 29) = (nI 43)) => ?_) (fun (e4 : (fv 29) = (nI 43)) => ?_)
          · refine And.intro (fun (e5 : ¬ (fv 29) = (nI 45)) => ?_) (fun (e5 : (fv 29) = (nI 45)) => ?_)
            · refine And.intro (fun (e6 : ¬ (fv 29) = (nI 42)) => ?_) (fun (e6 : (fv 29) = (nI 42)) => ?_)
              · refine V.nm [(0, .ref 0)] [.int (-1 : Int32)] (pM fv ar) rfl rfl rfl ?_
                exact t97 _ (by unfold sgF; rw [if_neg e0]; rw [if_neg e1]; rw [if_neg e2]; rw [if_neg e3]; rw [if_neg e4]; rw [if_neg e5]; rw [if_neg e6])
              · refine V.nm [(0, .ref 0)] [.int (nI 18)] (pM fv ar) rfl rfl rfl ?_
                exact t97 _ (by unfold sgF; rw [if_neg e0]; rw [if_neg e1]; rw [if_neg e2]; rw [if_neg e3]; rw [if_neg e4]; rw [if_neg e5]; rw [if_pos e6])
            · refine V.nm [(0, .ref 0)] [.int (nI 17)] (pM fv ar) rfl rfl rfl ?_
              exact t97 _ (by unfold sgF; rw [if_neg e0]; rw [if_neg e1]; rw [if_neg e2]; rw [if_neg e3]; rw [if_neg e4]; rw [if_pos e5])
          · refine V.nm [(0, .ref 0)] [.int (nI 16)] (pM fv ar) rfl rfl rfl ?_
            exact t97 _ (by unfold sgF; rw [if_neg e0]; rw [if_neg e1]; rw [if_neg e2]; rw [if_neg e3]; rw [if_pos e4])
        · refine V.nm [(0, .ref 0)] [.int (nI 15)] (pM fv ar) rfl rfl rfl ?_
          exact t97 _ (by unfold sgF; rw [if_neg e0]; rw [if_neg e1]; rw [if_neg e2]; rw [if_pos e3])
      · refine V.nm [(0, .ref 0)] [.int (nI 14)] (pM fv ar) rfl rfl rfl ?_
        exact t97 _ (by unfold sgF; rw [if_neg e0]; rw [if_neg e1]; rw [if_pos e2])
    · refine V.nm [(0, .ref 0)] [.int (nI 12)] (pM fv ar) rfl rfl rfl ?_
      exact t97 _ (by unfold sgF; rw [if_neg e0]; rw [if_pos e1])
  · refine V.nm [(0, .ref 0)] [.int (nI 11)] (pM fv ar) rfl rfl rfl ?_
    exact t97 _ (by unfold sgF; rw [if_pos e0])
