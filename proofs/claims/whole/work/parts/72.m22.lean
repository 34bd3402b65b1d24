/-! ===== the reference: wordFrom ===== -/
def alB (p : Nat → Bool) : Nat → Bool
  | 0 => true
  | n + 1 => alB p n && p n
def wdC (wo tp : fI) (a b k c : Nat) : Bool := decide (wo (8 * k + c) = (if a + c < b then tp (a + c) else nI 32))
def wdP (wo tp : fI) (a b k : Nat) : Bool := decide (b - a ≤ 8) && alB (wdC wo tp a b k) 8
theorem alB_f {p : Nat → Bool} {d : Bool} {c : Nat} (h : false = (d && alB p c)) : ∀ n, c ≤ n → false = (d && alB p n)
  | 0, hn => by rwa [show c = 0 by omega] at h
  | n + 1, hn => by
    rcases Nat.lt_or_ge n c with q | q
    · rwa [show c = n + 1 by omega] at h
    · have := alB_f h n q
      rw [alB]
      cases d with
      | false => rfl
      | true =>
        rw [Bool.true_and] at this
        rw [← this]
        rfl
def woF (wo tp : fI) (a b : Nat) : Nat := match fsF (wdP wo tp a b) 12 with
  | none => 12
  | some k => k
def T7_wordFrom : zT := fun args hs Q => ∃ (fv : Nat → Int32) (ar : Nat → fI) (x y : Int32) (a b : Nat), x = nI a ∧ y = nI b ∧ a ≤ b ∧ b ≤ 160 ∧ args = [.ref 0, .int x, .int y] ∧ hs = pM fv ar ∧ ∀ r : Int32, r = nI (woF (ar 31) (ar 13) a b) → Q (some (.int r)) hs
set_option maxHeartbeats 500000 in
theorem c7_wordFrom (l : Launch) : Ct l mX7_wordFrom false 2 0 0 T7_wordFrom := by
  refine Ct.intro mX7_wordFrom_ok ?_
  rintro args hs Q ⟨fv, ar, x, y, a, b, hx, hy, hab, hb, rfl, rfl, h⟩
  refine ⟨Nat.le_of_ble_eq_true rfl, ?_⟩
  subst hx
  subst hy
  generalize hS : pM fv ar = S
  have loop : ∀ (m k : Nat) (x3 : Int32), k + m = 12 → x3 = nI k → fsF (wdP (ar 31) (ar 13) a b) k = none → V l mX7_wordFrom false S (zrm 2 0 0) (zFm false S Q 0 0) 0 0 2 [(3, .int x3), (0, .ref 0), (1, .int (nI a)), (2, .int (nI b))] [] (pM fv ar) := by
    intro m
    induction m with
    | zero =>
      intro k x3 hk h3 hn
      have ek : k = 12 := by omega
      rw [ek] at hn
      refine V.g2 60 [2, 26, 72, 80, 88] mX7_wordFrom_ok rfl ?_
      refine pk_le 12 k (fun e1 => ?_) (fun e1 => absurd e1 (by omega)) rfl h3
      exact ⟨_, zsim_rfl _, (by subst hS; exact h _ (by rw [woF, hn]; rfl))⟩
    | succ m ih =>
      intro k x3 hk h3 hn
      have t88 : ∀ (x5 : Int32) (B : Bool), B = wdP (ar 31) (ar 13) a b k → V l mX7_wordFrom false S (zrm 2 0 0) (zFm false S Q 0 0) 0 0 88 [(5, .int x5), (4, .int (bI B)), (3, .int x3), (0, .ref 0), (1, .int (nI a)), (2, .int (nI b))] [] (pM fv ar) := by
        intro x5 B hB
        cases B with
        | false =>
          refine V.g2 60 [2, 26, 72, 80, 88] mX7_wordFrom_ok rfl ?_
          refine And.intro (fun _ => ?_) (fun e => absurd rfl e)
          refine V.kn [3, 0, 1, 2] [(3, .int (x3 + zi 1)), (0, .ref 0), (1, .int (nI a)), (2, .int (nI b))] [] (pM fv ar) rfl rfl rfl ?_
          exact ih (k + 1) _ (by omega) (ninc h3) (fsF_miss hn hB.symm)
        | true =>
          refine V.g2 60 [2, 26, 72, 80, 88] mX7_wordFrom_ok rfl ?_
          refine And.intro (fun e => absurd e (by decide)) (fun _ => ?_)
          exact ⟨_, zsim_rfl _, (by subst hS; exact h _ (by rw [woF, fsF_hit hn hB.symm (by omega : k < 12)]; exact h3))⟩
      have inner : ∀ (m c : Nat) (x5 : Int32) (B : Bool), c + m = 8 → x5 = nI c → B = (decide (b - a ≤ 8) && alB (wdC (ar 31) (ar 13) a b k) c) → V l mX7_wordFrom false S (zrm 2 0 0) (zFm false S Q 0 0) 0 0 26 [(5, .int x5), (4, .int (bI B)), (3, .int x3), (0, .ref 0), (1, .int (nI a)), (2, .int (nI b))] [] (pM fv ar) := by
        intro m
        induction m with
        | zero =>
          intro c x5 B hc h5 hB
          have ec : c = 8 := by omega
          rw [ec] at hB
          refine V.g2 60 [2, 26, 72, 80, 88] mX7_wordFrom_ok rfl ?_
          refine pk_le 8 c (fun e1 => ?_) (fun e1 => absurd e1 (by omega)) rfl h5
          refine V.kn [5, 4, 3, 0, 1, 2] [(5, .int x5), (4, .int (bI B)), (3, .int x3), (0, .ref 0), (1, .int (nI a)), (2, .int (nI b))] [] (pM fv ar) rfl rfl rfl ?_
          exact t88 _ B hB
        | succ m ih =>
          intro c x5 B hc h5 hB
          have hk12 : k < 12 := by omega
          cases B with
          | false =>
            refine V.g2 60 [2, 26, 72, 80, 88] mX7_wordFrom_ok rfl ?_
            refine pk_le 8 c (fun e1 => absurd e1 (by omega)) (fun e1 => ?_) rfl h5
            refine And.intro (fun _ => ?_) (fun e => absurd rfl e)
            refine V.kn [5, 4, 3, 0, 1, 2] [(5, .int x5), (4, .int (bI false)), (3, .int x3), (0, .ref 0), (1, .int (nI a)), (2, .int (nI b))] [] (pM fv ar) rfl rfl rfl ?_
            exact t88 _ false (alB_f hB 8 (by omega))
          | true =>
            refine V.g2 60 [2, 26, 72, 80, 88] mX7_wordFrom_ok rfl ?_
            refine pk_le 8 c (fun e1 => absurd e1 (by omega)) (fun e1 => ?_) rfl h5
            refine And.intro (fun e => absurd e (by decide)) (fun _ => ?_)
            refine ⟨((8 * k) + c), by omega, (nadd (nmul rfl h3) h5), rfl, ?_⟩
            have t72 : ∀ (v : Int32), v = (if a + c < b then ar 13 (a + c) else nI 32) → V l mX7_wordFrom false S (zrm 2 0 0) (zFm false S Q 0 0) 0 0 72 [(5, .int x5), (4, .int (bI true)), (3, .int x3), (0, .ref 0), (1, .int (nI a)), (2, .int (nI b))] [.int v, .int (ar 31 (8 * k + c))] (pM fv ar) := by
              intro v hv
              refine V.g2 60 [2, 26, 72, 80, 88] mX7_wordFrom_ok rfl ?_
              refine And.intro (fun (e4 : ¬ (ar 31 (8 * k + c)) = v) => ?_) (fun (e4 : (ar 31 (8 * k + c)) = v) => ?_)
              · refine V.g2 60 [2, 26, 72, 80, 88] mX7_wordFrom_ok rfl ?_
                refine V.kn [5, 4, 3, 0, 1, 2] [(5, .int (x5 + zi 1)), (4, .int (bI false)), (3, .int x3), (0, .ref 0), (1, .int (nI a)), (2, .int (nI b))] [] (pM fv ar) rfl rfl rfl ?_
                have hw : wdC (ar 31) (ar 13) a b k c = false := decide_eq_false (by rw [← hv]; exact e4)
                refine ih (c + 1) _ false (by omega) (ninc h5) ?_
                rw [alB, hw, ← Bool.and_assoc, ← hB]
                rfl
              · refine V.g2 60 [2, 26, 72, 80, 88] mX7_wordFrom_ok rfl ?_
                refine V.kn [5, 4, 3, 0, 1, 2] [(5, .int (x5 + zi 1)), (4, .int (bI true)), (3, .int x3), (0, .ref 0), (1, .int (nI a)), (2, .int (nI b))] [] (pM fv ar) rfl rfl rfl ?_
                have hw : wdC (ar 31) (ar 13) a b k c = true := decide_eq_true (by rw [← hv]; exact e4)
                refine ih (c + 1) _ true (by omega) (ninc h5) ?_
                rw [alB, hw, ← Bool.and_assoc, ← hB]
                rfl
            refine pk_le b (a + c) (fun e3 => ?_) (fun e3 => ?_) rfl (nadd rfl h5)
            · refine V.nm [(5, .int x5), (4, .int (bI true)), (3, .int x3), (0, .ref 0), (1, .int (nI a)), (2, .int (nI b))] [.int (nI 32), .int ((ar 31) ((8 * k) + c))] (pM fv ar) rfl rfl rfl ?_
              exact t72 _ (by rw [if_neg (by omega)])
            · refine ⟨(a + c), by omega, (nadd rfl h5), rfl, ?_⟩
              refine V.nm [(5, .int x5), (4, .int (bI true)), (3, .int x3), (0, .ref 0), (1, .int (nI a)), (2, .int (nI b))] [.int ((ar 13) (a + c)), .int ((ar 31) ((8 * k) + c))] (pM fv ar) rfl rfl rfl ?_
              exact t72 _ (by rw [if_pos (by omega)])
      refine V.g2 60 [2, 26, 72, 80, 88] mX7_wordFrom_ok rfl ?_
      refine pk_le 12 k (fun e1 => absurd e1 (by omega)) (fun e1 => ?_) rfl h3
      refine pk_lt 8 (b - a) (fun e2 => ?_) (fun e2 => ?_) rfl (nsub (by omega) rfl rfl)
      · refine V.kn [5, 4, 3, 0, 1, 2] [(5, .int (nI 0)), (4, .int (bI false)), (3, .int x3), (0, .ref 0), (1, .int (nI a)), (2, .int (nI b))] [] (pM fv ar) rfl rfl rfl ?_
        exact inner 8 0 _ false rfl rfl (by rw [decide_eq_false (by omega)]; rfl)
      · refine V.kn [5, 4, 3, 0, 1, 2] [(5, .int (nI 0)), (4, .int (bI true)), (3, .int x3), (0, .ref 0), (1, .int (nI a)), (2, .int (nI b))] [] (pM fv ar) rfl rfl rfl ?_
        exact inner 8 0 _ true rfl rfl (by rw [decide_eq_true (by omega)]; rfl)
  subst hS
  refine V.g2 60 [2, 26, 72, 80, 88] mX7_wordFrom_ok rfl ?_
  refine V.kn [3, 0, 1, 2] [(3, .int (nI 0)), (0, .ref 0), (1, .int (nI a)), (2, .int (nI b))] [] (pM fv ar) rfl rfl rfl ?_
  exact loop 12 0 _ rfl rfl rfl
