/-! ===== the reference: what a text says, drags, wishes, rolls ===== -/
def meN (op : Nat) : Nat := if 100 ≤ op then 99900 + op else op
def mPart (co st : fI) (li part : Nat) (Pt : List Nat) : Prop := ∃ s0 : Nat, st (4 * li + part) = nI s0 ∧ st (4 * li + part + 1) = nI (s0 + Pt.length) ∧ s0 + Pt.length ≤ 160 ∧ (∀ k op : Nat, Pt[k]? = some op → co (200 * li + (s0 + k)) = nI (meN op)) ∧ (∀ op ∈ Pt, opOk op) ∧ dpt Pt 0 = some 1
def mTx (co st : fI) (li : Nat) (P : zP) : Prop := li < 6 ∧ mPart co st li 0 P.1 ∧ mPart co st li 1 P.2.1 ∧ mPart co st li 2 P.2.2
def mL (fv : Nat → Int32) (ar : Nat → fI) (P : zP) : Prop := ∃ li, fv 18 = nI li ∧ mTx (ar 15) (ar 16) li P
def zPp (P : zP) (part : Nat) : List Nat := if part = 0 then P.1 else if part = 1 then P.2.1 else P.2.2
theorem mL_part {fv : Nat → Int32} {ar : Nat → fI} {P : zP} (h : mL fv ar P) {part : Nat} (hp : part < 3) : ∃ li, li < 6 ∧ fv 18 = nI li ∧ mPart (ar 15) (ar 16) li part (zPp P part) := by
  obtain ⟨li, h1, h2, h3, h4, h5⟩ := h
  refine ⟨li, h2, h1, ?_⟩
  rcases (show part = 0 ∨ part = 1 ∨ part = 2 by omega) with rfl | rfl | rfl
  · exact h3
  · exact h4
  · exact h5
def T7_two : zT := fun args hs Q => ∃ (x a b : Int32) (op : Nat), isBin op = true ∧ x = nI op ∧ args = [.int x, .int a, .int b] ∧ ∀ r : Int32, r = twF op a b → Q (some (.int r)) hs
theorem c7_two (l : Launch) : Ct l mX7_two false 1 0 0 T7_two := by
  refine Ct.intro mX7_two_ok ?_
  rintro args hs Q ⟨x, a, b, op, hop, hx, rfl, h⟩
  refine ⟨Nat.le_of_ble_eq_true rfl, ?_⟩
  subst hx
  rcases isBin_cases hop with rfl | rfl | rfl | rfl | rfl | rfl | rfl
  · refine V.g2 60 [] mX7_two_ok rfl ?_
    refine V.tsI mX7_two_ok rfl 11 (by decide) (by decide) (by decide) 43 rfl 44 rfl ?_
    refine V.g2 60 [] mX7_two_ok rfl ?_
    refine And.intro (fun e => ?_) (fun e => ?_)
    · exact ⟨_, zsim_rfl _, h _ (by rw [twF, if_neg (fun q => e q.1)]; rfl)⟩
    · refine And.intro (fun e2 => ?_) (fun e2 => ?_)
      · exact ⟨_, zsim_rfl _, h _ (by rw [twF, if_pos ⟨e, e2⟩]; rfl)⟩
      · exact ⟨_, zsim_rfl _, h _ (by rw [twF, if_neg (fun q => e2 q.2)]; rfl)⟩
  · refine V.g2 60 [] mX7_two_ok rfl ?_
    refine V.tsI mX7_two_ok rfl 12 (by decide) (by decide) (by decide) 57 rfl 58 rfl ?_
    refine V.g2 60 [] mX7_two_ok rfl ?_
    refine And.intro (fun e => ?_) (fun e => ?_)
    · exact ⟨_, zsim_rfl _, h _ (by rw [twF, if_pos (Or.inl e)]; rfl)⟩
    · refine And.intro (fun e2 => ?_) (fun e2 => ?_)
      · exact ⟨_, zsim_rfl _, h _ (by rw [twF, if_pos (Or.inr e2)]; rfl)⟩
      · exact ⟨_, zsim_rfl _, h _ (by rw [twF, if_neg (fun q => q.elim e e2)]; rfl)⟩
  · refine V.g2 60 [] mX7_two_ok rfl ?_
    refine V.tsI mX7_two_ok rfl 14 (by decide) (by decide) (by decide) 71 rfl 72 rfl ?_
    refine V.g2 60 [] mX7_two_ok rfl ?_
    refine And.intro (fun e => ?_) (fun e => ?_)
    · exact ⟨_, zsim_rfl _, h _ (by rw [twF, if_neg (Int32.not_lt.mpr e)]; rfl)⟩
    · exact ⟨_, zsim_rfl _, h _ (by rw [twF, if_pos (Int32.not_le.mp e)]; rfl)⟩
  · refine V.g2 60 [] mX7_two_ok rfl ?_
    refine V.tsI mX7_two_ok rfl 15 (by decide) (by decide) (by decide) 82 rfl 83 rfl ?_
    refine V.g2 60 [] mX7_two_ok rfl ?_
    refine And.intro (fun e => ?_) (fun e => ?_)
    · exact ⟨_, zsim_rfl _, h _ (by rw [twF, if_neg e]; rfl)⟩
    · exact ⟨_, zsim_rfl _, h _ (by rw [twF, if_pos e]; rfl)⟩
  · refine V.g2 60 [] mX7_two_ok rfl ?_
    refine V.tsI mX7_two_ok rfl 16 (by decide) (by decide) (by decide) 93 rfl 94 rfl ?_
    refine V.g2 60 [] mX7_two_ok rfl ?_
    exact ⟨_, zsim_rfl _, h _ rfl⟩
  · refine V.g2 60 [] mX7_two_ok rfl ?_
    refine V.tsI mX7_two_ok rfl 17 (by decide) (by decide) (by decide) 97 rfl 98 rfl ?_
    refine V.g2 60 [] mX7_two_ok rfl ?_
    exact ⟨_, zsim_rfl _, h _ rfl⟩
  · refine V.g2 60 [] mX7_two_ok rfl ?_
    refine V.tsO mX7_two_ok rfl (Or.inr (by decide)) 102 rfl ?_
    refine V.g2 60 [] mX7_two_ok rfl ?_
    exact ⟨_, zsim_rfl _, h _ rfl⟩
def T7_says : zT := fun args hs Q => ∃ (fv : Nat → Int32) (ar : Nat → fI) (x : Int32) (part li : Nat) (Pt : List Nat), part < 3 ∧ li < 6 ∧ x = nI part ∧ fv 18 = nI li ∧ mPart (ar 15) (ar 16) li part Pt ∧ args = [.ref 0, .int x] ∧ hs = pM fv ar ∧ ∀ v : Int32, evL (ar 37) Pt [] = some [v] → ∀ sk, Q (some (.int v)) (pM fv (upa ar 36 sk))
set_option maxHeartbeats 4000000 in
theorem c7_says (l : Launch) : Ct l mX7_says false 2 0 0 T7_says := by
  refine Ct.intro mX7_says_ok ?_
  rintro args hs Q ⟨fv, ar, x, part, li, Pt, hpt, hli, hx, hru, ⟨s0, hs0, hs1, hs2, hcd, hop, hdp⟩, rfl, rfl, h⟩
  refine ⟨Nat.le_of_ble_eq_true rfl, ?_⟩
  obtain ⟨sv, hev, hlen⟩ := evL_dpt (ar 37) (ss := []) hdp
  obtain ⟨v, rfl⟩ : ∃ v, sv = [v] := by
    match sv, hlen with
    | [v], _ => exact ⟨v, rfl⟩
  replace h := h v hev
  generalize hS : pM fv ar = S
  have loop : ∀ (ops : List Nat) (k : Nat) (ss : List Int32) (sk : fI) (x3 x2 : Int32), k + ops.length = s0 + Pt.length → x3 = nI k → x2 = nI ss.length → ss.length ≤ k → stR sk ss → (∀ (q op : Nat), ops[q]? = some op → ar 15 (200 * li + (k + q)) = nI (meN op)) → (∀ op ∈ ops, opOk op) → evL (ar 37) ops ss = some [v] → V l mX7_says false S (zrm 2 0 0) (zFm false S Q 0 0) 0 0 16 [(3, .int x3), (2, .int x2), (0, .ref 0), (1, .int x)] [] (pM fv (upa ar 36 sk)) := by
    intro ops
    induction ops with
    | nil =>
      intro k ss sk x3 x2 hk h3 h2 hle hst hc ho hv
      cases hv
      simp only [List.length_nil, Nat.add_zero, List.length_singleton] at hk hle h2
      refine V.g2 60 [16] mX7_says_ok rfl ?_
      refine ⟨(((4 * li) + part) + 1), by omega, (nadd (nadd (nmul rfl hru) hx) rfl), rfl, ?_⟩
      refine pk_le (s0 + Pt.length) k (fun e => ?_) (fun e => absurd e (by omega)) hs1 h3
      refine ⟨0, by omega, rfl, rfl, ?_⟩
      refine ⟨_, zsim_rfl _, ?_⟩
      have e0 : sk 0 = v := hst.1
      have h5 := h sk
      rw [← e0] at h5
      exact h5
    | cons op ops ih =>
      intro k ss sk x3 x2 hk h3 h2 hle hst hc ho hv
      simp only [List.length_cons] at hk
      have hcd0 : ar 15 (200 * li + k) = nI (meN op) := hc 0 op rfl
      have hc' : ∀ (q op' : Nat), ops[q]? = some op' → ar 15 (200 * li + (k + 1 + q)) = nI (meN op') := fun q op' hq => by
        have := hc (q + 1) op' hq
        rw [← this]
        congr 2
        omega
      have ho' : ∀ op' ∈ ops, opOk op' := fun o hm => ho o (List.mem_cons_of_mem _ hm)
      simp only [evL] at hv
      cases hev1 : evO (ar 37) op ss with
      | none => rw [hev1] at hv; cases hv
      | some s2 =>
        rw [hev1] at hv
        replace hv : evL (ar 37) ops s2 = some [v] := hv
        rcases ho op List.mem_cons_self with hq | hq | rfl | rfl | hq
        · have hm : meN op = op := by unfold meN; rw [if_neg (by omega)]
          rw [hm] at hcd0
          rw [evO_name hq] at hev1
          cases hev1
          refine V.g2 60 [16] mX7_says_ok rfl ?_
          refine ⟨(((4 * li) + part) + 1), by omega, (nadd (nadd (nmul rfl hru) hx) rfl), rfl, ?_⟩
          refine pk_le (s0 + Pt.length) k (fun e => absurd e (by omega)) (fun e => ?_) hs1 h3
          refine ⟨((200 * li) + k), by omega, (nadd (nmul rfl hru) h3), rfl, ?_⟩
          refine pk_le 100000 op (fun e => absurd e (by omega)) (fun e => ?_) rfl hcd0
          refine pk_le 11 op (fun e => absurd e (by omega)) (fun e => ?_) rfl hcd0
          refine pk_le 11 op (fun e => absurd e (by omega)) (fun e => ?_) rfl hcd0
          refine ⟨op, by omega, hcd0, rfl, ?_⟩
          refine ⟨ss.length, by omega, h2, rfl, ?_⟩
          refine V.kn [3, 2, 0, 1] [(3, .int (x3 + zi 1)), (2, .int (x2 + zi 1)), (0, .ref 0), (1, .int x)] [] (pM fv (upa ar 36 (upd sk ss.length ((ar 37) op)))) rfl rfl rfl ?_
          exact ih (k + 1) (ar 37 op :: ss) _ _ _ (by omega) (ninc h3) (ninc h2) (by simp only [List.length_cons]; omega) (stR_push hst) hc' ho' hv
        · have hqc := isBin_cases hq
          have hm : meN op = op := by unfold meN; rw [if_neg (by omega)]
          rw [hm] at hcd0
          obtain ⟨a, b, s, rfl, rfl⟩ := evO_bin hq hev1
          simp only [List.length_cons] at h2 hle
          refine V.g2 60 [16] mX7_says_ok rfl ?_
          refine ⟨(((4 * li) + part) + 1), by omega, (nadd (nadd (nmul rfl hru) hx) rfl), rfl, ?_⟩
          refine pk_le (s0 + Pt.length) k (fun e => absurd e (by omega)) (fun e => ?_) hs1 h3
          refine ⟨((200 * li) + k), by omega, (nadd (nmul rfl hru) h3), rfl, ?_⟩
          refine pk_le 100000 op (fun e => absurd e (by omega)) (fun e => ?_) rfl hcd0
          refine pk_le 11 op (fun e => ?_) (fun e => absurd e (by omega)) rfl hcd0
          refine zp_ne op 13 (fun e => ?_) (fun e => absurd e (by omega)) hcd0 rfl
          refine zp_ne op 19 (fun e => ?_) (fun e => absurd e (by omega)) hcd0 rfl
          refine ⟨(((s.length + 1 + 1) - 1) - 1), by omega, (nsub (by omega) (ndec (by omega) h2) rfl), rfl, ?_⟩
          refine ⟨((s.length + 1 + 1) - 1), by omega, (ndec (by omega) h2), rfl, ?_⟩
          refine V.cs mX7_says_ok rfl lX7_193 (c7_two l) rfl rfl rfl rfl ⟨_, _, _, op, hq, hcd0, rfl, fun r hr => ⟨rfl, ?_⟩⟩
          refine V.g2 60 [16] mX7_says_ok rfl ?_
          refine ⟨(((s.length + 1 + 1) - 1) - 1), by omega, (nsub (by omega) (ndec (by omega) h2) rfl), rfl, ?_⟩
          have q1 : sk (s.length + 1) = b := hst.1
          have q2 : sk s.length = a := hst.2.1
          have hr2 : r = twF op a b := by rw [hr]; show twF op (sk s.length) (sk (s.length + 1)) = _; rw [q1, q2]
          refine V.kn [3, 2, 0, 1] [(3, .int (x3 + zi 1)), (2, .int (x2 + zi (-1))), (0, .ref 0), (1, .int x)] [] (pM fv (upa ar 36 (upd sk (((s.length + 1 + 1) - 1) - 1) r))) rfl rfl rfl ?_
          refine ih (k + 1) (twF op a b :: s) _ _ _ (by omega) (ninc h3) (ndec (by omega) h2) (by simp only [List.length_cons]; omega) ?_ hc' ho' hv
          rw [hr2]
          exact stR_push hst.2.2
        · obtain ⟨a, s, rfl, rfl⟩ := evO_not hev1
          simp only [List.length_cons] at h2 hle
          have q1 : sk (s.length + 1 - 1) = a := hst.1
          refine V.g2 60 [16] mX7_says_ok rfl ?_
          refine ⟨(((4 * li) + part) + 1), by omega, (nadd (nadd (nmul rfl hru) hx) rfl), rfl, ?_⟩
          refine pk_le (s0 + Pt.length) k (fun e => absurd e (by omega)) (fun e => ?_) hs1 h3
          refine ⟨((200 * li) + k), by omega, (nadd (nmul rfl hru) h3), rfl, ?_⟩
          refine pk_le 100000 13 (fun e0 => absurd e0 (by omega)) (fun e0 => ?_) rfl hcd0
          refine pk_le 11 13 (fun e0 => ?_) (fun e0 => absurd e0 (by omega)) rfl hcd0
          refine zp_ne 13 13 (fun e0 => absurd e0 (by omega)) (fun e0 => ?_) hcd0 rfl
          refine ⟨((s.length + 1) - 1), by omega, (nsub (by omega) h2 rfl), rfl, ?_⟩
          refine And.intro (fun e0 => ?_) (fun e0 => ?_)
          · refine ⟨((s.length + 1) - 1), by omega, (nsub (by omega) h2 rfl), rfl, ?_⟩
            refine V.kn [3, 2, 0, 1] [(3, .int (x3 + zi 1)), (2, .int x2), (0, .ref 0), (1, .int x)] [] (pM fv (upa ar 36 (upd sk ((s.length + 1) - 1) (nI 0)))) rfl rfl rfl ?_
            refine ih (k + 1) ((if a = 0 then 1 else 0) :: s) _ _ _ (by omega) (ninc h3) h2 (by simp only [List.length_cons]; omega) ?_ hc' ho' hv
            rw [if_neg (fun z => e0 (q1.trans z))]
            exact stR_push hst.2
          · refine ⟨((s.length + 1) - 1), by omega, (nsub (by omega) h2 rfl), rfl, ?_⟩
            refine V.kn [3, 2, 0, 1] [(3, .int (x3 + zi 1)), (2, .int x2), (0, .ref 0), (1, .int x)] [] (pM fv (upa ar 36 (upd sk ((s.length + 1) - 1) (nI 1)))) rfl rfl rfl ?_
            refine ih (k + 1) ((if a = 0 then 1 else 0) :: s) _ _ _ (by omega) (ninc h3) h2 (by simp only [List.length_cons]; omega) ?_ hc' ho' hv
            rw [if_pos (q1.symm.trans e0)]
            exact stR_push hst.2
        · obtain ⟨a, s, rfl, rfl⟩ := evO_neg hev1
          simp only [List.length_cons] at h2 hle
          have q1 : sk (s.length + 1 - 1) = a := hst.1
          refine V.g2 60 [16] mX7_says_ok rfl ?_
          refine ⟨(((4 * li) + part) + 1), by omega, (nadd (nadd (nmul rfl hru) hx) rfl), rfl, ?_⟩
          refine pk_le (s0 + Pt.length) k (fun e => absurd e (by omega)) (fun e => ?_) hs1 h3
          refine ⟨((200 * li) + k), by omega, (nadd (nmul rfl hru) h3), rfl, ?_⟩
          refine pk_le 100000 19 (fun e0 => absurd e0 (by omega)) (fun e0 => ?_) rfl hcd0
          refine pk_le 11 19 (fun e0 => ?_) (fun e0 => absurd e0 (by omega)) rfl hcd0
          refine zp_ne 19 13 (fun e0 => ?_) (fun e0 => absurd e0 (by omega)) hcd0 rfl
          refine zp_ne 19 19 (fun e0 => absurd e0 (by omega)) (fun e0 => ?_) hcd0 rfl
          refine ⟨((s.length + 1) - 1), by omega, (nsub (by omega) h2 rfl), rfl, ?_⟩
          refine ⟨((s.length + 1) - 1), by omega, (nsub (by omega) h2 rfl), rfl, ?_⟩
          refine V.kn [3, 2, 0, 1] [(3, .int (x3 + zi 1)), (2, .int x2), (0, .ref 0), (1, .int x)] [] (pM fv (upa ar 36 (upd sk ((s.length + 1) - 1) (- (sk ((s.length + 1) - 1)))))) rfl rfl rfl ?_
          refine ih (k + 1) (- a :: s) _ _ _ (by omega) (ninc h3) h2 (by simp only [List.length_cons]; omega) ?_ hc' ho' hv
          rw [q1]
          exact stR_push hst.2
        · have hm : meN op = 99900 + op := by unfold meN; rw [if_pos hq.1]
          rw [hm] at hcd0
          rw [evO_num hq.1] at hev1
          cases hev1
          refine V.g2 60 [16] mX7_says_ok rfl ?_
          refine ⟨(((4 * li) + part) + 1), by omega, (nadd (nadd (nmul rfl hru) hx) rfl), rfl, ?_⟩
          refine pk_le (s0 + Pt.length) k (fun e => absurd e (by omega)) (fun e => ?_) hs1 h3
          refine ⟨((200 * li) + k), by omega, (nadd (nmul rfl hru) h3), rfl, ?_⟩
          refine pk_le 100000 (99900 + op) (fun e => ?_) (fun e => absurd e (by omega)) rfl hcd0
          refine pk_le 11 (99900 + op) (fun e => ?_) (fun e => absurd e (by omega)) rfl hcd0
          refine ⟨ss.length, by omega, h2, rfl, ?_⟩
          have ev : ar 15 (200 * li + k) - (100000 : Int32) = nI (op - 100) := (nsub (by omega) hcd0 (show (100000 : Int32) = nI 100000 from rfl)).trans (congrArg nI (by omega))
          refine V.kn [3, 2, 0, 1] [(3, .int (x3 + zi 1)), (2, .int (x2 + zi 1)), (0, .ref 0), (1, .int x)] [] (pM fv (upa ar 36 (upd sk ss.length (((ar 15) ((200 * li) + k)) - (100000 : Int32))))) rfl rfl rfl ?_
          refine ih (k + 1) (nI (op - 100) :: ss) _ _ _ (by omega) (ninc h3) (ninc h2) (by simp only [List.length_cons]; omega) ?_ hc' ho' hv
          rw [← ev]
          exact stR_push hst
  subst hS
  refine V.g2 60 [16] mX7_says_ok rfl ?_
  refine ⟨((4 * li) + part), by omega, (nadd (nmul rfl hru) hx), rfl, ?_⟩
  refine V.kn [3, 2, 0, 1] [(3, .int ((ar 16) ((4 * li) + part))), (2, .int (nI 0)), (0, .ref 0), (1, .int x)] [] (pM fv ar) rfl rfl rfl ?_
  exact loop Pt s0 [] (ar 36) _ _ rfl hs0 rfl (Nat.zero_le _) trivial hcd hop hev
theorem wn99 (v : Int32) : wnF v (nI 0) (nI 99) = c99 v := by
  unfold wnF c99
  by_cases h1 : v < nI 0
  · rw [if_pos h1, if_pos (show v < nI 99 from Int32.lt_trans h1 (by decide)), if_neg (Int32.not_lt.mpr (Int32.le_of_lt h1))]
  · rw [if_neg h1]
    by_cases h2 : nI 99 < v
    · rw [if_pos h2, if_neg (Int32.not_lt.mpr (Int32.le_of_lt h2)), if_pos (by decide)]
    · rw [if_neg h2]
      by_cases h3 : v < nI 99
      · rw [if_pos h3]
        by_cases h4 : nI 0 < v
        · rw [if_pos h4]
        · rw [if_neg h4]; exact Int32.le_antisymm (Int32.not_lt.mp h4) (Int32.not_lt.mp h1)
      · rw [if_neg h3, if_pos (by decide)]; exact Int32.le_antisymm (Int32.not_lt.mp h2) (Int32.not_lt.mp h3)
def T7_asksOf : zT := fun args hs Q => ∃ (fv : Nat → Int32) (ar : Nat → fI) (x lo ha te mo wh : Int32) (part : Nat) (P : zP), part < 3 ∧ x = nI part ∧ mL fv ar P ∧ args = [.ref 0, .int x, .int lo, .int ha, .int te, .int mo, .int wh] ∧ hs = pM fv ar ∧ ∀ r : Int32, r = sayF (zPp P part) (nmF lo ha (fv 5) te mo wh) → ∀ sk nm, Q (some (.int r)) (pM fv (upa (upa ar 36 sk) 37 nm))
theorem c7_asksOf (l : Launch) : Ct l mX7_asksOf false 3 0 0 T7_asksOf := by
  refine Ct.intro mX7_asksOf_ok ?_
  rintro args hs Q ⟨fv, ar, x, lo, ha, te, mo, wh, part, P, hpt, hx, hL, rfl, rfl, h⟩
  refine ⟨Nat.le_of_ble_eq_true rfl, ?_⟩
  obtain ⟨li, hli, hru, hmp⟩ := mL_part hL hpt
  refine V.g2 60 [] mX7_asksOf_ok rfl ?_
  refine ⟨0, by omega, rfl, rfl, ?_⟩
  refine ⟨1, by omega, rfl, rfl, ?_⟩
  refine ⟨2, by omega, rfl, rfl, ?_⟩
  refine ⟨3, by omega, rfl, rfl, ?_⟩
  refine ⟨4, by omega, rfl, rfl, ?_⟩
  refine ⟨5, by omega, rfl, rfl, ?_⟩
  generalize hnm : (upd (upd (upd (upd (upd (upd (ar 37) 0 lo) 1 ha) 2 (fv 5)) 3 te) 4 mo) 5 wh) = nm
  refine V.nm [(0, .ref 0), (1, .int x), (2, .int lo), (3, .int ha), (4, .int te), (5, .int mo), (6, .int wh)] [.int x, .ref 0] (pM fv (upa ar 37 nm)) rfl rfl rfl ?_
  refine V.cw mX7_asksOf_ok rfl lX7_197 (c7_says l) rfl 0 7 rfl rfl rfl rfl rfl rfl ⟨fv, upa ar 37 nm, x, part, li, zPp P part, hpt, hli, hx, hru, hmp, rfl, rfl, fun v hv sk => ⟨rfl, ?_⟩⟩
  refine V.g2 60 [] mX7_asksOf_ok rfl ?_
  refine V.cs mX7_asksOf_ok rfl lX7_200 (c7_within l) rfl rfl rfl rfl ⟨_, _, _, rfl, fun r hr => ⟨rfl, ?_⟩⟩
  refine V.g2 60 [] mX7_asksOf_ok rfl ?_
  refine ⟨_, zsim_rfl _, ?_⟩
  refine h r ?_ sk nm
  rw [hr]
  show wnF v (nI 0) (nI 99) = _
  rw [wn99, ← nm_all (nm := nm) (by rw [← hnm]; rfl) (by rw [← hnm]; rfl) (by rw [← hnm]; rfl) (by rw [← hnm]; rfl) (by rw [← hnm]; rfl) (by rw [← hnm]; rfl)]
  unfold sayF
  rw [show evL nm (zPp P part) [] = some [v] from hv]
def asB (p y z w : Int32) : Bool := wiB p 2 && wiB y 9999 && wiB z 29 && wiB w 3
def T7_asks : zT := fun args hs Q => ∃ (fv : Nat → Int32) (ar : Nat → fI) (x y z w : Int32) (P : zP), mL fv ar P ∧ args = [.ref 0, .int x, .int y, .int z, .int w] ∧ hs = pM fv ar ∧ (asB x y z w = false → Q (some (.int (-2))) hs) ∧ (∀ part lh te j, part < 3 → lh < 10000 → te < 30 → j < 4 → x = nI part → y = nI lh → z = nI te → w = nI j → ∀ sk nm, Q (some (.int (sayF (zPp P part) (nmF (nI (lh / 100)) (nI (lh % 100)) (fv 5) (nI te) (ar 1 j) (nI j))))) (pM fv (upa (upa ar 36 sk) 37 nm)))
theorem c7_asks (l : Launch) : Ct l mX7_asks false 4 0 0 T7_asks := by
  refine Ct.intro mX7_asks_ok ?_
  rintro args hs Q ⟨fv, ar, x, y, z, w, P, hL, rfl, rfl, h0, h1⟩
  refine ⟨Nat.le_of_ble_eq_true rfl, ?_⟩
  have t39 : asB x y z w = false → V l mX7_asks false (pM fv ar) (zrm 4 0 0) (zFm false (pM fv ar) Q 0 0) 0 0 39 [(0, .ref 0), (1, .int x), (2, .int y), (3, .int z), (4, .int w)] [] (pM fv ar) := by
    intro  hf
    refine V.g2 60 [39] mX7_asks_ok rfl ?_
    refine pk_eq 0 0 (fun e0 => ?_) (fun e0 => absurd e0 (by omega)) rfl rfl
    exact ⟨_, zsim_rfl _, h0 hf⟩
  refine V.g2 60 [39] mX7_asks_ok rfl ?_
  refine V.cs mX7_asks_ok rfl lX7_117 (c7_in l) rfl rfl rfl rfl ⟨_, _, _, rfl, fun B hB => ⟨rfl, ?_⟩⟩
  rcases B with _ | _
  · refine V.g2 60 [39] mX7_asks_ok rfl ?_
    refine And.intro (fun _ => ?_) (fun e => absurd rfl e)
    refine V.kn [0, 1, 2, 3, 4] [(0, .ref 0), (1, .int x), (2, .int y), (3, .int z), (4, .int w)] [] (pM fv ar) rfl rfl rfl ?_
    exact t39 (by rw [asB, show wiB x 2 = false from hB.symm]; rfl)
  · refine V.g2 60 [39] mX7_asks_ok rfl ?_
    refine And.intro (fun e => absurd e (by decide)) (fun _ => ?_)
    refine V.cs mX7_asks_ok rfl lX7_117 (c7_in l) rfl rfl rfl rfl ⟨_, _, _, rfl, fun B2 hB2 => ⟨rfl, ?_⟩⟩
    rcases B2 with _ | _
    · refine V.g2 60 [39] mX7_asks_ok rfl ?_
      refine And.intro (fun _ => ?_) (fun e => absurd rfl e)
      refine V.kn [0, 1, 2, 3, 4] [(0, .ref 0), (1, .int x), (2, .int y), (3, .int z), (4, .int w)] [] (pM fv ar) rfl rfl rfl ?_
      exact t39 (by rw [asB, show wiB y 9999 = false from hB2.symm, Bool.and_false]; rfl)
    · refine V.g2 60 [39] mX7_asks_ok rfl ?_
      refine And.intro (fun e => absurd e (by decide)) (fun _ => ?_)
      refine V.cs mX7_asks_ok rfl lX7_203 (c7_isTenth l) rfl rfl rfl rfl ⟨_, rfl, fun B3 hB3 => ⟨rfl, ?_⟩⟩
      rcases B3 with _ | _
      · refine V.g2 60 [39] mX7_asks_ok rfl ?_
        refine And.intro (fun _ => ?_) (fun e => absurd rfl e)
        refine V.kn [0, 1, 2, 3, 4] [(0, .ref 0), (1, .int x), (2, .int y), (3, .int z), (4, .int w)] [] (pM fv ar) rfl rfl rfl ?_
        exact t39 (by rw [asB, show wiB z 29 = false from hB3.symm, Bool.and_false]; rfl)
      · refine V.g2 60 [39] mX7_asks_ok rfl ?_
        refine And.intro (fun e => absurd e (by decide)) (fun _ => ?_)
        refine V.cs mX7_asks_ok rfl lX7_206 (c7_isWheel l) rfl rfl rfl rfl ⟨_, rfl, fun B4 hB4 => ⟨rfl, ?_⟩⟩
        rcases B4 with _ | _
        · refine V.g2 60 [39] mX7_asks_ok rfl ?_
          refine And.intro (fun _ => ?_) (fun e => absurd rfl e)
          refine V.kn [0, 1, 2, 3, 4] [(0, .ref 0), (1, .int x), (2, .int y), (3, .int z), (4, .int w)] [] (pM fv ar) rfl rfl rfl ?_
          exact t39 (by rw [asB, show wiB w 3 = false from hB4.symm, Bool.and_false])
        · obtain ⟨part, hpt, rfl⟩ := wiB_t (n := 2) hB.symm (by omega)
          obtain ⟨lh, hlh, rfl⟩ := wiB_t (n := 9999) hB2.symm (by omega)
          obtain ⟨te, hte, rfl⟩ := wiB_t hB3.symm (by omega)
          obtain ⟨j, hj, rfl⟩ := wiB_t hB4.symm (by omega)
          have h := h1 part lh te j hpt hlh hte hj rfl rfl rfl rfl
          refine V.g2 60 [39] mX7_asks_ok rfl ?_
          refine And.intro (fun e => absurd e (by decide)) (fun _ => ?_)
          refine pk_eq 1 0 (fun e0 => absurd e0 (by omega)) (fun e0 => ?_) rfl rfl
          refine And.intro (show ¬ (nI 100) = 0 by decide) ?_
          refine And.intro (show ¬ (nI 100) = 0 by decide) ?_
          refine ⟨j, by omega, rfl, rfl, ?_⟩
          have e1 : ((nI lh) / (nI 100)) = nI (lh / 100) := (ndiv rfl rfl (by omega) (by omega) (by omega))
          have e2 : ((nI lh) - (nI lh) / (nI 100) * (nI 100)) = nI (lh % 100) := (nrem rfl rfl (by omega) (by omega) (by omega))
          refine V.cw mX7_asks_ok rfl lX7_209 (c7_asksOf l) rfl 0 7 rfl rfl rfl rfl rfl rfl ⟨fv, ar, _, _, _, _, _, _, part, P, hpt, rfl, hL, rfl, rfl, fun r hr sk nm => ⟨rfl, ?_⟩⟩
          refine V.g2 60 [39] mX7_asks_ok rfl ?_
          refine ⟨_, zsim_rfl _, ?_⟩
          replace hr : r = sayF (zPp P part) (nmF ((nI lh) / (nI 100)) ((nI lh) - (nI lh) / (nI 100) * (nI 100)) (fv 5) (nI te) (ar 1 j) (nI j)) := hr
          rw [e2, e1] at hr
          rw [hr]
          exact h sk nm
def T7_dragsOf : zT := fun args hs Q => ∃ (fv : Nat → Int32) (ar : Nat → fI) (x y : Int32) (w t : Nat) (P : zP), w < 4 ∧ t < 30 ∧ x = nI w ∧ y = nI t ∧ kOk (cM fv ar) ∧ mL fv ar P ∧ args = [.ref 0, .int x, .int y] ∧ hs = pM fv ar ∧ ∀ r : Int32, r = drF (cM fv ar) w (drS (cM fv ar) P (ar 4) (nI t) w) t → ∀ sk nm, Q (some (.int r)) (pM fv (upa (upa ar 36 sk) 37 nm))
set_option maxHeartbeats 4000000 in
theorem c7_dragsOf (l : Launch) : Ct l mX7_dragsOf false 4 0 0 T7_dragsOf := by
  refine Ct.intro mX7_dragsOf_ok ?_
  rintro args hs Q ⟨fv, ar, x, y, w, t, P, hw, ht, hx, hy, hok, hL, rfl, rfl, h⟩
  refine ⟨Nat.le_of_ble_eq_true rfl, ?_⟩
  subst hx
  subst hy
  obtain ⟨hk6, hkd⟩ := hok w hw
  obtain ⟨k, hkk⟩ : ∃ k, k = kw (cM fv ar) w := ⟨_, rfl⟩
  rw [← hkk] at hk6 hkd
  obtain ⟨u3, u1, u2, u4⟩ := isU_cases k hk6
  refine V.g2 60 [] mX7_dragsOf_ok rfl ?_
  refine V.cw mX7_dragsOf_ok rfl lX7_130 (c7_loadOn l) rfl 0 7 rfl rfl rfl rfl rfl rfl ⟨fv, ar, _, w, hw, rfl, rfl, rfl, fun ld hld => ⟨rfl, ?_⟩⟩
  refine V.g2 60 [] mX7_dragsOf_ok rfl ?_
  refine ⟨w, by omega, rfl, rfl, ?_⟩
  refine And.intro (show ¬ (nI 2) = 0 by decide) ?_
  refine ⟨(w % 2), by omega, (nrem rfl rfl (by omega) (by omega) (by omega)), rfl, ?_⟩
  have e1 : ((ar 4) (w % 2)) = ar 4 (w % 2) := rfl
  refine V.cw mX7_dragsOf_ok rfl lX7_209 (c7_asksOf l) rfl 0 7 rfl rfl rfl rfl rfl rfl ⟨fv, ar, _, _, _, _, _, _, 0, P, by omega, rfl, hL, rfl, rfl, fun v hv sk nm => ⟨rfl, ?_⟩⟩
  replace hv : v = drS (cM fv ar) P (ar 4) (nI t) w := by rw [hv, hld]; rfl
  rcases (show k = 0 ∨ k = 1 ∨ k = 2 ∨ k = 3 ∨ k = 4 ∨ k = 5 by omega) with rfl | rfl | rfl | rfl | rfl | rfl
  · refine V.g2 60 [] mX7_dragsOf_ok rfl ?_
    refine ⟨w, by omega, rfl, rfl, ?_⟩
    refine pk_eq 0 1 (fun e0 => absurd e0 (by omega)) (fun e0 => ?_) hkd rfl
    refine zp_ne 0 3 (fun e0 => ?_) (fun e0 => absurd e0 (by omega)) hkd rfl
    refine zp_ne 0 3 (fun e0 => ?_) (fun e0 => absurd e0 (by omega)) hkd rfl
    refine zp_ne 0 5 (fun e0 => ?_) (fun e0 => absurd e0 (by omega)) hkd rfl
    refine ⟨_, zsim_rfl _, ?_⟩
    refine h _ ?_ sk nm
    unfold drF
    rw [if_neg (fun q => absurd (hkd.symm.trans q.1) (by decide)), ← hkk, ← hv, ← hld]
    rfl
  · refine V.g2 60 [] mX7_dragsOf_ok rfl ?_
    refine ⟨w, by omega, rfl, rfl, ?_⟩
    refine pk_eq 1 1 (fun e0 => ?_) (fun e0 => absurd e0 (by omega)) hkd rfl
    refine zp_ne 1 3 (fun e0 => ?_) (fun e0 => absurd e0 (by omega)) hkd rfl
    refine zp_ne 1 5 (fun e0 => ?_) (fun e0 => absurd e0 (by omega)) hkd rfl
    refine ⟨_, zsim_rfl _, ?_⟩
    refine h _ ?_ sk nm
    unfold drF
    rw [if_neg (fun q => absurd (hkd.symm.trans q.1) (by decide)), ← hkk, ← hv, ← hld]
    rfl
  · refine V.g2 60 [] mX7_dragsOf_ok rfl ?_
    refine ⟨w, by omega, rfl, rfl, ?_⟩
    refine pk_eq 2 1 (fun e0 => absurd e0 (by omega)) (fun e0 => ?_) hkd rfl
    refine zp_ne 2 3 (fun e0 => ?_) (fun e0 => absurd e0 (by omega)) hkd rfl
    refine zp_ne 2 3 (fun e0 => ?_) (fun e0 => absurd e0 (by omega)) hkd rfl
    refine zp_ne 2 5 (fun e0 => ?_) (fun e0 => absurd e0 (by omega)) hkd rfl
    refine ⟨_, zsim_rfl _, ?_⟩
    refine h _ ?_ sk nm
    unfold drF
    rw [if_neg (fun q => absurd (hkd.symm.trans q.1) (by decide)), ← hkk, ← hv, ← hld]
    rfl
  · refine V.g2 60 [] mX7_dragsOf_ok rfl ?_
    refine ⟨w, by omega, rfl, rfl, ?_⟩
    refine pk_eq 3 1 (fun e0 => absurd e0 (by omega)) (fun e0 => ?_) hkd rfl
    refine zp_ne 3 3 (fun e0 => absurd e0 (by omega)) (fun e0 => ?_) hkd rfl
    refine zp_ne 3 3 (fun e0 => absurd e0 (by omega)) (fun e0 => ?_) hkd rfl
    refine And.intro (show ¬ (nI 4) = 0 by decide) ?_
    refine zp_ne 3 5 (fun e0 => ?_) (fun e0 => absurd e0 (by omega)) hkd rfl
    refine ⟨_, zsim_rfl _, ?_⟩
    refine h _ ?_ sk nm
    unfold drF
    rw [if_neg (fun q => absurd (hkd.symm.trans q.1) (by decide)), ← hkk, ← hv, ← hld]
    rfl
  · refine V.g2 60 [] mX7_dragsOf_ok rfl ?_
    refine ⟨w, by omega, rfl, rfl, ?_⟩
    refine pk_eq 4 1 (fun e0 => absurd e0 (by omega)) (fun e0 => ?_) hkd rfl
    refine zp_ne 4 3 (fun e0 => ?_) (fun e0 => absurd e0 (by omega)) hkd rfl
    refine zp_ne 4 3 (fun e0 => ?_) (fun e0 => absurd e0 (by omega)) hkd rfl
    refine zp_ne 4 5 (fun e0 => ?_) (fun e0 => absurd e0 (by omega)) hkd rfl
    refine ⟨_, zsim_rfl _, ?_⟩
    refine h _ ?_ sk nm
    unfold drF
    rw [if_neg (fun q => absurd (hkd.symm.trans q.1) (by decide)), ← hkk, ← hv, ← hld]
    rfl
  · refine V.g2 60 [] mX7_dragsOf_ok rfl ?_
    refine ⟨w, by omega, rfl, rfl, ?_⟩
    refine pk_eq 5 1 (fun e0 => absurd e0 (by omega)) (fun e0 => ?_) hkd rfl
    refine zp_ne 5 3 (fun e0 => ?_) (fun e0 => absurd e0 (by omega)) hkd rfl
    refine zp_ne 5 3 (fun e0 => ?_) (fun e0 => absurd e0 (by omega)) hkd rfl
    refine zp_ne 5 5 (fun e0 => absurd e0 (by omega)) (fun e0 => ?_) hkd rfl
    refine And.intro (fun e => ?_) (fun e => ?_)
    · refine ⟨_, zsim_rfl _, ?_⟩
      refine h _ ?_ sk nm
      unfold drF
      rw [if_neg (fun q => absurd q.2 (Int32.not_le.mpr (by rw [← hld]; exact e))), ← hkk, ← hv]
      rfl
    · refine ⟨_, zsim_rfl _, ?_⟩
      refine h _ ?_ sk nm
      unfold drF
      rw [if_pos ⟨hkd, by rw [← hld]; exact Int32.not_lt.mp e⟩]
      rfl
def T7_wishes : zT := fun args hs Q => ∃ (fv : Nat → Int32) (ar : Nat → fI) (x y : Int32) (w t : Nat), w < 4 ∧ t < 30 ∧ x = nI w ∧ y = nI t ∧ kOk (cM fv ar) ∧ args = [.ref 0, .int x, .int y] ∧ hs = pM fv ar ∧ ∀ r : Int32, r = wiF (cM fv ar) w t → Q (some (.int r)) hs
theorem c7_wishes (l : Launch) : Ct l mX7_wishes false 1 0 0 T7_wishes := by
  refine Ct.intro mX7_wishes_ok ?_
  rintro args hs Q ⟨fv, ar, x, y, w, t, hw, ht, hx, hy, hok, rfl, rfl, h⟩
  refine ⟨Nat.le_of_ble_eq_true rfl, ?_⟩
  subst hx
  subst hy
  obtain ⟨hk6, hkd⟩ := hok w hw
  obtain ⟨k, hkk⟩ : ∃ k, k = kw (cM fv ar) w := ⟨_, rfl⟩
  rw [← hkk] at hk6 hkd
  obtain ⟨u3, u1, u2, u4⟩ := isU_cases k hk6
  rcases (show k = 0 ∨ k = 1 ∨ k = 2 ∨ k = 3 ∨ k = 4 ∨ k = 5 by omega) with rfl | rfl | rfl | rfl | rfl | rfl
  · refine V.g2 60 [] mX7_wishes_ok rfl ?_
    refine ⟨w, by omega, rfl, rfl, ?_⟩
    refine ⟨w, by omega, rfl, rfl, ?_⟩
    refine zp_ne 0 4 (fun e0 => ?_) (fun e0 => absurd e0 (by omega)) hkd rfl
    refine ⟨w, by omega, rfl, rfl, ?_⟩
    refine pk_eq 0 2 (fun e0 => absurd e0 (by omega)) (fun e0 => ?_) hkd rfl
    refine ⟨w, by omega, rfl, rfl, ?_⟩
    refine zp_ne 0 4 (fun e0 => ?_) (fun e0 => absurd e0 (by omega)) hkd rfl
    exact ⟨_, zsim_rfl _, h _ (by unfold wiF; rw [← hkk, if_neg (fun q => by cases q.1)]; rfl)⟩
  · refine V.g2 60 [] mX7_wishes_ok rfl ?_
    refine ⟨w, by omega, rfl, rfl, ?_⟩
    refine ⟨w, by omega, rfl, rfl, ?_⟩
    refine zp_ne 1 4 (fun e0 => ?_) (fun e0 => absurd e0 (by omega)) hkd rfl
    refine ⟨w, by omega, rfl, rfl, ?_⟩
    refine pk_eq 1 2 (fun e0 => absurd e0 (by omega)) (fun e0 => ?_) hkd rfl
    refine ⟨w, by omega, rfl, rfl, ?_⟩
    refine zp_ne 1 4 (fun e0 => ?_) (fun e0 => absurd e0 (by omega)) hkd rfl
    exact ⟨_, zsim_rfl _, h _ (by unfold wiF; rw [← hkk, if_neg (fun q => by cases q.1)]; rfl)⟩
  · refine V.g2 60 [] mX7_wishes_ok rfl ?_
    refine ⟨w, by omega, rfl, rfl, ?_⟩
    refine ⟨w, by omega, rfl, rfl, ?_⟩
    refine zp_ne 2 4 (fun e0 => ?_) (fun e0 => absurd e0 (by omega)) hkd rfl
    refine ⟨w, by omega, rfl, rfl, ?_⟩
    refine pk_eq 2 2 (fun e0 => ?_) (fun e0 => absurd e0 (by omega)) hkd rfl
    exact ⟨_, zsim_rfl _, h _ (by unfold wiF; rw [← hkk, if_neg (fun q => by cases q.1)]; rfl)⟩
  · refine V.g2 60 [] mX7_wishes_ok rfl ?_
    refine ⟨w, by omega, rfl, rfl, ?_⟩
    refine ⟨w, by omega, rfl, rfl, ?_⟩
    refine zp_ne 3 4 (fun e0 => ?_) (fun e0 => absurd e0 (by omega)) hkd rfl
    refine ⟨w, by omega, rfl, rfl, ?_⟩
    refine pk_eq 3 2 (fun e0 => absurd e0 (by omega)) (fun e0 => ?_) hkd rfl
    refine ⟨w, by omega, rfl, rfl, ?_⟩
    refine zp_ne 3 4 (fun e0 => ?_) (fun e0 => absurd e0 (by omega)) hkd rfl
    exact ⟨_, zsim_rfl _, h _ (by unfold wiF; rw [← hkk, if_neg (fun q => by cases q.1)]; rfl)⟩
  · refine V.g2 60 [] mX7_wishes_ok rfl ?_
    refine ⟨w, by omega, rfl, rfl, ?_⟩
    refine ⟨w, by omega, rfl, rfl, ?_⟩
    refine zp_ne 4 4 (fun e0 => absurd e0 (by omega)) (fun e0 => ?_) hkd rfl
    refine And.intro (fun e => ?_) (fun e => ?_)
    · refine ⟨w, by omega, rfl, rfl, ?_⟩
      refine pk_eq 4 2 (fun e0 => absurd e0 (by omega)) (fun e0 => ?_) hkd rfl
      refine ⟨w, by omega, rfl, rfl, ?_⟩
      refine zp_ne 4 4 (fun e0 => absurd e0 (by omega)) (fun e0 => ?_) hkd rfl
      exact ⟨_, zsim_rfl _, h _ (by unfold wiF; rw [if_neg (fun q => absurd q.2 (Int32.not_lt.mpr e)), ← hkk]; rfl)⟩
    · refine And.intro (show ¬ (nI 2) = 0 by decide) ?_
      refine zp_ne (t % 2) 1 (fun e2 => ?_) (fun e2 => ?_) (nrem rfl rfl (by omega) (by omega) (by omega)) rfl
      · exact ⟨_, zsim_rfl _, h _ (by unfold wiF; rw [← hkk, if_pos ⟨rfl, Int32.not_le.mp e⟩, if_pos (by omega)]; rfl)⟩
      · exact ⟨_, zsim_rfl _, h _ (by unfold wiF; rw [← hkk, if_pos ⟨rfl, Int32.not_le.mp e⟩, if_neg (by omega)]; rfl)⟩
  · refine V.g2 60 [] mX7_wishes_ok rfl ?_
    refine ⟨w, by omega, rfl, rfl, ?_⟩
    refine ⟨w, by omega, rfl, rfl, ?_⟩
    refine zp_ne 5 4 (fun e0 => ?_) (fun e0 => absurd e0 (by omega)) hkd rfl
    refine ⟨w, by omega, rfl, rfl, ?_⟩
    refine pk_eq 5 2 (fun e0 => absurd e0 (by omega)) (fun e0 => ?_) hkd rfl
    refine ⟨w, by omega, rfl, rfl, ?_⟩
    refine zp_ne 5 4 (fun e0 => ?_) (fun e0 => absurd e0 (by omega)) hkd rfl
    exact ⟨_, zsim_rfl _, h _ (by unfold wiF; rw [← hkk, if_neg (fun q => by cases q.1)]; rfl)⟩
def T7_pullIn : zT := fun args hs Q => ∃ (fv : Nat → Int32) (ar : Nat → fI) (x : Int32) (t : Nat) (P : zP), t < 30 ∧ x = nI t ∧ kOk (cM fv ar) ∧ mL fv ar P ∧ args = [.ref 0, .int x] ∧ hs = pM fv ar ∧ ∀ r : Int32, r = plF (cM fv ar) (ar 4) (drS (cM fv ar) P (ar 4) (nI t)) t 4 → ∀ sk nm, Q (some (.int r)) (pM fv (upa (upa ar 36 sk) 37 nm))
set_option maxHeartbeats 4000000 in
theorem c7_pullIn (l : Launch) : Ct l mX7_pullIn false 5 0 0 T7_pullIn := by
  refine Ct.intro mX7_pullIn_ok ?_
  rintro args hs Q ⟨fv, ar, x, t, P, ht, hx, hok, hL, rfl, rfl, h⟩
  refine ⟨Nat.le_of_ble_eq_true rfl, ?_⟩
  subst hx
  generalize hS : pM fv ar = S
  have loop : ∀ (m w : Nat) (x3 x2 : Int32) (sk nm : fI), w + m = 4 → x3 = nI w → x2 = plF (cM fv ar) (ar 4) (drS (cM fv ar) P (ar 4) (nI t)) t w → V l mX7_pullIn false S (zrm 5 0 0) (zFm false S Q 0 0) 0 0 18 [(3, .int x3), (2, .int x2), (0, .ref 0), (1, .int (nI t))] [] (pM fv (upa (upa ar 36 sk) 37 nm)) := by
    intro m
    induction m with
    | zero =>
      intro w x3 x2 sk nm hw h3 h2
      obtain rfl : w = 4 := by omega
      refine V.g2 60 [18] mX7_pullIn_ok rfl ?_
      refine pk_le 4 4 (fun e0 => ?_) (fun e0 => absurd e0 (by omega)) rfl h3
      exact ⟨_, zsim_rfl _, h _ h2 sk nm⟩
    | succ m ih =>
      intro w x3 x2 sk nm hw h3 h2
      refine V.g2 60 [18] mX7_pullIn_ok rfl ?_
      refine pk_le 4 w (fun e => absurd e (by omega)) (fun e => ?_) rfl h3
      refine V.cw mX7_pullIn_ok rfl lX7_223 (c7_dragsOf l) rfl 0 7 rfl rfl rfl rfl rfl rfl ⟨fv, upa (upa ar 36 sk) 37 nm, _, _, w, t, P, by omega, ht, h3, rfl, hok, hL, rfl, rfl, fun d hd sk2 nm2 => ⟨rfl, ?_⟩⟩
      refine V.g2 60 [18] mX7_pullIn_ok rfl ?_
      refine And.intro (show ¬ (nI 2) = 0 by decide) ?_
      refine zp_ne (w % 2) 0 (fun e => ?_) (fun e => ?_) (nrem h3 rfl (by omega) (by omega) (by omega)) rfl
      · refine V.cw mX7_pullIn_ok rfl lX7_226 (c7_wishes l) rfl 0 7 rfl rfl rfl rfl rfl rfl ⟨fv, upa (upa ar 36 sk2) 37 nm2, _, _, w, t, by omega, ht, h3, rfl, hok, rfl, rfl, fun wi hwi => ⟨rfl, ?_⟩⟩
        refine V.g2 60 [18] mX7_pullIn_ok rfl ?_
        refine V.kn [3, 2, 0, 1] [(3, .int (x3 + zi 1)), (2, .int (x2 + ((- d) + wi))), (0, .ref 0), (1, .int (nI t))] [] (pM fv (upa (upa ar 36 sk2) 37 nm2)) rfl rfl rfl ?_
        refine ih (w + 1) _ _ sk2 nm2 (by omega) (ninc h3) ?_
        rw [plF, if_neg e, hwi, h2, hd, Int32.add_assoc]
        rfl
      · refine V.cw mX7_pullIn_ok rfl lX7_226 (c7_wishes l) rfl 0 7 rfl rfl rfl rfl rfl rfl ⟨fv, upa (upa ar 36 sk2) 37 nm2, _, _, w, t, by omega, ht, h3, rfl, hok, rfl, rfl, fun wi hwi => ⟨rfl, ?_⟩⟩
        refine V.g2 60 [18] mX7_pullIn_ok rfl ?_
        refine V.kn [3, 2, 0, 1] [(3, .int (x3 + zi 1)), (2, .int (x2 + (d + wi))), (0, .ref 0), (1, .int (nI t))] [] (pM fv (upa (upa ar 36 sk2) 37 nm2)) rfl rfl rfl ?_
        refine ih (w + 1) _ _ sk2 nm2 (by omega) (ninc h3) ?_
        rw [plF, if_pos e, hwi, h2, hd, Int32.add_assoc]
        rfl
  subst hS
  refine V.g2 60 [18] mX7_pullIn_ok rfl ?_
  refine ⟨1, by omega, rfl, rfl, ?_⟩
  refine ⟨0, by omega, rfl, rfl, ?_⟩
  refine V.kn [3, 2, 0, 1] [(3, .int (nI 0)), (2, .int ((nI 3) * (((ar 4) 1) - ((ar 4) 0)))), (0, .ref 0), (1, .int (nI t))] [] (pM fv ar) rfl rfl rfl ?_
  exact loop 4 0 _ _ (ar 36) (ar 37) rfl rfl rfl
def T7_begins : zT := fun args hs Q => ∃ (fv : Nat → Int32) (ar : Nat → fI) , args = [.ref 0] ∧ hs = pM fv ar ∧ Q none (pM (f4 fv r0) ar)
theorem c7_begins (l : Launch) : Ct l mX7_begins false 1 0 0 T7_begins := by
  refine Ct.intro mX7_begins_ok ?_
  rintro args hs Q ⟨fv, ar, rfl, rfl, h⟩
  refine ⟨Nat.le_of_ble_eq_true rfl, ?_⟩
  refine V.g2 60 [] mX7_begins_ok rfl ?_
  refine ⟨_, zsim_rfl _, ?_⟩
  exact h
