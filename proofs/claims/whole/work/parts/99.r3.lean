/-! ===== the class: the reader's recursion, level by level ===== -/
theorem Ct.mono {l : Launch} {M : zM} {b : Bool} {d mc ms : Nat} {T T2 : zT} (h : Ct l M b d mc ms T) (hm : ∀ args hs Q, T2 args hs Q → T args hs Q) : Ct l M b d mc ms T2 := fun D tc ad args hs Q sz hT => h D tc ad args hs Q sz (hm args hs Q hT)
theorem hRk {M' : zM} {d' k : Nat} (h : d' + 1 ≤ k) (hm : zmax M' ≤ 29) : (Nat.ble (d' + 1) (zrm k 0 0).frames && Nat.ble (8 + (zmax M' + 11) + 48 * d') (zrm k 0 0).locals && (Nat.ble (0 + 0) (zrm k 0 0).cells && Nat.ble (0 + 0) (zrm k 0 0).slots)) = true := by
  have h1 : Nat.ble (d' + 1) k = true := Nat.ble_eq_true_of_le h
  have h2 : Nat.ble (8 + (zmax M' + 11) + 48 * d') (48 * k) = true := Nat.ble_eq_true_of_le (by omega)
  show (Nat.ble (d' + 1) k && Nat.ble (8 + (zmax M' + 11) + 48 * d') (48 * k) && (Nat.ble 0 0 && Nat.ble 0 0)) = true
  rw [h1, h2]
  rfl
abbrev pRz (tp : fI) (n : Nat) (eds : fI) (s : zS) (cod : fI) : List zE := pRd 0 (tp, nI n, nI s.1, s.2.1, nI s.2.2.1, s.2.2.2.1, s.2.2.2.2.1, cod, nI s.2.2.2.2.2.length, eds)
def rdI (n : Nat) (s : zS) (cod : fI) : Prop := s.1 ≤ n ∧ s.2.2.2.2.2.length ≤ 160 ∧ stR cod s.2.2.2.2.2
def T_q (tp : fI) (n : Nat) (as : List Value) (f : zS → zS) : zT := fun args hs Q => ∃ (s : zS) (cod eds : fI), n ≤ 160 ∧ rdI n s cod ∧ args = .ref 0 :: as ∧ hs = pRz tp n eds s cod ∧ ∀ cod2, rdI n (f s) cod2 → Q none (pRz tp n eds (f s) cod2)
def qFl (s : zS) : zS := (s.1, nI 300, s.2.2.1, s.2.2.2.1, (if s.2.2.2.2.1 = -1 then nI s.2.2.1 else s.2.2.2.2.1), s.2.2.2.2.2)
def qEm (op : Int32) (s : zS) : zS := (s.1, s.2.1, s.2.2.1, s.2.2.2.1, s.2.2.2.2.1, if s.2.2.2.2.2.length < 160 then op :: s.2.2.2.2.2 else s.2.2.2.2.2)
def qEx (tp : fI) (n : Nat) (w : Int32) (s : zS) : zS := if s.2.1 = w then nxS tp n s else qFl s
def qLp (c : zS → Bool) (g : zS → zS) : Nat → zS → zS
  | 0, s => s
  | m + 1, s => if c s = true then qLp c g m (g s) else s
def isT (k : Nat) (s : zS) : Bool := decide (s.2.1 = nI k)
def qTm (tp : fI) (n : Nat) (f : zS → zS) (s : zS) : zS := qLp (isT 42) (fun s => qEm (-21) (f (nxS tp n s))) 160 (f s)
def qSm (tp : fI) (n : Nat) (f : zS → zS) (s : zS) : zS := qLp (fun s => isT 43 s || isT 45 s) (fun s => qEm (if s.2.1 = nI 43 then -22 else -23) (f (nxS tp n s))) 160 (f s)
def qCm (tp : fI) (n : Nat) (f : zS → zS) (s : zS) : zS := if (isT 60 (f s) || isT 61 (f s)) = true then qEm (if (f s).2.1 = nI 60 then -24 else -25) (f (nxS tp n (f s))) else f s
def qDn (tp : fI) (n : Nat) (deep : Option (zS → zS)) (f : zS → zS) (s : zS) : zS := if s.2.1 = nI 321 then (match deep with
  | none => qFl s
  | some dn => qEm (-12) (dn (nxS tp n s))) else f s
def qBt (tp : fI) (n : Nat) (f : zS → zS) (s : zS) : zS := qLp (isT 320) (fun s => qEm (-26) (f (nxS tp n s))) 160 (f s)
def qEt (tp : fI) (n : Nat) (f : zS → zS) (s : zS) : zS := qLp (isT 319) (fun s => qEm (-27) (f (nxS tp n s))) 160 (f s)
def qOn (tp : fI) (n : Nat) (deep : Option ((zS → zS) × (zS → zS))) (s : zS) : zS := if s.2.1 = nI 302 then nxS tp n (qEm s.2.2.2.1 s)
  else if (decide (nI 310 ≤ s.2.1) && decide (s.2.1 ≤ nI 315)) = true then nxS tp n (qEm (-1 - (s.2.1 - nI 310)) s)
  else match deep with
    | none => qFl s
    | some q => if s.2.1 = nI 45 then qEm (-11) (q.1 (nxS tp n s)) else if s.2.1 = nI 40 then qEx tp n (nI 41) (q.2 (nxS tp n s)) else qFl s
theorem nxS_ok {tp : fI} {n : Nat} {s : zS} (h : s.1 ≤ n) : (nxS tp n s).1 ≤ n ∧ (nxS tp n s).2.2.2.2.2 = s.2.2.2.2.2 := by
  have hB := skP_le (p := isBl) (tp := tp) (m := n - s.1) (a := s.1)
  unfold nxS
  obtain ⟨B, hBe⟩ : ∃ B, B = skP isBl tp (n - s.1) s.1 := ⟨_, rfl⟩
  rw [← hBe] at hB ⊢
  unfold nxK
  split
  · exact ⟨by show B ≤ n; omega, rfl⟩
  · split
    · have := skP_le (p := isLt) (tp := tp) (m := n - B) (a := B)
      exact ⟨by show skP isLt tp (n - B) B ≤ n; omega, rfl⟩
    · split
      · have := skP_le (p := isDg) (tp := tp) (m := n - B) (a := B)
        exact ⟨by show skP isDg tp (n - B) B ≤ n; omega, rfl⟩
      · exact ⟨by show B + 1 ≤ n; omega, rfl⟩
theorem rdI_nx {tp : fI} {n : Nat} {s : zS} {cod : fI} (h : rdI n s cod) : rdI n (nxS tp n s) cod := by
  obtain ⟨h1, h2⟩ := nxS_ok (tp := tp) h.1
  unfold rdI
  rw [h2]
  exact ⟨h1, h.2⟩
section
variable {l : Launch} {tp : fI} {n : Nat}
theorem c2_next (hnx : ∀ l, Ct l mX1_next false 7 0 0 T1_next) : Ct l mX1_next false 7 0 0 (T_q tp n [] (nxS tp n)) := (hnx l).mono (by
  rintro args hs Q ⟨s, cod, eds, hn, hI, rfl, rfl, h⟩
  refine ⟨tp, n, s, cod, eds, hI.1, hn, rfl, rfl, fun s2 hs2 => ?_⟩
  subst hs2
  have h2 := h cod (rdI_nx hI)
  unfold pRz at h2
  exact h2)
theorem c2_fail : Ct l mX1_fail false 1 0 0 (T_q tp n [] qFl) := (c1_fail l).mono (by
  rintro args hs Q ⟨s, cod, eds, hn, hI, rfl, rfl, h⟩
  exact ⟨tp, _, _, _, _, _, _, cod, _, eds, rfl, rfl, h cod hI⟩)
theorem c2_emit {op : Int32} : Ct l mX1_emit false 1 0 0 (T_q tp n [.int op] (qEm op)) := (c1_emit l).mono (by
  rintro args hs Q ⟨s, cod, eds, hn, hI, rfl, rfl, h⟩
  refine ⟨tp, _, _, _, _, _, _, cod, _, eds, op, s.2.2.2.2.2.length, hI.2.1, rfl, rfl, rfl, fun ht => ?_, fun ht => ?_⟩
  · have e : qEm op s = (s.1, s.2.1, s.2.2.1, s.2.2.2.1, s.2.2.2.2.1, op :: s.2.2.2.2.2) := by unfold qEm; rw [if_pos ht]
    rw [e] at h
    exact h (upd cod s.2.2.2.2.2.length op) ⟨hI.1, ht, stR_push hI.2.2⟩
  · have e : qEm op s = s := by unfold qEm; rw [if_neg (by omega)]
    rw [e] at h
    exact h cod hI)
end
set_option maxHeartbeats 4000000 in
theorem c2_expect {l : Launch} {tp : fI} {n : Nat} {w : Int32} (hnx : ∀ l, Ct l mX1_next false 7 0 0 T1_next) : Ct l mX1_expect false 8 0 0 (T_q tp n [.int w] (qEx tp n w)) := by
  refine Ct.intro mX1_expect_ok ?_
  rintro args hs Q ⟨s, cod, eds, hn, hI, rfl, rfl, h⟩
  refine ⟨Nat.le_of_ble_eq_true rfl, ?_⟩
  refine V.g2 60 [] mX1_expect_ok rfl ?_
  refine And.intro (fun (e : ¬ (s.2.1) = w) => ?_) (fun (e : (s.2.1) = w) => ?_)
  · refine V.cw mX1_expect_ok rfl lX1_47 c2_fail (hRk (by omega) (by decide)) 0 1 rfl rfl rfl rfl rfl rfl ⟨s, cod, eds, hn, hI, rfl, rfl, fun cod2 hI2 => ⟨rfl, ?_⟩⟩
    refine V.g2 60 [] mX1_expect_ok rfl ?_
    exact ⟨_, zsim_rfl _, (by unfold qEx at h; rw [if_neg e] at h; exact h _ hI2)⟩
  · refine V.cw mX1_expect_ok rfl lX1_34 (c2_next hnx) (hRk (by omega) (by decide)) 0 1 rfl rfl rfl rfl rfl rfl ⟨s, cod, eds, hn, hI, rfl, rfl, fun cod1 hI1 => ⟨rfl, ?_⟩⟩
    refine V.g2 60 [] mX1_expect_ok rfl ?_
    exact ⟨_, zsim_rfl _, (by unfold qEx at h; rw [if_pos e] at h; exact h _ hI1)⟩
set_option maxHeartbeats 4000000 in
theorem c2_term {l : Launch} {tp : fI} {n : Nat} {k op : Nat} {f : zS → zS} (hk : 8 ≤ k) (hnx : ∀ l, Ct l mX1_next false 7 0 0 T1_next) (h1 : Ct l mX1_readOne false k 0 0 (T_q tp n [.int (nI op)] f)) : Ct l mX1_readTerm false (k + 1) 0 0 (T_q tp n [.int (nI op)] (qTm tp n f)) := by
  refine Ct.intro mX1_readTerm_ok ?_
  rintro args hs Q ⟨s, cod, eds, hn, hI, rfl, rfl, h⟩
  refine ⟨Nat.le_of_ble_eq_true rfl, ?_⟩
  obtain ⟨RR, hRR⟩ : ∃ RR, RR = qTm tp n f s := ⟨_, rfl⟩
  rw [← hRR] at h
  unfold qTm at hRR
  obtain ⟨S, hS⟩ : ∃ S, pRz tp n eds s cod = S := ⟨_, rfl⟩
  refine V.s0 hS ?_
  have loop : ∀ (m i : Nat) (x2 : Int32) (s3 : zS) (cod3 : fI), i + m = 160 → x2 = nI i → rdI n s3 cod3 → RR = qLp (isT 42) (fun s => qEm (-21) (f (nxS tp n s))) m s3 → V l mX1_readTerm false S (zrm (k + 1) 0 0) (zFm false S Q 0 0) 0 0 7 [(2, .int x2), (0, .ref 0), (1, .int (nI op))] [] (pRz tp n eds s3 cod3) := by
    intro m
    induction m with
    | zero =>
      intro i x2 s3 cod3 hi h2 hI3 hR
      refine V.g2 60 [7, 44, 45, 69, 32, 48] mX1_readTerm_ok rfl ?_
      refine pk_le 160 i (fun e1 => ?_) (fun e1 => absurd e1 (by omega)) rfl h2
      refine V.g2 60 [7, 44, 45, 69, 32, 48] mX1_readTerm_ok rfl ?_
      refine ⟨_, zsim_rfl _, ?_⟩
      have e9 : RR = s3 := hR
      rw [e9] at h
      exact h _ hI3
    | succ m ih =>
      intro i x2 s3 cod3 hi h2 hI3 hR
      refine V.g2 60 [7, 44, 45, 69, 32, 48] mX1_readTerm_ok rfl ?_
      refine pk_le 160 i (fun e1 => absurd e1 (by omega)) (fun e1 => ?_) rfl h2
      rw [qLp] at hR
      refine And.intro (fun (e2 : ¬ (s3.2.1) = (nI 42)) => ?_) (fun (e2 : (s3.2.1) = (nI 42)) => ?_)
      · refine V.g2 60 [7, 44, 45, 69, 32, 48] mX1_readTerm_ok rfl ?_
        refine ⟨_, zsim_rfl _, ?_⟩
        have e9 : RR = s3 := by rw [if_neg (by show ¬ decide (s3.2.1 = nI 42) = true; exact fun z => e2 (of_decide_eq_true z))] at hR; exact hR
        rw [e9] at h
        exact h _ hI3
      · rw [if_pos (show isT 42 s3 = true from decide_eq_true e2)] at hR
        refine V.cw mX1_readTerm_ok rfl lX1_34 (c2_next hnx) (hRk (by omega) (by decide)) 0 1 rfl rfl rfl rfl rfl rfl ⟨s3, cod3, eds, hn, hI3, rfl, rfl, fun cod3 hI3 => ⟨rfl, ?_⟩⟩
        refine V.g2 60 [7, 44, 45, 69, 32, 48] mX1_readTerm_ok rfl ?_
        refine V.cw mX1_readTerm_ok rfl lX1_73 h1 (hRk (by omega) (by decide)) 0 1 rfl rfl rfl rfl rfl rfl ⟨((nxS tp n) s3), cod3, eds, hn, hI3, rfl, rfl, fun cod4 hI4 => ⟨rfl, ?_⟩⟩
        refine V.g2 60 [7, 44, 45, 69, 32, 48] mX1_readTerm_ok rfl ?_
        refine V.cw mX1_readTerm_ok rfl lX1_58 c2_emit (hRk (by omega) (by decide)) 0 1 rfl rfl rfl rfl rfl rfl ⟨(f ((nxS tp n) s3)), cod4, eds, hn, hI4, rfl, rfl, fun cod5 hI5 => ⟨rfl, ?_⟩⟩
        refine V.g2 60 [7, 44, 45, 69, 32, 48] mX1_readTerm_ok rfl ?_
        refine V.kn [2, 0, 1] [(2, .int (x2 + zi 1)), (0, .ref 0), (1, .int (nI op))] [] (pRz tp n eds (qEm (-21) (f ((nxS tp n) s3))) cod5) rfl rfl rfl ?_
        exact ih (i + 1) _ _ _ (by omega) (ninc h2) hI5 hR
  refine V.g2 60 [7, 44, 45, 69, 32, 48] mX1_readTerm_ok rfl ?_
  refine V.cw mX1_readTerm_ok rfl lX1_73 h1 (hRk (by omega) (by decide)) 0 1 rfl rfl rfl rfl rfl rfl ⟨s, cod, eds, hn, hI, rfl, rfl, fun cod6 hI6 => ⟨rfl, ?_⟩⟩
  refine V.g2 60 [7, 44, 45, 69, 32, 48] mX1_readTerm_ok rfl ?_
  refine V.kn [2, 0, 1] [(2, .int (nI 0)), (0, .ref 0), (1, .int (nI op))] [] (pRz tp n eds (f s) cod6) rfl rfl rfl ?_
  exact loop 160 0 _ _ _ rfl rfl hI6 hRR
set_option maxHeartbeats 4000000 in
theorem c2_sum {l : Launch} {tp : fI} {n : Nat} {k op : Nat} {f : zS → zS} (hk : 8 ≤ k) (hnx : ∀ l, Ct l mX1_next false 7 0 0 T1_next) (h1 : Ct l mX1_readTerm false k 0 0 (T_q tp n [.int (nI op)] f)) : Ct l mX1_readSum false (k + 1) 0 0 (T_q tp n [.int (nI op)] (qSm tp n f)) := by
  refine Ct.intro mX1_readSum_ok ?_
  rintro args hs Q ⟨s, cod, eds, hn, hI, rfl, rfl, h⟩
  refine ⟨Nat.le_of_ble_eq_true rfl, ?_⟩
  obtain ⟨RR, hRR⟩ : ∃ RR, RR = qSm tp n f s := ⟨_, rfl⟩
  rw [← hRR] at h
  unfold qSm at hRR
  obtain ⟨S, hS⟩ : ∃ S, pRz tp n eds s cod = S := ⟨_, rfl⟩
  refine V.s0 hS ?_
  have loop : ∀ (m i : Nat) (x2 : Int32) (s3 : zS) (cod3 : fI), i + m = 160 → x2 = nI i → rdI n s3 cod3 → RR = qLp (fun s => isT 43 s || isT 45 s) (fun s => qEm (if s.2.1 = nI 43 then -22 else -23) (f (nxS tp n s))) m s3 → V l mX1_readSum false S (zrm (k + 1) 0 0) (zFm false S Q 0 0) 0 0 7 [(2, .int x2), (0, .ref 0), (1, .int (nI op))] [] (pRz tp n eds s3 cod3) := by
    intro m
    induction m with
    | zero =>
      intro i x2 s3 cod3 hi h2 hI3 hR
      refine V.g2 60 [7, 44, 45, 69, 32, 48] mX1_readSum_ok rfl ?_
      refine pk_le 160 i (fun e1 => ?_) (fun e1 => absurd e1 (by omega)) rfl h2
      refine V.g2 60 [7, 44, 45, 69, 32, 48] mX1_readSum_ok rfl ?_
      refine ⟨_, zsim_rfl _, ?_⟩
      have e9 : RR = s3 := hR
      rw [e9] at h
      exact h _ hI3
    | succ m ih =>
      intro i x2 s3 cod3 hi h2 hI3 hR
      refine V.g2 60 [7, 44, 45, 69, 32, 48] mX1_readSum_ok rfl ?_
      refine pk_le 160 i (fun e1 => absurd e1 (by omega)) (fun e1 => ?_) rfl h2
      rw [qLp] at hR
      refine And.intro (fun (e2 : (s3.2.1) = (nI 43)) => ?_) (fun (e2 : ¬ (s3.2.1) = (nI 43)) => ?_)
      · rw [if_pos (by show (decide (s3.2.1 = nI 43) || decide (s3.2.1 = nI 45)) = true; rw [decide_eq_true e2]; rfl)] at hR
        refine V.g2 60 [7, 44, 45, 69, 32, 48] mX1_readSum_ok rfl ?_
        refine And.intro (fun (e5 : ¬ (s3.2.1) = (nI 43)) => absurd e2 e5) (fun (e5 : (s3.2.1) = (nI 43)) => ?_)
        have eop : (if s3.2.1 = nI 43 then (-22 : Int32) else -23) = (-22) := if_pos e2
        have hR : RR = qLp (fun s => isT 43 s || isT 45 s) (fun s => qEm (if s.2.1 = nI 43 then -22 else -23) (f (nxS tp n s))) m (qEm (if s3.2.1 = nI 43 then -22 else -23) (f (nxS tp n s3))) := hR
        rw [eop] at hR
        refine V.g2 60 [7, 44, 45, 69, 32, 48] mX1_readSum_ok rfl ?_
        refine V.cw mX1_readSum_ok rfl lX1_34 (c2_next hnx) (hRk (by omega) (by decide)) 0 1 rfl rfl rfl rfl rfl rfl ⟨s3, cod3, eds, hn, hI3, rfl, rfl, fun cod7 hI7 => ⟨rfl, ?_⟩⟩
        refine V.g2 60 [7, 44, 45, 69, 32, 48] mX1_readSum_ok rfl ?_
        refine V.cw mX1_readSum_ok rfl lX1_70 h1 (hRk (by omega) (by decide)) 0 1 rfl rfl rfl rfl rfl rfl ⟨((nxS tp n) s3), cod7, eds, hn, hI7, rfl, rfl, fun cod8 hI8 => ⟨rfl, ?_⟩⟩
        refine V.g2 60 [7, 44, 45, 69, 32, 48] mX1_readSum_ok rfl ?_
        refine V.cw mX1_readSum_ok rfl lX1_58 c2_emit (hRk (by omega) (by decide)) 0 1 rfl rfl rfl rfl rfl rfl ⟨(f ((nxS tp n) s3)), cod8, eds, hn, hI8, rfl, rfl, fun cod9 hI9 => ⟨rfl, ?_⟩⟩
        refine V.g2 60 [7, 44, 45, 69, 32, 48] mX1_readSum_ok rfl ?_
        refine V.kn [2, 0, 1] [(2, .int (x2 + zi 1)), (0, .ref 0), (1, .int (nI op))] [] (pRz tp n eds (qEm (-22) (f ((nxS tp n) s3))) cod9) rfl rfl rfl ?_
        exact ih (i + 1) _ _ _ (by omega) (ninc h2) hI9 hR
      · refine And.intro (fun (e3 : ¬ (s3.2.1) = (nI 45)) => ?_) (fun (e3 : (s3.2.1) = (nI 45)) => ?_)
        · refine V.g2 60 [7, 44, 45, 69, 32, 48] mX1_readSum_ok rfl ?_
          refine ⟨_, zsim_rfl _, ?_⟩
          have e9 : RR = s3 := by rw [if_neg (by show ¬ (decide (s3.2.1 = nI 43) || decide (s3.2.1 = nI 45)) = true; rw [decide_eq_false e2, decide_eq_false e3]; exact Bool.false_ne_true)] at hR; exact hR
          rw [e9] at h
          exact h _ hI3
        · rw [if_pos (by show (decide (s3.2.1 = nI 43) || decide (s3.2.1 = nI 45)) = true; rw [decide_eq_true e3, Bool.or_true])] at hR
          refine V.g2 60 [7, 44, 45, 69, 32, 48] mX1_readSum_ok rfl ?_
          refine And.intro (fun (e5 : ¬ (s3.2.1) = (nI 43)) => ?_) (fun (e5 : (s3.2.1) = (nI 43)) => absurd e5 e2)
          have eop : (if s3.2.1 = nI 43 then (-22 : Int32) else -23) = (-23) := if_neg e2
          have hR : RR = qLp (fun s => isT 43 s || isT 45 s) (fun s => qEm (if s.2.1 = nI 43 then -22 else -23) (f (nxS tp n s))) m (qEm (if s3.2.1 = nI 43 then -22 else -23) (f (nxS tp n s3))) := hR
          rw [eop] at hR
          refine V.g2 60 [7, 44, 45, 69, 32, 48] mX1_readSum_ok rfl ?_
          refine V.cw mX1_readSum_ok rfl lX1_34 (c2_next hnx) (hRk (by omega) (by decide)) 0 1 rfl rfl rfl rfl rfl rfl ⟨s3, cod3, eds, hn, hI3, rfl, rfl, fun cod10 hI10 => ⟨rfl, ?_⟩⟩
          refine V.g2 60 [7, 44, 45, 69, 32, 48] mX1_readSum_ok rfl ?_
          refine V.cw mX1_readSum_ok rfl lX1_70 h1 (hRk (by omega) (by decide)) 0 1 rfl rfl rfl rfl rfl rfl ⟨((nxS tp n) s3), cod10, eds, hn, hI10, rfl, rfl, fun cod11 hI11 => ⟨rfl, ?_⟩⟩
          refine V.g2 60 [7, 44, 45, 69, 32, 48] mX1_readSum_ok rfl ?_
          refine V.cw mX1_readSum_ok rfl lX1_58 c2_emit (hRk (by omega) (by decide)) 0 1 rfl rfl rfl rfl rfl rfl ⟨(f ((nxS tp n) s3)), cod11, eds, hn, hI11, rfl, rfl, fun cod12 hI12 => ⟨rfl, ?_⟩⟩
          refine V.g2 60 [7, 44, 45, 69, 32, 48] mX1_readSum_ok rfl ?_
          refine V.kn [2, 0, 1] [(2, .int (x2 + zi 1)), (0, .ref 0), (1, .int (nI op))] [] (pRz tp n eds (qEm (-23) (f ((nxS tp n) s3))) cod12) rfl rfl rfl ?_
          exact ih (i + 1) _ _ _ (by omega) (ninc h2) hI12 hR
  refine V.g2 60 [7, 44, 45, 69, 32, 48] mX1_readSum_ok rfl ?_
  refine V.cw mX1_readSum_ok rfl lX1_70 h1 (hRk (by omega) (by decide)) 0 1 rfl rfl rfl rfl rfl rfl ⟨s, cod, eds, hn, hI, rfl, rfl, fun cod13 hI13 => ⟨rfl, ?_⟩⟩
  refine V.g2 60 [7, 44, 45, 69, 32, 48] mX1_readSum_ok rfl ?_
  refine V.kn [2, 0, 1] [(2, .int (nI 0)), (0, .ref 0), (1, .int (nI op))] [] (pRz tp n eds (f s) cod13) rfl rfl rfl ?_
  exact loop 160 0 _ _ _ rfl rfl hI13 hRR
set_option maxHeartbeats 4000000 in
theorem c2_both {l : Launch} {tp : fI} {n : Nat} {k op : Nat} {f : zS → zS} (hk : 8 ≤ k) (hnx : ∀ l, Ct l mX1_next false 7 0 0 T1_next) (h1 : Ct l mX1_readDenied false k 0 0 (T_q tp n [.int (nI op)] f)) : Ct l mX1_readBoth false (k + 1) 0 0 (T_q tp n [.int (nI op)] (qBt tp n f)) := by
  refine Ct.intro mX1_readBoth_ok ?_
  rintro args hs Q ⟨s, cod, eds, hn, hI, rfl, rfl, h⟩
  refine ⟨Nat.le_of_ble_eq_true rfl, ?_⟩
  obtain ⟨RR, hRR⟩ : ∃ RR, RR = qBt tp n f s := ⟨_, rfl⟩
  rw [← hRR] at h
  unfold qBt at hRR
  obtain ⟨S, hS⟩ : ∃ S, pRz tp n eds s cod = S := ⟨_, rfl⟩
  refine V.s0 hS ?_
  have loop : ∀ (m i : Nat) (x2 : Int32) (s3 : zS) (cod3 : fI), i + m = 160 → x2 = nI i → rdI n s3 cod3 → RR = qLp (isT 320) (fun s => qEm (-26) (f (nxS tp n s))) m s3 → V l mX1_readBoth false S (zrm (k + 1) 0 0) (zFm false S Q 0 0) 0 0 7 [(2, .int x2), (0, .ref 0), (1, .int (nI op))] [] (pRz tp n eds s3 cod3) := by
    intro m
    induction m with
    | zero =>
      intro i x2 s3 cod3 hi h2 hI3 hR
      refine V.g2 60 [7, 44, 45, 69, 32, 48] mX1_readBoth_ok rfl ?_
      refine pk_le 160 i (fun e1 => ?_) (fun e1 => absurd e1 (by omega)) rfl h2
      refine V.g2 60 [7, 44, 45, 69, 32, 48] mX1_readBoth_ok rfl ?_
      refine ⟨_, zsim_rfl _, ?_⟩
      have e9 : RR = s3 := hR
      rw [e9] at h
      exact h _ hI3
    | succ m ih =>
      intro i x2 s3 cod3 hi h2 hI3 hR
      refine V.g2 60 [7, 44, 45, 69, 32, 48] mX1_readBoth_ok rfl ?_
      refine pk_le 160 i (fun e1 => absurd e1 (by omega)) (fun e1 => ?_) rfl h2
      rw [qLp] at hR
      refine And.intro (fun (e2 : ¬ (s3.2.1) = (nI 320)) => ?_) (fun (e2 : (s3.2.1) = (nI 320)) => ?_)
      · refine V.g2 60 [7, 44, 45, 69, 32, 48] mX1_readBoth_ok rfl ?_
        refine ⟨_, zsim_rfl _, ?_⟩
        have e9 : RR = s3 := by rw [if_neg (by show ¬ decide (s3.2.1 = nI 320) = true; exact fun z => e2 (of_decide_eq_true z))] at hR; exact hR
        rw [e9] at h
        exact h _ hI3
      · rw [if_pos (show isT 320 s3 = true from decide_eq_true e2)] at hR
        refine V.cw mX1_readBoth_ok rfl lX1_34 (c2_next hnx) (hRk (by omega) (by decide)) 0 1 rfl rfl rfl rfl rfl rfl ⟨s3, cod3, eds, hn, hI3, rfl, rfl, fun cod14 hI14 => ⟨rfl, ?_⟩⟩
        refine V.g2 60 [7, 44, 45, 69, 32, 48] mX1_readBoth_ok rfl ?_
        refine V.cw mX1_readBoth_ok rfl lX1_61 h1 (hRk (by omega) (by decide)) 0 1 rfl rfl rfl rfl rfl rfl ⟨((nxS tp n) s3), cod14, eds, hn, hI14, rfl, rfl, fun cod15 hI15 => ⟨rfl, ?_⟩⟩
        refine V.g2 60 [7, 44, 45, 69, 32, 48] mX1_readBoth_ok rfl ?_
        refine V.cw mX1_readBoth_ok rfl lX1_58 c2_emit (hRk (by omega) (by decide)) 0 1 rfl rfl rfl rfl rfl rfl ⟨(f ((nxS tp n) s3)), cod15, eds, hn, hI15, rfl, rfl, fun cod16 hI16 => ⟨rfl, ?_⟩⟩
        refine V.g2 60 [7, 44, 45, 69, 32, 48] mX1_readBoth_ok rfl ?_
        refine V.kn [2, 0, 1] [(2, .int (x2 + zi 1)), (0, .ref 0), (1, .int (nI op))] [] (pRz tp n eds (qEm (-26) (f ((nxS tp n) s3))) cod16) rfl rfl rfl ?_
        exact ih (i + 1) _ _ _ (by omega) (ninc h2) hI16 hR
  refine V.g2 60 [7, 44, 45, 69, 32, 48] mX1_readBoth_ok rfl ?_
  refine V.cw mX1_readBoth_ok rfl lX1_61 h1 (hRk (by omega) (by decide)) 0 1 rfl rfl rfl rfl rfl rfl ⟨s, cod, eds, hn, hI, rfl, rfl, fun cod17 hI17 => ⟨rfl, ?_⟩⟩
  refine V.g2 60 [7, 44, 45, 69, 32, 48] mX1_readBoth_ok rfl ?_
  refine V.kn [2, 0, 1] [(2, .int (nI 0)), (0, .ref 0), (1, .int (nI op))] [] (pRz tp n eds (f s) cod17) rfl rfl rfl ?_
  exact loop 160 0 _ _ _ rfl rfl hI17 hRR
set_option maxHeartbeats 4000000 in
theorem c2_either {l : Launch} {tp : fI} {n : Nat} {k op : Nat} {f : zS → zS} (hk : 8 ≤ k) (hnx : ∀ l, Ct l mX1_next false 7 0 0 T1_next) (h1 : Ct l mX1_readBoth false k 0 0 (T_q tp n [.int (nI op)] f)) : Ct l mX1_readEither false (k + 1) 0 0 (T_q tp n [.int (nI op)] (qEt tp n f)) := by
  refine Ct.intro mX1_readEither_ok ?_
  rintro args hs Q ⟨s, cod, eds, hn, hI, rfl, rfl, h⟩
  refine ⟨Nat.le_of_ble_eq_true rfl, ?_⟩
  obtain ⟨RR, hRR⟩ : ∃ RR, RR = qEt tp n f s := ⟨_, rfl⟩
  rw [← hRR] at h
  unfold qEt at hRR
  obtain ⟨S, hS⟩ : ∃ S, pRz tp n eds s cod = S := ⟨_, rfl⟩
  refine V.s0 hS ?_
  have loop : ∀ (m i : Nat) (x2 : Int32) (s3 : zS) (cod3 : fI), i + m = 160 → x2 = nI i → rdI n s3 cod3 → RR = qLp (isT 319) (fun s => qEm (-27) (f (nxS tp n s))) m s3 → V l mX1_readEither false S (zrm (k + 1) 0 0) (zFm false S Q 0 0) 0 0 7 [(2, .int x2), (0, .ref 0), (1, .int (nI op))] [] (pRz tp n eds s3 cod3) := by
    intro m
    induction m with
    | zero =>
      intro i x2 s3 cod3 hi h2 hI3 hR
      refine V.g2 60 [7, 44, 45, 69, 32, 48] mX1_readEither_ok rfl ?_
      refine pk_le 160 i (fun e1 => ?_) (fun e1 => absurd e1 (by omega)) rfl h2
      refine V.g2 60 [7, 44, 45, 69, 32, 48] mX1_readEither_ok rfl ?_
      refine ⟨_, zsim_rfl _, ?_⟩
      have e9 : RR = s3 := hR
      rw [e9] at h
      exact h _ hI3
    | succ m ih =>
      intro i x2 s3 cod3 hi h2 hI3 hR
      refine V.g2 60 [7, 44, 45, 69, 32, 48] mX1_readEither_ok rfl ?_
      refine pk_le 160 i (fun e1 => absurd e1 (by omega)) (fun e1 => ?_) rfl h2
      rw [qLp] at hR
      refine And.intro (fun (e2 : ¬ (s3.2.1) = (nI 319)) => ?_) (fun (e2 : (s3.2.1) = (nI 319)) => ?_)
      · refine V.g2 60 [7, 44, 45, 69, 32, 48] mX1_readEither_ok rfl ?_
        refine ⟨_, zsim_rfl _, ?_⟩
        have e9 : RR = s3 := by rw [if_neg (by show ¬ decide (s3.2.1 = nI 319) = true; exact fun z => e2 (of_decide_eq_true z))] at hR; exact hR
        rw [e9] at h
        exact h _ hI3
      · rw [if_pos (show isT 319 s3 = true from decide_eq_true e2)] at hR
        refine V.cw mX1_readEither_ok rfl lX1_34 (c2_next hnx) (hRk (by omega) (by decide)) 0 1 rfl rfl rfl rfl rfl rfl ⟨s3, cod3, eds, hn, hI3, rfl, rfl, fun cod18 hI18 => ⟨rfl, ?_⟩⟩
        refine V.g2 60 [7, 44, 45, 69, 32, 48] mX1_readEither_ok rfl ?_
        refine V.cw mX1_readEither_ok rfl lX1_53 h1 (hRk (by omega) (by decide)) 0 1 rfl rfl rfl rfl rfl rfl ⟨((nxS tp n) s3), cod18, eds, hn, hI18, rfl, rfl, fun cod19 hI19 => ⟨rfl, ?_⟩⟩
        refine V.g2 60 [7, 44, 45, 69, 32, 48] mX1_readEither_ok rfl ?_
        refine V.cw mX1_readEither_ok rfl lX1_58 c2_emit (hRk (by omega) (by decide)) 0 1 rfl rfl rfl rfl rfl rfl ⟨(f ((nxS tp n) s3)), cod19, eds, hn, hI19, rfl, rfl, fun cod20 hI20 => ⟨rfl, ?_⟩⟩
        refine V.g2 60 [7, 44, 45, 69, 32, 48] mX1_readEither_ok rfl ?_
        refine V.kn [2, 0, 1] [(2, .int (x2 + zi 1)), (0, .ref 0), (1, .int (nI op))] [] (pRz tp n eds (qEm (-27) (f ((nxS tp n) s3))) cod20) rfl rfl rfl ?_
        exact ih (i + 1) _ _ _ (by omega) (ninc h2) hI20 hR
  refine V.g2 60 [7, 44, 45, 69, 32, 48] mX1_readEither_ok rfl ?_
  refine V.cw mX1_readEither_ok rfl lX1_53 h1 (hRk (by omega) (by decide)) 0 1 rfl rfl rfl rfl rfl rfl ⟨s, cod, eds, hn, hI, rfl, rfl, fun cod21 hI21 => ⟨rfl, ?_⟩⟩
  refine V.g2 60 [7, 44, 45, 69, 32, 48] mX1_readEither_ok rfl ?_
  refine V.kn [2, 0, 1] [(2, .int (nI 0)), (0, .ref 0), (1, .int (nI op))] [] (pRz tp n eds (f s) cod21) rfl rfl rfl ?_
  exact loop 160 0 _ _ _ rfl rfl hI21 hRR
set_option maxHeartbeats 4000000 in
theorem c2_compared {l : Launch} {tp : fI} {n : Nat} {k op : Nat} {f : zS → zS} (hk : 8 ≤ k) (hnx : ∀ l, Ct l mX1_next false 7 0 0 T1_next) (h1 : Ct l mX1_readSum false k 0 0 (T_q tp n [.int (nI op)] f)) : Ct l mX1_readCompared false (k + 1) 0 0 (T_q tp n [.int (nI op)] (qCm tp n f)) := by
  refine Ct.intro mX1_readCompared_ok ?_
  rintro args hs Q ⟨s, cod, eds, hn, hI, rfl, rfl, h⟩
  refine ⟨Nat.le_of_ble_eq_true rfl, ?_⟩
  refine V.g2 60 [23, 39, 54] mX1_readCompared_ok rfl ?_
  refine V.cw mX1_readCompared_ok rfl lX1_67 h1 (hRk (by omega) (by decide)) 0 1 rfl rfl rfl rfl rfl rfl ⟨s, cod, eds, hn, hI, rfl, rfl, fun cod22 hI22 => ⟨rfl, ?_⟩⟩
  obtain ⟨s3, hs3⟩ : ∃ s3, s3 = f s := ⟨_, rfl⟩
  have hI3 := hI22
  unfold qCm at h
  rw [← hs3] at hI3 h ⊢
  refine V.nm [(0, .ref 0), (1, .int (nI op))] [] (pRz tp n eds s3 cod22) rfl rfl rfl ?_
  have t23 : ∀ (v : Int32), v = (if s3.2.1 = nI 60 then (-24 : Int32) else -25) → (isT 60 s3 || isT 61 s3) = true → V l mX1_readCompared false (pRz tp n eds s cod) (zrm (k + 1) 0 0) (zFm false (pRz tp n eds s cod) Q 0 0) 0 0 23 [(0, .ref 0), (1, .int (nI op))] [] (pRz tp n eds s3 cod22) := by
    intro v hv hc
    rw [if_pos hc, ← hv] at h
    refine V.g2 60 [23, 39, 54] mX1_readCompared_ok rfl ?_
    refine And.intro (fun (e6 : ¬ (s3.2.1) = (nI 60)) => ?_) (fun (e6 : (s3.2.1) = (nI 60)) => ?_)
    · have hv2 : v = (-25) := by rw [hv, if_neg e6]
      subst hv2
      refine V.g2 60 [23, 39, 54] mX1_readCompared_ok rfl ?_
      refine V.cw mX1_readCompared_ok rfl lX1_34 (c2_next hnx) (hRk (by omega) (by decide)) 0 1 rfl rfl rfl rfl rfl rfl ⟨s3, cod22, eds, hn, hI3, rfl, rfl, fun cod23 hI23 => ⟨rfl, ?_⟩⟩
      refine V.g2 60 [23, 39, 54] mX1_readCompared_ok rfl ?_
      refine V.cw mX1_readCompared_ok rfl lX1_67 h1 (hRk (by omega) (by decide)) 0 1 rfl rfl rfl rfl rfl rfl ⟨((nxS tp n) s3), cod23, eds, hn, hI23, rfl, rfl, fun cod24 hI24 => ⟨rfl, ?_⟩⟩
      refine V.g2 60 [23, 39, 54] mX1_readCompared_ok rfl ?_
      refine V.cw mX1_readCompared_ok rfl lX1_58 c2_emit (hRk (by omega) (by decide)) 0 1 rfl rfl rfl rfl rfl rfl ⟨(f ((nxS tp n) s3)), cod24, eds, hn, hI24, rfl, rfl, fun cod25 hI25 => ⟨rfl, ?_⟩⟩
      refine V.g2 60 [23, 39, 54] mX1_readCompared_ok rfl ?_
      exact ⟨_, zsim_rfl _, h _ hI25⟩
    · have hv2 : v = (-24) := by rw [hv, if_pos e6]
      subst hv2
      refine V.g2 60 [23, 39, 54] mX1_readCompared_ok rfl ?_
      refine V.cw mX1_readCompared_ok rfl lX1_34 (c2_next hnx) (hRk (by omega) (by decide)) 0 1 rfl rfl rfl rfl rfl rfl ⟨s3, cod22, eds, hn, hI3, rfl, rfl, fun cod26 hI26 => ⟨rfl, ?_⟩⟩
      refine V.g2 60 [23, 39, 54] mX1_readCompared_ok rfl ?_
      refine V.cw mX1_readCompared_ok rfl lX1_67 h1 (hRk (by omega) (by decide)) 0 1 rfl rfl rfl rfl rfl rfl ⟨((nxS tp n) s3), cod26, eds, hn, hI26, rfl, rfl, fun cod27 hI27 => ⟨rfl, ?_⟩⟩
      refine V.g2 60 [23, 39, 54] mX1_readCompared_ok rfl ?_
      refine V.cw mX1_readCompared_ok rfl lX1_58 c2_emit (hRk (by omega) (by decide)) 0 1 rfl rfl rfl rfl rfl rfl ⟨(f ((nxS tp n) s3)), cod27, eds, hn, hI27, rfl, rfl, fun cod28 hI28 => ⟨rfl, ?_⟩⟩
      refine V.g2 60 [23, 39, 54] mX1_readCompared_ok rfl ?_
      exact ⟨_, zsim_rfl _, h _ hI28⟩
  refine V.g2 60 [23, 39, 54] mX1_readCompared_ok rfl ?_
  refine And.intro (fun (e2 : (s3.2.1) = (nI 60)) => ?_) (fun (e2 : ¬ (s3.2.1) = (nI 60)) => ?_)
  · refine V.nm [(0, .ref 0), (1, .int (nI op))] [] (pRz tp n eds s3 cod22) rfl rfl rfl ?_
    exact t23 _ rfl (by show (decide (s3.2.1 = nI 60) || decide (s3.2.1 = nI 61)) = true; rw [decide_eq_true e2]; rfl)
  · refine And.intro (fun (e3 : ¬ (s3.2.1) = (nI 61)) => ?_) (fun (e3 : (s3.2.1) = (nI 61)) => ?_)
    · rw [if_neg (by show ¬ (decide (s3.2.1 = nI 60) || decide (s3.2.1 = nI 61)) = true; rw [decide_eq_false e2, decide_eq_false e3]; exact Bool.false_ne_true)] at h
      refine V.g2 60 [23, 39, 54] mX1_readCompared_ok rfl ?_
      exact ⟨_, zsim_rfl _, h _ hI3⟩
    · refine V.nm [(0, .ref 0), (1, .int (nI op))] [] (pRz tp n eds s3 cod22) rfl rfl rfl ?_
      exact t23 _ rfl (by show (decide (s3.2.1 = nI 60) || decide (s3.2.1 = nI 61)) = true; rw [decide_eq_true e3, Bool.or_true])
set_option maxHeartbeats 4000000 in
theorem c2_denied0 {l : Launch} {tp : fI} {n : Nat} {k op : Nat} {f : zS → zS} (hk : 8 ≤ k) (hnx : ∀ l, Ct l mX1_next false 7 0 0 T1_next) (h1 : Ct l mX1_readCompared false k 0 0 (T_q tp n [.int (nI op)] f)) (hop : op = 5) : Ct l mX1_readDenied false (k + 1) 0 0 (T_q tp n [.int (nI op)] (qDn tp n none f)) := by
  refine Ct.intro mX1_readDenied_ok ?_
  rintro args hs Q ⟨s, cod, eds, hn, hI, rfl, rfl, h⟩
  refine ⟨Nat.le_of_ble_eq_true rfl, ?_⟩
  refine V.g2 60 [22, 52, 57] mX1_readDenied_ok rfl ?_
  refine And.intro (fun (e : ¬ (s.2.1) = (nI 321)) => ?_) (fun (e : (s.2.1) = (nI 321)) => ?_)
  · unfold qDn at h
    rw [if_neg e] at h
    refine V.g2 60 [22, 52, 57] mX1_readDenied_ok rfl ?_
    refine And.intro (fun (e5 : ¬ (s.2.1) = (nI 321)) => ?_) (fun (e5 : (s.2.1) = (nI 321)) => absurd e5 e)
    refine V.g2 60 [22, 52, 57] mX1_readDenied_ok rfl ?_
    refine V.cw mX1_readDenied_ok rfl lX1_64 h1 (hRk (by omega) (by decide)) 0 1 rfl rfl rfl rfl rfl rfl ⟨s, cod, eds, hn, hI, rfl, rfl, fun cod29 hI29 => ⟨rfl, ?_⟩⟩
    refine V.g2 60 [22, 52, 57] mX1_readDenied_ok rfl ?_
    exact ⟨_, zsim_rfl _, h _ hI29⟩
  · unfold qDn at h
    rw [if_pos e] at h
    refine pk_lt op 5 (fun e2 => ?_) (fun e2 => ?_) rfl rfl
    · exact absurd e2 (by omega)
    · refine V.cw mX1_readDenied_ok rfl lX1_47 c2_fail (hRk (by omega) (by decide)) 0 1 rfl rfl rfl rfl rfl rfl ⟨s, cod, eds, hn, hI, rfl, rfl, fun cod30 hI30 => ⟨rfl, ?_⟩⟩
      refine V.g2 60 [22, 52, 57] mX1_readDenied_ok rfl ?_
      refine V.g2 60 [22, 52, 57] mX1_readDenied_ok rfl ?_
      exact ⟨_, zsim_rfl _, h _ hI30⟩
set_option maxHeartbeats 4000000 in
theorem c2_deniedD {l : Launch} {tp : fI} {n : Nat} {k op : Nat} {f : zS → zS} (hk : 8 ≤ k) (hnx : ∀ l, Ct l mX1_next false 7 0 0 T1_next) (h1 : Ct l mX1_readCompared false k 0 0 (T_q tp n [.int (nI op)] f)) {kd : Nat} {dn : zS → zS} (hop : op < 5) (hkd : kd ≤ k) (hd : Ct l mX1_readDenied false kd 0 0 (T_q tp n [.int (nI (op + 1))] dn)) : Ct l mX1_readDenied false (k + 1) 0 0 (T_q tp n [.int (nI op)] (qDn tp n (some dn) f)) := by
  refine Ct.intro mX1_readDenied_ok ?_
  rintro args hs Q ⟨s, cod, eds, hn, hI, rfl, rfl, h⟩
  refine ⟨Nat.le_of_ble_eq_true rfl, ?_⟩
  refine V.g2 60 [22, 52, 57] mX1_readDenied_ok rfl ?_
  refine And.intro (fun (e : ¬ (s.2.1) = (nI 321)) => ?_) (fun (e : (s.2.1) = (nI 321)) => ?_)
  · unfold qDn at h
    rw [if_neg e] at h
    refine V.g2 60 [22, 52, 57] mX1_readDenied_ok rfl ?_
    refine And.intro (fun (e5 : ¬ (s.2.1) = (nI 321)) => ?_) (fun (e5 : (s.2.1) = (nI 321)) => absurd e5 e)
    refine V.g2 60 [22, 52, 57] mX1_readDenied_ok rfl ?_
    refine V.cw mX1_readDenied_ok rfl lX1_64 h1 (hRk (by omega) (by decide)) 0 1 rfl rfl rfl rfl rfl rfl ⟨s, cod, eds, hn, hI, rfl, rfl, fun cod31 hI31 => ⟨rfl, ?_⟩⟩
    refine V.g2 60 [22, 52, 57] mX1_readDenied_ok rfl ?_
    exact ⟨_, zsim_rfl _, h _ hI31⟩
  · unfold qDn at h
    rw [if_pos e] at h
    refine pk_lt op 5 (fun e2 => ?_) (fun e2 => ?_) rfl rfl
    · refine V.g2 60 [22, 52, 57] mX1_readDenied_ok rfl ?_
      refine And.intro (fun (e5 : ¬ (s.2.1) = (nI 321)) => absurd e e5) (fun (e5 : (s.2.1) = (nI 321)) => ?_)
      refine V.cw mX1_readDenied_ok rfl lX1_34 (c2_next hnx) (hRk (by omega) (by decide)) 0 1 rfl rfl rfl rfl rfl rfl ⟨s, cod, eds, hn, hI, rfl, rfl, fun cod32 hI32 => ⟨rfl, ?_⟩⟩
      refine V.g2 60 [22, 52, 57] mX1_readDenied_ok rfl ?_
      refine V.cw mX1_readDenied_ok rfl lX1_61 hd (hRk (by omega) (by decide)) 0 1 rfl rfl rfl rfl rfl rfl ⟨((nxS tp n) s), cod32, eds, hn, hI32, (congrArg (fun z => [Value.ref 0, Value.int z]) (nI_1 op)), rfl, fun cod33 hI33 => ⟨rfl, ?_⟩⟩
      refine V.g2 60 [22, 52, 57] mX1_readDenied_ok rfl ?_
      refine V.cw mX1_readDenied_ok rfl lX1_58 c2_emit (hRk (by omega) (by decide)) 0 1 rfl rfl rfl rfl rfl rfl ⟨(dn ((nxS tp n) s)), cod33, eds, hn, hI33, rfl, rfl, fun cod34 hI34 => ⟨rfl, ?_⟩⟩
      refine V.g2 60 [22, 52, 57] mX1_readDenied_ok rfl ?_
      refine V.g2 60 [22, 52, 57] mX1_readDenied_ok rfl ?_
      exact ⟨_, zsim_rfl _, h _ hI34⟩
    · exact absurd e2 (by omega)
def T7_ofName : zT := fun args hs Q => ∃ (x : Int32), args = [.int x] ∧ Q (some (.int (-1 - x))) hs
theorem c7_ofName (l : Launch) : Ct l mX5_ofName false 1 0 0 T7_ofName := by
  refine Ct.intro mX5_ofName_ok ?_
  rintro args hs Q ⟨x, rfl, h⟩
  refine ⟨Nat.le_of_ble_eq_true rfl, ?_⟩
  refine V.g2 60 [] mX5_ofName_ok rfl ?_
  exact ⟨_, zsim_rfl _, h⟩
set_option maxHeartbeats 4000000 in
theorem c2_one0 {l : Launch} {tp : fI} {n : Nat} {k op : Nat} (hk : 9 ≤ k) (hnx : ∀ l, Ct l mX1_next false 7 0 0 T1_next) (hop : op = 5) : Ct l mX1_readOne false k 0 0 (T_q tp n [.int (nI op)] (qOn tp n none)) := by
  refine Ct.intro mX1_readOne_ok ?_
  rintro args hs Q ⟨s, cod, eds, hn, hI, rfl, rfl, h⟩
  refine ⟨Nat.le_of_ble_eq_true rfl, ?_⟩
  unfold qOn at h
  refine V.g2 60 [25, 63, 75, 104, 133, 137] mX1_readOne_ok rfl ?_
  refine And.intro (fun (e1 : ¬ (s.2.1) = (nI 302)) => ?_) (fun (e1 : (s.2.1) = (nI 302)) => ?_)
  · rw [if_neg e1] at h
    refine V.g2 60 [25, 63, 75, 104, 133, 137] mX1_readOne_ok rfl ?_
    refine V.csN mX1_readOne_ok rfl lX1_79 (ct_within l) (hRk (by omega) (by decide)) rfl rfl rfl ⟨_, _, _, rfl, fun (g1 : nI 310 ≤ s.2.1) (g2 : s.2.1 ≤ nI 315) => ⟨rfl, ?_⟩, fun (g0 : ¬ (nI 310 ≤ s.2.1 ∧ s.2.1 ≤ nI 315)) => ⟨rfl, ?_⟩⟩
    · refine V.nm [(0, .ref 0), (1, .int (nI op))] [.int (bI true)] (pRz tp n eds s cod) rfl rfl rfl ?_
      rw [if_pos (by rw [decide_eq_true g1, decide_eq_true g2]; rfl)] at h
      refine V.g2 60 [25, 63, 75, 104, 133, 137] mX1_readOne_ok rfl ?_
      refine And.intro (fun e => absurd e (by decide)) (fun _ => ?_)
      refine V.cs mX1_readOne_ok rfl lX1_83 (c7_ofName l) (hRk (by omega) (by decide)) rfl rfl rfl ⟨_, rfl, ⟨rfl, ?_⟩⟩
      refine V.nm [(0, .ref 0), (1, .int (nI op))] [.int (-1 - ((s.2.1) - (nI 310))), .ref 0] (pRz tp n eds s cod) rfl rfl rfl ?_
      refine V.g2 60 [25, 63, 75, 104, 133, 137] mX1_readOne_ok rfl ?_
      refine V.cw mX1_readOne_ok rfl lX1_58 c2_emit (hRk (by omega) (by decide)) 0 1 rfl rfl rfl rfl rfl rfl ⟨s, cod, eds, hn, hI, rfl, rfl, fun cod37 hI37 => ⟨rfl, ?_⟩⟩
      refine V.g2 60 [25, 63, 75, 104, 133, 137] mX1_readOne_ok rfl ?_
      refine V.cw mX1_readOne_ok rfl lX1_34 (c2_next hnx) (hRk (by omega) (by decide)) 0 1 rfl rfl rfl rfl rfl rfl ⟨(qEm (-1 - (s.2.1 - nI 310)) s), cod37, eds, hn, hI37, rfl, rfl, fun cod38 hI38 => ⟨rfl, ?_⟩⟩
      refine V.g2 60 [25, 63, 75, 104, 133, 137] mX1_readOne_ok rfl ?_
      refine V.g2 60 [25, 63, 75, 104, 133, 137] mX1_readOne_ok rfl ?_
      exact ⟨_, zsim_rfl _, h _ hI38⟩
    · refine V.nm [(0, .ref 0), (1, .int (nI op))] [.int (bI false)] (pRz tp n eds s cod) rfl rfl rfl ?_
      rw [if_neg (by rw [Bool.and_eq_true, decide_eq_true_eq, decide_eq_true_eq]; exact g0)] at h
      refine V.g2 60 [25, 63, 75, 104, 133, 137] mX1_readOne_ok rfl ?_
      refine And.intro (fun _ => ?_) (fun e => absurd rfl e)
      refine V.g2 60 [25, 63, 75, 104, 133, 137] mX1_readOne_ok rfl ?_
      refine pk_lt op 5 (fun e2 => ?_) (fun e2 => ?_) rfl rfl
      · exact absurd e2 (by omega)
      · refine V.cw mX1_readOne_ok rfl lX1_47 c2_fail (hRk (by omega) (by decide)) 0 1 rfl rfl rfl rfl rfl rfl ⟨s, cod, eds, hn, hI, rfl, rfl, fun cod39 hI39 => ⟨rfl, ?_⟩⟩
        refine V.g2 60 [25, 63, 75, 104, 133, 137] mX1_readOne_ok rfl ?_
        refine V.g2 60 [25, 63, 75, 104, 133, 137] mX1_readOne_ok rfl ?_
        exact ⟨_, zsim_rfl _, h _ hI39⟩
  · rw [if_pos e1] at h
    refine V.cw mX1_readOne_ok rfl lX1_58 c2_emit (hRk (by omega) (by decide)) 0 1 rfl rfl rfl rfl rfl rfl ⟨s, cod, eds, hn, hI, rfl, rfl, fun cod35 hI35 => ⟨rfl, ?_⟩⟩
    refine V.g2 60 [25, 63, 75, 104, 133, 137] mX1_readOne_ok rfl ?_
    refine V.cw mX1_readOne_ok rfl lX1_34 (c2_next hnx) (hRk (by omega) (by decide)) 0 1 rfl rfl rfl rfl rfl rfl ⟨(qEm s.2.2.2.1 s), cod35, eds, hn, hI35, rfl, rfl, fun cod36 hI36 => ⟨rfl, ?_⟩⟩
    refine V.g2 60 [25, 63, 75, 104, 133, 137] mX1_readOne_ok rfl ?_
    refine V.g2 60 [25, 63, 75, 104, 133, 137] mX1_readOne_ok rfl ?_
    exact ⟨_, zsim_rfl _, h _ hI36⟩
set_option maxHeartbeats 4000000 in
theorem c2_oneD {l : Launch} {tp : fI} {n : Nat} {k op : Nat} (hk : 9 ≤ k) (hnx : ∀ l, Ct l mX1_next false 7 0 0 T1_next) {ko ke : Nat} {f g : zS → zS} (hop : op < 5) (hko : ko < k) (hke : ke < k) (ho : Ct l mX1_readOne false ko 0 0 (T_q tp n [.int (nI (op + 1))] f)) (he : Ct l mX1_readEither false ke 0 0 (T_q tp n [.int (nI (op + 1))] g)) : Ct l mX1_readOne false k 0 0 (T_q tp n [.int (nI op)] (qOn tp n (some (f, g)))) := by
  refine Ct.intro mX1_readOne_ok ?_
  rintro args hs Q ⟨s, cod, eds, hn, hI, rfl, rfl, h⟩
  refine ⟨Nat.le_of_ble_eq_true rfl, ?_⟩
  unfold qOn at h
  refine V.g2 60 [25, 63, 75, 104, 133, 137] mX1_readOne_ok rfl ?_
  refine And.intro (fun (e1 : ¬ (s.2.1) = (nI 302)) => ?_) (fun (e1 : (s.2.1) = (nI 302)) => ?_)
  · rw [if_neg e1] at h
    refine V.g2 60 [25, 63, 75, 104, 133, 137] mX1_readOne_ok rfl ?_
    refine V.csN mX1_readOne_ok rfl lX1_79 (ct_within l) (hRk (by omega) (by decide)) rfl rfl rfl ⟨_, _, _, rfl, fun (g1 : nI 310 ≤ s.2.1) (g2 : s.2.1 ≤ nI 315) => ⟨rfl, ?_⟩, fun (g0 : ¬ (nI 310 ≤ s.2.1 ∧ s.2.1 ≤ nI 315)) => ⟨rfl, ?_⟩⟩
    · refine V.nm [(0, .ref 0), (1, .int (nI op))] [.int (bI true)] (pRz tp n eds s cod) rfl rfl rfl ?_
      rw [if_pos (by rw [decide_eq_true g1, decide_eq_true g2]; rfl)] at h
      refine V.g2 60 [25, 63, 75, 104, 133, 137] mX1_readOne_ok rfl ?_
      refine And.intro (fun e => absurd e (by decide)) (fun _ => ?_)
      refine V.cs mX1_readOne_ok rfl lX1_83 (c7_ofName l) (hRk (by omega) (by decide)) rfl rfl rfl ⟨_, rfl, ⟨rfl, ?_⟩⟩
      refine V.nm [(0, .ref 0), (1, .int (nI op))] [.int (-1 - ((s.2.1) - (nI 310))), .ref 0] (pRz tp n eds s cod) rfl rfl rfl ?_
      refine V.g2 60 [25, 63, 75, 104, 133, 137] mX1_readOne_ok rfl ?_
      refine V.cw mX1_readOne_ok rfl lX1_58 c2_emit (hRk (by omega) (by decide)) 0 1 rfl rfl rfl rfl rfl rfl ⟨s, cod, eds, hn, hI, rfl, rfl, fun cod42 hI42 => ⟨rfl, ?_⟩⟩
      refine V.g2 60 [25, 63, 75, 104, 133, 137] mX1_readOne_ok rfl ?_
      refine V.cw mX1_readOne_ok rfl lX1_34 (c2_next hnx) (hRk (by omega) (by decide)) 0 1 rfl rfl rfl rfl rfl rfl ⟨(qEm (-1 - (s.2.1 - nI 310)) s), cod42, eds, hn, hI42, rfl, rfl, fun cod43 hI43 => ⟨rfl, ?_⟩⟩
      refine V.g2 60 [25, 63, 75, 104, 133, 137] mX1_readOne_ok rfl ?_
      refine V.g2 60 [25, 63, 75, 104, 133, 137] mX1_readOne_ok rfl ?_
      exact ⟨_, zsim_rfl _, h _ hI43⟩
    · refine V.nm [(0, .ref 0), (1, .int (nI op))] [.int (bI false)] (pRz tp n eds s cod) rfl rfl rfl ?_
      rw [if_neg (by rw [Bool.and_eq_true, decide_eq_true_eq, decide_eq_true_eq]; exact g0)] at h
      refine V.g2 60 [25, 63, 75, 104, 133, 137] mX1_readOne_ok rfl ?_
      refine And.intro (fun _ => ?_) (fun e => absurd rfl e)
      refine V.g2 60 [25, 63, 75, 104, 133, 137] mX1_readOne_ok rfl ?_
      refine pk_lt op 5 (fun e2 => ?_) (fun e2 => ?_) rfl rfl
      · have h : ∀ cod2, rdI n (if s.2.1 = nI 45 then qEm (-11) (f (nxS tp n s)) else if s.2.1 = nI 40 then qEx tp n (nI 41) (g (nxS tp n s)) else qFl s) cod2 → Q none (pRz tp n eds (if s.2.1 = nI 45 then qEm (-11) (f (nxS tp n s)) else if s.2.1 = nI 40 then qEx tp n (nI 41) (g (nxS tp n s)) else qFl s) cod2) := h
        refine V.g2 60 [25, 63, 75, 104, 133, 137] mX1_readOne_ok rfl ?_
        refine And.intro (fun (e5 : ¬ (s.2.1) = (nI 45)) => ?_) (fun (e5 : (s.2.1) = (nI 45)) => ?_)
        · rw [if_neg e5] at h
          refine V.g2 60 [25, 63, 75, 104, 133, 137] mX1_readOne_ok rfl ?_
          refine And.intro (fun (e6 : ¬ (s.2.1) = (nI 40)) => ?_) (fun (e6 : (s.2.1) = (nI 40)) => ?_)
          · rw [if_neg e6] at h
            refine V.g2 60 [25, 63, 75, 104, 133, 137] mX1_readOne_ok rfl ?_
            refine V.cw mX1_readOne_ok rfl lX1_47 c2_fail (hRk (by omega) (by decide)) 0 1 rfl rfl rfl rfl rfl rfl ⟨s, cod, eds, hn, hI, rfl, rfl, fun cod50 hI50 => ⟨rfl, ?_⟩⟩
            refine V.g2 60 [25, 63, 75, 104, 133, 137] mX1_readOne_ok rfl ?_
            exact ⟨_, zsim_rfl _, h _ hI50⟩
          · rw [if_pos e6] at h
            refine V.cw mX1_readOne_ok rfl lX1_34 (c2_next hnx) (hRk (by omega) (by decide)) 0 1 rfl rfl rfl rfl rfl rfl ⟨s, cod, eds, hn, hI, rfl, rfl, fun cod47 hI47 => ⟨rfl, ?_⟩⟩
            refine V.g2 60 [25, 63, 75, 104, 133, 137] mX1_readOne_ok rfl ?_
            refine V.cw mX1_readOne_ok rfl lX1_41 he (hRk (by omega) (by decide)) 0 1 rfl rfl rfl rfl rfl rfl ⟨((nxS tp n) s), cod47, eds, hn, hI47, (congrArg (fun z => [Value.ref 0, Value.int z]) (nI_1 op)), rfl, fun cod48 hI48 => ⟨rfl, ?_⟩⟩
            refine V.g2 60 [25, 63, 75, 104, 133, 137] mX1_readOne_ok rfl ?_
            refine V.cw mX1_readOne_ok rfl lX1_37 (c2_expect hnx) (hRk (by omega) (by decide)) 0 1 rfl rfl rfl rfl rfl rfl ⟨(g ((nxS tp n) s)), cod48, eds, hn, hI48, rfl, rfl, fun cod49 hI49 => ⟨rfl, ?_⟩⟩
            refine V.g2 60 [25, 63, 75, 104, 133, 137] mX1_readOne_ok rfl ?_
            refine V.g2 60 [25, 63, 75, 104, 133, 137] mX1_readOne_ok rfl ?_
            exact ⟨_, zsim_rfl _, h _ hI49⟩
        · rw [if_pos e5] at h
          refine V.cw mX1_readOne_ok rfl lX1_34 (c2_next hnx) (hRk (by omega) (by decide)) 0 1 rfl rfl rfl rfl rfl rfl ⟨s, cod, eds, hn, hI, rfl, rfl, fun cod44 hI44 => ⟨rfl, ?_⟩⟩
          refine V.g2 60 [25, 63, 75, 104, 133, 137] mX1_readOne_ok rfl ?_
          refine V.cw mX1_readOne_ok rfl lX1_73 ho (hRk (by omega) (by decide)) 0 1 rfl rfl rfl rfl rfl rfl ⟨((nxS tp n) s), cod44, eds, hn, hI44, (congrArg (fun z => [Value.ref 0, Value.int z]) (nI_1 op)), rfl, fun cod45 hI45 => ⟨rfl, ?_⟩⟩
          refine V.g2 60 [25, 63, 75, 104, 133, 137] mX1_readOne_ok rfl ?_
          refine V.cw mX1_readOne_ok rfl lX1_58 c2_emit (hRk (by omega) (by decide)) 0 1 rfl rfl rfl rfl rfl rfl ⟨(f ((nxS tp n) s)), cod45, eds, hn, hI45, rfl, rfl, fun cod46 hI46 => ⟨rfl, ?_⟩⟩
          refine V.g2 60 [25, 63, 75, 104, 133, 137] mX1_readOne_ok rfl ?_
          refine V.g2 60 [25, 63, 75, 104, 133, 137] mX1_readOne_ok rfl ?_
          exact ⟨_, zsim_rfl _, h _ hI46⟩
      · exact absurd e2 (by omega)
  · rw [if_pos e1] at h
    refine V.cw mX1_readOne_ok rfl lX1_58 c2_emit (hRk (by omega) (by decide)) 0 1 rfl rfl rfl rfl rfl rfl ⟨s, cod, eds, hn, hI, rfl, rfl, fun cod40 hI40 => ⟨rfl, ?_⟩⟩
    refine V.g2 60 [25, 63, 75, 104, 133, 137] mX1_readOne_ok rfl ?_
    refine V.cw mX1_readOne_ok rfl lX1_34 (c2_next hnx) (hRk (by omega) (by decide)) 0 1 rfl rfl rfl rfl rfl rfl ⟨(qEm s.2.2.2.1 s), cod40, eds, hn, hI40, rfl, rfl, fun cod41 hI41 => ⟨rfl, ?_⟩⟩
    refine V.g2 60 [25, 63, 75, 104, 133, 137] mX1_readOne_ok rfl ?_
    refine V.g2 60 [25, 63, 75, 104, 133, 137] mX1_readOne_ok rfl ?_
    exact ⟨_, zsim_rfl _, h _ hI41⟩
