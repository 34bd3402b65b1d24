/-! ===== the class: word, tokenIs, readWord ===== -/
theorem clB_f {tp : fI} {b i : Nat} : ∀ {L k : Nat}, k < L → ¬ tp (b + k) = (zsbyt.getD (i + 1) []).getD k 0 → clB tp b i L = false
  | 0, k, h, _ => absurd h (Nat.not_lt_zero k)
  | L + 1, k, h, hn => by
    show (clB tp b i L && decide _) = false
    by_cases e : k = L
    · rw [← e, decide_eq_false hn, Bool.and_false]
    · rw [clB_f (show k < L by omega) hn, Bool.false_and]
def T1_word : zT := fun args hs Q => ∃ j, j < 12 ∧ args = [.int (nI j)] ∧ hs = [] ∧ Q (some (.ref (2 * (j + 1) + 1))) []
theorem c1_word (l : Launch) : Ct l mX1_word false 1 0 0 T1_word := by
  refine Ct.intro mX1_word_ok ?_
  rintro args hs Q ⟨j, hj, rfl, rfl, h⟩
  refine ⟨Nat.le_of_ble_eq_true rfl, ?_⟩
  refine V.g 1 [1] mX1_word_ok rfl ?_
  match j, hj with
  | 0, _ =>
    refine V.tsI mX1_word_ok rfl 0 rfl (by decide) (by decide) 59 rfl 60 rfl ?_
    refine V.ldcS mX1_word_ok rfl 1 (by decide) rfl rfl ?_
    exact V.g 5 [] mX1_word_ok rfl ⟨_, zsim_rfl _, h⟩
  | 1, _ =>
    refine V.tsI mX1_word_ok rfl 1 rfl (by decide) (by decide) 62 rfl 63 rfl ?_
    refine V.ldcS mX1_word_ok rfl 2 (by decide) rfl rfl ?_
    exact V.g 5 [] mX1_word_ok rfl ⟨_, zsim_rfl _, h⟩
  | 2, _ =>
    refine V.tsI mX1_word_ok rfl 2 rfl (by decide) (by decide) 65 rfl 66 rfl ?_
    refine V.ldcS mX1_word_ok rfl 3 (by decide) rfl rfl ?_
    exact V.g 5 [] mX1_word_ok rfl ⟨_, zsim_rfl _, h⟩
  | 3, _ =>
    refine V.tsI mX1_word_ok rfl 3 rfl (by decide) (by decide) 68 rfl 69 rfl ?_
    refine V.ldcS mX1_word_ok rfl 4 (by decide) rfl rfl ?_
    exact V.g 5 [] mX1_word_ok rfl ⟨_, zsim_rfl _, h⟩
  | 4, _ =>
    refine V.tsI mX1_word_ok rfl 4 rfl (by decide) (by decide) 71 rfl 72 rfl ?_
    refine V.ldcS mX1_word_ok rfl 5 (by decide) rfl rfl ?_
    exact V.g 5 [] mX1_word_ok rfl ⟨_, zsim_rfl _, h⟩
  | 5, _ =>
    refine V.tsI mX1_word_ok rfl 5 rfl (by decide) (by decide) 74 rfl 75 rfl ?_
    refine V.ldcS mX1_word_ok rfl 6 (by decide) rfl rfl ?_
    exact V.g 5 [] mX1_word_ok rfl ⟨_, zsim_rfl _, h⟩
  | 6, _ =>
    refine V.tsI mX1_word_ok rfl 6 rfl (by decide) (by decide) 77 rfl 78 rfl ?_
    refine V.ldcS mX1_word_ok rfl 7 (by decide) rfl rfl ?_
    exact V.g 5 [] mX1_word_ok rfl ⟨_, zsim_rfl _, h⟩
  | 7, _ =>
    refine V.tsI mX1_word_ok rfl 7 rfl (by decide) (by decide) 80 rfl 81 rfl ?_
    refine V.ldcS mX1_word_ok rfl 8 (by decide) rfl rfl ?_
    exact V.g 5 [] mX1_word_ok rfl ⟨_, zsim_rfl _, h⟩
  | 8, _ =>
    refine V.tsI mX1_word_ok rfl 8 rfl (by decide) (by decide) 83 rfl 84 rfl ?_
    refine V.ldcS mX1_word_ok rfl 9 (by decide) rfl rfl ?_
    exact V.g 5 [] mX1_word_ok rfl ⟨_, zsim_rfl _, h⟩
  | 9, _ =>
    refine V.tsI mX1_word_ok rfl 9 rfl (by decide) (by decide) 86 rfl 87 rfl ?_
    refine V.ldcS mX1_word_ok rfl 10 (by decide) rfl rfl ?_
    exact V.g 5 [] mX1_word_ok rfl ⟨_, zsim_rfl _, h⟩
  | 10, _ =>
    refine V.tsI mX1_word_ok rfl 10 rfl (by decide) (by decide) 89 rfl 90 rfl ?_
    refine V.ldcS mX1_word_ok rfl 11 (by decide) rfl rfl ?_
    exact V.g 5 [] mX1_word_ok rfl ⟨_, zsim_rfl _, h⟩
  | 11, _ =>
    refine V.tsO mX1_word_ok rfl (by decide) 93 rfl ?_
    refine V.ldcS mX1_word_ok rfl 12 (by decide) rfl rfl ?_
    exact V.g 5 [] mX1_word_ok rfl ⟨_, zsim_rfl _, h⟩
def T1_tokenIs : zT := fun args hs Q => ∃ (tp : fI) (sz pla tok tpl num flt : Int32) (cod : fI) (csz : Int32) (eds : fI) (j b e : Nat), sz = sz ∧ pla = nI e ∧ tpl = nI b ∧ j < 12 ∧ b ≤ e ∧ e ≤ 160 ∧ args = [.ref 0, .ref (2 * (j + 1) + 1)] ∧ hs = pRd 0 (tp, sz, pla, tok, tpl, num, flt, cod, csz, eds) ∧ Q (some (.int (bI (clW tp b e j)))) hs
set_option maxHeartbeats 4000000 in
theorem c1_tokenIs (l : Launch) : Ct l mX1_tokenIs false 5 0 0 T1_tokenIs := by
  refine Ct.intro mX1_tokenIs_ok ?_
  rintro args hs Q ⟨tp, sz, pla, tok, tpl, num, flt, cod, csz, eds, j, b, e, -, hpla, htpl, hj, hbe, he, rfl, rfl, h⟩
  refine ⟨Nat.le_of_ble_eq_true rfl, ?_⟩
  subst hpla
  subst htpl
  obtain ⟨L, hL⟩ : ∃ L, L = zslen.getD (j + 1) 0 := ⟨_, rfl⟩
  have hL2 : L < 100 := by rw [hL]; exact zsl_le (j + 1) (by omega)
  obtain ⟨S, hS⟩ : ∃ S, pRd 0 (tp, sz, (nI e), tok, (nI b), num, flt, cod, csz, eds) = S := ⟨_, rfl⟩
  refine V.s0 hS ?_
  refine V.g2 60 [10, 20, 22] mX1_tokenIs_ok rfl ?_
  refine V.callO mX1_tokenIs_ok rfl lX1_114 rfl (cJ0l l) rfl (j + 1) (by omega) [] [.int ((nI e) - (nI b))] (fun _ => rfl) rfl rfl rfl (nI (zslen.getD (j + 1) 0)) ⟨j + 1, Nat.succ_lt_succ hj, rfl, rfl, rfl, rfl⟩ ?_
  rw [← hL]
  refine V.g2 60 [10, 20, 22] mX1_tokenIs_ok rfl ?_
  refine pk_eq (e - b) L (fun e1 => ?_) (fun e1 => ?_) (nsub (by omega) rfl rfl) rfl
  · have loop : ∀ (m i : Nat) (x : Int32), i + m = L → x = nI i → clB tp b j i = true → V l mX1_tokenIs false S (zrm 5 0 0) (zFm false S Q 0 0) 0 0 20 [(0, .ref 0), (1, .ref (2 * (j + 1) + 1)), (2, .int x)] [] (pRd 0 (tp, sz, (nI e), tok, (nI b), num, flt, cod, csz, eds)) := by
      intro m
      induction m with
      | zero =>
        intro i x hi hx hcl
        subst hx
        refine V.g2 60 [10, 20, 22] mX1_tokenIs_ok rfl ?_
        refine V.callO mX1_tokenIs_ok rfl lX1_114 rfl (cJ0l l) rfl (j + 1) (by omega) [] [.int (nI i)] (fun _ => rfl) rfl rfl rfl (nI (zslen.getD (j + 1) 0)) ⟨j + 1, Nat.succ_lt_succ hj, rfl, rfl, rfl, rfl⟩ ?_
        rw [← hL]
        refine V.g2 60 [10, 20, 22] mX1_tokenIs_ok rfl ?_
        refine pk_le L i (fun e2 => ?_) (fun e2 => absurd e2 (by omega)) rfl rfl
        have hs0 : i = L := hi
        have hc : clW tp b e j = true := by unfold clW; rw [← hL, decide_eq_true e1, Bool.true_and, ← hs0]; exact hcl
        rw [hc] at h
        refine And.intro (Or.inr rfl) ?_
        exact ⟨_, zsim_rfl _, h⟩
      | succ m ih =>
        intro i x hi hx hcl
        subst hx
        refine V.g2 60 [10, 20, 22] mX1_tokenIs_ok rfl ?_
        refine V.callO mX1_tokenIs_ok rfl lX1_114 rfl (cJ0l l) rfl (j + 1) (by omega) [] [.int (nI i)] (fun _ => rfl) rfl rfl rfl (nI (zslen.getD (j + 1) 0)) ⟨j + 1, Nat.succ_lt_succ hj, rfl, rfl, rfl, rfl⟩ ?_
        rw [← hL]
        refine V.g2 60 [10, 20, 22] mX1_tokenIs_ok rfl ?_
        refine pk_le L i (fun e2 => absurd e2 (by omega)) (fun e2 => ?_) rfl rfl
        refine ⟨(b + i), by omega, (nadd rfl rfl), rfl, ?_⟩
        refine V.callO mX1_tokenIs_ok rfl lX1_120 rfl (cJ0a l) rfl (j + 1) (by omega) [.int (nI i)] [.int (tp (b + i))] (fun _ => rfl) rfl rfl rfl ((zsbyt.getD (j + 1) []).getD i 0) ⟨j + 1, i, Nat.succ_lt_succ hj, (show i < zslen.getD (j + 1) 0 by rw [← hL]; omega), rfl, rfl, rfl, rfl⟩ ?_
        refine V.g2 60 [20, 41] mX1_tokenIs_ok rfl ?_
        refine And.intro (fun (e3 : (tp (b + i)) = ((zsbyt.getD (j + 1) []).getD i 0)) => ?_) (fun (e3 : ¬ (tp (b + i)) = ((zsbyt.getD (j + 1) []).getD i 0)) => ?_)
        · refine V.kn [0, 1, 2] [(0, .ref 0), (1, .ref (2 * (j + 1) + 1)), (2, .int ((nI i) + zi 1))] [] (pRd 0 (tp, sz, (nI e), tok, (nI b), num, flt, cod, csz, eds)) rfl rfl rfl ?_
          exact ih (i + 1) _ (by omega) (ninc rfl) (by show (clB tp b j i && decide _) = true; rw [hcl, decide_eq_true e3]; rfl)
        · have hc : clW tp b e j = false := by unfold clW; rw [← hL, clB_f (show i < L by omega) e3, Bool.and_false]
          rw [hc] at h
          refine And.intro (Or.inl rfl) ?_
          exact ⟨_, zsim_rfl _, h⟩
    refine V.kn [0, 1, 2] [(0, .ref 0), (1, .ref (2 * (j + 1) + 1)), (2, .int (nI 0))] [] (pRd 0 (tp, sz, (nI e), tok, (nI b), num, flt, cod, csz, eds)) rfl rfl rfl ?_
    exact loop L 0 _ (by omega) rfl rfl
  · have hc : clW tp b e j = false := by unfold clW; rw [← hL, decide_eq_false e1, Bool.false_and]
    rw [hc] at h
    refine And.intro (Or.inl rfl) ?_
    exact ⟨_, zsim_rfl _, h⟩
set_option maxHeartbeats 4000000 in
theorem c1_readWord (l : Launch) : Ct l mX1_readWord false 6 0 0 T1_readWord := by
  refine Ct.intro mX1_readWord_ok ?_
  rintro args hs Q ⟨tp, sz, pla, tok, tpl, num, flt, cod, csz, eds, n, a, hsz, hpla, htpl, han, hn, rfl, rfl, h⟩
  refine ⟨Nat.le_of_ble_eq_true rfl, ?_⟩
  subst hsz
  subst hpla
  subst htpl
  obtain ⟨E, hE⟩ : ∃ E, E = skP isLt tp (n - a) a := ⟨_, rfl⟩
  have hEle := skP_le (p := isLt) (tp := tp) (m := n - a) (a := a)
  rw [← hE] at hEle
  have h := h E hE
  obtain ⟨S, hS⟩ : ∃ S, pRd 0 (tp, (nI n), (nI a), tok, (nI a), num, flt, cod, csz, eds) = S := ⟨_, rfl⟩
  refine V.s0 hS ?_
  have t39 : ∀ (x : Int32), x = nI E → V l mX1_readWord false S (zrm 6 0 0) (zFm false S Q 0 0) 0 0 39 [(0, .ref 0)] [] (pRd 0 (tp, (nI n), x, tok, (nI a), num, flt, cod, csz, eds)) := by
    intro x hx
    subst hx
    have loop2 : ∀ (m i : Nat) (x k2 : Int32), i + m = 12 → x = nI i → k2 = cwZ tp a E i → V l mX1_readWord false S (zrm 6 0 0) (zFm false S Q 0 0) 0 0 48 [(0, .ref 0), (1, .int x)] [] (pRd 0 (tp, (nI n), (nI E), k2, (nI a), num, flt, cod, csz, eds)) := by
      intro m
      induction m with
      | zero =>
        intro i x k2 hi hx hk
        subst hx
        refine V.g2 60 [0, 39, 48, 56, 59] mX1_readWord_ok rfl ?_
        refine pk_le 12 i (fun e2 => ?_) (fun e2 => absurd e2 (by omega)) rfl rfl
        have hs0 : i = 12 := hi
        rw [hk, hs0]
        exact ⟨_, zsim_rfl _, h⟩
      | succ m ih =>
        intro i x k2 hi hx hk
        subst hx
        refine V.g2 60 [0, 39, 48, 56, 59] mX1_readWord_ok rfl ?_
        refine pk_le 12 i (fun e2 => absurd e2 (by omega)) (fun e2 => ?_) rfl rfl
        refine V.cS0 mX1_readWord_ok rfl lX1_106 (c1_word l) rfl [.int (nI i)] [.ref 0] rfl rfl rfl (some (.ref (2 * (i + 1) + 1))) ⟨i, (show i < 12 by omega), rfl, rfl, rfl, rfl⟩ ?_
        refine V.nm [(0, .ref 0), (1, .int (nI i))] [.ref (2 * (i + 1) + 1), .ref 0] (pRd 0 (tp, (nI n), (nI E), k2, (nI a), num, flt, cod, csz, eds)) rfl (by show [Value.ref (ze _ [] (fun k => k) (2 * (i + 1) + 1)), Value.ref 0] = _; rw [ze_odd]) rfl ?_
        refine V.cw mX1_readWord_ok rfl lX1_110 (c1_tokenIs l) rfl 0 1 rfl rfl rfl rfl rfl rfl ⟨tp, _, _, _, _, _, _, _, _, _, i, a, E, rfl, rfl, rfl, by omega, by omega, by omega, rfl, rfl, ⟨rfl, ?_⟩⟩
        cases hY : clW tp a E i with
        | false =>
          refine V.nm [(0, .ref 0), (1, .int (nI i))] [.int (bI false)] (pRd 0 (tp, (nI n), (nI E), k2, (nI a), num, flt, cod, csz, eds)) rfl rfl rfl ?_
          refine V.g2 60 [0, 39, 48, 56, 59] mX1_readWord_ok rfl ?_
          refine And.intro (fun _ => ?_) (fun e => absurd rfl e)
          refine V.kn [0, 1] [(0, .ref 0), (1, .int ((nI i) + zi 1))] [] (pRd 0 (tp, (nI n), (nI E), k2, (nI a), num, flt, cod, csz, eds)) rfl rfl rfl ?_
          exact ih (i + 1) _ _ (by omega) (ninc rfl) (by rw [hk, cwZ, if_neg (by rw [hY]; exact Bool.false_ne_true)])
        | true =>
          refine V.nm [(0, .ref 0), (1, .int (nI i))] [.int (bI true)] (pRd 0 (tp, (nI n), (nI E), k2, (nI a), num, flt, cod, csz, eds)) rfl rfl rfl ?_
          refine V.g2 60 [0, 39, 48, 56, 59] mX1_readWord_ok rfl ?_
          refine And.intro (fun e => absurd e (by decide)) (fun _ => ?_)
          refine V.kn [0, 1] [(0, .ref 0), (1, .int ((nI i) + zi 1))] [] (pRd 0 (tp, (nI n), (nI E), ((nI 310) + (nI i)), (nI a), num, flt, cod, csz, eds)) rfl rfl rfl ?_
          exact ih (i + 1) _ _ (by omega) (ninc rfl) (by rw [cwZ, if_pos hY]; exact nadd rfl rfl)
    refine V.g2 60 [0, 39, 48, 56, 59] mX1_readWord_ok rfl ?_
    refine V.kn [0, 1] [(0, .ref 0), (1, .int (nI 0))] [] (pRd 0 (tp, (nI n), (nI E), (nI 300), (nI a), num, flt, cod, csz, eds)) rfl rfl rfl ?_
    exact loop2 12 0 _ _ (by omega) rfl rfl
  have loop : ∀ (m i : Nat) (x : Int32), i + m = n → x = nI i → skP isLt tp m i = E → V l mX1_readWord false S (zrm 6 0 0) (zFm false S Q 0 0) 0 0 0 [(0, .ref 0)] [] (pRd 0 (tp, (nI n), x, tok, (nI a), num, flt, cod, csz, eds)) := by
    intro m
    induction m with
    | zero =>
      intro i x hi hx hq
      have hs0 : i = E := hq
      refine V.g2 60 [0, 39, 48, 56, 59] mX1_readWord_ok rfl ?_
      refine pk_le n i (fun e1 => ?_) (fun e1 => absurd e1 (by omega)) rfl hx
      refine V.kn [0] [(0, .ref 0)] [] (pRd 0 (tp, (nI n), x, tok, (nI a), num, flt, cod, csz, eds)) rfl rfl rfl ?_
      exact t39 _ (by rw [hx, hs0])
    | succ m ih =>
      intro i x hi hx hq
      refine V.g2 60 [0, 39, 48, 56, 59] mX1_readWord_ok rfl ?_
      refine pk_le n i (fun e1 => absurd e1 (by omega)) (fun e1 => ?_) rfl hx
      refine ⟨i, by omega, hx, rfl, ?_⟩
      refine V.cs mX1_readWord_ok rfl lX1_91 (c7_isLetter l) rfl rfl rfl rfl ⟨_, rfl, rfl, ?_⟩
      cases hY : isLt (tp i) with
      | false =>
        refine V.nm [(0, .ref 0)] [.int (bI false)] (pRd 0 (tp, (nI n), x, tok, (nI a), num, flt, cod, csz, eds)) rfl rfl rfl ?_
        have hs0 : i = E := by rw [← hq, skP_f hY]
        refine V.g2 60 [0, 39, 48, 56, 59] mX1_readWord_ok rfl ?_
        refine And.intro (fun _ => ?_) (fun e => absurd rfl e)
        refine V.kn [0] [(0, .ref 0)] [] (pRd 0 (tp, (nI n), x, tok, (nI a), num, flt, cod, csz, eds)) rfl rfl rfl ?_
        exact t39 _ (by rw [hx, hs0])
      | true =>
        refine V.nm [(0, .ref 0)] [.int (bI true)] (pRd 0 (tp, (nI n), x, tok, (nI a), num, flt, cod, csz, eds)) rfl rfl rfl ?_
        have hs1 : skP isLt tp m (i + 1) = E := by rw [← hq, skP_t hY]
        refine V.g2 60 [0, 39, 48, 56, 59] mX1_readWord_ok rfl ?_
        refine And.intro (fun e => absurd e (by decide)) (fun _ => ?_)
        refine V.kn [0] [(0, .ref 0)] [] (pRd 0 (tp, (nI n), (x + (nI 1)), tok, (nI a), num, flt, cod, csz, eds)) rfl rfl rfl ?_
        exact ih (i + 1) _ (by omega) (ninc hx) hs1
  refine V.nm [(0, .ref 0)] [] (pRd 0 (tp, (nI n), (nI a), tok, (nI a), num, flt, cod, csz, eds)) rfl rfl rfl ?_
  exact loop (n - a) a _ (by omega) rfl hE.symm
theorem c1_nextR (l : Launch) : Ct l mX1_next false 7 0 0 T1_next := c1_next l c1_readWord
