/-! ===== the class: readNumber, next (readWord's contract as a premise) ===== -/
/-- the number that m digits from a on say, in the class's way -/
def nvC (tp : fI) : Nat → Nat → Int32 → Int32
  | 0, _, v => v
  | m + 1, a, v => nvC tp m (a + 1) (v * nI 10 + tp a - nI 48)
/-- a word of the class is there -/
def clB (tp : fI) (b i : Nat) : Nat → Bool
  | 0 => true
  | k + 1 => clB tp b i k && decide (tp (b + k) = (zsbyt.getD (i + 1) []).getD k 0)
def clW (tp : fI) (b e i : Nat) : Bool := decide (e - b = zslen.getD (i + 1) 0) && clB tp b i (zslen.getD (i + 1) 0)
def cwZ (tp : fI) (b e : Nat) : Nat → Int32
  | 0 => nI 300
  | i + 1 => if clW tp b e i = true then nI (310 + i) else cwZ tp b e i
/-- place, token, its place, number, fault, what was put out (latest first) -/
abbrev zS : Type := Nat × Int32 × Nat × Int32 × Int32 × List Int32
def nxK (tp : fI) (n b : Nat) (s : zS) : zS :=
  if n ≤ b then (b, nI 301, b, s.2.2.2.1, s.2.2.2.2)
  else if isLt (tp b) = true then (skP isLt tp (n - b) b, cwZ tp b (skP isLt tp (n - b) b) 12, b, s.2.2.2.1, s.2.2.2.2)
  else if isDg (tp b) = true then (skP isDg tp (n - b) b, (if 4 < skP isDg tp (n - b) b - b then nI 300 else nI 302), b, nvC tp (skP isDg tp (n - b) b - b) b (nI 0), s.2.2.2.2)
  else (b + 1, (if isSg (tp b) = true then tp b else nI 300), b, s.2.2.2.1, s.2.2.2.2)
def nxS (tp : fI) (n : Nat) (s : zS) : zS := nxK tp n (skP isBl tp (n - s.1) s.1) s
def T1_readNumber : zT := fun args hs Q => ∃ (tp : fI) (sz pla tok tpl num flt : Int32) (cod : fI) (csz : Int32) (eds : fI) (n a : Nat), sz = nI n ∧ pla = nI a ∧ tpl = nI a ∧ a ≤ n ∧ n ≤ 160 ∧ args = [.ref 0] ∧ hs = pRd 0 (tp, sz, pla, tok, tpl, num, flt, cod, csz, eds) ∧ ∀ e, e = skP isDg tp (n - a) a → Q none (pRd 0 (tp, sz, (nI e), (if 4 < e - a then nI 300 else nI 302), tpl, (nvC tp (e - a) a (nI 0)), flt, cod, csz, eds))
set_option maxHeartbeats 4000000 in
theorem c1_readNumber (l : Launch) : Ct l mX1_readNumber false 3 0 0 T1_readNumber := by
  refine Ct.intro mX1_readNumber_ok ?_
  rintro args hs Q ⟨tp, sz, pla, tok, tpl, num, flt, cod, csz, eds, n, a, hsz, hpla, htpl, han, hn, rfl, rfl, h⟩
  refine ⟨Nat.le_of_ble_eq_true rfl, ?_⟩
  subst hsz
  subst hpla
  subst htpl
  obtain ⟨E, hE⟩ : ∃ E, E = skP isDg tp (n - a) a := ⟨_, rfl⟩
  have hEle := skP_le (p := isDg) (tp := tp) (m := n - a) (a := a)
  rw [← hE] at hEle
  have h := h E hE
  obtain ⟨N, hN⟩ : ∃ N, N = nvC tp (E - a) a (nI 0) := ⟨_, rfl⟩
  rw [← hN] at h
  obtain ⟨S, hS⟩ : ∃ S, pRd 0 (tp, (nI n), (nI a), tok, (nI a), num, flt, cod, csz, eds) = S := ⟨_, rfl⟩
  refine V.s0 hS ?_
  have t68 : ∀ (x : Int32), x = nI E → V l mX1_readNumber false S (zrm 3 0 0) (zFm false S Q 0 0) 0 0 68 [(0, .ref 0)] [] (pRd 0 (tp, (nI n), x, tok, (nI a), N, flt, cod, csz, eds)) := by
    intro x hx
    refine V.g2 60 [5, 68, 91] mX1_readNumber_ok rfl ?_
    refine pk_le (E - a) 4 (fun e1 => ?_) (fun e1 => ?_) (nsub (by omega) hx rfl) rfl
    · refine V.g2 60 [5, 68, 91] mX1_readNumber_ok rfl ?_
      exact ⟨_, zsim_rfl _, (by rw [if_neg (by omega)] at h; rw [hx]; exact h)⟩
    · refine V.g2 60 [5, 68, 91] mX1_readNumber_ok rfl ?_
      exact ⟨_, zsim_rfl _, (by rw [if_pos (by omega)] at h; rw [hx]; exact h)⟩
  have loop : ∀ (m i : Nat) (x v : Int32), i + m = n → x = nI i → a ≤ i → skP isDg tp m i = E → nvC tp (E - i) i v = N → V l mX1_readNumber false S (zrm 3 0 0) (zFm false S Q 0 0) 0 0 5 [(0, .ref 0)] [] (pRd 0 (tp, (nI n), x, tok, (nI a), v, flt, cod, csz, eds)) := by
    intro m
    induction m with
    | zero =>
      intro i x v hi hx hai hs hv
      have hs0 : i = E := hs
      refine V.g2 60 [5, 68, 91] mX1_readNumber_ok rfl ?_
      refine pk_le n i (fun e1 => ?_) (fun e1 => absurd e1 (by omega)) rfl hx
      have hv0 : v = N := by rw [← hv, ← hs0, Nat.sub_self]; rfl
      rw [hv0]
      refine V.kn [0] [(0, .ref 0)] [] (pRd 0 (tp, (nI n), x, tok, (nI a), N, flt, cod, csz, eds)) rfl rfl rfl ?_
      exact t68 _ (by rw [hx, hs0])
    | succ m ih =>
      intro i x v hi hx hai hs hv
      refine V.g2 60 [5, 68, 91] mX1_readNumber_ok rfl ?_
      refine pk_le n i (fun e1 => absurd e1 (by omega)) (fun e1 => ?_) rfl hx
      refine ⟨i, by omega, hx, rfl, ?_⟩
      refine V.cs mX1_readNumber_ok rfl lX1_97 (c7_isDigit l) rfl rfl rfl rfl ⟨_, rfl, rfl, ?_⟩
      cases hY : isDg (tp i) with
      | false =>
        refine V.nm [(0, .ref 0)] [.int (bI false)] (pRd 0 (tp, (nI n), x, tok, (nI a), v, flt, cod, csz, eds)) rfl rfl rfl ?_
        have hs0 : i = E := by rw [← hs, skP_f hY]
        have hv0 : v = N := by rw [← hv, ← hs0, Nat.sub_self]; rfl
        rw [hv0]
        refine V.nm [(0, .ref 0)] [.int (bI false)] (pRd 0 (tp, (nI n), x, tok, (nI a), N, flt, cod, csz, eds)) rfl rfl rfl ?_
        refine V.g2 60 [5, 68, 91] mX1_readNumber_ok rfl ?_
        refine And.intro (fun _ => ?_) (fun e => absurd rfl e)
        refine V.kn [0] [(0, .ref 0)] [] (pRd 0 (tp, (nI n), x, tok, (nI a), N, flt, cod, csz, eds)) rfl rfl rfl ?_
        exact t68 _ (by rw [hx, hs0])
      | true =>
        refine V.nm [(0, .ref 0)] [.int (bI true)] (pRd 0 (tp, (nI n), x, tok, (nI a), v, flt, cod, csz, eds)) rfl rfl rfl ?_
        have hs1 : skP isDg tp m (i + 1) = E := by rw [← hs, skP_t hY]
        have hi1 := skP_le (p := isDg) (tp := tp) (m := m) (a := i + 1)
        rw [hs1] at hi1
        have hv1 : nvC tp (E - (i + 1)) (i + 1) (v * nI 10 + tp i - nI 48) = N := by rw [← hv, show E - i = (E - (i + 1)) + 1 by omega, nvC]
        refine V.g2 60 [5, 68, 91] mX1_readNumber_ok rfl ?_
        refine And.intro (fun e => absurd e (by decide)) (fun _ => ?_)
        refine ⟨i, by omega, hx, rfl, ?_⟩
        refine V.kn [0] [(0, .ref 0)] [] (pRd 0 (tp, (nI n), (x + (nI 1)), tok, (nI a), (((v * (nI 10)) + (tp i)) - (nI 48)), flt, cod, csz, eds)) rfl rfl rfl ?_
        exact ih (i + 1) _ _ (by omega) (ninc hx) (by omega) hs1 hv1
  refine V.g2 60 [5, 68, 91] mX1_readNumber_ok rfl ?_
  refine V.kn [0] [(0, .ref 0)] [] (pRd 0 (tp, (nI n), (nI a), tok, (nI a), (nI 0), flt, cod, csz, eds)) rfl rfl rfl ?_
  exact loop (n - a) a _ _ (by omega) rfl (Nat.le_refl a) hE.symm hN.symm
def T1_readWord : zT := fun args hs Q => ∃ (tp : fI) (sz pla tok tpl num flt : Int32) (cod : fI) (csz : Int32) (eds : fI) (n a : Nat), sz = nI n ∧ pla = nI a ∧ tpl = nI a ∧ a ≤ n ∧ n ≤ 160 ∧ args = [.ref 0] ∧ hs = pRd 0 (tp, sz, pla, tok, tpl, num, flt, cod, csz, eds) ∧ ∀ e, e = skP isLt tp (n - a) a → Q none (pRd 0 (tp, sz, (nI e), (cwZ tp a e 12), tpl, num, flt, cod, csz, eds))
def T1_next : zT := fun args hs Q => ∃ (tp : fI) (n : Nat) (s : zS) (cod eds : fI), s.1 ≤ n ∧ n ≤ 160 ∧ args = [.ref 0] ∧ hs = pRd 0 (tp, nI n, nI s.1, s.2.1, nI s.2.2.1, s.2.2.2.1, s.2.2.2.2.1, cod, nI s.2.2.2.2.2.length, eds) ∧ ∀ s2, s2 = nxS tp n s → Q none (pRd 0 (tp, nI n, nI s2.1, s2.2.1, nI s2.2.2.1, s2.2.2.2.1, s2.2.2.2.2.1, cod, nI s2.2.2.2.2.2.length, eds))
set_option maxHeartbeats 4000000 in
theorem c1_next (l : Launch) (hW : ∀ l, Ct l mX1_readWord false 6 0 0 T1_readWord) : Ct l mX1_next false 7 0 0 T1_next := by
  refine Ct.intro mX1_next_ok ?_
  rintro args hs Q ⟨tp, n, s, cod, eds, han, hn, rfl, rfl, h⟩
  refine ⟨Nat.le_of_ble_eq_true rfl, ?_⟩
  obtain ⟨a, tok, tpl2, num, flt, ou⟩ := s
  obtain ⟨csz, hcsz⟩ : ∃ csz, csz = nI ou.length := ⟨_, rfl⟩
  obtain ⟨tpl, htpl⟩ : ∃ tpl, tpl = nI tpl2 := ⟨_, rfl⟩
  have han : a ≤ n := han
  refine V.nm [(0, .ref 0)] [] (pRd 0 (tp, (nI n), (nI a), tok, tpl, num, flt, cod, csz, eds)) rfl rfl (by rw [hcsz, htpl]) ?_
  obtain ⟨B, hB⟩ : ∃ B, B = skP isBl tp (n - a) a := ⟨_, rfl⟩
  have hBle := skP_le (p := isBl) (tp := tp) (m := n - a) (a := a)
  rw [← hB] at hBle
  have h : ∀ s2 : zS, s2 = nxK tp n B (a, tok, tpl2, num, flt, ou) → Q none (pRd 0 (tp, nI n, nI s2.1, s2.2.1, nI s2.2.2.1, s2.2.2.2.1, s2.2.2.2.2.1, cod, nI s2.2.2.2.2.2.length, eds)) := fun s2 e => h s2 (by rw [e, hB]; rfl)
  obtain ⟨S, hS⟩ : ∃ S, pRd 0 (tp, nI n, nI a, tok, nI tpl2, num, flt, cod, nI ou.length, eds) = S := ⟨_, rfl⟩
  refine V.s0 hS ?_
  have t39 : ∀ (x : Int32), x = nI B → V l mX1_next false S (zrm 7 0 0) (zFm false S Q 0 0) 0 0 39 [(0, .ref 0)] [] (pRd 0 (tp, (nI n), x, tok, tpl, num, flt, cod, csz, eds)) := by
    intro x hx
    refine V.g2 60 [0, 39, 90, 112, 140, 143, 156] mX1_next_ok rfl ?_
    refine pk_lt B n (fun e0 => ?_) (fun e0 => ?_) hx rfl
    · have hBn : B < n := by omega
      refine ⟨B, by omega, hx, rfl, ?_⟩
      obtain ⟨c, hc⟩ : ∃ c, c = tp B := ⟨_, rfl⟩
      refine V.cs mX1_next_ok rfl lX1_91 (c7_isLetter l) rfl rfl rfl rfl ⟨_, rfl, rfl, ?_⟩
      cases hlt : isLt (tp B) with
      | false =>
        refine V.nm [(0, .ref 0)] [.int (bI false)] (pRd 0 (tp, (nI n), x, tok, x, num, flt, cod, csz, eds)) rfl rfl rfl ?_
        refine V.g2 60 [0, 39, 90, 112, 140, 143, 156] mX1_next_ok rfl ?_
        refine And.intro (fun _ => ?_) (fun e => absurd rfl e)
        refine V.g2 60 [0, 39, 90, 112, 140, 143, 156] mX1_next_ok rfl ?_
        refine ⟨B, by omega, hx, rfl, ?_⟩
        refine V.cs mX1_next_ok rfl lX1_97 (c7_isDigit l) rfl rfl rfl rfl ⟨_, rfl, rfl, ?_⟩
        cases hdg : isDg (tp B) with
        | false =>
          refine V.nm [(0, .ref 0)] [.int (bI false)] (pRd 0 (tp, (nI n), x, tok, x, num, flt, cod, csz, eds)) rfl rfl rfl ?_
          refine V.g2 60 [0, 39, 90, 112, 140, 143, 156] mX1_next_ok rfl ?_
          refine And.intro (fun _ => ?_) (fun e => absurd rfl e)
          refine V.g2 60 [0, 39, 90, 112, 140, 143, 156] mX1_next_ok rfl ?_
          refine ⟨B, by omega, hx, rfl, ?_⟩
          refine V.cs mX1_next_ok rfl lX1_103 (c7_isSign l) rfl rfl rfl rfl ⟨_, rfl, rfl, ?_⟩
          cases hsg : isSg (tp B) with
          | false =>
            refine V.nm [(0, .ref 0)] [.int (bI false), .ref 0] (pRd 0 (tp, (nI n), x, tok, x, num, flt, cod, csz, eds)) rfl rfl rfl ?_
            refine V.g2 60 [0, 39, 90, 112, 140, 143, 156] mX1_next_ok rfl ?_
            refine And.intro (fun _ => ?_) (fun e => absurd rfl e)
            refine V.g2 60 [0, 39, 90, 112, 140, 143, 156] mX1_next_ok rfl ?_
            refine V.g2 60 [0, 39, 90, 112, 140, 143, 156] mX1_next_ok rfl ?_
            refine V.g2 60 [0, 39, 90, 112, 140, 143, 156] mX1_next_ok rfl ?_
            refine ⟨_, zsim_rfl _, ?_⟩
            have h := h _ rfl
            rw [nxK, if_neg (by omega), if_neg (by rw [hlt]; exact Bool.false_ne_true), if_neg (by rw [hdg]; exact Bool.false_ne_true), if_neg (by rw [hsg]; exact Bool.false_ne_true)] at h
            have h : Q none (pRd 0 (tp, nI n, nI (B + 1), nI 300, nI B, num, flt, cod, nI ou.length, eds)) := h
            have ex : nI B + nI 1 = nI (B + 1) := nI_1 B
            rw [← hcsz, ← ex, ← hx] at h
            exact h
          | true =>
            refine V.nm [(0, .ref 0)] [.int (bI true), .ref 0] (pRd 0 (tp, (nI n), x, tok, x, num, flt, cod, csz, eds)) rfl rfl rfl ?_
            refine V.g2 60 [0, 39, 90, 112, 140, 143, 156] mX1_next_ok rfl ?_
            refine And.intro (fun e => absurd e (by decide)) (fun _ => ?_)
            refine ⟨B, by omega, hx, rfl, ?_⟩
            refine V.g2 60 [0, 39, 90, 112, 140, 143, 156] mX1_next_ok rfl ?_
            refine V.g2 60 [0, 39, 90, 112, 140, 143, 156] mX1_next_ok rfl ?_
            refine ⟨_, zsim_rfl _, ?_⟩
            have h := h _ rfl
            rw [nxK, if_neg (by omega), if_neg (by rw [hlt]; exact Bool.false_ne_true), if_neg (by rw [hdg]; exact Bool.false_ne_true), if_pos hsg] at h
            have h : Q none (pRd 0 (tp, nI n, nI (B + 1), tp B, nI B, num, flt, cod, nI ou.length, eds)) := h
            have ex : nI B + nI 1 = nI (B + 1) := nI_1 B
            rw [← hcsz, ← ex, ← hx] at h
            exact h
        | true =>
          refine V.nm [(0, .ref 0)] [.int (bI true)] (pRd 0 (tp, (nI n), x, tok, x, num, flt, cod, csz, eds)) rfl rfl rfl ?_
          subst hx
          refine V.nm [(0, .ref 0)] [.int (bI true)] (pRd 0 (tp, (nI n), (nI B), tok, (nI B), num, flt, cod, csz, eds)) rfl rfl rfl ?_
          refine V.g2 60 [0, 39, 90, 112, 140, 143, 156] mX1_next_ok rfl ?_
          refine And.intro (fun e => absurd e (by decide)) (fun _ => ?_)
          refine V.cw mX1_next_ok rfl lX1_100 (c1_readNumber l) rfl 0 1 rfl rfl rfl rfl rfl rfl ⟨tp, nI n, nI B, tok, nI B, num, flt, cod, csz, eds, n, B, rfl, rfl, rfl, by omega, hn, rfl, rfl, fun E hE => ⟨rfl, ?_⟩⟩
          refine V.nm [(0, .ref 0)] [] (pRd 0 (tp, (nI n), (nI E), (if 4 < E - B then nI 300 else nI 302), (nI B), (nvC tp (E - B) B (nI 0)), flt, cod, csz, eds)) rfl rfl rfl ?_
          refine V.g2 60 [0, 39, 90, 112, 140, 143, 156] mX1_next_ok rfl ?_
          refine V.g2 60 [0, 39, 90, 112, 140, 143, 156] mX1_next_ok rfl ?_
          refine ⟨_, zsim_rfl _, ?_⟩
          have h := h _ rfl
          rw [nxK, if_neg (by omega), if_neg (by rw [hlt]; exact Bool.false_ne_true), if_pos hdg, ← hE] at h
          have h : Q none (pRd 0 (tp, nI n, nI E, (if 4 < E - B then nI 300 else nI 302), nI B, nvC tp (E - B) B (nI 0), flt, cod, nI ou.length, eds)) := h
          rw [← hcsz] at h
          exact h
      | true =>
        refine V.nm [(0, .ref 0)] [.int (bI true)] (pRd 0 (tp, (nI n), x, tok, x, num, flt, cod, csz, eds)) rfl rfl rfl ?_
        subst hx
        refine V.nm [(0, .ref 0)] [.int (bI true)] (pRd 0 (tp, (nI n), (nI B), tok, (nI B), num, flt, cod, csz, eds)) rfl rfl rfl ?_
        refine V.g2 60 [0, 39, 90, 112, 140, 143, 156] mX1_next_ok rfl ?_
        refine And.intro (fun e => absurd e (by decide)) (fun _ => ?_)
        refine V.cw mX1_next_ok rfl lX1_94 (hW l) rfl 0 1 rfl rfl rfl rfl rfl rfl ⟨tp, nI n, nI B, tok, nI B, num, flt, cod, csz, eds, n, B, rfl, rfl, rfl, by omega, hn, rfl, rfl, fun E hE => ⟨rfl, ?_⟩⟩
        refine V.nm [(0, .ref 0)] [] (pRd 0 (tp, (nI n), (nI E), (cwZ tp B E 12), (nI B), num, flt, cod, csz, eds)) rfl rfl rfl ?_
        refine V.g2 60 [0, 39, 90, 112, 140, 143, 156] mX1_next_ok rfl ?_
        refine V.g2 60 [0, 39, 90, 112, 140, 143, 156] mX1_next_ok rfl ?_
        refine ⟨_, zsim_rfl _, ?_⟩
        have h := h _ rfl
        rw [nxK, if_neg (by omega), if_pos hlt, ← hE] at h
        have h : Q none (pRd 0 (tp, nI n, nI E, cwZ tp B E 12, nI B, num, flt, cod, nI ou.length, eds)) := h
        rw [← hcsz] at h
        exact h
    · refine V.g2 60 [0, 39, 90, 112, 140, 143, 156] mX1_next_ok rfl ?_
      refine ⟨_, zsim_rfl _, ?_⟩
      have h := h _ rfl
      rw [nxK, if_pos (by omega)] at h
      have h : Q none (pRd 0 (tp, nI n, nI B, nI 301, nI B, num, flt, cod, nI ou.length, eds)) := h
      rw [← hcsz] at h
      rw [← hx] at h
      exact h
  have loop : ∀ (m i : Nat) (x : Int32), i + m = n → x = nI i → skP isBl tp m i = B → V l mX1_next false S (zrm 7 0 0) (zFm false S Q 0 0) 0 0 0 [(0, .ref 0)] [] (pRd 0 (tp, (nI n), x, tok, tpl, num, flt, cod, csz, eds)) := by
    intro m
    induction m with
    | zero =>
      intro i x hi hx hs
      have hs0 : i = B := hs
      refine V.g2 60 [0, 39, 90, 112, 140, 143, 156] mX1_next_ok rfl ?_
      refine pk_le n i (fun e1 => ?_) (fun e1 => absurd e1 (by omega)) rfl hx
      refine V.kn [0] [(0, .ref 0)] [] (pRd 0 (tp, (nI n), x, tok, tpl, num, flt, cod, csz, eds)) rfl rfl rfl ?_
      exact t39 _ (by rw [hx, hs0])
    | succ m ih =>
      intro i x hi hx hs
      refine V.g2 60 [0, 39, 90, 112, 140, 143, 156] mX1_next_ok rfl ?_
      refine pk_le n i (fun e1 => absurd e1 (by omega)) (fun e1 => ?_) rfl hx
      refine ⟨i, by omega, hx, rfl, ?_⟩
      refine V.cs mX1_next_ok rfl lX1_87 (c7_isBlank l) rfl rfl rfl rfl ⟨_, rfl, rfl, ?_⟩
      cases hY : isBl (tp i) with
      | false =>
        refine V.nm [(0, .ref 0)] [.int (bI false)] (pRd 0 (tp, (nI n), x, tok, tpl, num, flt, cod, csz, eds)) rfl rfl rfl ?_
        refine V.g2 60 [0, 39, 90, 112, 140, 143, 156] mX1_next_ok rfl ?_
        refine And.intro (fun _ => ?_) (fun e => absurd rfl e)
        refine V.kn [0] [(0, .ref 0)] [] (pRd 0 (tp, (nI n), x, tok, tpl, num, flt, cod, csz, eds)) rfl rfl rfl ?_
        exact t39 _ (by rw [hx, ← hs, skP_f hY])
      | true =>
        refine V.nm [(0, .ref 0)] [.int (bI true)] (pRd 0 (tp, (nI n), x, tok, tpl, num, flt, cod, csz, eds)) rfl rfl rfl ?_
        refine V.g2 60 [0, 39, 90, 112, 140, 143, 156] mX1_next_ok rfl ?_
        refine And.intro (fun e => absurd e (by decide)) (fun _ => ?_)
        refine V.kn [0] [(0, .ref 0)] [] (pRd 0 (tp, (nI n), (x + (nI 1)), tok, tpl, num, flt, cod, csz, eds)) rfl rfl rfl ?_
        exact ih (i + 1) _ (by omega) (ninc hx) (by rw [← hs, skP_t hY])
  refine V.nm [(0, .ref 0)] [] (pRd 0 (tp, (nI n), (nI a), tok, tpl, num, flt, cod, csz, eds)) rfl rfl rfl ?_
  exact loop (n - a) a _ (by omega) rfl hB.symm
