/-! ===== Row: pushIn, serve ===== -/
def tOk (x : Int32) : Prop := x = -1 ∨ ∃ j, j < 8 ∧ x = nI j
def T_pushIn : zT := fun args hs Q => ∃ (bd od tk : fI) (sz lo be aw mb mw mt x : Int32) (st : Nat), st ≤ 8 ∧ args = [.ref 0, .int x] ∧ hs = pRow 0 bd od sz lo be aw (nI st) tk mb mw mt ∧ (x < 0 → Q none hs) ∧ (∀ g, x = nI g → g < 2 ^ 31 → g < 24 ∧ ((tk g = -1 ∨ st = 8) → Q none hs) ∧ (¬ tk g = -1 → st < 8 → Q none (pRow 0 bd (upd od st (tk g)) sz lo be aw (nI (st + 1)) tk mb mw mt)))
theorem ct_pushIn (l : Launch) : Ct l mX3_pushIn false 1 0 0 T_pushIn := by
  refine Ct.intro mX3_pushIn_ok ?_
  rintro args hs Q ⟨bd, od, tk, sz, lo, be, aw, mb, mw, mt, x, st, hst, rfl, rfl, h0, h1⟩
  refine ⟨Nat.le_of_ble_eq_true rfl, ?_⟩
  refine V.g 40 [] mX3_pushIn_ok rfl ?_
  refine And.intro (fun c => ⟨_, zsim_rfl _, h0 c⟩) (fun c => ?_)
  obtain ⟨g, hg, hx⟩ := nI_of c
  obtain ⟨hg24, hn, hp⟩ := h1 g hx hg
  have ex := pk_cl g hx
  refine And.intro (pk_in g 24 hg24 hx) ?_
  refine And.intro (fun c => ?_) (fun c => ?_)
  · have c1 : tk (cl x) = -1 := c
    rw [show cl x = g from ex] at c1
    exact ⟨_, zsim_rfl _, hn (Or.inl c1)⟩
  · have c1 : ¬ tk (cl x) = -1 := c
    rw [show cl x = g from ex] at c1
    refine pk_le 8 st (fun e => ⟨_, zsim_rfl _, hn (Or.inr (by omega))⟩) (fun e => ?_)
    refine And.intro (pk_in g 24 hg24 hx) (And.intro (pk_in st 8 e) ⟨_, zsim_rfl _, ?_⟩)
    have := hp c1 e
    rw [← ex] at this
    rw [← pk_cl (x := nI st) st] at this
    have e3 : nI st + nI 1 = nI ((nI st).toNatClampNeg + 1) := by rw [pk_cl (x := nI st) st]; exact nI_1 st
    rw [← e3] at this
    exact this
/-- order, how many stand, who took which, met: bad, worst, bits -/
abbrev RS : Type := fI × Nat × fI × Int32 × Int32 × Int32
def psh (g : Nat) (s : RS) : RS := if s.2.2.1 g = -1 ∨ s.2.1 = 8 then s else (upd s.1 s.2.1 (s.2.2.1 g), s.2.1 + 1, s.2.2)
def tko (bd : fI) (be : Int32) (lk g : Nat) (s : RS) : RS := match chG bd s.1 be (min s.2.1 lk) 0 none with
  | none => (s.1, s.2.1, upd s.2.2.1 g (-1), s.2.2.2)
  | some p => (shP s.1 p s.2.1, s.2.1 - 1, upd s.2.2.1 g (s.1 p), s.2.2.2.1 + bd (cl (s.1 p)), mxF s.2.2.2.2.1 (bd (cl (s.1 p))), s.2.2.2.2.2 ||| (nI 1 <<< (s.1 p &&& 31)))
def gst (bd : fI) (be : Int32) (lk aw g : Nat) (s : RS) : RS := tko bd be lk g (if aw + 1 ≤ g then psh (g - 1 - aw) s else s)
def svG (bd : fI) (be : Int32) (lk aw : Nat) (s : RS) : Nat → RS
  | 0 => s
  | g + 1 => gst bd be lk aw g (svG bd be lk aw s g)
def svP (s : RS) (g : Nat) : Nat → RS
  | 0 => s
  | n + 1 => psh (g + n) (svP s g n)
def srv (bd : fI) (be : Int32) (lk aw : Nat) (od : fI) (sz : Nat) (tk : fI) (n : Nat) : RS := svP (svG bd be lk aw (od, sz, tk, 0, 0, 0) n) (n - 1 - aw) (n - (n - 1 - aw))
def rOk (s : RS) (g : Nat) : Prop := s.2.1 ≤ 8 ∧ oOk s.1 ∧ ∀ k, k < g → tOk (s.2.2.1 k)
theorem psh_ok {s : RS} {g k : Nat} (h : rOk s g) (hk : k < g) : rOk (psh k s) g := by
  unfold psh
  split
  · exact h
  · rename_i hn
    refine ⟨?_, ?_, h.2.2⟩
    · have := h.1
      show s.2.1 + 1 ≤ 8
      rcases Nat.lt_or_ge s.2.1 8 with q | q
      · exact q
      · exact absurd (Or.inr (by omega)) hn
    · intro i hi
      show ∃ j, j < 8 ∧ upd s.1 s.2.1 (s.2.2.1 k) i = nI j
      by_cases e : i = s.2.1
      · rw [e, pk_us]
        rcases h.2.2 k hk with q | q
        · exact absurd (Or.inl q) hn
        · exact q
      · rw [pk_un e]
        exact h.2.1 i hi
theorem tko_ok {bd : fI} {be : Int32} {lk g : Nat} {s : RS} (h : rOk s g) : rOk (tko bd be lk g s) (g + 1) := by
  unfold tko
  split
  · refine ⟨h.1, h.2.1, fun k hk => ?_⟩
    show tOk (upd s.2.2.1 g (-1) k)
    by_cases e : k = g
    · rw [e, pk_us]; exact Or.inl rfl
    · rw [pk_un e]; exact h.2.2 k (by omega)
  · rename_i p hp
    have hpl : p < min s.2.1 lk := chG_lt bd s.1 be (m := min s.2.1 lk) _ 0 none (by omega) (fun q e => by cases e) p hp
    have h1 := h.1
    refine ⟨by show s.2.1 - 1 ≤ 8; omega, shP_ok h.2.1 h.1, fun k hk => ?_⟩
    show tOk (upd s.2.2.1 g (s.1 p) k)
    by_cases e : k = g
    · rw [e, pk_us]; exact Or.inr (h.2.1 p (by omega))
    · rw [pk_un e]; exact h.2.2 k (by omega)
theorem gst_ok {bd : fI} {be : Int32} {lk aw g : Nat} {s : RS} (h : rOk s g) : rOk (gst bd be lk aw g s) (g + 1) := by
  unfold gst
  split
  · exact tko_ok (psh_ok h (by omega))
  · exact tko_ok h
theorem svG_ok {bd : fI} {be : Int32} {lk aw : Nat} {s : RS} (h : rOk s 0) : ∀ g, rOk (svG bd be lk aw s g) g
  | 0 => h
  | g + 1 => gst_ok (svG_ok h g)
abbrev pRS (bd : fI) (sz lo be aw : Int32) (s : RS) : List zE := pRow 0 bd s.1 sz lo be aw (nI s.2.1) s.2.2.1 s.2.2.2.1 s.2.2.2.2.1 s.2.2.2.2.2
def T_serve : zT := fun args hs Q => ∃ (bd od tk : fI) (be mb mw mt st : Int32) (sz lk aw n : Nat), sz ≤ 8 ∧ lk ≤ 8 ∧ aw ≤ 5 ∧ n ≤ 24 ∧ oOk od ∧ args = [.ref 0, .int (nI n)] ∧ hs = pRow 0 bd od (nI sz) (nI lk) be (nI aw) st tk mb mw mt ∧ Q none (pRS bd (nI sz) (nI lk) be (nI aw) (srv bd be lk aw od sz tk n))
theorem ct_serve (l : Launch) : Ct l mX3_serve false 3 0 0 T_serve := by
  refine Ct.intro mX3_serve_ok ?_
  rintro args hs Q ⟨bd, od, tk, be, mb, mw, mt, st, sz, lk, aw, n, hsz, hlk, haw, hn, hod, rfl, rfl, h⟩
  refine ⟨Nat.le_of_ble_eq_true rfl, ?_⟩
  have h0 : rOk (od, sz, tk, 0, 0, 0) 0 := ⟨hsz, hod, fun k hk => by omega⟩
  have hGn := svG_ok (bd := bd) (be := be) (lk := lk) (aw := aw) h0 n
  generalize hS : pRow 0 bd od (nI sz) (nI lk) be (nI aw) st tk mb mw mt = S
  have loop2 : ∀ (k i : Nat) (s : RS) (x : Int32), i + k = n → x = nI i → rOk s n → s = svP (svG bd be lk aw (od, sz, tk, 0, 0, 0) n) (n - 1 - aw) (i - (n - 1 - aw)) → n - 1 - aw ≤ i → V l mX3_serve false S (zrm 3 0 0) (zFm false S Q 0 0) 0 0 71 [(2, .int x), (1, .int (nI n)), (0, .ref 0)] [] (pRS bd (nI sz) (nI lk) be (nI aw) s) := by
    intro k
    induction k with
    | zero =>
      intro i s x hi hx hr hs hle
      have : i = n := by omega
      subst this
      refine V.g 40 [71] mX3_serve_ok rfl ?_
      refine pk_le i i (fun _ => ⟨_, zsim_rfl _, ?_⟩) (fun e => absurd e (by omega)) rfl hx
      rw [hs]
      exact h
    | succ k ih =>
      intro i s x hi hx hr hs hle
      refine V.g 40 [71] mX3_serve_ok rfl ?_
      refine pk_le n i (fun e => absurd e (by omega)) (fun _ => ?_) rfl hx
      have hnext : psh i s = svP (svG bd be lk aw (od, sz, tk, 0, 0, 0) n) (n - 1 - aw) (i + 1 - (n - 1 - aw)) := by
        rw [show i + 1 - (n - 1 - aw) = (i - (n - 1 - aw)) + 1 by omega, svP, ← hs]
        congr 1
        omega
      refine V.cVW mX3_serve_ok rfl lX3_52 (ct_pushIn l) rfl [.ref 0, .int x] [] rfl 0 3 rfl rfl rfl rfl rfl rfl none (pRS bd (nI sz) (nI lk) be (nI aw) (psh i s)) ⟨bd, s.1, s.2.2.1, nI sz, nI lk, be, nI aw, s.2.2.2.1, s.2.2.2.2.1, s.2.2.2.2.2, x, s.2.1, hr.1, rfl, rfl, fun c => absurd c (by rw [hx]; exact nI_pos (by omega)), fun g hg hg2 => ?_⟩ rfl ?_
      · have : g = i := (nI_eq hg2 (by omega)).mp (by rw [← hg, hx])
        subst this
        refine ⟨by omega, fun c => ⟨rfl, ?_⟩, fun c1 c2 => ⟨rfl, ?_⟩⟩
        · rw [psh, if_pos c]
        · rw [psh, if_neg (by rintro (q | q); exact c1 q; omega)]
      · refine V.g 40 [71] mX3_serve_ok rfl ?_
        refine V.key [2, 1, 0] ?_
        exact ih (i + 1) (psh i s) _ (by omega) (by rw [hx]; exact nI_1 i) (psh_ok hr (by omega)) hnext (by omega)
  have loop1 : ∀ (k g : Nat) (s : RS) (x : Int32), g + k = n → x = nI g → s = svG bd be lk aw (od, sz, tk, 0, 0, 0) g → V l mX3_serve false S (zrm 3 0 0) (zFm false S Q 0 0) 0 0 25 [(2, .int x), (1, .int (nI n)), (0, .ref 0)] [] (pRS bd (nI sz) (nI lk) be (nI aw) s) := by
    intro k
    induction k with
    | zero =>
      intro g s x hg hx hs
      have : g = n := by omega
      subst this
      refine V.g 40 [71, 25] mX3_serve_ok rfl ?_
      refine pk_le g g (fun _ => ?_) (fun e => absurd e (by omega)) rfl hx
      refine V.mmax mX3_serve_ok rfl lX3_60 rfl rfl ?_
      refine V.g 40 [71, 25] mX3_serve_ok rfl ?_
      refine V.key [2, 1, 0] ?_
      refine loop2 (g - (g - 1 - aw)) (g - 1 - aw) s _ (by omega) ?_ (by rw [hs]; exact hGn) (by rw [hs, Nat.sub_self]; rfl) (Nat.le_refl _)
      show (if nI 0 < nI g - nI 1 - nI aw then nI g - nI 1 - nI aw else nI 0) = nI (g - 1 - aw)
      by_cases hc : 1 + aw ≤ g
      · have e1 : nI g - nI 1 - nI aw = nI (g - 1 - aw) := by rw [pk_sub (by omega), pk_sub (by omega)]
        rw [e1]
        by_cases h2 : 0 < g - 1 - aw
        · rw [if_pos ((nI_ltI (by omega) (by omega)).mpr h2)]
        · rw [if_neg (fun q => h2 ((nI_ltI (by omega) (by omega)).mp q))]
          congr 1
          omega
      · have e2 : nI g - nI 1 - nI aw = nI g - nI (1 + aw) := by
          rw [← nI_add]
          simp only [Int32.sub_eq_add_neg, Int32.neg_add, Int32.add_assoc]
        rw [e2, if_neg]
        · congr 1
          omega
        · exact Int32.not_lt.mpr (Int32.le_of_lt (pk_sneg (by omega) (by omega)))
    | succ k ih =>
      intro g s x hg hx hs
      have hr : rOk s g := by rw [hs]; exact svG_ok h0 g
      have hnext : gst bd be lk aw g s = svG bd be lk aw (od, sz, tk, 0, 0, 0) (g + 1) := by rw [svG, ← hs]
      have hr1 : rOk (if aw + 1 ≤ g then psh (g - 1 - aw) s else s) g := by
        split
        · exact psh_ok hr (by omega)
        · exact hr
      refine V.g 40 [71, 25] mX3_serve_ok rfl ?_
      refine pk_le n g (fun e => absurd e (by omega)) (fun _ => ?_) rfl hx
      refine V.cVW mX3_serve_ok rfl lX3_52 (ct_pushIn l) rfl [.ref 0, .int (x - nI 1 - nI aw)] [] rfl 0 3 rfl rfl rfl rfl rfl rfl none (pRS bd (nI sz) (nI lk) be (nI aw) (if aw + 1 ≤ g then psh (g - 1 - aw) s else s)) ⟨bd, s.1, s.2.2.1, nI sz, nI lk, be, nI aw, s.2.2.2.1, s.2.2.2.2.1, s.2.2.2.2.2, x - nI 1 - nI aw, s.2.1, hr.1, rfl, rfl, fun c => ⟨rfl, ?_⟩, fun g2 hg2 hg3 => ?_⟩ rfl ?_
      · rw [if_neg]
        intro q
        rw [hx, pk_sub (by omega), pk_sub (by omega)] at c
        exact nI_pos (by omega) c
      · by_cases hc : aw + 1 ≤ g
        · have e1 : x - nI 1 - nI aw = nI (g - 1 - aw) := by rw [hx, pk_sub (by omega), pk_sub (by omega)]
          have : g2 = g - 1 - aw := (nI_eq hg3 (by omega)).mp (by rw [← hg2, e1])
          subst this
          refine ⟨by omega, fun c => ⟨rfl, ?_⟩, fun c1 c2 => ⟨rfl, ?_⟩⟩
          · rw [if_pos hc, psh, if_pos c]
          · rw [if_pos hc, psh, if_neg (by rintro (q | q); exact c1 q; omega)]
        · exfalso
          have e2 : nI g - nI 1 - nI aw = nI g - nI (1 + aw) := by
            rw [← nI_add]
            simp only [Int32.sub_eq_add_neg, Int32.neg_add, Int32.add_assoc]
          rw [hx, e2] at hg2
          have := pk_sneg (a := g) (b := 1 + aw) (by omega) (by omega)
          rw [hg2] at this
          exact nI_pos hg3 this
      · generalize hs1 : (if aw + 1 ≤ g then psh (g - 1 - aw) s else s) = s1 at hr1 ⊢
        have htk : gst bd be lk aw g s = tko bd be lk g s1 := by rw [gst, hs1]
        refine V.g 40 [71, 25] mX3_serve_ok rfl ?_
        cases hc : chG bd s1.1 be (min s1.2.1 lk) 0 none with
        | none =>
          refine V.cVW mX3_serve_ok rfl lX3_56 (ct_takeOut l) rfl [.ref 0] [.int x, .ref 6] rfl 0 3 rfl rfl rfl rfl rfl rfl (some (.int (-1))) (pRS bd (nI sz) (nI lk) be (nI aw) s1) ⟨bd, s1.1, s1.2.2.1, nI sz, be, nI aw, s1.2.2.2.1, s1.2.2.2.2.1, s1.2.2.2.2.2, s1.2.1, lk, hr1.1, hlk, hr1.2.1, rfl, rfl, by rw [hc]; exact ⟨rfl, rfl⟩⟩ rfl ?_
          refine V.g 40 [71, 25] mX3_serve_ok rfl ?_
          refine And.intro (pk_in g 24 (by omega) hx) ?_
          refine V.key [2, 1, 0] ?_
          refine ih (g + 1) (s1.1, s1.2.1, upd s1.2.2.1 x.toNatClampNeg (-1), s1.2.2.2) _ (by omega) (by rw [hx]; exact nI_1 g) ?_
          rw [← hnext, htk, tko, hc, pk_cl g hx]
        | some p =>
          refine V.cVW mX3_serve_ok rfl lX3_56 (ct_takeOut l) rfl [.ref 0] [.int x, .ref 6] rfl 0 3 rfl rfl rfl rfl rfl rfl (some (.int (s1.1 p))) (pRS bd (nI sz) (nI lk) be (nI aw) (shP s1.1 p s1.2.1, s1.2.1 - 1, s1.2.2.1, s1.2.2.2.1 + bd (cl (s1.1 p)), mxF s1.2.2.2.2.1 (bd (cl (s1.1 p))), s1.2.2.2.2.2 ||| (nI 1 <<< (s1.1 p &&& 31)))) ⟨bd, s1.1, s1.2.2.1, nI sz, be, nI aw, s1.2.2.2.1, s1.2.2.2.2.1, s1.2.2.2.2.2, s1.2.1, lk, hr1.1, hlk, hr1.2.1, rfl, rfl, by rw [hc]; exact ⟨rfl, rfl⟩⟩ rfl ?_
          refine V.g 40 [71, 25] mX3_serve_ok rfl ?_
          refine And.intro (pk_in g 24 (by omega) hx) ?_
          refine V.key [2, 1, 0] ?_
          refine ih (g + 1) (shP s1.1 p s1.2.1, s1.2.1 - 1, upd s1.2.2.1 x.toNatClampNeg (s1.1 p), s1.2.2.2.1 + bd (cl (s1.1 p)), mxF s1.2.2.2.2.1 (bd (cl (s1.1 p))), s1.2.2.2.2.2 ||| (nI 1 <<< (s1.1 p &&& 31))) _ (by omega) (by rw [hx]; exact nI_1 g) ?_
          rw [← hnext, htk, tko, hc, pk_cl g hx]
  subst hS
  refine V.g 40 [71, 25] mX3_serve_ok rfl ?_
  refine V.key [2, 1, 0] ?_
  exact loop1 n 0 (od, sz, tk, 0, 0, 0) _ (by omega) rfl rfl
