/-! ===== Row ===== -/
abbrev pRow (o : Nat) (bd od : fI) (sz lo be aw st : Int32) (tk : fI) (mb mw mt : Int32) : List zE := [.inr (3, [.ref (2 * (o + 1)), .ref (2 * (o + 2)), .int sz, .int lo, .int be, .int aw, .int st, .ref (2 * (o + 3)), .int mb, .int mw, .int mt]), .inl (0, 8, .inl bd), .inl (0, 8, .inl od), .inl (0, 24, .inl tk)]
abbrev cl (x : Int32) : Nat := x.toNatClampNeg
def oOk (od : fI) : Prop := ∀ i, i < 8 → ∃ j, j < 8 ∧ od i = nI j
def oI : Option Nat → Int32
  | none => -1
  | some p => nI p
def chG (bd od : fI) (be : Int32) : Nat → Nat → Option Nat → Option Nat
  | 0, _, best => best
  | n + 1, p, best => if bd (cl (od p)) ≤ be then some p else chG bd od be n (p + 1) (match best with
    | none => some p
    | some q => if bd (cl (od p)) < bd (cl (od q)) then some p else some q)
theorem chG_lt (bd od : fI) (be : Int32) {m : Nat} : ∀ (n p : Nat) (best : Option Nat), p + n ≤ m → (∀ q, best = some q → q < m) → ∀ q, chG bd od be n p best = some q → q < m
  | 0, p, best, _, hb, q, h => hb q h
  | n + 1, p, best, hm, hb, q, h => by
    simp only [chG] at h
    split at h
    · cases h; omega
    · refine chG_lt bd od be n (p + 1) _ (by omega) ?_ q h
      intro r hr
      split at hr
      · cases hr; omega
      · split at hr
        · cases hr; omega
        · cases hr; exact hb _ rfl
def T_placeChosen : zT := fun args hs Q => ∃ (bd od tk : fI) (sz be aw mb mw mt : Int32) (st lk : Nat), st ≤ 8 ∧ lk ≤ 8 ∧ oOk od ∧ args = [.ref 0] ∧ hs = pRow 0 bd od sz (nI lk) be aw (nI st) tk mb mw mt ∧ Q (some (.int (oI (chG bd od be (min st lk) 0 none)))) hs
theorem ct_placeChosen (l : Launch) : Ct l mX3_placeChosen false 1 0 0 T_placeChosen := by
  refine Ct.intro mX3_placeChosen_ok ?_
  rintro args hs Q ⟨bd, od, tk, sz, be, aw, mb, mw, mt, st, lk, hst, hlk, hod, rfl, rfl, h⟩
  refine ⟨Nat.le_of_ble_eq_true rfl, ?_⟩
  generalize hS : pRow 0 bd od sz (nI lk) be aw (nI st) tk mb mw mt = S at h ⊢
  have loop : ∀ (n p : Nat) (best : Option Nat) (x y : Int32), p + n = min st lk → x = nI p → y = oI best → (∀ q, best = some q → q < 8) → Q (some (.int (oI (chG bd od be n p best)))) S → V l mX3_placeChosen false S (zrm 1 0 0) (zFm false S Q 0 0) 0 0 4 [(2, .int x), (1, .int y), (0, .ref 0)] [] S := by
    intro n
    induction n with
    | zero =>
      intro p best x y hp hx hy hb hq
      have hq2 : Q (some (.int y)) S := by rw [hy]; exact hq
      subst hS
      refine V.g 40 [4] mX3_placeChosen_ok rfl ?_
      refine pk_le st p (fun _ => ⟨_, zsim_rfl _, hq2⟩) (fun e => ?_) rfl hx
      exact pk_le lk p (fun _ => ⟨_, zsim_rfl _, hq2⟩) (fun e2 => absurd hp (by omega)) rfl hx
    | succ n ih =>
      intro p best x y hp hx hy hb hq
      obtain ⟨j, hj, hoj⟩ := hod p (by omega)
      have ex := pk_cl p hx
      have ej := pk_cl (x := od p) j hoj
      simp only [chG] at hq
      subst hS
      refine V.g 40 [4] mX3_placeChosen_ok rfl ?_
      refine pk_le st p (fun e => absurd hp (by omega)) (fun _ => ?_) rfl hx
      refine pk_le lk p (fun e => absurd hp (by omega)) (fun _ => ?_) rfl hx
      refine And.intro (pk_in p 8 (by omega) hx) (And.intro (pk_in j 8 hj (by rw [ex]; exact hoj)) ?_)
      have e1 : bd (cl (od (cl x))) = bd (cl (od p)) := by rw [show cl x = p from ex]
      refine And.intro (fun c => ?_) (fun c => ?_)
      · have c1 : be < bd (cl (od (cl x))) := c
        rw [e1] at c1
        rw [if_neg (Int32.not_le.mpr c1)] at hq
        cases best with
        | none =>
          refine And.intro (fun _ => ?_) (fun c2 => absurd hy c2)
          refine V.key [2, 1, 0] ?_
          exact ih (p + 1) (some p) _ _ (by omega) (by rw [hx]; exact nI_1 p) hx (fun q e => by cases e; omega) hq
        | some q0 =>
          have hq0 := hb q0 rfl
          obtain ⟨j0, hj0, hoj0⟩ := hod q0 hq0
          have ey := pk_cl q0 hy
          refine And.intro (fun c2 => ?_) (fun _ => ?_)
          · have c3 : y = -1 := c2
            rw [hy] at c3
            have := nI_pos (n := q0) (by omega)
            rw [show nI q0 = -1 from c3] at this
            exact absurd (by decide) this
          · refine And.intro (pk_in q0 8 hq0 hy) (And.intro (pk_in j0 8 hj0 (by rw [ey]; exact hoj0)) ?_)
            have e2 : bd (cl (od (cl y))) = bd (cl (od q0)) := by rw [show cl y = q0 from ey]
            refine And.intro (fun c3 => ?_) (fun c3 => ?_)
            · have c4 : bd (cl (od (cl y))) ≤ bd (cl (od (cl x))) := c3
              rw [e1, e2] at c4
              simp only [if_neg (Int32.not_lt.mpr c4)] at hq
              refine V.key [2, 1, 0] ?_
              exact ih (p + 1) (some q0) _ _ (by omega) (by rw [hx]; exact nI_1 p) hy (fun q e => by cases e; omega) hq
            · have c4 : ¬ bd (cl (od (cl y))) ≤ bd (cl (od (cl x))) := c3
              rw [e1, e2] at c4
              simp only [if_pos (Int32.not_le.mp c4)] at hq
              refine V.key [2, 1, 0] ?_
              exact ih (p + 1) (some p) _ _ (by omega) (by rw [hx]; exact nI_1 p) hx (fun q e => by cases e; omega) hq
      · have c1 : ¬ be < bd (cl (od (cl x))) := c
        rw [e1] at c1
        rw [if_pos (Int32.not_lt.mp c1)] at hq
        refine ⟨_, zsim_rfl _, ?_⟩
        rw [hx]
        exact hq
  subst hS
  exact V.g 40 [4] mX3_placeChosen_ok rfl (loop (min st lk) 0 none _ _ (by omega) rfl rfl (fun q e => by cases e) h)
/-- those behind p up to q are one nearer -/
def shP (od : fI) (p q : Nat) : fI := fun i => if p ≤ i ∧ i + 1 < q then od (i + 1) else od i
theorem shP_0 (od : fI) (p : Nat) : shP od p (p + 1) = od := by
  funext i
  simp only [shP]
  rw [if_neg (by omega)]
theorem shP_s (od : fI) {p q : Nat} (h : p < q) : upd (shP od p q) (q - 1) (shP od p q q) = shP od p (q + 1) := by
  funext i
  by_cases e : i = q - 1
  · subst e
    rw [pk_us]
    simp only [shP]
    rw [if_neg (by omega), if_pos (by omega)]
    congr 1
    omega
  · rw [pk_un e]
    simp only [shP]
    by_cases h2 : p ≤ i ∧ i + 1 < q
    · rw [if_pos h2, if_pos (by omega)]
    · rw [if_neg h2, if_neg (by omega)]
theorem shP_ok {od : fI} (h : oOk od) {p q : Nat} (hq : q ≤ 8) : oOk (shP od p q) := by
  intro i hi
  simp only [shP]
  split
  · exact h (i + 1) (by omega)
  · exact h i hi
def mxF (x y : Int32) : Int32 := if x < y then y else x
def T_takeOut : zT := fun args hs Q => ∃ (bd od tk : fI) (sz be aw mb mw mt : Int32) (st lk : Nat), st ≤ 8 ∧ lk ≤ 8 ∧ oOk od ∧ args = [.ref 0] ∧ hs = pRow 0 bd od sz (nI lk) be aw (nI st) tk mb mw mt ∧ (match chG bd od be (min st lk) 0 none with
  | none => Q (some (.int (-1))) hs
  | some p => Q (some (.int (od p))) (pRow 0 bd (shP od p st) sz (nI lk) be aw (nI (st - 1)) tk (mb + bd (cl (od p))) (mxF mw (bd (cl (od p)))) (mt ||| (nI 1 <<< (od p &&& 31)))))
theorem ct_takeOut (l : Launch) : Ct l mX3_takeOut false 2 0 0 T_takeOut := by
  refine Ct.intro mX3_takeOut_ok ?_
  rintro args hs Q ⟨bd, od, tk, sz, be, aw, mb, mw, mt, st, lk, hst, hlk, hod, rfl, rfl, h⟩
  refine ⟨Nat.le_of_ble_eq_true rfl, ?_⟩
  refine V.g 40 [] mX3_takeOut_ok rfl ?_
  refine V.cVW mX3_takeOut_ok rfl lX3_66 (ct_placeChosen l) rfl [.ref 0] [] rfl 0 3 rfl rfl rfl rfl rfl rfl (some (.int (oI (chG bd od be (min st lk) 0 none)))) _ ⟨bd, od, tk, sz, be, aw, mb, mw, mt, st, lk, hst, hlk, hod, rfl, rfl, rfl, rfl⟩ rfl ?_
  cases hc : chG bd od be (min st lk) 0 none with
  | none =>
    rw [hc] at h
    refine V.g 40 [] mX3_takeOut_ok rfl ?_
    refine And.intro (fun e => absurd rfl e) (fun _ => ⟨_, zsim_rfl _, h⟩)
  | some p =>
    rw [hc] at h
    have hp : p < min st lk := chG_lt bd od be (m := min st lk) _ 0 none (by omega) (fun q e => by cases e) p hc
    obtain ⟨j, hj, hoj⟩ := hod p (by omega)
    have loop : ∀ (n q : Nat) (x y z : Int32) (od' : fI), q + n = st → p < q → x = nI q → y = od p → od' = shP od p q → V l mX3_takeOut false (pRow 0 bd od sz (nI lk) be aw (nI st) tk mb mw mt) (zrm 2 0 0) (zFm false (pRow 0 bd od sz (nI lk) be aw (nI st) tk mb mw mt) Q 0 0) 0 0 23 [(3, .int x), (2, .int y), (1, .int z), (0, .ref 0)] [] (pRow 0 bd od' sz (nI lk) be aw (nI st) tk mb mw mt) := by
      intro n
      induction n with
      | zero =>
        intro q x y z od' hq hpq hx hy ho
        have : q = st := by omega
        subst this
        subst hy
        subst ho
        have e1 : nI q - nI 1 = nI (q - 1) := pk_sub (by omega)
        have ej := pk_cl (x := od p) j hoj
        refine V.g 40 [23] mX3_takeOut_ok rfl ?_
        refine pk_le q q (fun _ => ?_) (fun e => absurd e (by omega)) rfl hx
        refine And.intro (pk_in j 8 hj hoj) (And.intro (pk_in j 8 hj hoj) ?_)
        refine V.mmax mX3_takeOut_ok rfl lX3_60 rfl rfl ?_
        refine V.g 40 [23] mX3_takeOut_ok rfl ?_
        refine ⟨_, zsim_rfl _, ?_⟩
        rw [← e1] at h
        exact h
      | succ n ih =>
        intro q x y z od' hq hpq hx hy ho
        have e1 : x - nI 1 = nI (q - 1) := by rw [hx]; exact pk_sub (by omega)
        refine V.g 40 [23] mX3_takeOut_ok rfl ?_
        refine pk_le st q (fun e => absurd hq (by omega)) (fun _ => ?_) rfl hx
        refine And.intro (pk_in q 8 (by omega) hx) (And.intro (pk_in (q - 1) 8 (by omega) e1) ?_)
        refine V.key [3, 2, 1, 0] ?_
        refine ih (q + 1) _ _ _ _ (by omega) (by omega) (by rw [hx]; exact nI_1 q) hy ?_
        show upd od' (x - nI 1).toNatClampNeg (od' x.toNatClampNeg) = _
        rw [pk_cl (q - 1) e1, pk_cl q hx, ho]
        exact shP_s od hpq
    refine V.g 40 [23] mX3_takeOut_ok rfl ?_
    refine And.intro (fun _ => ?_) (fun e => ?_)
    · refine And.intro (pk_in p 8 (by omega)) ?_
      refine loop (st - (p + 1)) (p + 1) _ _ _ _ (by omega) (by omega) (nI_1 p) (congrArg od (pk_cl (x := nI p) p)) (shP_0 od p).symm
    · have c3 : nI p = -1 := e
      have := nI_pos (n := p) (by omega)
      rw [c3] at this
      exact absurd (by decide) this
