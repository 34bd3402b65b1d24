/-! ===== the reference: guests ===== -/
abbrev zOL : Type := List (Int32 × Nat)
def ouR (ou du : fI) (L : zOL) : Prop := ∀ (i : Nat) (v : Int32) (d : Nat), L[i]? = some (v, d) → ou i = v ∧ du i = nI d
def apR (row : fI) (st : Nat) (A : zOL) : fI := fun i => if st ≤ i then (match A[i - st]? with
  | some q => q.1
  | none => row i) else row i
theorem apR_0 (row : fI) (st : Nat) : apR row st [] = row := by
  funext i
  unfold apR
  split
  · rfl
  · rfl
theorem apR_s (row : fI) (st : Nat) (A : zOL) (x : Int32 × Nat) : upd (apR row st A) (st + A.length) x.1 = apR row st (A ++ [x]) := by
  funext i
  by_cases e : i = st + A.length
  · subst e
    rw [pk_us]
    unfold apR
    rw [if_pos (by omega), show st + A.length - st = A.length by omega, List.getElem?_append_right (Nat.le_refl _), Nat.sub_self]
    rfl
  · rw [pk_un e]
    unfold apR
    by_cases h : st ≤ i
    · rw [if_pos h, if_pos h]
      rcases Nat.lt_or_ge (i - st) A.length with q | q
      · rw [List.getElem?_append_left q]
      · rw [List.getElem?_append_right q, List.getElem?_eq_none q, List.getElem?_eq_none (by simp only [List.length_singleton]; omega)]
    · rw [if_neg h, if_neg h]
theorem apR_lt {row : fI} {st : Nat} {A : zOL} {i : Nat} (h : i < st) : apR row st A i = row i := by
  unfold apR
  rw [if_neg (by omega)]
theorem apR_cong {row row2 : fI} {st : Nat} {A : zOL} (h : ∀ i, i < st → row i = row2 i) : ∀ i, i < st + A.length → apR row st A i = apR row2 st A i := by
  intro i hi
  unfold apR
  by_cases c : st ≤ i
  · rw [if_pos c, if_pos c, List.getElem?_eq_getElem (by omega)]
  · rw [if_neg c, if_neg c]
    exact h i (by omega)
def pdL (tk : fI) (aw lo : Nat) : Nat → zOL
  | 0 => []
  | n + 1 => pdL tk aw lo n ++ (if tk (lo + n) = -1 then [] else [(tk (lo + n), lo + n + 1 + aw)])
theorem pdL_cons (tk : fI) (aw lo : Nat) : ∀ n, pdL tk aw lo (n + 1) = (if tk lo = -1 then [] else [(tk lo, lo + 1 + aw)]) ++ pdL tk aw (lo + 1) n
  | 0 => by simp only [pdL, Nat.add_zero, List.nil_append, List.append_nil]
  | n + 1 => by
    rw [pdL, pdL_cons tk aw lo n, pdL, List.append_assoc, show lo + 1 + n = lo + (n + 1) by omega]
theorem pdL_mem {tk : fI} {aw lo : Nat} : ∀ {n : Nat} {p : Int32 × Nat}, p ∈ pdL tk aw lo n → lo + 1 + aw ≤ p.2 ∧ p.2 ≤ lo + n + aw
  | 0, p, h => by cases h
  | n + 1, p, h => by
    rw [pdL] at h
    rcases List.mem_append.mp h with q | q
    · have := pdL_mem q; omega
    · split at q
      · cases q
      · rcases List.mem_singleton.mp q with rfl
        show lo + 1 + aw ≤ lo + n + 1 + aw ∧ lo + n + 1 + aw ≤ lo + (n + 1) + aw
        omega
theorem pdL_up {tk : fI} {aw lo g : Nat} {v : Int32} : ∀ {n : Nat}, lo + n ≤ g → pdL (upd tk g v) aw lo n = pdL tk aw lo n
  | 0, _ => rfl
  | n + 1, h => by rw [pdL, pdL, pdL_up (by omega), pk_un (by omega)]
theorem pdL_cong {tk tk2 : fI} {aw lo : Nat} : ∀ {n : Nat}, (∀ k, k < lo + n → tk k = tk2 k) → pdL tk aw lo n = pdL tk2 aw lo n
  | 0, _ => rfl
  | n + 1, h => by rw [pdL, pdL, pdL_cong (fun k hk => h k (by omega)), h (lo + n) (by omega)]
theorem svP_pd {s : RS} {aw lo : Nat} : ∀ {n : Nat}, s.2.1 + (pdL s.2.2.1 aw lo n).length ≤ 8 → (svP s lo n).1 = apR s.1 s.2.1 (pdL s.2.2.1 aw lo n) ∧ (svP s lo n).2.1 = s.2.1 + (pdL s.2.2.1 aw lo n).length ∧ (svP s lo n).2.2 = s.2.2
  | 0, _ => ⟨(apR_0 _ _).symm, rfl, rfl⟩
  | n + 1, h => by
    rw [pdL, List.length_append] at h
    obtain ⟨h1, h2, h3⟩ := svP_pd (s := s) (aw := aw) (lo := lo) (n := n) (by omega)
    have e3 : (svP s lo n).2.2.1 = s.2.2.1 := by rw [h3]
    rw [svP, psh, pdL, e3]
    by_cases c : s.2.2.1 (lo + n) = -1
    · rw [if_pos (Or.inl c), if_pos c, List.append_nil]
      exact ⟨h1, h2, h3⟩
    · rw [if_neg c] at h
      simp only [List.length_singleton] at h
      rw [if_neg (by rintro (q | q); exact c q; omega), if_neg c]
      refine ⟨?_, ?_, h3⟩
      · show upd (svP s lo n).1 (svP s lo n).2.1 (s.2.2.1 (lo + n)) = _
        rw [h1, h2]
        exact apR_s s.1 s.2.1 (pdL s.2.2.1 aw lo n) (s.2.2.1 (lo + n), lo + n + 1 + aw)
      · show (svP s lo n).2.1 + 1 = _
        rw [h2, List.length_append]
        rfl
def T7_pushesIn : zT := fun args hs Q => ∃ (fv : Nat → Int32) (ar : Nat → fI) (x : Int32) (B : Bool) (g st : Nat) (L : zOL), g ≤ 100 ∧ x = nI g ∧ fv 53 = nI st ∧ fv 56 = nI L.length ∧ st + L.length ≤ 8 ∧ ((∀ p, p ∈ L → p.2 ≤ 100)) ∧ ouR (ar 54) (ar 55) L ∧ args = [.ref 0, .int x, .int (bI B)] ∧ hs = pM fv ar ∧ ∀ ou du : fI, ouR ou du (L.filter (fun p => !(B || decide (p.2 ≤ g)))) → Q none (pM (upf (upf fv 53 (nI (st + (L.filter (fun p => B || decide (p.2 ≤ g))).length))) 56 (nI (L.filter (fun p => !(B || decide (p.2 ≤ g)))).length)) (upa (upa (upa ar 52 (apR (ar 52) st (L.filter (fun p => B || decide (p.2 ≤ g))))) 54 ou) 55 du))
set_option maxHeartbeats 500000 in
theorem c7_pushesIn (l : Launch) : Ct l mX7_pushesIn false 1 0 0 T7_pushesIn := by
  refine Ct.intro mX7_pushesIn_ok ?_
  rintro args hs Q ⟨fv, ar, x, B, g, st, L, hg, hx, h53, h56, hle, hdu, hou, rfl, rfl, h⟩
  refine ⟨Nat.le_of_ble_eq_true rfl, ?_⟩
  subst hx
  generalize hS : pM fv ar = S
  have loop : ∀ (todo done : zOL) (x4 x3 a53 : Int32) (ro ou du : fI), L = done ++ todo → x4 = nI done.length → x3 = nI (done.filter (fun p => !(B || decide (p.2 ≤ g)))).length → a53 = nI (st + (done.filter (fun p => B || decide (p.2 ≤ g))).length) → ro = apR (ar 52) st (done.filter (fun p => B || decide (p.2 ≤ g))) → ouR ou du (done.filter (fun p => !(B || decide (p.2 ≤ g)))) → (∀ (i : Nat) (v : Int32) (d : Nat), todo[i]? = some (v, d) → ou (done.length + i) = v ∧ du (done.length + i) = nI d) → V l mX7_pushesIn false S (zrm 1 0 0) (zFm false S Q 0 0) 0 0 5 [(4, .int x4), (3, .int x3), (0, .ref 0), (1, .int (nI g)), (2, .int (bI B))] [] (pM (upf fv 53 a53) (upa (upa (upa ar 52 ro) 54 ou) 55 du)) := by
    intro todo
    induction todo with
    | nil =>
      intro done x4 x3 a53 ro ou du hL h4 h3 h5 hro hR hT
      rw [List.append_nil] at hL
      subst hL
      refine V.g2 60 [5] mX7_pushesIn_ok rfl ?_
      refine pk_le L.length L.length (fun e => ?_) (fun e => absurd e (by omega)) h56 h4
      refine ⟨_, zsim_rfl _, ?_⟩
      subst hro
      subst h5
      subst h3
      exact h ou du hR
    | cons q todo ih =>
      intro done x4 x3 a53 ro ou du hL h4 h3 h5 hro hR hT
      obtain ⟨v, d⟩ := q
      have hll : L.length = done.length + (todo.length + 1) := by rw [hL, List.length_append]; rfl
      obtain ⟨hv, hd⟩ := hT 0 v d rfl
      have hd1 : d ≤ 100 := hdu (v, d) (by rw [hL]; exact List.mem_append_right _ List.mem_cons_self)
      have hL2 : L = (done ++ [(v, d)]) ++ todo := by rw [hL, List.append_assoc]; rfl
      have hlen2 : (done ++ [(v, d)]).length = done.length + 1 := by rw [List.length_append]; rfl
      have f1 := List.length_filter_le (fun p => B || decide (p.2 ≤ g)) done
      have f2 := List.length_filter_le (fun p => !(B || decide (p.2 ≤ g))) done
      have hT2 : ∀ (i : Nat) (v2 : Int32) (d2 : Nat), todo[i]? = some (v2, d2) → ou ((done ++ [(v, d)]).length + i) = v2 ∧ du ((done ++ [(v, d)]).length + i) = nI d2 := fun i v2 d2 e => by
        have := hT (i + 1) v2 d2 e
        rwa [show done.length + (i + 1) = (done ++ [(v, d)]).length + i by omega] at this
      have push : (B || decide (d ≤ g)) = true → V l mX7_pushesIn false S (zrm 1 0 0) (zFm false S Q 0 0) 0 0 29 [(4, .int x4), (3, .int x3), (0, .ref 0), (1, .int (nI g)), (2, .int (bI B))] [] (pM (upf fv 53 a53) (upa (upa (upa ar 52 ro) 54 ou) 55 du)) := by
        intro hp
        refine V.g2 60 [5] mX7_pushesIn_ok rfl ?_
        refine ⟨done.length, by omega, h4, rfl, ?_⟩
        refine ⟨(st + (done.filter (fun p => B || decide (p.2 ≤ g))).length), by omega, h5, rfl, ?_⟩
        refine V.kn [4, 3, 0, 1, 2] [(4, .int (x4 + zi 1)), (3, .int x3), (0, .ref 0), (1, .int (nI g)), (2, .int (bI B))] [] (pM (upf fv 53 (a53 + (nI 1))) (upa (upa (upa ar 52 (upd ro (st + (done.filter (fun p => B || decide (p.2 ≤ g))).length) (ou done.length))) 54 ou) 55 du)) rfl rfl rfl ?_
        have fa : (done ++ [(v, d)]).filter (fun p => B || decide (p.2 ≤ g)) = done.filter (fun p => B || decide (p.2 ≤ g)) ++ [(v, d)] := by rw [List.filter_append, List.filter_cons, if_pos hp]; rfl
        have fr : (done ++ [(v, d)]).filter (fun p => !(B || decide (p.2 ≤ g))) = done.filter (fun p => !(B || decide (p.2 ≤ g))) := by rw [List.filter_append, List.filter_cons, if_neg (by simp only [hp]; decide)]; exact List.append_nil _
        refine ih (done ++ [(v, d)]) _ _ _ _ _ _ hL2 (by rw [hlen2]; exact ninc h4) (by rw [fr]; exact h3) ?_ ?_ (by rw [fr]; exact hR) hT2
        · rw [fa, List.length_append, h5]
          exact nI_1 _
        · rw [fa, show done.length = done.length + 0 from rfl, hv, hro]
          exact apR_s _ _ _ (v, d)
      refine V.g2 60 [5, 29] mX7_pushesIn_ok rfl ?_
      refine pk_le L.length done.length (fun e => absurd e (by omega)) (fun e => ?_) h56 h4
      rcases B with _ | _
      · refine And.intro (fun e => absurd rfl e) (fun _ => ?_)
        refine ⟨done.length, by omega, h4, rfl, ?_⟩
        refine pk_lt g d (fun e => ?_) (fun e => ?_) rfl hd
        · refine ⟨done.length, by omega, h4, rfl, ?_⟩
          refine ⟨(done.filter (fun p => !(false || decide (p.2 ≤ g)))).length, by omega, h3, rfl, ?_⟩
          refine ⟨done.length, by omega, h4, rfl, ?_⟩
          refine ⟨(done.filter (fun p => !(false || decide (p.2 ≤ g)))).length, by omega, h3, rfl, ?_⟩
          refine V.kn [4, 3, 0, 1, 2] [(4, .int (x4 + zi 1)), (3, .int (x3 + zi 1)), (0, .ref 0), (1, .int (nI g)), (2, .int (bI false))] [] (pM (upf fv 53 a53) (upa (upa (upa ar 52 ro) 54 (upd ou ((done.filter (fun p => !(false || decide (p.2 ≤ g)))).length) (ou done.length))) 55 (upd du ((done.filter (fun p => !(false || decide (p.2 ≤ g)))).length) (du done.length)))) rfl rfl rfl ?_
          have hp : (false || decide (d ≤ g)) = false := by rw [decide_eq_false (by omega)]; rfl
          have fa : (done ++ [(v, d)]).filter (fun p => false || decide (p.2 ≤ g)) = done.filter (fun p => false || decide (p.2 ≤ g)) := by rw [List.filter_append, List.filter_cons, if_neg (by simp only [hp]; decide)]; exact List.append_nil _
          have fr : (done ++ [(v, d)]).filter (fun p => !(false || decide (p.2 ≤ g))) = done.filter (fun p => !(false || decide (p.2 ≤ g))) ++ [(v, d)] := by rw [List.filter_append, List.filter_cons, if_pos (by simp only [hp]; decide)]; rfl
          refine ih (done ++ [(v, d)]) _ _ _ _ _ _ hL2 (by rw [hlen2]; exact ninc h4) (by rw [fr, List.length_append]; exact ninc h3) (by rw [fa]; exact h5) (by rw [fa]; exact hro) (fun i v2 d2 e2 => ?_) (fun i v2 d2 e2 => ?_)
          · rw [fr] at e2
            rcases Nat.lt_or_ge i (done.filter (fun p => !(false || decide (p.2 ≤ g)))).length with c | c
            · rw [List.getElem?_append_left c] at e2
              rw [pk_un (by omega), pk_un (by omega)]
              exact hR i v2 d2 e2
            · rw [List.getElem?_append_right c] at e2
              have hi : i = (done.filter (fun p => !(false || decide (p.2 ≤ g)))).length := by
                rcases Nat.eq_zero_or_pos (i - (done.filter (fun p => !(false || decide (p.2 ≤ g)))).length) with z | z
                · omega
                · rw [List.getElem?_eq_none (by simp only [List.length_singleton]; omega)] at e2; cases e2
              subst hi
              rw [Nat.sub_self] at e2
              cases e2
              rw [pk_us, pk_us]
              exact ⟨hv, hd⟩
          · rw [pk_un (by omega), pk_un (by omega)]
            exact hT2 i v2 d2 e2
        · exact push (by rw [decide_eq_true e]; rfl)
      · refine And.intro (fun _ => ?_) (fun e => absurd e (by decide))
        exact push (by rfl)
  subst hS
  refine V.g2 60 [5] mX7_pushesIn_ok rfl ?_
  refine V.kn [4, 3, 0, 1, 2] [(4, .int (nI 0)), (3, .int (nI 0)), (0, .ref 0), (1, .int (nI g)), (2, .int (bI B))] [] (pM fv ar) rfl rfl rfl ?_
  exact loop L [] _ _ _ (ar 52) (ar 54) (ar 55) rfl rfl rfl h53 (apR_0 _ _).symm (fun i v d e => by cases e) (fun i v d e => by rw [show ([] : zOL).length + i = i from Nat.zero_add i]; exact hou i v d e)
theorem chG_s (bd od : fI) (be : Int32) (n p : Nat) (best : Option Nat) : chG bd od be (n + 1) p best = if bd (cl (od p)) ≤ be then some p else chG bd od be n (p + 1) (match best with
    | none => some p
    | some q => if bd (cl (od p)) < bd (cl (od q)) then some p else some q) := rfl
def T7_takes : zT := fun args hs Q => ∃ (fv : Nat → Int32) (ar : Nat → fI) (x : Int32) (m : Nat) (od : fI), m ≤ 8 ∧ x = nI m ∧ ((∀ i, i < m → ar 52 i = od i)) ∧ oOk od ∧ args = [.ref 0, .int x] ∧ hs = pM fv ar ∧ ∀ r : Int32, r = oI (chG (ar 8) od (fv 11) m 0 none) → Q (some (.int r)) hs
set_option maxHeartbeats 500000 in
theorem c7_takes (l : Launch) : Ct l mX7_takes false 2 0 0 T7_takes := by
  refine Ct.intro mX7_takes_ok ?_
  rintro args hs Q ⟨fv, ar, x, m, od, hm, hx, hrow, hod, rfl, rfl, h⟩
  refine ⟨Nat.le_of_ble_eq_true rfl, ?_⟩
  subst hx
  generalize hS : pM fv ar = S at h
  have loop : ∀ (n k : Nat) (x3 x2 : Int32) (best : Option Nat), k + n = m → x3 = nI k → x2 = oI best → (∀ q, best = some q → q < 8 ∧ q < m) → oI (chG (ar 8) od (fv 11) m 0 none) = oI (chG (ar 8) od (fv 11) n k best) → V l mX7_takes false S (zrm 2 0 0) (zFm false S Q 0 0) 0 0 4 [(3, .int x3), (2, .int x2), (0, .ref 0), (1, .int (nI m))] [] (pM fv ar) := by
    intro n
    induction n with
    | zero =>
      intro k x3 x2 best hk h3 h2 hb hg
      have e9 : k = m := by omega
      refine V.g2 60 [4, 71] mX7_takes_ok rfl ?_
      refine pk_le m k (fun e => ?_) (fun e => absurd e (by omega)) rfl h3
      refine ⟨_, zsim_rfl _, ?_⟩
      rw [hS]
      exact h _ (by rw [hg]; exact h2)
    | succ n ih =>
      intro k x3 x2 best hk h3 h2 hb hg
      obtain ⟨j, hj, hoj⟩ := hod k (by omega)
      have hrk : ar 52 k = nI j := (hrow k (by omega)).trans hoj
      have ej : cl (od k) = j := by rw [hoj]; exact nI_clamp (by omega)
      refine V.g2 60 [4, 71] mX7_takes_ok rfl ?_
      refine pk_le m k (fun e => absurd e (by omega)) (fun e => ?_) rfl h3
      refine ⟨k, by omega, h3, rfl, ?_⟩
      refine ⟨j, by omega, hrk, rfl, ?_⟩
      refine And.intro (fun (e : (fv 11) < ((ar 8) j)) => ?_) (fun (e : ¬ (fv 11) < ((ar 8) j)) => ?_)
      · have hng : ¬ ar 8 (cl (od k)) ≤ fv 11 := by rw [ej]; exact Int32.not_le.mpr e
        rw [chG_s, if_neg hng] at hg
        cases best with
        | none =>
          have h2b : x2 = -1 := h2
          subst h2b
          refine And.intro (fun (e0 : (-1 : Int32) = (-1 : Int32)) => ?_) (fun (e0 : ¬ (-1 : Int32) = (-1 : Int32)) => absurd rfl e0)
          refine V.g2 60 [4, 71] mX7_takes_ok rfl ?_
          refine V.kn [3, 2, 0, 1] [(3, .int (x3 + zi 1)), (2, .int x3), (0, .ref 0), (1, .int (nI m))] [] (pM fv ar) rfl rfl rfl ?_
          exact ih (k + 1) _ _ (some k) (by omega) (ninc h3) h3 (fun q e => by cases e; omega) hg
        | some q =>
          obtain ⟨hq8, hqm⟩ := hb q rfl
          have h2b : x2 = nI q := h2
          obtain ⟨j0, hj0, hoj0⟩ := hod q hq8
          have hrq : ar 52 q = nI j0 := (hrow q hqm).trans hoj0
          have ej0 : cl (od q) = j0 := by rw [hoj0]; exact nI_clamp (by omega)
          refine And.intro (fun (e5 : x2 = (-1 : Int32)) => absurd (h2b.symm.trans e5) (nI_m1 (by omega))) (fun (e5 : ¬ x2 = (-1 : Int32)) => ?_)
          refine ⟨k, by omega, h3, rfl, ?_⟩
          refine ⟨j, by omega, hrk, rfl, ?_⟩
          refine V.cs mX7_takes_ok rfl lX7_200 (c7_within l) rfl rfl rfl rfl ⟨_, _, _, rfl, fun wq hwq => ⟨rfl, ?_⟩⟩
          replace hwq : wq = nI q := by
            rw [hwq, h2b]
            show wnF (nI q) (nI 0) (nI 7) = nI q
            unfold wnF
            rw [if_neg (nI_nlt (Nat.zero_le q) (by omega)), if_neg (nI_nlt (by omega) (by omega))]
          refine V.g2 60 [4, 71] mX7_takes_ok rfl ?_
          refine ⟨q, by omega, hwq, rfl, ?_⟩
          refine ⟨j0, by omega, hrq, rfl, ?_⟩
          refine And.intro (fun (e6 : ((ar 8) j0) ≤ ((ar 8) j)) => ?_) (fun (e6 : ¬ ((ar 8) j0) ≤ ((ar 8) j)) => ?_)
          · refine V.g2 60 [4, 71] mX7_takes_ok rfl ?_
            refine V.kn [3, 2, 0, 1] [(3, .int (x3 + zi 1)), (2, .int x2), (0, .ref 0), (1, .int (nI m))] [] (pM fv ar) rfl rfl rfl ?_
            refine ih (k + 1) _ _ (some q) (by omega) (ninc h3) h2b (fun q2 e => by cases e; exact ⟨hq8, hqm⟩) ?_
            rw [hg]
            show oI (chG _ _ _ _ _ (if ar 8 (cl (od k)) < ar 8 (cl (od q)) then some k else some q)) = _
            rw [if_neg (by rw [ej, ej0]; exact Int32.not_lt.mpr e6)]
          · refine V.g2 60 [4, 71] mX7_takes_ok rfl ?_
            refine V.kn [3, 2, 0, 1] [(3, .int (x3 + zi 1)), (2, .int x3), (0, .ref 0), (1, .int (nI m))] [] (pM fv ar) rfl rfl rfl ?_
            refine ih (k + 1) _ _ (some k) (by omega) (ninc h3) h3 (fun q2 e => by cases e; omega) ?_
            rw [hg]
            show oI (chG _ _ _ _ _ (if ar 8 (cl (od k)) < ar 8 (cl (od q)) then some k else some q)) = _
            rw [if_pos (by rw [ej, ej0]; exact Int32.not_le.mp e6)]
      · refine ⟨_, zsim_rfl _, ?_⟩
        rw [hS]
        exact h _ (by rw [hg, chG_s, if_pos (by rw [ej]; exact Int32.not_lt.mp e)]; exact h3)
  subst hS
  refine V.g2 60 [4, 71] mX7_takes_ok rfl ?_
  refine V.kn [3, 2, 0, 1] [(3, .int (nI 0)), (2, .int (-1 : Int32)), (0, .ref 0), (1, .int (nI m))] [] (pM fv ar) rfl rfl rfl ?_
  exact loop m 0 _ _ none (by omega) rfl rfl (fun q e => by cases e) rfl
