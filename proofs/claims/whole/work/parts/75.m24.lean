/-! ===== the reference: eRead (a part's words, by the ranks of its signs) ===== -/
theorem nvM_nat {tp : fI} : ∀ {m a q u : Nat} {v : Int32}, (∀ i, i < m → isDg (tp (a + i)) = true) → q + m ≤ 4 → v = nI u → u < 10 ^ q → ∃ w, w < 10000 ∧ nvM tp m a q v = nI w
  | 0, a, q, u, v, _, hq, hv, hu => ⟨u, Nat.lt_of_lt_of_le hu (Nat.pow_le_pow_right (by omega) (show q ≤ 4 by omega)), hv⟩
  | m + 1, a, q, u, v, hd, hq, hv, hu => by
    have h0 := hd 0 (by omega)
    rw [Nat.add_zero, isDg, Bool.and_eq_true, decide_eq_true_eq, decide_eq_true_eq] at h0
    obtain ⟨j, hj, hx⟩ : ∃ j, j < 10 ∧ tp a = nI (48 + j) := by
      rcases pk_ix (tp a) (show 58 < 2 ^ 31 by omega) with h | h | ⟨j, h, e⟩
      · exact absurd (Int32.lt_of_le_of_lt h0.1 h) (by decide)
      · exact absurd (Int32.le_trans h h0.2) (by decide)
      · rw [e] at h0
        have h1 : 48 ≤ j := Nat.le_of_not_lt (fun hh => Int32.not_lt.mpr h0.1 (nI_lt hh (by omega)))
        exact ⟨j - 48, by omega, by rw [e]; congr 1; omega⟩
    have e1 : nI 10 * v + tp a - nI 48 = nI (10 * u + j) := by
      rw [hv, hx, pk_mul, nI_add, pk_sub (by omega)]
      congr 1
      omega
    rw [nvM, if_pos (by omega)]
    refine nvM_nat (u := 10 * u + j) (fun i hi => ?_) (by omega) e1 (by rw [Nat.pow_succ]; omega)
    have := hd (i + 1) (by omega)
    rwa [show a + (i + 1) = a + 1 + i by omega] at this
theorem skP_all {p : Int32 → Bool} {tp : fI} : ∀ {m a i : Nat}, a ≤ i → i < skP p tp m a → p (tp i) = true
  | 0, a, i, h1, h2 => absurd h2 (by rw [skP]; omega)
  | m + 1, a, i, h1, h2 => by
    rw [skP] at h2
    split at h2
    · rename_i hp
      rcases Nat.eq_or_lt_of_le h1 with e | e
      · rw [← e]; exact hp
      · exact skP_all e h2
    · omega
theorem isSg_no {x : Int32} {k : Nat} (h : isSg x = true) (hk : k < 40) : x ≠ nI k := by
  intro e
  subst e
  have f : ∀ j, 40 ≤ j → j < 70 → decide (nI k = nI j) = false := fun j h1 h2 => decide_eq_false (fun e => absurd ((nI_eq (by omega) (by omega)).mp e) (by omega))
  unfold isSg at h
  rw [f 40 (by omega) (by omega), f 41 (by omega) (by omega), f 59 (by omega) (by omega), f 43 (by omega) (by omega), f 45 (by omega) (by omega), f 42 (by omega) (by omega), f 60 (by omega) (by omega), f 61 (by omega) (by omega)] at h
  cases h
theorem nx_ok {wo tp : fI} {n a : Nat} {t : Nat × Nat × Int32 × Int32} (ht : t = nxF wo tp n a) (ha : a ≤ n) : t.1 ≤ n ∧ t.2.1 ≤ n ∧ (¬ t.2.2.1 = nI 0 → a < t.1) ∧ (t.2.2.1 = nI 1 → ∃ v, v < 10000 ∧ t.2.2.2 = nI v) ∧ (t.2.2.1 = nI 2 → ∃ v, v < 6 ∧ t.2.2.2 = nI v) := by
  have hB := skP_le (p := isBl) (tp := tp) (m := n - a) (a := a)
  unfold nxF at ht
  obtain ⟨B, hBe⟩ : ∃ B, B = skP isBl tp (n - a) a := ⟨_, rfl⟩
  rw [← hBe] at ht hB
  unfold nxG at ht
  split at ht
  · subst ht
    exact ⟨by show B ≤ n; omega, by show B ≤ n; omega, fun h => absurd rfl h, fun h => absurd h (show ¬ nI 0 = nI 1 by decide), fun h => absurd h (show ¬ nI 0 = nI 2 by decide)⟩
  · rename_i hBn
    split at ht
    · rename_i hl
      have hE := skP_le (p := isLt) (tp := tp) (m := n - B) (a := B)
      have hE1 : skP isLt tp (n - B) B = skP isLt tp (n - B - 1) (B + 1) := by
        rw [show n - B = (n - B - 1) + 1 by omega]
        exact skP_t hl
      have hE2 := skP_le (p := isLt) (tp := tp) (m := n - B - 1) (a := B + 1)
      rw [← hE1] at hE2
      obtain ⟨K, hK⟩ : ∃ K, K = woF wo tp B (skP isLt tp (n - B) B) := ⟨_, rfl⟩
      have hK12 := woF_le (wo := wo) (tp := tp) (a := B) (b := skP isLt tp (n - B) B)
      rw [← hK] at ht hK12
      subst ht
      refine ⟨by show skP isLt tp (n - B) B ≤ n; omega, by show B ≤ n; omega, fun _ => by show a < skP isLt tp (n - B) B; omega, fun h => ?_, fun h => ?_⟩
      · have h : tkW K = nI 1 := h
        unfold tkW at h
        split at h
        · exact absurd h (by decide)
        · split at h
          · exact absurd h (by decide)
          · split at h
            · exact absurd h (by decide)
            · rw [nI_add, pk_sub (by omega)] at h
              exact absurd ((nI_eq (by omega) (by omega)).mp h) (by omega)
      · have h : tkW K = nI 2 := h
        show ∃ v, v < 6 ∧ vaW K = nI v
        unfold tkW at h
        split at h
        · exact absurd h (by decide)
        · rename_i k3
          split at h
          · rename_i k9
            exact ⟨K - 3, by omega, by rw [vaW, if_neg k3, pk_sub (by omega)]⟩
          · split at h
            · exact absurd h (by decide)
            · rw [nI_add, pk_sub (by omega)] at h
              exact absurd ((nI_eq (by omega) (by omega)).mp h) (by omega)
    · split at ht
      · rename_i hd
        have hE := skP_le (p := isDg) (tp := tp) (m := n - B) (a := B)
        have hE1 : skP isDg tp (n - B) B = skP isDg tp (n - B - 1) (B + 1) := by
          rw [show n - B = (n - B - 1) + 1 by omega]
          exact skP_t hd
        have hE2 := skP_le (p := isDg) (tp := tp) (m := n - B - 1) (a := B + 1)
        rw [← hE1] at hE2
        have hall := fun i => skP_all (p := isDg) (tp := tp) (m := n - B) (a := B) (i := i)
        obtain ⟨E, hEe⟩ : ∃ E, E = skP isDg tp (n - B) B := ⟨_, rfl⟩
        rw [← hEe] at ht hE hE2 hall
        subst ht
        refine ⟨by show E ≤ n; omega, by show B ≤ n; omega, fun _ => by show a < E; omega, fun h => ?_, fun h => ?_⟩
        · have h : (if 4 < E - B then (-1 : Int32) else nI 1) = nI 1 := h
          split at h
          · exact absurd h (by decide)
          · exact nvM_nat (u := 0) (fun i hi => hall (B + i) (by omega) (by omega)) (by omega) rfl (by decide)
        · have h : (if 4 < E - B then (-1 : Int32) else nI 1) = nI 2 := h
          split at h <;> exact absurd h (by decide)
      · subst ht
        refine ⟨by show B + 1 ≤ n; omega, by show B ≤ n; omega, fun _ => by show a < B + 1; omega, fun h => ?_, fun h => ?_⟩
        · have h : (if isSg (tp B) = true then tp B else -1) = nI 1 := h
          split at h
          · rename_i hs; exact absurd h (isSg_no hs (by omega))
          · exact absurd h (by decide)
        · have h : (if isSg (tp B) = true then tp B else -1) = nI 2 := h
          split at h
          · rename_i hs; exact absurd h (isSg_no hs (by omega))
          · exact absurd h (by decide)
theorem sgF_cases (t : Int32) : (sgF t = -1 ∧ ¬ t = nI 4) ∨ ∃ c, sgF t = nI c ∧ 11 ≤ c ∧ c < 19 ∧ c ≠ 13 := by
  unfold sgF
  split
  · exact Or.inr ⟨11, rfl, by omega, by omega, by omega⟩
  · rename_i h4
    split
    · exact Or.inr ⟨12, rfl, by omega, by omega, by omega⟩
    · split
      · exact Or.inr ⟨14, rfl, by omega, by omega, by omega⟩
      · split
        · exact Or.inr ⟨15, rfl, by omega, by omega, by omega⟩
        · split
          · exact Or.inr ⟨16, rfl, by omega, by omega, by omega⟩
          · split
            · exact Or.inr ⟨17, rfl, by omega, by omega, by omega⟩
            · split
              · exact Or.inr ⟨18, rfl, by omega, by omega, by omega⟩
              · exact Or.inl ⟨rfl, h4⟩
abbrev zRR : Type := Nat ⊕ (Nat × List Nat)
abbrev zRK : Type := Nat → Bool → Bool → List Nat × List Nat → zRR
def rdW (t : Nat × Nat × Int32 × Int32) (y : Bool) (sk ou : List Nat) (K : zRK) : zRR :=
  if t.2.2.1 = nI 1 then K t.1 false y (uwF 7 sk ((100000 + cl t.2.2.2) :: ou))
  else if t.2.2.1 = nI 2 then K t.1 false y (uwF 7 sk (cl t.2.2.2 :: ou))
  else if t.2.2.1 = nI 6 ∧ y = true then (if opC sk = 5 then .inl t.2.1 else K t.1 true y (13 :: sk, ou))
  else if t.2.2.1 = nI 45 then (if opC sk = 5 then .inl t.2.1 else K t.1 true false (19 :: sk, ou))
  else if t.2.2.1 = nI 40 then (if opC sk = 5 then .inl t.2.1 else K t.1 true true (0 :: sk, ou))
  else .inl t.2.1
def rdN (t : Nat × Nat × Int32 × Int32) (y : Bool) (sk ou : List Nat) (K : zRK) : zRR :=
  if t.2.2.1 = nI 59 then (match (uwF 1 sk ou).1 with
    | [] => .inr (t.1, (uwF 1 sk ou).2)
    | _ :: _ => .inl t.2.1)
  else if t.2.2.1 = nI 41 then (match (uwF 1 sk ou).1 with
    | [] => .inl t.2.1
    | _ :: s => K t.1 false y (uwF 7 s (uwF 1 sk ou).2))
  else if sgF t.2.2.1 = -1 then .inl t.2.1
  else match beF (cl (sgF t.2.2.1)) sk ou with
    | none => .inl t.2.1
    | some q => K t.1 true (decide (cl (sgF t.2.2.1) ≤ 12)) q
def rdF (wo tp : fI) (n : Nat) : Nat → zRK
  | 0, _, _, _, _ => .inl 0
  | m + 1, a, w, y, q => match w with
    | true => rdW (nxF wo tp n a) y q.1 q.2 (rdF wo tp n m)
    | false => rdN (nxF wo tp n a) y q.1 q.2 (rdF wo tp n m)
def kR (li : Nat) (f : Nat → Int32) (a : Nat → fI) (g : Nat → Int32) (b : Nat → fI) : Prop := (∀ k, k ≠ 27 → k ≠ 28 → k ≠ 29 → k ≠ 30 → k ≠ 33 → k ≠ 34 → k ≠ 35 → g k = f k) ∧ (∀ k, k ≠ 15 → k ≠ 32 → b k = a k) ∧ ∀ i, (i < 200 * li ∨ 200 * li + 200 ≤ i) → b 15 i = a 15 i
theorem kR_rfl (li : Nat) (f : Nat → Int32) (a : Nat → fI) : kR li f a f a := ⟨fun _ _ _ _ _ _ _ _ => rfl, fun _ _ _ => rfl, fun _ _ => rfl⟩
theorem kR_tr {li : Nat} {f g h : Nat → Int32} {a b c : Nat → fI} (h1 : kR li f a g b) (h2 : kR li g b h c) : kR li f a h c := ⟨fun k e1 e2 e3 e4 e5 e6 e7 => (h2.1 k e1 e2 e3 e4 e5 e6 e7).trans (h1.1 k e1 e2 e3 e4 e5 e6 e7), fun k e1 e2 => (h2.2.1 k e1 e2).trans (h1.2.1 k e1 e2), fun i hi => (h2.2.2 i hi).trans (h1.2.2 i hi)⟩
theorem kQ.R {li : Nat} {f g : Nat → Int32} {a b : Nat → fI} (h : kQ li f a g b) : kR li f a g b := ⟨fun k _ _ _ _ e1 e2 e3 => h.1 k e1 e2 e3, h.2.1, h.2.2⟩
theorem kR_lx (li : Nat) (f : Nat → Int32) (a : Nat → fI) (t : Nat × Nat × Int32 × Int32) : kR li f a (lx4 f t) a := ⟨fun k e1 e2 e3 e4 _ _ _ => by
  show upf (upf (upf (upf f 27 (nI t.1)) 28 (nI t.2.1)) 29 t.2.2.1) 30 t.2.2.2 k = f k
  rw [upf_n e4, upf_n e3, upf_n e2, upf_n e1], fun _ _ _ => rfl, fun _ _ => rfl⟩
theorem kR_33 (li : Nat) (f : Nat → Int32) (a : Nat → fI) (x y : Int32) (r : fI) : kR li f a (upf (upf f 33 x) 34 y) (upa a 32 r) := ⟨fun k _ _ _ _ e1 e2 _ => by rw [upf_n e2, upf_n e1], fun k _ e2 => upa_n e2, fun _ _ => rfl⟩
theorem kR_34 (li : Nat) (f : Nat → Int32) (a : Nat → fI) (x y : Int32) : kR li f a (upf (upf f 33 x) 34 y) a := ⟨fun k _ _ _ _ e1 e2 _ => by rw [upf_n e2, upf_n e1], fun _ _ _ => rfl, fun _ _ => rfl⟩
theorem kR_35 {li o : Nat} (f : Nat → Int32) (a : Nat → fI) (x y : Int32) (ho : o < 200) : kR li f a (upf f 35 x) (upa a 15 (upd (a 15) (200 * li + o) y)) := ⟨fun k _ _ _ _ _ _ e => upf_n e, fun k e _ => upa_n e, fun i hi => pk_un (by omega)⟩
theorem uwF_sub {r : Nat} : ∀ {sk ou : List Nat} (c : Nat), c ∈ (uwF r sk ou).1 → c ∈ sk
  | [], _, _, h => h
  | d :: t, ou, c, h => by
    rw [uwF] at h
    split at h
    · exact List.mem_cons_of_mem _ (uwF_sub c h)
    · exact h
theorem opC_le : ∀ sk : List Nat, opC sk ≤ sk.length
  | [] => Nat.le_refl _
  | c :: t => by
    have := opC_le t
    rw [opC, List.length_cons]
    split <;> omega
theorem beF_len {c : Nat} {sk ou : List Nat} {q : List Nat × List Nat} (h : beF c sk ou = some q) : q.1.length + q.2.length = sk.length + ou.length + 1 := by
  unfold beF at h
  obtain ⟨r, hr⟩ : ∃ r, r = (if rkF c = 4 then 5 else rkF c) := ⟨_, rfl⟩
  rw [← hr] at h
  split at h
  · cases h
  · have h := Option.some.inj h
    subst h
    have := uwF_len (r := r) (sk := sk) (ou := ou)
    show (uwF r sk ou).1.length + 1 + (uwF r sk ou).2.length = _
    omega
/-- what unwinding to the lowest rank leaves on top is an open bracket -/
theorem uwF_1 : ∀ {sk ou : List Nat} {c : Nat} {s : List Nat}, (uwF 1 sk ou).1 = c :: s → c = 0
  | [], _, _, _, h => by cases h
  | d :: t, ou, c, s, h => by
    rw [uwF] at h
    split at h
    · exact uwF_1 h
    · rename_i hr
      cases h
      rcases Nat.eq_zero_or_pos d with h0 | h0
      · exact h0
      · refine absurd ?_ hr
        unfold rkF
        repeat' split
        all_goals omega
def T7_eRead : zT := fun args hs Q => ∃ (fv : Nat → Int32) (ar : Nat → fI) (n a li : Nat) (ou : List Nat), fv 14 = nI n ∧ fv 27 = nI a ∧ a ≤ n ∧ n ≤ 160 ∧ li < 6 ∧ fv 17 = nI li ∧ fv 35 = nI ou.length ∧ stk (ar 15) (200 * li) ou ∧ ou.length ≤ a ∧ args = [.ref 0] ∧ hs = pM fv ar ∧ (∀ b, rdF (ar 31) (ar 13) n (n - a + 1) a true true ([], ou) = .inl b → ∀ fv2 ar2, kR li fv ar fv2 ar2 → fv2 28 = nI b → Q (some (.int (nI 0))) (pM fv2 ar2)) ∧ (∀ q, rdF (ar 31) (ar 13) n (n - a + 1) a true true ([], ou) = .inr q → ∀ fv2 ar2, kR li fv ar fv2 ar2 → fv2 27 = nI q.1 → q.1 ≤ n → q.2.length ≤ q.1 → fv2 35 = nI q.2.length → stk (ar2 15) (200 * li) q.2 → Q (some (.int (nI 1))) (pM fv2 ar2))
set_option maxHeartbeats 500000 in
theorem c7_eRead (l : Launch) : Ct l mX7_eRead false 5 0 0 T7_eRead := by
  refine Ct.intro mX7_eRead_ok ?_
  rintro args hs Q ⟨fv, ar, n, a, li, ou, h14, h27, han, hn, hli, h17, h35, s15, hlen, rfl, rfl, h0, h1⟩
  refine ⟨Nat.le_of_ble_eq_true rfl, ?_⟩
  obtain ⟨R, hR0⟩ : ∃ R, rdF (ar 31) (ar 13) n (n - a + 1) a true true ([], ou) = R := ⟨_, rfl⟩
  rw [hR0] at h0 h1
  generalize hS : pM fv ar = S
  have loop : ∀ (m a : Nat) (w y : Bool) (sk ou : List Nat) (x1 x2 : Int32) (fv2 : Nat → Int32) (ar2 : Nat → fI), n < a + m → a ≤ n → kR li fv ar fv2 ar2 → pS fv2 ar2 li sk ou → sk.length + ou.length ≤ a → fv2 27 = nI a → rdF (ar 31) (ar 13) n m a w y (sk, ou) = R → x1 = bI w → x2 = bI y → V l mX7_eRead false S (zrm 5 0 0) (zFm false S Q 0 0) 0 0 14 [(1, .int x1), (2, .int x2), (0, .ref 0)] [] (pM fv2 ar2) := by
    intro m
    induction m with
    | zero =>
      intro a w y sk ou x1 x2 fv2 ar2 hm ha hk hp hl hf27 hR hx1 hx2
      omega
    | succ m ih =>
      intro a w y sk ou x1 x2 fv2 ar2 hm ha hk hp hl hf27 hR hx1 hx2
      subst hx1
      subst hx2
      obtain ⟨t, ht⟩ : ∃ t, t = nxF (ar 31) (ar 13) n a := ⟨_, rfl⟩
      obtain ⟨ht1, htb, htz, htn, htm⟩ := nx_ok ht ha
      have hf14 : fv2 14 = nI n := (hk.1 14 (by decide) (by decide) (by decide) (by decide) (by decide) (by decide) (by decide)).trans h14
      have hw31 : ar2 31 = ar 31 := hk.2.1 31 (by decide) (by decide)
      have hw13 : ar2 13 = ar 13 := hk.2.1 13 (by decide) (by decide)
      refine V.g2 60 [14, 38, 57, 61, 75, 99, 124, 148, 150, 177, 200, 229, 247, 249, 262, 176, 172] mX7_eRead_ok rfl ?_
      refine V.cw mX7_eRead_ok rfl lX7_176 (c7_next l) rfl 0 7 rfl rfl rfl rfl rfl rfl ⟨fv2, ar2, n, a, hf14, hf27, ha, hn, rfl, rfl, fun t2 ht2 => ⟨rfl, ?_⟩⟩
      have e2 : t2 = t := by rw [ht2, ht, hw31, hw13]
      clear ht2
      subst e2
      obtain ⟨hpl, h17b, h33, h34, h35b, s32, s15b, hlen2, hc20⟩ := id hp
      have hkT := kR_tr hk (kR_lx li fv2 ar2 t2)
      have h28b : lx4 fv2 t2 28 = nI t2.2.1 := rfl
      cases w with
      | true =>
        have hR : rdW t2 y sk ou (rdF (ar 31) (ar 13) n m) = R := by rw [ht]; exact hR
        refine V.nm [(1, .int (bI true)), (2, .int (bI y)), (0, .ref 0)] [] (pM (upf (upf (upf (upf fv2 27 (nI t2.1)) 28 (nI t2.2.1)) 29 t2.2.2.1) 30 t2.2.2.2) ar2) rfl rfl rfl ?_
        refine V.g2 60 [14, 38, 57, 61, 75, 99, 124, 148, 150, 177, 200, 229, 247, 249, 262, 176, 172] mX7_eRead_ok rfl ?_
        refine And.intro (fun e => absurd e (by decide)) (fun _ => ?_)
        refine And.intro (fun (e1 : t2.2.2.1 = (nI 1)) => ?_) (fun (e1 : ¬ t2.2.2.1 = (nI 1)) => ?_)
        · have hadv := htz (by rw [e1]; decide)
          obtain ⟨v, hv9, hvv⟩ := htn e1
          have hcl : cl t2.2.2.2 = v := pk_cl v hvv
          refine V.g2 60 [14, 38, 57, 61, 75, 99, 124, 148, 150, 177, 200, 229, 247, 249, 262, 176, 172] mX7_eRead_ok rfl ?_
          refine And.intro (fun (e : ¬ t2.2.2.1 = (nI 1)) => absurd e1 e) (fun (e : t2.2.2.1 = (nI 1)) => ?_)
          skip
          refine V.cw mX7_eRead_ok rfl lX7_166 (c7_puts l) rfl 0 7 rfl rfl rfl rfl rfl rfl ⟨(upf (upf (upf (upf fv2 27 (nI t2.1)) 28 (nI t2.2.1)) 29 t2.2.2.1) 30 t2.2.2.2), ar2, _, li, ou.length, hli, by omega, h17b, h35b, rfl, rfl, ⟨rfl, ?_⟩⟩
          refine V.g2 60 [14, 38, 57, 61, 75, 99, 124, 148, 150, 177, 200, 229, 247, 249, 262, 176, 172] mX7_eRead_ok rfl ?_
          have hp3 : pS (upf (upf (upf (upf (upf fv2 27 (nI t2.1)) 28 (nI t2.2.1)) 29 t2.2.2.1) 30 t2.2.2.2) 35 (nI (ou.length + 1))) (upa ar2 15 (upd (ar2 15) (200 * li + ou.length) ((100000 : Int32) + t2.2.2.2))) li sk ((100000 + v) :: ou) := ⟨hli, h17b, h33, h34, rfl, s32, stk_p s15b (by rw [hvv, show (100000 : Int32) = nI 100000 from rfl, nI_add]), by show sk.length + (ou.length + 1) < 200; omega, hc20⟩
          have hk3 := kR_tr hkT (kR_35 (li := li) (lx4 fv2 t2) ar2 (nI (ou.length + 1)) (((100000 : Int32) + t2.2.2.2)) (show ou.length < 200 by omega))
          refine V.cw mX7_eRead_ok rfl lX7_173 (c7_unwinds l) rfl 0 7 rfl rfl rfl rfl rfl rfl ⟨(upf (upf (upf (upf (upf fv2 27 (nI t2.1)) 28 (nI t2.2.1)) 29 t2.2.2.1) 30 t2.2.2.2) 35 (nI (ou.length + 1))), (upa ar2 15 (upd (ar2 15) (200 * li + ou.length) ((100000 : Int32) + t2.2.2.2))), _, 7, li, sk, _, rfl, by omega, by omega, hp3, rfl, rfl, fun fv3 ar3 hk4 hp4 => ⟨rfl, ?_⟩⟩
          have hl4 := uwF_len (r := 7) (sk := sk) (ou := (100000 + v) :: ou)
          have hl5 : sk.length + ((100000 + v) :: ou).length = sk.length + (ou.length + 1) := rfl
          refine V.g2 60 [14, 38, 57, 61, 75, 99, 124, 148, 150, 177, 200, 229, 247, 249, 262, 176, 172] mX7_eRead_ok rfl ?_
          refine V.kn [1, 2, 0] [(1, .int (nI 0)), (2, .int (bI y)), (0, .ref 0)] [] (pM fv3 ar3) rfl rfl rfl ?_
          exact ih t2.1 false y _ _ _ _ fv3 ar3 (by omega) ht1 (kR_tr hk3 hk4.R) hp4 (by omega) (hk4.1 27 (by decide) (by decide) (by decide)) (by rw [← hR, rdW, if_pos e1, hcl]) rfl rfl
        · refine And.intro (fun (e2 : ¬ t2.2.2.1 = (nI 2)) => ?_) (fun (e2 : t2.2.2.1 = (nI 2)) => ?_)
          · have t99 : ¬ (t2.2.2.1 = nI 6 ∧ y = true) → V l mX7_eRead false S (zrm 5 0 0) (zFm false S Q 0 0) 0 0 99 [(1, .int (bI true)), (2, .int (bI y)), (0, .ref 0)] [] (pM (upf (upf (upf (upf fv2 27 (nI t2.1)) 28 (nI t2.2.1)) 29 t2.2.2.1) 30 t2.2.2.2) ar2) := by
              intro  e3
              refine V.g2 60 [14, 38, 57, 61, 75, 99, 124, 148, 150, 177, 200, 229, 247, 249, 262, 176, 172] mX7_eRead_ok rfl ?_
              refine And.intro (fun (e7 : ¬ t2.2.2.1 = (nI 45)) => ?_) (fun (e7 : t2.2.2.1 = (nI 45)) => ?_)
              · refine V.g2 60 [14, 38, 57, 61, 75, 99, 124, 148, 150, 177, 200, 229, 247, 249, 262, 176, 172] mX7_eRead_ok rfl ?_
                refine And.intro (fun (e8 : ¬ t2.2.2.1 = (nI 40)) => ?_) (fun (e8 : t2.2.2.1 = (nI 40)) => ?_)
                · refine V.g2 60 [14, 38, 57, 61, 75, 99, 124, 148, 150, 177, 200, 229, 247, 249, 262, 176, 172] mX7_eRead_ok rfl ?_
                  refine And.intro (Or.inl rfl) ?_
                  refine ⟨_, zsim_rfl _, ?_⟩
                  subst hS
                  exact h0 _ (by rw [← hR, rdW, if_neg e1, if_neg e2, if_neg e3, if_neg e7, if_neg e8]) (upf (upf (upf (upf fv2 27 (nI t2.1)) 28 (nI t2.2.1)) 29 t2.2.2.1) 30 t2.2.2.2) ar2 hkT rfl
                · have hadv := htz (by rw [e8]; decide)
                  rcases Nat.decEq (opC sk) 5 with h5 | h5
                  · refine V.cw mX7_eRead_ok rfl lX7_180 (c7_opensOne l) rfl 0 7 rfl rfl rfl rfl rfl rfl ⟨(upf (upf (upf (upf fv2 27 (nI t2.1)) 28 (nI t2.2.1)) 29 t2.2.2.1) 30 t2.2.2.2), ar2, _, sk.length, opC sk, by omega, h33, by have := opC_le sk; omega, h34, rfl, rfl, ⟨fun z => absurd z h5, fun _ => ⟨rfl, ?_⟩⟩⟩
                    have s32b : stk (upd (ar2 32) (0 + sk.length) (nI 0)) 0 (0 :: sk) := stk_p s32 rfl
                    rw [Nat.zero_add] at s32b
                    have hp3 : pS (upf (upf (upf (upf (upf (upf fv2 27 (nI t2.1)) 28 (nI t2.2.1)) 29 t2.2.2.1) 30 t2.2.2.2) 33 (nI (sk.length + 1))) 34 (nI (opC sk + 1))) (upa ar2 32 (upd (ar2 32) sk.length (nI 0))) li (0 :: sk) ou := ⟨hli, h17b, rfl, rfl, h35b, s32b, s15b, by show sk.length + 1 + ou.length < 200; omega, fun d hd => by rcases List.mem_cons.mp hd with e | e; omega; exact hc20 d e⟩
                    refine V.g2 60 [14, 38, 57, 61, 75, 99, 124, 148, 150, 177, 200, 229, 247, 249, 262, 176, 172] mX7_eRead_ok rfl ?_
                    refine zp_ne 1 0 (fun e0 => ?_) (fun e0 => absurd e0 (by omega)) rfl rfl
                    refine V.kn [1, 2, 0] [(1, .int (bI true)), (2, .int (nI 1)), (0, .ref 0)] [] (pM (upf (upf (upf (upf (upf (upf fv2 27 (nI t2.1)) 28 (nI t2.2.1)) 29 t2.2.2.1) 30 t2.2.2.2) 33 (nI (sk.length + 1))) 34 (nI (opC sk + 1))) (upa ar2 32 (upd (ar2 32) sk.length (nI 0)))) rfl rfl rfl ?_
                    exact ih t2.1 true true _ _ _ _ (upf (upf (upf (upf (upf (upf fv2 27 (nI t2.1)) 28 (nI t2.2.1)) 29 t2.2.2.1) 30 t2.2.2.2) 33 (nI (sk.length + 1))) 34 (nI (opC sk + 1))) (upa ar2 32 (upd (ar2 32) sk.length (nI 0))) (by omega) ht1 (kR_tr hkT (kR_33 li (lx4 fv2 t2) ar2 _ _ _)) hp3 (by show sk.length + 1 + ou.length ≤ t2.1; omega) rfl (by rw [← hR, rdW, if_neg e1, if_neg e2, if_neg e3, if_neg e7, if_pos e8, if_neg h5]) rfl rfl
                  · refine V.cw mX7_eRead_ok rfl lX7_180 (c7_opensOne l) rfl 0 7 rfl rfl rfl rfl rfl rfl ⟨(upf (upf (upf (upf fv2 27 (nI t2.1)) 28 (nI t2.2.1)) 29 t2.2.2.1) 30 t2.2.2.2), ar2, _, sk.length, opC sk, by omega, h33, by have := opC_le sk; omega, h34, rfl, rfl, ⟨fun _ => ⟨rfl, ?_⟩, fun z => absurd h5 z⟩⟩
                    refine V.g2 60 [14, 38, 57, 61, 75, 99, 124, 148, 150, 177, 200, 229, 247, 249, 262, 176, 172] mX7_eRead_ok rfl ?_
                    refine zp_ne 0 0 (fun e0 => absurd e0 (by omega)) (fun e0 => ?_) rfl rfl
                    refine And.intro (Or.inl rfl) ?_
                    refine ⟨_, zsim_rfl _, ?_⟩
                    subst hS
                    exact h0 _ (by rw [← hR, rdW, if_neg e1, if_neg e2, if_neg e3, if_neg e7, if_pos e8, if_pos h5]) (upf (upf (upf (upf fv2 27 (nI t2.1)) 28 (nI t2.2.1)) 29 t2.2.2.1) 30 t2.2.2.2) ar2 hkT rfl
              · have hadv := htz (by rw [e7]; decide)
                rcases Nat.decEq (opC sk) 5 with h5 | h5
                · refine V.cw mX7_eRead_ok rfl lX7_180 (c7_opensOne l) rfl 0 7 rfl rfl rfl rfl rfl rfl ⟨(upf (upf (upf (upf fv2 27 (nI t2.1)) 28 (nI t2.2.1)) 29 t2.2.2.1) 30 t2.2.2.2), ar2, _, sk.length, opC sk, by omega, h33, by have := opC_le sk; omega, h34, rfl, rfl, ⟨fun z => absurd z h5, fun _ => ⟨rfl, ?_⟩⟩⟩
                  have s32b : stk (upd (ar2 32) (0 + sk.length) (nI 19)) 0 (19 :: sk) := stk_p s32 rfl
                  rw [Nat.zero_add] at s32b
                  have hp3 : pS (upf (upf (upf (upf (upf (upf fv2 27 (nI t2.1)) 28 (nI t2.2.1)) 29 t2.2.2.1) 30 t2.2.2.2) 33 (nI (sk.length + 1))) 34 (nI (opC sk + 1))) (upa ar2 32 (upd (ar2 32) sk.length (nI 19))) li (19 :: sk) ou := ⟨hli, h17b, rfl, rfl, h35b, s32b, s15b, by show sk.length + 1 + ou.length < 200; omega, fun d hd => by rcases List.mem_cons.mp hd with e | e; omega; exact hc20 d e⟩
                  refine V.g2 60 [14, 38, 57, 61, 75, 99, 124, 148, 150, 177, 200, 229, 247, 249, 262, 176, 172] mX7_eRead_ok rfl ?_
                  refine zp_ne 1 0 (fun e0 => ?_) (fun e0 => absurd e0 (by omega)) rfl rfl
                  refine V.kn [1, 2, 0] [(1, .int (bI true)), (2, .int (nI 0)), (0, .ref 0)] [] (pM (upf (upf (upf (upf (upf (upf fv2 27 (nI t2.1)) 28 (nI t2.2.1)) 29 t2.2.2.1) 30 t2.2.2.2) 33 (nI (sk.length + 1))) 34 (nI (opC sk + 1))) (upa ar2 32 (upd (ar2 32) sk.length (nI 19)))) rfl rfl rfl ?_
                  exact ih t2.1 true false _ _ _ _ (upf (upf (upf (upf (upf (upf fv2 27 (nI t2.1)) 28 (nI t2.2.1)) 29 t2.2.2.1) 30 t2.2.2.2) 33 (nI (sk.length + 1))) 34 (nI (opC sk + 1))) (upa ar2 32 (upd (ar2 32) sk.length (nI 19))) (by omega) ht1 (kR_tr hkT (kR_33 li (lx4 fv2 t2) ar2 _ _ _)) hp3 (by show sk.length + 1 + ou.length ≤ t2.1; omega) rfl (by rw [← hR, rdW, if_neg e1, if_neg e2, if_neg e3, if_pos e7, if_neg h5]) rfl rfl
                · refine V.cw mX7_eRead_ok rfl lX7_180 (c7_opensOne l) rfl 0 7 rfl rfl rfl rfl rfl rfl ⟨(upf (upf (upf (upf fv2 27 (nI t2.1)) 28 (nI t2.2.1)) 29 t2.2.2.1) 30 t2.2.2.2), ar2, _, sk.length, opC sk, by omega, h33, by have := opC_le sk; omega, h34, rfl, rfl, ⟨fun _ => ⟨rfl, ?_⟩, fun z => absurd h5 z⟩⟩
                  refine V.g2 60 [14, 38, 57, 61, 75, 99, 124, 148, 150, 177, 200, 229, 247, 249, 262, 176, 172] mX7_eRead_ok rfl ?_
                  refine zp_ne 0 0 (fun e0 => absurd e0 (by omega)) (fun e0 => ?_) rfl rfl
                  refine And.intro (Or.inl rfl) ?_
                  refine ⟨_, zsim_rfl _, ?_⟩
                  subst hS
                  exact h0 _ (by rw [← hR, rdW, if_neg e1, if_neg e2, if_neg e3, if_pos e7, if_pos h5]) (upf (upf (upf (upf fv2 27 (nI t2.1)) 28 (nI t2.2.1)) 29 t2.2.2.1) 30 t2.2.2.2) ar2 hkT rfl
            refine V.g2 60 [14, 38, 57, 61, 75, 99, 124, 148, 150, 177, 200, 229, 247, 249, 262, 176, 172] mX7_eRead_ok rfl ?_
            refine And.intro (fun (e6 : ¬ t2.2.2.1 = (nI 6)) => ?_) (fun (e6 : t2.2.2.1 = (nI 6)) => ?_)
            · refine V.nm [(1, .int (bI true)), (2, .int (bI y)), (0, .ref 0)] [] (pM (upf (upf (upf (upf fv2 27 (nI t2.1)) 28 (nI t2.2.1)) 29 t2.2.2.1) 30 t2.2.2.2) ar2) rfl rfl rfl ?_
              exact t99 (fun z => e6 z.1)
            · cases y with
              | false =>
                refine And.intro (fun _ => ?_) (fun e => absurd rfl e)
                refine V.nm [(1, .int (bI true)), (2, .int (bI false)), (0, .ref 0)] [] (pM (upf (upf (upf (upf fv2 27 (nI t2.1)) 28 (nI t2.2.1)) 29 t2.2.2.1) 30 t2.2.2.2) ar2) rfl rfl rfl ?_
                exact t99 (fun z => Bool.noConfusion z.2)
              | true =>
                have hadv := htz (by rw [e6]; decide)
                refine And.intro (fun e => absurd e (by decide)) (fun _ => ?_)
                rcases Nat.decEq (opC sk) 5 with h5 | h5
                · refine V.cw mX7_eRead_ok rfl lX7_180 (c7_opensOne l) rfl 0 7 rfl rfl rfl rfl rfl rfl ⟨(upf (upf (upf (upf fv2 27 (nI t2.1)) 28 (nI t2.2.1)) 29 t2.2.2.1) 30 t2.2.2.2), ar2, _, sk.length, opC sk, by omega, h33, by have := opC_le sk; omega, h34, rfl, rfl, ⟨fun z => absurd z h5, fun _ => ⟨rfl, ?_⟩⟩⟩
                  have s32b : stk (upd (ar2 32) (0 + sk.length) (nI 13)) 0 (13 :: sk) := stk_p s32 rfl
                  rw [Nat.zero_add] at s32b
                  have hp3 : pS (upf (upf (upf (upf (upf (upf fv2 27 (nI t2.1)) 28 (nI t2.2.1)) 29 t2.2.2.1) 30 t2.2.2.2) 33 (nI (sk.length + 1))) 34 (nI (opC sk + 1))) (upa ar2 32 (upd (ar2 32) sk.length (nI 13))) li (13 :: sk) ou := ⟨hli, h17b, rfl, rfl, h35b, s32b, s15b, by show sk.length + 1 + ou.length < 200; omega, fun d hd => by rcases List.mem_cons.mp hd with e | e; omega; exact hc20 d e⟩
                  refine V.g2 60 [14, 38, 57, 61, 75, 99, 124, 148, 150, 177, 200, 229, 247, 249, 262, 176, 172] mX7_eRead_ok rfl ?_
                  refine zp_ne 1 0 (fun e0 => ?_) (fun e0 => absurd e0 (by omega)) rfl rfl
                  refine V.kn [1, 2, 0] [(1, .int (bI true)), (2, .int (bI true)), (0, .ref 0)] [] (pM (upf (upf (upf (upf (upf (upf fv2 27 (nI t2.1)) 28 (nI t2.2.1)) 29 t2.2.2.1) 30 t2.2.2.2) 33 (nI (sk.length + 1))) 34 (nI (opC sk + 1))) (upa ar2 32 (upd (ar2 32) sk.length (nI 13)))) rfl rfl rfl ?_
                  exact ih t2.1 true true _ _ _ _ (upf (upf (upf (upf (upf (upf fv2 27 (nI t2.1)) 28 (nI t2.2.1)) 29 t2.2.2.1) 30 t2.2.2.2) 33 (nI (sk.length + 1))) 34 (nI (opC sk + 1))) (upa ar2 32 (upd (ar2 32) sk.length (nI 13))) (by omega) ht1 (kR_tr hkT (kR_33 li (lx4 fv2 t2) ar2 _ _ _)) hp3 (by show sk.length + 1 + ou.length ≤ t2.1; omega) rfl (by rw [← hR, rdW, if_neg e1, if_neg e2, if_pos ⟨e6, rfl⟩, if_neg h5]) rfl rfl
                · refine V.cw mX7_eRead_ok rfl lX7_180 (c7_opensOne l) rfl 0 7 rfl rfl rfl rfl rfl rfl ⟨(upf (upf (upf (upf fv2 27 (nI t2.1)) 28 (nI t2.2.1)) 29 t2.2.2.1) 30 t2.2.2.2), ar2, _, sk.length, opC sk, by omega, h33, by have := opC_le sk; omega, h34, rfl, rfl, ⟨fun _ => ⟨rfl, ?_⟩, fun z => absurd h5 z⟩⟩
                  refine V.g2 60 [14, 38, 57, 61, 75, 99, 124, 148, 150, 177, 200, 229, 247, 249, 262, 176, 172] mX7_eRead_ok rfl ?_
                  refine zp_ne 0 0 (fun e0 => absurd e0 (by omega)) (fun e0 => ?_) rfl rfl
                  refine And.intro (Or.inl rfl) ?_
                  refine ⟨_, zsim_rfl _, ?_⟩
                  subst hS
                  exact h0 _ (by rw [← hR, rdW, if_neg e1, if_neg e2, if_pos ⟨e6, rfl⟩, if_pos h5]) (upf (upf (upf (upf fv2 27 (nI t2.1)) 28 (nI t2.2.1)) 29 t2.2.2.1) 30 t2.2.2.2) ar2 hkT rfl
          · have hadv := htz (by rw [e2]; decide)
            obtain ⟨v, hv9, hvv⟩ := htm e2
            have hcl : cl t2.2.2.2 = v := pk_cl v hvv
            refine V.g2 60 [14, 38, 57, 61, 75, 99, 124, 148, 150, 177, 200, 229, 247, 249, 262, 176, 172] mX7_eRead_ok rfl ?_
            refine And.intro (fun (e : ¬ t2.2.2.1 = (nI 1)) => ?_) (fun (e : t2.2.2.1 = (nI 1)) => absurd e e1)
            refine V.g2 60 [14, 38, 57, 61, 75, 99, 124, 148, 150, 177, 200, 229, 247, 249, 262, 176, 172] mX7_eRead_ok rfl ?_
            skip
            refine V.cw mX7_eRead_ok rfl lX7_166 (c7_puts l) rfl 0 7 rfl rfl rfl rfl rfl rfl ⟨(upf (upf (upf (upf fv2 27 (nI t2.1)) 28 (nI t2.2.1)) 29 t2.2.2.1) 30 t2.2.2.2), ar2, _, li, ou.length, hli, by omega, h17b, h35b, rfl, rfl, ⟨rfl, ?_⟩⟩
            refine V.g2 60 [14, 38, 57, 61, 75, 99, 124, 148, 150, 177, 200, 229, 247, 249, 262, 176, 172] mX7_eRead_ok rfl ?_
            have hp3 : pS (upf (upf (upf (upf (upf fv2 27 (nI t2.1)) 28 (nI t2.2.1)) 29 t2.2.2.1) 30 t2.2.2.2) 35 (nI (ou.length + 1))) (upa ar2 15 (upd (ar2 15) (200 * li + ou.length) t2.2.2.2)) li sk (v :: ou) := ⟨hli, h17b, h33, h34, rfl, s32, stk_p s15b (hvv), by show sk.length + (ou.length + 1) < 200; omega, hc20⟩
            have hk3 := kR_tr hkT (kR_35 (li := li) (lx4 fv2 t2) ar2 (nI (ou.length + 1)) (t2.2.2.2) (show ou.length < 200 by omega))
            refine V.cw mX7_eRead_ok rfl lX7_173 (c7_unwinds l) rfl 0 7 rfl rfl rfl rfl rfl rfl ⟨(upf (upf (upf (upf (upf fv2 27 (nI t2.1)) 28 (nI t2.2.1)) 29 t2.2.2.1) 30 t2.2.2.2) 35 (nI (ou.length + 1))), (upa ar2 15 (upd (ar2 15) (200 * li + ou.length) t2.2.2.2)), _, 7, li, sk, _, rfl, by omega, by omega, hp3, rfl, rfl, fun fv3 ar3 hk4 hp4 => ⟨rfl, ?_⟩⟩
            have hl4 := uwF_len (r := 7) (sk := sk) (ou := v :: ou)
            have hl5 : sk.length + (v :: ou).length = sk.length + (ou.length + 1) := rfl
            refine V.g2 60 [14, 38, 57, 61, 75, 99, 124, 148, 150, 177, 200, 229, 247, 249, 262, 176, 172] mX7_eRead_ok rfl ?_
            refine V.kn [1, 2, 0] [(1, .int (nI 0)), (2, .int (bI y)), (0, .ref 0)] [] (pM fv3 ar3) rfl rfl rfl ?_
            exact ih t2.1 false y _ _ _ _ fv3 ar3 (by omega) ht1 (kR_tr hk3 hk4.R) hp4 (by omega) (hk4.1 27 (by decide) (by decide) (by decide)) (by rw [← hR, rdW, if_neg e1, if_pos e2, hcl]) rfl rfl
      | false =>
        have hR : rdN t2 y sk ou (rdF (ar 31) (ar 13) n m) = R := by rw [ht]; exact hR
        refine V.nm [(1, .int (bI false)), (2, .int (bI y)), (0, .ref 0)] [] (pM (upf (upf (upf (upf fv2 27 (nI t2.1)) 28 (nI t2.2.1)) 29 t2.2.2.1) 30 t2.2.2.2) ar2) rfl rfl rfl ?_
        refine V.g2 60 [14, 38, 57, 61, 75, 99, 124, 148, 150, 177, 200, 229, 247, 249, 262, 176, 172] mX7_eRead_ok rfl ?_
        refine And.intro (fun _ => ?_) (fun e => absurd rfl e)
        refine V.g2 60 [14, 38, 57, 61, 75, 99, 124, 148, 150, 177, 200, 229, 247, 249, 262, 176, 172] mX7_eRead_ok rfl ?_
        refine And.intro (fun (e1 : ¬ t2.2.2.1 = (nI 59)) => ?_) (fun (e1 : t2.2.2.1 = (nI 59)) => ?_)
        · refine V.g2 60 [14, 38, 57, 61, 75, 99, 124, 148, 150, 177, 200, 229, 247, 249, 262, 176, 172] mX7_eRead_ok rfl ?_
          refine And.intro (fun (e2 : ¬ t2.2.2.1 = (nI 41)) => ?_) (fun (e2 : t2.2.2.1 = (nI 41)) => ?_)
          · refine V.g2 60 [14, 38, 57, 61, 75, 99, 124, 148, 150, 177, 200, 229, 247, 249, 262, 176, 172] mX7_eRead_ok rfl ?_
            refine V.cw mX7_eRead_ok rfl lX7_183 (c7_signOf l) rfl 0 7 rfl rfl rfl rfl rfl rfl ⟨(upf (upf (upf (upf fv2 27 (nI t2.1)) 28 (nI t2.2.1)) 29 t2.2.2.1) 30 t2.2.2.2), ar2, rfl, rfl, fun sg hsg => ⟨rfl, ?_⟩⟩
            have hsg : sg = sgF t2.2.2.1 := hsg
            have hR2 := hR
            rw [rdN, if_neg e1, if_neg e2, ← hsg] at hR2
            refine V.g2 60 [14, 38, 57, 61, 75, 99, 124, 148, 150, 177, 200, 229, 247, 249, 262, 176, 172] mX7_eRead_ok rfl ?_
            refine And.intro (fun (e3 : sg = (-1 : Int32)) => ?_) (fun (e3 : ¬ sg = (-1 : Int32)) => ?_)
            · refine V.g2 60 [14, 38, 57, 61, 75, 99, 124, 148, 150, 177, 200, 229, 247, 249, 262, 176, 172] mX7_eRead_ok rfl ?_
              refine And.intro (Or.inl rfl) ?_
              refine ⟨_, zsim_rfl _, ?_⟩
              subst hS
              exact h0 _ (by rw [← hR2, if_pos e3]) (upf (upf (upf (upf fv2 27 (nI t2.1)) 28 (nI t2.2.1)) 29 t2.2.2.1) 30 t2.2.2.2) ar2 hkT rfl
            · rw [if_neg e3] at hR2
              obtain ⟨c, hc, hc1, hc2, hc13⟩ : ∃ c, sg = nI c ∧ 11 ≤ c ∧ c < 19 ∧ c ≠ 13 := by
                rcases sgF_cases t2.2.2.1 with z | z
                · exact absurd (hsg.trans z.1) e3
                · rw [hsg]; exact z
              have hcl : cl sg = c := pk_cl c hc
              rw [hcl] at hR2
              have hadv := htz (fun z => by rw [z] at hsg; exact e3 hsg)
              obtain ⟨BE, hBE⟩ : ∃ BE, beF c sk ou = BE := ⟨_, rfl⟩
              rw [hBE] at hR2
              cases BE with
              | none =>
                refine V.cw mX7_eRead_ok rfl lX7_186 (c7_between l) rfl 0 7 rfl rfl rfl rfl rfl rfl ⟨(upf (upf (upf (upf fv2 27 (nI t2.1)) 28 (nI t2.2.1)) 29 t2.2.2.1) 30 t2.2.2.2), ar2, _, c, li, sk, ou, hc, hc1, hc2, hc13, hp, by omega, rfl, rfl, ⟨fun _ fv3 ar3 hk4 => ⟨rfl, ?_⟩, fun s o z => absurd (hBE.symm.trans z) (fun y => by cases y)⟩⟩
                refine V.g2 60 [14, 38, 57, 61, 75, 99, 124, 148, 150, 177, 200, 229, 247, 249, 262, 176, 172] mX7_eRead_ok rfl ?_
                refine zp_ne 0 0 (fun e0 => absurd e0 (by omega)) (fun e0 => ?_) rfl rfl
                refine V.g2 60 [14, 38, 57, 61, 75, 99, 124, 148, 150, 177, 200, 229, 247, 249, 262, 176, 172] mX7_eRead_ok rfl ?_
                refine And.intro (Or.inl rfl) ?_
                refine ⟨_, zsim_rfl _, ?_⟩
                subst hS
                exact h0 _ (by rw [← hR2]) fv3 ar3 (kR_tr hkT hk4.R) (hk4.1 28 (by decide) (by decide) (by decide))
              | some qq =>
                refine V.cw mX7_eRead_ok rfl lX7_186 (c7_between l) rfl 0 7 rfl rfl rfl rfl rfl rfl ⟨(upf (upf (upf (upf fv2 27 (nI t2.1)) 28 (nI t2.2.1)) 29 t2.2.2.1) 30 t2.2.2.2), ar2, _, c, li, sk, ou, hc, hc1, hc2, hc13, hp, by omega, rfl, rfl, ⟨fun z => absurd (hBE.symm.trans z) (fun y => by cases y), fun s o z fv3 ar3 hk4 hp4 => ⟨rfl, ?_⟩⟩⟩
                cases hBE.symm.trans z
                have hbl : s.length + o.length = sk.length + ou.length + 1 := beF_len hBE
                refine V.g2 60 [14, 38, 57, 61, 75, 99, 124, 148, 150, 177, 200, 229, 247, 249, 262, 176, 172] mX7_eRead_ok rfl ?_
                refine zp_ne 1 0 (fun e0 => ?_) (fun e0 => absurd e0 (by omega)) rfl rfl
                refine V.g2 60 [14, 38, 57, 61, 75, 99, 124, 148, 150, 177, 200, 229, 247, 249, 262, 176, 172] mX7_eRead_ok rfl ?_
                refine pk_lt 12 c (fun e9 => ?_) (fun e9 => ?_) rfl hc
                · refine V.g2 60 [14, 38, 57, 61, 75, 99, 124, 148, 150, 177, 200, 229, 247, 249, 262, 176, 172] mX7_eRead_ok rfl ?_
                  refine V.kn [1, 2, 0] [(1, .int (nI 1)), (2, .int (nI 0)), (0, .ref 0)] [] (pM fv3 ar3) rfl rfl rfl ?_
                  have hd : decide (c ≤ 12) = false := decide_eq_false (by omega)
                  exact ih t2.1 true false _ _ _ _ fv3 ar3 (by omega) ht1 (kR_tr hkT hk4.R) hp4 (by omega) (hk4.1 27 (by decide) (by decide) (by decide)) (by rw [← hR2, hd]) rfl rfl
                · refine V.g2 60 [14, 38, 57, 61, 75, 99, 124, 148, 150, 177, 200, 229, 247, 249, 262, 176, 172] mX7_eRead_ok rfl ?_
                  refine V.kn [1, 2, 0] [(1, .int (nI 1)), (2, .int (nI 1)), (0, .ref 0)] [] (pM fv3 ar3) rfl rfl rfl ?_
                  have hd : decide (c ≤ 12) = true := decide_eq_true (by omega)
                  exact ih t2.1 true true _ _ _ _ fv3 ar3 (by omega) ht1 (kR_tr hkT hk4.R) hp4 (by omega) (hk4.1 27 (by decide) (by decide) (by decide)) (by rw [← hR2, hd]) rfl rfl
          · have hadv := htz (by rw [e2]; decide)
            refine V.cw mX7_eRead_ok rfl lX7_173 (c7_unwinds l) rfl 0 7 rfl rfl rfl rfl rfl rfl ⟨(upf (upf (upf (upf fv2 27 (nI t2.1)) 28 (nI t2.2.1)) 29 t2.2.2.1) 30 t2.2.2.2), ar2, _, 1, li, sk, ou, rfl, by omega, by omega, hp, rfl, rfl, fun fv3 ar3 hk4 hp4 => ⟨rfl, ?_⟩⟩
            have hl4 := uwF_len (r := 1) (sk := sk) (ou := ou)
            have hz := fun c s => uwF_1 (sk := sk) (ou := ou) (c := c) (s := s)
            obtain ⟨U, hU⟩ : ∃ U, U = uwF 1 sk ou := ⟨_, rfl⟩
            have hR2 := hR
            rw [rdN, if_neg e1, if_pos e2, ← hU] at hR2
            rw [← hU] at hp4 hl4 hz
            obtain ⟨U1, U2⟩ := U
            have hk5 := kR_tr hkT hk4.R
            have h35c : fv3 35 = nI U2.length := hp4.2.2.2.2.1
            have hl6 : U1.length + U2.length = sk.length + ou.length := hl4
            have h33c : fv3 33 = nI U1.length := hp4.2.2.1
            have h34c : fv3 34 = nI (opC U1) := hp4.2.2.2.1
            have h28c : fv3 28 = nI t2.2.1 := hk4.1 28 (by decide) (by decide) (by decide)
            have h27c : fv3 27 = nI t2.1 := hk4.1 27 (by decide) (by decide) (by decide)
            cases U1 with
            | nil =>
              have h33d : fv3 33 = nI 0 := h33c
              refine V.g2 60 [14, 38, 57, 61, 75, 99, 124, 148, 150, 177, 200, 229, 247, 249, 262, 176, 172] mX7_eRead_ok rfl ?_
              refine zp_ne 0 0 (fun e0 => absurd e0 (by omega)) (fun e0 => ?_) h33d rfl
              refine And.intro (Or.inl rfl) ?_
              refine ⟨_, zsim_rfl _, ?_⟩
              subst hS
              exact h0 _ (by exact hR2.symm) fv3 ar3 hk5 h28c
            | cons d s =>
              obtain rfl := hz d s rfl
              have h33d : fv3 33 = nI (s.length + 1) := h33c
              have h34d : fv3 34 = nI (opC s + 1) := h34c
              have q33 : fv3 33 - nI 1 = nI s.length := by rw [h33d]; exact pk_sub (by omega)
              have q34 : fv3 34 - nI 1 = nI (opC s) := by rw [h34d]; exact pk_sub (by omega)
              have hl7 : s.length + 1 + U2.length = sk.length + ou.length := hl6
              refine V.g2 60 [14, 38, 57, 61, 75, 99, 124, 148, 150, 177, 200, 229, 247, 249, 262, 176, 172] mX7_eRead_ok rfl ?_
              refine zp_ne (s.length + 1) 0 (fun e9 => ?_) (fun e9 => absurd e9 (by omega)) h33d rfl
              refine V.g2 60 [14, 38, 57, 61, 75, 99, 124, 148, 150, 177, 200, 229, 247, 249, 262, 176, 172] mX7_eRead_ok rfl ?_
              have hp5 : pS (upf (upf fv3 33 ((fv3 33) - (nI 1))) 34 ((fv3 34) - (nI 1))) ar3 li s U2 := ⟨hli, hp4.2.1, q33, q34, h35c, hp4.2.2.2.2.2.1.2, hp4.2.2.2.2.2.2.1, by omega, fun e he => hp4.2.2.2.2.2.2.2.2 e (List.mem_cons_of_mem _ he)⟩
              have hk6 := kR_tr hk5 (kR_34 li fv3 ar3 (fv3 33 - nI 1) (fv3 34 - nI 1))
              refine V.cw mX7_eRead_ok rfl lX7_173 (c7_unwinds l) rfl 0 7 rfl rfl rfl rfl rfl rfl ⟨(upf (upf fv3 33 ((fv3 33) - (nI 1))) 34 ((fv3 34) - (nI 1))), ar3, _, 7, li, s, U2, rfl, by omega, by omega, hp5, rfl, rfl, fun fv3z ar3z hk4z hp4z => ⟨rfl, ?_⟩⟩
              have hl8 := uwF_len (r := 7) (sk := s) (ou := U2)
              refine V.g2 60 [14, 38, 57, 61, 75, 99, 124, 148, 150, 177, 200, 229, 247, 249, 262, 176, 172] mX7_eRead_ok rfl ?_
              refine V.kn [1, 2, 0] [(1, .int (bI false)), (2, .int (bI y)), (0, .ref 0)] [] (pM fv3z ar3z) rfl rfl rfl ?_
              exact ih t2.1 false y _ _ _ _ fv3z ar3z (by omega) ht1 (kR_tr hk6 hk4z.R) hp4z (by omega) ((hk4z.1 27 (by decide) (by decide) (by decide)).trans h27c) hR2 rfl rfl
        · have hadv := htz (by rw [e1]; decide)
          refine V.cw mX7_eRead_ok rfl lX7_173 (c7_unwinds l) rfl 0 7 rfl rfl rfl rfl rfl rfl ⟨(upf (upf (upf (upf fv2 27 (nI t2.1)) 28 (nI t2.2.1)) 29 t2.2.2.1) 30 t2.2.2.2), ar2, _, 1, li, sk, ou, rfl, by omega, by omega, hp, rfl, rfl, fun fv3 ar3 hk4 hp4 => ⟨rfl, ?_⟩⟩
          have hl4 := uwF_len (r := 1) (sk := sk) (ou := ou)
          obtain ⟨U, hU⟩ : ∃ U, U = uwF 1 sk ou := ⟨_, rfl⟩
          have hR2 := hR
          rw [rdN, if_pos e1, ← hU] at hR2
          rw [← hU] at hp4 hl4
          obtain ⟨U1, U2⟩ := U
          have hk5 := kR_tr hkT hk4.R
          have h35c : fv3 35 = nI U2.length := hp4.2.2.2.2.1
          have hl6 : U1.length + U2.length = sk.length + ou.length := hl4
          have h33c : fv3 33 = nI U1.length := hp4.2.2.1
          have h28c : fv3 28 = nI t2.2.1 := hk4.1 28 (by decide) (by decide) (by decide)
          have h27c : fv3 27 = nI t2.1 := hk4.1 27 (by decide) (by decide) (by decide)
          cases U1 with
          | nil =>
            have h33d : fv3 33 = nI 0 := h33c
            refine V.g2 60 [14, 38, 57, 61, 75, 99, 124, 148, 150, 177, 200, 229, 247, 249, 262, 176, 172] mX7_eRead_ok rfl ?_
            refine zp_ne 0 0 (fun e0 => absurd e0 (by omega)) (fun e0 => ?_) h33d rfl
            refine V.g2 60 [14, 38, 57, 61, 75, 99, 124, 148, 150, 177, 200, 229, 247, 249, 262, 176, 172] mX7_eRead_ok rfl ?_
            refine V.g2 60 [14, 38, 57, 61, 75, 99, 124, 148, 150, 177, 200, 229, 247, 249, 262, 176, 172] mX7_eRead_ok rfl ?_
            refine And.intro (Or.inr rfl) ?_
            refine ⟨_, zsim_rfl _, ?_⟩
            subst hS
            exact h1 _ hR2.symm fv3 ar3 hk5 h27c ht1 (by show U2.length ≤ t2.1; have : ([] : List Nat).length = 0 := rfl; omega) h35c hp4.2.2.2.2.2.2.1
          | cons d s =>
            have h33d : fv3 33 = nI (s.length + 1) := h33c
            have hl7 : s.length + 1 + U2.length = sk.length + ou.length := hl6
            refine V.g2 60 [14, 38, 57, 61, 75, 99, 124, 148, 150, 177, 200, 229, 247, 249, 262, 176, 172] mX7_eRead_ok rfl ?_
            refine zp_ne (s.length + 1) 0 (fun e9 => ?_) (fun e9 => absurd e9 (by omega)) h33d rfl
            refine V.g2 60 [14, 38, 57, 61, 75, 99, 124, 148, 150, 177, 200, 229, 247, 249, 262, 176, 172] mX7_eRead_ok rfl ?_
            refine And.intro (Or.inl rfl) ?_
            refine ⟨_, zsim_rfl _, ?_⟩
            subst hS
            exact h0 _ (by exact hR2.symm) fv3 ar3 hk5 h28c
  subst hS
  refine V.g2 60 [14, 38, 57, 61, 75, 99, 124, 148, 150, 177, 200, 229, 247, 249, 262, 176, 172] mX7_eRead_ok rfl ?_
  refine V.kn [1, 2, 0] [(1, .int (nI 1)), (2, .int (nI 1)), (0, .ref 0)] [] (pM (upf (upf fv 33 (nI 0)) 34 (nI 0)) ar) rfl rfl rfl ?_
  exact loop (n - a + 1) a true true [] ou _ _ (upf (upf fv 33 (nI 0)) 34 (nI 0)) ar (by omega) han ⟨fun k _ _ _ _ e1 e2 _ => by rw [upf_n e2, upf_n e1], fun _ _ _ => rfl, fun _ _ => rfl⟩ ⟨hli, h17, rfl, rfl, h35, trivial, s15, by show 0 + ou.length < 200; omega, fun c hc => by cases hc⟩ (by show 0 + ou.length ≤ a; omega) h27 hR0 rfl rfl
