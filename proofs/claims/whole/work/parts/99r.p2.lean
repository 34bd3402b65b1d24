/-! ===== both readers say the same: words ===== -/
def nmO (c : Nat) : Nat := if 100000 ≤ c then c - 99900 else c
def okN (c : Nat) : Prop := opOk (nmO c) ∧ meN (nmO c) = c
def opsN (N : List Nat) : List Nat := (N.map nmO).reverse
def opsOk (N : List Nat) : Prop := (∀ c ∈ N, okN c) ∧ ∀ d, dpt (opsN N) d = some (d + 1)
def cm (ou : List Nat) : List Int32 := ou.map (fun c => eC (nmO c))
theorem cm_len (ou : List Nat) : (cm ou).length = ou.length := List.length_map _
theorem dpt_app : ∀ {A B : List Nat} {d d2 : Nat}, dpt A d = some d2 → dpt (A ++ B) d = dpt B d2
  | [], B, d, d2, h => by cases h; rfl
  | op :: A, B, d, d2, h => by
    rw [List.cons_append]
    simp only [dpt] at h ⊢
    cases hd : dO op d with
    | none => rw [hd] at h; cases h
    | some d3 =>
      rw [hd] at h
      exact dpt_app h
theorem opsN_c (c : Nat) (N : List Nat) : opsN (c :: N) = opsN N ++ [nmO c] := by simp [opsN]
theorem opsN_a (N2 N : List Nat) : opsN (N2 ++ N) = opsN N ++ opsN N2 := by simp [opsN]
theorem dpt_1 {op d d2 : Nat} (h : dO op d = some d2) : dpt [op] d = some d2 := by simp only [dpt, h]
theorem opsOk_1 {c : Nat} (h : okN c) (hd : ∀ d, dO (nmO c) d = some (d + 1)) : opsOk [c] := ⟨fun x hx => by rw [List.mem_singleton] at hx; rw [hx]; exact h, fun d => by rw [opsN_c]; exact dpt_1 (hd d)⟩
theorem opsOk_u {c : Nat} {N : List Nat} (h : okN c) (hd : ∀ d, dO (nmO c) (d + 1) = some (d + 1)) (hN : opsOk N) : opsOk (c :: N) := ⟨fun x hx => by
  rcases List.mem_cons.mp hx with rfl | hx
  · exact h
  · exact hN.1 x hx, fun d => by rw [opsN_c, dpt_app (hN.2 d)]; exact dpt_1 (hd d)⟩
theorem opsOk_b {c : Nat} {N N2 : List Nat} (h : okN c) (hd : ∀ d, dO (nmO c) (d + 2) = some (d + 1)) (hN : opsOk N) (hN2 : opsOk N2) : opsOk (c :: (N2 ++ N)) := ⟨fun x hx => by
  rcases List.mem_cons.mp hx with rfl | hx
  · exact h
  · rcases List.mem_append.mp hx with hx | hx
    · exact hN2.1 x hx
    · exact hN.1 x hx, fun d => by rw [opsN_c, opsN_a, List.append_assoc, dpt_app (hN.2 d), dpt_app (hN2.2 (d + 1))]; exact dpt_1 (hd d)⟩
theorem dO_13 (d : Nat) : dO 13 (d + 1) = some (d + 1) := by simp [dO]
theorem dO_19 (d : Nat) : dO 19 (d + 1) = some (d + 1) := by simp [dO]
theorem dO_bin {c : Nat} (h : isBin c = true) (d : Nat) : dO c (d + 2) = some (d + 1) := by
  rcases isBin_cases h with rfl | rfl | rfl | rfl | rfl | rfl | rfl <;> simp [dO]
theorem okN_bin {c : Nat} (h : isBin c = true) : nmO c = c ∧ okN c := by
  have h1 : c < 100 := by rcases isBin_cases h with rfl | rfl | rfl | rfl | rfl | rfl | rfl <;> omega
  have e : nmO c = c := by rw [nmO, if_neg (by omega)]
  exact ⟨e, by rw [okN, e]; exact ⟨Or.inr (Or.inl h), by rw [meN, if_neg (by omega)]⟩⟩
theorem okN_13 : okN 13 := ⟨Or.inr (Or.inr (Or.inl rfl)), rfl⟩
theorem okN_19 : okN 19 := ⟨Or.inr (Or.inr (Or.inr (Or.inl rfl))), rfl⟩
theorem okN_num {v : Nat} (h : v < 10000) : nmO (100000 + v) = 100 + v ∧ okN (100000 + v) := by
  have e : nmO (100000 + v) = 100 + v := by rw [nmO, if_pos (by omega)]; omega
  exact ⟨e, by rw [okN, e]; exact ⟨Or.inr (Or.inr (Or.inr (Or.inr ⟨by omega, by omega⟩))), by rw [meN, if_pos (by omega)]; omega⟩⟩
theorem okN_nam {v : Nat} (h : v < 6) : nmO v = v ∧ okN v := by
  have e : nmO v = v := by rw [nmO, if_neg (by omega)]
  exact ⟨e, by rw [okN, e]; exact ⟨Or.inl h, by rw [meN, if_neg (by omega)]⟩⟩
theorem uwF_uw {r r2 : Nat} (h : r2 ≤ r) : ∀ (sk ou : List Nat), uwF r2 (uwF r sk ou).1 (uwF r sk ou).2 = uwF r2 sk ou
  | [], _ => rfl
  | c :: t, ou => by
    by_cases hc : r ≤ rkF c
    · rw [show uwF r (c :: t) ou = uwF r t (c :: ou) by rw [uwF, if_pos hc], uwF_uw h t (c :: ou), show uwF r2 (c :: t) ou = uwF r2 t (c :: ou) by rw [uwF, if_pos (Nat.le_trans h hc)]]
    · rw [show uwF r (c :: t) ou = (c :: t, ou) by rw [uwF, if_neg hc]]
def topLt (r : Nat) : List Nat → Prop
  | [] => True
  | c :: _ => rkF c < r
theorem topLt_mono {r r2 : Nat} (h : r ≤ r2) : ∀ {sk : List Nat}, topLt r sk → topLt r2 sk
  | [], _ => trivial
  | _ :: _, q => Nat.lt_of_lt_of_le q h
theorem uwF_top {r : Nat} : ∀ {sk : List Nat} (ou : List Nat), topLt r sk → uwF r sk ou = (sk, ou)
  | [], _, _ => rfl
  | _ :: _, _, h => by rw [uwF, if_neg (Nat.not_le_of_lt h)]
theorem uwF_push {r c : Nat} (sk ou : List Nat) (h : r ≤ rkF c) : uwF r (c :: sk) ou = uwF r sk (c :: ou) := by rw [uwF, if_pos h]
theorem beF_op {c R : Nat} (sk ou : List Nat) (hR : rkF c = R) (hb : Nat.beq R 4 = false) : beF c sk ou = some (c :: (uwF R sk ou).1, (uwF R sk ou).2) := by
  have h4 : ¬ R = 4 := fun e => by rw [e] at hb; cases hb
  unfold beF
  rw [hR, if_neg h4, hb, Bool.false_and, if_neg Bool.false_ne_true]
theorem beF_c0 {c : Nat} {sk ou : List Nat} (hR : rkF c = 4) (h : tp4 (uwF 5 sk ou).1 = true) : beF c sk ou = none := by
  unfold beF
  rw [hR, if_pos rfl, h]
  rfl
theorem beF_c1 {c : Nat} {sk ou : List Nat} (hR : rkF c = 4) (h : tp4 (uwF 5 sk ou).1 = false) : beF c sk ou = some (c :: (uwF 5 sk ou).1, (uwF 5 sk ou).2) := by
  unfold beF
  rw [hR, if_pos rfl, h, Bool.and_false, if_neg Bool.false_ne_true]
theorem tp4_lt {sk : List Nat} (h : topLt 4 sk) : tp4 sk = false := by
  cases sk with
  | nil => rfl
  | cons c t =>
    show Nat.beq (rkF c) 4 = false
    have h : rkF c < 4 := h
    cases hb : Nat.beq (rkF c) 4 with
    | false => rfl
    | true => have := Nat.eq_of_beq_eq_true hb; omega
theorem nI_n1 {b : Nat} (h : b < 2 ^ 31) : ¬ nI b = -1 := fun e => by
  have h1 := congrArg Int32.toInt e
  rw [nI_toInt h, show (-1 : Int32).toInt = -1 by decide] at h1
  omega
def Res (wo tp : fI) (n r : Nat) (fo : Nat → List Nat × List Nat → Prop) (s : zS) (a : Nat) (R : zRR) (sk ou : List Nat) : Prop :=
  (∃ b, s.2.1 = nI 300 ∧ s.2.2.2.2.1 = nI b ∧ b ≤ n ∧ R = .inl b) ∨
  ∃ (a2 k m : Nat) (y : Bool) (st o N : List Nat), cln wo tp n s a2 k ∧ a < a2 ∧ n - a2 < m ∧ st.length + o.length ≤ a2 ∧ s.2.2.2.2.2 = cm (N ++ ou) ∧ opsOk N ∧ R = rdF wo tp n m a2 false y (st, o) ∧ (∀ r2, r2 ≤ r → uwF r2 st o = uwF r2 sk (N ++ ou)) ∧ fo k (st, o)
def Cl (wo tp : fI) (n r d rt : Nat) (pre : Bool → Nat → Prop) (fo : Nat → List Nat × List Nat → Prop) (g : zS → zS) : Prop :=
  ∀ (s : zS) (a k m : Nat) (y : Bool) (sk ou : List Nat), cln wo tp n s a k → pre y k → topLt rt sk → s.2.2.2.2.2 = cm ou → opC sk + d = 5 → sk.length + ou.length ≤ a → n - a < m → Res wo tp n r fo (g s) a (rdF wo tp n m a true y (sk, ou)) sk ou
def Stk (g : zS → zS) : Prop := ∀ s : zS, s.2.1 = nI 300 → ¬ s.2.2.2.2.1 = -1 → (g s).2.1 = nI 300 ∧ (g s).2.2.2.2.1 = s.2.2.2.2.1
theorem tkL_lt {k : Nat} (h : k ∈ tkL) : k < 322 := by
  have key : ∀ k, k ∈ tkL → k < 322 := by decide
  exact key k h
theorem tk_eq {k j : Nat} (h : k ∈ tkL) (hj : j < 1000) : nI k = nI j ↔ k = j := nI_eq (by have := tkL_lt h; omega) (by omega)
section
variable {wo tp : fI} {n a k m r d : Nat} {y : Bool} {s : zS} {sk ou st o : List Nat} {K : zRK} {t : Nat × Nat × Int32 × Int32}
theorem cln_pos (h : cln wo tp n s a k) (hk : k ≠ 301) : a < s.1 ∧ s.1 ≤ n := by
  have key : ∀ k, k ∈ tkL → k ≠ 301 → ¬ tkM k = nI 0 := by decide
  have ht := nx_ok (wo := wo) (tp := tp) (n := n) (a := a) rfl h.1
  rw [h.2.2.1]
  exact ⟨ht.2.2.1 (by rw [h.2.2.2.2.2.1]; exact key k h.2.1 hk), ht.1⟩
theorem cln_fl (h : cln wo tp n s a k) : (qFl s).2.1 = nI 300 ∧ (qFl s).2.2.2.2.1 = nI (nxF wo tp n a).2.1 ∧ (nxF wo tp n a).2.1 ≤ n := ⟨rfl, by
  show (if s.2.2.2.2.1 = -1 then nI s.2.2.1 else s.2.2.2.2.1) = _
  rw [if_pos h.2.2.2.2.2.2.2, h.2.2.2.2.1], (nx_ok (wo := wo) (tp := tp) (n := n) (a := a) rfl h.1).2.1⟩
theorem Stk_fl : Stk qFl := fun s _ hf => ⟨rfl, if_neg hf⟩
theorem rdW_no (h1 : ¬ t.2.2.1 = nI 1) (h2 : ¬ t.2.2.1 = nI 2) (h6 : t.2.2.1 = nI 6 → y = true → opC sk = 5) (h45 : t.2.2.1 = nI 45 → opC sk = 5) (h40 : t.2.2.1 = nI 40 → opC sk = 5) : rdW t y sk ou K = .inl t.2.1 := by
  unfold rdW
  rw [if_neg h1, if_neg h2]
  split
  · rename_i h; rw [if_pos (h6 h.1 h.2)]
  · split
    · rename_i h; rw [if_pos (h45 h)]
    · split
      · rename_i h; rw [if_pos (h40 h)]
      · rfl
theorem rdN_stop (hk : k ∈ tkL) (ht : t.2.2.1 = tkM k) (h59 : k = 59 → ∃ c s, (uwF 1 st o).1 = c :: s) (h41 : k = 41 → (uwF 1 st o).1 = []) (hops : k ≠ 42 ∧ k ≠ 43 ∧ k ≠ 45 ∧ k ≠ 319 ∧ k ≠ 320) (hcmp : k = 60 ∨ k = 61 → tp4 (uwF 5 st o).1 = true) : rdN t y st o K = .inl t.2.1 := by
  unfold rdN
  rw [ht]
  by_cases k59 : k = 59
  · obtain ⟨c, s, e⟩ := h59 k59
    subst k59
    rw [if_pos (show tkM 59 = nI 59 by decide), e]
  · by_cases k41 : k = 41
    · have e := h41 k41
      subst k41
      rw [if_neg (show ¬ tkM 41 = nI 59 by decide), if_pos (show tkM 41 = nI 41 by decide), e]
    · by_cases k60 : k = 60
      · have e := hcmp (Or.inl k60)
        subst k60
        rw [if_neg (show ¬ tkM 60 = nI 59 by decide), if_neg (show ¬ tkM 60 = nI 41 by decide), if_neg (show ¬ sgF (tkM 60) = -1 by decide), show cl (sgF (tkM 60)) = 14 by decide, beF_c0 rfl e]
      · by_cases k61 : k = 61
        · have e := hcmp (Or.inr k61)
          subst k61
          rw [if_neg (show ¬ tkM 61 = nI 59 by decide), if_neg (show ¬ tkM 61 = nI 41 by decide), if_neg (show ¬ sgF (tkM 61) = -1 by decide), show cl (sgF (tkM 61)) = 15 by decide, beF_c0 rfl e]
        · have key : ∀ k, k ∈ tkL → k ≠ 59 → k ≠ 41 → k ≠ 60 → k ≠ 61 → k ≠ 42 → k ≠ 43 → k ≠ 45 → k ≠ 319 → k ≠ 320 → ¬ tkM k = nI 59 ∧ ¬ tkM k = nI 41 ∧ sgF (tkM k) = -1 := by decide
          obtain ⟨e1, e2, e3⟩ := key k hk k59 k41 k60 k61 hops.1 hops.2.1 hops.2.2.1 hops.2.2.2.1 hops.2.2.2.2
          rw [if_neg e1, if_neg e2, if_pos e3]
theorem rdN_op {c : Nat} {q : List Nat × List Nat} (ht : t.2.2.1 = tkM k) (h59 : ¬ tkM k = nI 59) (h41 : ¬ tkM k = nI 41) (hs : sgF (tkM k) = nI c) (hc : c < 20) (hb : beF c st o = some q) : rdN t y st o K = K t.1 true (decide (c ≤ 12)) q := by
  unfold rdN
  rw [ht, if_neg h59, if_neg h41, hs, if_neg (nI_n1 (by omega)), show cl (nI c) = c from pk_cl (x := nI c) c rfl (by omega), hb]
theorem eC_num (v : Nat) : eC (100 + v) = nI v := by
  have h : 100 ≤ 100 + v := Nat.le_add_right 100 v
  have e : 100 + v - 100 = v := Nat.add_sub_cancel_left 100 v
  unfold eC
  rw [if_pos h, e]
/-- behind a number or a name -/
theorem lit_fin {x : Int32} {c : Nat} {R : zRR} (hW : wOkW wo) (hn : n ≤ 160) (h : cln wo tp n s a k) (hk : k ≠ 301) (hcd : s.2.2.2.2.2 = cm ou) (hl : sk.length + ou.length ≤ a) (hm : n - a < m + 1) (hx : x = eC (nmO c)) (hc : okN c) (hd : ∀ d, dO (nmO c) d = some (d + 1)) (hR : R = rdF wo tp n m (nxF wo tp n a).1 false y (uwF 7 sk (c :: ou))) : Res wo tp n 7 (fun _ _ => True) (nxS tp n (qEm x s)) a R sk ou := by
  obtain ⟨p1, p2⟩ := cln_pos h hk
  obtain ⟨k2, h2⟩ := nx_cln (wo := wo) (tp := tp) (n := n) (a := s.1) (s := qEm x s) hW p2 rfl h.2.2.2.2.2.2.2
  have hlen := uwF_len (r := 7) (sk := sk) (ou := c :: ou)
  refine Or.inr ⟨s.1, k2, m, y, (uwF 7 sk (c :: ou)).1, (uwF 7 sk (c :: ou)).2, [c], h2, p1, by omega, ?_, ?_, opsOk_1 hc hd, ?_, fun r2 hr => uwF_uw hr sk (c :: ou), trivial⟩
  · rw [hlen, List.length_cons]
    omega
  · rw [(nxS_ok (tp := tp) (n := n) (s := qEm x s) p2).2]
    show (if s.2.2.2.2.2.length < 160 then x :: s.2.2.2.2.2 else s.2.2.2.2.2) = _
    rw [hcd, cm_len, if_pos (by omega), hx]
    rfl
  · rw [hR, h.2.2.1]
theorem one_lit {deep : Option ((zS → zS) × (zS → zS))} (hW : wOkW wo) (hn : n ≤ 160) (h : cln wo tp n s a k) (hk : k = 302 ∨ (310 ≤ k ∧ k < 316)) (hcd : s.2.2.2.2.2 = cm ou) (hl : sk.length + ou.length ≤ a) (hm : n - a < m) : Res wo tp n 7 (fun _ _ => True) (qOn tp n deep s) a (rdF wo tp n m a true y (sk, ou)) sk ou := by
  obtain ⟨m2, rfl⟩ : ∃ m2, m = m2 + 1 := ⟨m - 1, by omega⟩
  have hR : rdF wo tp n (m2 + 1) a true y (sk, ou) = rdW (nxF wo tp n a) y sk ou (rdF wo tp n m2) := rfl
  have htok := h.2.2.2.2.2.1
  have hr := h.2.2.2.2.2.2.1
  rcases hk with rfl | ⟨h1, h2⟩
  · obtain ⟨v, hv, e1, e2⟩ := hr.1 rfl
    obtain ⟨i1, i2⟩ := okN_num hv
    have eq1 : qOn tp n deep s = nxS tp n (qEm s.2.2.2.1 s) := by unfold qOn; rw [if_pos h.2.2.2.1]
    rw [eq1]
    refine lit_fin (y := y) (c := 100000 + v) hW hn h (by omega) hcd hl hm ?_ i2 (fun d => ?_) ?_
    · rw [i1, e1, eC_num]
    · rw [i1, dO, if_pos (by omega)]
    · rw [hR, rdW, htok, if_pos (show tkM 302 = nI 1 by decide), e2, show cl (nI v) = v from pk_cl (x := nI v) v rfl (by omega)]
  · obtain ⟨i1, i2⟩ := okN_nam (v := k - 310) (by omega)
    have e1 := hr.2.1 h1 h2
    have key : ∀ k, k ∈ tkL → 310 ≤ k → k < 316 → ¬ nI k = nI 302 ∧ (decide (nI 310 ≤ nI k) && decide (nI k ≤ nI 315)) = true ∧ ¬ tkM k = nI 1 ∧ tkM k = nI 2 ∧ -1 - (nI k - nI 310) = eC (k - 310) := by decide
    obtain ⟨f1, f2, f3, f4, f5⟩ := key k h.2.1 h1 h2
    have eq1 : qOn tp n deep s = nxS tp n (qEm (-1 - (s.2.1 - nI 310)) s) := by
      unfold qOn
      rw [h.2.2.2.1, if_neg f1, if_pos f2]
    rw [eq1]
    refine lit_fin (y := y) (c := k - 310) hW hn h (by omega) hcd hl hm ?_ i2 (fun d => ?_) ?_
    · rw [i1, h.2.2.2.1, f5]
    · rw [i1, dO, if_neg (by omega), if_pos (by omega)]
    · rw [hR, rdW, htok, if_neg f3, if_pos f4, e1, show cl (nI (k - 310)) = k - 310 from pk_cl (x := nI (k - 310)) (k - 310) rfl (by omega)]
theorem tk_no : ∀ k, k ∈ tkL → ¬ k = 302 → ¬ (310 ≤ k ∧ k < 316) → ¬ nI k = nI 302 ∧ (decide (nI 310 ≤ nI k) && decide (nI k ≤ nI 315)) = false ∧ ¬ tkM k = nI 1 ∧ ¬ tkM k = nI 2 ∧ (tkM k = nI 6 → k = 321) ∧ (tkM k = nI 45 → k = 45) ∧ (tkM k = nI 40 → k = 40) := by decide
end
