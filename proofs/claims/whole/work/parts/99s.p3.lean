/-! ===== both readers say the same: the levels ===== -/
abbrev preO : Bool → Nat → Prop := fun y k => y = true → k ≠ 321
abbrev preD : Bool → Nat → Prop := fun y _ => y = true
abbrev foO : Nat → List Nat × List Nat → Prop := fun _ _ => True
abbrev foT : Nat → List Nat × List Nat → Prop := fun k _ => k ≠ 42
abbrev foS : Nat → List Nat × List Nat → Prop := fun k _ => k ≠ 42 ∧ k ≠ 43 ∧ k ≠ 45
abbrev foC : Nat → List Nat × List Nat → Prop := fun k q => (k ≠ 42 ∧ k ≠ 43 ∧ k ≠ 45) ∧ (k = 60 ∨ k = 61 → tp4 (uwF 5 q.1 q.2).1 = true)
abbrev foB2 : Nat → List Nat × List Nat → Prop := fun k q => foC k q ∧ k ≠ 320
abbrev foE : Nat → List Nat × List Nat → Prop := fun k q => foB2 k q ∧ k ≠ 319
section
variable {wo tp : fI} {n : Nat}
theorem Stk_one0 : Stk (qOn tp n none) := fun s ht hf => by
  have e : qOn tp n none s = qFl s := by
    rw [qOn, ht, if_neg (show ¬ nI 300 = nI 302 by decide), if_neg (show ¬ (decide (nI 310 ≤ nI 300) && decide (nI 300 ≤ nI 315)) = true by decide)]
  rw [e]
  exact Stk_fl s ht hf
theorem Stk_oneD {f g : zS → zS} : Stk (qOn tp n (some (f, g))) := fun s ht hf => by
  have e : qOn tp n (some (f, g)) s = qFl s := by
    rw [qOn, ht, if_neg (show ¬ nI 300 = nI 302 by decide), if_neg (show ¬ (decide (nI 310 ≤ nI 300) && decide (nI 300 ≤ nI 315)) = true by decide)]
    dsimp only
    rw [if_neg (show ¬ nI 300 = nI 45 by decide), if_neg (show ¬ nI 300 = nI 40 by decide)]
  rw [e]
  exact Stk_fl s ht hf
theorem qLp_no {c : zS → Bool} {g : zS → zS} {s : zS} (h : c s = false) : ∀ j, qLp c g j s = s
  | 0 => rfl
  | j + 1 => by rw [qLp, h, if_neg Bool.false_ne_true]
theorem Stk_loop {c : zS → Bool} {f g : zS → zS} (hf : Stk f) (hc : ∀ s : zS, s.2.1 = nI 300 → c s = false) (j : Nat) : Stk (fun s => qLp c g j (f s)) := fun s ht h0 => by
  have h1 := hf s ht h0
  show (qLp c g j (f s)).2.1 = _ ∧ (qLp c g j (f s)).2.2.2.2.1 = _
  rw [qLp_no (hc _ h1.1)]
  exact h1
theorem isT_300 {k : Nat} (hk : k ≠ 300) (hk2 : k < 1000) (s : zS) (h : s.2.1 = nI 300) : isT k s = false := by
  unfold isT
  rw [h]
  exact decide_eq_false (fun e => hk ((nI_eq (by omega) (by omega)).mp e).symm)
theorem isT_k {k j : Nat} (hk : k ∈ tkL) (hj : j < 1000) (s : zS) (h : s.2.1 = nI k) : isT j s = Nat.beq k j := by
  unfold isT
  rw [h, Bool.eq_iff_iff, decide_eq_true_eq, tk_eq hk hj]
  exact ⟨fun e => by rw [e]; exact Nat.beq_refl j, Nat.eq_of_beq_eq_true⟩
theorem Cl_one0 (hW : wOkW wo) (hn : n ≤ 160) : Cl wo tp n 7 0 8 preO foO (qOn tp n none) := by
  intro s a k m y sk ou hc hp ht hcd hd hl hm
  by_cases h1 : k = 302 ∨ (310 ≤ k ∧ k < 316)
  · exact one_lit hW hn hc h1 hcd hl hm
  · obtain ⟨e1, e2, e3, e4, e5, e6, e7⟩ := tk_no k hc.2.1 (fun e => h1 (Or.inl e)) (fun e => h1 (Or.inr e))
    have e : qOn tp n none s = qFl s := by
      rw [qOn, hc.2.2.2.1, if_neg e1, e2, if_neg Bool.false_ne_true]
    obtain ⟨f1, f2, f3⟩ := cln_fl hc
    obtain ⟨m2, rfl⟩ : ∃ m2, m = m2 + 1 := ⟨m - 1, by omega⟩
    rw [e]
    refine Or.inl ⟨_, f1, f2, f3, ?_⟩
    show rdW (nxF wo tp n a) y sk ou (rdF wo tp n m2) = _
    have htok := hc.2.2.2.2.2.1
    exact rdW_no (by rw [htok]; exact e3) (by rw [htok]; exact e4) (fun q hy => absurd (e5 (htok.symm.trans q)) (hp hy)) (fun _ => by omega) (fun _ => by omega)
theorem qEx_no {w : Nat} {s : zS} {k : Nat} (hk : k ∈ tkL) (h : s.2.1 = nI k) (hw : w < 1000) (hne : k ≠ w) : qEx tp n (nI w) s = qFl s := by
  rw [qEx, h, if_neg (fun e => hne ((tk_eq hk hw).mp e))]
theorem Stk_ex {w : Nat} (hw : w < 1000) (h3 : w ≠ 300) : Stk (qEx tp n (nI w)) := fun s ht hf => by
  rw [qEx_no (k := 300) (by decide) ht hw (fun e => h3 e.symm)]
  exact Stk_fl s ht hf
theorem Cl_oneD {d : Nat} {f g : zS → zS} (hW : wOkW wo) (hn : n ≤ 160) (hf : Cl wo tp n 7 d 8 preO foO f) (hg : Cl wo tp n 1 d 1 preD foE g) : Cl wo tp n 7 (d + 1) 8 preO foO (qOn tp n (some (f, g))) := by
  intro s a k m y sk ou hc hp ht hcd hd hl hm
  by_cases h1 : k = 302 ∨ (310 ≤ k ∧ k < 316)
  · exact one_lit hW hn hc h1 hcd hl hm
  · obtain ⟨e1, e2, e3, e4, e5, e6, e7⟩ := tk_no k hc.2.1 (fun e => h1 (Or.inl e)) (fun e => h1 (Or.inr e))
    have htok := hc.2.2.2.2.2.1
    obtain ⟨m2, rfl⟩ : ∃ m2, m = m2 + 1 := ⟨m - 1, by omega⟩
    have hR : rdF wo tp n (m2 + 1) a true y (sk, ou) = rdW (nxF wo tp n a) y sk ou (rdF wo tp n m2) := rfl
    by_cases k45 : k = 45
    · subst k45
      obtain ⟨p1, p2⟩ := cln_pos hc (by omega)
      have e : qOn tp n (some (f, g)) s = qEm (-11) (f (nxS tp n s)) := by
        rw [qOn, hc.2.2.2.1, if_neg e1, e2, if_neg Bool.false_ne_true]
        dsimp only
        rw [if_pos rfl]
      have eR : rdW (nxF wo tp n a) y sk ou (rdF wo tp n m2) = rdF wo tp n m2 s.1 true false (19 :: sk, ou) := by
        unfold rdW
        rw [htok, if_neg e3, if_neg e4, if_neg (fun q => by have := e5 q.1; omega), if_pos (show tkM 45 = nI 45 by decide), if_neg (by omega), hc.2.2.1]
      obtain ⟨k3, h3⟩ := nx_cln (wo := wo) (tp := tp) (n := n) (a := s.1) (s := s) hW p2 rfl hc.2.2.2.2.2.2.2
      rw [e, hR, eR]
      rcases hf (nxS tp n s) s.1 k3 m2 false (19 :: sk) ou h3 (fun q => by cases q) (show rkF 19 < 8 by decide) ((nxS_ok p2).2.trans hcd) (by rw [opC, if_pos (by omega)]; omega) (by rw [List.length_cons]; omega) (by omega) with ⟨b, b1, b2, b3, b4⟩ | ⟨a2, k2, m3, y2, st, o, N, c1, c2, c3, c4, c5, c6, c7, c8, c9⟩
      · exact Or.inl ⟨b, b1, b2, b3, b4⟩
      · have hlen := uwF_len (r := 0) (sk := st) (ou := o)
        have hlen2 := uwF_len (r := 0) (sk := 19 :: sk) (ou := N ++ ou)
        rw [c8 0 (by omega)] at hlen
        rw [List.length_cons] at hlen2
        have hA := c1.1
        refine Or.inr ⟨a2, k2, m3, y2, st, o, 19 :: N, c1, by omega, c3, c4, ?_, opsOk_u okN_19 dO_19 c6, c7, fun r2 hr => ?_, trivial⟩
        · show (if (f (nxS tp n s)).2.2.2.2.2.length < 160 then (-11) :: (f (nxS tp n s)).2.2.2.2.2 else (f (nxS tp n s)).2.2.2.2.2) = _
          rw [c5, cm_len, if_pos (by omega)]
          rfl
        · rw [c8 r2 hr, uwF_push _ _ (show r2 ≤ rkF 19 by show r2 ≤ 7; exact hr)]
          rfl
    · by_cases k40 : k = 40
      · subst k40
        obtain ⟨p1, p2⟩ := cln_pos hc (by omega)
        have e : qOn tp n (some (f, g)) s = qEx tp n (nI 41) (g (nxS tp n s)) := by
          rw [qOn, hc.2.2.2.1, if_neg e1, e2, if_neg Bool.false_ne_true]
          dsimp only
          rw [if_neg (show ¬ nI 40 = nI 45 by decide), if_pos rfl]
        have eR : rdW (nxF wo tp n a) y sk ou (rdF wo tp n m2) = rdF wo tp n m2 s.1 true true (0 :: sk, ou) := by
          unfold rdW
          rw [htok, if_neg e3, if_neg e4, if_neg (fun q => by have := e5 q.1; omega), if_neg (show ¬ tkM 40 = nI 45 by decide), if_pos (show tkM 40 = nI 40 by decide), if_neg (by omega), hc.2.2.1]
        obtain ⟨k3, h3⟩ := nx_cln (wo := wo) (tp := tp) (n := n) (a := s.1) (s := s) hW p2 rfl hc.2.2.2.2.2.2.2
        rw [e, hR, eR]
        rcases hg (nxS tp n s) s.1 k3 m2 true (0 :: sk) ou h3 rfl (show rkF 0 < 1 by decide) ((nxS_ok p2).2.trans hcd) (by rw [opC, if_pos (by omega)]; omega) (by rw [List.length_cons]; omega) (by omega) with ⟨b, b1, b2, b3, b4⟩ | ⟨a2, k2, m3, y2, st, o, N, c1, c2, c3, c4, c5, c6, c7, c8, c9⟩
        · obtain ⟨q1, q2⟩ := Stk_ex (tp := tp) (n := n) (w := 41) (by omega) (by omega) _ b1 (by rw [b2]; exact nI_n1 (by omega))
          exact Or.inl ⟨b, q1, q2.trans b2, b3, b4⟩
        · have hu1 : uwF 1 st o = (0 :: sk, N ++ ou) := by
            rw [c8 1 (by omega)]
            exact uwF_top _ (show rkF 0 < 1 by decide)
          obtain ⟨m4, rfl⟩ : ∃ m4, m3 = m4 + 1 := ⟨m3 - 1, by omega⟩
          have hR2 : rdF wo tp n (m4 + 1) a2 false y2 (st, o) = rdN (nxF wo tp n a2) y2 st o (rdF wo tp n m4) := rfl
          by_cases k41 : k2 = 41
          · subst k41
            obtain ⟨p3, p4⟩ := cln_pos c1 (by omega)
            have e9 : qEx tp n (nI 41) (g (nxS tp n s)) = nxS tp n (g (nxS tp n s)) := by rw [qEx, if_pos c1.2.2.2.1]
            obtain ⟨k5, h5⟩ := nx_cln (wo := wo) (tp := tp) (n := n) (a := (g (nxS tp n s)).1) (s := g (nxS tp n s)) hW p4 rfl c1.2.2.2.2.2.2.2
            have eN : rdN (nxF wo tp n a2) y2 st o (rdF wo tp n m4) = rdF wo tp n m4 (g (nxS tp n s)).1 false y2 (uwF 7 sk (N ++ ou)) := by
              unfold rdN
              rw [c1.2.2.2.2.2.1, if_neg (show ¬ tkM 41 = nI 59 by decide), if_pos (show tkM 41 = nI 41 by decide), hu1, c1.2.2.1]
            have hlen := uwF_len (r := 1) (sk := st) (ou := o)
            have hlen7 := uwF_len (r := 7) (sk := sk) (ou := N ++ ou)
            rw [hu1] at hlen
            simp only [List.length_cons] at hlen
            rw [e9]
            refine Or.inr ⟨_, k5, m4, y2, _, _, N, h5, by omega, by omega, ?_, (nxS_ok p4).2.trans c5, c6, ?_, fun r2 hr => uwF_uw hr sk (N ++ ou), trivial⟩
            · rw [hlen7]
              omega
            · rw [c7, hR2, eN]
          · have e9 := qEx_no (tp := tp) (n := n) (w := 41) (s := g (nxS tp n s)) c1.2.1 c1.2.2.2.1 (by omega) k41
            obtain ⟨f1, f2, f3⟩ := cln_fl c1
            rw [e9]
            refine Or.inl ⟨_, f1, f2, f3, ?_⟩
            rw [c7, hR2]
            exact rdN_stop c1.2.1 c1.2.2.2.2.2.1 (fun _ => ⟨0, sk, by rw [hu1]⟩) (fun q => absurd q k41) ⟨c9.1.1.1.1, c9.1.1.1.2.1, c9.1.1.1.2.2, c9.2, c9.1.2⟩ c9.1.1.2
      · have e : qOn tp n (some (f, g)) s = qFl s := by
          rw [qOn, hc.2.2.2.1, if_neg e1, e2, if_neg Bool.false_ne_true]
          dsimp only
          rw [if_neg (fun q => k45 ((tk_eq hc.2.1 (by omega)).mp q)), if_neg (fun q => k40 ((tk_eq hc.2.1 (by omega)).mp q))]
        obtain ⟨f1, f2, f3⟩ := cln_fl hc
        rw [e, hR]
        refine Or.inl ⟨_, f1, f2, f3, ?_⟩
        exact rdW_no (by rw [htok]; exact e3) (by rw [htok]; exact e4) (fun q hy => absurd (e5 (htok.symm.trans q)) (hp hy)) (fun q => absurd (e6 (htok.symm.trans q)) k45) (fun q => absurd (e7 (htok.symm.trans q)) k40)
theorem opC_bin {c : Nat} {sk : List Nat} (h : isBin c = true) : opC (c :: sk) = opC sk := by
  rw [opC, if_neg (by rcases isBin_cases h with rfl | rfl | rfl | rfl | rfl | rfl | rfl <;> omega)]
  rfl
theorem bin_lt {c : Nat} (h : isBin c = true) : c < 20 := by
  rcases isBin_cases h with rfl | rfl | rfl | rfl | rfl | rfl | rfl <;> omega
theorem Cl_loop {R rf rtf d : Nat} {pre : Bool → Nat → Prop} {fof fo : Nat → List Nat × List Nat → Prop} {f : zS → zS} {test : Nat → Bool} {opc : Nat → Nat} {em : zS → Int32} {tS : zS → Bool} (hW : wOkW wo) (hn : n ≤ 160) (hf : Cl wo tp n rf d rtf pre fof f) (hRf : R ≤ rf) (hRt : R < rtf) (hR4 : Nat.beq R 4 = false) (hts : ∀ (s : zS) (k : Nat), k ∈ tkL → s.2.1 = nI k → tS s = test k) (hop : ∀ k, k ∈ tkL → test k = true → rkF (opc k) = R ∧ isBin (opc k) = true ∧ sgF (tkM k) = nI (opc k) ∧ ¬ tkM k = nI 59 ∧ ¬ tkM k = nI 41 ∧ k ≠ 301) (hem : ∀ (s : zS) (k : Nat), k ∈ tkL → s.2.1 = nI k → test k = true → em s = eC (opc k)) (h300 : test 300 = false) (hpre : ∀ k k2, k ∈ tkL → test k = true → pre (decide (opc k ≤ 12)) k2) (hfo : ∀ k q, fof k q → test k = false → fo k q) : Cl wo tp n R d R pre fo (fun s => qLp tS (fun s => qEm (em s) (f (nxS tp n s))) 160 (f s)) := by
  intro s a k m y sk ou hc hp ht hcd hd hl hm
  have htS : ∀ s : zS, s.2.1 = nI 300 → tS s = false := fun s h => (hts s 300 (by decide) h).trans h300
  generalize hR0 : rdF wo tp n m a true y (sk, ou) = R0
  have loop : ∀ (j : Nat) (s1 : zS) (a2 k2 m2 : Nat) (y2 : Bool) (st o N : List Nat), cln wo tp n s1 a2 k2 → a < a2 → n - a2 < m2 → st.length + o.length ≤ a2 → s1.2.2.2.2.2 = cm (N ++ ou) → opsOk N → R0 = rdF wo tp n m2 a2 false y2 (st, o) → (∀ r2, r2 ≤ R → uwF r2 st o = uwF r2 sk (N ++ ou)) → fof k2 (st, o) → n - a2 < j → Res wo tp n R fo (qLp tS (fun s => qEm (em s) (f (nxS tp n s))) j s1) a R0 sk ou := by
    intro j
    induction j with
    | zero => intro s1 a2 k2 m2 y2 st o N c1 c2 c3 c4 c5 c6 c7 c8 c9 hj; exact absurd hj (Nat.not_lt_zero _)
    | succ j ih =>
      intro s1 a2 k2 m2 y2 st o N c1 c2 c3 c4 c5 c6 c7 c8 c9 hj
      have hk2 := hts s1 k2 c1.2.1 c1.2.2.2.1
      cases htk : test k2 with
      | false =>
        rw [qLp_no (hk2.trans htk)]
        exact Or.inr ⟨a2, k2, m2, y2, st, o, N, c1, c2, c3, c4, c5, c6, c7, c8, hfo _ _ c9 htk⟩
      | true =>
        rw [qLp, hk2.trans htk, if_pos rfl]
        obtain ⟨o1, o2, o3, o4, o5, o6⟩ := hop k2 c1.2.1 htk
        obtain ⟨p1, p2⟩ := cln_pos c1 o6
        obtain ⟨m3, rfl⟩ : ∃ m3, m2 = m3 + 1 := ⟨m2 - 1, by omega⟩
        have hu : uwF R st o = (sk, N ++ ou) := by
          rw [c8 R (Nat.le_refl _)]
          exact uwF_top _ ht
        have hlen := uwF_len (r := R) (sk := st) (ou := o)
        rw [hu] at hlen
        have hlen : sk.length + (N ++ ou).length = st.length + o.length := hlen
        have eN : R0 = rdF wo tp n m3 s1.1 true (decide (opc k2 ≤ 12)) (opc k2 :: sk, N ++ ou) := by
          rw [c7]
          show rdN (nxF wo tp n a2) y2 st o (rdF wo tp n m3) = _
          rw [rdN_op c1.2.2.2.2.2.1 o4 o5 o3 (bin_lt o2) (beF_op st o o1 hR4), hu, c1.2.2.1]
        obtain ⟨k3, h3⟩ := nx_cln (wo := wo) (tp := tp) (n := n) (a := s1.1) (s := s1) hW p2 rfl c1.2.2.2.2.2.2.2
        rcases hf (nxS tp n s1) s1.1 k3 m3 _ (opc k2 :: sk) (N ++ ou) h3 (hpre k2 k3 c1.2.1 htk) (show rkF (opc k2) < rtf by omega) ((nxS_ok p2).2.trans c5) (by rw [opC_bin o2]; exact hd) (by rw [List.length_cons]; omega) (by omega) with ⟨b, b1, b2, b3, b4⟩ | ⟨a4, k4, m4, y4, st4, o4', N4, d1, d2, d3, d4, d5, d6, d7, d8, d9⟩
        · rw [qLp_no (htS (qEm (em s1) (f (nxS tp n s1))) b1)]
          exact Or.inl ⟨b, b1, b2, b3, eN.trans b4⟩
        · have hl1 := uwF_len (r := 0) (sk := st4) (ou := o4')
          have hl2 := uwF_len (r := 0) (sk := opc k2 :: sk) (ou := N4 ++ (N ++ ou))
          rw [d8 0 (by omega)] at hl1
          rw [List.length_cons] at hl2
          have hA := d1.1
          have eC2 : opc k2 :: (N4 ++ N) ++ ou = opc k2 :: (N4 ++ (N ++ ou)) := by rw [List.cons_append, List.append_assoc]
          refine ih (qEm (em s1) (f (nxS tp n s1))) a4 k4 m4 y4 st4 o4' (opc k2 :: (N4 ++ N)) d1 (by omega) d3 d4 ?_ (opsOk_b (okN_bin o2).2 (fun d => by rw [(okN_bin o2).1]; exact dO_bin o2 d) c6 d6) (eN.trans d7) (fun r2 hr => ?_) d9 (by omega)
          · show (if (f (nxS tp n s1)).2.2.2.2.2.length < 160 then em s1 :: (f (nxS tp n s1)).2.2.2.2.2 else (f (nxS tp n s1)).2.2.2.2.2) = _
            rw [d5, cm_len, if_pos (by omega), hem s1 k2 c1.2.1 c1.2.2.2.1 htk, eC2]
            show _ = eC (nmO (opc k2)) :: cm (N4 ++ (N ++ ou))
            rw [(okN_bin o2).1]
          · rw [d8 r2 (by omega), uwF_push _ _ (by omega), eC2]
  rcases hf s a k m y sk ou hc hp (topLt_mono (Nat.le_of_lt hRt) ht) hcd hd hl hm with ⟨b, b1, b2, b3, b4⟩ | ⟨a2, k2, m2, y2, st, o, N, c1, c2, c3, c4, c5, c6, c7, c8, c9⟩
  · show Res wo tp n R fo (qLp tS _ 160 (f s)) a R0 sk ou
    rw [qLp_no (htS _ b1)]
    exact Or.inl ⟨b, b1, b2, b3, hR0.symm.trans b4⟩
  · exact loop 160 (f s) a2 k2 m2 y2 st o N c1 c2 c3 c4 c5 c6 (hR0.symm.trans c7) (fun r2 hr => c8 r2 (by omega)) c9 (by omega)
theorem Cl_term {d : Nat} {f : zS → zS} (hW : wOkW wo) (hn : n ≤ 160) (hf : Cl wo tp n 7 d 8 preO foO f) : Cl wo tp n 6 d 6 preO foT (qTm tp n f) :=
  Cl_loop (R := 6) (test := fun k => Nat.beq k 42) (opc := fun _ => 18) (em := fun _ => -21) (tS := isT 42) hW hn hf (by omega) (by omega) rfl (fun s k hk h => isT_k hk (by omega) s h) (by decide) (fun _ _ _ _ _ => rfl) rfl (fun _ _ _ _ h => by cases h) (fun k q _ h e => by rw [e] at h; cases h)
theorem Cl_sum {d : Nat} {f : zS → zS} (hW : wOkW wo) (hn : n ≤ 160) (hf : Cl wo tp n 6 d 6 preO foT f) : Cl wo tp n 5 d 5 preO foS (qSm tp n f) :=
  Cl_loop (R := 5) (test := fun k => Nat.beq k 43 || Nat.beq k 45) (opc := fun k => if k = 43 then 16 else 17) (em := fun s => if s.2.1 = nI 43 then -22 else -23) (tS := fun s => isT 43 s || isT 45 s) hW hn hf (by omega) (by omega) rfl (fun s k hk h => by show (isT 43 s || isT 45 s) = _; rw [isT_k hk (by omega) s h, isT_k hk (by omega) s h]) (by decide) (fun s k hk h _ => by
    show (if s.2.1 = nI 43 then (-22 : Int32) else -23) = _
    rw [h]
    by_cases e : k = 43
    · subst e; rfl
    · rw [if_neg (fun q => e ((tk_eq hk (by omega)).mp q)), if_neg e]; rfl) rfl (fun k _ _ _ h => by
    exfalso
    by_cases e : k = 43
    · rw [if_pos e] at h; cases h
    · rw [if_neg e] at h; cases h) (fun k q h1 h => by
    rw [Bool.or_eq_false_iff] at h
    exact ⟨h1, fun e => (by rw [e] at h; cases h.1), fun e => (by rw [e] at h; cases h.2)⟩)
theorem Cl_both {d : Nat} {f : zS → zS} (hW : wOkW wo) (hn : n ≤ 160) (hf : Cl wo tp n 3 d 4 preD foC f) : Cl wo tp n 2 d 2 preD foB2 (qBt tp n f) :=
  Cl_loop (R := 2) (test := fun k => Nat.beq k 320) (opc := fun _ => 12) (em := fun _ => -26) (tS := isT 320) hW hn hf (by omega) (by omega) rfl (fun s k hk h => isT_k hk (by omega) s h) (by decide) (fun _ _ _ _ _ => rfl) rfl (fun _ _ _ _ => rfl) (fun k q h1 h => ⟨h1, fun e => (by rw [e] at h; cases h)⟩)
theorem Cl_either {d : Nat} {f : zS → zS} (hW : wOkW wo) (hn : n ≤ 160) (hf : Cl wo tp n 2 d 2 preD foB2 f) : Cl wo tp n 1 d 1 preD foE (qEt tp n f) :=
  Cl_loop (R := 1) (test := fun k => Nat.beq k 319) (opc := fun _ => 11) (em := fun _ => -27) (tS := isT 319) hW hn hf (by omega) (by omega) rfl (fun s k hk h => isT_k hk (by omega) s h) (by decide) (fun _ _ _ _ _ => rfl) rfl (fun _ _ _ _ => rfl) (fun k q h1 h => ⟨h1, fun e => (by rw [e] at h; cases h)⟩)
theorem Cl_comp {d : Nat} {f : zS → zS} (hW : wOkW wo) (hn : n ≤ 160) (hf : Cl wo tp n 5 d 5 preO foS f) : Cl wo tp n 4 d 4 preO foC (qCm tp n f) := by
  intro s a k m y sk ou hc hp ht hcd hd hl hm
  rcases hf s a k m y sk ou hc hp (topLt_mono (by omega) ht) hcd hd hl hm with ⟨b, b1, b2, b3, b4⟩ | ⟨a2, k2, m2, y2, st, o, N, c1, c2, c3, c4, c5, c6, c7, c8, c9⟩
  · have e : qCm tp n f s = f s := by rw [qCm, isT_300 (k := 60) (by omega) (by omega) _ b1, isT_300 (k := 61) (by omega) (by omega) _ b1, Bool.or_self, if_neg Bool.false_ne_true]
    rw [e]
    exact Or.inl ⟨b, b1, b2, b3, b4⟩
  · by_cases hk2 : k2 = 60 ∨ k2 = 61
    · obtain ⟨op, hop, hrk, hb, hsg, h59, h41, hne⟩ : ∃ op, op = (if k2 = 60 then 14 else 15) ∧ rkF op = 4 ∧ isBin op = true ∧ sgF (tkM k2) = nI op ∧ ¬ tkM k2 = nI 59 ∧ ¬ tkM k2 = nI 41 ∧ k2 ≠ 301 := by
        rcases hk2 with rfl | rfl
        · exact ⟨14, rfl, rfl, rfl, by decide, by decide, by decide, by decide⟩
        · exact ⟨15, rfl, rfl, rfl, by decide, by decide, by decide, by decide⟩
      have e : qCm tp n f s = qEm (eC op) (f (nxS tp n (f s))) := by
        rw [qCm, isT_k c1.2.1 (by omega) _ c1.2.2.2.1, isT_k c1.2.1 (by omega) _ c1.2.2.2.1, c1.2.2.2.1, hop]
        rcases hk2 with rfl | rfl <;> rfl
      obtain ⟨p1, p2⟩ := cln_pos c1 hne
      obtain ⟨m3, rfl⟩ : ∃ m3, m2 = m3 + 1 := ⟨m2 - 1, by omega⟩
      have hu : uwF 5 st o = (sk, N ++ ou) := by
        rw [c8 5 (Nat.le_refl _)]
        exact uwF_top _ (topLt_mono (by omega) ht)
      have hlen := uwF_len (r := 5) (sk := st) (ou := o)
      rw [hu] at hlen
      have hlen : sk.length + (N ++ ou).length = st.length + o.length := hlen
      have eN : rdF wo tp n m a true y (sk, ou) = rdF wo tp n m3 (f s).1 true (decide (op ≤ 12)) (op :: sk, N ++ ou) := by
        rw [c7]
        show rdN (nxF wo tp n a2) y2 st o (rdF wo tp n m3) = _
        rw [rdN_op c1.2.2.2.2.2.1 h59 h41 hsg (bin_lt hb) (beF_c1 hrk (by rw [hu]; exact tp4_lt ht)), hu, c1.2.2.1]
      have hy : decide (op ≤ 12) = false := by
        rw [hop]
        rcases hk2 with rfl | rfl <;> rfl
      obtain ⟨k3, h3⟩ := nx_cln (wo := wo) (tp := tp) (n := n) (a := (f s).1) (s := f s) hW p2 rfl c1.2.2.2.2.2.2.2
      rw [e, eN]
      rcases hf (nxS tp n (f s)) (f s).1 k3 m3 (decide (op ≤ 12)) (op :: sk) (N ++ ou) h3 (fun q => by rw [hy] at q; cases q) (show rkF op < 5 by omega) ((nxS_ok p2).2.trans c5) (by rw [opC_bin hb]; exact hd) (by rw [List.length_cons]; omega) (by omega) with ⟨b, b1, b2, b3, b4⟩ | ⟨a4, k4, m4, y4, st4, o4, N4, d1, d2, d3, d4, d5, d6, d7, d8, d9⟩
      · exact Or.inl ⟨b, b1, b2, b3, b4⟩
      · have hl1 := uwF_len (r := 0) (sk := st4) (ou := o4)
        have hl2 := uwF_len (r := 0) (sk := op :: sk) (ou := N4 ++ (N ++ ou))
        rw [d8 0 (by omega)] at hl1
        rw [List.length_cons] at hl2
        have hA := d1.1
        have eC2 : op :: (N4 ++ N) ++ ou = op :: (N4 ++ (N ++ ou)) := by rw [List.cons_append, List.append_assoc]
        refine Or.inr ⟨a4, k4, m4, y4, st4, o4, op :: (N4 ++ N), d1, by omega, d3, d4, ?_, opsOk_b (okN_bin hb).2 (fun d => by rw [(okN_bin hb).1]; exact dO_bin hb d) c6 d6, d7, fun r2 hr => ?_, ⟨d9, fun _ => ?_⟩⟩
        · show (if (f (nxS tp n (f s))).2.2.2.2.2.length < 160 then eC op :: (f (nxS tp n (f s))).2.2.2.2.2 else (f (nxS tp n (f s))).2.2.2.2.2) = _
          rw [d5, cm_len, if_pos (by omega), eC2]
          show _ = eC (nmO op) :: cm (N4 ++ (N ++ ou))
          rw [(okN_bin hb).1]
        · rw [d8 r2 (by omega), uwF_push _ _ (by omega), eC2]
        · show tp4 (uwF 5 st4 o4).1 = true
          rw [d8 5 (Nat.le_refl _), uwF_top (r := 5) (sk := op :: sk) _ (show rkF op < 5 by omega)]
          show Nat.beq (rkF op) 4 = true
          rw [hrk]
          rfl
    · have e : qCm tp n f s = f s := by
        rw [qCm, isT_k c1.2.1 (by omega) _ c1.2.2.2.1, isT_k c1.2.1 (by omega) _ c1.2.2.2.1]
        rw [if_neg]
        intro q
        rw [Bool.or_eq_true] at q
        exact hk2 (q.imp Nat.eq_of_beq_eq_true Nat.eq_of_beq_eq_true)
      rw [e]
      exact Or.inr ⟨a2, k2, m2, y2, st, o, N, c1, c2, c3, c4, c5, c6, c7, fun r2 hr => c8 r2 (by omega), ⟨c9, fun q => absurd q hk2⟩⟩
theorem Cl_den0 {f : zS → zS} (hf : Cl wo tp n 4 0 4 preO foC f) : Cl wo tp n 3 0 4 preD foC (qDn tp n none f) := by
  intro s a k m y sk ou hc hp ht hcd hd hl hm
  by_cases hk : k = 321
  · subst hk
    have e : qDn tp n none f s = qFl s := by rw [qDn, if_pos hc.2.2.2.1]
    obtain ⟨m2, rfl⟩ : ∃ m2, m = m2 + 1 := ⟨m - 1, by omega⟩
    obtain ⟨f1, f2, f3⟩ := cln_fl hc
    rw [e]
    refine Or.inl ⟨_, f1, f2, f3, ?_⟩
    show rdW (nxF wo tp n a) y sk ou (rdF wo tp n m2) = _
    have htok := hc.2.2.2.2.2.1
    exact rdW_no (by rw [htok]; decide) (by rw [htok]; decide) (fun _ _ => by omega) (fun _ => by omega) (fun _ => by omega)
  · have e : qDn tp n none f s = f s := by rw [qDn, hc.2.2.2.1, if_neg (fun q => hk ((tk_eq hc.2.1 (by omega)).mp q))]
    rw [e]
    rcases hf s a k m y sk ou hc (fun _ => hk) ht hcd hd hl hm with h | ⟨a2, k2, m2, y2, st, o, N, c1, c2, c3, c4, c5, c6, c7, c8, c9⟩
    · exact Or.inl h
    · exact Or.inr ⟨a2, k2, m2, y2, st, o, N, c1, c2, c3, c4, c5, c6, c7, fun r2 hr => c8 r2 (by omega), c9⟩
theorem Cl_denD {d : Nat} {f g : zS → zS} (hW : wOkW wo) (hn : n ≤ 160) (hf : Cl wo tp n 4 (d + 1) 4 preO foC f) (hg : Cl wo tp n 3 d 4 preD foC g) : Cl wo tp n 3 (d + 1) 4 preD foC (qDn tp n (some g) f) := by
  intro s a k m y sk ou hc hp ht hcd hd hl hm
  by_cases hk : k = 321
  · subst hk
    have hp : y = true := hp
    subst hp
    have e : qDn tp n (some g) f s = qEm (-12) (g (nxS tp n s)) := by rw [qDn, if_pos hc.2.2.2.1]
    obtain ⟨m2, rfl⟩ : ∃ m2, m = m2 + 1 := ⟨m - 1, by omega⟩
    obtain ⟨p1, p2⟩ := cln_pos hc (by omega)
    have eR : rdF wo tp n (m2 + 1) a true true (sk, ou) = rdF wo tp n m2 s.1 true true (13 :: sk, ou) := by
      show rdW (nxF wo tp n a) true sk ou (rdF wo tp n m2) = _
      unfold rdW
      rw [hc.2.2.2.2.2.1, if_neg (show ¬ tkM 321 = nI 1 by decide), if_neg (show ¬ tkM 321 = nI 2 by decide), if_pos ⟨show tkM 321 = nI 6 by decide, rfl⟩, if_neg (by omega), hc.2.2.1]
    obtain ⟨k3, h3⟩ := nx_cln (wo := wo) (tp := tp) (n := n) (a := s.1) (s := s) hW p2 rfl hc.2.2.2.2.2.2.2
    rw [e, eR]
    rcases hg (nxS tp n s) s.1 k3 m2 true (13 :: sk) ou h3 rfl (show rkF 13 < 4 by decide) ((nxS_ok p2).2.trans hcd) (by rw [opC, if_pos (by omega)]; omega) (by rw [List.length_cons]; omega) (by omega) with ⟨b, b1, b2, b3, b4⟩ | ⟨a2, k2, m3, y2, st, o, N, c1, c2, c3, c4, c5, c6, c7, c8, c9⟩
    · exact Or.inl ⟨b, b1, b2, b3, b4⟩
    · have hlen := uwF_len (r := 0) (sk := st) (ou := o)
      have hlen2 := uwF_len (r := 0) (sk := 13 :: sk) (ou := N ++ ou)
      rw [c8 0 (by omega)] at hlen
      rw [List.length_cons] at hlen2
      have hA := c1.1
      refine Or.inr ⟨a2, k2, m3, y2, st, o, 13 :: N, c1, by omega, c3, c4, ?_, opsOk_u okN_13 dO_13 c6, c7, fun r2 hr => ?_, c9⟩
      · show (if (g (nxS tp n s)).2.2.2.2.2.length < 160 then (-12) :: (g (nxS tp n s)).2.2.2.2.2 else (g (nxS tp n s)).2.2.2.2.2) = _
        rw [c5, cm_len, if_pos (by omega)]
        rfl
      · rw [c8 r2 hr, uwF_push _ _ (show r2 ≤ rkF 13 by show r2 ≤ 3; exact hr)]
        rfl
  · have e : qDn tp n (some g) f s = f s := by rw [qDn, hc.2.2.2.1, if_neg (fun q => hk ((tk_eq hc.2.1 (by omega)).mp q))]
    rw [e]
    rcases hf s a k m y sk ou hc (fun _ => hk) ht hcd hd hl hm with h | ⟨a2, k2, m2, y2, st, o, N, c1, c2, c3, c4, c5, c6, c7, c8, c9⟩
    · exact Or.inl h
    · exact Or.inr ⟨a2, k2, m2, y2, st, o, N, c1, c2, c3, c4, c5, c6, c7, fun r2 hr => c8 r2 (by omega), c9⟩
theorem Cl_lv (hW : wOkW wo) (hn : n ≤ 160) : ∀ d, Cl wo tp n 7 d 8 preO foO (qLv tp n d).1 ∧ Cl wo tp n 3 d 4 preD foC (qLv tp n d).2.1 ∧ Cl wo tp n 1 d 1 preD foE (qLv tp n d).2.2
  | 0 => by
    have h1 := Cl_one0 (wo := wo) (tp := tp) (n := n) hW hn
    have h2 := Cl_den0 (Cl_comp hW hn (Cl_sum hW hn (Cl_term hW hn h1)))
    exact ⟨h1, h2, Cl_either hW hn (Cl_both hW hn h2)⟩
  | d + 1 => by
    obtain ⟨i1, i2, i3⟩ := Cl_lv hW hn d
    have h1 := Cl_oneD hW hn i1 i3
    have h2 := Cl_denD hW hn (Cl_comp hW hn (Cl_sum hW hn (Cl_term hW hn h1))) i2
    exact ⟨h1, h2, Cl_either hW hn (Cl_both hW hn h2)⟩
theorem Stk_den0 {f : zS → zS} (hf : Stk f) : Stk (qDn tp n none f) := fun s ht h0 => by
  have e : qDn tp n none f s = f s := by rw [qDn, ht, if_neg (show ¬ nI 300 = nI 321 by decide)]
  rw [e]
  exact hf s ht h0
theorem Stk_denD {f g : zS → zS} (hf : Stk f) : Stk (qDn tp n (some g) f) := fun s ht h0 => by
  have e : qDn tp n (some g) f s = f s := by rw [qDn, ht, if_neg (show ¬ nI 300 = nI 321 by decide)]
  rw [e]
  exact hf s ht h0
theorem Stk_comp {f : zS → zS} (hf : Stk f) : Stk (qCm tp n f) := fun s ht h0 => by
  have h1 := hf s ht h0
  have e : qCm tp n f s = f s := by rw [qCm, isT_300 (k := 60) (by omega) (by omega) _ h1.1, isT_300 (k := 61) (by omega) (by omega) _ h1.1, Bool.or_self, if_neg Bool.false_ne_true]
  rw [e]
  exact h1
theorem Stk_term {f : zS → zS} (hf : Stk f) : Stk (qTm tp n f) := Stk_loop hf (fun s h => isT_300 (by omega) (by omega) s h) 160
theorem Stk_sum {f : zS → zS} (hf : Stk f) : Stk (qSm tp n f) := Stk_loop hf (fun s h => by
  show (isT 43 s || isT 45 s) = false
  rw [isT_300 (by omega) (by omega) s h, isT_300 (by omega) (by omega) s h]
  rfl) 160
theorem Stk_both {f : zS → zS} (hf : Stk f) : Stk (qBt tp n f) := Stk_loop hf (fun s h => isT_300 (by omega) (by omega) s h) 160
theorem Stk_either {f : zS → zS} (hf : Stk f) : Stk (qEt tp n f) := Stk_loop hf (fun s h => isT_300 (by omega) (by omega) s h) 160
theorem Stk_lv : ∀ d, Stk (qLv tp n d).2.2
  | 0 => Stk_either (Stk_both (Stk_den0 (Stk_comp (Stk_sum (Stk_term Stk_one0)))))
  | _ + 1 => Stk_either (Stk_both (Stk_denD (Stk_comp (Stk_sum (Stk_term Stk_oneD)))))
end
