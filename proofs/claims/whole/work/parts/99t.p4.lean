/-! ===== both readers say the same: a text ===== -/
section
variable {wo tp : fI} {n : Nat}
theorem Stk_pa {k : Nat} (hk : k < 3) : Stk (qPa tp n k) := fun s ht hf => by
  obtain ⟨a1, a2⟩ := Stk_ex (tp := tp) (n := n) (w := 316 + k) (by omega) (by omega) s ht hf
  obtain ⟨b1, b2⟩ := Stk_lv (tp := tp) (n := n) 5 _ a1 (by rw [a2]; exact hf)
  obtain ⟨c1, c2⟩ := Stk_ex (tp := tp) (n := n) (w := 59) (by omega) (by omega) _ b1 (by rw [b2, a2]; exact hf)
  unfold qPa
  exact ⟨c1, c2.trans (b2.trans a2)⟩
theorem pa_ok {k a kk : Nat} {s : zS} {ou : List Nat} (hW : wOkW wo) (hn : n ≤ 160) (hk : k < 3) (hc : cln wo tp n s a kk) (hcd : s.2.2.2.2.2 = cm ou) (hl : ou.length ≤ a) : (∃ b, (qPa tp n k s).2.1 = nI 300 ∧ (qPa tp n k s).2.2.2.2.1 = nI b ∧ b ≤ n ∧ txV wo tp n k a ou = .inl b) ∨ ∃ (a2 k2 : Nat) (N : List Nat), cln wo tp n (qPa tp n k s) a2 k2 ∧ (qPa tp n k s).2.2.2.2.2 = cm (N ++ ou) ∧ (N ++ ou).length ≤ a2 ∧ opsOk N ∧ txV wo tp n k a ou = .inr (a2, N ++ ou) := by
  by_cases hkk : kk = 316 + k
  · subst hkk
    obtain ⟨p1, p2⟩ := cln_pos hc (by omega)
    have e1 : qEx tp n (nI (316 + k)) s = nxS tp n s := by rw [qEx, if_pos hc.2.2.2.1]
    have ev := hc.2.2.2.2.2.2.1.2.2 (by omega) (by omega)
    have e3 : tkM (316 + k) = nI 3 := by
      have key : ∀ k, k < 3 → tkM (316 + k) = nI 3 := by decide
      exact key k hk
    have eV : txV wo tp n k a ou = rdF wo tp n (n - s.1 + 1) s.1 true true ([], ou) := by
      unfold txV
      rw [hc.2.2.2.2.2.1, ev, if_pos ⟨e3, show nI (316 + k - 316) = nI k by rw [Nat.add_sub_cancel_left]⟩, ← hc.2.2.1]
    obtain ⟨k3, h3⟩ := nx_cln (wo := wo) (tp := tp) (n := n) (a := s.1) (s := s) hW p2 rfl hc.2.2.2.2.2.2.2
    have eP : qPa tp n k s = qEx tp n (nI 59) ((qLv tp n 5).2.2 (nxS tp n s)) := by rw [qPa, e1]
    rw [eP, eV]
    rcases (Cl_lv hW hn 5).2.2 (nxS tp n s) s.1 k3 (n - s.1 + 1) true [] ou h3 rfl trivial ((nxS_ok p2).2.trans hcd) rfl (by rw [List.length_nil]; omega) (by omega) with ⟨b, b1, b2, b3, b4⟩ | ⟨a2, k2, m3, y2, st, o, N, c1, c2, c3, c4, c5, c6, c7, c8, c9⟩
    · obtain ⟨q1, q2⟩ := Stk_ex (tp := tp) (n := n) (w := 59) (by omega) (by omega) _ b1 (by rw [b2]; exact nI_n1 (by omega))
      exact Or.inl ⟨b, q1, q2.trans b2, b3, b4⟩
    · have hu : uwF 1 st o = ([], N ++ ou) := by
        rw [c8 1 (Nat.le_refl _)]
        rfl
      have hlen := uwF_len (r := 1) (sk := st) (ou := o)
      rw [hu] at hlen
      have hlen : 0 + (N ++ ou).length = st.length + o.length := hlen
      obtain ⟨m4, rfl⟩ : ∃ m4, m3 = m4 + 1 := ⟨m3 - 1, by omega⟩
      have hR2 : rdF wo tp n (m4 + 1) a2 false y2 (st, o) = rdN (nxF wo tp n a2) y2 st o (rdF wo tp n m4) := rfl
      by_cases k59 : k2 = 59
      · subst k59
        obtain ⟨p3, p4⟩ := cln_pos c1 (by omega)
        have e9 : qEx tp n (nI 59) ((qLv tp n 5).2.2 (nxS tp n s)) = nxS tp n ((qLv tp n 5).2.2 (nxS tp n s)) := by rw [qEx, if_pos c1.2.2.2.1]
        obtain ⟨k5, h5⟩ := nx_cln (wo := wo) (tp := tp) (n := n) (a := ((qLv tp n 5).2.2 (nxS tp n s)).1) (s := (qLv tp n 5).2.2 (nxS tp n s)) hW p4 rfl c1.2.2.2.2.2.2.2
        rw [e9]
        refine Or.inr ⟨_, k5, N, h5, (nxS_ok p4).2.trans c5, by omega, c6, ?_⟩
        rw [c7, hR2]
        unfold rdN
        rw [c1.2.2.2.2.2.1, if_pos (show tkM 59 = nI 59 by decide), hu, c1.2.2.1]
      · have e9 := qEx_no (tp := tp) (n := n) (w := 59) (s := (qLv tp n 5).2.2 (nxS tp n s)) c1.2.1 c1.2.2.2.1 (by omega) k59
        obtain ⟨f1, f2, f3⟩ := cln_fl c1
        rw [e9]
        refine Or.inl ⟨_, f1, f2, f3, ?_⟩
        rw [c7, hR2]
        exact rdN_stop c1.2.1 c1.2.2.2.2.2.1 (fun q => absurd q k59) (fun _ => by rw [hu]) ⟨c9.1.1.1.1, c9.1.1.1.2.1, c9.1.1.1.2.2, c9.2, c9.1.2⟩ c9.1.1.2
  · have e1 := qEx_no (tp := tp) (n := n) (w := 316 + k) (s := s) hc.2.1 hc.2.2.2.1 (by omega) hkk
    obtain ⟨f1, f2, f3⟩ := cln_fl hc
    have hne : ¬ (qFl s).2.2.2.2.1 = -1 := by rw [f2]; exact nI_n1 (by omega)
    obtain ⟨b1, b2⟩ := Stk_lv (tp := tp) (n := n) 5 _ f1 hne
    obtain ⟨c1, c2⟩ := Stk_ex (tp := tp) (n := n) (w := 59) (by omega) (by omega) _ b1 (by rw [b2]; exact hne)
    have eP : qPa tp n k s = qEx tp n (nI 59) ((qLv tp n 5).2.2 (qFl s)) := by rw [qPa, e1]
    rw [eP]
    refine Or.inl ⟨_, c1, c2.trans (b2.trans f2), f3, ?_⟩
    unfold txV
    rw [if_neg]
    rintro ⟨q1, q2⟩
    rw [hc.2.2.2.2.2.1] at q1
    have key : ∀ k, k ∈ tkL → tkM k = nI 3 → 316 ≤ k ∧ k < 319 := by decide
    obtain ⟨g1, g2⟩ := key kk hc.2.1 q1
    have ev := hc.2.2.2.2.2.2.1.2.2 g1 g2
    rw [ev] at q2
    have := (nI_eq (a := kk - 316) (b := k) (by omega) (by omega)).mp q2
    omega
theorem ps_ok {num : Int32} (hW : wOkW wo) (hn : n ≤ 160) : (∃ b, (qFF tp n num).2.2.2.2.2.2.2.1 = nI b ∧ b ≤ n ∧ txF wo tp n = .inl b) ∨ ∃ N1 N2 N3 : List Nat, (qFF tp n num).2.2.2.2.2.2.2.1 = -1 ∧ txF wo tp n = .inr (N1, N2 ++ N1, N3 ++ (N2 ++ N1)) ∧ (qFF tp n num).1.2.2.2.2.2 = cm N1 ∧ (qFF tp n num).2.1.2.2.2.2.2 = cm (N2 ++ N1) ∧ (qFF tp n num).2.2.1.2.2.2.2.2 = cm (N3 ++ (N2 ++ N1)) ∧ (qFF tp n num).2.2.2.2.2.2.2.2 = cm (N3 ++ (N2 ++ N1)) ∧ opsOk N1 ∧ opsOk N2 ∧ opsOk N3 := by
  obtain ⟨k0, h0⟩ := nx_cln (wo := wo) (tp := tp) (n := n) (a := 0) (s := (0, nI 0, 0, num, -1, [])) hW (Nat.zero_le n) rfl rfl
  have hc0 : (nxS tp n (0, nI 0, 0, num, -1, [])).2.2.2.2.2 = cm [] := (nxS_ok (Nat.zero_le n)).2
  unfold qFF
  dsimp only
  generalize nxS tp n (0, nI 0, 0, num, -1, []) = s0 at h0 hc0 ⊢
  have stk3 : ∀ (s : zS) (b : Nat), s.2.1 = nI 300 → s.2.2.2.2.1 = nI b → b ≤ n → (qEx tp n (nI 301) s).2.2.2.2.1 = nI b := fun s b h1 h2 h3 => by
    rw [(Stk_ex (tp := tp) (n := n) (w := 301) (by omega) (by omega) s h1 (by rw [h2]; exact nI_n1 (by omega))).2, h2]
  have stk2 : ∀ (k : Nat) (s : zS) (b : Nat), k < 3 → s.2.1 = nI 300 → s.2.2.2.2.1 = nI b → b ≤ n → (qPa tp n k s).2.1 = nI 300 ∧ (qPa tp n k s).2.2.2.2.1 = nI b := fun k s b hk h1 h2 h3 => by
    obtain ⟨g1, g2⟩ := Stk_pa (tp := tp) (n := n) hk s h1 (by rw [h2]; exact nI_n1 (by omega))
    exact ⟨g1, g2.trans h2⟩
  have e0 : txF wo tp n = tx0 wo tp n 0 [] := rfl
  rw [e0, tx0]
  rcases pa_ok (k := 0) hW hn (by omega) h0 hc0 (Nat.le_refl 0) with ⟨b, b1, b2, b3, b4⟩ | ⟨a1, k1, N1, c1, c2, c3, c4, c5⟩
  · obtain ⟨d1, d2⟩ := stk2 1 _ b (by omega) b1 b2 b3
    obtain ⟨d3, d4⟩ := stk2 2 _ b (by omega) d1 d2 b3
    exact Or.inl ⟨b, stk3 _ b d3 d4 b3, b3, by rw [b4]⟩
  · rw [List.append_nil] at c2 c3 c5
    rw [c5]
    dsimp only
    rw [tx1]
    rcases pa_ok (k := 1) hW hn (by omega) c1 c2 c3 with ⟨b, b1, b2, b3, b4⟩ | ⟨a2, k2, N2, f1, f2, f3, f4, f5⟩
    · obtain ⟨d3, d4⟩ := stk2 2 _ b (by omega) b1 b2 b3
      exact Or.inl ⟨b, stk3 _ b d3 d4 b3, b3, by rw [b4]⟩
    · rw [f5]
      dsimp only
      rw [tx2]
      rcases pa_ok (k := 2) hW hn (by omega) f1 f2 f3 with ⟨b, b1, b2, b3, b4⟩ | ⟨a3, k3, N3, g1, g2, g3, g4, g5⟩
      · exact Or.inl ⟨b, stk3 _ b b1 b2 b3, b3, by rw [b4]⟩
      · rw [g5]
        dsimp only
        rw [tx3]
        by_cases hk : k3 = 301
        · subst hk
          have hle : (qPa tp n 2 (qPa tp n 1 (qPa tp n 0 s0))).1 ≤ n := by
            rw [g1.2.2.1]
            exact (nx_ok (wo := wo) (tp := tp) (n := n) (a := a3) rfl g1.1).1
          have e9 : qEx tp n (nI 301) (qPa tp n 2 (qPa tp n 1 (qPa tp n 0 s0))) = nxS tp n (qPa tp n 2 (qPa tp n 1 (qPa tp n 0 s0))) := by rw [qEx, if_pos g1.2.2.2.1]
          obtain ⟨k5, h5⟩ := nx_cln (wo := wo) (tp := tp) (n := n) (a := (qPa tp n 2 (qPa tp n 1 (qPa tp n 0 s0))).1) (s := qPa tp n 2 (qPa tp n 1 (qPa tp n 0 s0))) hW hle rfl g1.2.2.2.2.2.2.2
          rw [e9]
          refine Or.inr ⟨N1, N2, N3, h5.2.2.2.2.2.2.2, ?_, c2, f2, g2, (nxS_ok hle).2.trans g2, c4, f4, g4⟩
          rw [g1.2.2.2.2.2.1, if_pos (show tkM 301 = nI 0 by decide)]
        · have e9 := qEx_no (tp := tp) (n := n) (w := 301) (s := qPa tp n 2 (qPa tp n 1 (qPa tp n 0 s0))) g1.2.1 g1.2.2.2.1 (by omega) hk
          obtain ⟨i1, i2, i3⟩ := cln_fl g1
          have key : ∀ k, k ∈ tkL → k ≠ 301 → ¬ tkM k = nI 0 := by decide
          rw [e9]
          refine Or.inl ⟨_, i2, i3, ?_⟩
          rw [g1.2.2.2.2.2.1, if_neg (key k3 g1.2.1 hk)]
theorem stk_get {row : fI} {base : Nat} : ∀ {l : List Nat} {k x : Nat}, stk row base l → l.reverse[k]? = some x → row (base + k) = nI x
  | [], k, x, _, h => by cases h
  | c :: t, k, x, h, e => by
    rw [List.reverse_cons] at e
    rcases Nat.lt_trichotomy k t.length with hk | hk | hk
    · rw [List.getElem?_append_left (by rw [List.length_reverse]; exact hk)] at e
      exact stk_get h.2 e
    · subst hk
      rw [List.getElem?_append_right (by rw [List.length_reverse]; exact Nat.le_refl _), List.length_reverse, Nat.sub_self] at e
      cases e
      exact h.1
    · rw [List.getElem?_eq_none (by rw [List.length_append, List.length_reverse, List.length_singleton]; omega)] at e
      cases e
theorem stR_get {row : fI} : ∀ {l : List Int32} {k : Nat} {x : Int32}, stR row l → l.reverse[k]? = some x → row k = x
  | [], k, x, _, h => by cases h
  | c :: t, k, x, h, e => by
    rw [List.reverse_cons] at e
    rcases Nat.lt_trichotomy k t.length with hk | hk | hk
    · rw [List.getElem?_append_left (by rw [List.length_reverse]; exact hk)] at e
      exact stR_get h.2 e
    · subst hk
      rw [List.getElem?_append_right (by rw [List.length_reverse]; exact Nat.le_refl _), List.length_reverse, Nat.sub_self] at e
      cases e
      exact h.1
    · rw [List.getElem?_eq_none (by rw [List.length_append, List.length_reverse, List.length_singleton]; omega)] at e
      cases e
theorem rev_mid {α : Type} (A N B : List α) {k : Nat} {x : α} (h : N.reverse[k]? = some x) : (A ++ (N ++ B)).reverse[B.length + k]? = some x := by
  have hk := (List.getElem?_eq_some_iff.mp h).1
  rw [List.length_reverse] at hk
  rw [List.reverse_append, List.reverse_append, List.append_assoc, List.getElem?_append_right (by rw [List.length_reverse]; omega), List.length_reverse, Nat.add_sub_cancel_left, List.getElem?_append_left (by rw [List.length_reverse]; exact hk)]
  exact h
theorem opsN_len (N : List Nat) : (opsN N).length = N.length := by rw [opsN, List.length_reverse, List.length_map]
theorem opsN_get {N : List Nat} {k op : Nat} (h : (opsN N)[k]? = some op) : ∃ c, N.reverse[k]? = some c ∧ nmO c = op ∧ c ∈ N := by
  rw [opsN, ← List.map_reverse, List.getElem?_map] at h
  cases hc : N.reverse[k]? with
  | none => rw [hc] at h; cases h
  | some c =>
    rw [hc] at h
    exact ⟨c, rfl, Option.some.inj h, List.mem_reverse.mp (List.mem_of_getElem? hc)⟩
theorem opsN_ok {N : List Nat} (h : opsOk N) : ∀ op ∈ opsN N, opOk op := fun op ho => by
  obtain ⟨k, hk⟩ := List.getElem?_of_mem ho
  obtain ⟨c, -, e, hc⟩ := opsN_get hk
  rw [← e]
  exact (h.1 c hc).1
theorem mP_of {co st : fI} {li part : Nat} {A N B : List Nat} (hl : stk co (200 * li) (A ++ (N ++ B))) (h0 : st (4 * li + part) = nI B.length) (h1 : st (4 * li + part + 1) = nI (N ++ B).length) (hlen : (A ++ (N ++ B)).length ≤ 160) (hN : opsOk N) : mPart co st li part (opsN N) := by
  rw [List.length_append, List.length_append] at hlen
  refine ⟨B.length, h0, by rw [h1, List.length_append, opsN_len, Nat.add_comm], by rw [opsN_len]; omega, fun k op hk => ?_, opsN_ok hN, hN.2 0⟩
  obtain ⟨c, h2, h3, h4⟩ := opsN_get hk
  rw [stk_get hl (rev_mid A N B h2), ← h3, (hN.1 c h4).2]
theorem tP_of {L : Nat} {cd en : fI} {part : Nat} {A N B : List Nat} (hl : stR cd (cm (A ++ (N ++ B)))) (hL : L = (A ++ (N ++ B)).length) (h0 : part = 0 → B.length = 0) (h1 : part ≠ 0 → en (part - 1) = nI B.length) (h2 : en part = nI (N ++ B).length) (hN : opsOk N) : tPart L cd en part (opsN N) := by
  rw [List.length_append, List.length_append] at hL
  refine ⟨B.length, h0, h1, by rw [h2, List.length_append, opsN_len, Nat.add_comm], by rw [opsN_len]; omega, fun k op hk => ?_, opsN_ok hN, hN.2 0⟩
  obtain ⟨c, h3, h4, h5⟩ := opsN_get hk
  have := rev_mid A N B h3
  refine stR_get hl ?_
  rw [cm, ← List.map_reverse, List.getElem?_map, this, ← h4]
  rfl
theorem hasT_no {cd : fI} : ∀ {L i : Nat}, hasT cd L = false → i < L → ¬ cd i = -1 - nI 3
  | 0, i, _, h => absurd h (Nat.not_lt_zero i)
  | L + 1, i, hb, h => by
    rw [hasT, Bool.or_eq_false_iff] at hb
    rcases Nat.lt_succ_iff_lt_or_eq.mp h with hh | rfl
    · exact hasT_no hb.1 hh
    · exact of_decide_eq_false hb.2
theorem tP_no3 {L : Nat} {cd en : fI} {part : Nat} {P : List Nat} (h : tPart L cd en part P) (hb : hasT cd L = false) : 3 ∉ P := fun h3 => by
  obtain ⟨s0, -, -, -, h4, h5, -, -⟩ := h
  obtain ⟨k, hk⟩ := List.getElem?_of_mem h3
  have hk2 := (List.getElem?_eq_some_iff.mp hk).1
  exact hasT_no hb (show s0 + k < L by omega) (h5 k 3 hk)
theorem tx_both {num : Int32} {li : Nat} {cod2 ed eds co st : fI} (hW : wOkW wo) (hn : n ≤ 160) (hli : li < 6) (hf : ¬ 0 ≤ (qFF tp n num).2.2.2.2.2.2.2.1) (hr : rdI n (qFF tp n num).2.2.2 cod2) (hed : ed = upd (upd (upd eds 0 (nI (qFF tp n num).1.2.2.2.2.2.length)) 1 (nI (qFF tp n num).2.1.2.2.2.2.2.length)) 2 (nI (qFF tp n num).2.2.1.2.2.2.2.2.length)) : ∃ (P : zP) (o1 o2 o3 : List Nat), txF wo tp n = .inr (o1, o2, o3) ∧ tTx (bI (hasT cod2 (qFF tp n num).2.2.2.2.2.2.2.2.length)) (qFF tp n num).2.2.2.2.2.2.2.2.length cod2 ed P ∧ ((st (4 * li + 0) = nI 0 ∧ st (4 * li + 1) = nI o1.length ∧ st (4 * li + 2) = nI o2.length ∧ st (4 * li + 3) = nI o3.length ∧ stk co (200 * li) o3 ∧ o3.length ≤ 160) → mTx co st li P) := by
  have hp := ps_ok (wo := wo) (tp := tp) (n := n) (num := num) hW hn
  generalize qFF tp n num = Z at hp hf hr hed ⊢
  rcases hp with ⟨b, b1, b2, b3⟩ | ⟨N1, N2, N3, c1, c2, c3, c4, c5, c6, c7, c8, c9⟩
  · exfalso
    refine hf ?_
    rw [b1]
    exact (show nI 0 ≤ nI b from nI_le (Nat.zero_le b) (by omega))
  · have hst : stR cod2 (cm (N3 ++ (N2 ++ N1))) := by rw [← c6]; exact hr.2.2
    have hLe : (N3 ++ (N2 ++ N1)).length ≤ 160 := by rw [← cm_len, ← c6]; exact hr.2.1
    have hL : Z.2.2.2.2.2.2.2.2.length = (N3 ++ (N2 ++ N1)).length := by rw [c6, cm_len]
    rw [c3, c4, c5, cm_len, cm_len, cm_len] at hed
    have e0 : ed 0 = nI N1.length := by rw [hed]; rfl
    have e1 : ed 1 = nI (N2 ++ N1).length := by rw [hed]; rfl
    have e2 : ed 2 = nI (N3 ++ (N2 ++ N1)).length := by rw [hed]; rfl
    have t0 : tPart Z.2.2.2.2.2.2.2.2.length cod2 ed 0 (opsN N1) := tP_of (A := N3 ++ N2) (N := N1) (B := []) (by rw [List.append_nil, List.append_assoc]; exact hst) (by rw [List.append_nil, List.append_assoc]; exact hL) (fun _ => rfl) (fun h => absurd rfl h) (by rw [List.append_nil]; exact e0) c7
    have t1 : tPart Z.2.2.2.2.2.2.2.2.length cod2 ed 1 (opsN N2) := tP_of (A := N3) (N := N2) (B := N1) hst hL (fun h => by cases h) (fun _ => e0) e1 c8
    have t2 : tPart Z.2.2.2.2.2.2.2.2.length cod2 ed 2 (opsN N3) := tP_of (A := []) (N := N3) (B := N2 ++ N1) hst hL (fun h => by cases h) (fun _ => e1) e2 c9
    refine ⟨(opsN N1, opsN N2, opsN N3), _, _, _, c2, ⟨by rw [hL]; exact hLe, t0, t1, t2, ?_, fun h => ?_⟩, ?_⟩
    · cases hasT cod2 Z.2.2.2.2.2.2.2.2.length <;> first | exact Or.inl rfl | exact Or.inr rfl
    · have hb : hasT cod2 Z.2.2.2.2.2.2.2.2.length = false := by
        cases hb : hasT cod2 Z.2.2.2.2.2.2.2.2.length with
        | false => rfl
        | true => rw [hb] at h; cases h
      exact ⟨tP_no3 t0 hb, tP_no3 t1 hb, tP_no3 t2 hb⟩
    · rintro ⟨s0, s1, s2, s3, s4, s5⟩
      refine ⟨hli, mP_of (A := N3 ++ N2) (N := N1) (B := []) (by rw [List.append_nil, List.append_assoc]; exact s4) s0 (by rw [List.append_nil]; exact s1) (by rw [List.append_nil, List.append_assoc]; exact s5) c7, mP_of (A := N3) (N := N2) (B := N1) s4 s1 s2 s5 c8, mP_of (A := []) (N := N3) (B := N2 ++ N1) s4 s2 s3 s5 c9⟩
end
