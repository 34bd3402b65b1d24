/-! ===== call by call: both answer alike ===== -/
theorem lk_nn {c : zCart} {x o : Int32} (h : cOk c) : ∀ j, j < 5 → x = nI j → isOfB j o = true → ¬ lkF c x o < 0 := by
  obtain ⟨c1, c2, c3, ⟨c4, c5⟩, c6, -⟩ := h
  intro j hj e hb
  have d : ∀ a b, a < 5 → b < 5 → a ≠ b → ¬ nI a = nI b := fun a b ha hb hne q => hne ((nI_eq (by omega) (by omega)).mp q)
  subst e
  unfold lkF
  rcases (show j = 0 ∨ j = 1 ∨ j = 2 ∨ j = 3 ∨ j = 4 by omega) with rfl | rfl | rfl | rfl | rfl
  · have hb : wiB o 7 = true := hb
    obtain ⟨i, hi, eo⟩ := wiB_t hb (by omega)
    rw [if_pos rfl, hb, eo, show cl (nI i) = i from pk_cl (x := nI i) i rfl (by omega)]
    exact c3 i (by omega)
  · rw [if_neg (d 1 0 (by omega) (by omega) (by omega)), if_pos rfl]
    exact c4
  · rw [if_neg (d 2 0 (by omega) (by omega) (by omega)), if_neg (d 2 1 (by omega) (by omega) (by omega)), if_pos rfl]
    exact c5
  · rw [if_neg (d 3 0 (by omega) (by omega) (by omega)), if_neg (d 3 1 (by omega) (by omega) (by omega)), if_neg (d 3 2 (by omega) (by omega) (by omega)), if_pos rfl]
    exact c6
  · have hb : wiB o 29 = true := hb
    obtain ⟨i, hi, eo⟩ := wiB_t hb (by omega)
    rw [if_neg (d 4 0 (by omega) (by omega) (by omega)), if_neg (d 4 1 (by omega) (by omega) (by omega)), if_neg (d 4 2 (by omega) (by omega) (by omega)), if_neg (d 4 3 (by omega) (by omega) (by omega)), if_pos rfl, hb, eo, show cl (nI i) = i from pk_cl (x := nI i) i rfl (by omega)]
    obtain ⟨m, _, hm, em⟩ := c2 i hi
    show ¬ wiC c i < 0
    rw [em]
    exact Int32.not_lt.mpr (show nI 0 ≤ nI m from nI_le (Nat.zero_le m) (by omega))
theorem lst_le (j : Nat) : lstF j ≤ 1 := by
  unfold lstF
  split <;> omega
theorem vOk_n {j a b : Nat} {v : Int32} (hv : vOkB j v = true) (h1 : lstF j = a) (h2 : mstF j = b) (hb : b < 1000) : ∃ m, a ≤ m ∧ m ≤ b ∧ v = nI m := by
  rw [vOkB, h1, h2, Bool.and_eq_true, decide_eq_true_eq, decide_eq_true_eq] at hv
  rcases pk_ix v (show b + 1 < 2 ^ 31 by omega) with h | h | ⟨m, hm, e⟩
  · have hl : lstF j ≤ 1 := lst_le j
    have ha : nI 0 ≤ nI a := nI_le (Nat.zero_le a) (by omega)
    exact (Int32.lt_irrefl (Int32.lt_of_lt_of_le h (Int32.le_trans ha hv.1))).elim
  · exact absurd (Int32.le_trans h hv.2) (Int32.not_le.mpr (nI_lt (by omega) (by omega)))
  · refine ⟨m, ?_, by omega, e⟩
    rcases Nat.lt_or_ge m a with q | q
    · rw [e] at hv
      have : lstF j ≤ 1 := lst_le j
      exact (Int32.lt_irrefl (Int32.lt_of_lt_of_le (nI_lt q (by omega)) hv.1)).elim
    · exact q
theorem nn_nI {m : Nat} (h : m < 2 ^ 31) : ¬ nI m < 0 := Int32.not_lt.mpr (show nI 0 ≤ nI m from nI_le (Nat.zero_le m) h)
theorem stS_ok {c : zCart} {j : Nat} {o v : Int32} (h : cOk c) (hj : j < 5) (hv : vOkB j v = true) : cOk (stS c j o v) := by
  obtain ⟨c1, c2, c3, ⟨c4, c5⟩, c6, c7⟩ := h
  rcases (show j = 0 ∨ j = 1 ∨ j = 2 ∨ j = 3 ∨ j = 4 by omega) with rfl | rfl | rfl | rfl | rfl
  · obtain ⟨m, -, hm, rfl⟩ := vOk_n hv rfl rfl (by decide)
    have hm : m ≤ 40 := hm
    refine ⟨c1, c2, fun i hi => ?_, ⟨c4, c5⟩, c6, c7⟩
    show ¬ upd (loC c) (cl o) (nI m) i < 0
    by_cases e : i = cl o
    · rw [e, pk_us]; exact nn_nI (by omega)
    · rw [pk_un e]; exact c3 i hi
  · obtain ⟨m, -, hm, rfl⟩ := vOk_n hv rfl rfl (by decide)
    have hm : m ≤ 9 := hm
    exact ⟨c1, c2, c3, ⟨by show ¬ nI m < 0; exact nn_nI (by omega), c5⟩, c6, c7⟩
  · obtain ⟨m, -, hm, rfl⟩ := vOk_n hv rfl rfl (by decide)
    have hm : m ≤ 9 := hm
    exact ⟨c1, c2, c3, ⟨c4, by show ¬ nI m < 0; exact nn_nI (by omega)⟩, c6, c7⟩
  · obtain ⟨m, -, hm, rfl⟩ := vOk_n hv rfl rfl (by decide)
    have hm : m ≤ 9 := hm
    exact ⟨c1, c2, c3, ⟨c4, c5⟩, by show ¬ nI m < 0; exact nn_nI (by omega), c7⟩
  · obtain ⟨m, hm0, hm, rfl⟩ := vOk_n hv rfl rfl (by decide)
    have hm0 : 1 ≤ m := hm0
    have hm : m ≤ 99 := hm
    refine ⟨c1, fun i hi => ?_, c3, ⟨c4, c5⟩, c6, c7⟩
    show ∃ n, 1 ≤ n ∧ n ≤ 99 ∧ upd (wiC c) (cl o) (nI m) i = nI n
    by_cases e : i = cl o
    · rw [e, pk_us]; exact ⟨m, hm0, hm, rfl⟩
    · rw [pk_un e]; exact c2 i hi
theorem od_c {x y z : Int32} {k m j : Nat} (hb : (wiB x 99999 && (decide (nI 1 ≤ y) && decide (y ≤ nI 30)) && wiB z 1) = false) (hk : k < 100000) (h1 : 1 ≤ m) (h2 : m ≤ 30) (hj : j < 2) (ex : x = nI k) (ey : y = nI m) (ez : z = nI j) : False := by
  rw [ex, ey, ez, wiB_n (by omega) (by omega), wiB_n (by omega) (by omega), decide_eq_true (nI_le h1 (by omega)), decide_eq_true (nI_le h2 (by omega))] at hb
  cases hb
theorem as_c {x y z w : Int32} {p h t j : Nat} (hb : asB x y z w = false) (hp : p < 3) (hh : h < 10000) (ht : t < 30) (hj : j < 4) (e1 : x = nI p) (e2 : y = nI h) (e3 : z = nI t) (e4 : w = nI j) : False := by
  rw [asB, e1, e2, e3, e4, wiB_n (by omega) (by omega), wiB_n (by omega) (by omega), wiB_n (by omega) (by omega), wiB_n (by omega) (by omega)] at hb
  cases hb
section
theorem pr_count (x : Int32) : PR false T_count T7_count [.ref 0, .int x] := by
  intro c d k r tr kr rd lw kl ik ri fv ar n li Ps ft tg tx Q hR hL hl he hQ
  obtain ⟨⟨rfl, hco⟩, hr, ht, hs, hi, hx⟩ := id hR
  obtain ⟨sz, h1, h2, -⟩ := hr
  obtain ⟨-, ⟨t, -, h3, h4⟩, -⟩ := ht
  obtain ⟨-, -, h5, ⟨l2, -, h6, h7⟩, -⟩ := hx
  refine ⟨_, _, _, _, _, _, _, _, _, _, _, _, _, _, _, _, _, _, _, x, rfl, rfl, hQ _ _ _ _ _ _ _ _ _ _ _ _ _ _ _ _ _ _ rfl (fun Q7 h8 => ⟨fv, ar, x, rfl, rfl, fun rr hrr => ?_⟩)⟩
  have e : rr = cntF x r.2.2.1 (nI n) lw rd.2.1 (smT (loC (cM fv ar)) 8) := by rw [hrr, h1.2.1, h2, h5, h6, h7, h3, h4]
  rw [e]
  exact h8 fv ar hR
theorem pr_force (x : Int32) : PR false T_force T7_force [.ref 0, .int x] := by
  intro c d k r tr kr rd lw kl ik ri fv ar n li Ps ft tg tx Q hR hL hl he hQ
  obtain ⟨⟨rfl, hco⟩, hr, ht, hs, hi, hx⟩ := id hR
  obtain ⟨x1, x2, x5, ⟨l2, x3, x6, x7⟩, x8⟩ := hx
  refine ⟨_, _, _, _, _, _, _, _, _, _, _, _, _, _, _, _, _, _, _, x, rfl, rfl, fun hb => ?_, fun hb => ?_⟩
  · refine hQ _ _ _ _ _ _ _ _ _ _ _ _ _ _ _ _ _ _ rfl (fun Q7 h8 => ⟨fv, ar, x, rfl, rfl, fun _ => h8 fv ar hR, fun hb2 => absurd (by rw [x5] at hb2; exact hb2) hb⟩)
  · refine hQ _ _ _ _ _ _ _ _ _ _ _ _ _ _ _ _ _ _ rfl (fun Q7 h8 => ⟨fv, ar, x, rfl, rfl, fun hb2 => absurd (by rw [x5]; exact hb) hb2, fun _ => ?_⟩)
    rw [x7, ← x6]
    refine h8 _ _ ⟨⟨rfl, hco⟩, hr, ht, hs, hi, x1, x2, x5, ?_, x8⟩
    obtain ⟨j, hj, e⟩ : ∃ j, j < n ∧ x = nI j := by
      rcases pk_ix x (show n < 2 ^ 31 by omega) with h | h | ⟨j, h, e⟩
      · exact (Int32.lt_irrefl (Int32.lt_of_lt_of_le h hb.1)).elim
      · have h2 := Int32.le_trans h hb.2
        rw [pk_sub x1] at h2
        exact absurd h2 (Int32.not_le.mpr (nI_lt (by omega) (by omega)))
      · exact ⟨j, h, e⟩
    exact ⟨j, hj, e, e⟩
theorem pr_wheel (w y z : Int32) : PR false T_wheel T7_wheel [.ref 0, .int w, .int y, .int z] := by
  intro c d k r tr kr rd lw kl ik ri fv ar n li Ps ft tg tx Q hR hL hl he hQ
  obtain ⟨⟨rfl, hco⟩, hr, ht, hs, hi, hx⟩ := id hR
  refine ⟨_, _, _, _, _, _, _, _, _, _, _, _, _, _, _, _, _, _, _, w, y, z, rfl, rfl, fun hb => ?_, fun j hj e => ⟨fun hb => ?_, fun hb => ?_⟩⟩
  · exact hQ _ _ _ _ _ _ _ _ _ _ _ _ _ _ _ _ _ _ rfl (fun Q7 h8 => ⟨fv, ar, w, y, z, rfl, rfl, fun _ => h8 fv ar hR, fun j hj e => (wib_c hb e (by omega) (by omega)).elim⟩)
  · refine hQ _ _ _ _ _ _ _ _ _ _ _ _ _ _ _ _ _ _ rfl (fun Q7 h8 => ⟨fv, ar, w, y, z, rfl, rfl, fun hb2 => (wib_c hb2 e (by omega) (by omega)).elim, fun j2 hj2 e2 => ⟨fun _ => h8 fv ar hR, fun hb2 => (by rw [hb] at hb2; cases hb2)⟩⟩)
  · refine hQ _ _ _ _ _ _ _ _ _ _ _ _ _ _ _ _ _ _ rfl (fun Q7 h8 => ⟨fv, ar, w, y, z, rfl, rfl, fun hb2 => (wib_c hb2 e (by omega) (by omega)).elim, fun j2 hj2 e2 => ⟨fun hb2 => (by rw [hb] at hb2; cases hb2), fun _ => ?_⟩⟩)
    obtain rfl := nI_i e e2 (by omega) (by omega)
    refine h8 _ _ ⟨⟨rfl, ?_⟩, hr, ht, hs, hi, hx⟩
    obtain ⟨c1, c2, c3, c4, c5, c6⟩ := hco
    rw [Bool.and_eq_true] at hb
    obtain ⟨m, hm, em⟩ := wiB_t (n := 5) hb.1 (by omega)
    refine ⟨?_, c2, c3, c4, c5, fun i hi => ?_⟩
    · rw [em]
      intro i hi
      exact (kOk_up (mo2 := upd (ar 1) j z) (w := j) c1 hm) i hi
    · show wiB (upd (ar 2) j 0 i) 9 = true
      rcases Nat.lt_trichotomy i j with h | h | h
      · rw [pk_un (by omega)]; exact c6 i hi
      · rw [h, pk_us]; rfl
      · rw [pk_un (by omega)]; exact c6 i hi
theorem pr_kick (w : Int32) : PR false T_kick T7_kick [.ref 0, .int w] := by
  intro c d k r tr kr rd lw kl ik ri fv ar n li Ps ft tg tx Q hR hL hl he hQ
  obtain ⟨⟨rfl, hco⟩, hr, ht, hs, hi, hx⟩ := id hR
  obtain ⟨c1, c2, c3, c4, c5, c6⟩ := id hco
  refine ⟨_, _, _, _, _, _, _, _, _, _, _, _, _, _, _, _, _, _, _, w, c1, rfl, rfl, fun hb => ?_, fun j hj e => ⟨fun hb => ?_, fun hb => ?_⟩⟩
  · exact hQ _ _ _ _ _ _ _ _ _ _ _ _ _ _ _ _ _ _ rfl (fun Q7 h8 => ⟨fv, ar, w, c1, c6, rfl, rfl, fun _ => h8 fv ar hR, fun j hj e => (wib_c hb e (by omega) (by omega)).elim⟩)
  · refine hQ _ _ _ _ _ _ _ _ _ _ _ _ _ _ _ _ _ _ rfl (fun Q7 h8 => ⟨fv, ar, w, c1, c6, rfl, rfl, fun hb2 => (wib_c hb2 e (by omega) (by omega)).elim, fun j2 hj2 e2 => ⟨fun _ => h8 fv ar hR, fun hb2 => ?_⟩⟩)
    obtain rfl := nI_i e e2 (by omega) (by omega)
    exact absurd hb2 hb
  · refine hQ _ _ _ _ _ _ _ _ _ _ _ _ _ _ _ _ _ _ rfl (fun Q7 h8 => ⟨fv, ar, w, c1, c6, rfl, rfl, fun hb2 => (wib_c hb2 e (by omega) (by omega)).elim, fun j2 hj2 e2 => ⟨fun hb2 => ?_, fun _ => ?_⟩⟩)
    · obtain rfl := nI_i e e2 (by omega) (by omega)
      exact absurd hb hb2
    obtain rfl := nI_i e e2 (by omega) (by omega)
    refine h8 _ _ ⟨⟨rfl, c1, c2, c3, c4, c5, fun i hi => ?_⟩, hr, ht, hs, hi, hx⟩
    show wiB (upd (ar 2) j (ar 2 j + nI 1) i) 9 = true
    rcases Nat.lt_trichotomy i j with h | h | h
    · rw [pk_un (by omega)]; exact c6 i hi
    · obtain ⟨m, hm, em⟩ := wiB_t (n := 9) (c6 j hj) (by omega)
      have em : ar 2 j = nI m := em
      have hb : ar 2 j < nI 9 := hb
      rw [em] at hb
      rw [h, pk_us, em, nI_add]
      exact wiB_n (by
        rcases Nat.lt_or_ge m 9 with q | q
        · omega
        · exact (Int32.lt_irrefl (Int32.lt_of_lt_of_le hb (nI_le q (by omega)))).elim) (by omega)
    · rw [pk_un (by omega)]; exact c6 i hi
theorem pr_told (w y : Int32) : PR false T_told T7_told [.ref 0, .int w, .int y] := by
  intro c d k r tr kr rd lw kl ik ri fv ar n li Ps ft tg tx Q hR hL hl he hQ
  obtain ⟨⟨rfl, hco⟩, hr, ht, hs, hi, hx⟩ := id hR
  refine ⟨_, _, _, _, _, _, _, _, _, _, _, _, _, _, _, _, _, _, _, w, y, hco.1, rfl, rfl, fun hb => ?_, fun j hj e => ?_⟩
  · exact hQ _ _ _ _ _ _ _ _ _ _ _ _ _ _ _ _ _ _ rfl (fun Q7 h8 => ⟨fv, ar, w, y, hco.1, rfl, rfl, fun _ => h8 fv ar hR, fun j hj e => (wib_c hb e (by omega) (by omega)).elim⟩)
  · refine hQ _ _ _ _ _ _ _ _ _ _ _ _ _ _ _ _ _ _ rfl (fun Q7 h8 => ⟨fv, ar, w, y, hco.1, rfl, rfl, fun hb2 => (wib_c hb2 e (by omega) (by omega)).elim, fun j2 hj2 e2 => ?_⟩)
    obtain rfl := nI_i e e2 (by omega) (by omega)
    exact h8 fv ar hR
theorem pr_look (x o : Int32) : PR false T_look T7_look [.ref 0, .int x, .int o] := by
  intro c d k r tr kr rd lw kl ik ri fv ar n li Ps ft tg tx Q hR hL hl he hQ
  obtain ⟨⟨rfl, hco⟩, hr, ht, hs, hi, hx⟩ := id hR
  refine ⟨_, _, _, _, _, _, _, _, _, _, _, _, _, _, _, _, _, _, _, x, o, rfl, rfl, hQ _ _ _ _ _ _ _ _ _ _ _ _ _ _ _ _ _ _ rfl (fun Q7 h8 => ⟨fv, ar, x, o, rfl, rfl, fun rr hrr => ?_⟩)⟩
  rw [hrr]
  exact h8 fv ar hR
theorem pr_set (x o v : Int32) : PR false T_set T7_set [.ref 0, .int x, .int o, .int v] := by
  intro c d k r tr kr rd lw kl ik ri fv ar n li Ps ft tg tx Q hR hL hl he hQ
  obtain ⟨⟨rfl, hco⟩, hr, ht, hs, hi, hx⟩ := id hR
  have hnn := lk_nn hco (x := x) (o := o)
  refine ⟨_, _, _, _, _, _, _, _, _, _, _, _, _, _, _, _, _, _, _, x, o, v, rfl, rfl, fun hb => ?_, fun j hj e hb => ⟨fun hv => ?_, fun hv => ?_⟩⟩
  · exact hQ _ _ _ _ _ _ _ _ _ _ _ _ _ _ _ _ _ _ rfl (fun Q7 h8 => ⟨fv, ar, x, o, v, hnn, rfl, rfl, fun _ => h8 fv ar hR, fun j hj e hb2 => absurd hb hb2⟩)
  · refine hQ _ _ _ _ _ _ _ _ _ _ _ _ _ _ _ _ _ _ rfl (fun Q7 h8 => ⟨fv, ar, x, o, v, hnn, rfl, rfl, fun hb2 => absurd hb2 hb, fun j2 hj2 e2 _ => ⟨fun _ => h8 fv ar hR, fun hv2 => ?_⟩⟩)
    obtain rfl := nI_i e e2 (by omega) (by omega)
    rw [hv] at hv2
    cases hv2
  · refine hQ _ _ _ _ _ _ _ _ _ _ _ _ _ _ _ _ _ _ rfl (fun Q7 h8 => ⟨fv, ar, x, o, v, hnn, rfl, rfl, fun hb2 => absurd hb2 hb, fun j2 hj2 e2 _ => ⟨fun hv2 => ?_, fun _ fv2 ar2 g1 g2 g3 => ?_⟩⟩)
    · obtain rfl := nI_i e e2 (by omega) (by omega)
      rw [hv] at hv2
      cases hv2
    obtain rfl := nI_i e e2 (by omega) (by omega)
    refine h8 _ _ ⟨⟨g3.symm, stS_ok hco hj hv⟩, ?_, ?_, ?_, ?_, ?_⟩
    · unfold RelR at hr ⊢
      rw [g1 7 (by omega), g1 10 (by omega), g1 11 (by omega), g1 12 (by omega), g2 8 (by omega) (by omega) (by omega), g2 9 (by omega) (by omega) (by omega)]
      exact hr
    · unfold RelT at ht ⊢
      rw [g1 14 (by omega), g2 13 (by omega) (by omega) (by omega)]
      exact ht
    · unfold RelS shOk at hs ⊢
      rw [g2 23 (by omega) (by omega) (by omega), g2 24 (by omega) (by omega) (by omega), g2 25 (by omega) (by omega) (by omega)]
      exact hs
    · unfold RelI at hi ⊢
      rw [g1 19 (by omega), g1 20 (by omega), g1 21 (by omega), g2 22 (by omega) (by omega) (by omega)]
      exact hi
    · unfold RelX mTs at hx ⊢
      rw [g1 17 (by omega), g1 18 (by omega), g2 15 (by omega) (by omega) (by omega), g2 16 (by omega) (by omega) (by omega), g2 31 (by omega) (by omega) (by omega)]
      exact hx
theorem pr_exact : PR false T6_exact T7_exact [.ref 0] := by
  intro c d k r tr kr rd lw kl ik ri fv ar n li Ps ft tg tx Q hR hL hl he hQ
  obtain ⟨⟨rfl, hco⟩, hr, ht, hs, hi, hx⟩ := id hR
  refine ⟨_, _, _, _, _, _, _, _, _, _, _, _, _, _, _, _, _, _, _, Ps li, hL, hco.1, rfl, rfl, fun r0 hr0 d2 ri2 nm2 sk2 => hQ _ _ _ _ _ _ _ _ _ _ _ _ _ _ _ _ _ _ rfl (fun Q7 h8 => ⟨fv, ar, Ps li, mOk_of hR hl he, rfl, rfl, fun rr hrr fv2 ar2 hk => ?_⟩)⟩
  rw [hrr.trans hr0.symm]
  exact h8 fv2 ar2 (hR.kM hk)
theorem pr_quick : PR false T6_quick T7_quick [.ref 0] := by
  intro c d k r tr kr rd lw kl ik ri fv ar n li Ps ft tg tx Q hR hL hl he hQ
  obtain ⟨⟨rfl, hco⟩, hr, ht, hs, hi, hx⟩ := id hR
  refine ⟨_, _, _, _, _, _, _, _, _, _, _, _, _, _, _, _, _, _, _, Ps li, hL, hco.1, rfl, rfl, fun r0 hr0 d2 ri2 nm2 sk2 => hQ _ _ _ _ _ _ _ _ _ _ _ _ _ _ _ _ _ _ rfl (fun Q7 h8 => ⟨fv, ar, Ps li, mOk_of hR hl he, rfl, rfl, fun rr hrr fv2 ar2 hk => ?_⟩)⟩
  rw [hrr.trans hr0.symm]
  exact h8 fv2 ar2 (hR.kM hk)
theorem pr_flutters : PR false T6_flutters T7_flutters [.ref 0] := by
  intro c d k r tr kr rd lw kl ik ri fv ar n li Ps ft tg tx Q hR hL hl he hQ
  obtain ⟨⟨rfl, hco⟩, hr, ht, hs, hi, hx⟩ := id hR
  refine ⟨_, _, _, _, _, _, _, _, _, _, _, _, _, _, _, _, _, _, _, Ps li, hL, hco.1, rfl, rfl, fun r0 hr0 d2 ri2 nm2 sk2 => hQ _ _ _ _ _ _ _ _ _ _ _ _ _ _ _ _ _ _ rfl (fun Q7 h8 => ⟨fv, ar, Ps li, mOk_of hR hl he, rfl, rfl, fun rr hrr fv2 ar2 hk => ?_⟩)⟩
  rw [hrr.trans hr0.symm]
  exact h8 fv2 ar2 (hR.kM hk)
theorem pr_turned : PR false T_turned T7_turned [.ref 0] := by
  intro c d k r tr kr rd lw kl ik ri fv ar n li Ps ft tg tx Q hR hL hl he hQ
  obtain ⟨⟨rfl, hco⟩, hr, ht, hs, hi, hx⟩ := id hR
  refine ⟨_, _, _, _, _, _, _, _, _, _, _, _, _, _, _, _, _, _, _, Ps li, hL, hco.1, rfl, rfl, fun d2 ri2 nm2 sk2 => hQ _ _ _ _ _ _ _ _ _ _ _ _ _ _ _ _ _ _ rfl (fun Q7 h8 => ⟨fv, ar, Ps li, mOk_of hR hl he, rfl, rfl, fun rr hrr fv2 ar2 hk => ?_⟩)⟩
  rw [hrr]
  exact h8 fv2 ar2 (hR.kM hk)
theorem pr_roll (x : Int32) : PR false T_roll T7_roll [.ref 0, .int x] := by
  intro c d k r tr kr rd lw kl ik ri fv ar n li Ps ft tg tx Q hR hL hl he hQ
  obtain ⟨⟨rfl, hco⟩, hr, ht, hs, hi, hx⟩ := id hR
  refine ⟨_, _, _, _, _, _, _, _, _, _, _, _, _, _, _, _, _, _, _, Ps li, x, hL, hco.1, rfl, rfl, fun hb => ?_, fun hb ri2 nm2 sk2 => ?_⟩
  · exact hQ _ _ _ _ _ _ _ _ _ _ _ _ _ _ _ _ _ _ rfl (fun Q7 h8 => ⟨fv, ar, x, Ps li, mOk_of hR hl he, rfl, rfl, fun _ => h8 fv ar hR, fun hb2 => (by rw [hb] at hb2; cases hb2)⟩)
  · obtain ⟨Z, hZ⟩ : ∃ Z, Z = rlF (cM fv ar) (Ps li) (haC (cM fv ar)) 30 := ⟨_, rfl⟩
    rw [← hZ]
    refine hQ _ _ _ _ _ _ _ _ _ _ _ _ _ _ _ _ _ _ rfl (fun Q7 h8 => ⟨fv, ar, x, Ps li, mOk_of hR hl he, rfl, rfl, fun hb2 => (by rw [hb] at hb2; cases hb2), fun _ rr hrr fv2 ar2 hk => ?_⟩)
    have hZ2 : Z = rlF (cM fv ar) (Ps li) (ar 4) 30 := hZ
    rw [← hZ2] at hrr
    rw [hrr]
    exact h8 fv2 ar2 (hR.kM hk)
theorem pr_straight (y : Int32) : PR false (T_strH false) T7_straight [.ref 0, .int y] := by
  intro c d k r tr kr rd lw kl ik ri fv ar n li Ps ft tg tx Q hR hL hl he hQ
  obtain ⟨⟨rfl, hco⟩, hr, ht, hs, hi, hx⟩ := id hR
  refine ⟨_, _, _, _, _, _, _, _, _, _, _, _, _, _, _, _, _, _, _, Ps li, y, hL, hco.1, rfl, rfl, fun hb => ?_, fun hb d2 ri2 nm2 sk2 => ?_⟩
  · exact hQ _ _ _ _ _ _ _ _ _ _ _ _ _ _ _ _ _ _ rfl (fun Q7 h8 => ⟨fv, ar, y, Ps li, mOk_of hR hl he, rfl, rfl, fun _ => h8 fv ar hR, fun hb2 => (by rw [hb] at hb2; cases hb2)⟩)
  · refine hQ _ _ _ _ _ _ _ _ _ _ _ _ _ _ _ _ _ _ rfl (fun Q7 h8 => ⟨fv, ar, y, Ps li, mOk_of hR hl he, rfl, rfl, fun hb2 => (by rw [hb] at hb2; cases hb2), fun _ rr hrr fv2 ar2 hk => ?_⟩)
    rw [hrr]
    exact h8 fv2 ar2 (hR.kM hk)
theorem pr_hold (y : Int32) : PR false (T_strH true) T7_hold [.ref 0, .int y] := by
  intro c d k r tr kr rd lw kl ik ri fv ar n li Ps ft tg tx Q hR hL hl he hQ
  obtain ⟨⟨rfl, hco⟩, hr, ht, hs, hi, hx⟩ := id hR
  refine ⟨_, _, _, _, _, _, _, _, _, _, _, _, _, _, _, _, _, _, _, Ps li, y, hL, hco.1, rfl, rfl, fun hb => ?_, fun hb d2 ri2 nm2 sk2 => ?_⟩
  · exact hQ _ _ _ _ _ _ _ _ _ _ _ _ _ _ _ _ _ _ rfl (fun Q7 h8 => ⟨fv, ar, y, Ps li, mOk_of hR hl he, rfl, rfl, fun _ => h8 fv ar hR, fun hb2 => (by rw [hb] at hb2; cases hb2)⟩)
  · refine hQ _ _ _ _ _ _ _ _ _ _ _ _ _ _ _ _ _ _ rfl (fun Q7 h8 => ⟨fv, ar, y, Ps li, mOk_of hR hl he, rfl, rfl, fun hb2 => (by rw [hb] at hb2; cases hb2), fun _ rr hrr fv2 ar2 hk => ?_⟩)
    rw [hrr]
    exact h8 fv2 ar2 (hR.kM hk)
theorem pr_mend (y : Int32) : PR false T_mend T7_mend [.ref 0, .int y] := by
  intro c d k r tr kr rd lw kl ik ri fv ar n li Ps ft tg tx Q hR hL hl he hQ
  obtain ⟨⟨rfl, hco⟩, hr, ht, hs, hi, hx⟩ := id hR
  refine ⟨_, _, _, _, _, _, _, _, _, _, _, _, _, _, _, _, _, _, _, Ps li, y, hL, hco.1, rfl, rfl, fun hb => ?_, fun hb d2 ri2 nm2 sk2 => ?_⟩
  · exact hQ _ _ _ _ _ _ _ _ _ _ _ _ _ _ _ _ _ _ rfl (fun Q7 h8 => ⟨fv, ar, y, Ps li, mOk_of hR hl he, rfl, rfl, fun _ => h8 fv ar hR, fun hb2 => (by rw [hb] at hb2; cases hb2)⟩)
  · refine hQ _ _ _ _ _ _ _ _ _ _ _ _ _ _ _ _ _ _ rfl (fun Q7 h8 => ⟨fv, ar, y, Ps li, mOk_of hR hl he, rfl, rfl, fun hb2 => (by rw [hb] at hb2; cases hb2), fun _ rr hrr fv2 ar2 hk => ?_⟩)
    rw [hrr]
    exact h8 fv2 ar2 (hR.kM hk)
theorem pr_swap (y : Int32) : PR false T6_swap T7_swap [.ref 0, .int y] := by
  intro c d k r tr kr rd lw kl ik ri fv ar n li Ps ft tg tx Q hR hL hl he hQ
  obtain ⟨⟨rfl, hco⟩, hr, ht, hs, hi, hx⟩ := id hR
  refine ⟨_, _, _, _, _, _, _, _, _, _, _, _, _, _, _, _, _, _, _, y, Ps li, hL, hco.1, rfl, rfl, fun hb => ?_, fun hb r0 hr0 d2 ri2 nm2 sk2 => ?_⟩
  · exact hQ _ _ _ _ _ _ _ _ _ _ _ _ _ _ _ _ _ _ rfl (fun Q7 h8 => ⟨fv, ar, y, Ps li, mOk_of hR hl he, rfl, rfl, fun _ => h8 fv ar hR, fun hb2 => (by rw [hb] at hb2; cases hb2)⟩)
  · refine hQ _ _ _ _ _ _ _ _ _ _ _ _ _ _ _ _ _ _ rfl (fun Q7 h8 => ⟨fv, ar, y, Ps li, mOk_of hR hl he, rfl, rfl, fun hb2 => (by rw [hb] at hb2; cases hb2), fun _ rr hrr fv2 ar2 hk => ?_⟩)
    rw [hrr.trans hr0.symm]
    exact h8 fv2 ar2 (hR.kM hk)
theorem pr_put (x y : Int32) : PR false T6_put T7_put [.ref 0, .int x, .int y] := by
  intro c d k r tr kr rd lw kl ik ri fv ar n li Ps ft tg tx Q hR hL hl he hQ
  obtain ⟨⟨rfl, hco⟩, hr, ht, hs, hi, hx⟩ := id hR
  refine ⟨_, _, _, _, _, _, _, _, _, _, _, _, _, _, _, _, _, _, _, x, y, Ps li, hL, hco.1, hco.2.1, rfl, rfl, fun hb => ?_, fun hb r0 hr0 d2 ri2 nm2 sk2 => ?_⟩
  · exact hQ _ _ _ _ _ _ _ _ _ _ _ _ _ _ _ _ _ _ rfl (fun Q7 h8 => ⟨fv, ar, x, y, Ps li, mOk_of hR hl he, rfl, rfl, fun _ => h8 fv ar hR, fun hb2 => (by rw [hb] at hb2; cases hb2)⟩)
  · refine hQ _ _ _ _ _ _ _ _ _ _ _ _ _ _ _ _ _ _ rfl (fun Q7 h8 => ⟨fv, ar, x, y, Ps li, mOk_of hR hl he, rfl, rfl, fun hb2 => (by rw [hb] at hb2; cases hb2), fun _ rr hrr fv2 ar2 hk => ?_⟩)
    rw [hrr.trans hr0.symm]
    exact h8 fv2 ar2 (hR.kM hk)
theorem pr_at (x y : Int32) : PR false T6_at T7_at [.ref 0, .int x, .int y] := by
  intro c d k r tr kr rd lw kl ik ri fv ar n li Ps ft tg tx Q hR hL hl he hQ
  obtain ⟨⟨rfl, hco⟩, hr, ht, hs, hi, hx⟩ := id hR
  refine ⟨_, _, _, _, _, _, _, _, _, _, _, _, _, _, _, _, _, _, _, x, y, Ps li, hL, hco.1, rfl, rfl, fun hb => ?_, fun te hte ex hy r0 hr0 ri2 nm2 sk2 => ?_⟩
  · exact hQ _ _ _ _ _ _ _ _ _ _ _ _ _ _ _ _ _ _ rfl (fun Q7 h8 => ⟨fv, ar, x, y, Ps li, mOk_of hR hl he, rfl, rfl, fun _ => h8 fv ar hR, fun te hte ex hy => (by rw [ex, wiB_n (by omega) (by omega), hy] at hb; cases hb)⟩)
  · refine hQ _ _ _ _ _ _ _ _ _ _ _ _ _ _ _ _ _ _ rfl (fun Q7 h8 => ⟨fv, ar, x, y, Ps li, mOk_of hR hl he, rfl, rfl, fun hb => (by rw [ex, wiB_n (by omega) (by omega), hy] at hb; cases hb), fun te2 hte2 ex2 _ rr hrr fv2 ar2 hk => ?_⟩)
    obtain rfl := nI_i ex ex2 (by omega) (by omega)
    rw [hrr.trans hr0.symm]
    exact h8 fv2 ar2 (hR.kM hk)
theorem pr_lay (x : Int32) : PR true T6_lay T7_lay [.ref 0, .int x] := by
  intro c d k r tr kr rd lw kl ik ri fv ar n li Ps ft tg tx Q hR hL hl he hQ
  obtain ⟨⟨rfl, hco⟩, hr, ht, hs, hi, hx⟩ := id hR
  refine ⟨_, _, _, _, _, _, _, _, _, _, _, _, _, _, _, _, _, _, _, x, Ps li, hL, hco.1, hco.2.1, hco.2.2.1, rfl, rfl, fun hb => ?_, fun j hj ex r0 hr0 d2 ri2 nm2 sk2 => ?_⟩
  · exact hQ _ _ _ _ _ _ _ _ _ _ _ _ _ _ _ _ _ _ rfl (fun Q7 h8 => ⟨fv, ar, x, Ps li, mOk_of hR hl he, rfl, rfl, fun _ => h8 fv ar hR, fun j hj ex => (wib_c hb ex (by omega) (by omega)).elim⟩)
  · refine hQ _ _ _ _ _ _ _ _ _ _ _ _ _ _ _ _ _ _ rfl (fun Q7 h8 => ⟨fv, ar, x, Ps li, mOk_of hR hl he, rfl, rfl, fun hb => (wib_c hb ex (by omega) (by omega)).elim, fun j2 hj2 ex2 rr hrr fv2 ar2 hk => ?_⟩)
    obtain rfl := nI_i ex ex2 (by omega) (by omega)
    rw [hrr.trans hr0.symm]
    exact h8 fv2 ar2 (hR.kM hk)
theorem pr_change (x : Int32) : PR false T6_change T7_change [.ref 0, .int x] := by
  intro c d k r tr kr rd lw kl ik ri fv ar n li Ps ft tg tx Q hR hL hl he hQ
  obtain ⟨⟨rfl, hco⟩, hr, ht, hs, hi, hx⟩ := id hR
  refine ⟨_, _, _, _, _, _, _, _, _, _, _, _, _, _, _, _, _, _, _, x, Ps li, hL, hco.1, rfl, rfl, fun hb => ?_, fun j hj ex r0 hr0 ri2 nm2 sk2 => ?_⟩
  · exact hQ _ _ _ _ _ _ _ _ _ _ _ _ _ _ _ _ _ _ rfl (fun Q7 h8 => ⟨fv, ar, x, Ps li, mOk_of hR hl he, rfl, rfl, fun _ => h8 fv ar hR, fun j hj ex => (wib_c hb ex (by omega) (by omega)).elim⟩)
  · refine hQ _ _ _ _ _ _ _ _ _ _ _ _ _ _ _ _ _ _ rfl (fun Q7 h8 => ⟨fv, ar, x, Ps li, mOk_of hR hl he, rfl, rfl, fun hb => (wib_c hb ex (by omega) (by omega)).elim, fun j2 hj2 ex2 rr hrr fv2 ar2 hk => ?_⟩)
    obtain rfl := nI_i ex ex2 (by omega) (by omega)
    rw [hrr.trans hr0.symm]
    exact h8 fv2 ar2 (hR.kM hk)
theorem pr_drawn (x y : Int32) : PR false T6_drawn T7_drawn [.ref 0, .int x, .int y] := by
  intro c d k r tr kr rd lw kl ik ri fv ar n li Ps ft tg tx Q hR hL hl he hQ
  obtain ⟨⟨rfl, hco⟩, hr, ht, hs, hi, hx⟩ := id hR
  refine ⟨_, _, _, _, _, _, _, _, _, _, _, _, _, _, _, _, _, _, _, x, y, Ps li, hL, hco.1, rfl, rfl, fun hb => ?_, fun te hte ex hy r0 hr0 ri2 nm2 sk2 => ?_⟩
  · exact hQ _ _ _ _ _ _ _ _ _ _ _ _ _ _ _ _ _ _ rfl (fun Q7 h8 => ⟨fv, ar, x, y, Ps li, mOk_of hR hl he, rfl, rfl, fun _ => h8 fv ar hR, fun te hte ex hy => (by rw [ex, wiB_n (by omega) (by omega), hy] at hb; cases hb)⟩)
  · refine hQ _ _ _ _ _ _ _ _ _ _ _ _ _ _ _ _ _ _ rfl (fun Q7 h8 => ⟨fv, ar, x, y, Ps li, mOk_of hR hl he, rfl, rfl, fun hb => (by rw [ex, wiB_n (by omega) (by omega), hy] at hb; cases hb), fun te2 hte2 ex2 _ rr hrr fv2 ar2 hk => ?_⟩)
    obtain rfl := nI_i ex ex2 (by omega) (by omega)
    rw [hrr.trans hr0.symm]
    exact h8 fv2 ar2 (hR.kM hk)
theorem pr_odds (x y z : Int32) : PR true T6_odds T7_odds [.ref 0, .int x, .int y, .int z] := by
  intro c d k r tr kr rd lw kl ik ri fv ar n li Ps ft tg tx Q hR hL hl he hQ
  obtain ⟨⟨rfl, hco⟩, hr, ht, hs, hi, hx⟩ := id hR
  refine ⟨_, _, _, _, _, _, _, _, _, _, _, _, _, _, _, _, _, _, _, x, y, z, Ps li, hL, hco.1, rfl, rfl, fun hb => ?_, fun k1 m j hk1 hm1 hm2 hj ex ey ez r0 hr0 ri2 nm2 sk2 => ?_⟩
  · exact hQ _ _ _ _ _ _ _ _ _ _ _ _ _ _ _ _ _ _ rfl (fun Q7 h8 => ⟨fv, ar, x, y, z, Ps li, mOk_of hR hl he, rfl, rfl, fun _ => h8 fv ar hR, fun k1 m j hk1 hm1 hm2 hj ex ey ez => (od_c hb hk1 hm1 hm2 hj ex ey ez).elim⟩)
  · refine hQ _ _ _ _ _ _ _ _ _ _ _ _ _ _ _ _ _ _ rfl (fun Q7 h8 => ⟨fv, ar, x, y, z, Ps li, mOk_of hR hl he, rfl, rfl, fun hb => (od_c hb hk1 hm1 hm2 hj ex ey ez).elim, fun k2 m2 j2 hk2 hm3 hm4 hj2 ex2 ey2 ez2 rr hrr fv2 ar2 hk => ?_⟩)
    obtain rfl := nI_i ex ex2 (by omega) (by omega)
    obtain rfl := nI_i ey ey2 (by omega) (by omega)
    obtain rfl := nI_i ez ez2 (by omega) (by omega)
    rw [hrr.trans hr0.symm]
    exact h8 fv2 ar2 (hR.kM hk)
theorem pr_asks (x y z w : Int32) : PR false T6_asks T7_asks [.ref 0, .int x, .int y, .int z, .int w] := by
  intro c d k r tr kr rd lw kl ik ri fv ar n li Ps ft tg tx Q hR hL hl he hQ
  obtain ⟨⟨rfl, hco⟩, hr, ht, hs, hi, hx⟩ := id hR
  have hm := (mOk_of hR hl he).2.2
  refine ⟨_, _, _, _, _, _, _, _, _, _, _, _, _, _, _, _, _, _, _, x, y, z, w, Ps li, hL, rfl, rfl, fun hb => ?_, fun p h t j hp hh htt hj e1 e2 e3 e4 nm2 sk2 => ?_⟩
  · exact hQ _ _ _ _ _ _ _ _ _ _ _ _ _ _ _ _ _ _ rfl (fun Q7 h8 => ⟨fv, ar, x, y, z, w, Ps li, hm, rfl, rfl, fun _ => h8 fv ar hR, fun p h t j hp hh htt hj e1 e2 e3 e4 => (as_c hb hp hh htt hj e1 e2 e3 e4).elim⟩)
  · refine hQ _ _ _ _ _ _ _ _ _ _ _ _ _ _ _ _ _ _ rfl (fun Q7 h8 => ⟨fv, ar, x, y, z, w, Ps li, hm, rfl, rfl, fun hb => (as_c hb hp hh htt hj e1 e2 e3 e4).elim, fun p2 h2 t2 j2 hp2 hh2 ht2 hj2 g1 g2 g3 g4 sk nm => ?_⟩)
    obtain rfl := nI_i e1 g1 (by omega) (by omega)
    obtain rfl := nI_i e2 g2 (by omega) (by omega)
    obtain rfl := nI_i e3 g3 (by omega) (by omega)
    obtain rfl := nI_i e4 g4 (by omega) (by omega)
    exact h8 _ _ ⟨⟨rfl, hco⟩, hr, ht, hs, hi, hx⟩
end
