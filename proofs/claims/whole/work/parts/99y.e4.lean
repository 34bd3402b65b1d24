/-! ===== call by call: the row, images, the tape ===== -/
theorem ru_n {j : Nat} {v : Int32} {a b : Nat} (hv : ruB j v = true) (h1 : ruL j = a) (h2 : ruM j = b) (ha : a < 1000) (hb : b < 1000) : ∃ m, a ≤ m ∧ m ≤ b ∧ v = nI m := by
  rw [ruB, h1, h2, Bool.and_eq_true, decide_eq_true_eq, decide_eq_true_eq] at hv
  rcases pk_ix v (show b + 1 < 2 ^ 31 by omega) with h | h | ⟨m, hm, e⟩
  · have ha : nI 0 ≤ nI a := nI_le (Nat.zero_le a) (by omega)
    exact (Int32.lt_irrefl (Int32.lt_of_lt_of_le h (Int32.le_trans ha hv.1))).elim
  · exact absurd (Int32.le_trans h hv.2) (Int32.not_le.mpr (nI_lt (by omega) (by omega)))
  · refine ⟨m, ?_, by omega, e⟩
    rcases Nat.lt_or_ge m a with q | q
    · rw [e] at hv
      exact (Int32.lt_irrefl (Int32.lt_of_lt_of_le (nI_lt q (by omega)) hv.1)).elim
    · exact q
theorem bOk_u9 {bd : fI} {i b : Nat} (h : bOk bd) (hb : b ≤ 99) : bOk (upd bd i (nI b)) := fun j hj => by
  by_cases e : j = i
  · rw [e, pk_us]; exact ⟨b, hb, rfl⟩
  · rw [pk_un e]; exact h j hj
theorem oOk_up {od : fI} {i b : Nat} (h : oOk od) (hb : b < 8) : oOk (upd od i (nI b)) := fun j hj => by
  by_cases e : j = i
  · rw [e, pk_us]; exact ⟨b, hb, rfl⟩
  · rw [pk_un e]; exact h j hj
theorem me_c {x y : Int32} {m a b : Nat} (hb : (wiB x a && wiB y b) = false) (e : x = nI m) (hm : m ≤ a) (ha : a < 2 ^ 31) (hy : wiB y b = true) : False := by
  rw [e, wiB_n hm ha, hy] at hb
  cases hb
theorem sr_c {x y : Int32} {m j : Nat} (hb : ((decide (nI 1 ≤ x) && decide (x ≤ nI 24)) && wiB y 1) = false) (h1 : 1 ≤ m) (h2 : m ≤ 24) (hj : j < 2) (ex : x = nI m) (ey : y = nI j) : False := by
  rw [ex, ey, wiB_n (by omega) (by omega), decide_eq_true (nI_le h1 (by omega)), decide_eq_true (nI_le h2 (by omega))] at hb
  cases hb
theorem bs_some {f : Nat → Int32} : ∀ n, ∃ i v, bsF f (n + 1) = some (i, v)
  | n => by
    rw [bsF]
    cases bsF f n with
    | none => exact ⟨_, _, rfl⟩
    | some q =>
      obtain ⟨a, b⟩ := q
      dsimp only
      split
      · exact ⟨_, _, rfl⟩
      · exact ⟨_, _, rfl⟩
theorem tk_c {k : Nat} {b : Bool} (h : k = 6 ∨ (k < 6 ∧ b = false)) (h2 : k = 6 → False) (h3 : b = true) : False := by
  rcases h with h | h
  · exact h2 h
  · rw [h3] at h
    cases h.2
theorem fe_n {x a b c d e : Int32} (h : feB x a b c d e = true) : ∃ m, 1 ≤ m ∧ m ≤ 5 ∧ x = nI m := by
  unfold feB at h
  simp only [Bool.and_eq_true, decide_eq_true_eq] at h
  obtain ⟨⟨⟨⟨⟨⟨h1, h2⟩, -⟩, -⟩, -⟩, -⟩, -⟩ := h
  rcases pk_ix x (show 6 < 2 ^ 31 by omega) with g | g | ⟨m, hm, e⟩
  · exact (Int32.lt_irrefl (Int32.lt_of_lt_of_le (Int32.lt_of_lt_of_le g (show (0 : Int32) ≤ nI 1 by decide)) h1)).elim
  · exact absurd (Int32.le_trans g h2) (by decide)
  · refine ⟨m, ?_, by omega, e⟩
    rcases Nat.lt_or_ge m 1 with q | q
    · rw [e] at h1
      exact (Int32.lt_irrefl (Int32.lt_of_lt_of_le (nI_lt q (by omega)) h1)).elim
    · exact q
section
theorem pr_come (x : Int32) : PR false T_come T7_come [.ref 0, .int x] := by
  intro c d k r tr kr rd lw kl ik ri fv ar n li Ps ft tg tx Q hR hL hl he hQ
  obtain ⟨⟨rfl, hco⟩, hr, ht, hs, hi, hx⟩ := id hR
  obtain ⟨bd, od, zz, lo, be, aw, st, tk, mb, mw, mt⟩ := r
  obtain ⟨sz, ⟨z1, z2, ⟨lk, z3, z4⟩, ⟨aw2, z5, z6⟩, z7, z8⟩, w1, w2, w3, w4, w5, w6⟩ := id hr
  have u2 : zz = nI sz := z2
  have u4 : lo = nI lk := z4
  have u6 : aw = nI aw2 := z6
  have o7 : oOk od := z7
  have o8 : bOk bd := z8
  have e2 : bd = ar 8 := w2
  have e3 : ∀ i, i < sz → ar 9 i = od i := w3
  have e4 : lo = fv 10 := w4
  have e5 : be = fv 11 := w5
  have e6 : aw = fv 12 := w6
  clear z2 z4 z6 z7 z8 w2 w3 w4 w5 w6
  subst u2
  subst u4
  subst u6
  
  refine ⟨_, _, _, _, _, _, _, _, _, _, _, _, _, x, sz, _, _, _, _, _, _, _, _, _, _, _, _, _, _, _, z1, rfl, rfl, fun hb => ?_, fun hb hs8 => ?_, fun hb hs8 => ?_⟩
  · exact hQ _ _ _ _ _ _ _ _ _ _ _ _ _ _ _ _ _ _ rfl (fun Q7 h8 => ⟨fv, ar, x, sz, z1, w1, rfl, rfl, fun _ => h8 fv ar hR, fun hb2 => (by rw [hb] at hb2; cases hb2), fun hb2 => (by rw [hb] at hb2; cases hb2)⟩)
  · exact hQ _ _ _ _ _ _ _ _ _ _ _ _ _ _ _ _ _ _ rfl (fun Q7 h8 => ⟨fv, ar, x, sz, z1, w1, rfl, rfl, fun hb2 => (by rw [hb] at hb2; cases hb2), fun _ _ => h8 fv ar hR, fun _ h9 => absurd hs8 (by omega)⟩)
  · refine hQ _ _ _ _ _ _ _ _ _ _ _ _ _ _ _ _ _ _ rfl (fun Q7 h8 => ⟨fv, ar, x, sz, z1, w1, rfl, rfl, fun hb2 => (by rw [hb] at hb2; cases hb2), fun _ h9 => absurd hs8 (by omega), fun _ _ => ?_⟩)
    obtain ⟨v, hv, ev⟩ := wiB_t (n := 99) hb (by omega)
    refine h8 _ _ ⟨⟨rfl, hco⟩, ?_, ht, hs, hi, hx⟩
    refine ⟨sz + 1, ⟨by omega, rfl, ⟨lk, z3, rfl⟩, ⟨aw2, z5, rfl⟩, oOk_up o7 (by omega), ?_⟩, rfl, ?_, fun i hi => ?_, e4, e5, e6⟩
    · rw [ev]; exact bOk_u9 o8 (by omega)
    · show upd bd sz x = upd (ar 8) sz x
      rw [e2]
    · show upd (ar 9) sz (nI sz) i = upd od sz (nI sz) i
      by_cases e : i = sz
      · rw [e, pk_us, pk_us]
      · rw [pk_un e, pk_un e]; exact e3 i (by omega)
theorem pr_meets (x y : Int32) : PR false T_meets T7_meets [.ref 0, .int x, .int y] := by
  intro c d k r tr kr rd lw kl ik ri fv ar n li Ps ft tg tx Q hR hL hl he hQ
  obtain ⟨⟨rfl, hco⟩, hr, ht, hs, hi, hx⟩ := id hR
  obtain ⟨bd, od, zz, lo, be, aw, st, tk, mb, mw, mt⟩ := r
  obtain ⟨sz, ⟨z1, z2, ⟨lk, z3, z4⟩, ⟨aw2, z5, z6⟩, z7, z8⟩, w1, w2, w3, w4, w5, w6⟩ := id hr
  have u2 : zz = nI sz := z2
  have u4 : lo = nI lk := z4
  have u6 : aw = nI aw2 := z6
  have o7 : oOk od := z7
  have o8 : bOk bd := z8
  have e2 : bd = ar 8 := w2
  have e3 : ∀ i, i < sz → ar 9 i = od i := w3
  have e4 : lo = fv 10 := w4
  have e5 : be = fv 11 := w5
  have e6 : aw = fv 12 := w6
  clear z2 z4 z6 z7 z8 w2 w3 w4 w5 w6
  subst u2
  subst u4
  subst u6
  
  refine ⟨_, _, _, _, _, _, _, _, _, _, _, sz, lk, aw2, _, _, _, _, _, _, _, _, _, _, _, _, _, _, _, x, y, z1, z3, z5, o7, rfl, rfl, fun hb => ?_, fun hb m hm ex tr2 => ?_⟩
  · exact hQ _ _ _ _ _ _ _ _ _ _ _ _ _ _ _ _ _ _ rfl (fun Q7 h8 => ⟨fv, ar, x, y, sz, lk, aw2, od, z1, w1, z3, e4.symm, z5, e6.symm, e3, o7, rfl, rfl, fun _ => h8 fv ar hR, fun m hm ex hy => (me_c hb ex (by omega) (by omega) hy).elim⟩)
  · refine hQ _ _ _ _ _ _ _ _ _ _ _ _ _ _ _ _ _ _ rfl (fun Q7 h8 => ⟨fv, ar, x, y, sz, lk, aw2, od, z1, w1, z3, e4.symm, z5, e6.symm, e3, o7, rfl, rfl, fun hb2 => (by rw [hb] at hb2; cases hb2), fun m2 hm2 ex2 hy rr hrr fv2 ar2 hk => ?_⟩)
    obtain rfl := nI_i ex ex2 (by omega) (by omega)
    rw [← e2, ← e5] at hrr
    rw [hrr]
    exact h8 fv2 ar2 (hR.kM hk)
theorem pr_day (x : Int32) : PR false T_day T7_day [.ref 0, .int x] := by
  intro c d k r tr kr rd lw kl ik ri fv ar n li Ps ft tg tx Q hR hL hl he hQ
  obtain ⟨⟨rfl, hco⟩, hr, ht, hs, hi, hx⟩ := id hR
  obtain ⟨bd, od, zz, lo, be, aw, st, tk, mb, mw, mt⟩ := r
  obtain ⟨sz, ⟨z1, z2, ⟨lk, z3, z4⟩, ⟨aw2, z5, z6⟩, z7, z8⟩, w1, w2, w3, w4, w5, w6⟩ := id hr
  have u2 : zz = nI sz := z2
  have u4 : lo = nI lk := z4
  have u6 : aw = nI aw2 := z6
  have o7 : oOk od := z7
  have o8 : bOk bd := z8
  have e2 : bd = ar 8 := w2
  have e3 : ∀ i, i < sz → ar 9 i = od i := w3
  have e4 : lo = fv 10 := w4
  have e5 : be = fv 11 := w5
  have e6 : aw = fv 12 := w6
  clear z2 z4 z6 z7 z8 w2 w3 w4 w5 w6
  subst u2
  subst u4
  subst u6
  
  refine ⟨_, _, _, _, _, _, _, _, _, _, _, sz, lk, aw2, _, _, _, _, _, _, _, _, _, _, _, _, _, _, _, x, z1, z3, z5, o7, rfl, rfl, fun hb => ?_, fun m hm ex q hq => ?_⟩
  · exact hQ _ _ _ _ _ _ _ _ _ _ _ _ _ _ _ _ _ _ rfl (fun Q7 h8 => ⟨fv, ar, x, sz, lk, aw2, od, tk, z1, w1, z3, e4.symm, z5, e6.symm, e3, o7, rfl, rfl, fun _ => h8 fv ar hR, fun m hm ex => (wib_c hb ex (by omega) (by omega)).elim⟩)
  · refine hQ _ _ _ _ _ _ _ _ _ _ _ _ _ _ _ _ _ _ rfl (fun Q7 h8 => ⟨fv, ar, x, sz, lk, aw2, od, tk, z1, w1, z3, e4.symm, z5, e6.symm, e3, o7, rfl, rfl, fun hb => (wib_c hb ex (by omega) (by omega)).elim, fun m2 hm2 ex2 q2 hq2 fv2 ar2 ro hk hro => ?_⟩)
    obtain rfl := nI_i ex ex2 (by omega) (by omega)
    rw [← e2, ← e5] at hq2
    obtain rfl : q2 = q := hq2.trans hq.symm
    have hq3 : oOk q2.1 := by rw [hq]; exact srv_oOk z1 o7
    refine h8 fv2 ar2 (Rel.kM (fv := fv) (ar := upa ar 9 ro) ⟨⟨rfl, hco⟩, ?_, ht, hs, hi, hx⟩ hk)
    exact ⟨sz, ⟨z1, rfl, ⟨lk, z3, rfl⟩, ⟨aw2, z5, rfl⟩, hq3, o8⟩, w1, e2, hro, e4, e5, e6⟩
theorem pr_stands (x : Int32) : PR false T_stands T7_stands [.ref 0, .int x] := by
  intro c d k r tr kr rd lw kl ik ri fv ar n li Ps ft tg tx Q hR hL hl he hQ
  obtain ⟨⟨rfl, hco⟩, hr, ht, hs, hi, hx⟩ := id hR
  obtain ⟨bd, od, zz, lo, be, aw, st, tk, mb, mw, mt⟩ := r
  obtain ⟨sz, ⟨z1, z2, ⟨lk, z3, z4⟩, ⟨aw2, z5, z6⟩, z7, z8⟩, w1, w2, w3, w4, w5, w6⟩ := id hr
  have u2 : zz = nI sz := z2
  have u4 : lo = nI lk := z4
  have u6 : aw = nI aw2 := z6
  have o7 : oOk od := z7
  have o8 : bOk bd := z8
  have e2 : bd = ar 8 := w2
  have e3 : ∀ i, i < sz → ar 9 i = od i := w3
  have e4 : lo = fv 10 := w4
  have e5 : be = fv 11 := w5
  have e6 : aw = fv 12 := w6
  clear z2 z4 z6 z7 z8 w2 w3 w4 w5 w6
  subst u2
  subst u4
  subst u6
  
  refine ⟨_, _, _, _, _, _, _, _, _, _, _, _, _, x, sz, _, _, _, _, _, _, _, _, _, _, _, _, _, _, _, z1, rfl, rfl, fun j hj ex => ?_, fun hno => ?_⟩
  · refine hQ _ _ _ _ _ _ _ _ _ _ _ _ _ _ _ _ _ _ rfl (fun Q7 h8 => ⟨fv, ar, x, sz, z1, w1, rfl, rfl, fun j2 hj2 ex2 => ?_, fun hno => absurd ex (hno j hj)⟩)
    obtain rfl := nI_i ex ex2 (by omega) (by omega)
    rw [e3 j hj]
    exact h8 fv ar hR
  · exact hQ _ _ _ _ _ _ _ _ _ _ _ _ _ _ _ _ _ _ rfl (fun Q7 h8 => ⟨fv, ar, x, sz, z1, w1, rfl, rfl, fun j2 hj2 ex2 => absurd ex2 (hno j2 hj2), fun _ => h8 fv ar hR⟩)
theorem pr_share (x y : Int32) : PR true T6_share T7_share [.ref 0, .int x, .int y] := by
  intro c d k r tr kr rd lw kl ik ri fv ar n li Ps ft tg tx Q hR hL hl he hQ
  obtain ⟨⟨rfl, hco⟩, hr, ht, hs, hi, hx⟩ := id hR
  obtain ⟨sz, ⟨z1, z2, ⟨lk, z3, z4⟩, ⟨aw2, z5, z6⟩, z7, z8⟩, w1, w2, w3, w4, w5, w6⟩ := id hr
  
  have z9 : bOk (ar 8) := by rw [← w2]; exact z8
  refine ⟨_, _, _, _, _, _, _, _, _, _, _, _, _, _, _, _, _, _, _, x, y, sz, lk, aw2, z1, z2, z3, z4, z5, z6, z7, z8, rfl, rfl, fun hb => ?_, fun m j h1 h2 ex hj ey hs0 r0 hr0 tr2 => ?_⟩
  · exact hQ _ _ _ _ _ _ _ _ _ _ _ _ _ _ _ _ _ _ rfl (fun Q7 h8 => ⟨fv, ar, x, y, sz, lk, aw2, r.2.1, z1, w1, z3, w4.symm.trans z4, z5, w6.symm.trans z6, w3, z7, z9, rfl, rfl, fun _ => h8 fv ar hR, fun m j h1 h2 ex hj ey hs0 => (hb.elim (fun hb => sr_c hb h1 h2 hj ex ey) (fun e => by omega)).elim⟩)
  · refine hQ _ _ _ _ _ _ _ _ _ _ _ _ _ _ _ _ _ _ rfl (fun Q7 h8 => ⟨fv, ar, x, y, sz, lk, aw2, r.2.1, z1, w1, z3, w4.symm.trans z4, z5, w6.symm.trans z6, w3, z7, z9, rfl, rfl, fun hb => (hb.elim (fun hb => sr_c hb h1 h2 hj ex ey) (fun e => by omega)).elim, fun m2 j2 h3 h4 ex2 hj2 ey2 _ rr hrr fv2 ar2 hk => ?_⟩)
    obtain rfl := nI_i ex ex2 (by omega) (by omega)
    obtain rfl := nI_i ey ey2 (by omega) (by omega)
    rw [w2, w5] at hr0
    rw [hrr.trans hr0.symm]
    exact h8 fv2 ar2 (hR.kM hk)
theorem pr_best (x y : Int32) : PR false T6_best T7_best [.ref 0, .int x, .int y] := by
  intro c d k r tr kr rd lw kl ik ri fv ar n li Ps ft tg tx Q hR hL hl he hQ
  obtain ⟨⟨rfl, hco⟩, hr, ht, hs, hi, hx⟩ := id hR
  obtain ⟨sz, ⟨z1, z2, ⟨lk, z3, z4⟩, ⟨aw2, z5, z6⟩, z7, z8⟩, w1, w2, w3, w4, w5, w6⟩ := id hr
  
  refine ⟨_, _, _, _, _, _, _, _, _, _, _, _, _, _, _, _, _, _, _, x, y, sz, lk, aw2, z1, z2, z3, z4, z5, z6, z7, z8, rfl, rfl, fun hb => ?_, fun m hm ex hy r0 hr0 tr2 => ?_⟩
  · exact hQ _ _ _ _ _ _ _ _ _ _ _ _ _ _ _ _ _ _ rfl (fun Q7 h8 => ⟨fv, ar, x, y, sz, lk, aw2, r.2.1, z1, w1, z3, w4.symm.trans z4, z5, w6.symm.trans z6, w3, z7, rfl, rfl, fun _ => h8 fv ar hR, fun m hm ex hy => (me_c hb ex (by omega) (by omega) hy).elim⟩)
  · refine hQ _ _ _ _ _ _ _ _ _ _ _ _ _ _ _ _ _ _ rfl (fun Q7 h8 => ⟨fv, ar, x, y, sz, lk, aw2, r.2.1, z1, w1, z3, w4.symm.trans z4, z5, w6.symm.trans z6, w3, z7, rfl, rfl, fun hb => (me_c hb ex (by omega) (by omega) hy).elim, fun m2 hm2 ex2 _ rr hrr fv2 ar2 hk => ?_⟩)
    obtain rfl := nI_i ex ex2 (by omega) (by omega)
    rw [w2, w5] at hr0
    have e : rr = r0 := by
      obtain ⟨i, v, hiv⟩ := bs_some (f := bsV (ar 8) (fv 11) aw2 r.2.1 sz m) 7
      rw [hrr i v hiv, hr0 i v hiv]
    rw [e]
    exact h8 fv2 ar2 (hR.kM hk)
theorem pr_first (x y : Int32) : PR false T6_first T7_first [.ref 0, .int x, .int y] := by
  intro c d k r tr kr rd lw kl ik ri fv ar n li Ps ft tg tx Q hR hL hl he hQ
  obtain ⟨⟨rfl, hco⟩, hr, ht, hs, hi, hx⟩ := id hR
  obtain ⟨sz, ⟨z1, z2, ⟨lk, z3, z4⟩, ⟨aw2, z5, z6⟩, z7, z8⟩, w1, w2, w3, w4, w5, w6⟩ := id hr
  
  refine ⟨_, _, _, _, _, _, _, _, _, _, _, _, _, _, _, _, _, _, _, x, y, sz, lk, aw2, z1, z2, z3, z4, z5, z6, z7, z8, rfl, rfl, fun hb => ?_, fun m hm ex hy r0 hr0 tr2 => ?_⟩
  · exact hQ _ _ _ _ _ _ _ _ _ _ _ _ _ _ _ _ _ _ rfl (fun Q7 h8 => ⟨fv, ar, x, y, sz, lk, aw2, r.2.1, z1, w1, z3, w4.symm.trans z4, z5, w6.symm.trans z6, w3, z7, rfl, rfl, fun _ => h8 fv ar hR, fun m hm ex hy => (me_c hb ex (by omega) (by omega) hy).elim⟩)
  · refine hQ _ _ _ _ _ _ _ _ _ _ _ _ _ _ _ _ _ _ rfl (fun Q7 h8 => ⟨fv, ar, x, y, sz, lk, aw2, r.2.1, z1, w1, z3, w4.symm.trans z4, z5, w6.symm.trans z6, w3, z7, rfl, rfl, fun hb => (me_c hb ex (by omega) (by omega) hy).elim, fun m2 hm2 ex2 _ rr hrr fv2 ar2 hk => ?_⟩)
    obtain rfl := nI_i ex ex2 (by omega) (by omega)
    rw [w2, w5] at hr0
    rw [hrr.trans hr0.symm]
    exact h8 fv2 ar2 (hR.kM hk)
theorem pr_rule (x o v : Int32) : PR false T6_rule T7_rule [.ref 0, .int x, .int o, .int v] := by
  intro c d k r tr kr rd lw kl ik ri fv ar n li Ps ft tg tx Q hR hL hl he hQ
  obtain ⟨⟨rfl, hco⟩, hr, ht, hs, hi, hx⟩ := id hR
  obtain ⟨sz, ⟨z1, z2, ⟨lk, z3, z4⟩, ⟨aw2, z5, z6⟩, z7, z8⟩, w1, w2, w3, w4, w5, w6⟩ := id hr
  
  refine ⟨_, _, _, _, _, _, _, _, _, _, _, _, _, _, _, _, _, _, _, x, o, v, sz, z1, z2, rfl, rfl, fun hb => ?_, fun e0 hno => ?_, fun j hj ex hof => ⟨fun hv => ?_, fun hv => ⟨fun i j0 hi2 eo => ?_, fun j1 => ?_, fun j2 => ?_, fun j3 => ?_⟩⟩⟩
  · exact hQ _ _ _ _ _ _ _ _ _ _ _ _ _ _ _ _ _ _ rfl (fun Q7 h8 => ⟨fv, ar, x, o, v, sz, z1, w1, rfl, rfl, fun _ => h8 fv ar hR, fun e0 _ => (wib_c hb e0 (by omega) (by omega)).elim, fun j hj ex _ => (wib_c hb ex (by omega) (by omega)).elim⟩)
  · refine hQ _ _ _ _ _ _ _ _ _ _ _ _ _ _ _ _ _ _ rfl (fun Q7 h8 => ⟨fv, ar, x, o, v, sz, z1, w1, rfl, rfl, fun hb => (wib_c hb e0 (by omega) (by omega)).elim, fun _ _ => h8 fv ar hR, fun j hj ex hof => ?_⟩)
    obtain rfl := nI_i e0 ex (by omega) (by omega)
    obtain ⟨i, hi2, eo⟩ := hof rfl
    exact absurd eo (hno i hi2)
  · refine hQ _ _ _ _ _ _ _ _ _ _ _ _ _ _ _ _ _ _ rfl (fun Q7 h8 => ⟨fv, ar, x, o, v, sz, z1, w1, rfl, rfl, fun hb => (wib_c hb ex (by omega) (by omega)).elim, fun e0 hno => ?_, fun j5 hj5 ex5 hof5 => ?_⟩)
    · obtain rfl := nI_i ex e0 (by omega) (by omega)
      obtain ⟨i, hi2, eo⟩ := hof rfl
      exact absurd eo (hno i hi2)
    · obtain rfl := nI_i ex ex5 (by omega) (by omega)
      exact ⟨fun _ => h8 fv ar hR, fun hv2 => (by rw [hv] at hv2; cases hv2)⟩
  · refine hQ _ _ _ _ _ _ _ _ _ _ _ _ _ _ _ _ _ _ rfl (fun Q7 h8 => ⟨fv, ar, x, o, v, sz, z1, w1, rfl, rfl, fun hb => (wib_c hb ex (by omega) (by omega)).elim, fun e0 hno => absurd eo (hno i hi2), fun j5 hj5 ex5 hof5 => ?_⟩)
    obtain rfl := nI_i ex ex5 (by omega) (by omega)
    subst j0
    refine ⟨fun hv2 => (by rw [hv] at hv2; cases hv2), fun _ => ⟨fun i5 _ hi5 eo5 => ?_, fun q => absurd q (by omega), fun q => absurd q (by omega), fun q => absurd q (by omega)⟩⟩
    obtain rfl := nI_i eo eo5 (by omega) (by omega)
    obtain ⟨b, -, hb, rfl⟩ := ru_n hv rfl rfl (by decide) (by decide)
    have hb : b ≤ 99 := hb
    rw [show ar 8 i = r.1 i by rw [w2]]
    refine h8 _ _ ⟨⟨rfl, hco⟩, ?_, ht, hs, hi, hx⟩
    exact ⟨sz, ⟨z1, z2, ⟨lk, z3, z4⟩, ⟨aw2, z5, z6⟩, z7, bOk_u9 z8 hb⟩, w1, (by show upd r.1 i (nI b) = upd (ar 8) i (nI b); rw [w2]), w3, w4, w5, w6⟩
  
  · refine hQ _ _ _ _ _ _ _ _ _ _ _ _ _ _ _ _ _ _ rfl (fun Q7 h8 => ⟨fv, ar, x, o, v, sz, z1, w1, rfl, rfl, fun hb => (wib_c hb ex (by omega) (by omega)).elim, fun e0 hno => absurd (nI_i ex e0 (by omega) (by omega)) (by omega), fun j5 hj5 ex5 hof5 => ?_⟩)
    obtain rfl := nI_i ex ex5 (by omega) (by omega)
    subst j1
    refine ⟨fun hv2 => (by rw [hv] at hv2; cases hv2), fun _ => ⟨fun i5 q _ _ => absurd q (by omega), fun _ => ?_, fun q => absurd q (by omega), fun q => absurd q (by omega)⟩⟩
    obtain ⟨b, hb1, hb, rfl⟩ := ru_n hv rfl rfl (by decide) (by decide)
    have hb : b ≤ 8 := hb
    rw [← w4]
    refine h8 _ _ ⟨⟨rfl, hco⟩, ?_, ht, hs, hi, hx⟩
    exact ⟨sz, ⟨z1, z2, ⟨b, hb, rfl⟩, ⟨aw2, z5, z6⟩, z7, z8⟩, w1, w2, w3, rfl, w5, w6⟩
  
  · refine hQ _ _ _ _ _ _ _ _ _ _ _ _ _ _ _ _ _ _ rfl (fun Q7 h8 => ⟨fv, ar, x, o, v, sz, z1, w1, rfl, rfl, fun hb => (wib_c hb ex (by omega) (by omega)).elim, fun e0 hno => absurd (nI_i ex e0 (by omega) (by omega)) (by omega), fun j5 hj5 ex5 hof5 => ?_⟩)
    obtain rfl := nI_i ex ex5 (by omega) (by omega)
    subst j2
    refine ⟨fun hv2 => (by rw [hv] at hv2; cases hv2), fun _ => ⟨fun i5 q _ _ => absurd q (by omega), fun q => absurd q (by omega), fun _ => ?_, fun q => absurd q (by omega)⟩⟩
    obtain ⟨b, hb1, hb, rfl⟩ := ru_n hv rfl rfl (by decide) (by decide)
    have hb : b ≤ 99 := hb
    rw [← w5]
    refine h8 _ _ ⟨⟨rfl, hco⟩, ?_, ht, hs, hi, hx⟩
    exact ⟨sz, ⟨z1, z2, ⟨lk, z3, z4⟩, ⟨aw2, z5, z6⟩, z7, z8⟩, w1, w2, w3, w4, rfl, w6⟩
  
  · refine hQ _ _ _ _ _ _ _ _ _ _ _ _ _ _ _ _ _ _ rfl (fun Q7 h8 => ⟨fv, ar, x, o, v, sz, z1, w1, rfl, rfl, fun hb => (wib_c hb ex (by omega) (by omega)).elim, fun e0 hno => absurd (nI_i ex e0 (by omega) (by omega)) (by omega), fun j5 hj5 ex5 hof5 => ?_⟩)
    obtain rfl := nI_i ex ex5 (by omega) (by omega)
    subst j3
    refine ⟨fun hv2 => (by rw [hv] at hv2; cases hv2), fun _ => ⟨fun i5 q _ _ => absurd q (by omega), fun q => absurd q (by omega), fun q => absurd q (by omega), fun _ => ?_⟩⟩
    obtain ⟨b, hb1, hb, rfl⟩ := ru_n hv rfl rfl (by decide) (by decide)
    have hb : b ≤ 5 := hb
    rw [← w6]
    refine h8 _ _ ⟨⟨rfl, hco⟩, ?_, ht, hs, hi, hx⟩
    exact ⟨sz, ⟨z1, z2, ⟨lk, z3, z4⟩, ⟨b, hb, rfl⟩, z7, z8⟩, w1, w2, w3, w4, w5, rfl⟩
theorem pr_image : PR false T_image T7_image [.ref 0] := by
  intro c d k r tr kr rd lw kl ik ri fv ar n li Ps ft tg tx Q hR hL hl he hQ
  obtain ⟨⟨rfl, hco⟩, hr, ht, hs, hi, hx⟩ := id hR
  obtain ⟨sz, ⟨z1, z2, ⟨lk, z3, z4⟩, ⟨aw2, z5, z6⟩, z7, z8⟩, w1, w2, w3, w4, w5, w6⟩ := id hr
  
  obtain ⟨x1, x2, x5, ⟨l2, x3, x6, x7⟩, x8⟩ := id hx
  refine ⟨_, _, _, _, _, _, _, _, _, _, _, _, _, _, _, _, _, _, _, rfl, rfl, hQ _ _ _ _ _ _ _ _ _ _ _ _ _ _ _ _ _ _ rfl (fun Q7 h8 => ⟨fv, ar, rfl, rfl, fun ro hro => ?_⟩)⟩
  rw [w1.trans z2.symm]
  refine h8 _ _ ⟨⟨rfl, hco⟩, hr, ht, hs, ?_, hx⟩
  refine ⟨rfl, fun _ => ⟨ar 9, sz, l2, hco, ⟨z1, z2, ⟨lk, z3, z4⟩, ⟨aw2, z5, z6⟩, z7, z8⟩, w3, z2, x3, x6, x7, ?_⟩⟩
  obtain ⟨i1, i2, i3, i4, i5, i6, i7, i8, i9⟩ := hro
  refine ⟨i1, fun j hj => ⟨(i2 j hj).1, ?_, (i2 j hj).2.2⟩, i3, i4, i5, i6, ?_, ?_, ?_⟩
  · show ro (20 + j) = r.1 j
    rw [w2]; exact (i2 j hj).2.1
  · exact i7.trans w4.symm
  · exact i8.trans w5.symm
  · exact i9.trans w6.symm
theorem pr_back : PR false T_back T7_back [.ref 0] := by
  intro c d k r tr kr rd lw kl ik ri fv ar n li Ps ft tg tx Q hR hL hl he hQ
  obtain ⟨⟨rfl, hco⟩, hr, ht, hs, hi, hx⟩ := id hR
  obtain ⟨v1, v2⟩ := id hi
  refine ⟨_, _, _, _, _, _, _, _, _, _, _, _, _, _, _, _, _, _, _, rfl, rfl, fun h0 => ?_, fun h0 => ?_⟩
  · exact hQ _ _ _ _ _ _ _ _ _ _ _ _ _ _ _ _ _ _ rfl (fun Q7 h8 => ⟨fv, ar, fv, ar, fun q => absurd (v1.symm.trans h0) q, rfl, rfl, fun _ => h8 fv ar hR, fun q => absurd (v1.symm.trans h0) q⟩)
  · have h1 : ¬ fv 19 = 0 := fun q => h0 (v1.trans q)
    obtain ⟨od, sz, l2, k1, ⟨z1, z2, z3, z5, z7, z8⟩, k3, k4, k5, k6, k7, k8⟩ := v2 h1
    obtain ⟨x1, x2, x5, -, x8⟩ := id hx
    refine hQ _ _ _ _ _ _ _ _ _ _ _ _ _ _ _ _ _ _ rfl (fun Q7 h8 => ⟨fv, ar, gvI k kr, brI k kr od, fun _ => k8, rfl, rfl, fun q => absurd q h1, fun _ => ?_⟩)
    rw [k4.trans z2.symm]
    refine h8 _ _ ⟨⟨rfl, k1⟩, ⟨sz, ⟨z1, z2, z3, z5, z7, z8⟩, z2, rfl, k3, rfl, rfl, rfl⟩, ht, hs, ⟨v1, fun _ => ⟨od, sz, l2, k1, ⟨z1, z2, z3, z5, z7, z8⟩, k3, ?_, k5, k6, k7, k8⟩⟩, x1, x2, x5, ⟨l2, k5, k6, k7⟩, x8⟩
    exact k4
theorem pr_feed (x b1 b2 b3 b4 b5 : Int32) : PR false T6_feed T7_feed [.ref 0, .int x, .int b1, .int b2, .int b3, .int b4, .int b5] := by
  intro c d k r tr kr rd lw kl ik ri fv ar n li Ps ft tg tx Q hR hL hl he hQ
  obtain ⟨⟨rfl, hco⟩, hr, ht, hs, hi, hx⟩ := id hR
  obtain ⟨y1, ⟨t, y2, y3, y4⟩, y5⟩ := id ht
  refine ⟨_, _, _, _, _, _, _, _, _, _, _, _, _, _, _, _, _, _, _, x, b1, b2, b3, b4, b5, t, y2, y3, rfl, rfl, fun hb => ?_, fun m h1 h2 ex hb => ⟨fun hbig => ?_, fun hsm => ?_⟩⟩
  · exact hQ _ _ _ _ _ _ _ _ _ _ _ _ _ _ _ _ _ _ rfl (fun Q7 h8 => ⟨fv, ar, x, b1, b2, b3, b4, b5, t, y2, y4, rfl, rfl, fun _ => h8 fv ar hR, fun m h1 h2 ex hb2 => (by rw [hb] at hb2; cases hb2)⟩)
  · refine hQ _ _ _ _ _ _ _ _ _ _ _ _ _ _ _ _ _ _ rfl (fun Q7 h8 => ⟨fv, ar, x, b1, b2, b3, b4, b5, t, y2, y4, rfl, rfl, fun hb2 => (by rw [hb] at hb2; cases hb2), fun m2 h3 h4 ex2 _ => ⟨fun _ => h8 fv ar hR, fun hsm => ?_⟩⟩)
    obtain rfl := nI_i ex ex2 (by omega) (by omega)
    omega
  · refine hQ _ _ _ _ _ _ _ _ _ _ _ _ _ _ _ _ _ _ rfl (fun Q7 h8 => ⟨fv, ar, x, b1, b2, b3, b4, b5, t, y2, y4, rfl, rfl, fun hb2 => (by rw [hb] at hb2; cases hb2), fun m2 h3 h4 ex2 _ => ⟨fun hbig => ?_, fun _ => ?_⟩⟩)
    · obtain rfl := nI_i ex ex2 (by omega) (by omega)
      omega
    obtain rfl := nI_i ex ex2 (by omega) (by omega)
    refine h8 _ _ ⟨⟨rfl, hco⟩, hr, ?_, hs, hi, hx⟩
    exact ⟨(by show fdF rd.1 t _ m = fdF (ar 13) t _ m; rw [y1]), ⟨t + m, hsm, rfl, rfl⟩, y5⟩
theorem pr_loadsBy (x y w z : Int32) : PR false T6_loadsBy T7_loadsBy [.ref 0, .int x, .int y, .int w, .int z] := by
  intro c d k r tr kr rd lw kl ik ri fv ar n li Ps ft tg tx Q hR hL hl he hQ
  obtain ⟨⟨rfl, hco⟩, hr, ht, hs, hi, hx⟩ := id hR
  have hln : loN0 (ar 3) := hco.2.2.1
  have hup : ∀ ce f i, Rel (ar 0, ar 1, ar 2, (liA ce f i (ar 3, 0)).1, ar 4, ar 6, fv 5) k r kr rd lw kl ik (shM ar 0) (shM ar 1) (shM ar 2) (shM ar 3) fv (upa ar 3 (liA ce f i (ar 3, 0)).1) n Ps := fun ce f i => by
    obtain ⟨c1, c2, c3, c4, c5, c6⟩ := hco
    exact ⟨⟨rfl, c1, c2, liA_nn c3 i, c4, c5, c6⟩, hr, ht, hs, hi, hx⟩
  have hbc : ∀ s N, s < 4 → x = nI s → N ≤ 20 → z = nI N → wiB y 2 = true → ¬ (wiB x 3 && wiB y 2 && wiB z 20) = false := fun s N h4 ex hN ez hy hb => by
    rw [ex, ez, hy, wiB_n (by omega) (by omega), wiB_n (by omega) (by omega)] at hb
    cases hb
  refine ⟨_, _, _, _, _, _, _, _, _, _, _, _, _, _, _, _, _, _, _, x, y, w, z, (fun s h4 => by rw [shM_W h4]; exact (hs.1 s h4).2), rfl, rfl, fun hb => ?_, fun s m N h4 ex hm hz hN ez hy => ?_⟩
  · exact hQ _ _ _ _ _ _ _ _ _ _ _ _ _ _ _ _ _ _ rfl (fun Q7 h8 => ⟨fv, ar, x, y, w, z, hs.1, hln, rfl, rfl, fun _ => h8 fv ar hR, fun s m N h4 ex hm hz hN ez hy => absurd hb (hbc s N h4 ex hN ez hy)⟩)
  rw [shM_W h4] at hz ⊢
  have key : ∀ (Q7 : Option Value → List zE → Prop), (∀ m2, m2 = m → (ar 23 s = -1 → Q7 (some (.int (-11))) (pM fv ar)) ∧ (¬ ar 23 s = -1 → ¬ ar 23 s = y → Q7 (some (.int (-13))) (pM fv ar)) ∧ (¬ ar 23 s = -1 → ar 23 s = y → (N = 0 → Q7 (some (.int (nI 0))) (pM fv ar)) ∧ (0 < N → w < 0 → Q7 (some (.int (-12))) (pM fv ar)) ∧ (∀ f, f < 2 ^ 31 → w = nI f → (∀ i, i < N → (i = 0 ∨ f + 2 * i ≤ m) → ¬ f + 2 * i + 2 ≤ m → Q7 (some (.int (-12))) (pM fv (upa ar 3 (liA (ceF (ar 25) s) f i (ar 3, 0)).1))) ∧ (f + 2 * N ≤ m → Q7 (some (.int (nI (liA (ceF (ar 25) s) f N (ar 3, 0)).2))) (pM fv (upa ar 3 (liA (ceF (ar 25) s) f N (ar 3, 0)).1)))))) → T7_loadsBy [.ref 0, .int x, .int y, .int w, .int z] (pM fv ar) Q7 := fun Q7 h => by
    refine ⟨fv, ar, x, y, w, z, hs.1, hln, rfl, rfl, fun hb => absurd hb (hbc s N h4 ex hN ez hy), fun s2 m2 N2 h42 ex2 hm2 hz2 hN2 ez2 hy2 => ?_⟩
    obtain rfl := nI_i ex ex2 (by omega) (by omega)
    obtain rfl := nI_i hz hz2 (by omega) (by omega)
    obtain rfl := nI_i ez ez2 (by omega) (by omega)
    exact h _ rfl
  refine ⟨fun hso => ?_, fun hso hne => ?_, fun hso heq => ⟨fun hN0 => ?_, fun hNp hw => ?_, fun f hf ew => ⟨fun i hiN hi1 hi2 => ?_, fun hall => ?_⟩⟩⟩
  · exact hQ _ _ _ _ _ _ _ _ _ _ _ _ _ _ _ _ _ _ rfl (fun Q7 h8 => key Q7 (fun _ _ => ⟨fun _ => h8 fv ar hR, fun q => absurd hso q, fun q => absurd hso q⟩))
  · exact hQ _ _ _ _ _ _ _ _ _ _ _ _ _ _ _ _ _ _ rfl (fun Q7 h8 => key Q7 (fun _ _ => ⟨fun q => absurd q hso, fun _ _ => h8 fv ar hR, fun _ q => absurd q hne⟩))
  · refine hQ _ _ _ _ _ _ _ _ _ _ _ _ _ _ _ _ _ _ rfl (fun Q7 h8 => key Q7 (fun _ _ => ⟨fun q => absurd q hso, fun _ q => absurd heq q, fun _ _ => ⟨fun _ => h8 fv ar hR, fun q => absurd q (by omega), fun f hf ew => ⟨fun i q => absurd q (by omega), fun _ => ?_⟩⟩⟩))
    subst hN0
    show Q7 (some (.int (nI 0))) (pM fv (upa ar 3 (ar 3)))
    rw [upa_self]
    exact h8 fv ar hR
  · refine hQ _ _ _ _ _ _ _ _ _ _ _ _ _ _ _ _ _ _ rfl (fun Q7 h8 => key Q7 (fun _ _ => ⟨fun q => absurd q hso, fun _ q => absurd heq q, fun _ _ => ⟨fun q => absurd q (by omega), fun _ _ => h8 fv ar hR, fun f hf ew => absurd hw (by rw [ew]; exact nn_nI hf)⟩⟩))
  · refine hQ _ _ _ _ _ _ _ _ _ _ _ _ _ _ _ _ _ _ rfl (fun Q7 h8 => key Q7 (fun _ _ => ⟨fun q => absurd q hso, fun _ q => absurd heq q, fun _ _ => ⟨fun q => absurd q (by omega), fun _ q => absurd q (by rw [ew]; exact nn_nI hf), fun f2 hf2 ew2 => ?_⟩⟩))
    obtain rfl := nI_i ew ew2 hf hf2
    refine ⟨fun i2 q1 q2 q3 => ?_, fun q => absurd q (by omega)⟩
    obtain rfl : i = i2 := by omega
    exact h8 _ _ (hup (ceF (ar 25) s) f i)
  · refine hQ _ _ _ _ _ _ _ _ _ _ _ _ _ _ _ _ _ _ rfl (fun Q7 h8 => key Q7 (fun _ _ => ⟨fun q => absurd q hso, fun _ q => absurd heq q, fun _ _ => ⟨fun q => ?_, fun _ q => absurd q (by rw [ew]; exact nn_nI hf), fun f2 hf2 ew2 => ?_⟩⟩))
    · subst q
      have h9 := h8 fv (upa ar 3 (ar 3)) (hup (ceF (ar 25) s) f 0)
      rw [upa_self] at h9
      exact h9
    obtain rfl := nI_i ew ew2 hf hf2
    exact ⟨fun i2 q1 q2 q3 => absurd q3 (by omega), fun _ => h8 _ _ (hup (ceF (ar 25) s) f N)⟩
theorem pr_taken (x y : Int32) : PR false T6_taken T7_taken [.ref 0, .int x, .int y] := by
  intro c d k r tr kr rd lw kl ik ri fv ar n li Ps ft tg tx Q hR hL hl he hQ
  obtain ⟨⟨rfl, hco⟩, hr, ht, hs, hi, hx⟩ := id hR
  refine ⟨_, _, _, _, _, _, _, _, _, _, _, _, _, _, _, _, _, _, _, x, y, hco.1, rfl, rfl, fun hb => ?_, fun hy hb => ?_, fun i k1 hi2 hk1 ex ey => ⟨fun g1 g2 => ?_, fun g1 g2 g3 => ?_, fun g1 g2 g3 => ?_, fun g1 g2 g3 => ?_, fun g1 g2 => ?_⟩⟩
  · exact hQ _ _ _ _ _ _ _ _ _ _ _ _ _ _ _ _ _ _ rfl (fun Q7 h8 => ⟨fv, ar, x, y, hco.1, rfl, rfl, fun _ => h8 fv ar hR, fun hy2 => (by rw [hb] at hy2; cases hy2), fun i k1 hi2 hk1 ex ey => (wib_c hb ey (by omega) (by omega)).elim⟩)
  · exact hQ _ _ _ _ _ _ _ _ _ _ _ _ _ _ _ _ _ _ rfl (fun Q7 h8 => ⟨fv, ar, x, y, hco.1, rfl, rfl, fun hb2 => (by rw [hy] at hb2; cases hb2), fun _ _ => h8 fv ar hR, fun i k1 hi2 hk1 ex ey => (wib_c hb ex (by omega) (by omega)).elim⟩)
  all_goals
    refine hQ _ _ _ _ _ _ _ _ _ _ _ _ _ _ _ _ _ _ rfl (fun Q7 h8 => ⟨fv, ar, x, y, hco.1, rfl, rfl, fun hb => (wib_c hb ey (by omega) (by omega)).elim, fun _ hb => (wib_c hb ex (by omega) (by omega)).elim, fun i9 k9 hi9 hk9 ex9 ey9 => ?_⟩)
    obtain rfl := nI_i ex ex9 (by omega) (by omega)
    obtain rfl := nI_i ey ey9 (by omega) (by omega)
  · exact ⟨fun _ _ => h8 fv ar hR, fun _ q => absurd g2 q, fun _ q => absurd g2 q, fun q => absurd q (by omega), fun q => absurd q (by omega)⟩
  · exact ⟨fun _ q => absurd q g2, fun _ _ _ => h8 fv ar hR, fun _ _ q => absurd g3 q, fun q => absurd q (by omega), fun q => absurd q (by omega)⟩
  · exact ⟨fun _ q => absurd q g2, fun _ _ q => absurd q g3, fun _ _ _ => h8 fv ar hR, fun q => absurd q (by omega), fun q => absurd q (by omega)⟩
  · exact ⟨fun q => absurd q (by omega), fun q => absurd q (by omega), fun q => absurd q (by omega), fun _ _ _ => h8 fv ar hR, fun _ q => (tk_c q (fun e => by omega) g3).elim⟩
  · exact ⟨fun q => absurd q (by omega), fun q => absurd q (by omega), fun q => absurd q (by omega), fun _ q1 q2 => (tk_c g2 (fun e => by omega) q2).elim, fun _ _ => h8 fv ar hR⟩
end
