/-! ===== call by call: sheets, films, the row ===== -/
theorem RelS_up {ar ar2 : Nat → fI} {s : Nat} {v : zSh} (h : shOk ar) (hs : s < 4) (e23 : ar2 23 = upd (ar 23) s v.1) (e24 : ar2 24 = upd (ar 24) s v.2.1) (e25 : ∀ j, ar2 25 j = if 40 * s ≤ j ∧ j < 40 * s + 40 then v.2.2 (j - 40 * s) else ar 25 j) (h1 : v.1 = -1 ∨ ∃ j, j < 3 ∧ v.1 = nI j) (h2 : ∃ n, n ≤ 40 ∧ v.2.1 = nI n) : RelS (shO 0 s v (shM ar 0)) (shO 1 s v (shM ar 1)) (shO 2 s v (shM ar 2)) (shO 3 s v (shM ar 3)) ar2 := by
  have key : ∀ t, t < 4 → shW (shO 0 s v (shM ar 0)) (shO 1 s v (shM ar 1)) (shO 2 s v (shM ar 2)) (shO 3 s v (shM ar 3)) t = if t = s then v else shM ar t := fun t ht => by
    rcases (show t = 0 ∨ t = 1 ∨ t = 2 ∨ t = 3 by omega) with rfl | rfl | rfl | rfl <;> rcases (show s = 0 ∨ s = 1 ∨ s = 2 ∨ s = 3 by omega) with rfl | rfl | rfl | rfl <;> rfl
  refine ⟨fun t ht => ?_, fun t ht => ?_⟩
  · rw [e23, e24]
    by_cases e : t = s
    · rw [e, pk_us, pk_us]
      exact ⟨h1, h2⟩
    · rw [pk_un e, pk_un e]
      exact h t ht
  · rw [key t ht, e23, e24]
    by_cases e : t = s
    · rw [if_pos e, e, pk_us, pk_us]
      refine ⟨rfl, rfl, fun i hi => ?_⟩
      have e9 : 40 * s + i - 40 * s = i := by omega
      rw [e25, if_pos ⟨by omega, by omega⟩, e9]
    · rw [if_neg e, pk_un e, pk_un e]
      refine ⟨rfl, rfl, fun i hi => ?_⟩
      rw [e25, if_neg (by omega)]
      rfl
theorem svP_ok {s : RS} {g m : Nat} (h : rOk s m) : ∀ n, g + n ≤ m → rOk (svP s g n) m
  | 0, _ => h
  | n + 1, hn => by
    rw [svP]
    exact psh_ok (svP_ok h n (by omega)) (by omega)
theorem srv_oOk {bd : fI} {be : Int32} {lk aw : Nat} {od : fI} {sz : Nat} {tk : fI} {n : Nat} (h1 : sz ≤ 8) (h2 : oOk od) : oOk (srv bd be lk aw od sz tk n).1 := by
  have h := svG_ok (bd := bd) (be := be) (lk := lk) (aw := aw) (s := (od, sz, tk, 0, 0, 0)) ⟨h1, h2, fun k hk => absurd hk (Nat.not_lt_zero k)⟩ n
  unfold srv
  exact (svP_ok h (n - (n - 1 - aw)) (by omega)).2.1
theorem liA_nn {ce : fI} {f : Nat} {lo : fI} {m : Nat} (h : loN0 lo) : ∀ i, loN0 (liA ce f i (lo, m)).1
  | 0 => h
  | i + 1 => by
    have ih := liA_nn (ce := ce) (f := f) (m := m) h i
    rw [liA]
    split
    · rename_i hb
      rw [Bool.and_eq_true] at hb
      obtain ⟨q, hq, e⟩ := wiB_t (n := 40) hb.2 (by omega)
      intro j hj
      show ¬ upd (liA ce f i (lo, m)).1 (cl (ce (f + 2 * i))) (ce (f + 2 * i + 1)) j < 0
      by_cases ej : j = cl (ce (f + 2 * i))
      · rw [ej, pk_us, e]; exact nn_nI (by omega)
      · rw [pk_un ej]; exact ih j hj
    · exact ih
theorem sh_c {x z : Int32} {s q : Nat} (hb : (wiB x 3 && wiB z 3) = false) (hs : s < 4) (hq : q < 4) (e1 : x = nI s) (e2 : z = nI q) : False := by
  rw [e1, e2, wiB_n (by omega) (by omega), wiB_n (by omega) (by omega)] at hb
  cases hb
theorem upd_self (f : fI) (k : Nat) : upd f k (f k) = f := by
  funext j
  by_cases e : j = k
  · rw [e, pk_us]
  · rw [pk_un e]
theorem upa_self (ar : Nat → fI) (k : Nat) : upa ar k (ar k) = ar := by
  funext j
  unfold upa
  cases hb : Nat.beq j k with
  | false => rfl
  | true => rw [Nat.eq_of_beq_eq_true hb]; rfl
section
theorem pr_judge (x : Int32) : PR false T6_judge T7_judge [.ref 0, .int x] := by
  intro c d k r tr kr rd lw kl ik ri fv ar n li Ps ft tg tx Q hR hL hl he hQ
  obtain ⟨⟨rfl, hco⟩, hr, ht, hs, hi, hx⟩ := id hR
  refine ⟨_, _, _, _, _, _, _, _, _, _, _, _, _, _, _, _, _, _, _, x, Ps li, hL, hco.1, (fun s h4 => by rw [shM_W h4]; exact (hs.1 s h4).2), rfl, rfl, fun hb => ?_, fun s h4 ex hf => ?_, fun s m h4 ex hf hm hz r0 hr0 ri2 nm2 sk2 => ?_⟩
  · exact hQ _ _ _ _ _ _ _ _ _ _ _ _ _ _ _ _ _ _ rfl (fun Q7 h8 => ⟨fv, ar, x, Ps li, mOk_of hR hl he, hs.1, rfl, rfl, fun _ => h8 fv ar hR, fun s h4 ex _ => (wib_c hb ex (by omega) (by omega)).elim, fun s m h4 ex _ _ _ => (wib_c hb ex (by omega) (by omega)).elim⟩)
  · rw [shM_W h4] at hf ⊢
    refine hQ _ _ _ _ _ _ _ _ _ _ _ _ _ _ _ _ _ _ rfl (fun Q7 h8 => ⟨fv, ar, x, Ps li, mOk_of hR hl he, hs.1, rfl, rfl, fun hb => (wib_c hb ex (by omega) (by omega)).elim, fun s2 h2 ex2 _ => ?_, fun s2 m h2 ex2 hf2 _ _ => ?_⟩)
    · obtain rfl := nI_i ex ex2 (by omega) (by omega)
      exact h8 fv ar hR
    · obtain rfl := nI_i ex ex2 (by omega) (by omega)
      exact absurd hf2 hf
  · rw [shM_W h4] at hf hz hr0
    refine hQ _ _ _ _ _ _ _ _ _ _ _ _ _ _ _ _ _ _ rfl (fun Q7 h8 => ⟨fv, ar, x, Ps li, mOk_of hR hl he, hs.1, rfl, rfl, fun hb => (wib_c hb ex (by omega) (by omega)).elim, fun s2 h2 ex2 hf2 => ?_, fun s2 m2 h2 ex2 hf2 hm2 hz2 rr hrr fv2 ar2 hk => ?_⟩)
    · obtain rfl := nI_i ex ex2 (by omega) (by omega)
      exact absurd hf hf2
    · obtain rfl := nI_i ex ex2 (by omega) (by omega)
      obtain rfl := nI_i hz hz2 (by omega) (by omega)
      rw [hrr.trans hr0.symm]
      exact h8 fv2 ar2 (hR.kM hk)
theorem pr_which (x : Int32) : PR false T6_which T7_which [.ref 0, .int x] := by
  intro c d k r tr kr rd lw kl ik ri fv ar n li Ps ft tg tx Q hR hL hl he hQ
  obtain ⟨⟨rfl, hco⟩, hr, ht, hs, hi, hx⟩ := id hR
  refine ⟨_, _, _, _, _, _, _, _, _, _, _, _, _, _, _, _, _, _, _, x, Ps li, hL, hco.1, (fun s h4 => by rw [shM_W h4]; exact (hs.1 s h4).2), rfl, rfl, fun hb => ?_, fun s h4 ex hf => ?_, fun s m h4 ex hf hm hz r0 hr0 d2 ri2 nm2 sk2 => ?_⟩
  · exact hQ _ _ _ _ _ _ _ _ _ _ _ _ _ _ _ _ _ _ rfl (fun Q7 h8 => ⟨fv, ar, x, Ps li, mOk_of hR hl he, hs.1, rfl, rfl, fun _ => h8 fv ar hR, fun s h4 ex _ => (wib_c hb ex (by omega) (by omega)).elim, fun s m h4 ex _ _ _ => (wib_c hb ex (by omega) (by omega)).elim⟩)
  · rw [shM_W h4] at hf ⊢
    refine hQ _ _ _ _ _ _ _ _ _ _ _ _ _ _ _ _ _ _ rfl (fun Q7 h8 => ⟨fv, ar, x, Ps li, mOk_of hR hl he, hs.1, rfl, rfl, fun hb => (wib_c hb ex (by omega) (by omega)).elim, fun s2 h2 ex2 _ => ?_, fun s2 m h2 ex2 hf2 _ _ => ?_⟩)
    · obtain rfl := nI_i ex ex2 (by omega) (by omega)
      exact h8 fv ar hR
    · obtain rfl := nI_i ex ex2 (by omega) (by omega)
      exact absurd hf2 hf
  · rw [shM_W h4] at hf hz hr0
    refine hQ _ _ _ _ _ _ _ _ _ _ _ _ _ _ _ _ _ _ rfl (fun Q7 h8 => ⟨fv, ar, x, Ps li, mOk_of hR hl he, hs.1, rfl, rfl, fun hb => (wib_c hb ex (by omega) (by omega)).elim, fun s2 h2 ex2 hf2 => ?_, fun s2 m2 h2 ex2 hf2 hm2 hz2 rr hrr fv2 ar2 hk => ?_⟩)
    · obtain rfl := nI_i ex ex2 (by omega) (by omega)
      exact absurd hf hf2
    · obtain rfl := nI_i ex ex2 (by omega) (by omega)
      obtain rfl := nI_i hz hz2 (by omega) (by omega)
      rw [hrr.trans hr0.symm]
      exact h8 fv2 ar2 (hR.kM hk)
theorem pr_held (x y : Int32) : PR false T6_held T7_held [.ref 0, .int x, .int y] := by
  intro c d k r tr kr rd lw kl ik ri fv ar n li Ps ft tg tx Q hR hL hl he hQ
  obtain ⟨⟨rfl, hco⟩, hr, ht, hs, hi, hx⟩ := id hR
  refine ⟨_, _, _, _, _, _, _, _, _, _, _, _, _, _, _, _, _, _, _, x, y, Ps li, hL, hco.1, (fun s h4 => by rw [shM_W h4]; exact (hs.1 s h4).2), rfl, rfl, fun hb => ?_, fun s h4 ex hf => ?_, fun s h4 ex hf hy => ?_, fun s m j h4 ex hf hm hz hj ey r0 hr0 d2 ri2 nm2 sk2 => ?_⟩
  · exact hQ _ _ _ _ _ _ _ _ _ _ _ _ _ _ _ _ _ _ rfl (fun Q7 h8 => ⟨fv, ar, x, y, Ps li, mOk_of hR hl he, hs.1, rfl, rfl, fun _ => h8 fv ar hR, fun s h4 ex _ => (wib_c hb ex (by omega) (by omega)).elim, fun s h4 ex _ _ => (wib_c hb ex (by omega) (by omega)).elim, fun s m j h4 ex _ _ _ _ _ => (wib_c hb ex (by omega) (by omega)).elim⟩)
  · rw [shM_W h4] at hf ⊢
    refine hQ _ _ _ _ _ _ _ _ _ _ _ _ _ _ _ _ _ _ rfl (fun Q7 h8 => ⟨fv, ar, x, y, Ps li, mOk_of hR hl he, hs.1, rfl, rfl, fun hb => (wib_c hb ex (by omega) (by omega)).elim, fun s2 h2 ex2 _ => ?_, fun s2 h2 ex2 hf2 _ => ?_, fun s2 m j h2 ex2 hf2 _ _ _ _ => ?_⟩)
    · obtain rfl := nI_i ex ex2 (by omega) (by omega)
      exact h8 fv ar hR
    · obtain rfl := nI_i ex ex2 (by omega) (by omega)
      exact absurd hf2 hf
    · obtain rfl := nI_i ex ex2 (by omega) (by omega)
      exact absurd hf2 hf
  · rw [shM_W h4] at hf
    refine hQ _ _ _ _ _ _ _ _ _ _ _ _ _ _ _ _ _ _ rfl (fun Q7 h8 => ⟨fv, ar, x, y, Ps li, mOk_of hR hl he, hs.1, rfl, rfl, fun hb => (wib_c hb ex (by omega) (by omega)).elim, fun s2 h2 ex2 hf2 => ?_, fun s2 h2 ex2 hf2 _ => h8 fv ar hR, fun s2 m j h2 ex2 hf2 _ _ hj ey => (wib_c hy ey (by omega) (by omega)).elim⟩)
    obtain rfl := nI_i ex ex2 (by omega) (by omega)
    exact absurd hf hf2
  · rw [shM_W h4] at hf hz hr0
    refine hQ _ _ _ _ _ _ _ _ _ _ _ _ _ _ _ _ _ _ rfl (fun Q7 h8 => ⟨fv, ar, x, y, Ps li, mOk_of hR hl he, hs.1, rfl, rfl, fun hb => (wib_c hb ex (by omega) (by omega)).elim, fun s2 h2 ex2 hf2 => ?_, fun s2 h2 ex2 hf2 hy => (wib_c hy ey (by omega) (by omega)).elim, fun s2 m2 j2 h2 ex2 hf2 hm2 hz2 hj2 ey2 rr hrr fv2 ar2 hk => ?_⟩)
    · obtain rfl := nI_i ex ex2 (by omega) (by omega)
      exact absurd hf hf2
    · obtain rfl := nI_i ex ex2 (by omega) (by omega)
      obtain rfl := nI_i hz hz2 (by omega) (by omega)
      obtain rfl := nI_i ey ey2 (by omega) (by omega)
      rw [hrr.trans hr0.symm]
      exact h8 fv2 ar2 (hR.kM hk)
theorem pr_kinds (x y z : Int32) : PR false T6_kinds T7_kinds [.ref 0, .int x, .int y, .int z] := by
  intro c d k r tr kr rd lw kl ik ri fv ar n li Ps ft tg tx Q hR hL hl he hQ
  obtain ⟨⟨rfl, hco⟩, hr, ht, hs, hi, hx⟩ := id hR
  refine ⟨_, _, _, _, _, _, _, _, _, _, _, _, _, _, _, _, _, _, _, x, y, z, Ps li, hL, hco.1, (fun s h4 => by rw [shM_W h4]; exact (hs.1 s h4).2), rfl, rfl, fun hb => ?_, fun s h4 ex hf => ?_, fun s h4 ex hf hy => ?_, fun s h4 ex hf hy hz => ?_, fun s m w j h4 ex hf hm hz hw ey hj ez r0 hr0 d2 ri2 nm2 sk2 => ?_⟩
  · exact hQ _ _ _ _ _ _ _ _ _ _ _ _ _ _ _ _ _ _ rfl (fun Q7 h8 => ⟨fv, ar, x, y, z, Ps li, mOk_of hR hl he, hs.1, rfl, rfl, fun _ => h8 fv ar hR, fun s h4 ex _ => (wib_c hb ex (by omega) (by omega)).elim, fun s h4 ex _ _ => (wib_c hb ex (by omega) (by omega)).elim, fun s h4 ex _ _ _ => (wib_c hb ex (by omega) (by omega)).elim, fun s m w j h4 ex _ _ _ _ _ _ _ => (wib_c hb ex (by omega) (by omega)).elim⟩)
  · rw [shM_W h4] at hf ⊢
    refine hQ _ _ _ _ _ _ _ _ _ _ _ _ _ _ _ _ _ _ rfl (fun Q7 h8 => ⟨fv, ar, x, y, z, Ps li, mOk_of hR hl he, hs.1, rfl, rfl, fun hb => (wib_c hb ex (by omega) (by omega)).elim, fun s2 h2 ex2 _ => ?_, fun s2 h2 ex2 hf2 _ => ?_, fun s2 h2 ex2 hf2 _ _ => ?_, fun s2 m w j h2 ex2 hf2 _ _ _ _ _ _ => ?_⟩)
    · obtain rfl := nI_i ex ex2 (by omega) (by omega)
      exact h8 fv ar hR
    all_goals
      obtain rfl := nI_i ex ex2 (by omega) (by omega)
      exact absurd hf2 hf
  · rw [shM_W h4] at hf
    refine hQ _ _ _ _ _ _ _ _ _ _ _ _ _ _ _ _ _ _ rfl (fun Q7 h8 => ⟨fv, ar, x, y, z, Ps li, mOk_of hR hl he, hs.1, rfl, rfl, fun hb => (wib_c hb ex (by omega) (by omega)).elim, fun s2 h2 ex2 hf2 => ?_, fun s2 h2 ex2 hf2 _ => h8 fv ar hR, fun s2 h2 ex2 hf2 hy2 _ => (by rw [hy] at hy2; cases hy2), fun s2 m w j h2 ex2 hf2 _ _ hw ey _ _ => (wib_c hy ey (by omega) (by omega)).elim⟩)
    obtain rfl := nI_i ex ex2 (by omega) (by omega)
    exact absurd hf hf2
  · rw [shM_W h4] at hf
    refine hQ _ _ _ _ _ _ _ _ _ _ _ _ _ _ _ _ _ _ rfl (fun Q7 h8 => ⟨fv, ar, x, y, z, Ps li, mOk_of hR hl he, hs.1, rfl, rfl, fun hb => (wib_c hb ex (by omega) (by omega)).elim, fun s2 h2 ex2 hf2 => ?_, fun s2 h2 ex2 hf2 hy2 => (by rw [hy] at hy2; cases hy2), fun s2 h2 ex2 hf2 _ _ => h8 fv ar hR, fun s2 m w j h2 ex2 hf2 _ _ hw ey hj ez => (wib_c hz ez (by omega) (by omega)).elim⟩)
    obtain rfl := nI_i ex ex2 (by omega) (by omega)
    exact absurd hf hf2
  · rw [shM_W h4] at hf hz hr0
    refine hQ _ _ _ _ _ _ _ _ _ _ _ _ _ _ _ _ _ _ rfl (fun Q7 h8 => ⟨fv, ar, x, y, z, Ps li, mOk_of hR hl he, hs.1, rfl, rfl, fun hb => (wib_c hb ex (by omega) (by omega)).elim, fun s2 h2 ex2 hf2 => ?_, fun s2 h2 ex2 hf2 hy => (wib_c hy ey (by omega) (by omega)).elim, fun s2 h2 ex2 hf2 _ hz2 => (wib_c hz2 ez (by omega) (by omega)).elim, fun s2 m2 w2 j2 h2 ex2 hf2 hm2 hz2 hw2 ey2 hj2 ez2 rr hrr fv2 ar2 hk => ?_⟩)
    · obtain rfl := nI_i ex ex2 (by omega) (by omega)
      exact absurd hf hf2
    · obtain rfl := nI_i ex ex2 (by omega) (by omega)
      obtain rfl := nI_i hz hz2 (by omega) (by omega)
      obtain rfl := nI_i ey ey2 (by omega) (by omega)
      obtain rfl := nI_i ez ez2 (by omega) (by omega)
      rw [hrr.trans hr0.symm]
      exact h8 fv2 ar2 (hR.kM hk)
theorem pr_film (x y : Int32) : PR false T6_film T7_film [.ref 0, .int x, .int y] := by
  intro c d k r tr kr rd lw kl ik ri fv ar n li Ps ft tg tx Q hR hL hl he hQ
  obtain ⟨⟨rfl, hco⟩, hr, ht, hs, hi, hx⟩ := id hR
  refine ⟨_, _, _, _, _, _, _, _, _, _, _, _, _, _, _, _, _, _, _, x, y, Ps li, hL, hco.1, rfl, rfl, fun hb => ?_, fun s m h4 ex hm ey ri2 nm2 sk2 => ?_⟩
  · exact hQ _ _ _ _ _ _ _ _ _ _ _ _ _ _ _ _ _ _ rfl (fun Q7 h8 => ⟨fv, ar, x, y, Ps li, mOk_of hR hl he, rfl, rfl, fun _ => h8 fv ar hR, fun s m h4 ex hm ey => (by rw [ex, ey, wiB_n (by omega) (by omega), wiB_n (by omega) (by omega)] at hb; cases hb)⟩)
  · refine hQ _ _ _ _ _ _ _ _ _ _ _ _ _ _ _ _ _ _ rfl (fun Q7 h8 => ⟨fv, ar, x, y, Ps li, mOk_of hR hl he, rfl, rfl, fun hb => (by rw [ex, ey, wiB_n (by omega) (by omega), wiB_n (by omega) (by omega)] at hb; cases hb), fun s2 m2 h2 ex2 hm2 ey2 fv2 ar2 hk => ?_⟩)
    obtain rfl := nI_i ex ex2 (by omega) (by omega)
    obtain rfl := nI_i ey ey2 (by omega) (by omega)
    refine h8 fv2 ar2 (Rel.kM (fv := fv) (ar := upa (upa (upa ar 23 (upd (ar 23) s (nI 2))) 24 (upd (ar 24) s (nI m))) 25 (seF (ar 25) s (fiF (cM fv ar) (Ps li) m) 40)) ⟨⟨rfl, hco⟩, hr, ht, ?_, hi, hx⟩ hk)
    exact RelS_up (v := (nI 2, nI m, fiF (cM fv ar) (Ps li) m)) hs.1 h4 rfl rfl (fun j => rfl) (Or.inr ⟨2, by omega, rfl⟩) ⟨m, by omega, rfl⟩
theorem pr_sheet (x y z : Int32) : PR false T6_sheet T7_sheet [.ref 0, .int x, .int y, .int z] := by
  intro c d k r tr kr rd lw kl ik ri fv ar n li Ps ft tg tx Q hR hL hl he hQ
  obtain ⟨⟨rfl, hco⟩, hr, ht, hs, hi, hx⟩ := id hR
  refine ⟨_, _, _, _, _, _, _, _, _, _, _, _, _, _, _, _, _, _, _, x, y, z, rfl, rfl, fun hb => ?_, fun s h4 ex ha hb2 => ⟨fun hy hz => ?_, fun hy hz => ?_, fun hyz => ?_⟩⟩
  · refine hQ _ _ _ _ _ _ _ _ _ _ _ _ _ _ _ _ _ _ rfl (fun Q7 h8 => ⟨fv, ar, x, y, z, rfl, rfl, fun _ => h8 fv ar hR, fun s h4 ex ha hb2 => ?_⟩)
    rw [ex, wiB_n (by omega) (by omega), decide_eq_true ha, decide_eq_true hb2] at hb
    cases hb
  · refine hQ _ _ _ _ _ _ _ _ _ _ _ _ _ _ _ _ _ _ rfl (fun Q7 h8 => ⟨fv, ar, x, y, z, rfl, rfl, fun hb => ?_, fun s2 h2 ex2 _ _ => ⟨fun _ _ => h8 fv ar hR, fun _ hz2 => ?_, fun hyz => ?_⟩⟩)
    · rw [ex, wiB_n (by omega) (by omega), decide_eq_true ha, decide_eq_true hb2] at hb
      cases hb
    · exact absurd (Int32.lt_trans hz hz2) (show ¬ nI 40 < 0 by decide)
    · exact hyz.elim (fun e => absurd e hy) (fun e => absurd hz e.1)
  · refine hQ _ _ _ _ _ _ _ _ _ _ _ _ _ _ _ _ _ _ rfl (fun Q7 h8 => ⟨fv, ar, x, y, z, rfl, rfl, fun hb => ?_, fun s2 h2 ex2 _ _ => ⟨fun _ hz2 => ?_, fun _ _ => h8 fv ar hR, fun hyz => ?_⟩⟩)
    · rw [ex, wiB_n (by omega) (by omega), decide_eq_true ha, decide_eq_true hb2] at hb
      cases hb
    · exact absurd (Int32.lt_trans hz2 hz) (show ¬ nI 40 < 0 by decide)
    · exact hyz.elim (fun e => absurd e hy) (fun e => absurd hz e.2)
  · refine hQ _ _ _ _ _ _ _ _ _ _ _ _ _ _ _ _ _ _ rfl (fun Q7 h8 => ⟨fv, ar, x, y, z, rfl, rfl, fun hb => ?_, fun s2 h2 ex2 _ _ => ⟨fun hy hz2 => ?_, fun hy hz2 => ?_, fun _ => ?_⟩⟩)
    · rw [ex, wiB_n (by omega) (by omega), decide_eq_true ha, decide_eq_true hb2] at hb
      cases hb
    · exact hyz.elim (fun e => absurd e hy) (fun e => absurd hz2 e.1)
    · exact hyz.elim (fun e => absurd e hy) (fun e => absurd hz2 e.2)
    obtain rfl := nI_i ex ex2 (by omega) (by omega)
    refine h8 _ _ ⟨⟨rfl, hco⟩, hr, ht, ?_, hi, hx⟩
    refine RelS_up (v := (y, (if y = -1 then 0 else z), fun _ => 0)) hs.1 h4 rfl rfl (fun j => rfl) ?_ ?_
    · show y = -1 ∨ ∃ j, j < 3 ∧ y = nI j
      rcases pk_ix y (show 3 < 2 ^ 31 by omega) with h | h | ⟨j, h, e⟩
      · refine Or.inl ?_
        have h1 := Int32.lt_iff_toInt_lt.mp h
        have h2 := Int32.le_iff_toInt_le.mp ha
        apply Int32.toInt_inj.mp
        have e1 : (-1 : Int32).toInt = -1 := by decide
        have e2 : (0 : Int32).toInt = 0 := by decide
        omega
      · exact absurd (Int32.le_trans h hb2) (show ¬ nI 3 ≤ nI 2 by decide)
      · exact Or.inr ⟨j, h, e⟩
    · show ∃ n, n ≤ 40 ∧ (if y = -1 then 0 else z) = nI n
      by_cases ey : y = -1
      · rw [if_pos ey]
        exact ⟨0, by omega, rfl⟩
      · rw [if_neg ey]
        have hz := hyz.resolve_left ey
        rcases pk_ix z (show 41 < 2 ^ 31 by omega) with h | h | ⟨j, h, e⟩
        · exact absurd h hz.2
        · exact absurd (Int32.lt_of_lt_of_le (show nI 40 < nI 41 by decide) h) hz.1
        · exact ⟨j, by omega, e⟩
theorem pr_cell (x y z : Int32) : PR false T6_cell T7_cell [.ref 0, .int x, .int y, .int z] := by
  intro c d k r tr kr rd lw kl ik ri fv ar n li Ps ft tg tx Q hR hL hl he hQ
  obtain ⟨⟨rfl, hco⟩, hr, ht, hs, hi, hx⟩ := id hR
  refine ⟨_, _, _, _, _, _, _, _, _, _, _, _, _, _, _, _, _, _, _, x, y, z, (fun s h4 => by rw [shM_W h4]; exact (hs.1 s h4).2), rfl, rfl, fun hb => ?_, fun s m h4 ex hm hz => ⟨fun hso => ?_, fun hso hno => ?_, fun i hso hi2 ey => ?_⟩⟩
  · exact hQ _ _ _ _ _ _ _ _ _ _ _ _ _ _ _ _ _ _ rfl (fun Q7 h8 => ⟨fv, ar, x, y, z, hs.1, rfl, rfl, fun _ => h8 fv ar hR, fun s m h4 ex _ _ => (wib_c hb ex (by omega) (by omega)).elim⟩)
  · rw [shM_W h4] at hso hz
    refine hQ _ _ _ _ _ _ _ _ _ _ _ _ _ _ _ _ _ _ rfl (fun Q7 h8 => ⟨fv, ar, x, y, z, hs.1, rfl, rfl, fun hb => (wib_c hb ex (by omega) (by omega)).elim, fun s2 m2 h2 ex2 hm2 hz2 => ?_⟩)
    obtain rfl := nI_i ex ex2 (by omega) (by omega)
    exact ⟨fun _ => h8 fv ar hR, fun hso2 _ => absurd hso hso2, fun i hso2 _ _ => absurd hso hso2⟩
  · rw [shM_W h4] at hso hz
    refine hQ _ _ _ _ _ _ _ _ _ _ _ _ _ _ _ _ _ _ rfl (fun Q7 h8 => ⟨fv, ar, x, y, z, hs.1, rfl, rfl, fun hb => (wib_c hb ex (by omega) (by omega)).elim, fun s2 m2 h2 ex2 hm2 hz2 => ?_⟩)
    obtain rfl := nI_i ex ex2 (by omega) (by omega)
    obtain rfl := nI_i hz hz2 (by omega) (by omega)
    exact ⟨fun hso2 => absurd hso2 hso, fun _ _ => h8 fv ar hR, fun i _ hi2 ey => absurd ey (hno i hi2)⟩
  · rw [shM_W h4] at hso hz ⊢
    refine hQ _ _ _ _ _ _ _ _ _ _ _ _ _ _ _ _ _ _ rfl (fun Q7 h8 => ⟨fv, ar, x, y, z, hs.1, rfl, rfl, fun hb => (wib_c hb ex (by omega) (by omega)).elim, fun s2 m2 h2 ex2 hm2 hz2 => ?_⟩)
    obtain rfl := nI_i ex ex2 (by omega) (by omega)
    obtain rfl := nI_i hz hz2 (by omega) (by omega)
    refine ⟨fun hso2 => absurd hso2 hso, fun _ hno => absurd ey (hno i hi2), fun i2 _ hi3 ey2 => ?_⟩
    obtain rfl := nI_i ey ey2 (by omega) (by omega)
    refine h8 _ _ ⟨⟨rfl, hco⟩, hr, ht, ?_, hi, hx⟩
    refine RelS_up (v := ((shM ar s).1, (shM ar s).2.1, upd (shM ar s).2.2 i (cutF (shM ar s).1 z))) hs.1 h4 ?_ ?_ (fun j => ?_) (hs.1 s h4).1 (hs.1 s h4).2
    · exact (upd_self (ar 23) s).symm
    · exact (upd_self (ar 24) s).symm
    · show upd (ar 25) (40 * s + i) (cutF (ar 23 s) z) j = if 40 * s ≤ j ∧ j < 40 * s + 40 then upd (ceF (ar 25) s) i (cutF (ar 23 s) z) (j - 40 * s) else ar 25 j
      by_cases ej : j = 40 * s + i
      · rw [ej, pk_us, if_pos ⟨by omega, by omega⟩, show 40 * s + i - 40 * s = i by omega, pk_us]
      · rw [pk_un ej]
        by_cases hj : 40 * s ≤ j ∧ j < 40 * s + 40
        · rw [if_pos hj, pk_un (by omega)]
          show ar 25 j = ar 25 (40 * s + (j - 40 * s))
          congr 1
          omega
        · rw [if_neg hj]
theorem pr_copy (x y z w v : Int32) : PR false T6_copy T7_copy [.ref 0, .int x, .int y, .int z, .int w, .int v] := by
  intro c d k r tr kr rd lw kl ik ri fv ar n li Ps ft tg tx Q hR hL hl he hQ
  obtain ⟨⟨rfl, hco⟩, hr, ht, hs, hi, hx⟩ := id hR
  refine ⟨_, _, _, _, _, _, _, _, _, _, _, _, _, _, _, _, _, _, _, x, y, z, w, v, (fun s h4 => by rw [shM_W h4]; exact (hs.1 s h4).2), rfl, rfl, fun hb => ?_, fun s q2 m m2 h4 ex hq ez hm hz1 hm2 hz2 => ⟨fun hso => ?_, fun ha hb2 hne => ?_, fun ha hb2 heq => ⟨fun hneg => ?_, fun a b k1 ha2 hb3 hk1 ey ew ev => ⟨fun hno => ?_, fun g1 g2 => ?_⟩⟩⟩⟩
  · exact hQ _ _ _ _ _ _ _ _ _ _ _ _ _ _ _ _ _ _ rfl (fun Q7 h8 => ⟨fv, ar, x, y, z, w, v, hs.1, rfl, rfl, fun _ => h8 fv ar hR, fun s q2 m m2 h4 ex hq ez _ _ _ _ => (sh_c hb h4 hq ex ez).elim⟩)
  all_goals
    rw [shM_W h4] at *
    rw [shM_W hq] at *
  · refine hQ _ _ _ _ _ _ _ _ _ _ _ _ _ _ _ _ _ _ rfl (fun Q7 h8 => ⟨fv, ar, x, y, z, w, v, hs.1, rfl, rfl, fun hb => (sh_c hb h4 hq ex ez).elim, fun s3 q3 m3 m4 h43 ex3 hq3 ez3 hm3 hz3 hm4 hz4 => ?_⟩)
    obtain rfl := nI_i ex ex3 (by omega) (by omega)
    obtain rfl := nI_i ez ez3 (by omega) (by omega)
    exact ⟨fun _ => h8 fv ar hR, fun ha hb2 _ => (hso.elim ha hb2).elim, fun ha hb2 _ => (hso.elim ha hb2).elim⟩
  · refine hQ _ _ _ _ _ _ _ _ _ _ _ _ _ _ _ _ _ _ rfl (fun Q7 h8 => ⟨fv, ar, x, y, z, w, v, hs.1, rfl, rfl, fun hb => (sh_c hb h4 hq ex ez).elim, fun s3 q3 m3 m4 h43 ex3 hq3 ez3 hm3 hz3 hm4 hz4 => ?_⟩)
    obtain rfl := nI_i ex ex3 (by omega) (by omega)
    obtain rfl := nI_i ez ez3 (by omega) (by omega)
    exact ⟨fun hso => (hso.elim ha hb2).elim, fun _ _ _ => h8 fv ar hR, fun _ _ heq => absurd heq hne⟩
  · refine hQ _ _ _ _ _ _ _ _ _ _ _ _ _ _ _ _ _ _ rfl (fun Q7 h8 => ⟨fv, ar, x, y, z, w, v, hs.1, rfl, rfl, fun hb => (sh_c hb h4 hq ex ez).elim, fun s3 q3 m3 m4 h43 ex3 hq3 ez3 hm3 hz3 hm4 hz4 => ?_⟩)
    obtain rfl := nI_i ex ex3 (by omega) (by omega)
    obtain rfl := nI_i ez ez3 (by omega) (by omega)
    refine ⟨fun hso => (hso.elim ha hb2).elim, fun _ _ hne => absurd heq hne, fun _ _ _ => ⟨fun _ => h8 fv ar hR, fun a b k1 ha2 hb3 hk1 ey ew ev => ?_⟩⟩
    exfalso
    rcases hneg with e | e | e
    · rw [ev] at e; exact nn_nI hk1 e
    · rw [ey] at e; exact nn_nI ha2 e
    · rw [ew] at e; exact nn_nI hb3 e
  · refine hQ _ _ _ _ _ _ _ _ _ _ _ _ _ _ _ _ _ _ rfl (fun Q7 h8 => ⟨fv, ar, x, y, z, w, v, hs.1, rfl, rfl, fun hb => (sh_c hb h4 hq ex ez).elim, fun s3 q3 m3 m4 h43 ex3 hq3 ez3 hm3 hz3 hm4 hz4 => ?_⟩)
    obtain rfl := nI_i ex ex3 (by omega) (by omega)
    obtain rfl := nI_i ez ez3 (by omega) (by omega)
    obtain rfl := nI_i hz1 hz3 (by omega) (by omega)
    obtain rfl := nI_i hz2 hz4 (by omega) (by omega)
    refine ⟨fun hso => (hso.elim ha hb2).elim, fun _ _ hne => absurd heq hne, fun _ _ _ => ⟨fun _ => h8 fv ar hR, fun a3 b3 k3 ha3 hb4 hk3 ey3 ew3 ev3 => ⟨fun _ => h8 fv ar hR, fun g1 g2 => ?_⟩⟩⟩
    obtain rfl := nI_i ey ey3 (by omega) (by omega)
    obtain rfl := nI_i ew ew3 (by omega) (by omega)
    obtain rfl := nI_i ev ev3 (by omega) (by omega)
    exact absurd ⟨g1, g2⟩ hno
  · refine hQ _ _ _ _ _ _ _ _ _ _ _ _ _ _ _ _ _ _ rfl (fun Q7 h8 => ⟨fv, ar, x, y, z, w, v, hs.1, rfl, rfl, fun hb => (sh_c hb h4 hq ex ez).elim, fun s3 q3 m3 m4 h43 ex3 hq3 ez3 hm3 hz3 hm4 hz4 => ?_⟩)
    obtain rfl := nI_i ex ex3 (by omega) (by omega)
    obtain rfl := nI_i ez ez3 (by omega) (by omega)
    obtain rfl := nI_i hz1 hz3 (by omega) (by omega)
    obtain rfl := nI_i hz2 hz4 (by omega) (by omega)
    refine ⟨fun hso => (hso.elim ha hb2).elim, fun _ _ hne => absurd heq hne, fun _ _ _ => ⟨fun hneg => ?_, fun a3 b3 k3 ha3 hb4 hk3 ey3 ew3 ev3 => ?_⟩⟩
    · exfalso
      rcases hneg with e | e | e
      · rw [ev] at e; exact nn_nI hk1 e
      · rw [ey] at e; exact nn_nI ha2 e
      · rw [ew] at e; exact nn_nI hb3 e
    obtain rfl := nI_i ey ey3 (by omega) (by omega)
    obtain rfl := nI_i ew ew3 (by omega) (by omega)
    obtain rfl := nI_i ev ev3 (by omega) (by omega)
    refine ⟨fun hno => absurd ⟨g1, g2⟩ hno, fun _ _ => ?_⟩
    refine h8 _ _ ⟨⟨rfl, hco⟩, hr, ht, ?_, hi, hx⟩
    refine RelS_up (v := ((shM ar q2).1, (shM ar q2).2.1, cpS (shM ar s).2.2 (shM ar q2).2.2 a b k1)) hs.1 hq ?_ ?_ (fun j => ?_) (hs.1 q2 hq).1 (hs.1 q2 hq).2
    · exact (upd_self (ar 23) q2).symm
    · exact (upd_self (ar 24) q2).symm
    · show (if 40 * q2 + b ≤ j ∧ j < 40 * q2 + b + k1 then ar 25 (40 * s + a + (j - (40 * q2 + b))) else ar 25 j) = if 40 * q2 ≤ j ∧ j < 40 * q2 + 40 then (if b ≤ j - 40 * q2 ∧ j - 40 * q2 < b + k1 then ar 25 (40 * s + (a + (j - 40 * q2 - b))) else ar 25 (40 * q2 + (j - 40 * q2))) else ar 25 j
      by_cases hj : 40 * q2 ≤ j ∧ j < 40 * q2 + 40
      · rw [if_pos hj]
        by_cases hj2 : 40 * q2 + b ≤ j ∧ j < 40 * q2 + b + k1
        · rw [if_pos hj2, if_pos (by omega)]
          congr 1
          omega
        · rw [if_neg hj2, if_neg (by omega)]
          congr 1
          omega
      · rw [if_neg hj, if_neg (by omega)]
end
