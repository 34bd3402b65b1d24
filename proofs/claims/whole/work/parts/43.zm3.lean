/-! ===== meets; the answers don't hang on who took which before ===== -/
def sE (g : Nat) (a b : RS) : Prop := a.1 = b.1 ∧ a.2.1 = b.2.1 ∧ a.2.2.2 = b.2.2.2 ∧ ∀ k, k < g → a.2.2.1 k = b.2.2.1 k
theorem psh_E {g k : Nat} {a b : RS} (h : sE g a b) (hk : k < g) : sE g (psh k a) (psh k b) := by
  obtain ⟨h1, h2, h3, h4⟩ := h
  unfold psh
  rw [h4 k hk, h2]
  split
  · exact ⟨h1, h2, h3, h4⟩
  · exact ⟨by show upd a.1 b.2.1 _ = upd b.1 b.2.1 _; rw [h1], rfl, h3, h4⟩
theorem tko_E {bd : fI} {be : Int32} {lk g : Nat} {a b : RS} (h : sE g a b) : sE (g + 1) (tko bd be lk g a) (tko bd be lk g b) := by
  obtain ⟨h1, h2, h3, h4⟩ := h
  have key : ∀ (v : Int32) (k : Nat), k < g + 1 → upd a.2.2.1 g v k = upd b.2.2.1 g v k := fun v k hk => by
    by_cases e : k = g
    · rw [e, pk_us, pk_us]
    · rw [pk_un e, pk_un e]; exact h4 k (by omega)
  unfold tko
  rw [h1, h2]
  split
  · exact ⟨rfl, rfl, h3, key _⟩
  · have e1 : a.2.2.2.1 = b.2.2.2.1 := by rw [h3]
    have e2 : a.2.2.2.2.1 = b.2.2.2.2.1 := by rw [h3]
    have e3 : a.2.2.2.2.2 = b.2.2.2.2.2 := by rw [h3]
    exact ⟨rfl, rfl, by show (_, _, _) = (_, _, _); rw [e1, e2, e3], key _⟩
theorem svG_E {bd : fI} {be : Int32} {lk aw : Nat} {a b : RS} (h : sE 0 a b) : ∀ g, sE g (svG bd be lk aw a g) (svG bd be lk aw b g)
  | 0 => h
  | g + 1 => by
    have ih := svG_E (bd := bd) (be := be) (lk := lk) (aw := aw) h g
    simp only [svG, gst]
    split
    · exact tko_E (psh_E ih (by omega))
    · exact tko_E ih
theorem svP_E {g n : Nat} {a b : RS} (h : sE n a b) : ∀ k, g + k ≤ n → sE n (svP a g k) (svP b g k)
  | 0, _ => h
  | k + 1, hk => psh_E (svP_E h k (by omega)) (by omega)
theorem srv_E (bd : fI) (be : Int32) (lk aw : Nat) (od : fI) (sz : Nat) (tk tk' : fI) (n : Nat) : sE n (srv bd be lk aw od sz tk n) (srv bd be lk aw od sz tk' n) := by
  have h0 : sE 0 ((od, sz, tk, 0, 0, 0) : RS) (od, sz, tk', 0, 0, 0) := ⟨rfl, rfl, rfl, fun k hk => absurd hk (by omega)⟩
  unfold srv
  exact svP_E (svG_E h0 n) _ (by omega)
def mtF (what : Int32) (s : Nat) (q : RS) : Int32 := if what = nI 0 then q.2.2.2.1 else if what = nI 1 then q.2.2.2.2.1 else if what = nI 2 then q.2.2.2.2.2 else if s = 0 then -1 else q.1 0
theorem mtF_E {what : Int32} {s n : Nat} {a b : RS} (h : sE n a b) : mtF what s a = mtF what s b := by
  unfold mtF
  rw [h.1, h.2.2.1]
/-- what n guests meet -/
abbrev svF (bd : fI) (be : Int32) (lk aw : Nat) (od : fI) (s n : Nat) : RS := srv bd be lk aw od s (fun _ => 0) n
def T_meets : zT := fun args hs Q => ∃ (c d k : zCart) (bd od tk : fI) (be st mb mw mt : Int32) (s lk aw : Nat) (tr kr : zRow) (rd : zRd) (ft : Nat) (tg : Nat → Option Nat) (tc lw kl ik : Int32) (ri : zRi) (s0 s1 s2 s3 : zSh) (tx : zTx) (x y : Int32), s ≤ 8 ∧ lk ≤ 8 ∧ aw ≤ 5 ∧ oOk od ∧ args = [.ref 0, .int x, .int y] ∧ hs = pX c d k (bd, od, nI s, nI lk, be, nI aw, st, tk, mb, mw, mt) tr kr rd ft tg tc lw kl ik ri s0 s1 s2 s3 tx ∧ ((wiB x 24 && wiB y 3) = false → Q (some (.int (-2))) hs) ∧ ((wiB x 24 && wiB y 3) = true → ∀ n, n < 25 → x = nI n → ∀ tr', Q (some (.int (mtF y s (svF bd be lk aw od s n)))) (pX c d k (bd, od, nI s, nI lk, be, nI aw, st, tk, mb, mw, mt) tr' kr rd ft tg tc lw kl ik ri s0 s1 s2 s3 tx))
set_option maxHeartbeats 4000000 in
theorem ct_meets (l : Launch) : Ct l mX6_meets false 4 0 0 T_meets := by
  refine Ct.intro mX6_meets_ok ?_
  rintro args hs Q ⟨c, d, k, bd, od, tk, be, st, mb, mw, mt, s, lk, aw, tr, kr, rd, ft, tg, tc, lw, kl, ik, ri, s0, s1, s2, s3, tx, x, y, hs8, hlk, haw, hod, rfl, rfl, h0, h1⟩
  refine ⟨Nat.le_of_ble_eq_true rfl, ?_⟩
  refine V.g 10 [] mX6_meets_ok rfl ?_
  refine V.cS0 mX6_meets_ok rfl lX6_309 (ct_isGuests l) rfl [.int x] [] rfl rfl rfl (some (.int (bI (wiB x 24)))) ⟨x, rfl, rfl, rfl⟩ ?_
  cases hb : wiB x 24 with
  | false =>
    rw [hb] at h0
    refine V.g 10 [] mX6_meets_ok rfl ?_
    exact And.intro (fun _ => ⟨_, zsim_rfl _, h0 rfl⟩) (fun e => absurd rfl e)
  | true =>
    rw [hb] at h0 h1
    obtain ⟨n, hn, hx⟩ := wiB_t hb (by omega)
    refine V.g 10 [] mX6_meets_ok rfl ?_
    refine And.intro (fun e => absurd e (by decide)) (fun _ => ?_)
    refine V.cS0 mX6_meets_ok rfl lX6_114 (ct_within l) rfl [.int y, .int (nI 0), .int (nI 3)] [] rfl rfl rfl (some (.int (bI (wiB y 3)))) (T_within_use rfl) ?_
    cases hb2 : wiB y 3 with
    | false =>
      rw [hb2] at h0
      refine V.g 10 [] mX6_meets_ok rfl ?_
      exact And.intro (fun e => absurd rfl e) (fun _ => ⟨_, zsim_rfl _, h0 rfl⟩)
    | true =>
      rw [hb2] at h1
      have h := h1 rfl n hn hx
      subst hx
      obtain ⟨tb, to, tsz, tlo, tbe, taw, tst, ttk, tmb, tmw, tmt⟩ := tr
      refine V.g 10 [] mX6_meets_ok rfl ?_
      refine And.intro (fun _ => ?_) (fun e => absurd e (by decide))
      refine V.cV1 mX6_meets_ok rfl lX6_312 (ct_rbecome l) rfl [26, 27, 28, 29, 22, 23, 24, 25] (pRow 0 tb to tsz tlo tbe taw tst ttk tmb tmw tmt ++ pRow 4 bd od (nI s) (nI lk) be (nI aw) st tk mb mw mt) [.ref 0, .ref 8] [] rfl 0 3 rfl rfl rfl rfl rfl rfl rfl rfl none (pRow 0 bd od (nI s) (nI lk) be (nI aw) tst ttk tmb tmw tmt ++ pRow 4 bd od (nI s) (nI lk) be (nI aw) st tk mb mw mt) ⟨_, _, _, _, _, _, _, _, _, _, _, _, _, _, _, _, _, _, _, _, _, _, rfl, rfl, rfl, rfl⟩ rfl (pX c d k (bd, od, nI s, nI lk, be, nI aw, st, tk, mb, mw, mt) (bd, od, nI s, nI lk, be, nI aw, tst, ttk, tmb, tmw, tmt) kr rd ft tg tc lw kl ik ri s0 s1 s2 s3 tx) none [(0, .ref 0), (1, .int (nI n)), (2, .int y)] rfl rfl rfl ?_
      refine V.g 10 [] mX6_meets_ok rfl ?_
      refine V.callV mX6_meets_ok rfl lX6_315 (ct_serve l) rfl (fun k => k) (fun _ _ => rfl) [26, 27, 28, 29] (pRow 0 bd od (nI s) (nI lk) be (nI aw) tst ttk tmb tmw tmt) [.ref 0, .int (nI n)] [] (fun v wc' => ∃ q : RS, q = srv bd be lk aw od s ttk n ∧ v = none ∧ wc' = pRS bd (nI s) (nI lk) be (nI aw) q) rfl 0 3 rfl rfl rfl rfl rfl rfl rfl rfl ⟨bd, od, ttk, be, tmb, tmw, tmt, tst, s, lk, aw, n, hs8, hlk, haw, by omega, hod, rfl, rfl, _, rfl, rfl, rfl⟩ (fun v wc' hv => ?_)
      obtain ⟨q, hq, rfl, rfl⟩ := hv
      refine ⟨rfl, ?_⟩
      have hE : mtF y s (svF bd be lk aw od s n) = mtF y s q := by rw [hq]; exact mtF_E (srv_E bd be lk aw od s _ _ n)
      rw [hE] at h
      obtain ⟨qo, qs, qt, qb, qw, qm⟩ := q
      refine V.nm [(0, .ref 0), (1, .int (nI n)), (2, .int y)] [] (pX c d k (bd, od, nI s, nI lk, be, nI aw, st, tk, mb, mw, mt) (bd, qo, nI s, nI lk, be, nI aw, nI qs, qt, qb, qw, qm) kr rd ft tg tc lw kl ik ri s0 s1 s2 s3 tx) rfl rfl rfl ?_
      have h2 := h (bd, qo, nI s, nI lk, be, nI aw, nI qs, qt, qb, qw, qm)
      obtain ⟨i, hi, rfl⟩ := wiB_t hb2 (by omega)
      refine V.g 10 [] mX6_meets_ok rfl ?_
      rcases (show i = 0 ∨ i = 1 ∨ i = 2 ∨ i = 3 by omega) with rfl | rfl | rfl | rfl
      · refine V.tsI mX6_meets_ok rfl 0 (by decide) (by decide) (by decide) 25 rfl 64 rfl ?_
        exact V.g 10 [] mX6_meets_ok rfl ⟨_, zsim_rfl _, h2⟩
      · refine V.tsI mX6_meets_ok rfl 1 (by decide) (by decide) (by decide) 33 rfl 72 rfl ?_
        exact V.g 10 [] mX6_meets_ok rfl ⟨_, zsim_rfl _, h2⟩
      · refine V.tsI mX6_meets_ok rfl 2 (by decide) (by decide) (by decide) 41 rfl 80 rfl ?_
        exact V.g 10 [] mX6_meets_ok rfl ⟨_, zsim_rfl _, h2⟩
      · refine V.tsO mX6_meets_ok rfl (Or.inr (by decide)) 88 rfl ?_
        refine V.g 10 [] mX6_meets_ok rfl ?_
        refine V.cV1 mX6_meets_ok rfl lX6_327 (ct_front l) rfl [26, 27, 28, 29] (pRow 0 bd qo (nI s) (nI lk) be (nI aw) (nI qs) qt qb qw qm) [.ref 0] [] rfl 0 3 rfl rfl rfl rfl rfl rfl rfl rfl (some (.int (if s = 0 then -1 else qo 0))) (pRow 0 bd qo (nI s) (nI lk) be (nI aw) (nI qs) qt qb qw qm) ⟨bd, qo, qt, nI lk, be, nI aw, nI qs, qb, qw, qm, s, hs8, rfl, rfl, rfl, rfl⟩ rfl (pX c d k (bd, od, nI s, nI lk, be, nI aw, st, tk, mb, mw, mt) (bd, qo, nI s, nI lk, be, nI aw, nI qs, qt, qb, qw, qm) kr rd ft tg tc lw kl ik ri s0 s1 s2 s3 tx) (some (.int (if s = 0 then -1 else qo 0))) [(0, .ref 0), (1, .int (nI n)), (2, .int (nI 3))] rfl rfl rfl ?_
        exact V.g 10 [] mX6_meets_ok rfl ⟨_, zsim_rfl _, h2⟩
