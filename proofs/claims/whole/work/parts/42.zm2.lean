/-! ===== image, back, come, stands, day, meets, look ===== -/
def rowB (kr r : zRow) : zRow := (r.1, r.2.1, r.2.2.1, r.2.2.2.1, r.2.2.2.2.1, r.2.2.2.2.2.1, kr.2.2.2.2.2.2.1, kr.2.2.2.2.2.2.2.1, kr.2.2.2.2.2.2.2.2.1, kr.2.2.2.2.2.2.2.2.2.1, kr.2.2.2.2.2.2.2.2.2.2)
def T_image : zT := fun args hs Q => ∃ (c d k : zCart) (r tr kr : zRow) (rd : zRd) (ft : Nat) (tg : Nat → Option Nat) (tc lw kl ik : Int32) (ri : zRi) (s0 s1 s2 s3 : zSh) (tx : zTx), args = [.ref 0] ∧ hs = pX c d k r tr kr rd ft tg tc lw kl ik ri s0 s1 s2 s3 tx ∧ Q (some (.int r.2.2.1)) (pX c d c r tr (rowB kr r) rd ft tg tc lw lw 1 ri s0 s1 s2 s3 tx)
theorem ct_image (l : Launch) : Ct l mX6_image false 3 0 0 T_image := by
  refine Ct.intro mX6_image_ok ?_
  rintro args hs Q ⟨c, d, k, r, tr, kr, rd, ft, tg, tc, lw, kl, ik, ri, s0, s1, s2, s3, tx, rfl, rfl, h⟩
  refine ⟨Nat.le_of_ble_eq_true rfl, ?_⟩
  refine V.g 10 [] mX6_image_ok rfl ?_
  refine V.cV1 mX6_image_ok rfl lX6_214 (ct_cbecome l) rfl [15, 16, 17, 18, 19, 20, 21, 1, 2, 3, 4, 5, 6, 7] (pCart 0 k ++ pCart 7 c) [.ref 0, .ref 14] [] rfl 0 0 rfl rfl rfl rfl rfl rfl rfl rfl none (pCart 0 c ++ pCart 7 c) ⟨k, c, rfl, rfl, rfl, rfl⟩ rfl (pX c d c r tr kr rd ft tg tc lw kl ik ri s0 s1 s2 s3 tx) none [(0, .ref 0)] rfl rfl rfl ?_
  refine V.g 10 [] mX6_image_ok rfl ?_
  refine V.cV1 mX6_image_ok rfl lX6_312 (ct_rbecome l) rfl [30, 31, 32, 33, 22, 23, 24, 25] (pRowT 0 kr ++ pRowT 4 r) [.ref 0, .ref 8] [] rfl 0 3 rfl rfl rfl rfl rfl rfl rfl rfl none (pRowT 0 (rowB kr r) ++ pRowT 4 r) ⟨_, _, _, _, _, _, _, _, _, _, _, _, _, _, _, _, _, _, _, _, _, _, rfl, rfl, rfl, rfl⟩ rfl (pX c d c r tr (rowB kr r) rd ft tg tc lw kl ik ri s0 s1 s2 s3 tx) none [(0, .ref 0)] rfl rfl rfl ?_
  refine V.g 30 [] mX6_image_ok rfl ?_
  exact And.intro (Or.inr rfl) ⟨_, zsim_rfl _, h⟩
def T_back : zT := fun args hs Q => ∃ (c d k : zCart) (r tr kr : zRow) (rd : zRd) (ft : Nat) (tg : Nat → Option Nat) (tc lw kl ik : Int32) (ri : zRi) (s0 s1 s2 s3 : zSh) (tx : zTx), args = [.ref 0] ∧ hs = pX c d k r tr kr rd ft tg tc lw kl ik ri s0 s1 s2 s3 tx ∧ (ik = 0 → Q (some (.int (-3))) hs) ∧ (¬ ik = 0 → Q (some (.int kr.2.2.1)) (pX k d k (rowB r kr) tr kr rd ft tg tc kl kl ik ri s0 s1 s2 s3 tx))
theorem ct_back (l : Launch) : Ct l mX6_back false 3 0 0 T_back := by
  refine Ct.intro mX6_back_ok ?_
  rintro args hs Q ⟨c, d, k, r, tr, kr, rd, ft, tg, tc, lw, kl, ik, ri, s0, s1, s2, s3, tx, rfl, rfl, h0, h1⟩
  refine ⟨Nat.le_of_ble_eq_true rfl, ?_⟩
  refine V.g 20 [] mX6_back_ok rfl ?_
  refine And.intro (fun e => ?_) (fun e => ⟨_, zsim_rfl _, h0 e⟩)
  have h := h1 e
  refine V.cV1 mX6_back_ok rfl lX6_214 (ct_cbecome l) rfl [1, 2, 3, 4, 5, 6, 7, 15, 16, 17, 18, 19, 20, 21] (pCart 0 c ++ pCart 7 k) [.ref 0, .ref 14] [] rfl 0 0 rfl rfl rfl rfl rfl rfl rfl rfl none (pCart 0 k ++ pCart 7 k) ⟨c, k, rfl, rfl, rfl, rfl⟩ rfl (pX k d k r tr kr rd ft tg tc lw kl ik ri s0 s1 s2 s3 tx) none [(0, .ref 0)] rfl rfl rfl ?_
  refine V.g 10 [] mX6_back_ok rfl ?_
  refine V.cV1 mX6_back_ok rfl lX6_312 (ct_rbecome l) rfl [22, 23, 24, 25, 30, 31, 32, 33] (pRowT 0 r ++ pRowT 4 kr) [.ref 0, .ref 8] [] rfl 0 3 rfl rfl rfl rfl rfl rfl rfl rfl none (pRowT 0 (rowB r kr) ++ pRowT 4 kr) ⟨_, _, _, _, _, _, _, _, _, _, _, _, _, _, _, _, _, _, _, _, _, _, rfl, rfl, rfl, rfl⟩ rfl (pX k d k (rowB r kr) tr kr rd ft tg tc lw kl ik ri s0 s1 s2 s3 tx) none [(0, .ref 0)] rfl rfl rfl ?_
  refine V.g 30 [] mX6_back_ok rfl ?_
  exact ⟨_, zsim_rfl _, h⟩
abbrev BR : Unit := ()
def T_come : zT := fun args hs Q => ∃ (c d k : zCart) (bd od tk : fI) (lo be aw st mb mw mt v : Int32) (s : Nat) (tr kr : zRow) (rd : zRd) (ft : Nat) (tg : Nat → Option Nat) (tc lw kl ik : Int32) (ri : zRi) (s0 s1 s2 s3 : zSh) (tx : zTx), s ≤ 8 ∧ args = [.ref 0, .int v] ∧ hs = pX c d k (bd, od, nI s, lo, be, aw, st, tk, mb, mw, mt) tr kr rd ft tg tc lw kl ik ri s0 s1 s2 s3 tx ∧ (wiB v 99 = false → Q (some (.int (-2))) hs) ∧ (wiB v 99 = true → s = 8 → Q (some (.int (-4))) hs) ∧ (wiB v 99 = true → s < 8 → Q (some (.int (nI s))) (pX c d k (upd bd s v, upd od s (nI s), nI (s + 1), lo, be, aw, st, tk, mb, mw, mt) tr kr rd ft tg tc lw kl ik ri s0 s1 s2 s3 tx))
theorem ct_come (l : Launch) : Ct l mX6_come false 3 0 0 T_come := by
  refine Ct.intro mX6_come_ok ?_
  rintro args hs Q ⟨c, d, k, bd, od, tk, lo, be, aw, st, mb, mw, mt, v, s, tr, kr, rd, ft, tg, tc, lw, kl, ik, ri, s0, s1, s2, s3, tx, hs8, rfl, rfl, h0, h1, h2⟩
  refine ⟨Nat.le_of_ble_eq_true rfl, ?_⟩
  refine V.g 10 [] mX6_come_ok rfl ?_
  refine V.cS0 mX6_come_ok rfl lX6_114 (ct_within l) rfl [.int v, .int (nI 0), .int (nI 99)] [] rfl rfl rfl (some (.int (bI (wiB v 99)))) (T_within_use rfl) ?_
  cases hb : wiB v 99 with
  | false =>
    refine V.g 10 [] mX6_come_ok rfl ?_
    exact And.intro (fun e => absurd rfl e) (fun _ => ⟨_, zsim_rfl _, h0 hb⟩)
  | true =>
    refine V.g 20 [] mX6_come_ok rfl ?_
    refine And.intro (fun _ => ?_) (fun e => absurd e (by decide))
    refine pk_lt s 8 (fun e => ?_) (fun e => ⟨_, zsim_rfl _, h1 hb (by omega)⟩)
    refine V.cV1 mX6_come_ok rfl lX6_293 (ct_rappend l) rfl [22, 23, 24, 25] (pRow 0 bd od (nI s) lo be aw st tk mb mw mt) [.ref 0, .int v] [] rfl 0 3 rfl rfl rfl rfl rfl rfl rfl rfl none (pRow 0 (upd bd s v) (upd od s (nI s)) (nI (s + 1)) lo be aw st tk mb mw mt) ⟨bd, od, tk, lo, be, aw, st, mb, mw, mt, v, s, e, rfl, rfl, rfl, rfl⟩ rfl (pX c d k (upd bd s v, upd od s (nI s), nI (s + 1), lo, be, aw, st, tk, mb, mw, mt) tr kr rd ft tg tc lw kl ik ri s0 s1 s2 s3 tx) none [(0, .ref 0), (1, .int v)] rfl rfl rfl ?_
    refine V.g 20 [] mX6_come_ok rfl ?_
    refine ⟨_, zsim_rfl _, ?_⟩
    have e4 : nI (s + 1) - nI 1 = nI s := nI_pred s
    show Q (some (.int (nI (s + 1) - nI 1))) _
    rw [e4]
    exact h2 hb e
def T_stands : zT := fun args hs Q => ∃ (c d k : zCart) (bd od tk : fI) (lo be aw st mb mw mt x : Int32) (s : Nat) (tr kr : zRow) (rd : zRd) (ft : Nat) (tg : Nat → Option Nat) (tc lw kl ik : Int32) (ri : zRi) (s0 s1 s2 s3 : zSh) (tx : zTx), s ≤ 8 ∧ args = [.ref 0, .int x] ∧ hs = pX c d k (bd, od, nI s, lo, be, aw, st, tk, mb, mw, mt) tr kr rd ft tg tc lw kl ik ri s0 s1 s2 s3 tx ∧ (∀ j, j < s → x = nI j → Q (some (.int (od j))) hs) ∧ ((∀ j, j < s → ¬ x = nI j) → Q (some (.int (-5))) hs)
theorem ct_stands (l : Launch) : Ct l mX6_stands false 2 0 0 T_stands := by
  refine Ct.intro mX6_stands_ok ?_
  rintro args hs Q ⟨c, d, k, bd, od, tk, lo, be, aw, st, mb, mw, mt, x, s, tr, kr, rd, ft, tg, tc, lw, kl, ik, ri, s0, s1, s2, s3, tx, hs8, rfl, rfl, h1, h0⟩
  refine ⟨Nat.le_of_ble_eq_true rfl, ?_⟩
  refine V.g 10 [] mX6_stands_ok rfl ?_
  refine V.cS0 mX6_stands_ok rfl lX6_114 (ct_within l) rfl [.int x, .int (nI 0), .int (nI s - nI 1)] [] rfl rfl rfl (some (.int (bI (decide (nI 0 ≤ x) && decide (x ≤ nI s - nI 1))))) (T_within_use rfl) ?_
  cases hb : (decide (nI 0 ≤ x) && decide (x ≤ nI s - nI 1)) with
  | true =>
    simp only [Bool.and_eq_true, decide_eq_true_eq] at hb
    obtain ⟨j, hj, rfl⟩ := nI_of (Int32.not_lt.mpr hb.1)
    have hjs : j < s := by
      rcases Nat.eq_zero_or_pos s with e | e
      · subst e
        have := hb.2
        have q : ¬ nI j ≤ nI 0 - nI 1 := fun z => nI_pos hj (Int32.lt_of_le_of_lt z (by decide))
        exact absurd this q
      · have := hb.2
        rw [pk_sub (by omega)] at this
        have := (nI_leI hj (by omega)).mp this
        omega
    have ej := pk_cl (x := nI j) j
    refine V.g 20 [] mX6_stands_ok rfl ?_
    refine And.intro (fun e => absurd e (by decide)) (fun _ => ?_)
    refine And.intro (pk_in j 8 (by omega)) ⟨_, zsim_rfl _, ?_⟩
    have h3 := h1 j hjs rfl
    rw [← ej] at h3
    exact h3
  | false =>
    refine V.g 20 [] mX6_stands_ok rfl ?_
    refine And.intro (fun _ => ⟨_, zsim_rfl _, h0 (fun j hj e => ?_)⟩) (fun e => absurd rfl e)
    rw [e, decide_eq_true (nI_le (Nat.zero_le j) (by omega)), pk_sub (by omega), decide_eq_true (nI_le (by omega) (by omega))] at hb
    cases hb
def T_day : zT := fun args hs Q => ∃ (c d k : zCart) (bd od tk : fI) (be st mb mw mt : Int32) (s lk aw : Nat) (tr kr : zRow) (rd : zRd) (ft : Nat) (tg : Nat → Option Nat) (tc lw kl ik : Int32) (ri : zRi) (s0 s1 s2 s3 : zSh) (tx : zTx) (x : Int32), s ≤ 8 ∧ lk ≤ 8 ∧ aw ≤ 5 ∧ oOk od ∧ args = [.ref 0, .int x] ∧ hs = pX c d k (bd, od, nI s, nI lk, be, nI aw, st, tk, mb, mw, mt) tr kr rd ft tg tc lw kl ik ri s0 s1 s2 s3 tx ∧ (wiB x 24 = false → Q (some (.int (-2))) hs) ∧ (∀ n, n < 25 → x = nI n → ∀ q : RS, q = srv bd be lk aw od s tk n → Q (some (.int (if s = 0 then -1 else q.1 0))) (pX c d k (bd, q.1, nI s, nI lk, be, nI aw, nI q.2.1, q.2.2.1, q.2.2.2.1, q.2.2.2.2.1, q.2.2.2.2.2) tr kr rd ft tg tc lw kl ik ri s0 s1 s2 s3 tx))
theorem ct_day (l : Launch) : Ct l mX6_day false 4 0 0 T_day := by
  refine Ct.intro mX6_day_ok ?_
  rintro args hs Q ⟨c, d, k, bd, od, tk, be, st, mb, mw, mt, s, lk, aw, tr, kr, rd, ft, tg, tc, lw, kl, ik, ri, s0, s1, s2, s3, tx, x, hs8, hlk, haw, hod, rfl, rfl, h0, h1⟩
  refine ⟨Nat.le_of_ble_eq_true rfl, ?_⟩
  refine V.g 10 [] mX6_day_ok rfl ?_
  refine V.cS0 mX6_day_ok rfl lX6_309 (ct_isGuests l) rfl [.int x] [] rfl rfl rfl (some (.int (bI (wiB x 24)))) ⟨x, rfl, rfl, rfl⟩ ?_
  cases hb : wiB x 24 with
  | false =>
    refine V.g 10 [] mX6_day_ok rfl ?_
    exact And.intro (fun e => absurd rfl e) (fun _ => ⟨_, zsim_rfl _, h0 hb⟩)
  | true =>
    obtain ⟨n, hn, hx⟩ := wiB_t hb (by omega)
    have h := h1 n hn hx
    subst hx
    refine V.g 20 [] mX6_day_ok rfl ?_
    refine And.intro (fun _ => ?_) (fun e => absurd e (by decide))
    refine V.callV mX6_day_ok rfl lX6_315 (ct_serve l) rfl (fun k => k) (fun _ _ => rfl) [22, 23, 24, 25] (pRow 0 bd od (nI s) (nI lk) be (nI aw) st tk mb mw mt) [.ref 0, .int (nI n)] [] (fun v wc' => ∃ q : RS, q = srv bd be lk aw od s tk n ∧ v = none ∧ wc' = pRS bd (nI s) (nI lk) be (nI aw) q) rfl 0 3 rfl rfl rfl rfl rfl rfl rfl rfl ⟨bd, od, tk, be, mb, mw, mt, st, s, lk, aw, n, hs8, hlk, haw, by omega, hod, rfl, rfl, _, rfl, rfl, rfl⟩ (fun v wc' hv => ?_)
    obtain ⟨q, hq, rfl, rfl⟩ := hv
    refine ⟨rfl, ?_⟩
    refine V.nm [(0, .ref 0), (1, .int (nI n))] [] (pX c d k (bd, q.1, nI s, nI lk, be, nI aw, nI q.2.1, q.2.2.1, q.2.2.2.1, q.2.2.2.2.1, q.2.2.2.2.2) tr kr rd ft tg tc lw kl ik ri s0 s1 s2 s3 tx) rfl rfl rfl ?_
    refine V.g 20 [] mX6_day_ok rfl ?_
    refine V.cV1 mX6_day_ok rfl lX6_327 (ct_front l) rfl [22, 23, 24, 25] (pRow 0 bd q.1 (nI s) (nI lk) be (nI aw) (nI q.2.1) q.2.2.1 q.2.2.2.1 q.2.2.2.2.1 q.2.2.2.2.2) [.ref 0] [] rfl 0 3 rfl rfl rfl rfl rfl rfl rfl rfl (some (.int (if s = 0 then -1 else q.1 0))) (pRow 0 bd q.1 (nI s) (nI lk) be (nI aw) (nI q.2.1) q.2.2.1 q.2.2.2.1 q.2.2.2.2.1 q.2.2.2.2.2) ⟨bd, q.1, q.2.2.1, nI lk, be, nI aw, nI q.2.1, q.2.2.2.1, q.2.2.2.2.1, q.2.2.2.2.2, s, hs8, rfl, rfl, rfl, rfl⟩ rfl (pX c d k (bd, q.1, nI s, nI lk, be, nI aw, nI q.2.1, q.2.2.1, q.2.2.2.1, q.2.2.2.2.1, q.2.2.2.2.2) tr kr rd ft tg tc lw kl ik ri s0 s1 s2 s3 tx) (some (.int (if s = 0 then -1 else q.1 0))) [(0, .ref 0), (1, .int (nI n))] rfl rfl rfl ?_
    exact V.g 20 [] mX6_day_ok rfl ⟨_, zsim_rfl _, h q hq⟩
