theorem sm_cl {f : fI} (h : bOk f) : ∀ n, n ≤ 8 → smT f n = nI (clS f n)
  | 0, _ => rfl
  | n + 1, h2 => by
    rw [smT, sm_cl h n (by omega), (bOk_cl h (show n < 8 by omega)).2, clS]
    exact nadd rfl rfl
theorem nI_subn {p q : Nat} (h : p < q) : nI p - nI q = - nI (q - p) := by
  have e : nI q = nI p + nI (q - p) := by rw [nI_add, show p + (q - p) = q by omega]
  rw [e, Int32.sub_eq_add_neg, Int32.neg_add, Int32.sub_eq_add_neg, ← Int32.add_assoc, Int32.add_right_neg, Int32.zero_add]
def T6_share : zT := fun args hs Q => ∃ (c d k : zCart) (r tr kr : zRow) (rd : zRd) (ft : Nat) (tg : Nat → Option Nat) (tc lw kl ik : Int32) (ri : zRi) (s0 s1 s2 s3 : zSh) (tx : zTx) (x y : Int32) (n8 l2 a2 : Nat), n8 ≤ 8 ∧ r.2.2.1 = nI n8 ∧ l2 ≤ 8 ∧ r.2.2.2.1 = nI l2 ∧ a2 ≤ 5 ∧ r.2.2.2.2.2.1 = nI a2 ∧ oOk r.2.1 ∧ bOk r.1 ∧ args = [.ref 0, .int x, .int y] ∧ hs = pX c d k r tr kr rd ft tg tc lw kl ik ri s0 s1 s2 s3 tx ∧ (((decide (nI 1 ≤ x) && decide (x ≤ nI 24)) && wiB y 1) = false ∨ n8 = 0 → Q (some (.long (-4611686018427387904))) hs) ∧ (∀ n j, 1 ≤ n → n ≤ 24 → x = nI n → j < 2 → y = nI j → 0 < n8 → ∀ r0 : Int64, r0 = shE (cl (svF r.1 r.2.2.2.2.1 l2 a2 r.2.1 n8 n).2.2.2.1 * n8) (clS r.1 n8 * n) (n * n8) j → ∀ tr', Q (some (.long r0)) (pX c d k r tr' kr rd ft tg tc lw kl ik ri s0 s1 s2 s3 tx))
set_option maxHeartbeats 4000000 in
theorem c6_share (l : Launch) : Ct l mX6_share false 4 0 0 T6_share := by
  refine Ct.intro mX6_share_ok ?_
  rintro args hs Q ⟨c, d, k, r, tr, kr, rd, ft, tg, tc, lw, kl, ik, ri, s0, s1, s2, s3, tx, x, y, n8, l2, a2, hs8, hsz, hl8, hlo, ha5, haw, hod, hbo, rfl, rfl, h0, h1⟩
  obtain ⟨bd, od, sz, lo, be, aw, st, tk, mb, mw, mt⟩ := r
  obtain ⟨tbd, tod, tsz, tlo, tbe, taw, tst, ttk, tmb, tmw, tmt⟩ := tr
  refine ⟨Nat.le_of_ble_eq_true rfl, ?_⟩
  have hsz : sz = nI n8 := hsz
  have hlo : lo = nI l2 := hlo
  have haw : aw = nI a2 := haw
  subst hsz
  subst hlo
  subst haw
  refine V.nm [(0, .ref 0), (1, .int x), (2, .int y)] [] (pX c d k (bd, od, (nI n8), (nI l2), be, (nI a2), st, tk, mb, mw, mt) (tbd, tod, tsz, tlo, tbe, taw, tst, ttk, tmb, tmw, tmt) kr rd ft tg tc lw kl ik ri s0 s1 s2 s3 tx) rfl rfl rfl ?_
  refine V.g2 60 [29] mX6_share_ok rfl ?_
  refine V.cS0 mX6_share_ok rfl lX6_114 (ct_within l) rfl [.int x, .int (nI 1), .int (nI 24)] [] rfl rfl rfl (some (.int (bI (decide ((nI 1) ≤ x) && decide (x ≤ (nI 24)))))) (T_within_use rfl) ?_
  cases hB : (decide ((nI 1) ≤ x) && decide (x ≤ (nI 24))) with
  | false =>
    refine V.nm [(0, .ref 0), (1, .int x), (2, .int y)] [.int (bI false)] (pX c d k (bd, od, (nI n8), (nI l2), be, (nI a2), st, tk, mb, mw, mt) (tbd, tod, tsz, tlo, tbe, taw, tst, ttk, tmb, tmw, tmt) kr rd ft tg tc lw kl ik ri s0 s1 s2 s3 tx) rfl rfl rfl ?_
    refine V.g2 60 [29] mX6_share_ok rfl ?_
    refine And.intro (fun _ => ?_) (fun e => absurd rfl e)
    refine V.g2 60 [29] mX6_share_ok rfl ?_
    exact ⟨_, zsim_rfl _, h0 (Or.inl (by rw [hB]; rfl))⟩
  | true =>
    refine V.nm [(0, .ref 0), (1, .int x), (2, .int y)] [.int (bI true)] (pX c d k (bd, od, (nI n8), (nI l2), be, (nI a2), st, tk, mb, mw, mt) (tbd, tod, tsz, tlo, tbe, taw, tst, ttk, tmb, tmw, tmt) kr rd ft tg tc lw kl ik ri s0 s1 s2 s3 tx) rfl rfl rfl ?_
    refine V.g2 60 [29] mX6_share_ok rfl ?_
    refine And.intro (fun e => absurd e (by decide)) (fun _ => ?_)
    refine V.cS0 mX6_share_ok rfl lX6_114 (ct_within l) rfl [.int y, .int (nI 0), .int (nI 1)] [] rfl rfl rfl (some (.int (bI (wiB y 1)))) (T_within_use rfl) ?_
    cases hC : (wiB y 1) with
    | false =>
      refine V.nm [(0, .ref 0), (1, .int x), (2, .int y)] [.int (bI false)] (pX c d k (bd, od, (nI n8), (nI l2), be, (nI a2), st, tk, mb, mw, mt) (tbd, tod, tsz, tlo, tbe, taw, tst, ttk, tmb, tmw, tmt) kr rd ft tg tc lw kl ik ri s0 s1 s2 s3 tx) rfl rfl rfl ?_
      refine V.g2 60 [29] mX6_share_ok rfl ?_
      refine And.intro (fun _ => ?_) (fun e => absurd rfl e)
      refine V.g2 60 [29] mX6_share_ok rfl ?_
      exact ⟨_, zsim_rfl _, h0 (Or.inl (by rw [hB, hC]; rfl))⟩
    | true =>
      refine V.nm [(0, .ref 0), (1, .int x), (2, .int y)] [.int (bI true)] (pX c d k (bd, od, (nI n8), (nI l2), be, (nI a2), st, tk, mb, mw, mt) (tbd, tod, tsz, tlo, tbe, taw, tst, ttk, tmb, tmw, tmt) kr rd ft tg tc lw kl ik ri s0 s1 s2 s3 tx) rfl rfl rfl ?_
      obtain ⟨j, hj, rfl⟩ := wiB_t hC (by omega)
      rw [Bool.and_eq_true, decide_eq_true_eq, decide_eq_true_eq] at hB
      obtain ⟨n, hn, rfl⟩ := nI_of (Int32.not_lt.mpr (Int32.le_trans (show (0 : Int32) ≤ nI 1 by decide) hB.1))
      have hn1 : 1 ≤ n := (nI_leI (by omega) hn).mp hB.1
      have hn2 : n ≤ 24 := (nI_leI hn (by omega)).mp hB.2
      have h1 := h1 n j hn1 hn2 rfl (by omega) rfl
      clear hB hC
      refine V.nm [(0, .ref 0), (1, .int (nI n)), (2, .int (nI j))] [.int (bI true)] (pX c d k (bd, od, (nI n8), (nI l2), be, (nI a2), st, tk, mb, mw, mt) (tbd, tod, tsz, tlo, tbe, taw, tst, ttk, tmb, tmw, tmt) kr rd ft tg tc lw kl ik ri s0 s1 s2 s3 tx) rfl rfl rfl ?_
      refine V.g2 60 [29] mX6_share_ok rfl ?_
      refine And.intro (fun e => absurd e (by decide)) (fun _ => ?_)
      refine zp_ne n8 0 (fun e1 => ?_) (fun e1 => ?_) rfl rfl
      · have h1 := h1 (by omega)
        clear h0
        refine V.cV1P mX6_share_ok rfl lX6_312 (ct_rbecome l) rfl 56 rfl [26, 27, 28, 29, 22, 23, 24, 25] [none, none, none, none, none, none, none, none, none, none, none, none, none, none, none, none, none, none, none, none, none, none, some 4, some 5, some 6, some 7, some 0, some 1, some 2, some 3, none, none, none, none, none, none, none, none, none, none, none, none, none, none, none, none, none, none, none, none, none, none, none, none, none, none] (by decide +kernel) (pRow 0 tbd tod tsz tlo tbe taw tst ttk tmb tmw tmt ++ pRow 4 bd od (nI n8) (nI l2) be (nI a2) st tk mb mw mt) [.ref 0, .ref 8] [] rfl 0 3 rfl rfl rfl rfl rfl rfl rfl rfl none (pRow 0 bd od (nI n8) (nI l2) be (nI a2) tst ttk tmb tmw tmt ++ pRow 4 bd od (nI n8) (nI l2) be (nI a2) st tk mb mw mt) ⟨tbd, tod, ttk, bd, od, tk, tsz, tlo, tbe, taw, tst, tmb, tmw, tmt, (nI n8), (nI l2), be, (nI a2), st, mb, mw, mt, rfl, rfl, rfl, rfl⟩ rfl (pX c d k (bd, od, (nI n8), (nI l2), be, (nI a2), st, tk, mb, mw, mt) (bd, od, (nI n8), (nI l2), be, (nI a2), tst, ttk, tmb, tmw, tmt) kr rd ft tg tc lw kl ik ri s0 s1 s2 s3 tx) [] rfl rfl ?_
        refine V.g2 60 [29] mX6_share_ok rfl ?_
        refine V.callVP mX6_share_ok rfl lX6_315 (ct_serve l) rfl 56 rfl (fun k => k) (fun _ _ => rfl) [26, 27, 28, 29] [none, none, none, none, none, none, none, none, none, none, none, none, none, none, none, none, none, none, none, none, none, none, none, none, none, none, some 0, some 1, some 2, some 3, none, none, none, none, none, none, none, none, none, none, none, none, none, none, none, none, none, none, none, none, none, none, none, none, none, none] (by decide +kernel) (pRow 0 bd od (nI n8) (nI l2) be (nI a2) tst ttk tmb tmw tmt) [.ref 0, .int (nI n)] [] (fun v wc' => ∃ q : RS, q = srv bd be l2 a2 od n8 ttk n ∧ v = none ∧ wc' = pRS bd (nI n8) (nI l2) be (nI a2) q) rfl 0 3 rfl rfl rfl rfl rfl rfl rfl rfl ⟨bd, od, ttk, be, tmb, tmw, tmt, tst, n8, l2, a2, n, hs8, hl8, ha5, by omega, hod, rfl, rfl, _, rfl, rfl, rfl⟩ (fun v wc' hv => ?_)
        obtain ⟨⟨qo1, qs1, qt1, qb1, qw1, qm1⟩, hq1, rfl, rfl⟩ := hv
        have hqb1 : qb1 = (svF bd be l2 a2 od n8 n).2.2.2.1 := by
          have e := (srv_E bd be l2 a2 od n8 ttk (fun _ => 0) n).2.2.1
          rw [← hq1] at e
          exact congrArg Prod.fst e
        refine ⟨rfl, ?_⟩
        refine V.nm [(0, .ref 0), (1, .int (nI n)), (2, .int (nI j))] [] (pX c d k (bd, od, (nI n8), (nI l2), be, (nI a2), st, tk, mb, mw, mt) (bd, qo1, (nI n8), (nI l2), be, (nI a2), (nI qs1), qt1, qb1, qw1, qm1) kr rd ft tg tc lw kl ik ri s0 s1 s2 s3 tx) rfl rfl rfl ?_
        refine V.g2 60 [29] mX6_share_ok rfl ?_
        refine V.cV1P mX6_share_ok rfl lX6_333 (ct_wholeBad l) rfl 56 rfl [22, 23, 24, 25] [none, none, none, none, none, none, none, none, none, none, none, none, none, none, none, none, none, none, none, none, none, none, some 0, some 1, some 2, some 3, none, none, none, none, none, none, none, none, none, none, none, none, none, none, none, none, none, none, none, none, none, none, none, none, none, none, none, none, none, none] (by decide +kernel) (pRow 0 bd od (nI n8) (nI l2) be (nI a2) st tk mb mw mt) [.ref 0] [.int (qb1 * (nI n8))] rfl 0 3 rfl rfl rfl rfl rfl rfl rfl rfl (some (.int (smT bd n8))) (pRow 0 bd od (nI n8) (nI l2) be (nI a2) st tk mb mw mt) ⟨bd, od, tk, nI l2, be, nI a2, st, mb, mw, mt, n8, hs8, rfl, rfl, rfl, rfl⟩ rfl (pX c d k (bd, od, (nI n8), (nI l2), be, (nI a2), st, tk, mb, mw, mt) (bd, qo1, (nI n8), (nI l2), be, (nI a2), (nI qs1), qt1, qb1, qw1, qm1) kr rd ft tg tc lw kl ik ri s0 s1 s2 s3 tx) [.int (smT bd n8), .int (qb1 * (nI n8))] rfl rfl ?_
        obtain ⟨mb2, hmb, emb⟩ := svF_mb (be := be) (lk := l2) (aw := a2) (n := n) hbo hs8 hod
        have hcs : clS bd n8 ≤ 99 * n8 := clS_le hbo n8 hs8
        have h1 : ∀ r0 : Int64, r0 = shE (cl (svF bd be l2 a2 od n8 n).2.2.2.1 * n8) (clS bd n8 * n) (n * n8) j → _ := h1
        rw [emb, nI_cl (by omega)] at h1
        rw [emb] at hqb1
        subst hqb1
        rw [sm_cl hbo n8 hs8]
        have b1 : mb2 * n8 ≤ 2376 * 8 := Nat.mul_le_mul (by omega) hs8
        have b2 : clS bd n8 * n ≤ 792 * 24 := Nat.mul_le_mul (by omega) hn2
        have b3 : n * n8 ≤ 24 * 8 := Nat.mul_le_mul hn2 hs8
        have b4 : 0 < n * n8 := Nat.mul_pos (by omega) (by omega)
        obtain ⟨A, hA⟩ : ∃ A, A = mb2 * n8 := ⟨_, rfl⟩
        obtain ⟨B, hB⟩ : ∃ B, B = clS bd n8 * n := ⟨_, rfl⟩
        rw [← hA] at h1 b1
        rw [← hB] at h1 b2
        refine V.nm [(0, .ref 0), (1, .int (nI n)), (2, .int (nI j))] [.int (nI (clS bd n8)), .int (nI mb2 * nI n8)] (pX c d k (bd, od, (nI n8), (nI l2), be, (nI a2), st, tk, mb, mw, mt) (bd, qo1, (nI n8), (nI l2), be, (nI a2), (nI qs1), qt1, (nI mb2), qw1, qm1) kr rd ft tg tc lw kl ik ri s0 s1 s2 s3 tx) rfl rfl rfl ?_
        refine V.g2 60 [29] mX6_share_ok rfl ?_
        rcases Nat.lt_or_ge A B with hAB | hAB
        · have hab : nI mb2 * nI n8 - nI (clS bd n8) * nI n = - nI (B - A) := by
            rw [nmul rfl rfl, nmul rfl rfl, ← hA, ← hB]
            exact nI_subn hAB
          refine V.cs mX6_share_ok rfl lX6_336 (c7_lowestTerm l) rfl rfl rfl rfl ⟨_, _, _, (B - A), n * n8, j, true, hab, nmul rfl rfl, rfl, by omega, by omega, by omega, by omega, (fun _ => by omega), rfl, fun q hq => ⟨rfl, ?_⟩⟩
          refine V.nm [(3, .int ((nI mb2 * nI n8) - ((nI (clS bd n8)) * (nI n)))), (0, .ref 0), (1, .int (nI n)), (2, .int (nI j))] [.long q] (pX c d k (bd, od, (nI n8), (nI l2), be, (nI a2), st, tk, mb, mw, mt) (bd, qo1, (nI n8), (nI l2), be, (nI a2), (nI qs1), qt1, (nI mb2), qw1, qm1) kr rd ft tg tc lw kl ik ri s0 s1 s2 s3 tx) rfl rfl rfl ?_
          refine V.g2 60 [29] mX6_share_ok rfl ?_
          exact ⟨_, zsim_rfl _, h1 _ (by rw [hq, ltA, shE]; by_cases hj0 : j = 0; rw [if_pos ⟨rfl, hj0⟩, if_pos ⟨hAB, hj0⟩]; rw [if_neg (fun z => hj0 z.2), if_neg (fun z => hj0 z.2), show A - B + (B - A) = B - A by omega]) (bd, qo1, (nI n8), (nI l2), be, (nI a2), (nI qs1), qt1, (nI mb2), qw1, qm1)⟩
        · have hab : nI mb2 * nI n8 - nI (clS bd n8) * nI n = nI (A - B) := by
            rw [nmul rfl rfl, nmul rfl rfl, ← hA, ← hB]
            exact pk_sub hAB
          refine V.cs mX6_share_ok rfl lX6_336 (c7_lowestTerm l) rfl rfl rfl rfl ⟨_, _, _, (A - B), n * n8, j, false, hab, nmul rfl rfl, rfl, by omega, by omega, by omega, by omega, (fun e => Bool.noConfusion e), rfl, fun q hq => ⟨rfl, ?_⟩⟩
          refine V.nm [(3, .int ((nI mb2 * nI n8) - ((nI (clS bd n8)) * (nI n)))), (0, .ref 0), (1, .int (nI n)), (2, .int (nI j))] [.long q] (pX c d k (bd, od, (nI n8), (nI l2), be, (nI a2), st, tk, mb, mw, mt) (bd, qo1, (nI n8), (nI l2), be, (nI a2), (nI qs1), qt1, (nI mb2), qw1, qm1) kr rd ft tg tc lw kl ik ri s0 s1 s2 s3 tx) rfl rfl rfl ?_
          refine V.g2 60 [29] mX6_share_ok rfl ?_
          exact ⟨_, zsim_rfl _, h1 _ (by rw [hq, ltA, shE, if_neg (fun z => Bool.noConfusion z.1), if_neg (fun z => absurd z.1 (by omega)), show A - B + (B - A) = A - B by omega]) (bd, qo1, (nI n8), (nI l2), be, (nI a2), (nI qs1), qt1, (nI mb2), qw1, qm1)⟩
      · refine V.g2 60 [29] mX6_share_ok rfl ?_
        exact ⟨_, zsim_rfl _, h0 (Or.inr e1)⟩
def T6_taken : zT := fun args hs Q => ∃ (c d k : zCart) (r tr kr : zRow) (rd : zRd) (ft : Nat) (tg : Nat → Option Nat) (tc lw kl ik : Int32) (ri : zRi) (s0 s1 s2 s3 : zSh) (tx : zTx) (x y : Int32), kOk c ∧ args = [.ref 0, .int x, .int y] ∧ hs = pX c d k r tr kr rd ft tg tc lw kl ik ri s0 s1 s2 s3 tx ∧ (wiB y 6 = false → Q (some (.int (-2))) hs) ∧ (wiB y 6 = true → wiB x 11 = false → Q (some (.int (-12))) hs) ∧ (∀ i k1, i < 12 → k1 < 7 → x = nI i → y = nI k1 → (i < 8 → loC c i = 0 → Q (some (.int (-11))) hs) ∧ (i < 8 → ¬ loC c i = 0 → k1 = 6 → Q (some (.int (loC c i))) hs) ∧ (i < 8 → ¬ loC c i = 0 → ¬ k1 = 6 → Q (some (.int (-13))) hs) ∧ (8 ≤ i → k1 < 6 → isU (kw c (i - 8)) k1 = true → Q (some (.int (nI (i - 8)))) hs) ∧ (8 ≤ i → (k1 = 6 ∨ (k1 < 6 ∧ isU (kw c (i - 8)) k1 = false)) → Q (some (.int (-13))) hs))
set_option maxHeartbeats 4000000 in
theorem c6_taken (l : Launch) : Ct l mX6_taken false 3 0 0 T6_taken := by
  refine Ct.intro mX6_taken_ok ?_
  rintro args hs Q ⟨c, d, k, r, tr, kr, rd, ft, tg, tc, lw, kl, ik, ri, s0, s1, s2, s3, tx, x, y, hok, rfl, rfl, h0, h1, h2⟩
  refine ⟨Nat.le_of_ble_eq_true rfl, ?_⟩
  refine V.g2 60 [66, 68, 96, 98] mX6_taken_ok rfl ?_
  refine V.cS0 mX6_taken_ok rfl lX6_114 (ct_within l) rfl [.int y, .int (nI 0), .int (nI 6)] [] rfl rfl rfl (some (.int (bI (wiB y 6)))) (T_within_use rfl) ?_
  cases hB : (wiB y 6) with
  | false =>
    refine V.nm [(0, .ref 0), (1, .int x), (2, .int y)] [.int (bI false)] (pX c d k r tr kr rd ft tg tc lw kl ik ri s0 s1 s2 s3 tx) rfl rfl rfl ?_
    refine V.g2 60 [66, 68, 96, 98] mX6_taken_ok rfl ?_
    refine And.intro (fun e => absurd rfl e) (fun _ => ?_)
    exact ⟨_, zsim_rfl _, h0 hB⟩
  | true =>
    refine V.nm [(0, .ref 0), (1, .int x), (2, .int y)] [.int (bI true)] (pX c d k r tr kr rd ft tg tc lw kl ik ri s0 s1 s2 s3 tx) rfl rfl rfl ?_
    have h1 := h1 hB
    refine V.g2 60 [66, 68, 96, 98] mX6_taken_ok rfl ?_
    refine And.intro (fun _ => ?_) (fun e => absurd e (by decide))
    refine V.cS0 mX6_taken_ok rfl lX6_114 (ct_within l) rfl [.int x, .int (nI 0), .int (nI 11)] [] rfl rfl rfl (some (.int (bI (wiB x 11)))) (T_within_use rfl) ?_
    cases hC : (wiB x 11) with
    | false =>
      refine V.nm [(0, .ref 0), (1, .int x), (2, .int y)] [.int (bI false)] (pX c d k r tr kr rd ft tg tc lw kl ik ri s0 s1 s2 s3 tx) rfl rfl rfl ?_
      refine V.g2 60 [66, 68, 96, 98] mX6_taken_ok rfl ?_
      refine And.intro (fun e => absurd rfl e) (fun _ => ?_)
      exact ⟨_, zsim_rfl _, h1 hC⟩
    | true =>
      refine V.nm [(0, .ref 0), (1, .int x), (2, .int y)] [.int (bI true)] (pX c d k r tr kr rd ft tg tc lw kl ik ri s0 s1 s2 s3 tx) rfl rfl rfl ?_
      obtain ⟨i, hi, rfl⟩ := wiB_t hC (by omega)
      obtain ⟨k1, hk1, rfl⟩ := wiB_t hB (by omega)
      obtain ⟨g1, g2, g3, g4, g5⟩ := h2 i k1 (by omega) (by omega) rfl rfl
      clear h0 h1 h2 hB hC
      refine V.nm [(0, .ref 0), (1, .int (nI i)), (2, .int (nI k1))] [.int (bI true)] (pX c d k r tr kr rd ft tg tc lw kl ik ri s0 s1 s2 s3 tx) rfl rfl rfl ?_
      refine V.g2 60 [66, 68, 96, 98] mX6_taken_ok rfl ?_
      refine And.intro (fun _ => ?_) (fun e => absurd e (by decide))
      refine V.cS0 mX6_taken_ok rfl lX6_178 (ct_isPlace l) rfl [.int (nI i)] [] rfl rfl rfl (some (.int (bI (wiB (nI i) 7)))) ⟨_, rfl, rfl, rfl⟩ ?_
      cases hD : wiB (nI i) 7 with
      | false =>
        refine V.nm [(0, .ref 0), (1, .int (nI i)), (2, .int (nI k1))] [.int (bI false)] (pX c d k r tr kr rd ft tg tc lw kl ik ri s0 s1 s2 s3 tx) rfl rfl rfl ?_
        have hi8 : 8 ≤ i := Nat.le_of_not_lt (fun z => by rw [wiB_n (show i ≤ 7 by omega) (by omega)] at hD; cases hD)
        refine V.g2 60 [66, 68, 96, 98] mX6_taken_ok rfl ?_
        refine And.intro (fun _ => ?_) (fun e => absurd rfl e)
        refine pk_eq k1 6 (fun e2 => ?_) (fun e2 => ?_) rfl rfl
        · refine V.g2 60 [66, 68, 96, 98] mX6_taken_ok rfl ?_
          refine V.g2 60 [66, 68, 96, 98] mX6_taken_ok rfl ?_
          exact ⟨_, zsim_rfl _, g5 hi8 (Or.inl e2)⟩
        · refine V.nm [(3, .int ((nI i) - (nI 8))), (0, .ref 0), (1, .int (nI i)), (2, .int (nI k1))] [.int (nI k1), .int ((nI i) - (nI 8)), .ref 2] (pX c d k r tr kr rd ft tg tc lw kl ik ri s0 s1 s2 s3 tx) rfl rfl rfl ?_
          obtain ⟨kk, hkk⟩ : ∃ kk, kk = kw c (i - 8) := ⟨_, rfl⟩
          obtain ⟨w1, w2⟩ := hok (i - 8) (by omega)
          rw [← hkk] at g4 g5 w1 w2
          rw [show nI i - nI 8 = nI (i - 8) from pk_sub hi8]
          refine V.nm [(3, .int (nI (i - 8))), (0, .ref 0), (1, .int (nI i)), (2, .int (nI k1))] [.int (nI k1), .int (nI (i - 8)), .ref 2] (pX c d k r tr kr rd ft tg tc lw kl ik ri s0 s1 s2 s3 tx) rfl rfl rfl ?_
          refine V.cV1P mX6_taken_ok rfl lX6_354 (ct_isOfKind l) rfl 56 rfl [1, 2, 3, 4, 5, 6, 7] [none, some 0, some 1, some 2, some 3, some 4, some 5, some 6, none, none, none, none, none, none, none, none, none, none, none, none, none, none, none, none, none, none, none, none, none, none, none, none, none, none, none, none, none, none, none, none, none, none, none, none, none, none, none, none, none, none, none, none, none, none, none, none] (by decide +kernel) (pCart 0 c) [.ref 0, .int (nI (i - 8)), .int (nI k1)] [] rfl 0 0 rfl rfl rfl rfl rfl rfl rfl rfl (some (.int (bI (isU kk k1)))) (pCart 0 c) ⟨c, i - 8, k1, kk, by omega, by omega, w1, w2, rfl, rfl, rfl, rfl⟩ rfl (pX c d k r tr kr rd ft tg tc lw kl ik ri s0 s1 s2 s3 tx) [.int (bI (isU kk k1))] rfl rfl ?_
          cases hu : isU kk k1 with
          | false =>
            refine V.nm [(3, .int (nI (i - 8))), (0, .ref 0), (1, .int (nI i)), (2, .int (nI k1))] [.int (bI false)] (pX c d k r tr kr rd ft tg tc lw kl ik ri s0 s1 s2 s3 tx) rfl rfl rfl ?_
            refine V.g2 60 [66, 68, 96, 98] mX6_taken_ok rfl ?_
            refine And.intro (fun _ => ?_) (fun e => absurd rfl e)
            refine V.g2 60 [66, 68, 96, 98] mX6_taken_ok rfl ?_
            refine V.g2 60 [66, 68, 96, 98] mX6_taken_ok rfl ?_
            exact ⟨_, zsim_rfl _, g5 hi8 (Or.inr ⟨by omega, hu⟩)⟩
          | true =>
            refine V.nm [(3, .int (nI (i - 8))), (0, .ref 0), (1, .int (nI i)), (2, .int (nI k1))] [.int (bI true)] (pX c d k r tr kr rd ft tg tc lw kl ik ri s0 s1 s2 s3 tx) rfl rfl rfl ?_
            refine V.g2 60 [66, 68, 96, 98] mX6_taken_ok rfl ?_
            refine And.intro (fun e => absurd e (by decide)) (fun _ => ?_)
            refine V.g2 60 [66, 68, 96, 98] mX6_taken_ok rfl ?_
            exact ⟨_, zsim_rfl _, g4 hi8 (by omega) hu⟩
      | true =>
        refine V.nm [(0, .ref 0), (1, .int (nI i)), (2, .int (nI k1))] [.int (bI true)] (pX c d k r tr kr rd ft tg tc lw kl ik ri s0 s1 s2 s3 tx) rfl rfl rfl ?_
        have hi8 : i < 8 := by
          obtain ⟨q, hq, e⟩ := wiB_t hD (by omega)
          have := (nI_eq (by omega) (by omega)).mp e
          omega
        refine V.g2 60 [66, 68, 96, 98] mX6_taken_ok rfl ?_
        refine And.intro (fun e => absurd e (by decide)) (fun _ => ?_)
        refine ⟨i, by omega, rfl, rfl, ?_⟩
        refine And.intro (fun (e1 : ¬ ((loC c) i) = (0 : Int32)) => ?_) (fun (e1 : ((loC c) i) = (0 : Int32)) => ?_)
        · refine zp_ne k1 6 (fun e2 => ?_) (fun e2 => ?_) rfl rfl
          · refine V.g2 60 [66, 68, 96, 98] mX6_taken_ok rfl ?_
            refine V.g2 60 [66, 68, 96, 98] mX6_taken_ok rfl ?_
            exact ⟨_, zsim_rfl _, g3 hi8 e1 e2⟩
          · refine ⟨i, by omega, rfl, rfl, ?_⟩
            refine V.g2 60 [66, 68, 96, 98] mX6_taken_ok rfl ?_
            exact ⟨_, zsim_rfl _, g2 hi8 e1 e2⟩
        · exact ⟨_, zsim_rfl _, g1 hi8 e1⟩
def T6_asks : zT := fun args hs Q => ∃ (c d k : zCart) (r tr kr : zRow) (rd : zRd) (ft : Nat) (tg : Nat → Option Nat) (tc lw kl ik : Int32) (ri : zRi) (s0 s1 s2 s3 : zSh) (tx : zTx) (x y z w : Int32) (P : zP), lOk tg lw tx P ∧ args = [.ref 0, .int x, .int y, .int z, .int w] ∧ hs = pX c d k r tr kr rd ft tg tc lw kl ik ri s0 s1 s2 s3 tx ∧ (asB x y z w = false → Q (some (.int (-2))) hs) ∧ (∀ part lh te j, part < 3 → lh < 10000 → te < 30 → j < 4 → x = nI part → y = nI lh → z = nI te → w = nI j → ∀ nm' sk', Q (some (.int (sayF (zPp P part) (nmF (nI (lh / 100)) (nI (lh % 100)) (paC c) (nI te) (moC c j) (nI j))))) (pX c d k r tr kr rd ft tg tc lw kl ik ri s0 s1 s2 s3 (txS tx nm' sk')))
set_option maxHeartbeats 4000000 in
theorem c6_asks (l : Launch) : Ct l mX6_asks false 4 0 0 T6_asks := by
  refine Ct.intro mX6_asks_ok ?_
  rintro args hs Q ⟨c, d, k, r, tr, kr, rd, ft, tg, tc, lw, kl, ik, ri, s0, s1, s2, s3, tx, x, y, z, w, P, hL, rfl, rfl, h0, h1⟩
  obtain ⟨nt, n, cd, en, nm, sk⟩ := tx
  refine ⟨Nat.le_of_ble_eq_true rfl, ?_⟩
  refine V.g2 60 [35] mX6_asks_ok rfl ?_
  refine V.cS0 mX6_asks_ok rfl lX6_114 (ct_within l) rfl [.int x, .int (nI 0), .int (nI 2)] [] rfl rfl rfl (some (.int (bI (wiB x 2)))) (T_within_use rfl) ?_
  cases hB : (wiB x 2) with
  | false =>
    refine V.nm [(0, .ref 0), (1, .int x), (2, .int y), (3, .int z), (4, .int w)] [.int (bI false)] (pX c d k r tr kr rd ft tg tc lw kl ik ri s0 s1 s2 s3 (nt, n, cd, en, nm, sk)) rfl rfl rfl ?_
    refine V.g2 60 [35] mX6_asks_ok rfl ?_
    refine And.intro (fun _ => ?_) (fun e => absurd rfl e)
    refine V.g2 60 [35] mX6_asks_ok rfl ?_
    exact ⟨_, zsim_rfl _, h0 (by rw [asB, hB]; simp)⟩
  | true =>
    refine V.nm [(0, .ref 0), (1, .int x), (2, .int y), (3, .int z), (4, .int w)] [.int (bI true)] (pX c d k r tr kr rd ft tg tc lw kl ik ri s0 s1 s2 s3 (nt, n, cd, en, nm, sk)) rfl rfl rfl ?_
    refine V.g2 60 [35] mX6_asks_ok rfl ?_
    refine And.intro (fun e => absurd e (by decide)) (fun _ => ?_)
    refine V.cS0 mX6_asks_ok rfl lX6_114 (ct_within l) rfl [.int y, .int (nI 0), .int (nI 9999)] [] rfl rfl rfl (some (.int (bI (wiB y 9999)))) (T_within_use rfl) ?_
    cases hC : (wiB y 9999) with
    | false =>
      refine V.nm [(0, .ref 0), (1, .int x), (2, .int y), (3, .int z), (4, .int w)] [.int (bI false)] (pX c d k r tr kr rd ft tg tc lw kl ik ri s0 s1 s2 s3 (nt, n, cd, en, nm, sk)) rfl rfl rfl ?_
      have hC : wiB y 9999 = false := hC
      refine V.g2 60 [35] mX6_asks_ok rfl ?_
      refine And.intro (fun _ => ?_) (fun e => absurd rfl e)
      refine V.g2 60 [35] mX6_asks_ok rfl ?_
      exact ⟨_, zsim_rfl _, h0 (by rw [asB, hB, hC]; simp)⟩
    | true =>
      refine V.nm [(0, .ref 0), (1, .int x), (2, .int y), (3, .int z), (4, .int w)] [.int (bI true)] (pX c d k r tr kr rd ft tg tc lw kl ik ri s0 s1 s2 s3 (nt, n, cd, en, nm, sk)) rfl rfl rfl ?_
      have hC : wiB y 9999 = true := hC
      refine V.g2 60 [35] mX6_asks_ok rfl ?_
      refine And.intro (fun e => absurd e (by decide)) (fun _ => ?_)
      refine V.cS0 mX6_asks_ok rfl lX6_122 (ct_isTenth l) rfl [.int z] [] rfl rfl rfl (some (.int (bI (wiB z 29)))) ⟨_, rfl, rfl, rfl⟩ ?_
      cases hD : wiB z 29 with
      | false =>
        refine V.nm [(0, .ref 0), (1, .int x), (2, .int y), (3, .int z), (4, .int w)] [.int (bI false)] (pX c d k r tr kr rd ft tg tc lw kl ik ri s0 s1 s2 s3 (nt, n, cd, en, nm, sk)) rfl rfl rfl ?_
        refine V.g2 60 [35] mX6_asks_ok rfl ?_
        refine And.intro (fun _ => ?_) (fun e => absurd rfl e)
        refine V.g2 60 [35] mX6_asks_ok rfl ?_
        exact ⟨_, zsim_rfl _, h0 (by rw [asB, hB, hC, hD]; simp)⟩
      | true =>
        refine V.nm [(0, .ref 0), (1, .int x), (2, .int y), (3, .int z), (4, .int w)] [.int (bI true)] (pX c d k r tr kr rd ft tg tc lw kl ik ri s0 s1 s2 s3 (nt, n, cd, en, nm, sk)) rfl rfl rfl ?_
        refine V.g2 60 [35] mX6_asks_ok rfl ?_
        refine And.intro (fun e => absurd e (by decide)) (fun _ => ?_)
        refine V.cS0 mX6_asks_ok rfl lX6_125 (ct_isWheel l) rfl [.int w] [] rfl rfl rfl (some (.int (bI (wiB w 3)))) ⟨_, rfl, rfl, rfl⟩ ?_
        cases hE : wiB w 3 with
        | false =>
          refine V.nm [(0, .ref 0), (1, .int x), (2, .int y), (3, .int z), (4, .int w)] [.int (bI false)] (pX c d k r tr kr rd ft tg tc lw kl ik ri s0 s1 s2 s3 (nt, n, cd, en, nm, sk)) rfl rfl rfl ?_
          refine V.g2 60 [35] mX6_asks_ok rfl ?_
          refine And.intro (fun e => absurd rfl e) (fun _ => ?_)
          refine V.g2 60 [35] mX6_asks_ok rfl ?_
          exact ⟨_, zsim_rfl _, h0 (by rw [asB, hB, hC, hD, hE]; simp)⟩
        | true =>
          refine V.nm [(0, .ref 0), (1, .int x), (2, .int y), (3, .int z), (4, .int w)] [.int (bI true)] (pX c d k r tr kr rd ft tg tc lw kl ik ri s0 s1 s2 s3 (nt, n, cd, en, nm, sk)) rfl rfl rfl ?_
          obtain ⟨part, hpa, rfl⟩ := wiB_t hB (by omega)
          obtain ⟨lh, hlh, rfl⟩ := wiB_t hC (by omega)
          obtain ⟨te, hte, rfl⟩ := wiB_t hD (by omega)
          obtain ⟨j, hj, rfl⟩ := wiB_t hE (by omega)
          have h1 := h1 part lh te j (by omega) (by omega) (by omega) (by omega) rfl rfl rfl rfl
          clear h0 hB hC hD hE
          refine V.nm [(0, .ref 0), (1, .int (nI part)), (2, .int (nI lh)), (3, .int (nI te)), (4, .int (nI j))] [.int (bI true)] (pX c d k r tr kr rd ft tg tc lw kl ik ri s0 s1 s2 s3 (nt, n, cd, en, nm, sk)) rfl rfl rfl ?_
          obtain ⟨S, hS⟩ : ∃ S, pX c d k r tr kr rd ft tg tc lw kl ik ri s0 s1 s2 s3 (nt, n, cd, en, nm, sk) = S := ⟨_, rfl⟩
          refine V.s0 hS ?_
          refine V.g2 60 [35] mX6_asks_ok rfl ?_
          refine And.intro (fun _ => ?_) (fun e => absurd e (by decide))
          refine V.cVW mX6_asks_ok rfl lX6_128 (ct_theLaw l) rfl [.ref 0] [] rfl 0 6 rfl rfl rfl rfl rfl rfl (some (.ref 102)) (pX c d k r tr kr rd ft tg tc lw kl ik ri s0 s1 s2 s3 (nt, n, cd, en, nm, sk)) ⟨c, d, k, r, tr, kr, rd, ft, tg, tc, lw, kl, ik, ri, s0, s1, s2, s3, (nt, n, cd, en, nm, sk), P, hL, rfl, rfl, rfl, rfl⟩ rfl ?_
          refine V.g2 60 [35] mX6_asks_ok rfl ?_
          refine And.intro (show ¬ (nI 100) = 0 by decide) ?_
          refine V.cV1P mX6_asks_ok rfl lX6_132 (ct_name l) rfl 56 rfl [51, 52, 53, 54, 55] [none, none, none, none, none, none, none, none, none, none, none, none, none, none, none, none, none, none, none, none, none, none, none, none, none, none, none, none, none, none, none, none, none, none, none, none, none, none, none, none, none, none, none, none, none, none, none, none, none, none, none, some 0, some 1, some 2, some 3, some 4] (by decide +kernel) (pText 0 nt n cd en nm sk) [.ref 0, .int (nI 0), .int ((nI lh) / (nI 100))] [] rfl 0 5 rfl rfl rfl rfl rfl rfl rfl rfl none (pText 0 nt n cd en (upd nm 0 ((nI lh) / (nI 100))) sk) ⟨nt, n, cd, en, nm, sk, 0, ((nI lh) / (nI 100)), by omega, rfl, rfl, rfl, rfl⟩ rfl (pX c d k r tr kr rd ft tg tc lw kl ik ri s0 s1 s2 s3 (nt, n, cd, en, (upd nm 0 ((nI lh) / (nI 100))), sk)) [] rfl rfl ?_
          refine V.g2 60 [35] mX6_asks_ok rfl ?_
          refine And.intro (show ¬ (nI 100) = 0 by decide) ?_
          refine V.cV1P mX6_asks_ok rfl lX6_132 (ct_name l) rfl 56 rfl [51, 52, 53, 54, 55] [none, none, none, none, none, none, none, none, none, none, none, none, none, none, none, none, none, none, none, none, none, none, none, none, none, none, none, none, none, none, none, none, none, none, none, none, none, none, none, none, none, none, none, none, none, none, none, none, none, none, none, some 0, some 1, some 2, some 3, some 4] (by decide +kernel) (pText 0 nt n cd en (upd nm 0 ((nI lh) / (nI 100))) sk) [.ref 0, .int (nI 1), .int ((nI lh) - (nI lh) / (nI 100) * (nI 100))] [] rfl 0 5 rfl rfl rfl rfl rfl rfl rfl rfl none (pText 0 nt n cd en (upd (upd nm 0 ((nI lh) / (nI 100))) 1 ((nI lh) - (nI lh) / (nI 100) * (nI 100))) sk) ⟨nt, n, cd, en, (upd nm 0 ((nI lh) / (nI 100))), sk, 1, ((nI lh) - (nI lh) / (nI 100) * (nI 100)), by omega, rfl, rfl, rfl, rfl⟩ rfl (pX c d k r tr kr rd ft tg tc lw kl ik ri s0 s1 s2 s3 (nt, n, cd, en, (upd (upd nm 0 ((nI lh) / (nI 100))) 1 ((nI lh) - (nI lh) / (nI 100) * (nI 100))), sk)) [] rfl rfl ?_
          refine V.g2 60 [35] mX6_asks_ok rfl ?_
          refine V.cV1P mX6_asks_ok rfl lX6_132 (ct_name l) rfl 56 rfl [51, 52, 53, 54, 55] [none, none, none, none, none, none, none, none, none, none, none, none, none, none, none, none, none, none, none, none, none, none, none, none, none, none, none, none, none, none, none, none, none, none, none, none, none, none, none, none, none, none, none, none, none, none, none, none, none, none, none, some 0, some 1, some 2, some 3, some 4] (by decide +kernel) (pText 0 nt n cd en (upd (upd nm 0 ((nI lh) / (nI 100))) 1 ((nI lh) - (nI lh) / (nI 100) * (nI 100))) sk) [.ref 0, .int (nI 2), .int (paC c)] [] rfl 0 5 rfl rfl rfl rfl rfl rfl rfl rfl none (pText 0 nt n cd en (upd (upd (upd nm 0 ((nI lh) / (nI 100))) 1 ((nI lh) - (nI lh) / (nI 100) * (nI 100))) 2 (paC c)) sk) ⟨nt, n, cd, en, (upd (upd nm 0 ((nI lh) / (nI 100))) 1 ((nI lh) - (nI lh) / (nI 100) * (nI 100))), sk, 2, (paC c), by omega, rfl, rfl, rfl, rfl⟩ rfl (pX c d k r tr kr rd ft tg tc lw kl ik ri s0 s1 s2 s3 (nt, n, cd, en, (upd (upd (upd nm 0 ((nI lh) / (nI 100))) 1 ((nI lh) - (nI lh) / (nI 100) * (nI 100))) 2 (paC c)), sk)) [] rfl rfl ?_
          refine V.g2 60 [35] mX6_asks_ok rfl ?_
          refine V.cV1P mX6_asks_ok rfl lX6_132 (ct_name l) rfl 56 rfl [51, 52, 53, 54, 55] [none, none, none, none, none, none, none, none, none, none, none, none, none, none, none, none, none, none, none, none, none, none, none, none, none, none, none, none, none, none, none, none, none, none, none, none, none, none, none, none, none, none, none, none, none, none, none, none, none, none, none, some 0, some 1, some 2, some 3, some 4] (by decide +kernel) (pText 0 nt n cd en (upd (upd (upd nm 0 ((nI lh) / (nI 100))) 1 ((nI lh) - (nI lh) / (nI 100) * (nI 100))) 2 (paC c)) sk) [.ref 0, .int (nI 3), .int (nI te)] [] rfl 0 5 rfl rfl rfl rfl rfl rfl rfl rfl none (pText 0 nt n cd en (upd (upd (upd (upd nm 0 ((nI lh) / (nI 100))) 1 ((nI lh) - (nI lh) / (nI 100) * (nI 100))) 2 (paC c)) 3 (nI te)) sk) ⟨nt, n, cd, en, (upd (upd (upd nm 0 ((nI lh) / (nI 100))) 1 ((nI lh) - (nI lh) / (nI 100) * (nI 100))) 2 (paC c)), sk, 3, (nI te), by omega, rfl, rfl, rfl, rfl⟩ rfl (pX c d k r tr kr rd ft tg tc lw kl ik ri s0 s1 s2 s3 (nt, n, cd, en, (upd (upd (upd (upd nm 0 ((nI lh) / (nI 100))) 1 ((nI lh) - (nI lh) / (nI 100) * (nI 100))) 2 (paC c)) 3 (nI te)), sk)) [] rfl rfl ?_
          refine V.g2 60 [35] mX6_asks_ok rfl ?_
          refine ⟨j, by omega, rfl, rfl, ?_⟩
          refine V.cV1P mX6_asks_ok rfl lX6_132 (ct_name l) rfl 56 rfl [51, 52, 53, 54, 55] [none, none, none, none, none, none, none, none, none, none, none, none, none, none, none, none, none, none, none, none, none, none, none, none, none, none, none, none, none, none, none, none, none, none, none, none, none, none, none, none, none, none, none, none, none, none, none, none, none, none, none, some 0, some 1, some 2, some 3, some 4] (by decide +kernel) (pText 0 nt n cd en (upd (upd (upd (upd nm 0 ((nI lh) / (nI 100))) 1 ((nI lh) - (nI lh) / (nI 100) * (nI 100))) 2 (paC c)) 3 (nI te)) sk) [.ref 0, .int (nI 4), .int ((moC c) j)] [] rfl 0 5 rfl rfl rfl rfl rfl rfl rfl rfl none (pText 0 nt n cd en (upd (upd (upd (upd (upd nm 0 ((nI lh) / (nI 100))) 1 ((nI lh) - (nI lh) / (nI 100) * (nI 100))) 2 (paC c)) 3 (nI te)) 4 ((moC c) j)) sk) ⟨nt, n, cd, en, (upd (upd (upd (upd nm 0 ((nI lh) / (nI 100))) 1 ((nI lh) - (nI lh) / (nI 100) * (nI 100))) 2 (paC c)) 3 (nI te)), sk, 4, ((moC c) j), by omega, rfl, rfl, rfl, rfl⟩ rfl (pX c d k r tr kr rd ft tg tc lw kl ik ri s0 s1 s2 s3 (nt, n, cd, en, (upd (upd (upd (upd (upd nm 0 ((nI lh) / (nI 100))) 1 ((nI lh) - (nI lh) / (nI 100) * (nI 100))) 2 (paC c)) 3 (nI te)) 4 ((moC c) j)), sk)) [] rfl rfl ?_
          refine V.g2 60 [35] mX6_asks_ok rfl ?_
          refine V.cV1P mX6_asks_ok rfl lX6_132 (ct_name l) rfl 56 rfl [51, 52, 53, 54, 55] [none, none, none, none, none, none, none, none, none, none, none, none, none, none, none, none, none, none, none, none, none, none, none, none, none, none, none, none, none, none, none, none, none, none, none, none, none, none, none, none, none, none, none, none, none, none, none, none, none, none, none, some 0, some 1, some 2, some 3, some 4] (by decide +kernel) (pText 0 nt n cd en (upd (upd (upd (upd (upd nm 0 ((nI lh) / (nI 100))) 1 ((nI lh) - (nI lh) / (nI 100) * (nI 100))) 2 (paC c)) 3 (nI te)) 4 ((moC c) j)) sk) [.ref 0, .int (nI 5), .int (nI j)] [] rfl 0 5 rfl rfl rfl rfl rfl rfl rfl rfl none (pText 0 nt n cd en (upd (upd (upd (upd (upd (upd nm 0 ((nI lh) / (nI 100))) 1 ((nI lh) - (nI lh) / (nI 100) * (nI 100))) 2 (paC c)) 3 (nI te)) 4 ((moC c) j)) 5 (nI j)) sk) ⟨nt, n, cd, en, (upd (upd (upd (upd (upd nm 0 ((nI lh) / (nI 100))) 1 ((nI lh) - (nI lh) / (nI 100) * (nI 100))) 2 (paC c)) 3 (nI te)) 4 ((moC c) j)), sk, 5, (nI j), by omega, rfl, rfl, rfl, rfl⟩ rfl (pX c d k r tr kr rd ft tg tc lw kl ik ri s0 s1 s2 s3 (nt, n, cd, en, (upd (upd (upd (upd (upd (upd nm 0 ((nI lh) / (nI 100))) 1 ((nI lh) - (nI lh) / (nI 100) * (nI 100))) 2 (paC c)) 3 (nI te)) 4 ((moC c) j)) 5 (nI j)), sk)) [] rfl rfl ?_
          refine V.g2 60 [35] mX6_asks_ok rfl ?_
          obtain ⟨NM, hNM⟩ : ∃ NM, NM = (upd (upd (upd (upd (upd (upd nm 0 ((nI lh) / (nI 100))) 1 ((nI lh) - (nI lh) / (nI 100) * (nI 100))) 2 (paC c)) 3 (nI te)) 4 ((moC c) j)) 5 (nI j)) := ⟨_, rfl⟩
          have hsay : sayF (zPp P part) NM = sayF (zPp P part) (nmF (nI (lh / 100)) (nI (lh % 100)) (paC c) (nI te) (moC c j) (nI j)) := by
            refine sayF_cong (fun op _ h6 => ?_)
            rw [hNM]
            have e1 : nI lh / nI 100 = nI (lh / 100) := ndiv rfl rfl (by omega) (by omega) (by omega)
            have e2 : nI lh - nI lh / nI 100 * nI 100 = nI (lh % 100) := nrem rfl rfl (by omega) (by omega) (by omega)
            rcases (show op = 0 ∨ op = 1 ∨ op = 2 ∨ op = 3 ∨ op = 4 ∨ op = 5 by omega) with rfl | rfl | rfl | rfl | rfl | rfl
            · exact e1
            · exact e2
            · rfl
            · rfl
            · rfl
            · rfl
          rw [← hNM]
          refine V.nm [(5, .ref 102), (0, .ref 0), (1, .int (nI part)), (2, .int (nI lh)), (3, .int (nI te)), (4, .int (nI j))] [.int (nI part), .ref 102] (pX c d k r tr kr rd ft tg tc lw kl ik ri s0 s1 s2 s3 (nt, n, cd, en, NM, sk)) rfl rfl rfl ?_
          have hpt : tPart n cd en part (zPp P part) := by
            have hT : tTx nt n cd en P := hL.2
            rcases (show part = 0 ∨ part = 1 ∨ part = 2 by omega) with rfl | rfl | rfl
            · exact hT.2.1
            · exact hT.2.2.1
            · exact hT.2.2.2.1
          refine V.callVP mX6_asks_ok rfl lX6_143 (ct_says l) rfl 56 rfl (fun k => k) (fun _ _ => rfl) [51, 52, 53, 54, 55] [none, none, none, none, none, none, none, none, none, none, none, none, none, none, none, none, none, none, none, none, none, none, none, none, none, none, none, none, none, none, none, none, none, none, none, none, none, none, none, none, none, none, none, none, none, none, none, none, none, none, none, some 0, some 1, some 2, some 3, some 4] (by decide +kernel) (pText 0 nt n cd en NM sk) [.ref 0, .int (nI part)] [] (fun v wc' => ∃ (sk9 : fI) (v9 : Int32), v9 = sayF (zPp P part) NM ∧ v = some (.int v9) ∧ wc' = pText 0 nt n cd en NM sk9) rfl 0 5 rfl rfl rfl rfl rfl rfl rfl rfl ⟨nt, n, cd, en, NM, sk, part, zPp P part, hL.2.1, by omega, hpt, rfl, rfl, fun sk9 => ⟨sk9, _, rfl, rfl, rfl⟩⟩ (fun v wc' hv => ?_)
          obtain ⟨sk9, v9, hv9, rfl, rfl⟩ := hv
          refine ⟨rfl, ?_⟩
          refine V.nm [(5, .ref 102), (0, .ref 0), (1, .int (nI part)), (2, .int (nI lh)), (3, .int (nI te)), (4, .int (nI j))] [.int v9] (pX c d k r tr kr rd ft tg tc lw kl ik ri s0 s1 s2 s3 (nt, n, cd, en, NM, sk9)) rfl rfl rfl ?_
          refine V.g2 60 [35] mX6_asks_ok rfl ?_
          exact ⟨_, zsim_rfl _, (by rw [hv9, hsay]; exact h1 NM sk9)⟩
