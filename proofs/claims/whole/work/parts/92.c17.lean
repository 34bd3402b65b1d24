theorem sv_lt {bd : fI} {be : Int32} {lk aw : Nat} {od : fI} {sz n : Nat} (hb : bOk bd) (h : sz ≤ 8) (ho : oOk od) (hn : n ≤ 24) : (svF bd be lk aw od sz n).2.2.2.1 < 1000000 := by
  obtain ⟨k, hk, e⟩ := svF_mb (be := be) (lk := lk) (aw := aw) (n := n) hb h ho
  rw [e]
  exact Int32.lt_of_lt_of_le (nI_lt (show k < 2377 by omega) (by omega)) (by decide)
theorem bOk_up {bd : fI} {t : Nat} (hb : bOk bd) : bOk (upd bd t 0) := by
  intro i hi
  by_cases e : i = t
  · rw [e, pk_us]; exact ⟨0, by omega, rfl⟩
  · rw [pk_un e]; exact hb i hi
def T6_best : zT := fun args hs Q => ∃ (c d k : zCart) (r tr kr : zRow) (rd : zRd) (ft : Nat) (tg : Nat → Option Nat) (tc lw kl ik : Int32) (ri : zRi) (s0 s1 s2 s3 : zSh) (tx : zTx) (x y : Int32) (n8 l2 a2 : Nat), n8 ≤ 8 ∧ r.2.2.1 = nI n8 ∧ l2 ≤ 8 ∧ r.2.2.2.1 = nI l2 ∧ a2 ≤ 5 ∧ r.2.2.2.2.2.1 = nI a2 ∧ oOk r.2.1 ∧ bOk r.1 ∧ args = [.ref 0, .int x, .int y] ∧ hs = pX c d k r tr kr rd ft tg tc lw kl ik ri s0 s1 s2 s3 tx ∧ ((wiB x 24 && wiB y 1) = false → Q (some (.int (-2))) hs) ∧ (∀ n, n < 25 → x = nI n → wiB y 1 = true → ∀ r0 : Int32, (∀ i v, bsF (bsV r.1 r.2.2.2.2.1 a2 r.2.1 n8 n) 8 = some (i, v) → r0 = (if y = nI 0 then nI i else v)) → ∀ tr', Q (some (.int r0)) (pX c d k r tr' kr rd ft tg tc lw kl ik ri s0 s1 s2 s3 tx))
set_option maxHeartbeats 4000000 in
theorem c6_best (l : Launch) : Ct l mX6_best false 4 0 0 T6_best := by
  refine Ct.intro mX6_best_ok ?_
  rintro args hs Q ⟨c, d, k, r, tr, kr, rd, ft, tg, tc, lw, kl, ik, ri, s0, s1, s2, s3, tx, x, y, n8, l2, a2, hs8, hsz, hl8, hlo, ha5, haw, hod, hbo, rfl, rfl, h0, h1⟩
  obtain ⟨bd, od, sz, lo, be, aw, st, tk, mb, mw, mt⟩ := r
  obtain ⟨tbd, tod, tsz, tlo, tbe, taw, tst, ttk, tmb, tmw, tmt⟩ := tr
  refine ⟨Nat.le_of_ble_eq_true rfl, ?_⟩
  have hsz : sz = nI n8 := hsz
  have hlo : lo = nI l2 := hlo
  have haw : aw = nI a2 := haw
  subst hsz
  subst hlo
  subst haw
  refine V.nm [(0, .ref 0), (1, .int x), (2, .int y)] [] (pX c d k (bd, od, (nI n8), (nI l2), be, (nI a2), st, tk, mb, mw, mt) (tbd, tod, tsz, tlo, tbe, taw, tst, ttk, tmb, tmw, tmt) kr rd ft tg tc lw kl ik ri s0 s1 s2 s3 tx) rfl rfl rfl ?_
  refine V.g2 60 [28, 86] mX6_best_ok rfl ?_
  refine V.cS0 mX6_best_ok rfl lX6_309 (ct_isGuests l) rfl [.int x] [] rfl rfl rfl (some (.int (bI (wiB x 24)))) ⟨_, rfl, rfl, rfl⟩ ?_
  cases hB : wiB x 24 with
  | false =>
    refine V.nm [(0, .ref 0), (1, .int x), (2, .int y)] [.int (bI false)] (pX c d k (bd, od, (nI n8), (nI l2), be, (nI a2), st, tk, mb, mw, mt) (tbd, tod, tsz, tlo, tbe, taw, tst, ttk, tmb, tmw, tmt) kr rd ft tg tc lw kl ik ri s0 s1 s2 s3 tx) rfl rfl rfl ?_
    refine V.g2 60 [28, 86] mX6_best_ok rfl ?_
    refine And.intro (fun _ => ?_) (fun e => absurd rfl e)
    exact ⟨_, zsim_rfl _, h0 (by rw [hB]; rfl)⟩
  | true =>
    refine V.nm [(0, .ref 0), (1, .int x), (2, .int y)] [.int (bI true)] (pX c d k (bd, od, (nI n8), (nI l2), be, (nI a2), st, tk, mb, mw, mt) (tbd, tod, tsz, tlo, tbe, taw, tst, ttk, tmb, tmw, tmt) kr rd ft tg tc lw kl ik ri s0 s1 s2 s3 tx) rfl rfl rfl ?_
    refine V.g2 60 [28, 86] mX6_best_ok rfl ?_
    refine And.intro (fun e => absurd e (by decide)) (fun _ => ?_)
    refine V.cS0 mX6_best_ok rfl lX6_114 (ct_within l) rfl [.int y, .int (nI 0), .int (nI 1)] [] rfl rfl rfl (some (.int (bI (wiB y 1)))) (T_within_use rfl) ?_
    cases hC : (wiB y 1) with
    | false =>
      refine V.nm [(0, .ref 0), (1, .int x), (2, .int y)] [.int (bI false)] (pX c d k (bd, od, (nI n8), (nI l2), be, (nI a2), st, tk, mb, mw, mt) (tbd, tod, tsz, tlo, tbe, taw, tst, ttk, tmb, tmw, tmt) kr rd ft tg tc lw kl ik ri s0 s1 s2 s3 tx) rfl rfl rfl ?_
      refine V.g2 60 [28, 86] mX6_best_ok rfl ?_
      refine And.intro (fun e => absurd rfl e) (fun _ => ?_)
      exact ⟨_, zsim_rfl _, h0 (by rw [hB, hC]; rfl)⟩
    | true =>
      refine V.nm [(0, .ref 0), (1, .int x), (2, .int y)] [.int (bI true)] (pX c d k (bd, od, (nI n8), (nI l2), be, (nI a2), st, tk, mb, mw, mt) (tbd, tod, tsz, tlo, tbe, taw, tst, ttk, tmb, tmw, tmt) kr rd ft tg tc lw kl ik ri s0 s1 s2 s3 tx) rfl rfl rfl ?_
      obtain ⟨n, hn, rfl⟩ := wiB_t hB (by omega)
      have h1 := h1 n (by omega) rfl hC
      obtain ⟨j, hj, rfl⟩ := wiB_t hC (by omega)
      clear h0 hB hC
      refine V.nm [(0, .ref 0), (1, .int (nI n)), (2, .int (nI j))] [.int (bI true)] (pX c d k (bd, od, (nI n8), (nI l2), be, (nI a2), st, tk, mb, mw, mt) (tbd, tod, tsz, tlo, tbe, taw, tst, ttk, tmb, tmw, tmt) kr rd ft tg tc lw kl ik ri s0 s1 s2 s3 tx) rfl rfl rfl ?_
      obtain ⟨S, hS⟩ : ∃ S, pX c d k (bd, od, (nI n8), (nI l2), be, (nI a2), st, tk, mb, mw, mt) (tbd, tod, tsz, tlo, tbe, taw, tst, ttk, tmb, tmw, tmt) kr rd ft tg tc lw kl ik ri s0 s1 s2 s3 tx = S := ⟨_, rfl⟩
      refine V.s0 hS ?_
      obtain ⟨G, hG⟩ : ∃ G, G = (bsV bd be a2 od n8 n) := ⟨_, rfl⟩
      have h1 := fun (r0 : Int32) (e : ∀ i v, bsF G 8 = some (i, v) → r0 = (if nI j = nI 0 then nI i else v)) => h1 r0 (by rw [hG] at e; exact e)
      have loop : ∀ (m i : Nat) (x5 x4 x3 : Int32) (zbd zod : fI) (zsz zlo zbe zaw zst : Int32) (ztk : fI) (zmb zmw zmt : Int32), i + m = 8 → x5 = nI (i + 1) → (bsF G i = none → x4 = nI 1 ∧ x3 = 1000000) → (∀ q v, bsF G i = some (q, v) → x4 = nI q ∧ x3 = v) → V l mX6_best false S (zrm 4 0 0) (zFm false S Q 0 0) 0 0 28 [(5, .int x5), (4, .int x4), (3, .int x3), (0, .ref 0), (1, .int (nI n)), (2, .int (nI j))] [] (pX c d k (bd, od, (nI n8), (nI l2), be, (nI a2), st, tk, mb, mw, mt) (zbd, zod, zsz, zlo, zbe, zaw, zst, ztk, zmb, zmw, zmt) kr rd ft tg tc lw kl ik ri s0 s1 s2 s3 tx) := by
        intro m
        induction m with
        | zero =>
          intro i x5 x4 x3 zbd zod zsz zlo zbe zaw zst ztk zmb zmw zmt hi h5 hN hS2
          refine V.g2 60 [28, 86] mX6_best_ok rfl ?_
          refine pk_lt 8 (i + 1) (fun e1 => ?_) (fun e1 => absurd e1 (by omega)) rfl h5
          have ei : i = 8 := by omega
          subst ei
          refine zp_ne j 0 (fun e2 => ?_) (fun e2 => ?_) rfl rfl
          · exact ⟨_, zsim_rfl _, h1 _ (fun q v hq => by rw [if_neg (fun z => e2 ((nI_eq (by omega) (by omega)).mp z))]; exact (hS2 q v hq).2) (zbd, zod, zsz, zlo, zbe, zaw, zst, ztk, zmb, zmw, zmt)⟩
          · exact ⟨_, zsim_rfl _, h1 _ (fun q v hq => by rw [if_pos (by rw [e2])]; exact (hS2 q v hq).1) (zbd, zod, zsz, zlo, zbe, zaw, zst, ztk, zmb, zmw, zmt)⟩
        | succ m ih =>
          intro i x5 x4 x3 zbd zod zsz zlo zbe zaw zst ztk zmb zmw zmt hi h5 hN hS2
          refine V.g2 60 [28, 86] mX6_best_ok rfl ?_
          refine pk_lt 8 (i + 1) (fun e1 => absurd e1 (by omega)) (fun e1 => ?_) rfl h5
          subst h5
          refine V.cV1P mX6_best_ok rfl lX6_312 (ct_rbecome l) rfl 56 rfl [26, 27, 28, 29, 22, 23, 24, 25] [none, none, none, none, none, none, none, none, none, none, none, none, none, none, none, none, none, none, none, none, none, none, some 4, some 5, some 6, some 7, some 0, some 1, some 2, some 3, none, none, none, none, none, none, none, none, none, none, none, none, none, none, none, none, none, none, none, none, none, none, none, none, none, none] (by decide +kernel) (pRow 0 zbd zod zsz zlo zbe zaw zst ztk zmb zmw zmt ++ pRow 4 bd od (nI n8) (nI l2) be (nI a2) st tk mb mw mt) [.ref 0, .ref 8] [] rfl 0 3 rfl rfl rfl rfl rfl rfl rfl rfl none (pRow 0 bd od (nI n8) (nI l2) be (nI a2) zst ztk zmb zmw zmt ++ pRow 4 bd od (nI n8) (nI l2) be (nI a2) st tk mb mw mt) ⟨zbd, zod, ztk, bd, od, tk, zsz, zlo, zbe, zaw, zst, zmb, zmw, zmt, (nI n8), (nI l2), be, (nI a2), st, mb, mw, mt, rfl, rfl, rfl, rfl⟩ rfl (pX c d k (bd, od, (nI n8), (nI l2), be, (nI a2), st, tk, mb, mw, mt) (bd, od, (nI n8), (nI l2), be, (nI a2), zst, ztk, zmb, zmw, zmt) kr rd ft tg tc lw kl ik ri s0 s1 s2 s3 tx) [] rfl rfl ?_
          refine V.g2 60 [28, 86] mX6_best_ok rfl ?_
          refine V.nm [(5, .int (nI (i + 1))), (4, .int x4), (3, .int x3), (0, .ref 0), (1, .int (nI n)), (2, .int (nI j))] [.int (nI n), .ref 52] (pX c d k (bd, od, (nI n8), (nI l2), be, (nI a2), st, tk, mb, mw, mt) (bd, od, (nI n8), (nI (i + 1)), be, (nI a2), zst, ztk, zmb, zmw, zmt) kr rd ft tg tc lw kl ik ri s0 s1 s2 s3 tx) rfl rfl rfl ?_
          refine V.callVP mX6_best_ok rfl lX6_315 (ct_serve l) rfl 56 rfl (fun k => k) (fun _ _ => rfl) [26, 27, 28, 29] [none, none, none, none, none, none, none, none, none, none, none, none, none, none, none, none, none, none, none, none, none, none, none, none, none, none, some 0, some 1, some 2, some 3, none, none, none, none, none, none, none, none, none, none, none, none, none, none, none, none, none, none, none, none, none, none, none, none, none, none] (by decide +kernel) (pRow 0 bd od (nI n8) (nI (i + 1)) be (nI a2) zst ztk zmb zmw zmt) [.ref 0, .int (nI n)] [] (fun v wc' => ∃ q : RS, q = srv bd be (i + 1) a2 od n8 ztk n ∧ v = none ∧ wc' = pRS bd (nI n8) (nI (i + 1)) be (nI a2) q) rfl 0 3 rfl rfl rfl rfl rfl rfl rfl rfl ⟨bd, od, ztk, be, zmb, zmw, zmt, zst, n8, (i + 1), a2, n, hs8, by omega, ha5, by omega, hod, rfl, rfl, _, rfl, rfl, rfl⟩ (fun v wc' hv => ?_)
          obtain ⟨⟨qo1, qs1, qt1, qb1, qw1, qm1⟩, hq1, rfl, rfl⟩ := hv
          have hqb1 : qb1 = (svF bd be (i + 1) a2 od n8 n).2.2.2.1 := by
            have e := (srv_E bd be (i + 1) a2 od n8 ztk (fun _ => 0) n).2.2.1
            rw [← hq1] at e
            exact congrArg Prod.fst e
          refine ⟨rfl, ?_⟩
          refine V.nm [(5, .int (nI (i + 1))), (4, .int x4), (3, .int x3), (0, .ref 0), (1, .int (nI n)), (2, .int (nI j))] [] (pX c d k (bd, od, (nI n8), (nI l2), be, (nI a2), st, tk, mb, mw, mt) (bd, qo1, (nI n8), (nI (i + 1)), be, (nI a2), (nI qs1), qt1, qb1, qw1, qm1) kr rd ft tg tc lw kl ik ri s0 s1 s2 s3 tx) rfl rfl rfl ?_
          have hv : qb1 = G (i + 1) := by rw [hqb1, hG]; rfl
          have hlt : qb1 < 1000000 := by rw [hqb1]; exact sv_lt hbo hs8 hod (by omega)
          refine V.g2 60 [28, 86] mX6_best_ok rfl ?_
          refine And.intro (fun (e4 : x3 ≤ qb1) => ?_) (fun (e4 : ¬ x3 ≤ qb1) => ?_)
          · refine V.g2 60 [28, 86] mX6_best_ok rfl ?_
            refine V.kn [5, 4, 3, 0, 1, 2] [(5, .int ((nI (i + 1)) + zi 1)), (4, .int x4), (3, .int x3), (0, .ref 0), (1, .int (nI n)), (2, .int (nI j))] [] (pX c d k (bd, od, (nI n8), (nI l2), be, (nI a2), st, tk, mb, mw, mt) (bd, qo1, (nI n8), (nI (i + 1)), be, (nI a2), (nI qs1), qt1, qb1, qw1, qm1) kr rd ft tg tc lw kl ik ri s0 s1 s2 s3 tx) rfl rfl rfl ?_
            cases hq : bsF G i with
            | none => exact absurd (by rw [(hN hq).2] at e4; exact e4) (Int32.not_le.mpr hlt)
            | some q =>
              obtain ⟨q, v⟩ := q
              obtain ⟨e5, e6⟩ := hS2 q v hq
              have hx := bsF_f hq (by rw [← hv, ← e6]; exact Int32.not_lt.mpr e4)
              exact ih (i + 1) _ _ _ _ _ _ _ _ _ _ _ _ _ _ (by omega) (ninc rfl) (by rw [hx]; exact fun z => by cases z) (by rw [hx]; exact fun q2 v2 z => by cases z; exact ⟨e5, e6⟩)
          · refine V.g2 60 [28, 86] mX6_best_ok rfl ?_
            refine V.kn [5, 4, 3, 0, 1, 2] [(5, .int ((nI (i + 1)) + zi 1)), (4, .int (nI (i + 1))), (3, .int qb1), (0, .ref 0), (1, .int (nI n)), (2, .int (nI j))] [] (pX c d k (bd, od, (nI n8), (nI l2), be, (nI a2), st, tk, mb, mw, mt) (bd, qo1, (nI n8), (nI (i + 1)), be, (nI a2), (nI qs1), qt1, qb1, qw1, qm1) kr rd ft tg tc lw kl ik ri s0 s1 s2 s3 tx) rfl rfl rfl ?_
            have hx : bsF G (i + 1) = some (i + 1, qb1) := by
              cases hq : bsF G i with
              | none => rw [bsF_n hq, hv]
              | some q =>
                obtain ⟨q, v⟩ := q
                rw [bsF_t hq (by rw [← hv, ← (hS2 q v hq).2]; exact Int32.not_le.mp e4), hv]
            exact ih (i + 1) _ _ _ _ _ _ _ _ _ _ _ _ _ _ (by omega) (ninc rfl) (by rw [hx]; exact fun z => by cases z) (by rw [hx]; exact fun q2 v2 z => by cases z; exact ⟨rfl, rfl⟩)
      refine V.g2 60 [28, 86] mX6_best_ok rfl ?_
      refine And.intro (fun _ => ?_) (fun e => absurd e (by decide))
      refine V.kn [5, 4, 3, 0, 1, 2] [(5, .int (nI 1)), (4, .int (nI 1)), (3, .int (1000000 : Int32)), (0, .ref 0), (1, .int (nI n)), (2, .int (nI j))] [] (pX c d k (bd, od, (nI n8), (nI l2), be, (nI a2), st, tk, mb, mw, mt) (tbd, tod, tsz, tlo, tbe, taw, tst, ttk, tmb, tmw, tmt) kr rd ft tg tc lw kl ik ri s0 s1 s2 s3 tx) rfl rfl rfl ?_
      exact loop 8 0 _ _ _ _ _ _ _ _ _ _ _ _ _ _ rfl rfl (fun _ => ⟨rfl, rfl⟩) (fun _ _ z => by cases z)
def T6_first : zT := fun args hs Q => ∃ (c d k : zCart) (r tr kr : zRow) (rd : zRd) (ft : Nat) (tg : Nat → Option Nat) (tc lw kl ik : Int32) (ri : zRi) (s0 s1 s2 s3 : zSh) (tx : zTx) (x y : Int32) (n8 l2 a2 : Nat), n8 ≤ 8 ∧ r.2.2.1 = nI n8 ∧ l2 ≤ 8 ∧ r.2.2.2.1 = nI l2 ∧ a2 ≤ 5 ∧ r.2.2.2.2.2.1 = nI a2 ∧ oOk r.2.1 ∧ bOk r.1 ∧ args = [.ref 0, .int x, .int y] ∧ hs = pX c d k r tr kr rd ft tg tc lw kl ik ri s0 s1 s2 s3 tx ∧ ((wiB x 24 && wiB y 1) = false → Q (some (.int (-2))) hs) ∧ (∀ n, n < 25 → x = nI n → wiB y 1 = true → ∀ r0 : Int32, r0 = (if y = nI 0 then oI (mdF (frV r.1 r.2.2.2.2.1 l2 a2 r.2.1 n8 n) (svF r.1 r.2.2.2.2.1 l2 a2 r.2.1 n8 n).2.2.2.1 n8).1 else (mdF (frV r.1 r.2.2.2.2.1 l2 a2 r.2.1 n8 n) (svF r.1 r.2.2.2.2.1 l2 a2 r.2.1 n8 n).2.2.2.1 n8).2) → ∀ tr', Q (some (.int r0)) (pX c d k r tr' kr rd ft tg tc lw kl ik ri s0 s1 s2 s3 tx))
set_option maxHeartbeats 4000000 in
theorem c6_first (l : Launch) : Ct l mX6_first false 4 0 0 T6_first := by
  refine Ct.intro mX6_first_ok ?_
  rintro args hs Q ⟨c, d, k, r, tr, kr, rd, ft, tg, tc, lw, kl, ik, ri, s0, s1, s2, s3, tx, x, y, n8, l2, a2, hs8, hsz, hl8, hlo, ha5, haw, hod, hbo, rfl, rfl, h0, h1⟩
  obtain ⟨bd, od, sz, lo, be, aw, st, tk, mb, mw, mt⟩ := r
  obtain ⟨tbd, tod, tsz, tlo, tbe, taw, tst, ttk, tmb, tmw, tmt⟩ := tr
  refine ⟨Nat.le_of_ble_eq_true rfl, ?_⟩
  have hsz : sz = nI n8 := hsz
  have hlo : lo = nI l2 := hlo
  have haw : aw = nI a2 := haw
  subst hsz
  subst hlo
  subst haw
  refine V.nm [(0, .ref 0), (1, .int x), (2, .int y)] [] (pX c d k (bd, od, (nI n8), (nI l2), be, (nI a2), st, tk, mb, mw, mt) (tbd, tod, tsz, tlo, tbe, taw, tst, ttk, tmb, tmw, tmt) kr rd ft tg tc lw kl ik ri s0 s1 s2 s3 tx) rfl rfl rfl ?_
  refine V.g2 60 [52, 117] mX6_first_ok rfl ?_
  refine V.cS0 mX6_first_ok rfl lX6_309 (ct_isGuests l) rfl [.int x] [] rfl rfl rfl (some (.int (bI (wiB x 24)))) ⟨_, rfl, rfl, rfl⟩ ?_
  cases hB : wiB x 24 with
  | false =>
    refine V.nm [(0, .ref 0), (1, .int x), (2, .int y)] [.int (bI false)] (pX c d k (bd, od, (nI n8), (nI l2), be, (nI a2), st, tk, mb, mw, mt) (tbd, tod, tsz, tlo, tbe, taw, tst, ttk, tmb, tmw, tmt) kr rd ft tg tc lw kl ik ri s0 s1 s2 s3 tx) rfl rfl rfl ?_
    refine V.g2 60 [52, 117] mX6_first_ok rfl ?_
    refine And.intro (fun _ => ?_) (fun e => absurd rfl e)
    exact ⟨_, zsim_rfl _, h0 (by rw [hB]; rfl)⟩
  | true =>
    refine V.nm [(0, .ref 0), (1, .int x), (2, .int y)] [.int (bI true)] (pX c d k (bd, od, (nI n8), (nI l2), be, (nI a2), st, tk, mb, mw, mt) (tbd, tod, tsz, tlo, tbe, taw, tst, ttk, tmb, tmw, tmt) kr rd ft tg tc lw kl ik ri s0 s1 s2 s3 tx) rfl rfl rfl ?_
    refine V.g2 60 [52, 117] mX6_first_ok rfl ?_
    refine And.intro (fun e => absurd e (by decide)) (fun _ => ?_)
    refine V.cS0 mX6_first_ok rfl lX6_114 (ct_within l) rfl [.int y, .int (nI 0), .int (nI 1)] [] rfl rfl rfl (some (.int (bI (wiB y 1)))) (T_within_use rfl) ?_
    cases hC : (wiB y 1) with
    | false =>
      refine V.nm [(0, .ref 0), (1, .int x), (2, .int y)] [.int (bI false)] (pX c d k (bd, od, (nI n8), (nI l2), be, (nI a2), st, tk, mb, mw, mt) (tbd, tod, tsz, tlo, tbe, taw, tst, ttk, tmb, tmw, tmt) kr rd ft tg tc lw kl ik ri s0 s1 s2 s3 tx) rfl rfl rfl ?_
      refine V.g2 60 [52, 117] mX6_first_ok rfl ?_
      refine And.intro (fun e => absurd rfl e) (fun _ => ?_)
      exact ⟨_, zsim_rfl _, h0 (by rw [hB, hC]; rfl)⟩
    | true =>
      refine V.nm [(0, .ref 0), (1, .int x), (2, .int y)] [.int (bI true)] (pX c d k (bd, od, (nI n8), (nI l2), be, (nI a2), st, tk, mb, mw, mt) (tbd, tod, tsz, tlo, tbe, taw, tst, ttk, tmb, tmw, tmt) kr rd ft tg tc lw kl ik ri s0 s1 s2 s3 tx) rfl rfl rfl ?_
      obtain ⟨n, hn, rfl⟩ := wiB_t hB (by omega)
      have h1 := h1 n (by omega) rfl hC
      obtain ⟨j, hj, rfl⟩ := wiB_t hC (by omega)
      clear h0 hB hC
      refine V.nm [(0, .ref 0), (1, .int (nI n)), (2, .int (nI j))] [.int (bI true)] (pX c d k (bd, od, (nI n8), (nI l2), be, (nI a2), st, tk, mb, mw, mt) (tbd, tod, tsz, tlo, tbe, taw, tst, ttk, tmb, tmw, tmt) kr rd ft tg tc lw kl ik ri s0 s1 s2 s3 tx) rfl rfl rfl ?_
      obtain ⟨S, hS⟩ : ∃ S, pX c d k (bd, od, (nI n8), (nI l2), be, (nI a2), st, tk, mb, mw, mt) (tbd, tod, tsz, tlo, tbe, taw, tst, ttk, tmb, tmw, tmt) kr rd ft tg tc lw kl ik ri s0 s1 s2 s3 tx = S := ⟨_, rfl⟩
      refine V.s0 hS ?_
      refine V.g2 60 [52, 117] mX6_first_ok rfl ?_
      refine And.intro (fun _ => ?_) (fun e => absurd e (by decide))
      refine V.cV1P mX6_first_ok rfl lX6_312 (ct_rbecome l) rfl 56 rfl [26, 27, 28, 29, 22, 23, 24, 25] [none, none, none, none, none, none, none, none, none, none, none, none, none, none, none, none, none, none, none, none, none, none, some 4, some 5, some 6, some 7, some 0, some 1, some 2, some 3, none, none, none, none, none, none, none, none, none, none, none, none, none, none, none, none, none, none, none, none, none, none, none, none, none, none] (by decide +kernel) (pRow 0 tbd tod tsz tlo tbe taw tst ttk tmb tmw tmt ++ pRow 4 bd od (nI n8) (nI l2) be (nI a2) st tk mb mw mt) [.ref 0, .ref 8] [] rfl 0 3 rfl rfl rfl rfl rfl rfl rfl rfl none (pRow 0 bd od (nI n8) (nI l2) be (nI a2) tst ttk tmb tmw tmt ++ pRow 4 bd od (nI n8) (nI l2) be (nI a2) st tk mb mw mt) ⟨tbd, tod, ttk, bd, od, tk, tsz, tlo, tbe, taw, tst, tmb, tmw, tmt, (nI n8), (nI l2), be, (nI a2), st, mb, mw, mt, rfl, rfl, rfl, rfl⟩ rfl (pX c d k (bd, od, (nI n8), (nI l2), be, (nI a2), st, tk, mb, mw, mt) (bd, od, (nI n8), (nI l2), be, (nI a2), tst, ttk, tmb, tmw, tmt) kr rd ft tg tc lw kl ik ri s0 s1 s2 s3 tx) [] rfl rfl ?_
      refine V.g2 60 [52, 117] mX6_first_ok rfl ?_
      refine V.callVP mX6_first_ok rfl lX6_315 (ct_serve l) rfl 56 rfl (fun k => k) (fun _ _ => rfl) [26, 27, 28, 29] [none, none, none, none, none, none, none, none, none, none, none, none, none, none, none, none, none, none, none, none, none, none, none, none, none, none, some 0, some 1, some 2, some 3, none, none, none, none, none, none, none, none, none, none, none, none, none, none, none, none, none, none, none, none, none, none, none, none, none, none] (by decide +kernel) (pRow 0 bd od (nI n8) (nI l2) be (nI a2) tst ttk tmb tmw tmt) [.ref 0, .int (nI n)] [] (fun v wc' => ∃ q : RS, q = srv bd be l2 a2 od n8 ttk n ∧ v = none ∧ wc' = pRS bd (nI n8) (nI l2) be (nI a2) q) rfl 0 3 rfl rfl rfl rfl rfl rfl rfl rfl ⟨bd, od, ttk, be, tmb, tmw, tmt, tst, n8, l2, a2, n, hs8, hl8, ha5, by omega, hod, rfl, rfl, _, rfl, rfl, rfl⟩ (fun v wc' hv => ?_)
      obtain ⟨⟨qo2, qs2, qt2, qb2, qw2, qm2⟩, hq2, rfl, rfl⟩ := hv
      have hqb2 : qb2 = (svF bd be l2 a2 od n8 n).2.2.2.1 := by
        have e := (srv_E bd be l2 a2 od n8 ttk (fun _ => 0) n).2.2.1
        rw [← hq2] at e
        exact congrArg Prod.fst e
      refine ⟨rfl, ?_⟩
      refine V.nm [(0, .ref 0), (1, .int (nI n)), (2, .int (nI j))] [] (pX c d k (bd, od, (nI n8), (nI l2), be, (nI a2), st, tk, mb, mw, mt) (bd, qo2, (nI n8), (nI l2), be, (nI a2), (nI qs2), qt2, qb2, qw2, qm2) kr rd ft tg tc lw kl ik ri s0 s1 s2 s3 tx) rfl rfl rfl ?_
      obtain ⟨G, hG⟩ : ∃ G, G = (frV bd be l2 a2 od n8 n) := ⟨_, rfl⟩
      obtain ⟨v0, hv0⟩ : ∃ v0, v0 = qb2 := ⟨_, rfl⟩
      have h1 := fun (r0 : Int32) (e : r0 = (if nI j = nI 0 then oI (mdF G v0 n8).1 else (mdF G v0 n8).2)) => h1 r0 (by rw [hG, hv0, hqb2] at e; exact e)
      refine V.g2 60 [52, 117] mX6_first_ok rfl ?_
      have loop : ∀ (m i : Nat) (x5 x4 x3 : Int32) (zbd zod : fI) (zsz zlo zbe zaw zst : Int32) (ztk : fI) (zmb zmw zmt : Int32), i + m = n8 → x5 = nI i → x4 = oI (mdF G v0 i).1 → x3 = (mdF G v0 i).2 → V l mX6_first false S (zrm 4 0 0) (zFm false S Q 0 0) 0 0 52 [(5, .int x5), (4, .int x4), (3, .int x3), (0, .ref 0), (1, .int (nI n)), (2, .int (nI j))] [] (pX c d k (bd, od, (nI n8), (nI l2), be, (nI a2), st, tk, mb, mw, mt) (zbd, zod, zsz, zlo, zbe, zaw, zst, ztk, zmb, zmw, zmt) kr rd ft tg tc lw kl ik ri s0 s1 s2 s3 tx) := by
        intro m
        induction m with
        | zero =>
          intro i x5 x4 x3 zbd zod zsz zlo zbe zaw zst ztk zmb zmw zmt hi h5 h4 h3
          refine V.g2 60 [52, 117] mX6_first_ok rfl ?_
          refine pk_le n8 i (fun e1 => ?_) (fun e1 => absurd e1 (by omega)) rfl h5
          have ei : i = n8 := by omega
          subst ei
          refine zp_ne j 0 (fun e2 => ?_) (fun e2 => ?_) rfl rfl
          · exact ⟨_, zsim_rfl _, h1 _ (by rw [if_neg (fun z => e2 ((nI_eq (by omega) (by omega)).mp z))]; exact h3) (zbd, zod, zsz, zlo, zbe, zaw, zst, ztk, zmb, zmw, zmt)⟩
          · exact ⟨_, zsim_rfl _, h1 _ (by rw [if_pos (by rw [e2])]; exact h4) (zbd, zod, zsz, zlo, zbe, zaw, zst, ztk, zmb, zmw, zmt)⟩
        | succ m ih =>
          intro i x5 x4 x3 zbd zod zsz zlo zbe zaw zst ztk zmb zmw zmt hi h5 h4 h3
          refine V.g2 60 [52, 117] mX6_first_ok rfl ?_
          refine pk_le n8 i (fun e1 => absurd e1 (by omega)) (fun e1 => ?_) rfl h5
          subst h5
          refine V.cV1P mX6_first_ok rfl lX6_312 (ct_rbecome l) rfl 56 rfl [26, 27, 28, 29, 22, 23, 24, 25] [none, none, none, none, none, none, none, none, none, none, none, none, none, none, none, none, none, none, none, none, none, none, some 4, some 5, some 6, some 7, some 0, some 1, some 2, some 3, none, none, none, none, none, none, none, none, none, none, none, none, none, none, none, none, none, none, none, none, none, none, none, none, none, none] (by decide +kernel) (pRow 0 zbd zod zsz zlo zbe zaw zst ztk zmb zmw zmt ++ pRow 4 bd od (nI n8) (nI l2) be (nI a2) st tk mb mw mt) [.ref 0, .ref 8] [] rfl 0 3 rfl rfl rfl rfl rfl rfl rfl rfl none (pRow 0 bd od (nI n8) (nI l2) be (nI a2) zst ztk zmb zmw zmt ++ pRow 4 bd od (nI n8) (nI l2) be (nI a2) st tk mb mw mt) ⟨zbd, zod, ztk, bd, od, tk, zsz, zlo, zbe, zaw, zst, zmb, zmw, zmt, (nI n8), (nI l2), be, (nI a2), st, mb, mw, mt, rfl, rfl, rfl, rfl⟩ rfl (pX c d k (bd, od, (nI n8), (nI l2), be, (nI a2), st, tk, mb, mw, mt) (bd, od, (nI n8), (nI l2), be, (nI a2), zst, ztk, zmb, zmw, zmt) kr rd ft tg tc lw kl ik ri s0 s1 s2 s3 tx) [] rfl rfl ?_
          refine V.g2 60 [52, 117] mX6_first_ok rfl ?_
          refine ⟨i, by omega, rfl, rfl, ?_⟩
          refine V.nm [(5, .int (nI i)), (4, .int x4), (3, .int x3), (0, .ref 0), (1, .int (nI n)), (2, .int (nI j))] [.int (nI n), .ref 52] (pX c d k (bd, od, (nI n8), (nI l2), be, (nI a2), st, tk, mb, mw, mt) ((upd bd i 0), od, (nI n8), (nI l2), be, (nI a2), zst, ztk, zmb, zmw, zmt) kr rd ft tg tc lw kl ik ri s0 s1 s2 s3 tx) rfl rfl rfl ?_
          refine V.callVP mX6_first_ok rfl lX6_315 (ct_serve l) rfl 56 rfl (fun k => k) (fun _ _ => rfl) [26, 27, 28, 29] [none, none, none, none, none, none, none, none, none, none, none, none, none, none, none, none, none, none, none, none, none, none, none, none, none, none, some 0, some 1, some 2, some 3, none, none, none, none, none, none, none, none, none, none, none, none, none, none, none, none, none, none, none, none, none, none, none, none, none, none] (by decide +kernel) (pRow 0 (upd bd i 0) od (nI n8) (nI l2) be (nI a2) zst ztk zmb zmw zmt) [.ref 0, .int (nI n)] [] (fun v wc' => ∃ q : RS, q = srv (upd bd i 0) be l2 a2 od n8 ztk n ∧ v = none ∧ wc' = pRS (upd bd i 0) (nI n8) (nI l2) be (nI a2) q) rfl 0 3 rfl rfl rfl rfl rfl rfl rfl rfl ⟨(upd bd i 0), od, ztk, be, zmb, zmw, zmt, zst, n8, l2, a2, n, hs8, hl8, ha5, by omega, hod, rfl, rfl, _, rfl, rfl, rfl⟩ (fun v wc' hv => ?_)
          obtain ⟨⟨qo3, qs3, qt3, qb3, qw3, qm3⟩, hq3, rfl, rfl⟩ := hv
          have hqb3 : qb3 = (svF (upd bd i 0) be l2 a2 od n8 n).2.2.2.1 := by
            have e := (srv_E (upd bd i 0) be l2 a2 od n8 ztk (fun _ => 0) n).2.2.1
            rw [← hq3] at e
            exact congrArg Prod.fst e
          refine ⟨rfl, ?_⟩
          refine V.nm [(5, .int (nI i)), (4, .int x4), (3, .int x3), (0, .ref 0), (1, .int (nI n)), (2, .int (nI j))] [] (pX c d k (bd, od, (nI n8), (nI l2), be, (nI a2), st, tk, mb, mw, mt) ((upd bd i 0), qo3, (nI n8), (nI l2), be, (nI a2), (nI qs3), qt3, qb3, qw3, qm3) kr rd ft tg tc lw kl ik ri s0 s1 s2 s3 tx) rfl rfl rfl ?_
          have hv : qb3 = G i := by rw [hqb3, hG]; rfl
          refine V.g2 60 [52, 117] mX6_first_ok rfl ?_
          refine And.intro (fun (e4 : x3 ≤ qb3) => ?_) (fun (e4 : ¬ x3 ≤ qb3) => ?_)
          · refine V.g2 60 [52, 117] mX6_first_ok rfl ?_
            refine V.kn [5, 4, 3, 0, 1, 2] [(5, .int ((nI i) + zi 1)), (4, .int x4), (3, .int x3), (0, .ref 0), (1, .int (nI n)), (2, .int (nI j))] [] (pX c d k (bd, od, (nI n8), (nI l2), be, (nI a2), st, tk, mb, mw, mt) ((upd bd i 0), qo3, (nI n8), (nI l2), be, (nI a2), (nI qs3), qt3, qb3, qw3, qm3) kr rd ft tg tc lw kl ik ri s0 s1 s2 s3 tx) rfl rfl rfl ?_
            have hx : mdF G v0 (i + 1) = mdF G v0 i := by rw [mdF, ← hv, ← h3, if_neg (Int32.not_lt.mpr e4)]
            exact ih (i + 1) _ _ _ _ _ _ _ _ _ _ _ _ _ _ (by omega) (ninc rfl) (by rw [hx]; exact h4) (by rw [hx]; exact h3)
          · refine V.g2 60 [52, 117] mX6_first_ok rfl ?_
            refine V.kn [5, 4, 3, 0, 1, 2] [(5, .int ((nI i) + zi 1)), (4, .int (nI i)), (3, .int qb3), (0, .ref 0), (1, .int (nI n)), (2, .int (nI j))] [] (pX c d k (bd, od, (nI n8), (nI l2), be, (nI a2), st, tk, mb, mw, mt) ((upd bd i 0), qo3, (nI n8), (nI l2), be, (nI a2), (nI qs3), qt3, qb3, qw3, qm3) kr rd ft tg tc lw kl ik ri s0 s1 s2 s3 tx) rfl rfl rfl ?_
            have hx : mdF G v0 (i + 1) = (some i, qb3) := by rw [mdF, ← hv, ← h3, if_pos (Int32.not_le.mp e4)]
            exact ih (i + 1) _ _ _ _ _ _ _ _ _ _ _ _ _ _ (by omega) (ninc rfl) (by rw [hx]; rfl) (by rw [hx])
      refine V.kn [5, 4, 3, 0, 1, 2] [(5, .int (nI 0)), (4, .int (-1 : Int32)), (3, .int qb2), (0, .ref 0), (1, .int (nI n)), (2, .int (nI j))] [] (pX c d k (bd, od, (nI n8), (nI l2), be, (nI a2), st, tk, mb, mw, mt) (bd, qo2, (nI n8), (nI l2), be, (nI a2), (nI qs2), qt2, qb2, qw2, qm2) kr rd ft tg tc lw kl ik ri s0 s1 s2 s3 tx) rfl rfl rfl ?_
      exact loop n8 0 _ _ _ _ _ _ _ _ _ _ _ _ _ _ (by omega) rfl rfl hv0.symm
