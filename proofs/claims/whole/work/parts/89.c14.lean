def T6_put : zT := fun args hs Q => ∃ (c d k : zCart) (r tr kr : zRow) (rd : zRd) (ft : Nat) (tg : Nat → Option Nat) (tc lw kl ik : Int32) (ri : zRi) (s0 s1 s2 s3 : zSh) (tx : zTx) (x y : Int32) (P : zP), lOk tg lw tx P ∧ kOk c ∧ wOk c ∧ args = [.ref 0, .int x, .int y] ∧ hs = pX c d k r tr kr rd ft tg tc lw kl ik ri s0 s1 s2 s3 tx ∧ ((decide (nI 1 ≤ x) && decide (x ≤ nI 40) && wiB y 1) = false → Q (some (.int (-2))) hs) ∧ ((decide (nI 1 ≤ x) && decide (x ≤ nI 40) && wiB y 1) = true → ∀ r0 : Int32, r0 = ptA y (ptF (ptO c x) (ptV c P x) 8) → ∀ d' ri' nm' sk', Q (some (.int r0)) (pX c d' k r tr kr rd ft tg tc lw kl ik ri' s0 s1 s2 s3 (txS tx nm' sk')))
set_option maxHeartbeats 4000000 in
theorem c6_put (l : Launch) : Ct l mX6_put false 8 0 0 T6_put := by
  refine Ct.intro mX6_put_ok ?_
  rintro args hs Q ⟨c, d, k, r, tr, kr, rd, ft, tg, tc, lw, kl, ik, ri, s0, s1, s2, s3, tx, x, y, P, hL, hok, hwk, rfl, rfl, h0, h1⟩
  obtain ⟨nt, n, cd, en, nm, sk⟩ := tx
  refine ⟨Nat.le_of_ble_eq_true rfl, ?_⟩
  refine V.g2 60 [42, 134, 150, 155, 156] mX6_put_ok rfl ?_
  refine V.cS0 mX6_put_ok rfl lX6_114 (ct_within l) rfl [.int x, .int (nI 1), .int (nI 40)] [] rfl rfl rfl (some (.int (bI (decide ((nI 1) ≤ x) && decide (x ≤ (nI 40)))))) (T_within_use rfl) ?_
  cases hB : (decide ((nI 1) ≤ x) && decide (x ≤ (nI 40))) with
  | false =>
    refine V.nm [(0, .ref 0), (1, .int x), (2, .int y)] [.int (bI false)] (pX c d k r tr kr rd ft tg tc lw kl ik ri s0 s1 s2 s3 (nt, n, cd, en, nm, sk)) rfl rfl rfl ?_
    refine V.g2 60 [42, 134, 150, 155, 156] mX6_put_ok rfl ?_
    refine And.intro (fun _ => ?_) (fun e => absurd rfl e)
    exact ⟨_, zsim_rfl _, h0 (by rw [hB]; rfl)⟩
  | true =>
    refine V.nm [(0, .ref 0), (1, .int x), (2, .int y)] [.int (bI true)] (pX c d k r tr kr rd ft tg tc lw kl ik ri s0 s1 s2 s3 (nt, n, cd, en, nm, sk)) rfl rfl rfl ?_
    refine V.g2 60 [42, 134, 150, 155, 156] mX6_put_ok rfl ?_
    refine And.intro (fun e => absurd e (by decide)) (fun _ => ?_)
    refine V.cS0 mX6_put_ok rfl lX6_114 (ct_within l) rfl [.int y, .int (nI 0), .int (nI 1)] [] rfl rfl rfl (some (.int (bI (wiB y 1)))) (T_within_use rfl) ?_
    cases hC : (wiB y 1) with
    | false =>
      refine V.nm [(0, .ref 0), (1, .int x), (2, .int y)] [.int (bI false)] (pX c d k r tr kr rd ft tg tc lw kl ik ri s0 s1 s2 s3 (nt, n, cd, en, nm, sk)) rfl rfl rfl ?_
      refine V.g2 60 [42, 134, 150, 155, 156] mX6_put_ok rfl ?_
      refine And.intro (fun e => absurd rfl e) (fun _ => ?_)
      exact ⟨_, zsim_rfl _, h0 (by rw [hB, hC]; rfl)⟩
    | true =>
      refine V.nm [(0, .ref 0), (1, .int x), (2, .int y)] [.int (bI true)] (pX c d k r tr kr rd ft tg tc lw kl ik ri s0 s1 s2 s3 (nt, n, cd, en, nm, sk)) rfl rfl rfl ?_
      have h1 := h1 (by rw [hB, hC]; rfl)
      clear h0
      obtain ⟨j, hj, rfl⟩ := wiB_t hC (by omega)
      refine V.nm [(0, .ref 0), (1, .int x), (2, .int (nI j))] [.int (bI true)] (pX c d k r tr kr rd ft tg tc lw kl ik ri s0 s1 s2 s3 (nt, n, cd, en, nm, sk)) rfl rfl rfl ?_
      obtain ⟨S, hS⟩ : ∃ S, pX c d k r tr kr rd ft tg tc lw kl ik ri s0 s1 s2 s3 (nt, n, cd, en, nm, sk) = S := ⟨_, rfl⟩
      refine V.s0 hS ?_
      have loop : ∀ (m i : Nat) (x5 x4 x3 : Int32) (lo2 nm2 sk2 : fI) (ri2 : zRi), i + m = 8 → x5 = nI i → lo2 = loC c → (ptF (ptO c x) (ptV c P x) i = none → x4 = -1 ∧ x3 = 1000000) → (∀ q v, ptF (ptO c x) (ptV c P x) i = some (q, v) → x4 = nI q ∧ x3 = v) → V l mX6_put false S (zrm 8 0 0) (zFm false S Q 0 0) 0 0 42 [(5, .int x5), (4, .int x4), (3, .int x3), (0, .ref 0), (1, .int x), (2, .int (nI j))] [] (pX c (cwL c lo2) k r tr kr rd ft tg tc lw kl ik ri2 s0 s1 s2 s3 (nt, n, cd, en, nm2, sk2)) := by
        intro m
        induction m with
        | zero =>
          intro i x5 x4 x3 lo2 nm2 sk2 ri2 hi h5 hlo hN hS2
          refine V.g2 60 [42, 134, 150, 155, 156] mX6_put_ok rfl ?_
          refine pk_le 8 i (fun e1 => ?_) (fun e1 => absurd e1 (by omega)) rfl h5
          have ei : i = 8 := by omega
          subst ei
          refine pk_eq j 0 (fun e2 => ?_) (fun e2 => ?_) rfl rfl
          · refine V.g2 60 [42, 134, 150, 155, 156] mX6_put_ok rfl ?_
            refine V.g2 60 [42, 134, 150, 155, 156] mX6_put_ok rfl ?_
            exact ⟨_, zsim_rfl _, h1 _ (by
              cases hp : ptF (ptO c x) (ptV c P x) 8 with
              | none => exact (hN hp).1
              | some q => show x4 = (if nI j = nI 0 then nI q.1 else q.2); rw [if_pos (by rw [e2])]; exact (hS2 q.1 q.2 hp).1) (cwL c lo2) ri2 nm2 sk2⟩
          · refine And.intro (fun (e3 : ¬ x4 = (-1 : Int32)) => ?_) (fun (e3 : x4 = (-1 : Int32)) => ?_)
            · refine V.g2 60 [42, 134, 150, 155, 156] mX6_put_ok rfl ?_
              refine V.g2 60 [42, 134, 150, 155, 156] mX6_put_ok rfl ?_
              exact ⟨_, zsim_rfl _, h1 _ (by
                cases hp : ptF (ptO c x) (ptV c P x) 8 with
                | none => exact absurd (hN hp).1 e3
                | some q => show x3 = (if nI j = nI 0 then nI q.1 else q.2); rw [if_neg (fun z => absurd ((nI_eq (by omega) (by omega)).mp z) (by omega))]; exact (hS2 q.1 q.2 hp).2) (cwL c lo2) ri2 nm2 sk2⟩
            · refine V.g2 60 [42, 134, 150, 155, 156] mX6_put_ok rfl ?_
              refine V.g2 60 [42, 134, 150, 155, 156] mX6_put_ok rfl ?_
              exact ⟨_, zsim_rfl _, h1 _ (by
                cases hp : ptF (ptO c x) (ptV c P x) 8 with
                | none => exact (hN hp).1
                | some q => exact absurd (((hS2 q.1 q.2 hp).1).symm.trans e3) (fun e => nI_pos (n := q.1) (by have := ptF_lt hp; omega) (by rw [e]; decide))) (cwL c lo2) ri2 nm2 sk2⟩
        | succ m ih =>
          intro i x5 x4 x3 lo2 nm2 sk2 ri2 hi h5 hlo hN hS2
          refine V.g2 60 [42, 134, 150, 155, 156] mX6_put_ok rfl ?_
          refine pk_le 8 i (fun e1 => absurd e1 (by omega)) (fun e1 => ?_) rfl h5
          subst hlo
          refine ⟨i, by omega, h5, rfl, ?_⟩
          refine And.intro (fun (e3 : (((loC c) i) + x) ≤ (nI 40)) => ?_) (fun (e3 : ¬ (((loC c) i) + x) ≤ (nI 40)) => ?_)
          · have hok2 : ptO c x i = true := decide_eq_true e3
            refine ⟨i, by omega, h5, rfl, ?_⟩
            refine ⟨i, by omega, h5, rfl, ?_⟩
            refine V.nm [(5, .int x5), (4, .int x4), (3, .int x3), (0, .ref 0), (1, .int x), (2, .int (nI j))] [.ref 16, .ref 0] (pX c (cwL c (upd (loC c) i (loC c i + x))) k r tr kr rd ft tg tc lw kl ik ri2 s0 s1 s2 s3 (nt, n, cd, en, nm2, sk2)) rfl rfl rfl ?_
            refine V.callVW mX6_put_ok rfl lX6_225 (ct_farthestOf_t l) rfl [.ref 0, .ref 16] [] (fun v hs' => ∃ (vv : Int32) (ri1 : zRi) (nm1 sk1 : fI), vv = faF (cwL c (upd (loC c) i (loC c i + x))) P ∧ v = some (.int vv) ∧ hs' = pX c (cwL c (upd (loC c) i (loC c i + x))) k r tr kr rd ft tg tc lw kl ik ri1 s0 s1 s2 s3 (nt, n, cd, en, nm1, sk1)) rfl 0 6 rfl rfl rfl rfl rfl rfl ⟨c, (cwL c (upd (loC c) i (loC c i + x))), k, r, tr, kr, rd, ft, tg, tc, lw, kl, ik, ri2, s0, s1, s2, s3, (nt, n, cd, en, nm2, sk2), P, hL, hok, rfl, rfl, fun ri1 nm1 sk1 => ⟨_, ri1, nm1, sk1, rfl, rfl, rfl⟩⟩ (fun v hs' hv => ?_)
            obtain ⟨vv1, ri1, nm1, sk1, hvv1, rfl, rfl⟩ := hv
            refine ⟨rfl, ?_⟩
            refine V.nm [(5, .int x5), (4, .int x4), (3, .int x3), (0, .ref 0), (1, .int x), (2, .int (nI j))] [.int vv1] (pX c (cwL c (upd (loC c) i (loC c i + x))) k r tr kr rd ft tg tc lw kl ik ri1 s0 s1 s2 s3 (nt, n, cd, en, nm1, sk1)) rfl rfl rfl ?_
            have hlt : vv1 < 1000000 := by rw [hvv1]; exact faF_lt hwk
            have hv : vv1 = ptV c P x i := hvv1
            refine V.g2 60 [42, 134, 150, 155, 156] mX6_put_ok rfl ?_
            refine ⟨i, by omega, h5, rfl, ?_⟩
            refine ⟨i, by omega, h5, rfl, ?_⟩
            refine And.intro (fun (e4 : x3 ≤ vv1) => ?_) (fun (e4 : ¬ x3 ≤ vv1) => ?_)
            · have hb : upd (upd (loC c) i (loC c i + x)) i (loC c i) = loC c := by rw [upd2, updS]
              refine V.nm [(6, .int vv1), (5, .int x5), (4, .int x4), (3, .int x3), (0, .ref 0), (1, .int x), (2, .int (nI j))] [] (pX c (cwL c (upd (upd (loC c) i (loC c i + x)) i (loC c i))) k r tr kr rd ft tg tc lw kl ik ri1 s0 s1 s2 s3 (nt, n, cd, en, nm1, sk1)) rfl rfl rfl ?_
              rw [hb]
              refine V.nm [(6, .int vv1), (5, .int x5), (4, .int x4), (3, .int x3), (0, .ref 0), (1, .int x), (2, .int (nI j))] [] (pX c (cwL c (loC c)) k r tr kr rd ft tg tc lw kl ik ri1 s0 s1 s2 s3 (nt, n, cd, en, nm1, sk1)) rfl rfl rfl ?_
              refine V.g2 60 [42, 134, 150, 155, 156] mX6_put_ok rfl ?_
              refine V.kn [5, 4, 3, 0, 1, 2] [(5, .int (x5 + zi 1)), (4, .int x4), (3, .int x3), (0, .ref 0), (1, .int x), (2, .int (nI j))] [] (pX c (cwL c (loC c)) k r tr kr rd ft tg tc lw kl ik ri1 s0 s1 s2 s3 (nt, n, cd, en, nm1, sk1)) rfl rfl rfl ?_
              cases hq : ptF (ptO c x) (ptV c P x) i with
              | none => exact absurd (by rw [(hN hq).2] at e4; exact e4) (Int32.not_le.mpr hlt)
              | some q =>
                obtain ⟨q, v⟩ := q
                obtain ⟨e5, e6⟩ := hS2 q v hq
                have hx : ptF (ptO c x) (ptV c P x) (i + 1) = some (q, v) := by
                  rw [ptF, if_pos hok2, hq]
                  show (if _ then _ else _) = _
                  rw [← hv, ← e6, if_neg (Int32.not_lt.mpr e4), e6]
                exact ih (i + 1) _ _ _ _ _ _ _ (by omega) (ninc h5) rfl (by rw [hx]; exact fun z => by cases z) (by rw [hx]; exact fun q2 v2 z => by cases z; exact ⟨e5, e6⟩)
            · have hb : upd (upd (loC c) i (loC c i + x)) i (loC c i) = loC c := by rw [upd2, updS]
              refine V.nm [(4, .int x5), (3, .int vv1), (6, .int vv1), (5, .int x5), (0, .ref 0), (1, .int x), (2, .int (nI j))] [] (pX c (cwL c (upd (upd (loC c) i (loC c i + x)) i (loC c i))) k r tr kr rd ft tg tc lw kl ik ri1 s0 s1 s2 s3 (nt, n, cd, en, nm1, sk1)) rfl rfl rfl ?_
              rw [hb]
              refine V.nm [(4, .int x5), (3, .int vv1), (6, .int vv1), (5, .int x5), (0, .ref 0), (1, .int x), (2, .int (nI j))] [] (pX c (cwL c (loC c)) k r tr kr rd ft tg tc lw kl ik ri1 s0 s1 s2 s3 (nt, n, cd, en, nm1, sk1)) rfl rfl rfl ?_
              refine V.g2 60 [42, 134, 150, 155, 156] mX6_put_ok rfl ?_
              refine V.kn [5, 4, 3, 0, 1, 2] [(5, .int (x5 + zi 1)), (4, .int x5), (3, .int vv1), (0, .ref 0), (1, .int x), (2, .int (nI j))] [] (pX c (cwL c (loC c)) k r tr kr rd ft tg tc lw kl ik ri1 s0 s1 s2 s3 (nt, n, cd, en, nm1, sk1)) rfl rfl rfl ?_
              have hx : ptF (ptO c x) (ptV c P x) (i + 1) = some (i, vv1) := by
                cases hq : ptF (ptO c x) (ptV c P x) i with
                | none => rw [ptF, if_pos hok2, hq, hv]
                | some q =>
                  obtain ⟨q, v⟩ := q
                  obtain ⟨e5, e6⟩ := hS2 q v hq
                  rw [ptF, if_pos hok2, hq]
                  show (if _ then _ else _) = _
                  rw [← hv, ← e6, if_pos (Int32.not_le.mp e4)]
              exact ih (i + 1) _ _ _ _ _ _ _ (by omega) (ninc h5) rfl (by rw [hx]; exact fun z => by cases z) (by rw [hx]; exact fun q2 v2 z => by cases z; exact ⟨h5, rfl⟩)
          · refine V.g2 60 [42, 134, 150, 155, 156] mX6_put_ok rfl ?_
            refine V.kn [5, 4, 3, 0, 1, 2] [(5, .int (x5 + zi 1)), (4, .int x4), (3, .int x3), (0, .ref 0), (1, .int x), (2, .int (nI j))] [] (pX c (cwL c (loC c)) k r tr kr rd ft tg tc lw kl ik ri2 s0 s1 s2 s3 (nt, n, cd, en, nm2, sk2)) rfl rfl rfl ?_
            have hx : ptF (ptO c x) (ptV c P x) (i + 1) = ptF (ptO c x) (ptV c P x) i := by rw [ptF, if_neg (by rw [ptO, decide_eq_false (show ¬ loC c i + x ≤ nI 40 from e3)]; decide)]
            exact ih (i + 1) _ _ _ _ _ _ _ (by omega) (ninc h5) rfl (by rw [hx]; exact hN) (by rw [hx]; exact hS2)
      refine V.g2 60 [42, 134, 150, 155, 156] mX6_put_ok rfl ?_
      refine And.intro (fun _ => ?_) (fun e => absurd e (by decide))
      refine V.cV1P mX6_put_ok rfl lX6_214 (ct_cbecome l) rfl 56 rfl [8, 9, 10, 11, 12, 13, 14, 1, 2, 3, 4, 5, 6, 7] [none, some 7, some 8, some 9, some 10, some 11, some 12, some 13, some 0, some 1, some 2, some 3, some 4, some 5, some 6, none, none, none, none, none, none, none, none, none, none, none, none, none, none, none, none, none, none, none, none, none, none, none, none, none, none, none, none, none, none, none, none, none, none, none, none, none, none, none, none, none] (by decide +kernel) (pCart 0 d ++ pCart 7 c) [.ref 0, .ref 14] [] rfl 0 0 rfl rfl rfl rfl rfl rfl rfl rfl none (pCart 0 c ++ pCart 7 c) ⟨d, c, rfl, rfl, rfl, rfl⟩ rfl (pX c c k r tr kr rd ft tg tc lw kl ik ri s0 s1 s2 s3 (nt, n, cd, en, nm, sk)) [] rfl rfl ?_
      refine V.g2 60 [42, 134, 150, 155, 156] mX6_put_ok rfl ?_
      refine V.kn [5, 4, 3, 0, 1, 2] [(5, .int (nI 0)), (4, .int (-1 : Int32)), (3, .int (1000000 : Int32)), (0, .ref 0), (1, .int x), (2, .int (nI j))] [] (pX c (cwL c (loC c)) k r tr kr rd ft tg tc lw kl ik ri s0 s1 s2 s3 (nt, n, cd, en, nm, sk)) rfl rfl rfl ?_
      exact loop 8 0 _ _ _ (loC c) _ _ _ rfl rfl rfl (fun _ => ⟨rfl, rfl⟩) (fun _ _ z => by cases z)
