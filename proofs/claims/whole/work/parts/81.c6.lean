def T6_flutters : zT := fun args hs Q => ∃ (c d k : zCart) (r tr kr : zRow) (rd : zRd) (ft : Nat) (tg : Nat → Option Nat) (tc lw kl ik : Int32) (ri : zRi) (s0 s1 s2 s3 : zSh) (tx : zTx) (P : zP), lOk tg lw tx P ∧ kOk c ∧ args = [.ref 0] ∧ hs = pX c d k r tr kr rd ft tg tc lw kl ik ri s0 s1 s2 s3 tx ∧ ∀ r0 : Int32, r0 = flA (fsF (flP c P) 9) → ∀ d' ri' nm' sk', Q (some (.int r0)) (pX c d' k r tr kr rd ft tg tc lw kl ik ri' s0 s1 s2 s3 (txS tx nm' sk'))
set_option maxHeartbeats 4000000 in
theorem c6_flutters (l : Launch) : Ct l mX6_flutters false 8 0 0 T6_flutters := by
  refine Ct.intro mX6_flutters_ok ?_
  rintro args hs Q ⟨c, d, k, r, tr, kr, rd, ft, tg, tc, lw, kl, ik, ri, s0, s1, s2, s3, tx, P, hL, hok, rfl, rfl, h⟩
  obtain ⟨nt, n, cd, en, nm, sk⟩ := tx
  refine ⟨Nat.le_of_ble_eq_true rfl, ?_⟩
  obtain ⟨S, hS⟩ : ∃ S, pX c d k r tr kr rd ft tg tc lw kl ik ri s0 s1 s2 s3 (nt, n, cd, en, nm, sk) = S := ⟨_, rfl⟩
  refine V.s0 hS ?_
  have loop : ∀ (m i : Nat) (x1 pa : Int32) (nm2 sk2 : fI) (ri2 : zRi), i + m = 9 → x1 = nI (i + 1) → fsF (flP c P) i = none → V l mX6_flutters false S (zrm 8 0 0) (zFm false S Q 0 0) 0 0 13 [(1, .int x1), (0, .ref 0)] [] (pX c ((kdC c), (moC c), (kiC c), (loC c), (haC c), (wiC c), pa) k r tr kr rd ft tg tc lw kl ik ri2 s0 s1 s2 s3 (nt, n, cd, en, nm2, sk2)) := by
    intro m
    induction m with
    | zero =>
      intro i x1 pa nm2 sk2 ri2 hi h1 hn
      refine V.g2 60 [13] mX6_flutters_ok rfl ?_
      refine pk_lt 9 (i + 1) (fun e1 => ?_) (fun e1 => absurd e1 (by omega)) rfl h1
      have ei : i = 9 := by omega
      rw [ei] at hn
      exact ⟨_, zsim_rfl _, h _ (by rw [hn]; rfl) ((kdC c), (moC c), (kiC c), (loC c), (haC c), (wiC c), pa) ri2 nm2 sk2⟩
    | succ m ih =>
      intro i x1 pa nm2 sk2 ri2 hi h1 hn
      refine V.g2 60 [13] mX6_flutters_ok rfl ?_
      refine pk_lt 9 (i + 1) (fun e1 => absurd e1 (by omega)) (fun e1 => ?_) rfl h1
      subst h1
      refine V.nm [(1, .int (nI (i + 1))), (0, .ref 0)] [.ref 0] (pX c ((kdC c), (moC c), (kiC c), (loC c), (haC c), (wiC c), (nI (i + 1))) k r tr kr rd ft tg tc lw kl ik ri2 s0 s1 s2 s3 (nt, n, cd, en, nm2, sk2)) rfl rfl rfl ?_
      refine V.cw mX6_flutters_ok rfl lX6_251 (c6_turnsRound l) rfl 0 6 rfl rfl rfl rfl rfl rfl ⟨c, ((kdC c), (moC c), (kiC c), (loC c), (haC c), (wiC c), (nI (i + 1))), k, r, tr, kr, rd, ft, tg, tc, lw, kl, ik, ri2, s0, s1, s2, s3, (nt, n, cd, en, nm2, sk2), P, hL, hok, rfl, rfl, fun B hB ri3 nm3 sk3 => ⟨rfl, ?_⟩⟩
      have hB : B = flP c P i := hB
      cases B with
      | false =>
        refine V.nm [(1, .int (nI (i + 1))), (0, .ref 0)] [.int (bI false)] (pX c ((kdC c), (moC c), (kiC c), (loC c), (haC c), (wiC c), (nI (i + 1))) k r tr kr rd ft tg tc lw kl ik ri3 s0 s1 s2 s3 (nt, n, cd, en, nm3, sk3)) rfl rfl rfl ?_
        refine V.g2 60 [13] mX6_flutters_ok rfl ?_
        refine And.intro (fun _ => ?_) (fun e => absurd rfl e)
        refine V.kn [1, 0] [(1, .int ((nI (i + 1)) + zi 1)), (0, .ref 0)] [] (pX c ((kdC c), (moC c), (kiC c), (loC c), (haC c), (wiC c), (nI (i + 1))) k r tr kr rd ft tg tc lw kl ik ri3 s0 s1 s2 s3 (nt, n, cd, en, nm3, sk3)) rfl rfl rfl ?_
        exact ih (i + 1) _ _ _ _ _ (by omega) (ninc rfl) (fsF_miss hn hB.symm)
      | true =>
        refine V.nm [(1, .int (nI (i + 1))), (0, .ref 0)] [.int (bI true)] (pX c ((kdC c), (moC c), (kiC c), (loC c), (haC c), (wiC c), (nI (i + 1))) k r tr kr rd ft tg tc lw kl ik ri3 s0 s1 s2 s3 (nt, n, cd, en, nm3, sk3)) rfl rfl rfl ?_
        refine V.g2 60 [13] mX6_flutters_ok rfl ?_
        refine And.intro (fun e => absurd e (by decide)) (fun _ => ?_)
        exact ⟨_, zsim_rfl _, h _ (by rw [fsF_hit hn hB.symm (by omega : i < 9)]; rfl) ((kdC c), (moC c), (kiC c), (loC c), (haC c), (wiC c), (nI (i + 1))) ri3 nm3 sk3⟩
  refine V.g2 60 [13] mX6_flutters_ok rfl ?_
  refine V.cV1P mX6_flutters_ok rfl lX6_214 (ct_cbecome l) rfl 56 rfl [8, 9, 10, 11, 12, 13, 14, 1, 2, 3, 4, 5, 6, 7] [none, some 7, some 8, some 9, some 10, some 11, some 12, some 13, some 0, some 1, some 2, some 3, some 4, some 5, some 6, none, none, none, none, none, none, none, none, none, none, none, none, none, none, none, none, none, none, none, none, none, none, none, none, none, none, none, none, none, none, none, none, none, none, none, none, none, none, none, none, none] (by decide +kernel) (pCart 0 d ++ pCart 7 c) [.ref 0, .ref 14] [] rfl 0 0 rfl rfl rfl rfl rfl rfl rfl rfl none (pCart 0 c ++ pCart 7 c) ⟨d, c, rfl, rfl, rfl, rfl⟩ rfl (pX c c k r tr kr rd ft tg tc lw kl ik ri s0 s1 s2 s3 (nt, n, cd, en, nm, sk)) [] rfl rfl ?_
  refine V.g2 60 [13] mX6_flutters_ok rfl ?_
  refine V.kn [1, 0] [(1, .int (nI 1)), (0, .ref 0)] [] (pX c c k r tr kr rd ft tg tc lw kl ik ri s0 s1 s2 s3 (nt, n, cd, en, nm, sk)) rfl rfl rfl ?_
  exact loop 9 0 _ (paC c) _ _ _ rfl rfl rfl
def T6_change : zT := fun args hs Q => ∃ (c d k : zCart) (r tr kr : zRow) (rd : zRd) (ft : Nat) (tg : Nat → Option Nat) (tc lw kl ik : Int32) (ri : zRi) (s0 s1 s2 s3 : zSh) (tx : zTx) (x : Int32) (P : zP), lOk tg lw tx P ∧ kOk c ∧ args = [.ref 0, .int x] ∧ hs = pX c d k r tr kr rd ft tg tc lw kl ik ri s0 s1 s2 s3 tx ∧ (wiB x 9999 = false → Q (some (.int (-2))) hs) ∧ (∀ n, n < 10000 → x = nI n → ∀ r0 : Int32, r0 = oI (gsF (chP c P (n / 100) (n % 100)) 30) → ∀ ri' nm' sk', Q (some (.int r0)) (pX c d k r tr kr rd ft tg tc lw kl ik ri' s0 s1 s2 s3 (txS tx nm' sk')))
set_option maxHeartbeats 4000000 in
theorem c6_change (l : Launch) : Ct l mX6_change false 8 0 0 T6_change := by
  refine Ct.intro mX6_change_ok ?_
  rintro args hs Q ⟨c, d, k, r, tr, kr, rd, ft, tg, tc, lw, kl, ik, ri, s0, s1, s2, s3, tx, x, P, hL, hok, rfl, rfl, h0, h1⟩
  obtain ⟨nt, n, cd, en, nm, sk⟩ := tx
  refine ⟨Nat.le_of_ble_eq_true rfl, ?_⟩
  refine V.g2 60 [] mX6_change_ok rfl ?_
  refine V.cS0 mX6_change_ok rfl lX6_114 (ct_within l) rfl [.int x, .int (nI 0), .int (nI 9999)] [] rfl rfl rfl (some (.int (bI (wiB x 9999)))) (T_within_use rfl) ?_
  cases hB : (wiB x 9999) with
  | false =>
    refine V.nm [(0, .ref 0), (1, .int x)] [.int (bI false)] (pX c d k r tr kr rd ft tg tc lw kl ik ri s0 s1 s2 s3 (nt, n, cd, en, nm, sk)) rfl rfl rfl ?_
    refine V.g2 60 [] mX6_change_ok rfl ?_
    refine And.intro (fun e => absurd rfl e) (fun _ => ?_)
    exact ⟨_, zsim_rfl _, h0 hB⟩
  | true =>
    refine V.nm [(0, .ref 0), (1, .int x)] [.int (bI true)] (pX c d k r tr kr rd ft tg tc lw kl ik ri s0 s1 s2 s3 (nt, n, cd, en, nm, sk)) rfl rfl rfl ?_
    obtain ⟨j, hj, rfl⟩ := wiB_t hB (by omega)
    have h1 := h1 j (by omega) rfl
    refine V.nm [(0, .ref 0), (1, .int (nI j))] [.int (bI true)] (pX c d k r tr kr rd ft tg tc lw kl ik ri s0 s1 s2 s3 (nt, n, cd, en, nm, sk)) rfl rfl rfl ?_
    obtain ⟨S, hS⟩ : ∃ S, pX c d k r tr kr rd ft tg tc lw kl ik ri s0 s1 s2 s3 (nt, n, cd, en, nm, sk) = S := ⟨_, rfl⟩
    refine V.s0 hS ?_
    refine V.g2 60 [55, 80] mX6_change_ok rfl ?_
    refine And.intro (fun _ => ?_) (fun e => absurd e (by decide))
    refine And.intro (show ¬ (nI 100) = 0 by decide) ?_
    refine And.intro (show ¬ (nI 100) = 0 by decide) ?_
    refine V.callVW mX6_change_ok rfl lX6_221 (ct_costOf_c l) rfl [.ref 0, .ref 2] [] (fun v hs' => ∃ (vv : Int32) (ri1 : zRi) (nm1 sk1 : fI), vv = coF c P ∧ v = some (.int vv) ∧ hs' = pX c d k r tr kr rd ft tg tc lw kl ik ri1 s0 s1 s2 s3 (nt, n, cd, en, nm1, sk1)) rfl 0 6 rfl rfl rfl rfl rfl rfl ⟨c, d, k, r, tr, kr, rd, ft, tg, tc, lw, kl, ik, ri, s0, s1, s2, s3, (nt, n, cd, en, nm, sk), P, hL, hok, rfl, rfl, fun ri1 nm1 sk1 => ⟨_, ri1, nm1, sk1, rfl, rfl, rfl⟩⟩ (fun v hs' hv => ?_)
    obtain ⟨vv1, ri1, nm1, sk1, hvv1, rfl, rfl⟩ := hv
    refine ⟨rfl, ?_⟩
    refine V.nm [(3, .int ((nI j) - (nI j) / (nI 100) * (nI 100))), (2, .int ((nI j) / (nI 100))), (0, .ref 0), (1, .int (nI j))] [.int vv1] (pX c d k r tr kr rd ft tg tc lw kl ik ri1 s0 s1 s2 s3 (nt, n, cd, en, nm1, sk1)) rfl rfl rfl ?_
    obtain ⟨orc, orl, obl, olt, ote, oha, odr, ohd, opu, oaz, oco, oho, obu, obb, ofa⟩ := ri1
    refine V.nm [(3, .int ((nI j) - (nI j) / (nI 100) * (nI 100))), (2, .int ((nI j) / (nI 100))), (0, .ref 0), (1, .int (nI j))] [.int vv1] (pX c d k r tr kr rd ft tg tc lw kl ik (orc, orl, obl, olt, ote, oha, odr, ohd, opu, oaz, oco, oho, obu, obb, ofa) s0 s1 s2 s3 (nt, n, cd, en, nm1, sk1)) rfl rfl rfl ?_
    refine V.g2 60 [55, 80] mX6_change_ok rfl ?_
    refine V.cVW mX6_change_ok rfl lX6_128 (ct_theLaw l) rfl [.ref 0] [.ref 2, .ref 78] rfl 0 6 rfl rfl rfl rfl rfl rfl (some (.ref 102)) (pX c d k r tr kr rd ft tg tc lw kl ik (orc, orl, obl, olt, ote, oha, odr, ohd, opu, oaz, oco, oho, obu, obb, ofa) s0 s1 s2 s3 (nt, n, cd, en, nm1, sk1)) ⟨c, d, k, r, tr, kr, rd, ft, tg, tc, lw, kl, ik, (orc, orl, obl, olt, ote, oha, odr, ohd, opu, oaz, oco, oho, obu, obb, ofa), s0, s1, s2, s3, (nt, n, cd, en, nm1, sk1), P, hL, rfl, rfl, rfl, rfl⟩ rfl ?_
    refine V.g2 60 [55, 80] mX6_change_ok rfl ?_
    refine V.xstart_c mX6_change_ok rfl lX6_182 rfl rfl ?_
    refine V.nm [(5, .int (-1 : Int32)), (4, .int vv1), (3, .int ((nI j) - (nI j) / (nI 100) * (nI 100))), (2, .int ((nI j) / (nI 100))), (0, .ref 0), (1, .int (nI j))] [] (pX c d k r tr kr rd ft tg tc lw kl ik (2, 102, 0, olt, (nI 0), (haC c), odr, ohd, r0) s0 s1 s2 s3 (nt, n, cd, en, nm1, sk1)) rfl rfl rfl ?_
    refine V.g2 60 [55, 80] mX6_change_ok rfl ?_
    have loop : ∀ (m t : Nat) (x6 x5 x4 : Int32) (dr2 nm2 sk2 : fI) (hd2 : Int32) (rr : RT), t + m = 30 → x6 = nI t → x5 = oI (gsF (chP c P (j / 100) (j % 100)) t) → x4 + smT (coR c P) t = coF c P → (t = 0 ∨ dhO c P (haC c) dr2 hd2 (nI (t - 1))) → rr = rlF c P (haC c) t → V l mX6_change false S (zrm 8 0 0) (zFm false S Q 0 0) 0 0 55 [(6, .int x6), (5, .int x5), (4, .int x4), (3, .int ((nI j) - (nI j) / (nI 100) * (nI 100))), (2, .int ((nI j) / (nI 100))), (0, .ref 0), (1, .int (nI j))] [] (pX c d k r tr kr rd ft tg tc lw kl ik (2, 102, 0, olt, (nI t), (haC c), dr2, hd2, rr) s0 s1 s2 s3 (nt, n, cd, en, nm2, sk2)) := by
      intro m
      induction m with
      | zero =>
        intro t x6 x5 x4 dr2 nm2 sk2 hd2 rr ht h6 h5 h4 hd hr
        refine V.g2 60 [55, 80] mX6_change_ok rfl ?_
        refine pk_le 30 t (fun e1 => ?_) (fun e1 => absurd e1 (by omega)) rfl h6
        have et : t = 30 := by omega
        subst et
        exact ⟨_, zsim_rfl _, h1 _ h5 (2, 102, 0, olt, (nI 30), (haC c), dr2, hd2, rr) nm2 sk2⟩
      | succ m ih =>
        intro t x6 x5 x4 dr2 nm2 sk2 hd2 rr ht h6 h5 h4 hd hr
        have hx4 : x4 = sdF (coR c P) (30 - t) := by
          have q := sd_sm (coR c P) (30 - t) (by omega)
          rw [show 30 - (30 - t) = t by omega, ← rl_cost 30] at q
          have q2 := congrArg (fun z => z - smT (coR c P) t) (h4.trans q.symm)
          simp only [Int32.add_sub_cancel] at q2
          exact q2
        refine V.g2 60 [55, 80] mX6_change_ok rfl ?_
        refine pk_le 30 t (fun e1 => absurd e1 (by omega)) (fun e1 => ?_) rfl h6
        have t80 : ∀ (y5 : Int32), y5 = oI (gsF (chP c P (j / 100) (j % 100)) (t + 1)) → V l mX6_change false S (zrm 8 0 0) (zFm false S Q 0 0) 0 0 80 [(6, .int x6), (5, .int y5), (4, .int x4), (3, .int ((nI j) - (nI j) / (nI 100) * (nI 100))), (2, .int ((nI j) / (nI 100))), (0, .ref 0), (1, .int (nI j))] [] (pX c d k r tr kr rd ft tg tc lw kl ik (2, 102, 0, olt, (nI t), (haC c), dr2, hd2, rr) s0 s1 s2 s3 (nt, n, cd, en, nm2, sk2)) := by
          intro y5 hy
          refine V.g2 60 [55, 80] mX6_change_ok rfl ?_
          refine V.xstep_c mX6_change_ok rfl lX6_185 rfl rfl (by omega) hok hL.2 hd (fun dr2 nm2 sk2 hd2 rr2 hst2 hh2 => ?_)
          have hr2 : rr2 = rlF c P (haC c) (t + 1) := by rw [hst2, rlF, hr]
          refine V.g2 60 [55, 80] mX6_change_ok rfl ?_
          refine V.kn [6, 5, 4, 3, 2, 0, 1] [(6, .int (x6 + zi 1)), (5, .int y5), (4, .int (x4 - (rr2.2.2.1))), (3, .int ((nI j) - (nI j) / (nI 100) * (nI 100))), (2, .int ((nI j) / (nI 100))), (0, .ref 0), (1, .int (nI j))] [] (pX c d k r tr kr rd ft tg tc lw kl ik (2, 102, 0, olt, (nI (t + 1)), (haC c), dr2, hd2, rr2) s0 s1 s2 s3 (nt, n, cd, en, nm2, sk2)) rfl rfl rfl ?_
          exact ih (t + 1) _ _ _ dr2 nm2 sk2 hd2 rr2 (by omega) (ninc h6) hy (by rw [smT, show coR c P t = rr2.2.2.1 by rw [hr2]; rfl, ← h4]; rw [Int32.sub_eq_add_neg, Int32.add_assoc, ← Int32.add_assoc (- _), Int32.add_comm (- _) (smT _ _), Int32.add_assoc, Int32.add_left_neg, Int32.add_zero]) (Or.inr hh2) hr2
        refine And.intro (fun (e2 : x4 ≤ ((((nI j) / (nI 100)) * ((nI 30) - x6)) + ((nI j) - (nI j) / (nI 100) * (nI 100)))) => ?_) (fun (e2 : ¬ x4 ≤ ((((nI j) / (nI 100)) * ((nI 30) - x6)) + ((nI j) - (nI j) / (nI 100) * (nI 100)))) => ?_)
        · have hc : chP c P (j / 100) (j % 100) t = false := by
            rw [chP, ← hx4, ← pk_sub (show t ≤ 30 by omega)]
            rw [h6, show nI j - nI j / nI 100 * nI 100 = nI (j % 100) from nrem rfl rfl (by omega) (by omega) (by omega), show nI j / nI 100 = nI (j / 100) from ndiv rfl rfl (by omega) (by omega) (by omega)] at e2
            exact decide_eq_false (Int32.not_lt.mpr e2)
          refine V.kn [6, 5, 4, 3, 2, 0, 1] [(6, .int x6), (5, .int x5), (4, .int x4), (3, .int ((nI j) - (nI j) / (nI 100) * (nI 100))), (2, .int ((nI j) / (nI 100))), (0, .ref 0), (1, .int (nI j))] [] (pX c d k r tr kr rd ft tg tc lw kl ik (2, 102, 0, olt, (nI t), (haC c), dr2, hd2, rr) s0 s1 s2 s3 (nt, n, cd, en, nm2, sk2)) rfl rfl rfl ?_
          exact t80 _ (by rw [gsF, hc]; exact h5)
        · have hc : chP c P (j / 100) (j % 100) t = true := by
            rw [chP, ← hx4, ← pk_sub (show t ≤ 30 by omega)]
            rw [h6, show nI j - nI j / nI 100 * nI 100 = nI (j % 100) from nrem rfl rfl (by omega) (by omega) (by omega), show nI j / nI 100 = nI (j / 100) from ndiv rfl rfl (by omega) (by omega) (by omega)] at e2
            exact decide_eq_true (Int32.not_le.mp e2)
          refine V.kn [6, 5, 4, 3, 2, 0, 1] [(6, .int x6), (5, .int x6), (4, .int x4), (3, .int ((nI j) - (nI j) / (nI 100) * (nI 100))), (2, .int ((nI j) / (nI 100))), (0, .ref 0), (1, .int (nI j))] [] (pX c d k r tr kr rd ft tg tc lw kl ik (2, 102, 0, olt, (nI t), (haC c), dr2, hd2, rr) s0 s1 s2 s3 (nt, n, cd, en, nm2, sk2)) rfl rfl rfl ?_
          exact t80 _ (by rw [gsF, hc]; exact h6)
    refine V.kn [6, 5, 4, 3, 2, 0, 1] [(6, .int (nI 0)), (5, .int (-1 : Int32)), (4, .int vv1), (3, .int ((nI j) - (nI j) / (nI 100) * (nI 100))), (2, .int ((nI j) / (nI 100))), (0, .ref 0), (1, .int (nI j))] [] (pX c d k r tr kr rd ft tg tc lw kl ik (2, 102, 0, olt, (nI 0), (haC c), odr, ohd, r0) s0 s1 s2 s3 (nt, n, cd, en, nm1, sk1)) rfl rfl rfl ?_
    exact loop 30 0 _ _ _ _ _ _ _ _ rfl rfl rfl (by rw [smT, Int32.add_zero]; exact hvv1) (Or.inl rfl) rfl
