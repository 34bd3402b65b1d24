def T6_quick : zT := fun args hs Q => ∃ (c d k : zCart) (r tr kr : zRow) (rd : zRd) (ft : Nat) (tg : Nat → Option Nat) (tc lw kl ik : Int32) (ri : zRi) (s0 s1 s2 s3 : zSh) (tx : zTx) (P : zP), lOk tg lw tx P ∧ kOk c ∧ args = [.ref 0] ∧ hs = pX c d k r tr kr rd ft tg tc lw kl ik ri s0 s1 s2 s3 tx ∧ ∀ r0 : Int32, r0 = oI (lsF (quP c P) 9) → ∀ d' ri' nm' sk', Q (some (.int r0)) (pX c d' k r tr kr rd ft tg tc lw kl ik ri' s0 s1 s2 s3 (txS tx nm' sk'))
set_option maxHeartbeats 4000000 in
theorem c6_quick (l : Launch) : Ct l mX6_quick false 7 0 0 T6_quick := by
  refine Ct.intro mX6_quick_ok ?_
  rintro args hs Q ⟨c, d, k, r, tr, kr, rd, ft, tg, tc, lw, kl, ik, ri, s0, s1, s2, s3, tx, P, hL, hok, rfl, rfl, h⟩
  obtain ⟨orc, orl, obl, olt, ote, oha, odr, ohd, opu, oaz, oco, oho, obu, obb, ofa⟩ := ri
  obtain ⟨nt, n, cd, en, nm, sk⟩ := tx
  refine ⟨Nat.le_of_ble_eq_true rfl, ?_⟩
  obtain ⟨S, hS⟩ : ∃ S, pX c d k r tr kr rd ft tg tc lw kl ik (orc, orl, obl, olt, ote, oha, odr, ohd, opu, oaz, oco, oho, obu, obb, ofa) s0 s1 s2 s3 (nt, n, cd, en, nm, sk) = S := ⟨_, rfl⟩
  refine V.s0 hS ?_
  have loop : ∀ (u : Nat) (x1 pa : Int32) (rc2 rl2 : Nat) (bl2 : Int32) (lt2 : Int64) (te2 : Int32) (ha2 dr2 : fI) (hd2 : Int32) (rr2 : RT) (nm2 sk2 : fI), x1 = nI u → u ≤ 9 → lsF (quP c P) 9 = lsF (quP c P) u → V l mX6_quick false S (zrm 7 0 0) (zFm false S Q 0 0) 0 0 14 [(1, .int x1), (0, .ref 0)] [] (pX c ((kdC c), (moC c), (kiC c), (loC c), (haC c), (wiC c), pa) k r tr kr rd ft tg tc lw kl ik (rc2, rl2, bl2, lt2, te2, ha2, dr2, hd2, rr2) s0 s1 s2 s3 (nt, n, cd, en, nm2, sk2)) := by
    intro u
    induction u with
    | zero =>
      intro x1 pa rc2 rl2 bl2 lt2 te2 ha2 dr2 hd2 rr2 nm2 sk2 h1 hv9 hn
      refine V.g2 60 [14, 60] mX6_quick_ok rfl ?_
      refine pk_lt 0 1 (fun e0 => ?_) (fun e0 => absurd e0 (by omega)) h1 rfl
      refine V.g2 60 [14, 60] mX6_quick_ok rfl ?_
      exact ⟨_, zsim_rfl _, h _ (by rw [hn]; rfl) ((kdC c), (moC c), (kiC c), (loC c), (haC c), (wiC c), pa) (rc2, rl2, bl2, lt2, te2, ha2, dr2, hd2, rr2) nm2 sk2⟩
    | succ u ih =>
      intro x1 pa rc2 rl2 bl2 lt2 te2 ha2 dr2 hd2 rr2 nm2 sk2 h1 hv9 hn
      refine V.g2 60 [14, 60] mX6_quick_ok rfl ?_
      refine pk_lt (u + 1) 1 (fun e1 => absurd e1 (by omega)) (fun e1 => ?_) h1 rfl
      subst h1
      refine V.nm [(1, .int (nI (u + 1))), (0, .ref 0)] [.ref 0, .ref 16, .ref 78] (pX c ((kdC c), (moC c), (kiC c), (loC c), (haC c), (wiC c), (nI (u + 1))) k r tr kr rd ft tg tc lw kl ik (rc2, rl2, bl2, lt2, te2, ha2, dr2, hd2, rr2) s0 s1 s2 s3 (nt, n, cd, en, nm2, sk2)) rfl rfl rfl ?_
      refine V.cVW mX6_quick_ok rfl lX6_128 (ct_theLaw l) rfl [.ref 0] [.ref 16, .ref 78] rfl 0 6 rfl rfl rfl rfl rfl rfl (some (.ref 102)) (pX c ((kdC c), (moC c), (kiC c), (loC c), (haC c), (wiC c), (nI (u + 1))) k r tr kr rd ft tg tc lw kl ik (rc2, rl2, bl2, lt2, te2, ha2, dr2, hd2, rr2) s0 s1 s2 s3 (nt, n, cd, en, nm2, sk2)) ⟨c, ((kdC c), (moC c), (kiC c), (loC c), (haC c), (wiC c), (nI (u + 1))), k, r, tr, kr, rd, ft, tg, tc, lw, kl, ik, (rc2, rl2, bl2, lt2, te2, ha2, dr2, hd2, rr2), s0, s1, s2, s3, (nt, n, cd, en, nm2, sk2), P, hL, rfl, rfl, rfl, rfl⟩ rfl ?_
      refine V.g2 60 [14, 60] mX6_quick_ok rfl ?_
      refine V.callVP mX6_quick_ok rfl lX6_194 (ct_goAll l) rfl 56 rfl (dl2 rc2 rl2) (dl2_ok rc2 rl2) [39, 40, 41, 8, 9, 10, 11, 12, 13, 14, 51, 52, 53, 54, 55] [none, none, none, none, none, none, none, none, some 3, some 4, some 5, some 6, some 7, some 8, some 9, none, none, none, none, none, none, none, none, none, none, none, none, none, none, none, none, none, none, none, none, none, none, none, none, some 0, some 1, some 2, none, none, none, none, none, none, none, none, none, some 10, some 11, some 12, some 13, some 14] (by decide +kernel) (pRide 101 103 bl2 lt2 te2 ha2 dr2 hd2 (rr2.1) (rr2.2.1) (rr2.2.2.1) (rr2.2.2.2.1) (rr2.2.2.2.2.1) (rr2.2.2.2.2.2.1) (rr2.2.2.2.2.2.2) ++ (pCart 3 ((kdC c), (moC c), (kiC c), (loC c), (haC c), (wiC c), (nI (u + 1))) ++ pText 10 nt n cd en nm2 sk2)) [.ref 0, .ref 6, .ref 20] [] (fun v wc' => ∃ (dr2 nm2 sk2 : fI) (hd2 : Int32) (rr2 : RT), rr2 = rlF ((kdC c), (moC c), (kiC c), (loC c), (haC c), (wiC c), (nI (u + 1))) P (haC ((kdC c), (moC c), (kiC c), (loC c), (haC c), (wiC c), (nI (u + 1)))) 30 ∧ v = none ∧ wc' = pRX 0 lt2 (nI 30) (haC ((kdC c), (moC c), (kiC c), (loC c), (haC c), (wiC c), (nI (u + 1)))) dr2 hd2 rr2 ((kdC c), (moC c), (kiC c), (loC c), (haC c), (wiC c), (nI (u + 1))) nt n cd en nm2 sk2) rfl 0 2 rfl rfl rfl rfl rfl rfl rfl rfl ⟨101, 103, bl2, lt2, te2, ha2, dr2, hd2, (rr2.1), (rr2.2.1), (rr2.2.2.1), (rr2.2.2.2.1), (rr2.2.2.2.2.1), (rr2.2.2.2.2.2.1), (rr2.2.2.2.2.2.2), ((kdC c), (moC c), (kiC c), (loC c), (haC c), (wiC c), (nI (u + 1))), nt, n, cd, en, nm2, sk2, P, hok, hL.2, rfl, rfl, fun dr2 hd2 nm2 sk2 => ⟨dr2, nm2, sk2, hd2, _, rfl, rfl, rfl⟩⟩ (fun v wc' hv => ?_)
      obtain ⟨dr1, nm1, sk1, hd1, rr1, hst1, rfl, rfl⟩ := hv
      refine ⟨rfl, ?_⟩
      refine V.nm [(1, .int (nI (u + 1))), (0, .ref 0)] [] (pX c ((kdC c), (moC c), (kiC c), (loC c), (haC c), (wiC c), (nI (u + 1))) k r tr kr rd ft tg tc lw kl ik (16, 102, 0, lt2, (nI 30), (haC ((kdC c), (moC c), (kiC c), (loC c), (haC c), (wiC c), (nI (u + 1)))), dr1, hd1, rr1) s0 s1 s2 s3 (nt, n, cd, en, nm1, sk1)) rfl rfl rfl ?_
      have hq : quP c P (u + 1) = decide (rr1.2.2.2.2.2.1 = 0) := by rw [quP, show rr1 = rlF (cwA c (u + 1)) P (haC c) 30 from hst1]
      refine V.g2 60 [14, 60] mX6_quick_ok rfl ?_
      refine And.intro (fun (e2 : ¬ (rr1.2.2.2.2.2.1) = (0 : Int32)) => ?_) (fun (e2 : (rr1.2.2.2.2.2.1) = (0 : Int32)) => ?_)
      · refine V.kn [1, 0] [(1, .int ((nI (u + 1)) + zi (-1))), (0, .ref 0)] [] (pX c ((kdC c), (moC c), (kiC c), (loC c), (haC c), (wiC c), (nI (u + 1))) k r tr kr rd ft tg tc lw kl ik (16, 102, 0, lt2, (nI 30), (haC ((kdC c), (moC c), (kiC c), (loC c), (haC c), (wiC c), (nI (u + 1)))), dr1, hd1, rr1) s0 s1 s2 s3 (nt, n, cd, en, nm1, sk1)) rfl rfl rfl ?_
        exact ih _ _ _ _ _ _ _ _ _ _ _ _ _ (by exact ndec (a := u + 1) (by omega) rfl) (by omega) (by rw [hn, lsF, if_neg (by rw [hq]; exact fun z => e2 (of_decide_eq_true z))])
      · exact ⟨_, zsim_rfl _, h _ (by rw [hn, lsF, if_pos (by rw [hq]; exact decide_eq_true e2)]; rfl) ((kdC c), (moC c), (kiC c), (loC c), (haC c), (wiC c), (nI (u + 1))) (16, 102, 0, lt2, (nI 30), (haC ((kdC c), (moC c), (kiC c), (loC c), (haC c), (wiC c), (nI (u + 1)))), dr1, hd1, rr1) nm1 sk1⟩
  refine V.g2 60 [14, 60] mX6_quick_ok rfl ?_
  refine V.cV1P mX6_quick_ok rfl lX6_214 (ct_cbecome l) rfl 56 rfl [8, 9, 10, 11, 12, 13, 14, 1, 2, 3, 4, 5, 6, 7] [none, some 7, some 8, some 9, some 10, some 11, some 12, some 13, some 0, some 1, some 2, some 3, some 4, some 5, some 6, none, none, none, none, none, none, none, none, none, none, none, none, none, none, none, none, none, none, none, none, none, none, none, none, none, none, none, none, none, none, none, none, none, none, none, none, none, none, none, none, none] (by decide +kernel) (pCart 0 d ++ pCart 7 c) [.ref 0, .ref 14] [] rfl 0 0 rfl rfl rfl rfl rfl rfl rfl rfl none (pCart 0 c ++ pCart 7 c) ⟨d, c, rfl, rfl, rfl, rfl⟩ rfl (pX c c k r tr kr rd ft tg tc lw kl ik (orc, orl, obl, olt, ote, oha, odr, ohd, opu, oaz, oco, oho, obu, obb, ofa) s0 s1 s2 s3 (nt, n, cd, en, nm, sk)) [] rfl rfl ?_
  refine V.g2 60 [14, 60] mX6_quick_ok rfl ?_
  refine V.kn [1, 0] [(1, .int (nI 9)), (0, .ref 0)] [] (pX c c k r tr kr rd ft tg tc lw kl ik (orc, orl, obl, olt, ote, oha, odr, ohd, opu, oaz, oco, oho, obu, obb, ofa) s0 s1 s2 s3 (nt, n, cd, en, nm, sk)) rfl rfl rfl ?_
  exact loop 9 _ (paC c) _ _ _ _ _ _ _ _ (opu, oaz, oco, oho, obu, obb, ofa) _ _ rfl (by omega) rfl
def T6_turnsRound : zT := fun args hs Q => ∃ (c d k : zCart) (r tr kr : zRow) (rd : zRd) (ft : Nat) (tg : Nat → Option Nat) (tc lw kl ik : Int32) (ri : zRi) (s0 s1 s2 s3 : zSh) (tx : zTx) (P : zP), lOk tg lw tx P ∧ kOk d ∧ args = [.ref 0] ∧ hs = pX c d k r tr kr rd ft tg tc lw kl ik ri s0 s1 s2 s3 tx ∧ ∀ B : Bool, B = trN d P 29 → ∀ ri' nm' sk', Q (some (.int (bI B))) (pX c d k r tr kr rd ft tg tc lw kl ik ri' s0 s1 s2 s3 (txS tx nm' sk'))
set_option maxHeartbeats 4000000 in
theorem c6_turnsRound (l : Launch) : Ct l mX6_turnsRound false 6 0 0 T6_turnsRound := by
  refine Ct.intro mX6_turnsRound_ok ?_
  rintro args hs Q ⟨c, d, k, r, tr, kr, rd, ft, tg, tc, lw, kl, ik, ri, s0, s1, s2, s3, tx, P, hL, hok, rfl, rfl, h⟩
  obtain ⟨orc, orl, obl, olt, ote, oha, odr, ohd, opu, oaz, oco, oho, obu, obb, ofa⟩ := ri
  obtain ⟨nt, n, cd, en, nm, sk⟩ := tx
  refine ⟨Nat.le_of_ble_eq_true rfl, ?_⟩
  obtain ⟨S, hS⟩ : ∃ S, pX c d k r tr kr rd ft tg tc lw kl ik (orc, orl, obl, olt, ote, oha, odr, ohd, opu, oaz, oco, oho, obu, obb, ofa) s0 s1 s2 s3 (nt, n, cd, en, nm, sk) = S := ⟨_, rfl⟩
  refine V.s0 hS ?_
  have loop : ∀ (m t : Nat) (x2 x1 : Int32) (dr2 nm2 sk2 : fI) (hd2 : Int32) (rr : RT), t + m = 30 → x2 = nI t → ((t = 0 ∧ x1 = 0) ∨ (0 < t ∧ x1 = plT d P (t - 1) ∧ trN d P (t - 1) = false)) → (t = 0 ∨ dhO d P (haC d) dr2 hd2 (nI (t - 1))) → rr = rlF d P (haC d) t → V l mX6_turnsRound false S (zrm 6 0 0) (zFm false S Q 0 0) 0 0 19 [(2, .int x2), (1, .int x1), (0, .ref 0)] [] (pX c d k r tr kr rd ft tg tc lw kl ik (16, 102, 0, olt, (nI t), (haC d), dr2, hd2, rr) s0 s1 s2 s3 (nt, n, cd, en, nm2, sk2)) := by
    intro m
    induction m with
    | zero =>
      intro t x2 x1 dr2 nm2 sk2 hd2 rr ht h2 hn hd hr
      refine V.g2 60 [19, 48] mX6_turnsRound_ok rfl ?_
      refine pk_le 30 t (fun e1 => ?_) (fun e1 => absurd e1 (by omega)) rfl h2
      have et : t = 30 := by omega
      subst et
      refine And.intro (Or.inl rfl) ?_
      exact ⟨_, zsim_rfl _, h false (by rcases hn with q | q; omega; exact q.2.2.symm) (16, 102, 0, olt, (nI 30), (haC d), dr2, hd2, rr) nm2 sk2⟩
    | succ m ih =>
      intro t x2 x1 dr2 nm2 sk2 hd2 rr ht h2 hn hd hr
      refine V.g2 60 [19, 48] mX6_turnsRound_ok rfl ?_
      refine pk_le 30 t (fun e1 => absurd e1 (by omega)) (fun e1 => ?_) rfl h2
      refine V.xstep_d mX6_turnsRound_ok rfl lX6_185 rfl rfl (by omega) hok hL.2 hd (fun dr2 nm2 sk2 hd2 rr2 hst2 hh2 => ?_)
      have hr2 : rr2 = rlF d P (haC d) (t + 1) := by rw [hst2, rlF, hr]
      have hpu : rr2.1 = plT d P t := by rw [hr2]; exact rl_pu
      have t48 : trN d P t = false → V l mX6_turnsRound false S (zrm 6 0 0) (zFm false S Q 0 0) 0 0 48 [(2, .int x2), (1, .int x1), (0, .ref 0)] [] (pX c d k r tr kr rd ft tg tc lw kl ik (16, 102, 0, olt, (nI (t + 1)), (haC d), dr2, hd2, rr2) s0 s1 s2 s3 (nt, n, cd, en, nm2, sk2)) := by
        intro  hf
        refine V.g2 60 [19, 48] mX6_turnsRound_ok rfl ?_
        refine V.kn [2, 1, 0] [(2, .int (x2 + zi 1)), (1, .int (rr2.1)), (0, .ref 0)] [] (pX c d k r tr kr rd ft tg tc lw kl ik (16, 102, 0, olt, (nI (t + 1)), (haC d), dr2, hd2, rr2) s0 s1 s2 s3 (nt, n, cd, en, nm2, sk2)) rfl rfl rfl ?_
        exact ih (t + 1) _ _ dr2 nm2 sk2 hd2 rr2 (by omega) (ninc h2) (Or.inr ⟨by omega, hpu, hf⟩) (Or.inr hh2) hr2
      refine V.g2 60 [19, 48] mX6_turnsRound_ok rfl ?_
      refine And.intro (fun (e2 : x1 ≤ (0 : Int32)) => ?_) (fun (e2 : ¬ x1 ≤ (0 : Int32)) => ?_)
      · refine V.nm [(2, .int x2), (1, .int x1), (0, .ref 0)] [] (pX c d k r tr kr rd ft tg tc lw kl ik (16, 102, 0, olt, (nI (t + 1)), (haC d), dr2, hd2, rr2) s0 s1 s2 s3 (nt, n, cd, en, nm2, sk2)) rfl rfl rfl ?_
        refine t48 (by
          rcases hn with q | q
          · rw [q.1]; rfl
          · obtain ⟨u, rfl⟩ : ∃ u, t = u + 1 := ⟨t - 1, by omega⟩
            have q2 := q.2.1
            have q3 := q.2.2
            rw [show u + 1 - 1 = u by omega] at q2 q3
            rw [trN, q3, ← q2, ← hpu, decide_eq_false (Int32.not_lt.mpr e2)]
            rfl)
      · refine And.intro (fun (e3 : (0 : Int32) ≤ (rr2.1)) => ?_) (fun (e3 : ¬ (0 : Int32) ≤ (rr2.1)) => ?_)
        · refine V.nm [(2, .int x2), (1, .int x1), (0, .ref 0)] [] (pX c d k r tr kr rd ft tg tc lw kl ik (16, 102, 0, olt, (nI (t + 1)), (haC d), dr2, hd2, rr2) s0 s1 s2 s3 (nt, n, cd, en, nm2, sk2)) rfl rfl rfl ?_
          refine t48 (by
            rcases hn with q | q
            · rw [q.1]; rfl
            · obtain ⟨u, rfl⟩ : ∃ u, t = u + 1 := ⟨t - 1, by omega⟩
              have q2 := q.2.1
              have q3 := q.2.2
              rw [show u + 1 - 1 = u by omega] at q2 q3
              rw [trN, q3, ← q2, ← hpu, decide_eq_false (Int32.not_lt.mpr e3), Bool.and_false]
              rfl)
        · have ht1 : trN d P t = true := by
            rcases hn with q | q
            · rw [q.2] at e2; exact absurd (Int32.le_refl 0) e2
            · obtain ⟨u, rfl⟩ : ∃ u, t = u + 1 := ⟨t - 1, by omega⟩
              have q2 := q.2.1
              rw [show u + 1 - 1 = u by omega] at q2
              rw [trN, ← q2, ← hpu, decide_eq_true (Int32.not_le.mp e2), decide_eq_true (Int32.not_le.mp e3), Bool.and_self, Bool.or_true]
          have ht2 := trN_t ht1 (29 - t)
          rw [show t + (29 - t) = 29 by omega] at ht2
          refine And.intro (Or.inr rfl) ?_
          exact ⟨_, zsim_rfl _, h true ht2.symm (16, 102, 0, olt, (nI (t + 1)), (haC d), dr2, hd2, rr2) nm2 sk2⟩
  refine V.g2 60 [19, 48] mX6_turnsRound_ok rfl ?_
  refine V.cVW mX6_turnsRound_ok rfl lX6_128 (ct_theLaw l) rfl [.ref 0] [.ref 16, .ref 78] rfl 0 6 rfl rfl rfl rfl rfl rfl (some (.ref 102)) (pX c d k r tr kr rd ft tg tc lw kl ik (orc, orl, obl, olt, ote, oha, odr, ohd, opu, oaz, oco, oho, obu, obb, ofa) s0 s1 s2 s3 (nt, n, cd, en, nm, sk)) ⟨c, d, k, r, tr, kr, rd, ft, tg, tc, lw, kl, ik, (orc, orl, obl, olt, ote, oha, odr, ohd, opu, oaz, oco, oho, obu, obb, ofa), s0, s1, s2, s3, (nt, n, cd, en, nm, sk), P, hL, rfl, rfl, rfl, rfl⟩ rfl ?_
  refine V.g2 60 [19, 48] mX6_turnsRound_ok rfl ?_
  refine V.xstart_d mX6_turnsRound_ok rfl lX6_182 rfl rfl ?_
  refine V.nm [(0, .ref 0)] [] (pX c d k r tr kr rd ft tg tc lw kl ik (16, 102, 0, olt, (nI 0), (haC d), odr, ohd, r0) s0 s1 s2 s3 (nt, n, cd, en, nm, sk)) rfl rfl rfl ?_
  refine V.g2 60 [19, 48] mX6_turnsRound_ok rfl ?_
  refine V.kn [2, 1, 0] [(2, .int (nI 0)), (1, .int (nI 0)), (0, .ref 0)] [] (pX c d k r tr kr rd ft tg tc lw kl ik (16, 102, 0, olt, (nI 0), (haC d), odr, ohd, r0) s0 s1 s2 s3 (nt, n, cd, en, nm, sk)) rfl rfl rfl ?_
  exact loop 30 0 _ _ _ _ _ _ _ rfl rfl (Or.inl ⟨rfl, rfl⟩) (Or.inl rfl) rfl
