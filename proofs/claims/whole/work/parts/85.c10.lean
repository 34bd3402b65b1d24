def T6_kinds : zT := fun args hs Q => ∃ (c d k : zCart) (r tr kr : zRow) (rd : zRd) (ft : Nat) (tg : Nat → Option Nat) (tc lw kl ik : Int32) (ri : zRi) (s0 s1 s2 s3 : zSh) (tx : zTx) (x y z : Int32) (P : zP), lOk tg lw tx P ∧ kOk c ∧ (∀ s, s < 4 → ∃ n, n ≤ 40 ∧ (shW s0 s1 s2 s3 s).2.1 = nI n) ∧ args = [.ref 0, .int x, .int y, .int z] ∧ hs = pX c d k r tr kr rd ft tg tc lw kl ik ri s0 s1 s2 s3 tx ∧ (wiB x 3 = false → Q (some (.int (-2))) hs) ∧ (∀ s, s < 4 → x = nI s → ¬ flW (shW s0 s1 s2 s3 s).1 (shW s0 s1 s2 s3 s).2.1 = 0 → Q (some (.int (flW (shW s0 s1 s2 s3 s).1 (shW s0 s1 s2 s3 s).2.1))) hs) ∧ (∀ s, s < 4 → x = nI s → flW (shW s0 s1 s2 s3 s).1 (shW s0 s1 s2 s3 s).2.1 = 0 → wiB y 3 = false → Q (some (.int (-5))) hs) ∧ (∀ s, s < 4 → x = nI s → flW (shW s0 s1 s2 s3 s).1 (shW s0 s1 s2 s3 s).2.1 = 0 → wiB y 3 = true → wiB z 1 = false → Q (some (.int (-7))) hs) ∧ (∀ s n w j, s < 4 → x = nI s → flW (shW s0 s1 s2 s3 s).1 (shW s0 s1 s2 s3 s).2.1 = 0 → n ≤ 30 → (shW s0 s1 s2 s3 s).2.1 = nI n → w < 4 → y = nI w → j < 2 → z = nI j → ∀ r0 : Int32, r0 = (if j = 0 then btF (fun v => foB (cwK c w v) P (shW s0 s1 s2 s3 s).2.2 n) 6 else btF (fun v => foB (cwM c w v) P (shW s0 s1 s2 s3 s).2.2 n) 10) → ∀ d' ri' nm' sk', Q (some (.int r0)) (pX c d' k r tr kr rd ft tg tc lw kl ik ri' s0 s1 s2 s3 (txS tx nm' sk')))
set_option maxHeartbeats 4000000 in
theorem c6_kinds (l : Launch) : Ct l mX6_kinds false 8 0 0 T6_kinds := by
  refine Ct.intro mX6_kinds_ok ?_
  rintro args hs Q ⟨c, d, k, r, tr, kr, rd, ft, tg, tc, lw, kl, ik, ri, s0, s1, s2, s3, tx, x, y, z, P, hL, hok, hsh, rfl, rfl, h0, h1, h2, h3, h4⟩
  obtain ⟨nt, n, cd, en, nm, sk⟩ := tx
  refine ⟨Nat.le_of_ble_eq_true rfl, ?_⟩
  refine V.g2 60 [69, 81, 89, 102, 119] mX6_kinds_ok rfl ?_
  cases hB : wiB x 3 with
  | false =>
    refine V.cw mX6_kinds_ok rfl lX6_260 (c6_refusalOfFilm l) rfl 0 6 rfl rfl rfl rfl rfl rfl ⟨c, d, k, r, tr, kr, rd, ft, tg, tc, lw, kl, ik, ri, s0, s1, s2, s3, (nt, n, cd, en, nm, sk), _, rfl, rfl, fun _ => ⟨rfl, ?_⟩, fun s hs e => absurd hB (by rw [e, wiB_n (by omega) (by omega)]; exact fun z => Bool.noConfusion z)⟩
    refine V.nm [(0, .ref 0), (1, .int x), (2, .int y), (3, .int z)] [.int (-2)] (pX c d k r tr kr rd ft tg tc lw kl ik ri s0 s1 s2 s3 (nt, n, cd, en, nm, sk)) rfl rfl rfl ?_
    refine V.g2 60 [69, 81, 89, 102, 119] mX6_kinds_ok rfl ?_
    refine And.intro (fun (e : (-2) = (0 : Int32)) => absurd e (by decide)) (fun (e : ¬ (-2) = (0 : Int32)) => ?_)
    exact ⟨_, zsim_rfl _, h0 hB⟩
  | true =>
    obtain ⟨s, hs4, rfl⟩ := wiB_t hB (by omega)
    refine V.cw mX6_kinds_ok rfl lX6_260 (c6_refusalOfFilm l) rfl 0 6 rfl rfl rfl rfl rfl rfl ⟨c, d, k, r, tr, kr, rd, ft, tg, tc, lw, kl, ik, ri, s0, s1, s2, s3, (nt, n, cd, en, nm, sk), _, rfl, rfl, fun z => absurd (z.symm.trans hB) (fun e => Bool.noConfusion e), fun s2 hs2 e rr0 hrr0 => ⟨rfl, ?_⟩⟩
    have es : s = s2 := (nI_eq (by omega) (by omega)).mp e
    subst es
    refine V.nm [(0, .ref 0), (1, .int (nI s)), (2, .int y), (3, .int z)] [.int rr0] (pX c d k r tr kr rd ft tg tc lw kl ik ri s0 s1 s2 s3 (nt, n, cd, en, nm, sk)) rfl rfl rfl ?_
    have h1 := h1 s hs4 rfl
    have h2 := h2 s hs4 rfl
    have h3 := h3 s hs4 rfl
    have h4 := fun n w j => h4 s n w j hs4 rfl
    have hn0 := hsh s hs4
    refine V.g2 60 [69, 81, 89, 102, 119] mX6_kinds_ok rfl ?_
    refine And.intro (fun (e : rr0 = (0 : Int32)) => ?_) (fun (e : ¬ rr0 = (0 : Int32)) => ?_)
    · have hf := hrr0.symm.trans e
      obtain ⟨n2, hn30, hsz⟩ := flW_m hn0 hf
      have h2 := h2 hf
      have h3 := h3 hf
      have h4 := fun w j => h4 n2 w j hf hn30 hsz
      clear h0 h1
      refine V.cS0 mX6_kinds_ok rfl lX6_125 (ct_isWheel l) rfl [.int y] [] rfl rfl rfl (some (.int (bI (wiB y 3)))) ⟨_, rfl, rfl, rfl⟩ ?_
      cases hW : wiB y 3 with
      | false =>
        refine V.nm [(4, .int rr0), (0, .ref 0), (1, .int (nI s)), (2, .int y), (3, .int z)] [.int (bI false)] (pX c d k r tr kr rd ft tg tc lw kl ik ri s0 s1 s2 s3 (nt, n, cd, en, nm, sk)) rfl rfl rfl ?_
        refine V.g2 60 [69, 81, 89, 102, 119] mX6_kinds_ok rfl ?_
        refine And.intro (fun e => absurd rfl e) (fun _ => ?_)
        exact ⟨_, zsim_rfl _, h2 hW⟩
      | true =>
        refine V.nm [(4, .int rr0), (0, .ref 0), (1, .int (nI s)), (2, .int y), (3, .int z)] [.int (bI true)] (pX c d k r tr kr rd ft tg tc lw kl ik ri s0 s1 s2 s3 (nt, n, cd, en, nm, sk)) rfl rfl rfl ?_
        have h3 := h3 hW
        refine V.g2 60 [69, 81, 89, 102, 119] mX6_kinds_ok rfl ?_
        refine And.intro (fun _ => ?_) (fun e => absurd e (by decide))
        refine V.cS0 mX6_kinds_ok rfl lX6_114 (ct_within l) rfl [.int z, .int (nI 0), .int (nI 1)] [] rfl rfl rfl (some (.int (bI (wiB z 1)))) (T_within_use rfl) ?_
        cases hC : (wiB z 1) with
        | false =>
          refine V.nm [(4, .int rr0), (0, .ref 0), (1, .int (nI s)), (2, .int y), (3, .int z)] [.int (bI false)] (pX c d k r tr kr rd ft tg tc lw kl ik ri s0 s1 s2 s3 (nt, n, cd, en, nm, sk)) rfl rfl rfl ?_
          refine V.g2 60 [69, 81, 89, 102, 119] mX6_kinds_ok rfl ?_
          refine And.intro (fun e => absurd rfl e) (fun _ => ?_)
          exact ⟨_, zsim_rfl _, h3 hC⟩
        | true =>
          refine V.nm [(4, .int rr0), (0, .ref 0), (1, .int (nI s)), (2, .int y), (3, .int z)] [.int (bI true)] (pX c d k r tr kr rd ft tg tc lw kl ik ri s0 s1 s2 s3 (nt, n, cd, en, nm, sk)) rfl rfl rfl ?_
          obtain ⟨w, hw, rfl⟩ := wiB_t hW (by omega)
          obtain ⟨j, hj, rfl⟩ := wiB_t hC (by omega)
          have h4 := h4 w j (by omega) rfl (by omega) rfl
          clear h2 h3 hC hW hf hrr0 hn0 hsh
          refine V.kn [0, 1, 2, 3] [(0, .ref 0), (1, .int (nI s)), (2, .int (nI w)), (3, .int (nI j))] [.int (bI true)] (pX c d k r tr kr rd ft tg tc lw kl ik ri s0 s1 s2 s3 (nt, n, cd, en, nm, sk)) rfl rfl rfl ?_
          obtain ⟨S, hS⟩ : ∃ S, pX c d k r tr kr rd ft tg tc lw kl ik ri s0 s1 s2 s3 (nt, n, cd, en, nm, sk) = S := ⟨_, rfl⟩
          refine V.s0 hS ?_
          refine V.g2 60 [69, 81, 89, 102, 119] mX6_kinds_ok rfl ?_
          refine And.intro (fun _ => ?_) (fun e => absurd e (by decide))
          refine V.cV1P mX6_kinds_ok rfl lX6_214 (ct_cbecome l) rfl 56 rfl [8, 9, 10, 11, 12, 13, 14, 1, 2, 3, 4, 5, 6, 7] [none, some 7, some 8, some 9, some 10, some 11, some 12, some 13, some 0, some 1, some 2, some 3, some 4, some 5, some 6, none, none, none, none, none, none, none, none, none, none, none, none, none, none, none, none, none, none, none, none, none, none, none, none, none, none, none, none, none, none, none, none, none, none, none, none, none, none, none, none, none] (by decide +kernel) (pCart 0 d ++ pCart 7 c) [.ref 0, .ref 14] [] rfl 0 0 rfl rfl rfl rfl rfl rfl rfl rfl none (pCart 0 c ++ pCart 7 c) ⟨d, c, rfl, rfl, rfl, rfl⟩ rfl (pX c c k r tr kr rd ft tg tc lw kl ik ri s0 s1 s2 s3 (nt, n, cd, en, nm, sk)) [] rfl rfl ?_
          rcases (show j = 0 ∨ j = 1 by omega) with rfl | rfl
          · refine V.nm [(0, .ref 0), (1, .int (nI s)), (2, .int (nI w)), (3, .int (nI 0))] [] (pX c c k r tr kr rd ft tg tc lw kl ik ri s0 s1 s2 s3 (nt, n, cd, en, nm, sk)) rfl rfl rfl ?_
            obtain ⟨G, hG⟩ : ∃ G, G = (fun v => foB (cwK c w v) P (shW s0 s1 s2 s3 s).2.2 n2) := ⟨_, rfl⟩
            rw [if_pos (by decide), ← hG] at h4
            refine V.g2 60 [69, 81, 89, 102, 119] mX6_kinds_ok rfl ?_
            refine zp_ne 0 0 (fun e0 => absurd e0 (by omega)) (fun e0 => ?_) rfl rfl
            refine V.g2 60 [69, 81, 89, 102, 119] mX6_kinds_ok rfl ?_
            refine zp_ne 0 0 (fun e0 => absurd e0 (by omega)) (fun e0 => ?_) rfl rfl
            refine V.g2 60 [69, 81, 89, 102, 119] mX6_kinds_ok rfl ?_
            have loop : ∀ (m v : Nat) (x8 x7 : Int32) (rw2 nm2 sk2 : fI) (ri2 : zRi), v + m = 6 → x8 = nI v → x7 = btF G v → (∀ a, upd rw2 w a = upd (kdC c) w a) → V l mX6_kinds false S (zrm 8 0 0) (zFm false S Q 0 0) 0 0 89 [(8, .int x8), (7, .int x7), (6, .int (nI 5)), (5, .ref 18), (0, .ref 0), (1, .int (nI s)), (2, .int (nI w)), (3, .int (nI 0))] [] (pX c (rw2, (moC c), (kiC c), (loC c), (haC c), (wiC c), (paC c)) k r tr kr rd ft tg tc lw kl ik ri2 s0 s1 s2 s3 (nt, n, cd, en, nm2, sk2)) := by
              intro m
              induction m with
              | zero =>
                intro v x8 x7 rw2 nm2 sk2 ri2 hv h8 h7 hrw
                refine V.g2 60 [69, 81, 89, 102, 119] mX6_kinds_ok rfl ?_
                refine pk_lt 5 v (fun e1 => ?_) (fun e1 => absurd e1 (by omega)) rfl h8
                have ev : v = 6 := by omega
                subst ev
                exact ⟨_, zsim_rfl _, h4 _ h7 (rw2, (moC c), (kiC c), (loC c), (haC c), (wiC c), (paC c)) ri2 nm2 sk2⟩
              | succ m ih =>
                intro v x8 x7 rw2 nm2 sk2 ri2 hv h8 h7 hrw
                refine V.g2 60 [69, 81, 89, 102, 119] mX6_kinds_ok rfl ?_
                refine pk_lt 5 v (fun e1 => absurd e1 (by omega)) (fun e1 => ?_) rfl h8
                subst h8
                refine ⟨w, by omega, rfl, rfl, ?_⟩
                refine V.nm [(8, .int (nI v)), (7, .int x7), (6, .int (nI 5)), (5, .ref 18), (0, .ref 0), (1, .int (nI s)), (2, .int (nI w)), (3, .int (nI 0))] [] (pX c ((upd rw2 w (nI v)), (moC c), (kiC c), (loC c), (haC c), (wiC c), (paC c)) k r tr kr rd ft tg tc lw kl ik ri2 s0 s1 s2 s3 (nt, n, cd, en, nm2, sk2)) rfl rfl rfl ?_
                rw [hrw]
                refine V.nm [(8, .int (nI v)), (7, .int x7), (6, .int (nI 5)), (5, .ref 18), (0, .ref 0), (1, .int (nI s)), (2, .int (nI w)), (3, .int (nI 0))] [] (pX c (cwK c w v) k r tr kr rd ft tg tc lw kl ik ri2 s0 s1 s2 s3 (nt, n, cd, en, nm2, sk2)) rfl rfl rfl ?_
                refine V.g2 60 [69, 81, 89, 102, 119] mX6_kinds_ok rfl ?_
                refine V.cw mX6_kinds_ok rfl lX6_267 (c6_wouldFit l) rfl 0 6 rfl rfl rfl rfl rfl rfl ⟨c, (cwK c w v), k, r, tr, kr, rd, ft, tg, tc, lw, kl, ik, ri2, s0, s1, s2, s3, (nt, n, cd, en, nm2, sk2), P, s, n2, hL, kOk_up hok (by omega), hs4, hn30, hsz, rfl, rfl, fun B hB ri3 nm3 sk3 => ⟨rfl, ?_⟩⟩
                have hB : B = G v := by rw [hG]; exact hB
                cases B with
                | false =>
                  refine V.nm [(8, .int (nI v)), (7, .int x7), (6, .int (nI 5)), (5, .ref 18), (0, .ref 0), (1, .int (nI s)), (2, .int (nI w)), (3, .int (nI 0))] [.int (bI false)] (pX c (cwK c w v) k r tr kr rd ft tg tc lw kl ik ri3 s0 s1 s2 s3 (nt, n, cd, en, nm3, sk3)) rfl rfl rfl ?_
                  refine V.g2 60 [69, 81, 89, 102, 119] mX6_kinds_ok rfl ?_
                  refine And.intro (fun _ => ?_) (fun e => absurd rfl e)
                  refine V.g2 60 [69, 81, 89, 102, 119] mX6_kinds_ok rfl ?_
                  refine V.kn [8, 7, 6, 5, 0, 1, 2, 3] [(8, .int ((nI v) + zi 1)), (7, .int x7), (6, .int (nI 5)), (5, .ref 18), (0, .ref 0), (1, .int (nI s)), (2, .int (nI w)), (3, .int (nI 0))] [] (pX c ((upd (kdC c) w (nI v)), (moC c), (kiC c), (loC c), (haC c), (wiC c), (paC c)) k r tr kr rd ft tg tc lw kl ik ri3 s0 s1 s2 s3 (nt, n, cd, en, nm3, sk3)) rfl rfl rfl ?_
                  exact ih (v + 1) _ _ _ _ _ _ (by omega) (ninc rfl) (by rw [btF_f hB.symm]; exact h7) (fun a => upd2 _ _ _ _)
                | true =>
                  refine V.nm [(8, .int (nI v)), (7, .int x7), (6, .int (nI 5)), (5, .ref 18), (0, .ref 0), (1, .int (nI s)), (2, .int (nI w)), (3, .int (nI 0))] [.int (bI true)] (pX c (cwK c w v) k r tr kr rd ft tg tc lw kl ik ri3 s0 s1 s2 s3 (nt, n, cd, en, nm3, sk3)) rfl rfl rfl ?_
                  refine V.g2 60 [69, 81, 89, 102, 119] mX6_kinds_ok rfl ?_
                  refine And.intro (fun e => absurd e (by decide)) (fun _ => ?_)
                  refine V.g2 60 [69, 81, 89, 102, 119] mX6_kinds_ok rfl ?_
                  refine V.kn [8, 7, 6, 5, 0, 1, 2, 3] [(8, .int ((nI v) + zi 1)), (7, .int (x7 ||| ((nI 1) <<< ((nI v) &&& 31)))), (6, .int (nI 5)), (5, .ref 18), (0, .ref 0), (1, .int (nI s)), (2, .int (nI w)), (3, .int (nI 0))] [] (pX c ((upd (kdC c) w (nI v)), (moC c), (kiC c), (loC c), (haC c), (wiC c), (paC c)) k r tr kr rd ft tg tc lw kl ik ri3 s0 s1 s2 s3 (nt, n, cd, en, nm3, sk3)) rfl rfl rfl ?_
                  exact ih (v + 1) _ _ _ _ _ _ (by omega) (ninc rfl) (by rw [btF_t hB.symm, ← h7]) (fun a => upd2 _ _ _ _)
            refine V.kn [8, 7, 6, 5, 0, 1, 2, 3] [(8, .int (nI 0)), (7, .int (nI 0)), (6, .int (nI 5)), (5, .ref 18), (0, .ref 0), (1, .int (nI s)), (2, .int (nI w)), (3, .int (nI 0))] [] (pX c c k r tr kr rd ft tg tc lw kl ik ri s0 s1 s2 s3 (nt, n, cd, en, nm, sk)) rfl rfl rfl ?_
            exact loop 6 0 _ _ (kdC c) _ _ _ (by omega) rfl rfl (fun a => rfl)
          · refine V.nm [(0, .ref 0), (1, .int (nI s)), (2, .int (nI w)), (3, .int (nI 1))] [] (pX c c k r tr kr rd ft tg tc lw kl ik ri s0 s1 s2 s3 (nt, n, cd, en, nm, sk)) rfl rfl rfl ?_
            obtain ⟨G, hG⟩ : ∃ G, G = (fun v => foB (cwM c w v) P (shW s0 s1 s2 s3 s).2.2 n2) := ⟨_, rfl⟩
            rw [if_neg (by decide), ← hG] at h4
            refine V.g2 60 [69, 81, 89, 102, 119] mX6_kinds_ok rfl ?_
            refine zp_ne 1 0 (fun e0 => ?_) (fun e0 => absurd e0 (by omega)) rfl rfl
            refine V.g2 60 [69, 81, 89, 102, 119] mX6_kinds_ok rfl ?_
            refine zp_ne 1 0 (fun e0 => ?_) (fun e0 => absurd e0 (by omega)) rfl rfl
            refine V.g2 60 [69, 81, 89, 102, 119] mX6_kinds_ok rfl ?_
            have loop : ∀ (m v : Nat) (x8 x7 : Int32) (rw2 nm2 sk2 : fI) (ri2 : zRi), v + m = 10 → x8 = nI v → x7 = btF G v → (∀ a, upd rw2 w a = upd (moC c) w a) → V l mX6_kinds false S (zrm 8 0 0) (zFm false S Q 0 0) 0 0 89 [(8, .int x8), (7, .int x7), (6, .int (nI 9)), (5, .ref 20), (0, .ref 0), (1, .int (nI s)), (2, .int (nI w)), (3, .int (nI 1))] [] (pX c ((kdC c), rw2, (kiC c), (loC c), (haC c), (wiC c), (paC c)) k r tr kr rd ft tg tc lw kl ik ri2 s0 s1 s2 s3 (nt, n, cd, en, nm2, sk2)) := by
              intro m
              induction m with
              | zero =>
                intro v x8 x7 rw2 nm2 sk2 ri2 hv h8 h7 hrw
                refine V.g2 60 [69, 81, 89, 102, 119] mX6_kinds_ok rfl ?_
                refine pk_lt 9 v (fun e1 => ?_) (fun e1 => absurd e1 (by omega)) rfl h8
                have ev : v = 10 := by omega
                subst ev
                exact ⟨_, zsim_rfl _, h4 _ h7 ((kdC c), rw2, (kiC c), (loC c), (haC c), (wiC c), (paC c)) ri2 nm2 sk2⟩
              | succ m ih =>
                intro v x8 x7 rw2 nm2 sk2 ri2 hv h8 h7 hrw
                refine V.g2 60 [69, 81, 89, 102, 119] mX6_kinds_ok rfl ?_
                refine pk_lt 9 v (fun e1 => absurd e1 (by omega)) (fun e1 => ?_) rfl h8
                subst h8
                refine ⟨w, by omega, rfl, rfl, ?_⟩
                refine V.nm [(8, .int (nI v)), (7, .int x7), (6, .int (nI 9)), (5, .ref 20), (0, .ref 0), (1, .int (nI s)), (2, .int (nI w)), (3, .int (nI 1))] [] (pX c ((kdC c), (upd rw2 w (nI v)), (kiC c), (loC c), (haC c), (wiC c), (paC c)) k r tr kr rd ft tg tc lw kl ik ri2 s0 s1 s2 s3 (nt, n, cd, en, nm2, sk2)) rfl rfl rfl ?_
                rw [hrw]
                refine V.nm [(8, .int (nI v)), (7, .int x7), (6, .int (nI 9)), (5, .ref 20), (0, .ref 0), (1, .int (nI s)), (2, .int (nI w)), (3, .int (nI 1))] [] (pX c (cwM c w v) k r tr kr rd ft tg tc lw kl ik ri2 s0 s1 s2 s3 (nt, n, cd, en, nm2, sk2)) rfl rfl rfl ?_
                refine V.g2 60 [69, 81, 89, 102, 119] mX6_kinds_ok rfl ?_
                refine V.cw mX6_kinds_ok rfl lX6_267 (c6_wouldFit l) rfl 0 6 rfl rfl rfl rfl rfl rfl ⟨c, (cwM c w v), k, r, tr, kr, rd, ft, tg, tc, lw, kl, ik, ri2, s0, s1, s2, s3, (nt, n, cd, en, nm2, sk2), P, s, n2, hL, hok, hs4, hn30, hsz, rfl, rfl, fun B hB ri3 nm3 sk3 => ⟨rfl, ?_⟩⟩
                have hB : B = G v := by rw [hG]; exact hB
                cases B with
                | false =>
                  refine V.nm [(8, .int (nI v)), (7, .int x7), (6, .int (nI 9)), (5, .ref 20), (0, .ref 0), (1, .int (nI s)), (2, .int (nI w)), (3, .int (nI 1))] [.int (bI false)] (pX c (cwM c w v) k r tr kr rd ft tg tc lw kl ik ri3 s0 s1 s2 s3 (nt, n, cd, en, nm3, sk3)) rfl rfl rfl ?_
                  refine V.g2 60 [69, 81, 89, 102, 119] mX6_kinds_ok rfl ?_
                  refine And.intro (fun _ => ?_) (fun e => absurd rfl e)
                  refine V.g2 60 [69, 81, 89, 102, 119] mX6_kinds_ok rfl ?_
                  refine V.kn [8, 7, 6, 5, 0, 1, 2, 3] [(8, .int ((nI v) + zi 1)), (7, .int x7), (6, .int (nI 9)), (5, .ref 20), (0, .ref 0), (1, .int (nI s)), (2, .int (nI w)), (3, .int (nI 1))] [] (pX c ((kdC c), (upd (moC c) w (nI v)), (kiC c), (loC c), (haC c), (wiC c), (paC c)) k r tr kr rd ft tg tc lw kl ik ri3 s0 s1 s2 s3 (nt, n, cd, en, nm3, sk3)) rfl rfl rfl ?_
                  exact ih (v + 1) _ _ _ _ _ _ (by omega) (ninc rfl) (by rw [btF_f hB.symm]; exact h7) (fun a => upd2 _ _ _ _)
                | true =>
                  refine V.nm [(8, .int (nI v)), (7, .int x7), (6, .int (nI 9)), (5, .ref 20), (0, .ref 0), (1, .int (nI s)), (2, .int (nI w)), (3, .int (nI 1))] [.int (bI true)] (pX c (cwM c w v) k r tr kr rd ft tg tc lw kl ik ri3 s0 s1 s2 s3 (nt, n, cd, en, nm3, sk3)) rfl rfl rfl ?_
                  refine V.g2 60 [69, 81, 89, 102, 119] mX6_kinds_ok rfl ?_
                  refine And.intro (fun e => absurd e (by decide)) (fun _ => ?_)
                  refine V.g2 60 [69, 81, 89, 102, 119] mX6_kinds_ok rfl ?_
                  refine V.kn [8, 7, 6, 5, 0, 1, 2, 3] [(8, .int ((nI v) + zi 1)), (7, .int (x7 ||| ((nI 1) <<< ((nI v) &&& 31)))), (6, .int (nI 9)), (5, .ref 20), (0, .ref 0), (1, .int (nI s)), (2, .int (nI w)), (3, .int (nI 1))] [] (pX c ((kdC c), (upd (moC c) w (nI v)), (kiC c), (loC c), (haC c), (wiC c), (paC c)) k r tr kr rd ft tg tc lw kl ik ri3 s0 s1 s2 s3 (nt, n, cd, en, nm3, sk3)) rfl rfl rfl ?_
                  exact ih (v + 1) _ _ _ _ _ _ (by omega) (ninc rfl) (by rw [btF_t hB.symm, ← h7]) (fun a => upd2 _ _ _ _)
            refine V.kn [8, 7, 6, 5, 0, 1, 2, 3] [(8, .int (nI 0)), (7, .int (nI 0)), (6, .int (nI 9)), (5, .ref 20), (0, .ref 0), (1, .int (nI s)), (2, .int (nI w)), (3, .int (nI 1))] [] (pX c c k r tr kr rd ft tg tc lw kl ik ri s0 s1 s2 s3 (nt, n, cd, en, nm, sk)) rfl rfl rfl ?_
            exact loop 10 0 _ _ (moC c) _ _ _ (by omega) rfl rfl (fun a => rfl)
    · exact ⟨_, zsim_rfl _, (by have h1 := h1 (by rw [← hrr0]; exact e); rw [← hrr0] at h1; exact h1)⟩
