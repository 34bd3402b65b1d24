def T6_swap : zT := fun args hs Q => ∃ (c d k : zCart) (r tr kr : zRow) (rd : zRd) (ft : Nat) (tg : Nat → Option Nat) (tc lw kl ik : Int32) (ri : zRi) (s0 s1 s2 s3 : zSh) (tx : zTx) (y : Int32) (P : zP), lOk tg lw tx P ∧ kOk c ∧ args = [.ref 0, .int y] ∧ hs = pX c d k r tr kr rd ft tg tc lw kl ik ri s0 s1 s2 s3 tx ∧ (wiB y 1 = false → Q (some (.int (-2))) hs) ∧ (wiB y 1 = true → ∀ r0 : Int32, r0 = (if y = nI 0 then (swO (swV c P) (faF c P) 8).1 else (swO (swV c P) (faF c P) 8).2) → ∀ d' ri' nm' sk', Q (some (.int r0)) (pX c d' k r tr kr rd ft tg tc lw kl ik ri' s0 s1 s2 s3 (txS tx nm' sk')))
set_option maxHeartbeats 4000000 in
theorem c6_swap (l : Launch) : Ct l mX6_swap false 8 0 0 T6_swap := by
  refine Ct.intro mX6_swap_ok ?_
  rintro args hs Q ⟨c, d, k, r, tr, kr, rd, ft, tg, tc, lw, kl, ik, ri, s0, s1, s2, s3, tx, y, P, hL, hok, rfl, rfl, h0, h1⟩
  obtain ⟨nt, n, cd, en, nm, sk⟩ := tx
  refine ⟨Nat.le_of_ble_eq_true rfl, ?_⟩
  refine V.g2 60 [37, 50, 107, 113] mX6_swap_ok rfl ?_
  refine V.cS0 mX6_swap_ok rfl lX6_114 (ct_within l) rfl [.int y, .int (nI 0), .int (nI 1)] [] rfl rfl rfl (some (.int (bI (wiB y 1)))) (T_within_use rfl) ?_
  cases hB : (wiB y 1) with
  | false =>
    refine V.nm [(0, .ref 0), (1, .int y)] [.int (bI false)] (pX c d k r tr kr rd ft tg tc lw kl ik ri s0 s1 s2 s3 (nt, n, cd, en, nm, sk)) rfl rfl rfl ?_
    refine V.g2 60 [37, 50, 107, 113] mX6_swap_ok rfl ?_
    refine And.intro (fun e => absurd rfl e) (fun _ => ?_)
    exact ⟨_, zsim_rfl _, h0 hB⟩
  | true =>
    refine V.nm [(0, .ref 0), (1, .int y)] [.int (bI true)] (pX c d k r tr kr rd ft tg tc lw kl ik ri s0 s1 s2 s3 (nt, n, cd, en, nm, sk)) rfl rfl rfl ?_
    have h1 := h1 hB
    clear h0
    obtain ⟨j, hj, rfl⟩ := wiB_t hB (by omega)
    refine V.nm [(0, .ref 0), (1, .int (nI j))] [.int (bI true)] (pX c d k r tr kr rd ft tg tc lw kl ik ri s0 s1 s2 s3 (nt, n, cd, en, nm, sk)) rfl rfl rfl ?_
    obtain ⟨S, hS⟩ : ∃ S, pX c d k r tr kr rd ft tg tc lw kl ik ri s0 s1 s2 s3 (nt, n, cd, en, nm, sk) = S := ⟨_, rfl⟩
    refine V.s0 hS ?_
    refine V.g2 60 [37, 50, 107, 113] mX6_swap_ok rfl ?_
    refine And.intro (fun _ => ?_) (fun e => absurd e (by decide))
    refine V.callVW mX6_swap_ok rfl lX6_225 (ct_farthestOf_c l) rfl [.ref 0, .ref 2] [] (fun v hs' => ∃ (vv : Int32) (ri1 : zRi) (nm1 sk1 : fI), vv = faF c P ∧ v = some (.int vv) ∧ hs' = pX c d k r tr kr rd ft tg tc lw kl ik ri1 s0 s1 s2 s3 (nt, n, cd, en, nm1, sk1)) rfl 0 6 rfl rfl rfl rfl rfl rfl ⟨c, d, k, r, tr, kr, rd, ft, tg, tc, lw, kl, ik, ri, s0, s1, s2, s3, (nt, n, cd, en, nm, sk), P, hL, hok, rfl, rfl, fun ri1 nm1 sk1 => ⟨_, ri1, nm1, sk1, rfl, rfl, rfl⟩⟩ (fun v hs' hv => ?_)
    obtain ⟨vv1, ri1, nm1, sk1, hvv1, rfl, rfl⟩ := hv
    refine ⟨rfl, ?_⟩
    refine V.nm [(0, .ref 0), (1, .int (nI j))] [.int vv1] (pX c d k r tr kr rd ft tg tc lw kl ik ri1 s0 s1 s2 s3 (nt, n, cd, en, nm1, sk1)) rfl rfl rfl ?_
    obtain ⟨F, hF⟩ : ∃ F, F = swV c P := ⟨_, rfl⟩
    rw [← hvv1, ← hF] at h1
    obtain ⟨v0, hv0⟩ : ∃ v0, v0 = vv1 := ⟨_, rfl⟩
    rw [← hv0] at h1
    refine V.g2 60 [37, 50, 107, 113] mX6_swap_ok rfl ?_
    refine V.cV1P mX6_swap_ok rfl lX6_214 (ct_cbecome l) rfl 56 rfl [8, 9, 10, 11, 12, 13, 14, 1, 2, 3, 4, 5, 6, 7] [none, some 7, some 8, some 9, some 10, some 11, some 12, some 13, some 0, some 1, some 2, some 3, some 4, some 5, some 6, none, none, none, none, none, none, none, none, none, none, none, none, none, none, none, none, none, none, none, none, none, none, none, none, none, none, none, none, none, none, none, none, none, none, none, none, none, none, none, none, none] (by decide +kernel) (pCart 0 d ++ pCart 7 c) [.ref 0, .ref 14] [] rfl 0 0 rfl rfl rfl rfl rfl rfl rfl rfl none (pCart 0 c ++ pCart 7 c) ⟨d, c, rfl, rfl, rfl, rfl⟩ rfl (pX c c k r tr kr rd ft tg tc lw kl ik ri1 s0 s1 s2 s3 (nt, n, cd, en, nm1, sk1)) [] rfl rfl ?_
    refine V.g2 60 [37, 50, 107, 113] mX6_swap_ok rfl ?_
    have loop : ∀ (m a : Nat) (x4 x3 x2 : Int32) (nm2 sk2 : fI) (ri2 : zRi), a + m = 8 → x4 = nI a → x3 = (swO F v0 a).1 → x2 = (swO F v0 a).2 → V l mX6_swap false S (zrm 8 0 0) (zFm false S Q 0 0) 0 0 37 [(4, .int x4), (3, .int x3), (2, .int x2), (0, .ref 0), (1, .int (nI j))] [] (pX c c k r tr kr rd ft tg tc lw kl ik ri2 s0 s1 s2 s3 (nt, n, cd, en, nm2, sk2)) := by
      intro m
      induction m with
      | zero =>
        intro a x4 x3 x2 nm2 sk2 ri2 ha h4 h3 h2
        refine V.g2 60 [37, 50, 107, 113] mX6_swap_ok rfl ?_
        refine pk_le 8 a (fun e1 => ?_) (fun e1 => absurd e1 (by omega)) rfl h4
        have ea : a = 8 := by omega
        subst ea
        refine zp_ne j 0 (fun e2 => ?_) (fun e2 => ?_) rfl rfl
        · exact ⟨_, zsim_rfl _, h1 _ (by rw [if_neg (fun z => e2 ((nI_eq (by omega) (by omega)).mp z))]; exact h2) c ri2 nm2 sk2⟩
        · exact ⟨_, zsim_rfl _, h1 _ (by rw [if_pos (by rw [e2])]; exact h3) c ri2 nm2 sk2⟩
      | succ m ih =>
        intro a x4 x3 x2 nm2 sk2 ri2 ha h4 h3 h2
        refine V.g2 60 [37, 50, 107, 113] mX6_swap_ok rfl ?_
        refine pk_le 8 a (fun e1 => absurd e1 (by omega)) (fun e1 => ?_) rfl h4
        subst h4
        obtain ⟨s0z, hs0z⟩ : ∃ q, q = swO F v0 a := ⟨_, rfl⟩
        rw [← hs0z] at h3 h2
        have inner : ∀ (m2 n2 : Nat) (x5 y3 y2 : Int32) (nm3 sk3 : fI) (ri3 : zRi), n2 + m2 = 7 - a → x5 = nI (a + 1 + n2) → y3 = (swI F a s0z n2).1 → y2 = (swI F a s0z n2).2 → V l mX6_swap false S (zrm 8 0 0) (zFm false S Q 0 0) 0 0 50 [(5, .int x5), (4, .int (nI a)), (3, .int y3), (2, .int y2), (0, .ref 0), (1, .int (nI j))] [] (pX c c k r tr kr rd ft tg tc lw kl ik ri3 s0 s1 s2 s3 (nt, n, cd, en, nm3, sk3)) := by
          intro m2
          induction m2 with
          | zero =>
            intro n2 x5 y3 y2 nm3 sk3 ri3 hn h5 g3 g2
            refine V.g2 60 [37, 50, 107, 113] mX6_swap_ok rfl ?_
            refine pk_le 8 (a + 1 + n2) (fun e3 => ?_) (fun e3 => absurd e3 (by omega)) rfl h5
            have en : n2 = 7 - a := by omega
            subst en
            refine V.g2 60 [37, 50, 107, 113] mX6_swap_ok rfl ?_
            refine V.kn [4, 3, 2, 0, 1] [(4, .int ((nI a) + zi 1)), (3, .int y3), (2, .int y2), (0, .ref 0), (1, .int (nI j))] [] (pX c c k r tr kr rd ft tg tc lw kl ik ri3 s0 s1 s2 s3 (nt, n, cd, en, nm3, sk3)) rfl rfl rfl ?_
            exact ih (a + 1) _ _ _ _ _ _ (by omega) (ninc rfl) (by rw [swO, ← hs0z]; exact g3) (by rw [swO, ← hs0z]; exact g2)
          | succ m2 ih =>
            intro n2 x5 y3 y2 nm3 sk3 ri3 hn h5 g3 g2
            refine V.g2 60 [37, 50, 107, 113] mX6_swap_ok rfl ?_
            refine pk_le 8 (a + 1 + n2) (fun e3 => absurd e3 (by omega)) (fun e3 => ?_) rfl h5
            subst h5
            refine V.cV1P mX6_swap_ok rfl lX6_232 (ct_exchange l) rfl 56 rfl [8, 9, 10, 11, 12, 13, 14] [none, none, none, none, none, none, none, none, some 0, some 1, some 2, some 3, some 4, some 5, some 6, none, none, none, none, none, none, none, none, none, none, none, none, none, none, none, none, none, none, none, none, none, none, none, none, none, none, none, none, none, none, none, none, none, none, none, none, none, none, none, none, none] (by decide +kernel) (pCart 0 c) [.ref 0, .int (nI a), .int (nI (a + 1 + n2))] [] rfl 0 0 rfl rfl rfl rfl rfl rfl rfl rfl none (pCart 0 ((kdC c), (moC c), (kiC c), (upd (upd (loC c) a (loC c (a + 1 + n2))) (a + 1 + n2) (loC c a)), (haC c), (wiC c), (paC c))) ⟨c, a, a + 1 + n2, by omega, by omega, rfl, rfl, rfl, rfl⟩ rfl (pX c ((kdC c), (moC c), (kiC c), (upd (upd (loC c) a (loC c (a + 1 + n2))) (a + 1 + n2) (loC c a)), (haC c), (wiC c), (paC c)) k r tr kr rd ft tg tc lw kl ik ri3 s0 s1 s2 s3 (nt, n, cd, en, nm3, sk3)) [] rfl rfl ?_
            refine V.nm [(5, .int (nI (a + 1 + n2))), (4, .int (nI a)), (3, .int y3), (2, .int y2), (0, .ref 0), (1, .int (nI j))] [] (pX c (cwL c (exF (loC c) a (a + 1 + n2))) k r tr kr rd ft tg tc lw kl ik ri3 s0 s1 s2 s3 (nt, n, cd, en, nm3, sk3)) rfl rfl rfl ?_
            refine V.g2 60 [37, 50, 107, 113] mX6_swap_ok rfl ?_
            refine V.callVW mX6_swap_ok rfl lX6_225 (ct_farthestOf_t l) rfl [.ref 0, .ref 16] [] (fun v hs' => ∃ (vv : Int32) (ri2 : zRi) (nm2 sk2 : fI), vv = faF (cwL c (exF (loC c) a (a + 1 + n2))) P ∧ v = some (.int vv) ∧ hs' = pX c (cwL c (exF (loC c) a (a + 1 + n2))) k r tr kr rd ft tg tc lw kl ik ri2 s0 s1 s2 s3 (nt, n, cd, en, nm2, sk2)) rfl 0 6 rfl rfl rfl rfl rfl rfl ⟨c, (cwL c (exF (loC c) a (a + 1 + n2))), k, r, tr, kr, rd, ft, tg, tc, lw, kl, ik, ri3, s0, s1, s2, s3, (nt, n, cd, en, nm3, sk3), P, hL, hok, rfl, rfl, fun ri2 nm2 sk2 => ⟨_, ri2, nm2, sk2, rfl, rfl, rfl⟩⟩ (fun v hs' hv => ?_)
            obtain ⟨vv2, ri2, nm2, sk2, hvv2, rfl, rfl⟩ := hv
            refine ⟨rfl, ?_⟩
            refine V.nm [(5, .int (nI (a + 1 + n2))), (4, .int (nI a)), (3, .int y3), (2, .int y2), (0, .ref 0), (1, .int (nI j))] [.int vv2] (pX c (cwL c (exF (loC c) a (a + 1 + n2))) k r tr kr rd ft tg tc lw kl ik ri2 s0 s1 s2 s3 (nt, n, cd, en, nm2, sk2)) rfl rfl rfl ?_
            have hfv : vv2 = F a (a + 1 + n2) := by rw [hF]; exact hvv2
            refine V.g2 60 [37, 50, 107, 113] mX6_swap_ok rfl ?_
            refine V.cV1P mX6_swap_ok rfl lX6_232 (ct_exchange l) rfl 56 rfl [8, 9, 10, 11, 12, 13, 14] [none, none, none, none, none, none, none, none, some 0, some 1, some 2, some 3, some 4, some 5, some 6, none, none, none, none, none, none, none, none, none, none, none, none, none, none, none, none, none, none, none, none, none, none, none, none, none, none, none, none, none, none, none, none, none, none, none, none, none, none, none, none, none] (by decide +kernel) (pCart 0 (cwL c (exF (loC c) a (a + 1 + n2)))) [.ref 0, .int (nI a), .int (nI (a + 1 + n2))] [] rfl 0 0 rfl rfl rfl rfl rfl rfl rfl rfl none (pCart 0 ((kdC c), (moC c), (kiC c), (upd (upd (exF (loC c) a (a + 1 + n2)) a ((exF (loC c) a (a + 1 + n2)) (a + 1 + n2))) (a + 1 + n2) ((exF (loC c) a (a + 1 + n2)) a)), (haC c), (wiC c), (paC c))) ⟨cwL c (exF (loC c) a (a + 1 + n2)), a, a + 1 + n2, by omega, by omega, rfl, rfl, rfl, rfl⟩ rfl (pX c ((kdC c), (moC c), (kiC c), (upd (upd (exF (loC c) a (a + 1 + n2)) a ((exF (loC c) a (a + 1 + n2)) (a + 1 + n2))) (a + 1 + n2) ((exF (loC c) a (a + 1 + n2)) a)), (haC c), (wiC c), (paC c)) k r tr kr rd ft tg tc lw kl ik ri2 s0 s1 s2 s3 (nt, n, cd, en, nm2, sk2)) [] rfl rfl ?_
            rw [show (upd (upd (exF (loC c) a (a + 1 + n2)) a ((exF (loC c) a (a + 1 + n2)) (a + 1 + n2))) (a + 1 + n2) ((exF (loC c) a (a + 1 + n2)) a)) = loC c from exF_2f]
            refine V.nm [(6, .int vv2), (5, .int (nI (a + 1 + n2))), (4, .int (nI a)), (3, .int y3), (2, .int y2), (0, .ref 0), (1, .int (nI j))] [] (pX c c k r tr kr rd ft tg tc lw kl ik ri2 s0 s1 s2 s3 (nt, n, cd, en, nm2, sk2)) rfl rfl rfl ?_
            refine V.g2 60 [37, 50, 107, 113] mX6_swap_ok rfl ?_
            refine And.intro (fun (e4 : y2 ≤ vv2) => ?_) (fun (e4 : ¬ y2 ≤ vv2) => ?_)
            · refine V.g2 60 [37, 50, 107, 113] mX6_swap_ok rfl ?_
              refine V.kn [5, 4, 3, 2, 0, 1] [(5, .int ((nI (a + 1 + n2)) + zi 1)), (4, .int (nI a)), (3, .int y3), (2, .int y2), (0, .ref 0), (1, .int (nI j))] [] (pX c c k r tr kr rd ft tg tc lw kl ik ri2 s0 s1 s2 s3 (nt, n, cd, en, nm2, sk2)) rfl rfl rfl ?_
              have hx : swI F a s0z (n2 + 1) = swI F a s0z n2 := by rw [swI, ← hfv, ← g2, if_neg (Int32.not_lt.mpr e4)]
              exact ih (n2 + 1) _ _ _ _ _ _ (by omega) (ninc rfl) (by rw [hx]; exact g3) (by rw [hx]; exact g2)
            · refine V.g2 60 [37, 50, 107, 113] mX6_swap_ok rfl ?_
              refine V.kn [5, 4, 3, 2, 0, 1] [(5, .int ((nI (a + 1 + n2)) + zi 1)), (4, .int (nI a)), (3, .int (((nI 10) * (nI a)) + (nI (a + 1 + n2)))), (2, .int vv2), (0, .ref 0), (1, .int (nI j))] [] (pX c c k r tr kr rd ft tg tc lw kl ik ri2 s0 s1 s2 s3 (nt, n, cd, en, nm2, sk2)) rfl rfl rfl ?_
              have hx : swI F a s0z (n2 + 1) = (nI 10 * nI a + nI (a + 1 + n2), vv2) := by rw [swI, ← hfv, ← g2, if_pos (Int32.not_le.mp e4)]
              exact ih (n2 + 1) _ _ _ _ _ _ (by omega) (ninc rfl) (by rw [hx]) (by rw [hx])
        refine V.kn [5, 4, 3, 2, 0, 1] [(5, .int ((nI a) + (nI 1))), (4, .int (nI a)), (3, .int x3), (2, .int x2), (0, .ref 0), (1, .int (nI j))] [] (pX c c k r tr kr rd ft tg tc lw kl ik ri2 s0 s1 s2 s3 (nt, n, cd, en, nm2, sk2)) rfl rfl rfl ?_
        exact inner (7 - a) 0 _ _ _ _ _ _ (by omega) (nI_1 a) h3 h2
    refine V.kn [4, 3, 2, 0, 1] [(4, .int (nI 0)), (3, .int (-1 : Int32)), (2, .int vv1), (0, .ref 0), (1, .int (nI j))] [] (pX c c k r tr kr rd ft tg tc lw kl ik ri1 s0 s1 s2 s3 (nt, n, cd, en, nm1, sk1)) rfl rfl rfl ?_
    exact loop 8 0 _ _ _ _ _ _ rfl rfl rfl hv0.symm
def T6_heaviestBut : zT := fun args hs Q => ∃ (c d k : zCart) (r tr kr : zRow) (rd : zRd) (ft : Nat) (tg : Nat → Option Nat) (tc lw kl ik : Int32) (ri : zRi) (s0 s1 s2 s3 : zSh) (tx : zTx) (u : Nat), u < 256 ∧ loN0 (loC c) ∧ (∃ b, hvF (loC c) u 8 = some b) ∧ args = [.ref 0, .int (nI u)] ∧ hs = pX c d k r tr kr rd ft tg tc lw kl ik ri s0 s1 s2 s3 tx ∧ ∀ b, hvF (loC c) u 8 = some b → Q (some (.int (nI b))) hs
set_option maxHeartbeats 4000000 in
theorem c6_heaviestBut (l : Launch) : Ct l mX6_heaviestBut false 2 0 0 T6_heaviestBut := by
  refine Ct.intro mX6_heaviestBut_ok ?_
  rintro args hs Q ⟨c, d, k, r, tr, kr, rd, ft, tg, tc, lw, kl, ik, ri, s0, s1, s2, s3, tx, u, hu, hlo, hex, rfl, rfl, h⟩
  refine ⟨Nat.le_of_ble_eq_true rfl, ?_⟩
  obtain ⟨S, hS⟩ : ∃ S, pX c d k r tr kr rd ft tg tc lw kl ik ri s0 s1 s2 s3 tx = S := ⟨_, rfl⟩
  refine V.s0 hS ?_
  have loop : ∀ (m k2 : Nat) (x4 x3 x2 : Int32), k2 + m = 8 → x4 = nI k2 → (hvF (loC c) u k2 = none → x3 = -1) → (∀ b, hvF (loC c) u k2 = some b → x2 = nI b ∧ x3 = loC c b) → V l mX6_heaviestBut false S (zrm 2 0 0) (zFm false S Q 0 0) 0 0 7 [(4, .int x4), (3, .int x3), (2, .int x2), (0, .ref 0), (1, .int (nI u))] [] (pX c d k r tr kr rd ft tg tc lw kl ik ri s0 s1 s2 s3 tx) := by
    intro m
    induction m with
    | zero =>
      intro k2 x4 x3 x2 hk h4 hN hS2
      refine V.g2 60 [7, 51] mX6_heaviestBut_ok rfl ?_
      refine pk_le 8 k2 (fun e1 => ?_) (fun e1 => absurd e1 (by omega)) rfl h4
      have ek : k2 = 8 := by omega
      subst ek
      exact ⟨_, zsim_rfl _, (by subst hS; obtain ⟨b, hb⟩ := hex; rw [(hS2 b hb).1]; exact h b hb)⟩
    | succ m ih =>
      intro k2 x4 x3 x2 hk h4 hN hS2
      refine V.g2 60 [7, 51] mX6_heaviestBut_ok rfl ?_
      refine pk_le 8 k2 (fun e1 => absurd e1 (by omega)) (fun e1 => ?_) rfl h4
      subst h4
      have hbt := bt_s u hu k2 (by omega)
      have t51 : ∀ (y3 y2 : Int32), ((hvF (loC c) u (k2 + 1) = none → y3 = -1)) → ((∀ b, hvF (loC c) u (k2 + 1) = some b → y2 = nI b ∧ y3 = loC c b)) → V l mX6_heaviestBut false S (zrm 2 0 0) (zFm false S Q 0 0) 0 0 51 [(4, .int (nI k2)), (3, .int y3), (2, .int y2), (0, .ref 0), (1, .int (nI u))] [] (pX c d k r tr kr rd ft tg tc lw kl ik ri s0 s1 s2 s3 tx) := by
        intro y3 y2 g1 g2
        refine V.g2 60 [7, 51] mX6_heaviestBut_ok rfl ?_
        refine V.kn [4, 3, 2, 0, 1] [(4, .int ((nI k2) + zi 1)), (3, .int y3), (2, .int y2), (0, .ref 0), (1, .int (nI u))] [] (pX c d k r tr kr rd ft tg tc lw kl ik ri s0 s1 s2 s3 tx) rfl rfl rfl ?_
        exact ih (k2 + 1) _ _ _ (by omega) (ninc rfl) g1 g2
      refine And.intro (fun (e2 : ¬ (((nI u) >>> ((nI k2) &&& 31)) &&& (nI 1)) = (0 : Int32)) => ?_) (fun (e2 : (((nI u) >>> ((nI k2) &&& 31)) &&& (nI 1)) = (0 : Int32)) => ?_)
      · have hb1 : ¬ u / 2 ^ k2 % 2 = 0 := fun z => e2 (by rw [hbt, z]; rfl)
        refine V.kn [4, 3, 2, 0, 1] [(4, .int (nI k2)), (3, .int x3), (2, .int x2), (0, .ref 0), (1, .int (nI u))] [] (pX c d k r tr kr rd ft tg tc lw kl ik ri s0 s1 s2 s3 tx) rfl rfl rfl ?_
        exact t51 _ _ (by rw [hvF_x hb1]; exact hN) (by rw [hvF_x hb1]; exact hS2)
      · have hb1 : u / 2 ^ k2 % 2 = 0 := by
          rw [hbt] at e2
          exact (nI_eq (by omega) (by omega)).mp e2
        refine ⟨k2, by omega, rfl, rfl, ?_⟩
        refine And.intro (fun (e3 : ((loC c) k2) ≤ x3) => ?_) (fun (e3 : ¬ ((loC c) k2) ≤ x3) => ?_)
        · refine V.kn [4, 3, 2, 0, 1] [(4, .int (nI k2)), (3, .int x3), (2, .int x2), (0, .ref 0), (1, .int (nI u))] [] (pX c d k r tr kr rd ft tg tc lw kl ik ri s0 s1 s2 s3 tx) rfl rfl rfl ?_
          cases hq : hvF (loC c) u k2 with
          | none => exact absurd e3 (by rw [hN hq]; intro z; exact hlo k2 (by omega) (Int32.lt_of_le_of_lt z (by decide)))
          | some b =>
            have hx : hvF (loC c) u (k2 + 1) = some b := hvF_l hq (by rw [← (hS2 b hq).2]; exact Int32.not_lt.mpr e3)
            exact t51 _ _ (by rw [hx]; exact fun z => by cases z) (by rw [hx]; exact fun b2 z => by cases z; exact hS2 b hq)
        · refine ⟨k2, by omega, rfl, rfl, ?_⟩
          refine V.kn [4, 3, 2, 0, 1] [(4, .int (nI k2)), (3, .int ((loC c) k2)), (2, .int (nI k2)), (0, .ref 0), (1, .int (nI u))] [] (pX c d k r tr kr rd ft tg tc lw kl ik ri s0 s1 s2 s3 tx) rfl rfl rfl ?_
          have hx : hvF (loC c) u (k2 + 1) = some k2 := by
            cases hq : hvF (loC c) u k2 with
            | none => exact hvF_n hb1 hq
            | some b => exact hvF_g hb1 hq (by rw [← (hS2 b hq).2]; exact Int32.not_le.mp e3)
          exact t51 _ _ (by rw [hx]; exact fun z => by cases z) (by rw [hx]; exact fun b2 z => by cases z; exact ⟨rfl, rfl⟩)
  refine V.g2 60 [7, 51] mX6_heaviestBut_ok rfl ?_
  refine V.kn [4, 3, 2, 0, 1] [(4, .int (nI 0)), (3, .int (-1 : Int32)), (2, .int (nI 0)), (0, .ref 0), (1, .int (nI u))] [] (pX c d k r tr kr rd ft tg tc lw kl ik ri s0 s1 s2 s3 tx) rfl rfl rfl ?_
  exact loop 8 0 _ _ _ rfl rfl (fun _ => rfl) (fun _ z => by cases z)
