def T6_loadsBy : zT := fun args hs Q => ∃ (c d k : zCart) (r tr kr : zRow) (rd : zRd) (ft : Nat) (tg : Nat → Option Nat) (tc lw kl ik : Int32) (ri : zRi) (s0 s1 s2 s3 : zSh) (tx : zTx) (x y w z : Int32), (∀ s, s < 4 → ∃ n, n ≤ 40 ∧ (shW s0 s1 s2 s3 s).2.1 = nI n) ∧ args = [.ref 0, .int x, .int y, .int w, .int z] ∧ hs = pX c d k r tr kr rd ft tg tc lw kl ik ri s0 s1 s2 s3 tx ∧ ((wiB x 3 && wiB y 2 && wiB z 20) = false → Q (some (.int (-2))) hs) ∧ (∀ s n N, s < 4 → x = nI s → n ≤ 40 → (shW s0 s1 s2 s3 s).2.1 = nI n → N ≤ 20 → z = nI N → wiB y 2 = true → ((shW s0 s1 s2 s3 s).1 = -1 → Q (some (.int (-11))) hs) ∧ (¬ (shW s0 s1 s2 s3 s).1 = -1 → ¬ (shW s0 s1 s2 s3 s).1 = y → Q (some (.int (-13))) hs) ∧ (¬ (shW s0 s1 s2 s3 s).1 = -1 → (shW s0 s1 s2 s3 s).1 = y → (N = 0 → Q (some (.int (nI 0))) hs) ∧ (0 < N → w < 0 → Q (some (.int (-12))) hs) ∧ (∀ f, f < 2 ^ 31 → w = nI f → (∀ i, i < N → (i = 0 ∨ f + 2 * i ≤ n) → ¬ f + 2 * i + 2 ≤ n → Q (some (.int (-12))) (pX ((kdC c), (moC c), (kiC c), (liA (shW s0 s1 s2 s3 s).2.2 f i (loC c, 0)).1, (haC c), (wiC c), (paC c)) d k r tr kr rd ft tg tc lw kl ik ri s0 s1 s2 s3 tx)) ∧ (f + 2 * N ≤ n → Q (some (.int (nI (liA (shW s0 s1 s2 s3 s).2.2 f N (loC c, 0)).2))) (pX ((kdC c), (moC c), (kiC c), (liA (shW s0 s1 s2 s3 s).2.2 f N (loC c, 0)).1, (haC c), (wiC c), (paC c)) d k r tr kr rd ft tg tc lw kl ik ri s0 s1 s2 s3 tx)))))
set_option maxHeartbeats 4000000 in
theorem c6_loadsBy (l : Launch) : Ct l mX6_loadsBy false 4 0 0 T6_loadsBy := by
  refine Ct.intro mX6_loadsBy_ok ?_
  rintro args hs Q ⟨c, d, k, r, tr, kr, rd, ft, tg, tc, lw, kl, ik, ri, s0, s1, s2, s3, tx, x, y, w, z, hsh, rfl, rfl, h0, h1⟩
  refine ⟨Nat.le_of_ble_eq_true rfl, ?_⟩
  refine V.g2 60 [27, 36, 68, 153] mX6_loadsBy_ok rfl ?_
  refine V.cS0 mX6_loadsBy_ok rfl lX6_278 (ct_isSheet l) rfl [.int x] [] rfl rfl rfl (some (.int (bI (wiB x 3)))) ⟨_, rfl, rfl, rfl⟩ ?_
  cases hB : wiB x 3 with
  | false =>
    refine V.nm [(0, .ref 0), (1, .int x), (2, .int y), (3, .int w), (4, .int z)] [.int (bI false)] (pX c d k r tr kr rd ft tg tc lw kl ik ri s0 s1 s2 s3 tx) rfl rfl rfl ?_
    refine V.g2 60 [27, 36, 68, 153] mX6_loadsBy_ok rfl ?_
    refine And.intro (fun _ => ?_) (fun e => absurd rfl e)
    refine V.g2 60 [27, 36, 68, 153] mX6_loadsBy_ok rfl ?_
    exact ⟨_, zsim_rfl _, h0 (by rw [hB]; rfl)⟩
  | true =>
    refine V.nm [(0, .ref 0), (1, .int x), (2, .int y), (3, .int w), (4, .int z)] [.int (bI true)] (pX c d k r tr kr rd ft tg tc lw kl ik ri s0 s1 s2 s3 tx) rfl rfl rfl ?_
    refine V.g2 60 [27, 36, 68, 153] mX6_loadsBy_ok rfl ?_
    refine And.intro (fun e => absurd e (by decide)) (fun _ => ?_)
    refine V.cS0 mX6_loadsBy_ok rfl lX6_114 (ct_within l) rfl [.int y, .int (nI 0), .int (nI 2)] [] rfl rfl rfl (some (.int (bI (wiB y 2)))) (T_within_use rfl) ?_
    cases hC : (wiB y 2) with
    | false =>
      refine V.nm [(0, .ref 0), (1, .int x), (2, .int y), (3, .int w), (4, .int z)] [.int (bI false)] (pX c d k r tr kr rd ft tg tc lw kl ik ri s0 s1 s2 s3 tx) rfl rfl rfl ?_
      refine V.g2 60 [27, 36, 68, 153] mX6_loadsBy_ok rfl ?_
      refine And.intro (fun _ => ?_) (fun e => absurd rfl e)
      refine V.g2 60 [27, 36, 68, 153] mX6_loadsBy_ok rfl ?_
      exact ⟨_, zsim_rfl _, h0 (by rw [hB, hC]; rfl)⟩
    | true =>
      refine V.nm [(0, .ref 0), (1, .int x), (2, .int y), (3, .int w), (4, .int z)] [.int (bI true)] (pX c d k r tr kr rd ft tg tc lw kl ik ri s0 s1 s2 s3 tx) rfl rfl rfl ?_
      refine V.g2 60 [27, 36, 68, 153] mX6_loadsBy_ok rfl ?_
      refine And.intro (fun e => absurd e (by decide)) (fun _ => ?_)
      refine V.cS0 mX6_loadsBy_ok rfl lX6_114 (ct_within l) rfl [.int z, .int (nI 0), .int (nI 20)] [] rfl rfl rfl (some (.int (bI (wiB z 20)))) (T_within_use rfl) ?_
      cases hD : (wiB z 20) with
      | false =>
        refine V.nm [(0, .ref 0), (1, .int x), (2, .int y), (3, .int w), (4, .int z)] [.int (bI false)] (pX c d k r tr kr rd ft tg tc lw kl ik ri s0 s1 s2 s3 tx) rfl rfl rfl ?_
        refine V.g2 60 [27, 36, 68, 153] mX6_loadsBy_ok rfl ?_
        refine And.intro (fun e => absurd rfl e) (fun _ => ?_)
        refine V.g2 60 [27, 36, 68, 153] mX6_loadsBy_ok rfl ?_
        exact ⟨_, zsim_rfl _, h0 (by rw [hB, hC, hD]; rfl)⟩
      | true =>
        refine V.nm [(0, .ref 0), (1, .int x), (2, .int y), (3, .int w), (4, .int z)] [.int (bI true)] (pX c d k r tr kr rd ft tg tc lw kl ik ri s0 s1 s2 s3 tx) rfl rfl rfl ?_
        obtain ⟨s, hs4, rfl⟩ := wiB_t hB (by omega)
        obtain ⟨n, hn40, hsz⟩ := hsh s hs4
        obtain ⟨N, hN, rfl⟩ := wiB_t hD (by omega)
        obtain ⟨g1, g2, g3⟩ := h1 s n N hs4 rfl hn40 hsz (by omega) rfl hC
        clear h0 h1 hB hC hD hsh
        refine V.nm [(0, .ref 0), (1, .int (nI s)), (2, .int y), (3, .int w), (4, .int (nI N))] [.int (bI true)] (pX c d k r tr kr rd ft tg tc lw kl ik ri s0 s1 s2 s3 tx) rfl rfl rfl ?_
        rcases (show s = 0 ∨ s = 1 ∨ s = 2 ∨ s = 3 by omega) with rfl | rfl | rfl | rfl
        · refine V.nm [(0, .ref 0), (1, .int (nI 0)), (2, .int y), (3, .int w), (4, .int (nI N))] [.int (bI true)] (pX c d k r tr kr rd ft tg tc lw kl ik ri s0 s1 s2 s3 tx) rfl rfl rfl ?_
          have hsz : s0.2.1 = nI n := hsz
          refine V.g2 60 [27, 36, 68, 153] mX6_loadsBy_ok rfl ?_
          refine And.intro (fun _ => ?_) (fun e => absurd e (by decide))
          have er : zrf (zsg (nI 0).toNatClampNeg) = .ref 86 := by rw [pk_cl 0 rfl]; rfl
          refine And.intro (pk_in 0 4 (by omega) rfl) ?_
          refine V.nm [(0, .ref 0), (1, .int (nI 0)), (2, .int y), (3, .int w), (4, .int (nI N))] [.ref 86] (pX c d k r tr kr rd ft tg tc lw kl ik ri s0 s1 s2 s3 tx) rfl (by rw [← er] <;> rfl) rfl ?_
          refine V.g2 60 [27, 36, 68, 153] mX6_loadsBy_ok rfl ?_
          refine And.intro (fun (e1 : ¬ (s0.1) = (-1 : Int32)) => ?_) (fun (e1 : (s0.1) = (-1 : Int32)) => ?_)
          · refine And.intro (fun (e2 : (s0.1) = y) => ?_) (fun (e2 : ¬ (s0.1) = y) => ?_)
            · obtain ⟨g4, g5, g6⟩ := g3 e1 e2
              clear g1 g2 g3
              refine V.nm [(7, .int (nI 0)), (6, .int (nI 0)), (5, .ref 86), (0, .ref 0), (1, .int (nI 0)), (2, .int y), (3, .int w), (4, .int (nI N))] [] (pX c d k r tr kr rd ft tg tc lw kl ik ri s0 s1 s2 s3 tx) rfl rfl rfl ?_
              by_cases hw : w < 0
              · rcases Nat.eq_zero_or_pos N with hN0 | hN0
                · refine V.g2 60 [27, 36, 68, 153] mX6_loadsBy_ok rfl ?_
                  refine pk_le N 0 (fun e3 => ?_) (fun e3 => absurd e3 (by omega)) rfl rfl
                  exact ⟨_, zsim_rfl _, g4 hN0⟩
                · refine V.g2 60 [27, 36, 68, 153] mX6_loadsBy_ok rfl ?_
                  refine pk_le N 0 (fun e3 => absurd e3 (by omega)) (fun e3 => ?_) rfl rfl
                  have hx8 : (w + ((nI 2) * (nI 0))) = w := by rw [show nI 2 * nI 0 = 0 from rfl, Int32.add_zero]
                  refine V.cV1P mX6_loadsBy_ok rfl lX6_345 (ct_has l) rfl 56 rfl [43, 44] [none, none, none, none, none, none, none, none, none, none, none, none, none, none, none, none, none, none, none, none, none, none, none, none, none, none, none, none, none, none, none, none, none, none, none, none, none, none, none, none, none, none, none, some 0, some 1, none, none, none, none, none, none, none, none, none, none, none] (by decide +kernel) (pSheet 0 (s0.1) (s0.2.1) (s0.2.2)) [.ref 0, .int (w + ((nI 2) * (nI 0))), .int (nI 2)] [] rfl 0 4 rfl rfl rfl rfl rfl rfl rfl rfl (some (.int (bI (hasF s0.2.1 (w + ((nI 2) * (nI 0))) (nI 2))))) (pSheet 0 (s0.1) (s0.2.1) (s0.2.2)) ⟨s0.1, s0.2.1, (w + ((nI 2) * (nI 0))), nI 2, s0.2.2, rfl, rfl, rfl, rfl⟩ rfl (pX c d k r tr kr rd ft tg tc lw kl ik ri s0 s1 s2 s3 tx) [.int (bI (hasF s0.2.1 (w + ((nI 2) * (nI 0))) (nI 2)))] rfl rfl ?_
                  cases hH : (hasF s0.2.1 (w + ((nI 2) * (nI 0))) (nI 2)) with
                  | false =>
                    refine V.nm [(8, .int (w + ((nI 2) * (nI 0)))), (7, .int (nI 0)), (6, .int (nI 0)), (5, .ref 86), (0, .ref 0), (1, .int (nI 0)), (2, .int y), (3, .int w), (4, .int (nI N))] [.int (bI false)] (pX c d k r tr kr rd ft tg tc lw kl ik ri s0 s1 s2 s3 tx) rfl rfl rfl ?_
                    rw [hsz] at hH
                    refine V.g2 60 [27, 36, 68, 153] mX6_loadsBy_ok rfl ?_
                    refine And.intro (fun e => absurd rfl e) (fun _ => ?_)
                    exact ⟨_, zsim_rfl _, g5 hN0 hw⟩
                  | true =>
                    refine V.nm [(8, .int (w + ((nI 2) * (nI 0)))), (7, .int (nI 0)), (6, .int (nI 0)), (5, .ref 86), (0, .ref 0), (1, .int (nI 0)), (2, .int y), (3, .int w), (4, .int (nI N))] [.int (bI true)] (pX c d k r tr kr rd ft tg tc lw kl ik ri s0 s1 s2 s3 tx) rfl rfl rfl ?_
                    rw [hsz] at hH
                    rw [hx8, has_neg (Or.inl hw)] at hH
                    cases hH
              · obtain ⟨f, hf, rfl⟩ := nn_ex hw
                obtain ⟨k1, k2⟩ := g6 f hf rfl
                have k3 : (N = 0 ∨ f + 2 * N ≤ n) → Q (some (.int (nI (liA s0.2.2 f N (loC c, 0)).2))) (pX ((kdC c), (moC c), (kiC c), (liA s0.2.2 f N (loC c, 0)).1, (haC c), (wiC c), (paC c)) d k r tr kr rd ft tg tc lw kl ik ri s0 s1 s2 s3 tx) := by
                  intro hb
                  rcases hb with hb | hb
                  · have := g4 hb
                    subst hb
                    exact this
                  · exact k2 hb
                clear g4 g5 g6
                refine V.nm [(7, .int (nI 0)), (6, .int (nI 0)), (5, .ref 86), (0, .ref 0), (1, .int (nI 0)), (2, .int y), (3, .int (nI f)), (4, .int (nI N))] [] (pX c d k r tr kr rd ft tg tc lw kl ik ri s0 s1 s2 s3 tx) rfl rfl rfl ?_
                obtain ⟨S, hS⟩ : ∃ S, pX c d k r tr kr rd ft tg tc lw kl ik ri s0 s1 s2 s3 tx = S := ⟨_, rfl⟩
                refine V.s0 hS ?_
                have loop : ∀ (m i : Nat) (x7 x6 : Int32) (lo2 : fI), i + m = N → x7 = nI i → x6 = nI (liA s0.2.2 f i (loC c, 0)).2 → lo2 = (liA s0.2.2 f i (loC c, 0)).1 → (i = 0 ∨ f + 2 * i ≤ n) → V l mX6_loadsBy false S (zrm 4 0 0) (zFm false S Q 0 0) 0 0 68 [(7, .int x7), (6, .int x6), (5, .ref 86), (0, .ref 0), (1, .int (nI 0)), (2, .int y), (3, .int (nI f)), (4, .int (nI N))] [] (pX ((kdC c), (moC c), (kiC c), lo2, (haC c), (wiC c), (paC c)) d k r tr kr rd ft tg tc lw kl ik ri s0 s1 s2 s3 tx) := by
                  intro m
                  induction m with
                  | zero =>
                    intro i x7 x6 lo2 hi h7 h6 hlo hb
                    refine V.g2 60 [27, 36, 68, 153] mX6_loadsBy_ok rfl ?_
                    refine pk_le N i (fun e3 => ?_) (fun e3 => absurd e3 (by omega)) rfl h7
                    have ei : N = i := by omega
                    subst ei
                    subst hlo
                    subst h6
                    exact ⟨_, zsim_rfl _, (k3 hb)⟩
                  | succ m ih =>
                    intro i x7 x6 lo2 hi h7 h6 hlo hb
                    refine V.g2 60 [27, 36, 68, 153] mX6_loadsBy_ok rfl ?_
                    refine pk_le N i (fun e3 => absurd e3 (by omega)) (fun e3 => ?_) rfl h7
                    subst h7
                    refine V.nm [(8, .int ((nI f) + ((nI 2) * (nI i)))), (7, .int (nI i)), (6, .int x6), (5, .ref 86), (0, .ref 0), (1, .int (nI 0)), (2, .int y), (3, .int (nI f)), (4, .int (nI N))] [.int (nI 2), .int ((nI f) + ((nI 2) * (nI i))), .ref 86] (pX ((kdC c), (moC c), (kiC c), lo2, (haC c), (wiC c), (paC c)) d k r tr kr rd ft tg tc lw kl ik ri s0 s1 s2 s3 tx) rfl rfl rfl ?_
                    have hx8 : ((nI f) + ((nI 2) * (nI i))) = nI (f + 2 * i) := nadd rfl (nmul rfl rfl)
                    rw [hx8]
                    refine V.nm [(8, .int (nI (f + 2 * i))), (7, .int (nI i)), (6, .int x6), (5, .ref 86), (0, .ref 0), (1, .int (nI 0)), (2, .int y), (3, .int (nI f)), (4, .int (nI N))] [.int (nI 2), .int (nI (f + 2 * i)), .ref 86] (pX ((kdC c), (moC c), (kiC c), lo2, (haC c), (wiC c), (paC c)) d k r tr kr rd ft tg tc lw kl ik ri s0 s1 s2 s3 tx) rfl rfl rfl ?_
                    refine V.cV1P mX6_loadsBy_ok rfl lX6_345 (ct_has l) rfl 56 rfl [43, 44] [none, none, none, none, none, none, none, none, none, none, none, none, none, none, none, none, none, none, none, none, none, none, none, none, none, none, none, none, none, none, none, none, none, none, none, none, none, none, none, none, none, none, none, some 0, some 1, none, none, none, none, none, none, none, none, none, none, none] (by decide +kernel) (pSheet 0 (s0.1) (s0.2.1) (s0.2.2)) [.ref 0, .int (nI (f + 2 * i)), .int (nI 2)] [] rfl 0 4 rfl rfl rfl rfl rfl rfl rfl rfl (some (.int (bI (hasF s0.2.1 (nI (f + 2 * i)) (nI 2))))) (pSheet 0 (s0.1) (s0.2.1) (s0.2.2)) ⟨s0.1, s0.2.1, (nI (f + 2 * i)), nI 2, s0.2.2, rfl, rfl, rfl, rfl⟩ rfl (pX ((kdC c), (moC c), (kiC c), lo2, (haC c), (wiC c), (paC c)) d k r tr kr rd ft tg tc lw kl ik ri s0 s1 s2 s3 tx) [.int (bI (hasF s0.2.1 (nI (f + 2 * i)) (nI 2)))] rfl rfl ?_
                    cases hH : (hasF s0.2.1 (nI (f + 2 * i)) (nI 2)) with
                    | false =>
                      refine V.nm [(8, .int (nI (f + 2 * i))), (7, .int (nI i)), (6, .int x6), (5, .ref 86), (0, .ref 0), (1, .int (nI 0)), (2, .int y), (3, .int (nI f)), (4, .int (nI N))] [.int (bI false)] (pX ((kdC c), (moC c), (kiC c), lo2, (haC c), (wiC c), (paC c)) d k r tr kr rd ft tg tc lw kl ik ri s0 s1 s2 s3 tx) rfl rfl rfl ?_
                      rw [hsz] at hH
                      rw [has_nn hn40 (by omega) (by omega)] at hH
                      subst hlo
                      refine V.g2 60 [27, 36, 68, 153] mX6_loadsBy_ok rfl ?_
                      refine And.intro (fun e => absurd rfl e) (fun _ => ?_)
                      exact ⟨_, zsim_rfl _, (by subst hS; exact k1 i (by omega) hb (of_decide_eq_false hH))⟩
                    | true =>
                      refine V.nm [(8, .int (nI (f + 2 * i))), (7, .int (nI i)), (6, .int x6), (5, .ref 86), (0, .ref 0), (1, .int (nI 0)), (2, .int y), (3, .int (nI f)), (4, .int (nI N))] [.int (bI true)] (pX ((kdC c), (moC c), (kiC c), lo2, (haC c), (wiC c), (paC c)) d k r tr kr rd ft tg tc lw kl ik ri s0 s1 s2 s3 tx) rfl rfl rfl ?_
                      rw [hsz] at hH
                      rw [has_nn hn40 (by omega) (by omega)] at hH
                      have hin := of_decide_eq_true hH
                      refine V.g2 60 [27, 36, 68, 153] mX6_loadsBy_ok rfl ?_
                      refine And.intro (fun _ => ?_) (fun e => absurd e (by decide))
                      refine ⟨(f + 2 * i), by omega, rfl, rfl, ?_⟩
                      refine ⟨((f + 2 * i) + 1), by omega, (nadd rfl rfl), rfl, ?_⟩
                      refine V.nm [(10, .int ((s0.2.2) ((f + 2 * i) + 1))), (9, .int ((s0.2.2) (f + 2 * i))), (8, .int (nI (f + 2 * i))), (7, .int (nI i)), (6, .int x6), (5, .ref 86), (0, .ref 0), (1, .int (nI 0)), (2, .int y), (3, .int (nI f)), (4, .int (nI N))] [.int ((s0.2.2) (f + 2 * i))] (pX ((kdC c), (moC c), (kiC c), lo2, (haC c), (wiC c), (paC c)) d k r tr kr rd ft tg tc lw kl ik ri s0 s1 s2 s3 tx) rfl rfl rfl ?_
                      obtain ⟨p9, hp9⟩ : ∃ p9, p9 = ((s0.2.2) (f + 2 * i)) := ⟨_, rfl⟩
                      obtain ⟨l9, hl9⟩ : ∃ l9, l9 = ((s0.2.2) ((f + 2 * i) + 1)) := ⟨_, rfl⟩
                      rw [← hp9, ← hl9]
                      refine V.nm [(10, .int l9), (9, .int p9), (8, .int (nI (f + 2 * i))), (7, .int (nI i)), (6, .int x6), (5, .ref 86), (0, .ref 0), (1, .int (nI 0)), (2, .int y), (3, .int (nI f)), (4, .int (nI N))] [.int p9] (pX ((kdC c), (moC c), (kiC c), lo2, (haC c), (wiC c), (paC c)) d k r tr kr rd ft tg tc lw kl ik ri s0 s1 s2 s3 tx) rfl rfl rfl ?_
                      have t153 : ∀ (y6 : Int32) (lo3 : fI), y6 = nI (liA s0.2.2 f (i + 1) (loC c, 0)).2 → lo3 = (liA s0.2.2 f (i + 1) (loC c, 0)).1 → V l mX6_loadsBy false S (zrm 4 0 0) (zFm false S Q 0 0) 0 0 153 [(7, .int (nI i)), (6, .int y6), (5, .ref 86), (0, .ref 0), (1, .int (nI 0)), (2, .int y), (3, .int (nI f)), (4, .int (nI N))] [] (pX ((kdC c), (moC c), (kiC c), lo3, (haC c), (wiC c), (paC c)) d k r tr kr rd ft tg tc lw kl ik ri s0 s1 s2 s3 tx) := by
                        intro y6 lo3 q6 q3
                        refine V.g2 60 [27, 36, 68, 153] mX6_loadsBy_ok rfl ?_
                        refine V.kn [7, 6, 5, 0, 1, 2, 3, 4] [(7, .int ((nI i) + zi 1)), (6, .int y6), (5, .ref 86), (0, .ref 0), (1, .int (nI 0)), (2, .int y), (3, .int (nI f)), (4, .int (nI N))] [] (pX ((kdC c), (moC c), (kiC c), lo3, (haC c), (wiC c), (paC c)) d k r tr kr rd ft tg tc lw kl ik ri s0 s1 s2 s3 tx) rfl rfl rfl ?_
                        exact ih (i + 1) _ _ _ (by omega) (ninc rfl) q6 q3 (Or.inr (by omega))
                      refine V.cS0 mX6_loadsBy_ok rfl lX6_178 (ct_isPlace l) rfl [.int p9] [] rfl rfl rfl (some (.int (bI (wiB p9 7)))) ⟨_, rfl, rfl, rfl⟩ ?_
                      cases hG : wiB p9 7 with
                      | false =>
                        refine V.nm [(10, .int l9), (9, .int p9), (8, .int (nI (f + 2 * i))), (7, .int (nI i)), (6, .int x6), (5, .ref 86), (0, .ref 0), (1, .int (nI 0)), (2, .int y), (3, .int (nI f)), (4, .int (nI N))] [.int (bI false)] (pX ((kdC c), (moC c), (kiC c), lo2, (haC c), (wiC c), (paC c)) d k r tr kr rd ft tg tc lw kl ik ri s0 s1 s2 s3 tx) rfl rfl rfl ?_
                        refine V.g2 60 [27, 36, 68, 153] mX6_loadsBy_ok rfl ?_
                        refine And.intro (fun _ => ?_) (fun e => absurd rfl e)
                        have hx := liA_f (ce := s0.2.2) (f := f) (m := i) (s := (loC c, 0)) (Or.inl (by rw [hp9] at hG; exact hG))
                        refine V.kn [7, 6, 5, 0, 1, 2, 3, 4] [(7, .int (nI i)), (6, .int x6), (5, .ref 86), (0, .ref 0), (1, .int (nI 0)), (2, .int y), (3, .int (nI f)), (4, .int (nI N))] [] (pX ((kdC c), (moC c), (kiC c), lo2, (haC c), (wiC c), (paC c)) d k r tr kr rd ft tg tc lw kl ik ri s0 s1 s2 s3 tx) rfl rfl rfl ?_
                        exact t153 _ _ (by rw [hx]; exact h6) (by rw [hx]; exact hlo)
                      | true =>
                        refine V.nm [(10, .int l9), (9, .int p9), (8, .int (nI (f + 2 * i))), (7, .int (nI i)), (6, .int x6), (5, .ref 86), (0, .ref 0), (1, .int (nI 0)), (2, .int y), (3, .int (nI f)), (4, .int (nI N))] [.int (bI true)] (pX ((kdC c), (moC c), (kiC c), lo2, (haC c), (wiC c), (paC c)) d k r tr kr rd ft tg tc lw kl ik ri s0 s1 s2 s3 tx) rfl rfl rfl ?_
                        refine V.g2 60 [27, 36, 68, 153] mX6_loadsBy_ok rfl ?_
                        refine And.intro (fun e => absurd e (by decide)) (fun _ => ?_)
                        refine V.cS0 mX6_loadsBy_ok rfl lX6_114 (ct_within l) rfl [.int l9, .int (nI 0), .int (nI 40)] [] rfl rfl rfl (some (.int (bI (wiB l9 40)))) (T_within_use rfl) ?_
                        cases hH : (wiB l9 40) with
                        | false =>
                          refine V.nm [(10, .int l9), (9, .int p9), (8, .int (nI (f + 2 * i))), (7, .int (nI i)), (6, .int x6), (5, .ref 86), (0, .ref 0), (1, .int (nI 0)), (2, .int y), (3, .int (nI f)), (4, .int (nI N))] [.int (bI false)] (pX ((kdC c), (moC c), (kiC c), lo2, (haC c), (wiC c), (paC c)) d k r tr kr rd ft tg tc lw kl ik ri s0 s1 s2 s3 tx) rfl rfl rfl ?_
                          refine V.g2 60 [27, 36, 68, 153] mX6_loadsBy_ok rfl ?_
                          refine And.intro (fun _ => ?_) (fun e => absurd rfl e)
                          have hx := liA_f (ce := s0.2.2) (f := f) (m := i) (s := (loC c, 0)) (Or.inr (by rw [hl9] at hH; exact hH))
                          refine V.kn [7, 6, 5, 0, 1, 2, 3, 4] [(7, .int (nI i)), (6, .int x6), (5, .ref 86), (0, .ref 0), (1, .int (nI 0)), (2, .int y), (3, .int (nI f)), (4, .int (nI N))] [] (pX ((kdC c), (moC c), (kiC c), lo2, (haC c), (wiC c), (paC c)) d k r tr kr rd ft tg tc lw kl ik ri s0 s1 s2 s3 tx) rfl rfl rfl ?_
                          exact t153 _ _ (by rw [hx]; exact h6) (by rw [hx]; exact hlo)
                        | true =>
                          refine V.nm [(10, .int l9), (9, .int p9), (8, .int (nI (f + 2 * i))), (7, .int (nI i)), (6, .int x6), (5, .ref 86), (0, .ref 0), (1, .int (nI 0)), (2, .int y), (3, .int (nI f)), (4, .int (nI N))] [.int (bI true)] (pX ((kdC c), (moC c), (kiC c), lo2, (haC c), (wiC c), (paC c)) d k r tr kr rd ft tg tc lw kl ik ri s0 s1 s2 s3 tx) rfl rfl rfl ?_
                          have hx := liA_t (ce := s0.2.2) (f := f) (m := i) (s := (loC c, 0)) (by rw [← hp9]; exact hG) (by rw [← hl9]; exact hH)
                          rw [← hp9, ← hl9] at hx
                          obtain ⟨q9, hq9, eq9⟩ := wiB_t hG (by omega)
                          have hcl : cl p9 = q9 := by rw [eq9]; exact nI_clamp (by omega)
                          rw [hcl] at hx
                          refine V.g2 60 [27, 36, 68, 153] mX6_loadsBy_ok rfl ?_
                          refine And.intro (fun e => absurd e (by decide)) (fun _ => ?_)
                          refine ⟨q9, by omega, eq9, rfl, ?_⟩
                          refine V.kn [7, 6, 5, 0, 1, 2, 3, 4] [(7, .int (nI i)), (6, .int (x6 + zi 1)), (5, .ref 86), (0, .ref 0), (1, .int (nI 0)), (2, .int y), (3, .int (nI f)), (4, .int (nI N))] [] (pX ((kdC c), (moC c), (kiC c), (upd lo2 q9 l9), (haC c), (wiC c), (paC c)) d k r tr kr rd ft tg tc lw kl ik ri s0 s1 s2 s3 tx) rfl rfl rfl ?_
                          exact t153 _ _ (by rw [hx]; exact ninc h6) (by rw [hx, ← hlo])
                refine V.kn [7, 6, 5, 0, 1, 2, 3, 4] [(7, .int (nI 0)), (6, .int (nI 0)), (5, .ref 86), (0, .ref 0), (1, .int (nI 0)), (2, .int y), (3, .int (nI f)), (4, .int (nI N))] [] (pX c d k r tr kr rd ft tg tc lw kl ik ri s0 s1 s2 s3 tx) rfl rfl rfl ?_
                exact loop N 0 _ _ (loC c) (by omega) rfl rfl rfl (Or.inl rfl)
            · exact ⟨_, zsim_rfl _, g2 e1 e2⟩
          · exact ⟨_, zsim_rfl _, g1 e1⟩
        · refine V.nm [(0, .ref 0), (1, .int (nI 1)), (2, .int y), (3, .int w), (4, .int (nI N))] [.int (bI true)] (pX c d k r tr kr rd ft tg tc lw kl ik ri s0 s1 s2 s3 tx) rfl rfl rfl ?_
          have hsz : s1.2.1 = nI n := hsz
          refine V.g2 60 [27, 36, 68, 153] mX6_loadsBy_ok rfl ?_
          refine And.intro (fun _ => ?_) (fun e => absurd e (by decide))
          have er : zrf (zsg (nI 1).toNatClampNeg) = .ref 90 := by rw [pk_cl 1 rfl]; rfl
          refine And.intro (pk_in 1 4 (by omega) rfl) ?_
          refine V.nm [(0, .ref 0), (1, .int (nI 1)), (2, .int y), (3, .int w), (4, .int (nI N))] [.ref 90] (pX c d k r tr kr rd ft tg tc lw kl ik ri s0 s1 s2 s3 tx) rfl (by rw [← er] <;> rfl) rfl ?_
          refine V.g2 60 [27, 36, 68, 153] mX6_loadsBy_ok rfl ?_
          refine And.intro (fun (e1 : ¬ (s1.1) = (-1 : Int32)) => ?_) (fun (e1 : (s1.1) = (-1 : Int32)) => ?_)
          · refine And.intro (fun (e2 : (s1.1) = y) => ?_) (fun (e2 : ¬ (s1.1) = y) => ?_)
            · obtain ⟨g4, g5, g6⟩ := g3 e1 e2
              clear g1 g2 g3
              refine V.nm [(7, .int (nI 0)), (6, .int (nI 0)), (5, .ref 90), (0, .ref 0), (1, .int (nI 1)), (2, .int y), (3, .int w), (4, .int (nI N))] [] (pX c d k r tr kr rd ft tg tc lw kl ik ri s0 s1 s2 s3 tx) rfl rfl rfl ?_
              by_cases hw : w < 0
              · rcases Nat.eq_zero_or_pos N with hN0 | hN0
                · refine V.g2 60 [27, 36, 68, 153] mX6_loadsBy_ok rfl ?_
                  refine pk_le N 0 (fun e3 => ?_) (fun e3 => absurd e3 (by omega)) rfl rfl
                  exact ⟨_, zsim_rfl _, g4 hN0⟩
                · refine V.g2 60 [27, 36, 68, 153] mX6_loadsBy_ok rfl ?_
                  refine pk_le N 0 (fun e3 => absurd e3 (by omega)) (fun e3 => ?_) rfl rfl
                  have hx8 : (w + ((nI 2) * (nI 0))) = w := by rw [show nI 2 * nI 0 = 0 from rfl, Int32.add_zero]
                  refine V.cV1P mX6_loadsBy_ok rfl lX6_345 (ct_has l) rfl 56 rfl [45, 46] [none, none, none, none, none, none, none, none, none, none, none, none, none, none, none, none, none, none, none, none, none, none, none, none, none, none, none, none, none, none, none, none, none, none, none, none, none, none, none, none, none, none, none, none, none, some 0, some 1, none, none, none, none, none, none, none, none, none] (by decide +kernel) (pSheet 0 (s1.1) (s1.2.1) (s1.2.2)) [.ref 0, .int (w + ((nI 2) * (nI 0))), .int (nI 2)] [] rfl 0 4 rfl rfl rfl rfl rfl rfl rfl rfl (some (.int (bI (hasF s1.2.1 (w + ((nI 2) * (nI 0))) (nI 2))))) (pSheet 0 (s1.1) (s1.2.1) (s1.2.2)) ⟨s1.1, s1.2.1, (w + ((nI 2) * (nI 0))), nI 2, s1.2.2, rfl, rfl, rfl, rfl⟩ rfl (pX c d k r tr kr rd ft tg tc lw kl ik ri s0 s1 s2 s3 tx) [.int (bI (hasF s1.2.1 (w + ((nI 2) * (nI 0))) (nI 2)))] rfl rfl ?_
                  cases hH : (hasF s1.2.1 (w + ((nI 2) * (nI 0))) (nI 2)) with
                  | false =>
                    refine V.nm [(8, .int (w + ((nI 2) * (nI 0)))), (7, .int (nI 0)), (6, .int (nI 0)), (5, .ref 90), (0, .ref 0), (1, .int (nI 1)), (2, .int y), (3, .int w), (4, .int (nI N))] [.int (bI false)] (pX c d k r tr kr rd ft tg tc lw kl ik ri s0 s1 s2 s3 tx) rfl rfl rfl ?_
                    rw [hsz] at hH
                    refine V.g2 60 [27, 36, 68, 153] mX6_loadsBy_ok rfl ?_
                    refine And.intro (fun e => absurd rfl e) (fun _ => ?_)
                    exact ⟨_, zsim_rfl _, g5 hN0 hw⟩
                  | true =>
                    refine V.nm [(8, .int (w + ((nI 2) * (nI 0)))), (7, .int (nI 0)), (6, .int (nI 0)), (5, .ref 90), (0, .ref 0), (1, .int (nI 1)), (2, .int y), (3, .int w), (4, .int (nI N))] [.int (bI true)] (pX c d k r tr kr rd ft tg tc lw kl ik ri s0 s1 s2 s3 tx) rfl rfl rfl ?_
                    rw [hsz] at hH
                    rw [hx8, has_neg (Or.inl hw)] at hH
                    cases hH
              · obtain ⟨f, hf, rfl⟩ := nn_ex hw
                obtain ⟨k1, k2⟩ := g6 f hf rfl
                have k3 : (N = 0 ∨ f + 2 * N ≤ n) → Q (some (.int (nI (liA s1.2.2 f N (loC c, 0)).2))) (pX ((kdC c), (moC c), (kiC c), (liA s1.2.2 f N (loC c, 0)).1, (haC c), (wiC c), (paC c)) d k r tr kr rd ft tg tc lw kl ik ri s0 s1 s2 s3 tx) := by
                  intro hb
                  rcases hb with hb | hb
                  · have := g4 hb
                    subst hb
                    exact this
                  · exact k2 hb
                clear g4 g5 g6
                refine V.nm [(7, .int (nI 0)), (6, .int (nI 0)), (5, .ref 90), (0, .ref 0), (1, .int (nI 1)), (2, .int y), (3, .int (nI f)), (4, .int (nI N))] [] (pX c d k r tr kr rd ft tg tc lw kl ik ri s0 s1 s2 s3 tx) rfl rfl rfl ?_
                obtain ⟨S, hS⟩ : ∃ S, pX c d k r tr kr rd ft tg tc lw kl ik ri s0 s1 s2 s3 tx = S := ⟨_, rfl⟩
                refine V.s0 hS ?_
                have loop : ∀ (m i : Nat) (x7 x6 : Int32) (lo2 : fI), i + m = N → x7 = nI i → x6 = nI (liA s1.2.2 f i (loC c, 0)).2 → lo2 = (liA s1.2.2 f i (loC c, 0)).1 → (i = 0 ∨ f + 2 * i ≤ n) → V l mX6_loadsBy false S (zrm 4 0 0) (zFm false S Q 0 0) 0 0 68 [(7, .int x7), (6, .int x6), (5, .ref 90), (0, .ref 0), (1, .int (nI 1)), (2, .int y), (3, .int (nI f)), (4, .int (nI N))] [] (pX ((kdC c), (moC c), (kiC c), lo2, (haC c), (wiC c), (paC c)) d k r tr kr rd ft tg tc lw kl ik ri s0 s1 s2 s3 tx) := by
                  intro m
                  induction m with
                  | zero =>
                    intro i x7 x6 lo2 hi h7 h6 hlo hb
                    refine V.g2 60 [27, 36, 68, 153] mX6_loadsBy_ok rfl ?_
                    refine pk_le N i (fun e3 => ?_) (fun e3 => absurd e3 (by omega)) rfl h7
                    have ei : N = i := by omega
                    subst ei
                    subst hlo
                    subst h6
                    exact ⟨_, zsim_rfl _, (k3 hb)⟩
                  | succ m ih =>
                    intro i x7 x6 lo2 hi h7 h6 hlo hb
                    refine V.g2 60 [27, 36, 68, 153] mX6_loadsBy_ok rfl ?_
                    refine pk_le N i (fun e3 => absurd e3 (by omega)) (fun e3 => ?_) rfl h7
                    subst h7
                    refine V.nm [(8, .int ((nI f) + ((nI 2) * (nI i)))), (7, .int (nI i)), (6, .int x6), (5, .ref 90), (0, .ref 0), (1, .int (nI 1)), (2, .int y), (3, .int (nI f)), (4, .int (nI N))] [.int (nI 2), .int ((nI f) + ((nI 2) * (nI i))), .ref 90] (pX ((kdC c), (moC c), (kiC c), lo2, (haC c), (wiC c), (paC c)) d k r tr kr rd ft tg tc lw kl ik ri s0 s1 s2 s3 tx) rfl rfl rfl ?_
                    have hx8 : ((nI f) + ((nI 2) * (nI i))) = nI (f + 2 * i) := nadd rfl (nmul rfl rfl)
                    rw [hx8]
                    refine V.nm [(8, .int (nI (f + 2 * i))), (7, .int (nI i)), (6, .int x6), (5, .ref 90), (0, .ref 0), (1, .int (nI 1)), (2, .int y), (3, .int (nI f)), (4, .int (nI N))] [.int (nI 2), .int (nI (f + 2 * i)), .ref 90] (pX ((kdC c), (moC c), (kiC c), lo2, (haC c), (wiC c), (paC c)) d k r tr kr rd ft tg tc lw kl ik ri s0 s1 s2 s3 tx) rfl rfl rfl ?_
                    refine V.cV1P mX6_loadsBy_ok rfl lX6_345 (ct_has l) rfl 56 rfl [45, 46] [none, none, none, none, none, none, none, none, none, none, none, none, none, none, none, none, none, none, none, none, none, none, none, none, none, none, none, none, none, none, none, none, none, none, none, none, none, none, none, none, none, none, none, none, none, some 0, some 1, none, none, none, none, none, none, none, none, none] (by decide +kernel) (pSheet 0 (s1.1) (s1.2.1) (s1.2.2)) [.ref 0, .int (nI (f + 2 * i)), .int (nI 2)] [] rfl 0 4 rfl rfl rfl rfl rfl rfl rfl rfl (some (.int (bI (hasF s1.2.1 (nI (f + 2 * i)) (nI 2))))) (pSheet 0 (s1.1) (s1.2.1) (s1.2.2)) ⟨s1.1, s1.2.1, (nI (f + 2 * i)), nI 2, s1.2.2, rfl, rfl, rfl, rfl⟩ rfl (pX ((kdC c), (moC c), (kiC c), lo2, (haC c), (wiC c), (paC c)) d k r tr kr rd ft tg tc lw kl ik ri s0 s1 s2 s3 tx) [.int (bI (hasF s1.2.1 (nI (f + 2 * i)) (nI 2)))] rfl rfl ?_
                    cases hH : (hasF s1.2.1 (nI (f + 2 * i)) (nI 2)) with
                    | false =>
                      refine V.nm [(8, .int (nI (f + 2 * i))), (7, .int (nI i)), (6, .int x6), (5, .ref 90), (0, .ref 0), (1, .int (nI 1)), (2, .int y), (3, .int (nI f)), (4, .int (nI N))] [.int (bI false)] (pX ((kdC c), (moC c), (kiC c), lo2, (haC c), (wiC c), (paC c)) d k r tr kr rd ft tg tc lw kl ik ri s0 s1 s2 s3 tx) rfl rfl rfl ?_
                      rw [hsz] at hH
                      rw [has_nn hn40 (by omega) (by omega)] at hH
                      subst hlo
                      refine V.g2 60 [27, 36, 68, 153] mX6_loadsBy_ok rfl ?_
                      refine And.intro (fun e => absurd rfl e) (fun _ => ?_)
                      exact ⟨_, zsim_rfl _, (by subst hS; exact k1 i (by omega) hb (of_decide_eq_false hH))⟩
                    | true =>
                      refine V.nm [(8, .int (nI (f + 2 * i))), (7, .int (nI i)), (6, .int x6), (5, .ref 90), (0, .ref 0), (1, .int (nI 1)), (2, .int y), (3, .int (nI f)), (4, .int (nI N))] [.int (bI true)] (pX ((kdC c), (moC c), (kiC c), lo2, (haC c), (wiC c), (paC c)) d k r tr kr rd ft tg tc lw kl ik ri s0 s1 s2 s3 tx) rfl rfl rfl ?_
                      rw [hsz] at hH
                      rw [has_nn hn40 (by omega) (by omega)] at hH
                      have hin := of_decide_eq_true hH
                      refine V.g2 60 [27, 36, 68, 153] mX6_loadsBy_ok rfl ?_
                      refine And.intro (fun _ => ?_) (fun e => absurd e (by decide))
                      refine ⟨(f + 2 * i), by omega, rfl, rfl, ?_⟩
                      refine ⟨((f + 2 * i) + 1), by omega, (nadd rfl rfl), rfl, ?_⟩
                      refine V.nm [(10, .int ((s1.2.2) ((f + 2 * i) + 1))), (9, .int ((s1.2.2) (f + 2 * i))), (8, .int (nI (f + 2 * i))), (7, .int (nI i)), (6, .int x6), (5, .ref 90), (0, .ref 0), (1, .int (nI 1)), (2, .int y), (3, .int (nI f)), (4, .int (nI N))] [.int ((s1.2.2) (f + 2 * i))] (pX ((kdC c), (moC c), (kiC c), lo2, (haC c), (wiC c), (paC c)) d k r tr kr rd ft tg tc lw kl ik ri s0 s1 s2 s3 tx) rfl rfl rfl ?_
                      obtain ⟨p9, hp9⟩ : ∃ p9, p9 = ((s1.2.2) (f + 2 * i)) := ⟨_, rfl⟩
                      obtain ⟨l9, hl9⟩ : ∃ l9, l9 = ((s1.2.2) ((f + 2 * i) + 1)) := ⟨_, rfl⟩
                      rw [← hp9, ← hl9]
                      refine V.nm [(10, .int l9), (9, .int p9), (8, .int (nI (f + 2 * i))), (7, .int (nI i)), (6, .int x6), (5, .ref 90), (0, .ref 0), (1, .int (nI 1)), (2, .int y), (3, .int (nI f)), (4, .int (nI N))] [.int p9] (pX ((kdC c), (moC c), (kiC c), lo2, (haC c), (wiC c), (paC c)) d k r tr kr rd ft tg tc lw kl ik ri s0 s1 s2 s3 tx) rfl rfl rfl ?_
                      have t153 : ∀ (y6 : Int32) (lo3 : fI), y6 = nI (liA s1.2.2 f (i + 1) (loC c, 0)).2 → lo3 = (liA s1.2.2 f (i + 1) (loC c, 0)).1 → V l mX6_loadsBy false S (zrm 4 0 0) (zFm false S Q 0 0) 0 0 153 [(7, .int (nI i)), (6, .int y6), (5, .ref 90), (0, .ref 0), (1, .int (nI 1)), (2, .int y), (3, .int (nI f)), (4, .int (nI N))] [] (pX ((kdC c), (moC c), (kiC c), lo3, (haC c), (wiC c), (paC c)) d k r tr kr rd ft tg tc lw kl ik ri s0 s1 s2 s3 tx) := by
                        intro y6 lo3 q6 q3
                        refine V.g2 60 [27, 36, 68, 153] mX6_loadsBy_ok rfl ?_
                        refine V.kn [7, 6, 5, 0, 1, 2, 3, 4] [(7, .int ((nI i) + zi 1)), (6, .int y6), (5, .ref 90), (0, .ref 0), (1, .int (nI 1)), (2, .int y), (3, .int (nI f)), (4, .int (nI N))] [] (pX ((kdC c), (moC c), (kiC c), lo3, (haC c), (wiC c), (paC c)) d k r tr kr rd ft tg tc lw kl ik ri s0 s1 s2 s3 tx) rfl rfl rfl ?_
                        exact ih (i + 1) _ _ _ (by omega) (ninc rfl) q6 q3 (Or.inr (by omega))
                      refine V.cS0 mX6_loadsBy_ok rfl lX6_178 (ct_isPlace l) rfl [.int p9] [] rfl rfl rfl (some (.int (bI (wiB p9 7)))) ⟨_, rfl, rfl, rfl⟩ ?_
                      cases hG : wiB p9 7 with
                      | false =>
                        refine V.nm [(10, .int l9), (9, .int p9), (8, .int (nI (f + 2 * i))), (7, .int (nI i)), (6, .int x6), (5, .ref 90), (0, .ref 0), (1, .int (nI 1)), (2, .int y), (3, .int (nI f)), (4, .int (nI N))] [.int (bI false)] (pX ((kdC c), (moC c), (kiC c), lo2, (haC c), (wiC c), (paC c)) d k r tr kr rd ft tg tc lw kl ik ri s0 s1 s2 s3 tx) rfl rfl rfl ?_
                        refine V.g2 60 [27, 36, 68, 153] mX6_loadsBy_ok rfl ?_
                        refine And.intro (fun _ => ?_) (fun e => absurd rfl e)
                        have hx := liA_f (ce := s1.2.2) (f := f) (m := i) (s := (loC c, 0)) (Or.inl (by rw [hp9] at hG; exact hG))
                        refine V.kn [7, 6, 5, 0, 1, 2, 3, 4] [(7, .int (nI i)), (6, .int x6), (5, .ref 90), (0, .ref 0), (1, .int (nI 1)), (2, .int y), (3, .int (nI f)), (4, .int (nI N))] [] (pX ((kdC c), (moC c), (kiC c), lo2, (haC c), (wiC c), (paC c)) d k r tr kr rd ft tg tc lw kl ik ri s0 s1 s2 s3 tx) rfl rfl rfl ?_
                        exact t153 _ _ (by rw [hx]; exact h6) (by rw [hx]; exact hlo)
                      | true =>
                        refine V.nm [(10, .int l9), (9, .int p9), (8, .int (nI (f + 2 * i))), (7, .int (nI i)), (6, .int x6), (5, .ref 90), (0, .ref 0), (1, .int (nI 1)), (2, .int y), (3, .int (nI f)), (4, .int (nI N))] [.int (bI true)] (pX ((kdC c), (moC c), (kiC c), lo2, (haC c), (wiC c), (paC c)) d k r tr kr rd ft tg tc lw kl ik ri s0 s1 s2 s3 tx) rfl rfl rfl ?_
                        refine V.g2 60 [27, 36, 68, 153] mX6_loadsBy_ok rfl ?_
                        refine And.intro (fun e => absurd e (by decide)) (fun _ => ?_)
                        refine V.cS0 mX6_loadsBy_ok rfl lX6_114 (ct_within l) rfl [.int l9, .int (nI 0), .int (nI 40)] [] rfl rfl rfl (some (.int (bI (wiB l9 40)))) (T_within_use rfl) ?_
                        cases hH : (wiB l9 40) with
                        | false =>
                          refine V.nm [(10, .int l9), (9, .int p9), (8, .int (nI (f + 2 * i))), (7, .int (nI i)), (6, .int x6), (5, .ref 90), (0, .ref 0), (1, .int (nI 1)), (2, .int y), (3, .int (nI f)), (4, .int (nI N))] [.int (bI false)] (pX ((kdC c), (moC c), (kiC c), lo2, (haC c), (wiC c), (paC c)) d k r tr kr rd ft tg tc lw kl ik ri s0 s1 s2 s3 tx) rfl rfl rfl ?_
                          refine V.g2 60 [27, 36, 68, 153] mX6_loadsBy_ok rfl ?_
                          refine And.intro (fun _ => ?_) (fun e => absurd rfl e)
                          have hx := liA_f (ce := s1.2.2) (f := f) (m := i) (s := (loC c, 0)) (Or.inr (by rw [hl9] at hH; exact hH))
                          refine V.kn [7, 6, 5, 0, 1, 2, 3, 4] [(7, .int (nI i)), (6, .int x6), (5, .ref 90), (0, .ref 0), (1, .int (nI 1)), (2, .int y), (3, .int (nI f)), (4, .int (nI N))] [] (pX ((kdC c), (moC c), (kiC c), lo2, (haC c), (wiC c), (paC c)) d k r tr kr rd ft tg tc lw kl ik ri s0 s1 s2 s3 tx) rfl rfl rfl ?_
                          exact t153 _ _ (by rw [hx]; exact h6) (by rw [hx]; exact hlo)
                        | true =>
                          refine V.nm [(10, .int l9), (9, .int p9), (8, .int (nI (f + 2 * i))), (7, .int (nI i)), (6, .int x6), (5, .ref 90), (0, .ref 0), (1, .int (nI 1)), (2, .int y), (3, .int (nI f)), (4, .int (nI N))] [.int (bI true)] (pX ((kdC c), (moC c), (kiC c), lo2, (haC c), (wiC c), (paC c)) d k r tr kr rd ft tg tc lw kl ik ri s0 s1 s2 s3 tx) rfl rfl rfl ?_
                          have hx := liA_t (ce := s1.2.2) (f := f) (m := i) (s := (loC c, 0)) (by rw [← hp9]; exact hG) (by rw [← hl9]; exact hH)
                          rw [← hp9, ← hl9] at hx
                          obtain ⟨q9, hq9, eq9⟩ := wiB_t hG (by omega)
                          have hcl : cl p9 = q9 := by rw [eq9]; exact nI_clamp (by omega)
                          rw [hcl] at hx
                          refine V.g2 60 [27, 36, 68, 153] mX6_loadsBy_ok rfl ?_
                          refine And.intro (fun e => absurd e (by decide)) (fun _ => ?_)
                          refine ⟨q9, by omega, eq9, rfl, ?_⟩
                          refine V.kn [7, 6, 5, 0, 1, 2, 3, 4] [(7, .int (nI i)), (6, .int (x6 + zi 1)), (5, .ref 90), (0, .ref 0), (1, .int (nI 1)), (2, .int y), (3, .int (nI f)), (4, .int (nI N))] [] (pX ((kdC c), (moC c), (kiC c), (upd lo2 q9 l9), (haC c), (wiC c), (paC c)) d k r tr kr rd ft tg tc lw kl ik ri s0 s1 s2 s3 tx) rfl rfl rfl ?_
                          exact t153 _ _ (by rw [hx]; exact ninc h6) (by rw [hx, ← hlo])
                refine V.kn [7, 6, 5, 0, 1, 2, 3, 4] [(7, .int (nI 0)), (6, .int (nI 0)), (5, .ref 90), (0, .ref 0), (1, .int (nI 1)), (2, .int y), (3, .int (nI f)), (4, .int (nI N))] [] (pX c d k r tr kr rd ft tg tc lw kl ik ri s0 s1 s2 s3 tx) rfl rfl rfl ?_
                exact loop N 0 _ _ (loC c) (by omega) rfl rfl rfl (Or.inl rfl)
            · exact ⟨_, zsim_rfl _, g2 e1 e2⟩
          · exact ⟨_, zsim_rfl _, g1 e1⟩
        · refine V.nm [(0, .ref 0), (1, .int (nI 2)), (2, .int y), (3, .int w), (4, .int (nI N))] [.int (bI true)] (pX c d k r tr kr rd ft tg tc lw kl ik ri s0 s1 s2 s3 tx) rfl rfl rfl ?_
          have hsz : s2.2.1 = nI n := hsz
          refine V.g2 60 [27, 36, 68, 153] mX6_loadsBy_ok rfl ?_
          refine And.intro (fun _ => ?_) (fun e => absurd e (by decide))
          have er : zrf (zsg (nI 2).toNatClampNeg) = .ref 94 := by rw [pk_cl 2 rfl]; rfl
          refine And.intro (pk_in 2 4 (by omega) rfl) ?_
          refine V.nm [(0, .ref 0), (1, .int (nI 2)), (2, .int y), (3, .int w), (4, .int (nI N))] [.ref 94] (pX c d k r tr kr rd ft tg tc lw kl ik ri s0 s1 s2 s3 tx) rfl (by rw [← er] <;> rfl) rfl ?_
          refine V.g2 60 [27, 36, 68, 153] mX6_loadsBy_ok rfl ?_
          refine And.intro (fun (e1 : ¬ (s2.1) = (-1 : Int32)) => ?_) (fun (e1 : (s2.1) = (-1 : Int32)) => ?_)
          · refine And.intro (fun (e2 : (s2.1) = y) => ?_) (fun (e2 : ¬ (s2.1) = y) => ?_)
            · obtain ⟨g4, g5, g6⟩ := g3 e1 e2
              clear g1 g2 g3
              refine V.nm [(7, .int (nI 0)), (6, .int (nI 0)), (5, .ref 94), (0, .ref 0), (1, .int (nI 2)), (2, .int y), (3, .int w), (4, .int (nI N))] [] (pX c d k r tr kr rd ft tg tc lw kl ik ri s0 s1 s2 s3 tx) rfl rfl rfl ?_
              by_cases hw : w < 0
              · rcases Nat.eq_zero_or_pos N with hN0 | hN0
                · refine V.g2 60 [27, 36, 68, 153] mX6_loadsBy_ok rfl ?_
                  refine pk_le N 0 (fun e3 => ?_) (fun e3 => absurd e3 (by omega)) rfl rfl
                  exact ⟨_, zsim_rfl _, g4 hN0⟩
                · refine V.g2 60 [27, 36, 68, 153] mX6_loadsBy_ok rfl ?_
                  refine pk_le N 0 (fun e3 => absurd e3 (by omega)) (fun e3 => ?_) rfl rfl
                  have hx8 : (w + ((nI 2) * (nI 0))) = w := by rw [show nI 2 * nI 0 = 0 from rfl, Int32.add_zero]
                  refine V.cV1P mX6_loadsBy_ok rfl lX6_345 (ct_has l) rfl 56 rfl [47, 48] [none, none, none, none, none, none, none, none, none, none, none, none, none, none, none, none, none, none, none, none, none, none, none, none, none, none, none, none, none, none, none, none, none, none, none, none, none, none, none, none, none, none, none, none, none, none, none, some 0, some 1, none, none, none, none, none, none, none] (by decide +kernel) (pSheet 0 (s2.1) (s2.2.1) (s2.2.2)) [.ref 0, .int (w + ((nI 2) * (nI 0))), .int (nI 2)] [] rfl 0 4 rfl rfl rfl rfl rfl rfl rfl rfl (some (.int (bI (hasF s2.2.1 (w + ((nI 2) * (nI 0))) (nI 2))))) (pSheet 0 (s2.1) (s2.2.1) (s2.2.2)) ⟨s2.1, s2.2.1, (w + ((nI 2) * (nI 0))), nI 2, s2.2.2, rfl, rfl, rfl, rfl⟩ rfl (pX c d k r tr kr rd ft tg tc lw kl ik ri s0 s1 s2 s3 tx) [.int (bI (hasF s2.2.1 (w + ((nI 2) * (nI 0))) (nI 2)))] rfl rfl ?_
                  cases hH : (hasF s2.2.1 (w + ((nI 2) * (nI 0))) (nI 2)) with
                  | false =>
                    refine V.nm [(8, .int (w + ((nI 2) * (nI 0)))), (7, .int (nI 0)), (6, .int (nI 0)), (5, .ref 94), (0, .ref 0), (1, .int (nI 2)), (2, .int y), (3, .int w), (4, .int (nI N))] [.int (bI false)] (pX c d k r tr kr rd ft tg tc lw kl ik ri s0 s1 s2 s3 tx) rfl rfl rfl ?_
                    rw [hsz] at hH
                    refine V.g2 60 [27, 36, 68, 153] mX6_loadsBy_ok rfl ?_
                    refine And.intro (fun e => absurd rfl e) (fun _ => ?_)
                    exact ⟨_, zsim_rfl _, g5 hN0 hw⟩
                  | true =>
                    refine V.nm [(8, .int (w + ((nI 2) * (nI 0)))), (7, .int (nI 0)), (6, .int (nI 0)), (5, .ref 94), (0, .ref 0), (1, .int (nI 2)), (2, .int y), (3, .int w), (4, .int (nI N))] [.int (bI true)] (pX c d k r tr kr rd ft tg tc lw kl ik ri s0 s1 s2 s3 tx) rfl rfl rfl ?_
                    rw [hsz] at hH
                    rw [hx8, has_neg (Or.inl hw)] at hH
                    cases hH
              · obtain ⟨f, hf, rfl⟩ := nn_ex hw
                obtain ⟨k1, k2⟩ := g6 f hf rfl
                have k3 : (N = 0 ∨ f + 2 * N ≤ n) → Q (some (.int (nI (liA s2.2.2 f N (loC c, 0)).2))) (pX ((kdC c), (moC c), (kiC c), (liA s2.2.2 f N (loC c, 0)).1, (haC c), (wiC c), (paC c)) d k r tr kr rd ft tg tc lw kl ik ri s0 s1 s2 s3 tx) := by
                  intro hb
                  rcases hb with hb | hb
                  · have := g4 hb
                    subst hb
                    exact this
                  · exact k2 hb
                clear g4 g5 g6
                refine V.nm [(7, .int (nI 0)), (6, .int (nI 0)), (5, .ref 94), (0, .ref 0), (1, .int (nI 2)), (2, .int y), (3, .int (nI f)), (4, .int (nI N))] [] (pX c d k r tr kr rd ft tg tc lw kl ik ri s0 s1 s2 s3 tx) rfl rfl rfl ?_
                obtain ⟨S, hS⟩ : ∃ S, pX c d k r tr kr rd ft tg tc lw kl ik ri s0 s1 s2 s3 tx = S := ⟨_, rfl⟩
                refine V.s0 hS ?_
                have loop : ∀ (m i : Nat) (x7 x6 : Int32) (lo2 : fI), i + m = N → x7 = nI i → x6 = nI (liA s2.2.2 f i (loC c, 0)).2 → lo2 = (liA s2.2.2 f i (loC c, 0)).1 → (i = 0 ∨ f + 2 * i ≤ n) → V l mX6_loadsBy false S (zrm 4 0 0) (zFm false S Q 0 0) 0 0 68 [(7, .int x7), (6, .int x6), (5, .ref 94), (0, .ref 0), (1, .int (nI 2)), (2, .int y), (3, .int (nI f)), (4, .int (nI N))] [] (pX ((kdC c), (moC c), (kiC c), lo2, (haC c), (wiC c), (paC c)) d k r tr kr rd ft tg tc lw kl ik ri s0 s1 s2 s3 tx) := by
                  intro m
                  induction m with
                  | zero =>
                    intro i x7 x6 lo2 hi h7 h6 hlo hb
                    refine V.g2 60 [27, 36, 68, 153] mX6_loadsBy_ok rfl ?_
                    refine pk_le N i (fun e3 => ?_) (fun e3 => absurd e3 (by omega)) rfl h7
                    have ei : N = i := by omega
                    subst ei
                    subst hlo
                    subst h6
                    exact ⟨_, zsim_rfl _, (k3 hb)⟩
                  | succ m ih =>
                    intro i x7 x6 lo2 hi h7 h6 hlo hb
                    refine V.g2 60 [27, 36, 68, 153] mX6_loadsBy_ok rfl ?_
                    refine pk_le N i (fun e3 => absurd e3 (by omega)) (fun e3 => ?_) rfl h7
                    subst h7
                    refine V.nm [(8, .int ((nI f) + ((nI 2) * (nI i)))), (7, .int (nI i)), (6, .int x6), (5, .ref 94), (0, .ref 0), (1, .int (nI 2)), (2, .int y), (3, .int (nI f)), (4, .int (nI N))] [.int (nI 2), .int ((nI f) + ((nI 2) * (nI i))), .ref 94] (pX ((kdC c), (moC c), (kiC c), lo2, (haC c), (wiC c), (paC c)) d k r tr kr rd ft tg tc lw kl ik ri s0 s1 s2 s3 tx) rfl rfl rfl ?_
                    have hx8 : ((nI f) + ((nI 2) * (nI i))) = nI (f + 2 * i) := nadd rfl (nmul rfl rfl)
                    rw [hx8]
                    refine V.nm [(8, .int (nI (f + 2 * i))), (7, .int (nI i)), (6, .int x6), (5, .ref 94), (0, .ref 0), (1, .int (nI 2)), (2, .int y), (3, .int (nI f)), (4, .int (nI N))] [.int (nI 2), .int (nI (f + 2 * i)), .ref 94] (pX ((kdC c), (moC c), (kiC c), lo2, (haC c), (wiC c), (paC c)) d k r tr kr rd ft tg tc lw kl ik ri s0 s1 s2 s3 tx) rfl rfl rfl ?_
                    refine V.cV1P mX6_loadsBy_ok rfl lX6_345 (ct_has l) rfl 56 rfl [47, 48] [none, none, none, none, none, none, none, none, none, none, none, none, none, none, none, none, none, none, none, none, none, none, none, none, none, none, none, none, none, none, none, none, none, none, none, none, none, none, none, none, none, none, none, none, none, none, none, some 0, some 1, none, none, none, none, none, none, none] (by decide +kernel) (pSheet 0 (s2.1) (s2.2.1) (s2.2.2)) [.ref 0, .int (nI (f + 2 * i)), .int (nI 2)] [] rfl 0 4 rfl rfl rfl rfl rfl rfl rfl rfl (some (.int (bI (hasF s2.2.1 (nI (f + 2 * i)) (nI 2))))) (pSheet 0 (s2.1) (s2.2.1) (s2.2.2)) ⟨s2.1, s2.2.1, (nI (f + 2 * i)), nI 2, s2.2.2, rfl, rfl, rfl, rfl⟩ rfl (pX ((kdC c), (moC c), (kiC c), lo2, (haC c), (wiC c), (paC c)) d k r tr kr rd ft tg tc lw kl ik ri s0 s1 s2 s3 tx) [.int (bI (hasF s2.2.1 (nI (f + 2 * i)) (nI 2)))] rfl rfl ?_
                    cases hH : (hasF s2.2.1 (nI (f + 2 * i)) (nI 2)) with
                    | false =>
                      refine V.nm [(8, .int (nI (f + 2 * i))), (7, .int (nI i)), (6, .int x6), (5, .ref 94), (0, .ref 0), (1, .int (nI 2)), (2, .int y), (3, .int (nI f)), (4, .int (nI N))] [.int (bI false)] (pX ((kdC c), (moC c), (kiC c), lo2, (haC c), (wiC c), (paC c)) d k r tr kr rd ft tg tc lw kl ik ri s0 s1 s2 s3 tx) rfl rfl rfl ?_
                      rw [hsz] at hH
                      rw [has_nn hn40 (by omega) (by omega)] at hH
                      subst hlo
                      refine V.g2 60 [27, 36, 68, 153] mX6_loadsBy_ok rfl ?_
                      refine And.intro (fun e => absurd rfl e) (fun _ => ?_)
                      exact ⟨_, zsim_rfl _, (by subst hS; exact k1 i (by omega) hb (of_decide_eq_false hH))⟩
                    | true =>
                      refine V.nm [(8, .int (nI (f + 2 * i))), (7, .int (nI i)), (6, .int x6), (5, .ref 94), (0, .ref 0), (1, .int (nI 2)), (2, .int y), (3, .int (nI f)), (4, .int (nI N))] [.int (bI true)] (pX ((kdC c), (moC c), (kiC c), lo2, (haC c), (wiC c), (paC c)) d k r tr kr rd ft tg tc lw kl ik ri s0 s1 s2 s3 tx) rfl rfl rfl ?_
                      rw [hsz] at hH
                      rw [has_nn hn40 (by omega) (by omega)] at hH
                      have hin := of_decide_eq_true hH
                      refine V.g2 60 [27, 36, 68, 153] mX6_loadsBy_ok rfl ?_
                      refine And.intro (fun _ => ?_) (fun e => absurd e (by decide))
                      refine ⟨(f + 2 * i), by omega, rfl, rfl, ?_⟩
                      refine ⟨((f + 2 * i) + 1), by omega, (nadd rfl rfl), rfl, ?_⟩
                      refine V.nm [(10, .int ((s2.2.2) ((f + 2 * i) + 1))), (9, .int ((s2.2.2) (f + 2 * i))), (8, .int (nI (f + 2 * i))), (7, .int (nI i)), (6, .int x6), (5, .ref 94), (0, .ref 0), (1, .int (nI 2)), (2, .int y), (3, .int (nI f)), (4, .int (nI N))] [.int ((s2.2.2) (f + 2 * i))] (pX ((kdC c), (moC c), (kiC c), lo2, (haC c), (wiC c), (paC c)) d k r tr kr rd ft tg tc lw kl ik ri s0 s1 s2 s3 tx) rfl rfl rfl ?_
                      obtain ⟨p9, hp9⟩ : ∃ p9, p9 = ((s2.2.2) (f + 2 * i)) := ⟨_, rfl⟩
                      obtain ⟨l9, hl9⟩ : ∃ l9, l9 = ((s2.2.2) ((f + 2 * i) + 1)) := ⟨_, rfl⟩
                      rw [← hp9, ← hl9]
                      refine V.nm [(10, .int l9), (9, .int p9), (8, .int (nI (f + 2 * i))), (7, .int (nI i)), (6, .int x6), (5, .ref 94), (0, .ref 0), (1, .int (nI 2)), (2, .int y), (3, .int (nI f)), (4, .int (nI N))] [.int p9] (pX ((kdC c), (moC c), (kiC c), lo2, (haC c), (wiC c), (paC c)) d k r tr kr rd ft tg tc lw kl ik ri s0 s1 s2 s3 tx) rfl rfl rfl ?_
                      have t153 : ∀ (y6 : Int32) (lo3 : fI), y6 = nI (liA s2.2.2 f (i + 1) (loC c, 0)).2 → lo3 = (liA s2.2.2 f (i + 1) (loC c, 0)).1 → V l mX6_loadsBy false S (zrm 4 0 0) (zFm false S Q 0 0) 0 0 153 [(7, .int (nI i)), (6, .int y6), (5, .ref 94), (0, .ref 0), (1, .int (nI 2)), (2, .int y), (3, .int (nI f)), (4, .int (nI N))] [] (pX ((kdC c), (moC c), (kiC c), lo3, (haC c), (wiC c), (paC c)) d k r tr kr rd ft tg tc lw kl ik ri s0 s1 s2 s3 tx) := by
                        intro y6 lo3 q6 q3
                        refine V.g2 60 [27, 36, 68, 153] mX6_loadsBy_ok rfl ?_
                        refine V.kn [7, 6, 5, 0, 1, 2, 3, 4] [(7, .int ((nI i) + zi 1)), (6, .int y6), (5, .ref 94), (0, .ref 0), (1, .int (nI 2)), (2, .int y), (3, .int (nI f)), (4, .int (nI N))] [] (pX ((kdC c), (moC c), (kiC c), lo3, (haC c), (wiC c), (paC c)) d k r tr kr rd ft tg tc lw kl ik ri s0 s1 s2 s3 tx) rfl rfl rfl ?_
                        exact ih (i + 1) _ _ _ (by omega) (ninc rfl) q6 q3 (Or.inr (by omega))
                      refine V.cS0 mX6_loadsBy_ok rfl lX6_178 (ct_isPlace l) rfl [.int p9] [] rfl rfl rfl (some (.int (bI (wiB p9 7)))) ⟨_, rfl, rfl, rfl⟩ ?_
                      cases hG : wiB p9 7 with
                      | false =>
                        refine V.nm [(10, .int l9), (9, .int p9), (8, .int (nI (f + 2 * i))), (7, .int (nI i)), (6, .int x6), (5, .ref 94), (0, .ref 0), (1, .int (nI 2)), (2, .int y), (3, .int (nI f)), (4, .int (nI N))] [.int (bI false)] (pX ((kdC c), (moC c), (kiC c), lo2, (haC c), (wiC c), (paC c)) d k r tr kr rd ft tg tc lw kl ik ri s0 s1 s2 s3 tx) rfl rfl rfl ?_
                        refine V.g2 60 [27, 36, 68, 153] mX6_loadsBy_ok rfl ?_
                        refine And.intro (fun _ => ?_) (fun e => absurd rfl e)
                        have hx := liA_f (ce := s2.2.2) (f := f) (m := i) (s := (loC c, 0)) (Or.inl (by rw [hp9] at hG; exact hG))
                        refine V.kn [7, 6, 5, 0, 1, 2, 3, 4] [(7, .int (nI i)), (6, .int x6), (5, .ref 94), (0, .ref 0), (1, .int (nI 2)), (2, .int y), (3, .int (nI f)), (4, .int (nI N))] [] (pX ((kdC c), (moC c), (kiC c), lo2, (haC c), (wiC c), (paC c)) d k r tr kr rd ft tg tc lw kl ik ri s0 s1 s2 s3 tx) rfl rfl rfl ?_
                        exact t153 _ _ (by rw [hx]; exact h6) (by rw [hx]; exact hlo)
                      | true =>
                        refine V.nm [(10, .int l9), (9, .int p9), (8, .int (nI (f + 2 * i))), (7, .int (nI i)), (6, .int x6), (5, .ref 94), (0, .ref 0), (1, .int (nI 2)), (2, .int y), (3, .int (nI f)), (4, .int (nI N))] [.int (bI true)] (pX ((kdC c), (moC c), (kiC c), lo2, (haC c), (wiC c), (paC c)) d k r tr kr rd ft tg tc lw kl ik ri s0 s1 s2 s3 tx) rfl rfl rfl ?_
                        refine V.g2 60 [27, 36, 68, 153] mX6_loadsBy_ok rfl ?_
                        refine And.intro (fun e => absurd e (by decide)) (fun _ => ?_)
                        refine V.cS0 mX6_loadsBy_ok rfl lX6_114 (ct_within l) rfl [.int l9, .int (nI 0), .int (nI 40)] [] rfl rfl rfl (some (.int (bI (wiB l9 40)))) (T_within_use rfl) ?_
                        cases hH : (wiB l9 40) with
                        | false =>
                          refine V.nm [(10, .int l9), (9, .int p9), (8, .int (nI (f + 2 * i))), (7, .int (nI i)), (6, .int x6), (5, .ref 94), (0, .ref 0), (1, .int (nI 2)), (2, .int y), (3, .int (nI f)), (4, .int (nI N))] [.int (bI false)] (pX ((kdC c), (moC c), (kiC c), lo2, (haC c), (wiC c), (paC c)) d k r tr kr rd ft tg tc lw kl ik ri s0 s1 s2 s3 tx) rfl rfl rfl ?_
                          refine V.g2 60 [27, 36, 68, 153] mX6_loadsBy_ok rfl ?_
                          refine And.intro (fun _ => ?_) (fun e => absurd rfl e)
                          have hx := liA_f (ce := s2.2.2) (f := f) (m := i) (s := (loC c, 0)) (Or.inr (by rw [hl9] at hH; exact hH))
                          refine V.kn [7, 6, 5, 0, 1, 2, 3, 4] [(7, .int (nI i)), (6, .int x6), (5, .ref 94), (0, .ref 0), (1, .int (nI 2)), (2, .int y), (3, .int (nI f)), (4, .int (nI N))] [] (pX ((kdC c), (moC c), (kiC c), lo2, (haC c), (wiC c), (paC c)) d k r tr kr rd ft tg tc lw kl ik ri s0 s1 s2 s3 tx) rfl rfl rfl ?_
                          exact t153 _ _ (by rw [hx]; exact h6) (by rw [hx]; exact hlo)
                        | true =>
                          refine V.nm [(10, .int l9), (9, .int p9), (8, .int (nI (f + 2 * i))), (7, .int (nI i)), (6, .int x6), (5, .ref 94), (0, .ref 0), (1, .int (nI 2)), (2, .int y), (3, .int (nI f)), (4, .int (nI N))] [.int (bI true)] (pX ((kdC c), (moC c), (kiC c), lo2, (haC c), (wiC c), (paC c)) d k r tr kr rd ft tg tc lw kl ik ri s0 s1 s2 s3 tx) rfl rfl rfl ?_
                          have hx := liA_t (ce := s2.2.2) (f := f) (m := i) (s := (loC c, 0)) (by rw [← hp9]; exact hG) (by rw [← hl9]; exact hH)
                          rw [← hp9, ← hl9] at hx
                          obtain ⟨q9, hq9, eq9⟩ := wiB_t hG (by omega)
                          have hcl : cl p9 = q9 := by rw [eq9]; exact nI_clamp (by omega)
                          rw [hcl] at hx
                          refine V.g2 60 [27, 36, 68, 153] mX6_loadsBy_ok rfl ?_
                          refine And.intro (fun e => absurd e (by decide)) (fun _ => ?_)
                          refine ⟨q9, by omega, eq9, rfl, ?_⟩
                          refine V.kn [7, 6, 5, 0, 1, 2, 3, 4] [(7, .int (nI i)), (6, .int (x6 + zi 1)), (5, .ref 94), (0, .ref 0), (1, .int (nI 2)), (2, .int y), (3, .int (nI f)), (4, .int (nI N))] [] (pX ((kdC c), (moC c), (kiC c), (upd lo2 q9 l9), (haC c), (wiC c), (paC c)) d k r tr kr rd ft tg tc lw kl ik ri s0 s1 s2 s3 tx) rfl rfl rfl ?_
                          exact t153 _ _ (by rw [hx]; exact ninc h6) (by rw [hx, ← hlo])
                refine V.kn [7, 6, 5, 0, 1, 2, 3, 4] [(7, .int (nI 0)), (6, .int (nI 0)), (5, .ref 94), (0, .ref 0), (1, .int (nI 2)), (2, .int y), (3, .int (nI f)), (4, .int (nI N))] [] (pX c d k r tr kr rd ft tg tc lw kl ik ri s0 s1 s2 s3 tx) rfl rfl rfl ?_
                exact loop N 0 _ _ (loC c) (by omega) rfl rfl rfl (Or.inl rfl)
            · exact ⟨_, zsim_rfl _, g2 e1 e2⟩
          · exact ⟨_, zsim_rfl _, g1 e1⟩
        · refine V.nm [(0, .ref 0), (1, .int (nI 3)), (2, .int y), (3, .int w), (4, .int (nI N))] [.int (bI true)] (pX c d k r tr kr rd ft tg tc lw kl ik ri s0 s1 s2 s3 tx) rfl rfl rfl ?_
          have hsz : s3.2.1 = nI n := hsz
          refine V.g2 60 [27, 36, 68, 153] mX6_loadsBy_ok rfl ?_
          refine And.intro (fun _ => ?_) (fun e => absurd e (by decide))
          have er : zrf (zsg (nI 3).toNatClampNeg) = .ref 98 := by rw [pk_cl 3 rfl]; rfl
          refine And.intro (pk_in 3 4 (by omega) rfl) ?_
          refine V.nm [(0, .ref 0), (1, .int (nI 3)), (2, .int y), (3, .int w), (4, .int (nI N))] [.ref 98] (pX c d k r tr kr rd ft tg tc lw kl ik ri s0 s1 s2 s3 tx) rfl (by rw [← er] <;> rfl) rfl ?_
          refine V.g2 60 [27, 36, 68, 153] mX6_loadsBy_ok rfl ?_
          refine And.intro (fun (e1 : ¬ (s3.1) = (-1 : Int32)) => ?_) (fun (e1 : (s3.1) = (-1 : Int32)) => ?_)
          · refine And.intro (fun (e2 : (s3.1) = y) => ?_) (fun (e2 : ¬ (s3.1) = y) => ?_)
            · obtain ⟨g4, g5, g6⟩ := g3 e1 e2
              clear g1 g2 g3
              refine V.nm [(7, .int (nI 0)), (6, .int (nI 0)), (5, .ref 98), (0, .ref 0), (1, .int (nI 3)), (2, .int y), (3, .int w), (4, .int (nI N))] [] (pX c d k r tr kr rd ft tg tc lw kl ik ri s0 s1 s2 s3 tx) rfl rfl rfl ?_
              by_cases hw : w < 0
              · rcases Nat.eq_zero_or_pos N with hN0 | hN0
                · refine V.g2 60 [27, 36, 68, 153] mX6_loadsBy_ok rfl ?_
                  refine pk_le N 0 (fun e3 => ?_) (fun e3 => absurd e3 (by omega)) rfl rfl
                  exact ⟨_, zsim_rfl _, g4 hN0⟩
                · refine V.g2 60 [27, 36, 68, 153] mX6_loadsBy_ok rfl ?_
                  refine pk_le N 0 (fun e3 => absurd e3 (by omega)) (fun e3 => ?_) rfl rfl
                  have hx8 : (w + ((nI 2) * (nI 0))) = w := by rw [show nI 2 * nI 0 = 0 from rfl, Int32.add_zero]
                  refine V.cV1P mX6_loadsBy_ok rfl lX6_345 (ct_has l) rfl 56 rfl [49, 50] [none, none, none, none, none, none, none, none, none, none, none, none, none, none, none, none, none, none, none, none, none, none, none, none, none, none, none, none, none, none, none, none, none, none, none, none, none, none, none, none, none, none, none, none, none, none, none, none, none, some 0, some 1, none, none, none, none, none] (by decide +kernel) (pSheet 0 (s3.1) (s3.2.1) (s3.2.2)) [.ref 0, .int (w + ((nI 2) * (nI 0))), .int (nI 2)] [] rfl 0 4 rfl rfl rfl rfl rfl rfl rfl rfl (some (.int (bI (hasF s3.2.1 (w + ((nI 2) * (nI 0))) (nI 2))))) (pSheet 0 (s3.1) (s3.2.1) (s3.2.2)) ⟨s3.1, s3.2.1, (w + ((nI 2) * (nI 0))), nI 2, s3.2.2, rfl, rfl, rfl, rfl⟩ rfl (pX c d k r tr kr rd ft tg tc lw kl ik ri s0 s1 s2 s3 tx) [.int (bI (hasF s3.2.1 (w + ((nI 2) * (nI 0))) (nI 2)))] rfl rfl ?_
                  cases hH : (hasF s3.2.1 (w + ((nI 2) * (nI 0))) (nI 2)) with
                  | false =>
                    refine V.nm [(8, .int (w + ((nI 2) * (nI 0)))), (7, .int (nI 0)), (6, .int (nI 0)), (5, .ref 98), (0, .ref 0), (1, .int (nI 3)), (2, .int y), (3, .int w), (4, .int (nI N))] [.int (bI false)] (pX c d k r tr kr rd ft tg tc lw kl ik ri s0 s1 s2 s3 tx) rfl rfl rfl ?_
                    rw [hsz] at hH
                    refine V.g2 60 [27, 36, 68, 153] mX6_loadsBy_ok rfl ?_
                    refine And.intro (fun e => absurd rfl e) (fun _ => ?_)
                    exact ⟨_, zsim_rfl _, g5 hN0 hw⟩
                  | true =>
                    refine V.nm [(8, .int (w + ((nI 2) * (nI 0)))), (7, .int (nI 0)), (6, .int (nI 0)), (5, .ref 98), (0, .ref 0), (1, .int (nI 3)), (2, .int y), (3, .int w), (4, .int (nI N))] [.int (bI true)] (pX c d k r tr kr rd ft tg tc lw kl ik ri s0 s1 s2 s3 tx) rfl rfl rfl ?_
                    rw [hsz] at hH
                    rw [hx8, has_neg (Or.inl hw)] at hH
                    cases hH
              · obtain ⟨f, hf, rfl⟩ := nn_ex hw
                obtain ⟨k1, k2⟩ := g6 f hf rfl
                have k3 : (N = 0 ∨ f + 2 * N ≤ n) → Q (some (.int (nI (liA s3.2.2 f N (loC c, 0)).2))) (pX ((kdC c), (moC c), (kiC c), (liA s3.2.2 f N (loC c, 0)).1, (haC c), (wiC c), (paC c)) d k r tr kr rd ft tg tc lw kl ik ri s0 s1 s2 s3 tx) := by
                  intro hb
                  rcases hb with hb | hb
                  · have := g4 hb
                    subst hb
                    exact this
                  · exact k2 hb
                clear g4 g5 g6
                refine V.nm [(7, .int (nI 0)), (6, .int (nI 0)), (5, .ref 98), (0, .ref 0), (1, .int (nI 3)), (2, .int y), (3, .int (nI f)), (4, .int (nI N))] [] (pX c d k r tr kr rd ft tg tc lw kl ik ri s0 s1 s2 s3 tx) rfl rfl rfl ?_
                obtain ⟨S, hS⟩ : ∃ S, pX c d k r tr kr rd ft tg tc lw kl ik ri s0 s1 s2 s3 tx = S := ⟨_, rfl⟩
                refine V.s0 hS ?_
                have loop : ∀ (m i : Nat) (x7 x6 : Int32) (lo2 : fI), i + m = N → x7 = nI i → x6 = nI (liA s3.2.2 f i (loC c, 0)).2 → lo2 = (liA s3.2.2 f i (loC c, 0)).1 → (i = 0 ∨ f + 2 * i ≤ n) → V l mX6_loadsBy false S (zrm 4 0 0) (zFm false S Q 0 0) 0 0 68 [(7, .int x7), (6, .int x6), (5, .ref 98), (0, .ref 0), (1, .int (nI 3)), (2, .int y), (3, .int (nI f)), (4, .int (nI N))] [] (pX ((kdC c), (moC c), (kiC c), lo2, (haC c), (wiC c), (paC c)) d k r tr kr rd ft tg tc lw kl ik ri s0 s1 s2 s3 tx) := by
                  intro m
                  induction m with
                  | zero =>
                    intro i x7 x6 lo2 hi h7 h6 hlo hb
                    refine V.g2 60 [27, 36, 68, 153] mX6_loadsBy_ok rfl ?_
                    refine pk_le N i (fun e3 => ?_) (fun e3 => absurd e3 (by omega)) rfl h7
                    have ei : N = i := by omega
                    subst ei
                    subst hlo
                    subst h6
                    exact ⟨_, zsim_rfl _, (k3 hb)⟩
                  | succ m ih =>
                    intro i x7 x6 lo2 hi h7 h6 hlo hb
                    refine V.g2 60 [27, 36, 68, 153] mX6_loadsBy_ok rfl ?_
                    refine pk_le N i (fun e3 => absurd e3 (by omega)) (fun e3 => ?_) rfl h7
                    subst h7
                    refine V.nm [(8, .int ((nI f) + ((nI 2) * (nI i)))), (7, .int (nI i)), (6, .int x6), (5, .ref 98), (0, .ref 0), (1, .int (nI 3)), (2, .int y), (3, .int (nI f)), (4, .int (nI N))] [.int (nI 2), .int ((nI f) + ((nI 2) * (nI i))), .ref 98] (pX ((kdC c), (moC c), (kiC c), lo2, (haC c), (wiC c), (paC c)) d k r tr kr rd ft tg tc lw kl ik ri s0 s1 s2 s3 tx) rfl rfl rfl ?_
                    have hx8 : ((nI f) + ((nI 2) * (nI i))) = nI (f + 2 * i) := nadd rfl (nmul rfl rfl)
                    rw [hx8]
                    refine V.nm [(8, .int (nI (f + 2 * i))), (7, .int (nI i)), (6, .int x6), (5, .ref 98), (0, .ref 0), (1, .int (nI 3)), (2, .int y), (3, .int (nI f)), (4, .int (nI N))] [.int (nI 2), .int (nI (f + 2 * i)), .ref 98] (pX ((kdC c), (moC c), (kiC c), lo2, (haC c), (wiC c), (paC c)) d k r tr kr rd ft tg tc lw kl ik ri s0 s1 s2 s3 tx) rfl rfl rfl ?_
                    refine V.cV1P mX6_loadsBy_ok rfl lX6_345 (ct_has l) rfl 56 rfl [49, 50] [none, none, none, none, none, none, none, none, none, none, none, none, none, none, none, none, none, none, none, none, none, none, none, none, none, none, none, none, none, none, none, none, none, none, none, none, none, none, none, none, none, none, none, none, none, none, none, none, none, some 0, some 1, none, none, none, none, none] (by decide +kernel) (pSheet 0 (s3.1) (s3.2.1) (s3.2.2)) [.ref 0, .int (nI (f + 2 * i)), .int (nI 2)] [] rfl 0 4 rfl rfl rfl rfl rfl rfl rfl rfl (some (.int (bI (hasF s3.2.1 (nI (f + 2 * i)) (nI 2))))) (pSheet 0 (s3.1) (s3.2.1) (s3.2.2)) ⟨s3.1, s3.2.1, (nI (f + 2 * i)), nI 2, s3.2.2, rfl, rfl, rfl, rfl⟩ rfl (pX ((kdC c), (moC c), (kiC c), lo2, (haC c), (wiC c), (paC c)) d k r tr kr rd ft tg tc lw kl ik ri s0 s1 s2 s3 tx) [.int (bI (hasF s3.2.1 (nI (f + 2 * i)) (nI 2)))] rfl rfl ?_
                    cases hH : (hasF s3.2.1 (nI (f + 2 * i)) (nI 2)) with
                    | false =>
                      refine V.nm [(8, .int (nI (f + 2 * i))), (7, .int (nI i)), (6, .int x6), (5, .ref 98), (0, .ref 0), (1, .int (nI 3)), (2, .int y), (3, .int (nI f)), (4, .int (nI N))] [.int (bI false)] (pX ((kdC c), (moC c), (kiC c), lo2, (haC c), (wiC c), (paC c)) d k r tr kr rd ft tg tc lw kl ik ri s0 s1 s2 s3 tx) rfl rfl rfl ?_
                      rw [hsz] at hH
                      rw [has_nn hn40 (by omega) (by omega)] at hH
                      subst hlo
                      refine V.g2 60 [27, 36, 68, 153] mX6_loadsBy_ok rfl ?_
                      refine And.intro (fun e => absurd rfl e) (fun _ => ?_)
                      exact ⟨_, zsim_rfl _, (by subst hS; exact k1 i (by omega) hb (of_decide_eq_false hH))⟩
                    | true =>
                      refine V.nm [(8, .int (nI (f + 2 * i))), (7, .int (nI i)), (6, .int x6), (5, .ref 98), (0, .ref 0), (1, .int (nI 3)), (2, .int y), (3, .int (nI f)), (4, .int (nI N))] [.int (bI true)] (pX ((kdC c), (moC c), (kiC c), lo2, (haC c), (wiC c), (paC c)) d k r tr kr rd ft tg tc lw kl ik ri s0 s1 s2 s3 tx) rfl rfl rfl ?_
                      rw [hsz] at hH
                      rw [has_nn hn40 (by omega) (by omega)] at hH
                      have hin := of_decide_eq_true hH
                      refine V.g2 60 [27, 36, 68, 153] mX6_loadsBy_ok rfl ?_
                      refine And.intro (fun _ => ?_) (fun e => absurd e (by decide))
                      refine ⟨(f + 2 * i), by omega, rfl, rfl, ?_⟩
                      refine ⟨((f + 2 * i) + 1), by omega, (nadd rfl rfl), rfl, ?_⟩
                      refine V.nm [(10, .int ((s3.2.2) ((f + 2 * i) + 1))), (9, .int ((s3.2.2) (f + 2 * i))), (8, .int (nI (f + 2 * i))), (7, .int (nI i)), (6, .int x6), (5, .ref 98), (0, .ref 0), (1, .int (nI 3)), (2, .int y), (3, .int (nI f)), (4, .int (nI N))] [.int ((s3.2.2) (f + 2 * i))] (pX ((kdC c), (moC c), (kiC c), lo2, (haC c), (wiC c), (paC c)) d k r tr kr rd ft tg tc lw kl ik ri s0 s1 s2 s3 tx) rfl rfl rfl ?_
                      obtain ⟨p9, hp9⟩ : ∃ p9, p9 = ((s3.2.2) (f + 2 * i)) := ⟨_, rfl⟩
                      obtain ⟨l9, hl9⟩ : ∃ l9, l9 = ((s3.2.2) ((f + 2 * i) + 1)) := ⟨_, rfl⟩
                      rw [← hp9, ← hl9]
                      refine V.nm [(10, .int l9), (9, .int p9), (8, .int (nI (f + 2 * i))), (7, .int (nI i)), (6, .int x6), (5, .ref 98), (0, .ref 0), (1, .int (nI 3)), (2, .int y), (3, .int (nI f)), (4, .int (nI N))] [.int p9] (pX ((kdC c), (moC c), (kiC c), lo2, (haC c), (wiC c), (paC c)) d k r tr kr rd ft tg tc lw kl ik ri s0 s1 s2 s3 tx) rfl rfl rfl ?_
                      have t153 : ∀ (y6 : Int32) (lo3 : fI), y6 = nI (liA s3.2.2 f (i + 1) (loC c, 0)).2 → lo3 = (liA s3.2.2 f (i + 1) (loC c, 0)).1 → V l mX6_loadsBy false S (zrm 4 0 0) (zFm false S Q 0 0) 0 0 153 [(7, .int (nI i)), (6, .int y6), (5, .ref 98), (0, .ref 0), (1, .int (nI 3)), (2, .int y), (3, .int (nI f)), (4, .int (nI N))] [] (pX ((kdC c), (moC c), (kiC c), lo3, (haC c), (wiC c), (paC c)) d k r tr kr rd ft tg tc lw kl ik ri s0 s1 s2 s3 tx) := by
                        intro y6 lo3 q6 q3
                        refine V.g2 60 [27, 36, 68, 153] mX6_loadsBy_ok rfl ?_
                        refine V.kn [7, 6, 5, 0, 1, 2, 3, 4] [(7, .int ((nI i) + zi 1)), (6, .int y6), (5, .ref 98), (0, .ref 0), (1, .int (nI 3)), (2, .int y), (3, .int (nI f)), (4, .int (nI N))] [] (pX ((kdC c), (moC c), (kiC c), lo3, (haC c), (wiC c), (paC c)) d k r tr kr rd ft tg tc lw kl ik ri s0 s1 s2 s3 tx) rfl rfl rfl ?_
                        exact ih (i + 1) _ _ _ (by omega) (ninc rfl) q6 q3 (Or.inr (by omega))
                      refine V.cS0 mX6_loadsBy_ok rfl lX6_178 (ct_isPlace l) rfl [.int p9] [] rfl rfl rfl (some (.int (bI (wiB p9 7)))) ⟨_, rfl, rfl, rfl⟩ ?_
                      cases hG : wiB p9 7 with
                      | false =>
                        refine V.nm [(10, .int l9), (9, .int p9), (8, .int (nI (f + 2 * i))), (7, .int (nI i)), (6, .int x6), (5, .ref 98), (0, .ref 0), (1, .int (nI 3)), (2, .int y), (3, .int (nI f)), (4, .int (nI N))] [.int (bI false)] (pX ((kdC c), (moC c), (kiC c), lo2, (haC c), (wiC c), (paC c)) d k r tr kr rd ft tg tc lw kl ik ri s0 s1 s2 s3 tx) rfl rfl rfl ?_
                        refine V.g2 60 [27, 36, 68, 153] mX6_loadsBy_ok rfl ?_
                        refine And.intro (fun _ => ?_) (fun e => absurd rfl e)
                        have hx := liA_f (ce := s3.2.2) (f := f) (m := i) (s := (loC c, 0)) (Or.inl (by rw [hp9] at hG; exact hG))
                        refine V.kn [7, 6, 5, 0, 1, 2, 3, 4] [(7, .int (nI i)), (6, .int x6), (5, .ref 98), (0, .ref 0), (1, .int (nI 3)), (2, .int y), (3, .int (nI f)), (4, .int (nI N))] [] (pX ((kdC c), (moC c), (kiC c), lo2, (haC c), (wiC c), (paC c)) d k r tr kr rd ft tg tc lw kl ik ri s0 s1 s2 s3 tx) rfl rfl rfl ?_
                        exact t153 _ _ (by rw [hx]; exact h6) (by rw [hx]; exact hlo)
                      | true =>
                        refine V.nm [(10, .int l9), (9, .int p9), (8, .int (nI (f + 2 * i))), (7, .int (nI i)), (6, .int x6), (5, .ref 98), (0, .ref 0), (1, .int (nI 3)), (2, .int y), (3, .int (nI f)), (4, .int (nI N))] [.int (bI true)] (pX ((kdC c), (moC c), (kiC c), lo2, (haC c), (wiC c), (paC c)) d k r tr kr rd ft tg tc lw kl ik ri s0 s1 s2 s3 tx) rfl rfl rfl ?_
                        refine V.g2 60 [27, 36, 68, 153] mX6_loadsBy_ok rfl ?_
                        refine And.intro (fun e => absurd e (by decide)) (fun _ => ?_)
                        refine V.cS0 mX6_loadsBy_ok rfl lX6_114 (ct_within l) rfl [.int l9, .int (nI 0), .int (nI 40)] [] rfl rfl rfl (some (.int (bI (wiB l9 40)))) (T_within_use rfl) ?_
                        cases hH : (wiB l9 40) with
                        | false =>
                          refine V.nm [(10, .int l9), (9, .int p9), (8, .int (nI (f + 2 * i))), (7, .int (nI i)), (6, .int x6), (5, .ref 98), (0, .ref 0), (1, .int (nI 3)), (2, .int y), (3, .int (nI f)), (4, .int (nI N))] [.int (bI false)] (pX ((kdC c), (moC c), (kiC c), lo2, (haC c), (wiC c), (paC c)) d k r tr kr rd ft tg tc lw kl ik ri s0 s1 s2 s3 tx) rfl rfl rfl ?_
                          refine V.g2 60 [27, 36, 68, 153] mX6_loadsBy_ok rfl ?_
                          refine And.intro (fun _ => ?_) (fun e => absurd rfl e)
                          have hx := liA_f (ce := s3.2.2) (f := f) (m := i) (s := (loC c, 0)) (Or.inr (by rw [hl9] at hH; exact hH))
                          refine V.kn [7, 6, 5, 0, 1, 2, 3, 4] [(7, .int (nI i)), (6, .int x6), (5, .ref 98), (0, .ref 0), (1, .int (nI 3)), (2, .int y), (3, .int (nI f)), (4, .int (nI N))] [] (pX ((kdC c), (moC c), (kiC c), lo2, (haC c), (wiC c), (paC c)) d k r tr kr rd ft tg tc lw kl ik ri s0 s1 s2 s3 tx) rfl rfl rfl ?_
                          exact t153 _ _ (by rw [hx]; exact h6) (by rw [hx]; exact hlo)
                        | true =>
                          refine V.nm [(10, .int l9), (9, .int p9), (8, .int (nI (f + 2 * i))), (7, .int (nI i)), (6, .int x6), (5, .ref 98), (0, .ref 0), (1, .int (nI 3)), (2, .int y), (3, .int (nI f)), (4, .int (nI N))] [.int (bI true)] (pX ((kdC c), (moC c), (kiC c), lo2, (haC c), (wiC c), (paC c)) d k r tr kr rd ft tg tc lw kl ik ri s0 s1 s2 s3 tx) rfl rfl rfl ?_
                          have hx := liA_t (ce := s3.2.2) (f := f) (m := i) (s := (loC c, 0)) (by rw [← hp9]; exact hG) (by rw [← hl9]; exact hH)
                          rw [← hp9, ← hl9] at hx
                          obtain ⟨q9, hq9, eq9⟩ := wiB_t hG (by omega)
                          have hcl : cl p9 = q9 := by rw [eq9]; exact nI_clamp (by omega)
                          rw [hcl] at hx
                          refine V.g2 60 [27, 36, 68, 153] mX6_loadsBy_ok rfl ?_
                          refine And.intro (fun e => absurd e (by decide)) (fun _ => ?_)
                          refine ⟨q9, by omega, eq9, rfl, ?_⟩
                          refine V.kn [7, 6, 5, 0, 1, 2, 3, 4] [(7, .int (nI i)), (6, .int (x6 + zi 1)), (5, .ref 98), (0, .ref 0), (1, .int (nI 3)), (2, .int y), (3, .int (nI f)), (4, .int (nI N))] [] (pX ((kdC c), (moC c), (kiC c), (upd lo2 q9 l9), (haC c), (wiC c), (paC c)) d k r tr kr rd ft tg tc lw kl ik ri s0 s1 s2 s3 tx) rfl rfl rfl ?_
                          exact t153 _ _ (by rw [hx]; exact ninc h6) (by rw [hx, ← hlo])
                refine V.kn [7, 6, 5, 0, 1, 2, 3, 4] [(7, .int (nI 0)), (6, .int (nI 0)), (5, .ref 98), (0, .ref 0), (1, .int (nI 3)), (2, .int y), (3, .int (nI f)), (4, .int (nI N))] [] (pX c d k r tr kr rd ft tg tc lw kl ik ri s0 s1 s2 s3 tx) rfl rfl rfl ?_
                exact loop N 0 _ _ (loC c) (by omega) rfl rfl rfl (Or.inl rfl)
            · exact ⟨_, zsim_rfl _, g2 e1 e2⟩
          · exact ⟨_, zsim_rfl _, g1 e1⟩
