def T6_feed : zT := fun args hs Q => ∃ (c d k : zCart) (r tr kr : zRow) (rd : zRd) (ft : Nat) (tg : Nat → Option Nat) (tc lw kl ik : Int32) (ri : zRi) (s0 s1 s2 s3 : zSh) (tx : zTx) (x b1 b2 b3 b4 b5 : Int32) (t : Nat), t ≤ 160 ∧ rd.2.1 = nI t ∧ args = [.ref 0, .int x, .int b1, .int b2, .int b3, .int b4, .int b5] ∧ hs = pX c d k r tr kr rd ft tg tc lw kl ik ri s0 s1 s2 s3 tx ∧ (feB x b1 b2 b3 b4 b5 = false → Q (some (.int (-2))) hs) ∧ (∀ n, 1 ≤ n → n ≤ 5 → x = nI n → feB x b1 b2 b3 b4 b5 = true → (160 < t + n → Q (some (.int (-4))) hs) ∧ (t + n ≤ 160 → Q (some (.int (nI (t + n)))) (pX c d k r tr kr (fdF rd.1 t (feV b1 b2 b3 b4 b5) n, (nI (t + n)), (rd.2.2.1), (rd.2.2.2.1), (rd.2.2.2.2.1), (rd.2.2.2.2.2.1), (rd.2.2.2.2.2.2.1), (rd.2.2.2.2.2.2.2.1), (rd.2.2.2.2.2.2.2.2.1), (rd.2.2.2.2.2.2.2.2.2)) ft tg tc lw kl ik ri s0 s1 s2 s3 tx)))
set_option maxHeartbeats 4000000 in
theorem c6_feed (l : Launch) : Ct l mX6_feed false 4 0 0 T6_feed := by
  refine Ct.intro mX6_feed_ok ?_
  rintro args hs Q ⟨c, d, k, r, tr, kr, rd, ft, tg, tc, lw, kl, ik, ri, s0, s1, s2, s3, tx, x, b1, b2, b3, b4, b5, t, ht, hsz, rfl, rfl, h0, h1⟩
  obtain ⟨tp, sz, pla, tok, tpl, num, flt, cod, csz, eds⟩ := rd
  refine ⟨Nat.le_of_ble_eq_true rfl, ?_⟩
  have hsz : sz = nI t := hsz
  subst hsz
  refine V.nm [(0, .ref 0), (1, .int x), (2, .int b1), (3, .int b2), (4, .int b3), (5, .int b4), (6, .int b5)] [] (pX c d k r tr kr (tp, (nI t), pla, tok, tpl, num, flt, cod, csz, eds) ft tg tc lw kl ik ri s0 s1 s2 s3 tx) rfl rfl rfl ?_
  refine V.g2 60 [47, 68, 89, 103, 117, 131] mX6_feed_ok rfl ?_
  refine V.cS0 mX6_feed_ok rfl lX6_114 (ct_within l) rfl [.int x, .int (nI 1), .int (nI 5)] [] rfl rfl rfl (some (.int (bI (decide ((nI 1) ≤ x) && decide (x ≤ (nI 5)))))) (T_within_use rfl) ?_
  cases hB : (decide ((nI 1) ≤ x) && decide (x ≤ (nI 5))) with
  | false =>
    refine V.nm [(0, .ref 0), (1, .int x), (2, .int b1), (3, .int b2), (4, .int b3), (5, .int b4), (6, .int b5)] [.int (bI false)] (pX c d k r tr kr (tp, (nI t), pla, tok, tpl, num, flt, cod, csz, eds) ft tg tc lw kl ik ri s0 s1 s2 s3 tx) rfl rfl rfl ?_
    refine V.g2 60 [47, 68, 89, 103, 117, 131] mX6_feed_ok rfl ?_
    refine And.intro (fun _ => ?_) (fun e => absurd rfl e)
    refine V.g2 60 [47, 68, 89, 103, 117, 131] mX6_feed_ok rfl ?_
    exact ⟨_, zsim_rfl _, h0 (by rw [feB, hB]; simp)⟩
  | true =>
    refine V.nm [(0, .ref 0), (1, .int x), (2, .int b1), (3, .int b2), (4, .int b3), (5, .int b4), (6, .int b5)] [.int (bI true)] (pX c d k r tr kr (tp, (nI t), pla, tok, tpl, num, flt, cod, csz, eds) ft tg tc lw kl ik ri s0 s1 s2 s3 tx) rfl rfl rfl ?_
    refine V.g2 60 [47, 68, 89, 103, 117, 131] mX6_feed_ok rfl ?_
    refine And.intro (fun e => absurd e (by decide)) (fun _ => ?_)
    refine V.cS0 mX6_feed_ok rfl lX6_118 (ct_isByte l) rfl [.int b1] [] rfl rfl rfl (some (.int (bI (wiB b1 255)))) ⟨_, rfl, rfl, rfl⟩ ?_
    cases hC1 : wiB b1 255 with
    | false =>
      refine V.nm [(0, .ref 0), (1, .int x), (2, .int b1), (3, .int b2), (4, .int b3), (5, .int b4), (6, .int b5)] [.int (bI false)] (pX c d k r tr kr (tp, (nI t), pla, tok, tpl, num, flt, cod, csz, eds) ft tg tc lw kl ik ri s0 s1 s2 s3 tx) rfl rfl rfl ?_
      refine V.g2 60 [47, 68, 89, 103, 117, 131] mX6_feed_ok rfl ?_
      refine And.intro (fun _ => ?_) (fun e => absurd rfl e)
      refine V.g2 60 [47, 68, 89, 103, 117, 131] mX6_feed_ok rfl ?_
      exact ⟨_, zsim_rfl _, h0 (by rw [feB, hB, hC1]; simp)⟩
    | true =>
      refine V.nm [(0, .ref 0), (1, .int x), (2, .int b1), (3, .int b2), (4, .int b3), (5, .int b4), (6, .int b5)] [.int (bI true)] (pX c d k r tr kr (tp, (nI t), pla, tok, tpl, num, flt, cod, csz, eds) ft tg tc lw kl ik ri s0 s1 s2 s3 tx) rfl rfl rfl ?_
      refine V.g2 60 [47, 68, 89, 103, 117, 131] mX6_feed_ok rfl ?_
      refine And.intro (fun e => absurd e (by decide)) (fun _ => ?_)
      refine V.cS0 mX6_feed_ok rfl lX6_118 (ct_isByte l) rfl [.int b2] [] rfl rfl rfl (some (.int (bI (wiB b2 255)))) ⟨_, rfl, rfl, rfl⟩ ?_
      cases hC2 : wiB b2 255 with
      | false =>
        refine V.nm [(0, .ref 0), (1, .int x), (2, .int b1), (3, .int b2), (4, .int b3), (5, .int b4), (6, .int b5)] [.int (bI false)] (pX c d k r tr kr (tp, (nI t), pla, tok, tpl, num, flt, cod, csz, eds) ft tg tc lw kl ik ri s0 s1 s2 s3 tx) rfl rfl rfl ?_
        refine V.g2 60 [47, 68, 89, 103, 117, 131] mX6_feed_ok rfl ?_
        refine And.intro (fun _ => ?_) (fun e => absurd rfl e)
        refine V.g2 60 [47, 68, 89, 103, 117, 131] mX6_feed_ok rfl ?_
        exact ⟨_, zsim_rfl _, h0 (by rw [feB, hB, hC1, hC2]; simp)⟩
      | true =>
        refine V.nm [(0, .ref 0), (1, .int x), (2, .int b1), (3, .int b2), (4, .int b3), (5, .int b4), (6, .int b5)] [.int (bI true)] (pX c d k r tr kr (tp, (nI t), pla, tok, tpl, num, flt, cod, csz, eds) ft tg tc lw kl ik ri s0 s1 s2 s3 tx) rfl rfl rfl ?_
        refine V.g2 60 [47, 68, 89, 103, 117, 131] mX6_feed_ok rfl ?_
        refine And.intro (fun e => absurd e (by decide)) (fun _ => ?_)
        refine V.cS0 mX6_feed_ok rfl lX6_118 (ct_isByte l) rfl [.int b3] [] rfl rfl rfl (some (.int (bI (wiB b3 255)))) ⟨_, rfl, rfl, rfl⟩ ?_
        cases hC3 : wiB b3 255 with
        | false =>
          refine V.nm [(0, .ref 0), (1, .int x), (2, .int b1), (3, .int b2), (4, .int b3), (5, .int b4), (6, .int b5)] [.int (bI false)] (pX c d k r tr kr (tp, (nI t), pla, tok, tpl, num, flt, cod, csz, eds) ft tg tc lw kl ik ri s0 s1 s2 s3 tx) rfl rfl rfl ?_
          refine V.g2 60 [47, 68, 89, 103, 117, 131] mX6_feed_ok rfl ?_
          refine And.intro (fun _ => ?_) (fun e => absurd rfl e)
          refine V.g2 60 [47, 68, 89, 103, 117, 131] mX6_feed_ok rfl ?_
          exact ⟨_, zsim_rfl _, h0 (by rw [feB, hB, hC1, hC2, hC3]; simp)⟩
        | true =>
          refine V.nm [(0, .ref 0), (1, .int x), (2, .int b1), (3, .int b2), (4, .int b3), (5, .int b4), (6, .int b5)] [.int (bI true)] (pX c d k r tr kr (tp, (nI t), pla, tok, tpl, num, flt, cod, csz, eds) ft tg tc lw kl ik ri s0 s1 s2 s3 tx) rfl rfl rfl ?_
          refine V.g2 60 [47, 68, 89, 103, 117, 131] mX6_feed_ok rfl ?_
          refine And.intro (fun e => absurd e (by decide)) (fun _ => ?_)
          refine V.cS0 mX6_feed_ok rfl lX6_118 (ct_isByte l) rfl [.int b4] [] rfl rfl rfl (some (.int (bI (wiB b4 255)))) ⟨_, rfl, rfl, rfl⟩ ?_
          cases hC4 : wiB b4 255 with
          | false =>
            refine V.nm [(0, .ref 0), (1, .int x), (2, .int b1), (3, .int b2), (4, .int b3), (5, .int b4), (6, .int b5)] [.int (bI false)] (pX c d k r tr kr (tp, (nI t), pla, tok, tpl, num, flt, cod, csz, eds) ft tg tc lw kl ik ri s0 s1 s2 s3 tx) rfl rfl rfl ?_
            refine V.g2 60 [47, 68, 89, 103, 117, 131] mX6_feed_ok rfl ?_
            refine And.intro (fun _ => ?_) (fun e => absurd rfl e)
            refine V.g2 60 [47, 68, 89, 103, 117, 131] mX6_feed_ok rfl ?_
            exact ⟨_, zsim_rfl _, h0 (by rw [feB, hB, hC1, hC2, hC3, hC4]; simp)⟩
          | true =>
            refine V.nm [(0, .ref 0), (1, .int x), (2, .int b1), (3, .int b2), (4, .int b3), (5, .int b4), (6, .int b5)] [.int (bI true)] (pX c d k r tr kr (tp, (nI t), pla, tok, tpl, num, flt, cod, csz, eds) ft tg tc lw kl ik ri s0 s1 s2 s3 tx) rfl rfl rfl ?_
            refine V.g2 60 [47, 68, 89, 103, 117, 131] mX6_feed_ok rfl ?_
            refine And.intro (fun e => absurd e (by decide)) (fun _ => ?_)
            refine V.cS0 mX6_feed_ok rfl lX6_118 (ct_isByte l) rfl [.int b5] [] rfl rfl rfl (some (.int (bI (wiB b5 255)))) ⟨_, rfl, rfl, rfl⟩ ?_
            cases hC5 : wiB b5 255 with
            | false =>
              refine V.nm [(0, .ref 0), (1, .int x), (2, .int b1), (3, .int b2), (4, .int b3), (5, .int b4), (6, .int b5)] [.int (bI false)] (pX c d k r tr kr (tp, (nI t), pla, tok, tpl, num, flt, cod, csz, eds) ft tg tc lw kl ik ri s0 s1 s2 s3 tx) rfl rfl rfl ?_
              refine V.g2 60 [47, 68, 89, 103, 117, 131] mX6_feed_ok rfl ?_
              refine And.intro (fun e => absurd rfl e) (fun _ => ?_)
              refine V.g2 60 [47, 68, 89, 103, 117, 131] mX6_feed_ok rfl ?_
              exact ⟨_, zsim_rfl _, h0 (by rw [feB, hB, hC1, hC2, hC3, hC4, hC5]; simp)⟩
            | true =>
              refine V.nm [(0, .ref 0), (1, .int x), (2, .int b1), (3, .int b2), (4, .int b3), (5, .int b4), (6, .int b5)] [.int (bI true)] (pX c d k r tr kr (tp, (nI t), pla, tok, tpl, num, flt, cod, csz, eds) ft tg tc lw kl ik ri s0 s1 s2 s3 tx) rfl rfl rfl ?_
              have hfe : feB x b1 b2 b3 b4 b5 = true := by rw [feB, hB, hC1, hC2, hC3, hC4, hC5]; rfl
              rw [Bool.and_eq_true, decide_eq_true_eq, decide_eq_true_eq] at hB
              obtain ⟨n, hn, rfl⟩ := nI_of (Int32.not_lt.mpr (Int32.le_trans (show (0 : Int32) ≤ nI 1 by decide) hB.1))
              have hn1 : 1 ≤ n := (nI_leI (by omega) hn).mp hB.1
              have hn2 : n ≤ 5 := (nI_leI hn (by omega)).mp hB.2
              obtain ⟨g1, g2⟩ := h1 n hn1 hn2 rfl hfe
              clear h0 h1 hfe hB hC1 hC2 hC3 hC4 hC5
              refine V.nm [(0, .ref 0), (1, .int (nI n)), (2, .int b1), (3, .int b2), (4, .int b3), (5, .int b4), (6, .int b5)] [.int (bI true)] (pX c d k r tr kr (tp, (nI t), pla, tok, tpl, num, flt, cod, csz, eds) ft tg tc lw kl ik ri s0 s1 s2 s3 tx) rfl rfl rfl ?_
              refine V.g2 60 [47, 68, 89, 103, 117, 131] mX6_feed_ok rfl ?_
              refine And.intro (fun _ => ?_) (fun e => absurd e (by decide))
              refine pk_le (t + n) 160 (fun e1 => ?_) (fun e1 => ?_) (nadd rfl rfl) rfl
              · have g2 := g2 (by omega)
                clear g1
                refine V.nm [(0, .ref 0), (1, .int (nI n)), (2, .int b1), (3, .int b2), (4, .int b3), (5, .int b4), (6, .int b5)] [] (pX c d k r tr kr (tp, (nI t), pla, tok, tpl, num, flt, cod, csz, eds) ft tg tc lw kl ik ri s0 s1 s2 s3 tx) rfl rfl rfl ?_
                obtain ⟨S, hS⟩ : ∃ S, pX c d k r tr kr (tp, (nI t), pla, tok, tpl, num, flt, cod, csz, eds) ft tg tc lw kl ik ri s0 s1 s2 s3 tx = S := ⟨_, rfl⟩
                refine V.s0 hS ?_
                rcases (show n = 1 ∨ n = 2 ∨ n = 3 ∨ n = 4 ∨ n = 5 by omega) with rfl | rfl | rfl | rfl | rfl
                · refine V.nm [(0, .ref 0), (1, .int (nI 1)), (2, .int b1), (3, .int b2), (4, .int b3), (5, .int b4), (6, .int b5)] [] (pX c d k r tr kr (tp, (nI t), pla, tok, tpl, num, flt, cod, csz, eds) ft tg tc lw kl ik ri s0 s1 s2 s3 tx) rfl rfl rfl ?_
                  refine V.g2 60 [47, 68, 89, 103, 117, 131] mX6_feed_ok rfl ?_
                  refine V.cV1P mX6_feed_ok rfl lX6_80 (c1_append l) rfl 56 rfl [34, 35, 36, 37] [none, none, none, none, none, none, none, none, none, none, none, none, none, none, none, none, none, none, none, none, none, none, none, none, none, none, none, none, none, none, none, none, none, none, some 0, some 1, some 2, some 3, none, none, none, none, none, none, none, none, none, none, none, none, none, none, none, none, none, none] (by decide +kernel) (pRd 0 (tp, (nI t), pla, tok, tpl, num, flt, cod, csz, eds)) [.ref 0, .int b1] [] rfl 0 1 rfl rfl rfl rfl rfl rfl rfl rfl none (pRd 0 ((upd tp (t + 0) b1), (nI (t + 0 + 1)), pla, tok, tpl, num, flt, cod, csz, eds)) ⟨tp, (nI t), pla, tok, tpl, num, flt, cod, csz, eds, b1, t + 0, by omega, rfl, rfl, rfl, fun _ => ⟨rfl, rfl⟩, fun z => absurd z (by omega)⟩ rfl (pX c d k r tr kr ((upd tp (t + 0) b1), (nI (t + 0 + 1)), pla, tok, tpl, num, flt, cod, csz, eds) ft tg tc lw kl ik ri s0 s1 s2 s3 tx) [] rfl rfl ?_
                  rw [show upd tp (t + 0) b1 = (fdF tp t (feV b1 b2 b3 b4 b5) 1) from (by have := fdF_s tp t (feV b1 b2 b3 b4 b5) 0; rw [fdF_0] at this; exact this)]
                  refine V.nm [(0, .ref 0), (1, .int (nI 1)), (2, .int b1), (3, .int b2), (4, .int b3), (5, .int b4), (6, .int b5)] [] (pX c d k r tr kr ((fdF tp t (feV b1 b2 b3 b4 b5) 1), (nI (t + 1)), pla, tok, tpl, num, flt, cod, csz, eds) ft tg tc lw kl ik ri s0 s1 s2 s3 tx) rfl rfl rfl ?_
                  refine V.g2 60 [47, 68, 89, 103, 117, 131] mX6_feed_ok rfl ?_
                  refine pk_le 1 1 (fun e0 => ?_) (fun e0 => absurd e0 (by omega)) rfl rfl
                  refine V.g2 60 [47, 68, 89, 103, 117, 131] mX6_feed_ok rfl ?_
                  refine pk_le 1 2 (fun e0 => ?_) (fun e0 => absurd e0 (by omega)) rfl rfl
                  refine V.g2 60 [47, 68, 89, 103, 117, 131] mX6_feed_ok rfl ?_
                  refine pk_le 1 3 (fun e0 => ?_) (fun e0 => absurd e0 (by omega)) rfl rfl
                  refine V.g2 60 [47, 68, 89, 103, 117, 131] mX6_feed_ok rfl ?_
                  refine pk_le 1 4 (fun e0 => ?_) (fun e0 => absurd e0 (by omega)) rfl rfl
                  refine V.g2 60 [47, 68, 89, 103, 117, 131] mX6_feed_ok rfl ?_
                  exact ⟨_, zsim_rfl _, g2⟩
                · refine V.nm [(0, .ref 0), (1, .int (nI 2)), (2, .int b1), (3, .int b2), (4, .int b3), (5, .int b4), (6, .int b5)] [] (pX c d k r tr kr (tp, (nI t), pla, tok, tpl, num, flt, cod, csz, eds) ft tg tc lw kl ik ri s0 s1 s2 s3 tx) rfl rfl rfl ?_
                  refine V.g2 60 [47, 68, 89, 103, 117, 131] mX6_feed_ok rfl ?_
                  refine V.cV1P mX6_feed_ok rfl lX6_80 (c1_append l) rfl 56 rfl [34, 35, 36, 37] [none, none, none, none, none, none, none, none, none, none, none, none, none, none, none, none, none, none, none, none, none, none, none, none, none, none, none, none, none, none, none, none, none, none, some 0, some 1, some 2, some 3, none, none, none, none, none, none, none, none, none, none, none, none, none, none, none, none, none, none] (by decide +kernel) (pRd 0 (tp, (nI t), pla, tok, tpl, num, flt, cod, csz, eds)) [.ref 0, .int b1] [] rfl 0 1 rfl rfl rfl rfl rfl rfl rfl rfl none (pRd 0 ((upd tp (t + 0) b1), (nI (t + 0 + 1)), pla, tok, tpl, num, flt, cod, csz, eds)) ⟨tp, (nI t), pla, tok, tpl, num, flt, cod, csz, eds, b1, t + 0, by omega, rfl, rfl, rfl, fun _ => ⟨rfl, rfl⟩, fun z => absurd z (by omega)⟩ rfl (pX c d k r tr kr ((upd tp (t + 0) b1), (nI (t + 0 + 1)), pla, tok, tpl, num, flt, cod, csz, eds) ft tg tc lw kl ik ri s0 s1 s2 s3 tx) [] rfl rfl ?_
                  rw [show upd tp (t + 0) b1 = (fdF tp t (feV b1 b2 b3 b4 b5) 1) from (by have := fdF_s tp t (feV b1 b2 b3 b4 b5) 0; rw [fdF_0] at this; exact this)]
                  refine V.nm [(0, .ref 0), (1, .int (nI 2)), (2, .int b1), (3, .int b2), (4, .int b3), (5, .int b4), (6, .int b5)] [] (pX c d k r tr kr ((fdF tp t (feV b1 b2 b3 b4 b5) 1), (nI (t + 1)), pla, tok, tpl, num, flt, cod, csz, eds) ft tg tc lw kl ik ri s0 s1 s2 s3 tx) rfl rfl rfl ?_
                  refine V.g2 60 [47, 68, 89, 103, 117, 131] mX6_feed_ok rfl ?_
                  refine pk_le 2 1 (fun e0 => absurd e0 (by omega)) (fun e0 => ?_) rfl rfl
                  refine V.cV1P mX6_feed_ok rfl lX6_80 (c1_append l) rfl 56 rfl [34, 35, 36, 37] [none, none, none, none, none, none, none, none, none, none, none, none, none, none, none, none, none, none, none, none, none, none, none, none, none, none, none, none, none, none, none, none, none, none, some 0, some 1, some 2, some 3, none, none, none, none, none, none, none, none, none, none, none, none, none, none, none, none, none, none] (by decide +kernel) (pRd 0 ((fdF tp t (feV b1 b2 b3 b4 b5) 1), (nI (t + 1)), pla, tok, tpl, num, flt, cod, csz, eds)) [.ref 0, .int b2] [] rfl 0 1 rfl rfl rfl rfl rfl rfl rfl rfl none (pRd 0 ((upd (fdF tp t (feV b1 b2 b3 b4 b5) 1) (t + 1) b2), (nI (t + 1 + 1)), pla, tok, tpl, num, flt, cod, csz, eds)) ⟨(fdF tp t (feV b1 b2 b3 b4 b5) 1), (nI (t + 1)), pla, tok, tpl, num, flt, cod, csz, eds, b2, t + 1, by omega, rfl, rfl, rfl, fun _ => ⟨rfl, rfl⟩, fun z => absurd z (by omega)⟩ rfl (pX c d k r tr kr ((upd (fdF tp t (feV b1 b2 b3 b4 b5) 1) (t + 1) b2), (nI (t + 1 + 1)), pla, tok, tpl, num, flt, cod, csz, eds) ft tg tc lw kl ik ri s0 s1 s2 s3 tx) [] rfl rfl ?_
                  rw [show upd (fdF tp t (feV b1 b2 b3 b4 b5) 1) (t + 1) b2 = (fdF tp t (feV b1 b2 b3 b4 b5) 2) from (fdF_s tp t (feV b1 b2 b3 b4 b5) 1)]
                  refine V.nm [(0, .ref 0), (1, .int (nI 2)), (2, .int b1), (3, .int b2), (4, .int b3), (5, .int b4), (6, .int b5)] [] (pX c d k r tr kr ((fdF tp t (feV b1 b2 b3 b4 b5) 2), (nI (t + 2)), pla, tok, tpl, num, flt, cod, csz, eds) ft tg tc lw kl ik ri s0 s1 s2 s3 tx) rfl rfl rfl ?_
                  refine V.g2 60 [47, 68, 89, 103, 117, 131] mX6_feed_ok rfl ?_
                  refine pk_le 2 2 (fun e0 => ?_) (fun e0 => absurd e0 (by omega)) rfl rfl
                  refine V.g2 60 [47, 68, 89, 103, 117, 131] mX6_feed_ok rfl ?_
                  refine pk_le 2 3 (fun e0 => ?_) (fun e0 => absurd e0 (by omega)) rfl rfl
                  refine V.g2 60 [47, 68, 89, 103, 117, 131] mX6_feed_ok rfl ?_
                  refine pk_le 2 4 (fun e0 => ?_) (fun e0 => absurd e0 (by omega)) rfl rfl
                  refine V.g2 60 [47, 68, 89, 103, 117, 131] mX6_feed_ok rfl ?_
                  exact ⟨_, zsim_rfl _, g2⟩
                · refine V.nm [(0, .ref 0), (1, .int (nI 3)), (2, .int b1), (3, .int b2), (4, .int b3), (5, .int b4), (6, .int b5)] [] (pX c d k r tr kr (tp, (nI t), pla, tok, tpl, num, flt, cod, csz, eds) ft tg tc lw kl ik ri s0 s1 s2 s3 tx) rfl rfl rfl ?_
                  refine V.g2 60 [47, 68, 89, 103, 117, 131] mX6_feed_ok rfl ?_
                  refine V.cV1P mX6_feed_ok rfl lX6_80 (c1_append l) rfl 56 rfl [34, 35, 36, 37] [none, none, none, none, none, none, none, none, none, none, none, none, none, none, none, none, none, none, none, none, none, none, none, none, none, none, none, none, none, none, none, none, none, none, some 0, some 1, some 2, some 3, none, none, none, none, none, none, none, none, none, none, none, none, none, none, none, none, none, none] (by decide +kernel) (pRd 0 (tp, (nI t), pla, tok, tpl, num, flt, cod, csz, eds)) [.ref 0, .int b1] [] rfl 0 1 rfl rfl rfl rfl rfl rfl rfl rfl none (pRd 0 ((upd tp (t + 0) b1), (nI (t + 0 + 1)), pla, tok, tpl, num, flt, cod, csz, eds)) ⟨tp, (nI t), pla, tok, tpl, num, flt, cod, csz, eds, b1, t + 0, by omega, rfl, rfl, rfl, fun _ => ⟨rfl, rfl⟩, fun z => absurd z (by omega)⟩ rfl (pX c d k r tr kr ((upd tp (t + 0) b1), (nI (t + 0 + 1)), pla, tok, tpl, num, flt, cod, csz, eds) ft tg tc lw kl ik ri s0 s1 s2 s3 tx) [] rfl rfl ?_
                  rw [show upd tp (t + 0) b1 = (fdF tp t (feV b1 b2 b3 b4 b5) 1) from (by have := fdF_s tp t (feV b1 b2 b3 b4 b5) 0; rw [fdF_0] at this; exact this)]
                  refine V.nm [(0, .ref 0), (1, .int (nI 3)), (2, .int b1), (3, .int b2), (4, .int b3), (5, .int b4), (6, .int b5)] [] (pX c d k r tr kr ((fdF tp t (feV b1 b2 b3 b4 b5) 1), (nI (t + 1)), pla, tok, tpl, num, flt, cod, csz, eds) ft tg tc lw kl ik ri s0 s1 s2 s3 tx) rfl rfl rfl ?_
                  refine V.g2 60 [47, 68, 89, 103, 117, 131] mX6_feed_ok rfl ?_
                  refine pk_le 3 1 (fun e0 => absurd e0 (by omega)) (fun e0 => ?_) rfl rfl
                  refine V.cV1P mX6_feed_ok rfl lX6_80 (c1_append l) rfl 56 rfl [34, 35, 36, 37] [none, none, none, none, none, none, none, none, none, none, none, none, none, none, none, none, none, none, none, none, none, none, none, none, none, none, none, none, none, none, none, none, none, none, some 0, some 1, some 2, some 3, none, none, none, none, none, none, none, none, none, none, none, none, none, none, none, none, none, none] (by decide +kernel) (pRd 0 ((fdF tp t (feV b1 b2 b3 b4 b5) 1), (nI (t + 1)), pla, tok, tpl, num, flt, cod, csz, eds)) [.ref 0, .int b2] [] rfl 0 1 rfl rfl rfl rfl rfl rfl rfl rfl none (pRd 0 ((upd (fdF tp t (feV b1 b2 b3 b4 b5) 1) (t + 1) b2), (nI (t + 1 + 1)), pla, tok, tpl, num, flt, cod, csz, eds)) ⟨(fdF tp t (feV b1 b2 b3 b4 b5) 1), (nI (t + 1)), pla, tok, tpl, num, flt, cod, csz, eds, b2, t + 1, by omega, rfl, rfl, rfl, fun _ => ⟨rfl, rfl⟩, fun z => absurd z (by omega)⟩ rfl (pX c d k r tr kr ((upd (fdF tp t (feV b1 b2 b3 b4 b5) 1) (t + 1) b2), (nI (t + 1 + 1)), pla, tok, tpl, num, flt, cod, csz, eds) ft tg tc lw kl ik ri s0 s1 s2 s3 tx) [] rfl rfl ?_
                  rw [show upd (fdF tp t (feV b1 b2 b3 b4 b5) 1) (t + 1) b2 = (fdF tp t (feV b1 b2 b3 b4 b5) 2) from (fdF_s tp t (feV b1 b2 b3 b4 b5) 1)]
                  refine V.nm [(0, .ref 0), (1, .int (nI 3)), (2, .int b1), (3, .int b2), (4, .int b3), (5, .int b4), (6, .int b5)] [] (pX c d k r tr kr ((fdF tp t (feV b1 b2 b3 b4 b5) 2), (nI (t + 2)), pla, tok, tpl, num, flt, cod, csz, eds) ft tg tc lw kl ik ri s0 s1 s2 s3 tx) rfl rfl rfl ?_
                  refine V.g2 60 [47, 68, 89, 103, 117, 131] mX6_feed_ok rfl ?_
                  refine pk_le 3 2 (fun e0 => absurd e0 (by omega)) (fun e0 => ?_) rfl rfl
                  refine V.cV1P mX6_feed_ok rfl lX6_80 (c1_append l) rfl 56 rfl [34, 35, 36, 37] [none, none, none, none, none, none, none, none, none, none, none, none, none, none, none, none, none, none, none, none, none, none, none, none, none, none, none, none, none, none, none, none, none, none, some 0, some 1, some 2, some 3, none, none, none, none, none, none, none, none, none, none, none, none, none, none, none, none, none, none] (by decide +kernel) (pRd 0 ((fdF tp t (feV b1 b2 b3 b4 b5) 2), (nI (t + 2)), pla, tok, tpl, num, flt, cod, csz, eds)) [.ref 0, .int b3] [] rfl 0 1 rfl rfl rfl rfl rfl rfl rfl rfl none (pRd 0 ((upd (fdF tp t (feV b1 b2 b3 b4 b5) 2) (t + 2) b3), (nI (t + 2 + 1)), pla, tok, tpl, num, flt, cod, csz, eds)) ⟨(fdF tp t (feV b1 b2 b3 b4 b5) 2), (nI (t + 2)), pla, tok, tpl, num, flt, cod, csz, eds, b3, t + 2, by omega, rfl, rfl, rfl, fun _ => ⟨rfl, rfl⟩, fun z => absurd z (by omega)⟩ rfl (pX c d k r tr kr ((upd (fdF tp t (feV b1 b2 b3 b4 b5) 2) (t + 2) b3), (nI (t + 2 + 1)), pla, tok, tpl, num, flt, cod, csz, eds) ft tg tc lw kl ik ri s0 s1 s2 s3 tx) [] rfl rfl ?_
                  rw [show upd (fdF tp t (feV b1 b2 b3 b4 b5) 2) (t + 2) b3 = (fdF tp t (feV b1 b2 b3 b4 b5) 3) from (fdF_s tp t (feV b1 b2 b3 b4 b5) 2)]
                  refine V.nm [(0, .ref 0), (1, .int (nI 3)), (2, .int b1), (3, .int b2), (4, .int b3), (5, .int b4), (6, .int b5)] [] (pX c d k r tr kr ((fdF tp t (feV b1 b2 b3 b4 b5) 3), (nI (t + 3)), pla, tok, tpl, num, flt, cod, csz, eds) ft tg tc lw kl ik ri s0 s1 s2 s3 tx) rfl rfl rfl ?_
                  refine V.g2 60 [47, 68, 89, 103, 117, 131] mX6_feed_ok rfl ?_
                  refine pk_le 3 3 (fun e0 => ?_) (fun e0 => absurd e0 (by omega)) rfl rfl
                  refine V.g2 60 [47, 68, 89, 103, 117, 131] mX6_feed_ok rfl ?_
                  refine pk_le 3 4 (fun e0 => ?_) (fun e0 => absurd e0 (by omega)) rfl rfl
                  refine V.g2 60 [47, 68, 89, 103, 117, 131] mX6_feed_ok rfl ?_
                  exact ⟨_, zsim_rfl _, g2⟩
                · refine V.nm [(0, .ref 0), (1, .int (nI 4)), (2, .int b1), (3, .int b2), (4, .int b3), (5, .int b4), (6, .int b5)] [] (pX c d k r tr kr (tp, (nI t), pla, tok, tpl, num, flt, cod, csz, eds) ft tg tc lw kl ik ri s0 s1 s2 s3 tx) rfl rfl rfl ?_
                  refine V.g2 60 [47, 68, 89, 103, 117, 131] mX6_feed_ok rfl ?_
                  refine V.cV1P mX6_feed_ok rfl lX6_80 (c1_append l) rfl 56 rfl [34, 35, 36, 37] [none, none, none, none, none, none, none, none, none, none, none, none, none, none, none, none, none, none, none, none, none, none, none, none, none, none, none, none, none, none, none, none, none, none, some 0, some 1, some 2, some 3, none, none, none, none, none, none, none, none, none, none, none, none, none, none, none, none, none, none] (by decide +kernel) (pRd 0 (tp, (nI t), pla, tok, tpl, num, flt, cod, csz, eds)) [.ref 0, .int b1] [] rfl 0 1 rfl rfl rfl rfl rfl rfl rfl rfl none (pRd 0 ((upd tp (t + 0) b1), (nI (t + 0 + 1)), pla, tok, tpl, num, flt, cod, csz, eds)) ⟨tp, (nI t), pla, tok, tpl, num, flt, cod, csz, eds, b1, t + 0, by omega, rfl, rfl, rfl, fun _ => ⟨rfl, rfl⟩, fun z => absurd z (by omega)⟩ rfl (pX c d k r tr kr ((upd tp (t + 0) b1), (nI (t + 0 + 1)), pla, tok, tpl, num, flt, cod, csz, eds) ft tg tc lw kl ik ri s0 s1 s2 s3 tx) [] rfl rfl ?_
                  rw [show upd tp (t + 0) b1 = (fdF tp t (feV b1 b2 b3 b4 b5) 1) from (by have := fdF_s tp t (feV b1 b2 b3 b4 b5) 0; rw [fdF_0] at this; exact this)]
                  refine V.nm [(0, .ref 0), (1, .int (nI 4)), (2, .int b1), (3, .int b2), (4, .int b3), (5, .int b4), (6, .int b5)] [] (pX c d k r tr kr ((fdF tp t (feV b1 b2 b3 b4 b5) 1), (nI (t + 1)), pla, tok, tpl, num, flt, cod, csz, eds) ft tg tc lw kl ik ri s0 s1 s2 s3 tx) rfl rfl rfl ?_
                  refine V.g2 60 [47, 68, 89, 103, 117, 131] mX6_feed_ok rfl ?_
                  refine pk_le 4 1 (fun e0 => absurd e0 (by omega)) (fun e0 => ?_) rfl rfl
                  refine V.cV1P mX6_feed_ok rfl lX6_80 (c1_append l) rfl 56 rfl [34, 35, 36, 37] [none, none, none, none, none, none, none, none, none, none, none, none, none, none, none, none, none, none, none, none, none, none, none, none, none, none, none, none, none, none, none, none, none, none, some 0, some 1, some 2, some 3, none, none, none, none, none, none, none, none, none, none, none, none, none, none, none, none, none, none] (by decide +kernel) (pRd 0 ((fdF tp t (feV b1 b2 b3 b4 b5) 1), (nI (t + 1)), pla, tok, tpl, num, flt, cod, csz, eds)) [.ref 0, .int b2] [] rfl 0 1 rfl rfl rfl rfl rfl rfl rfl rfl none (pRd 0 ((upd (fdF tp t (feV b1 b2 b3 b4 b5) 1) (t + 1) b2), (nI (t + 1 + 1)), pla, tok, tpl, num, flt, cod, csz, eds)) ⟨(fdF tp t (feV b1 b2 b3 b4 b5) 1), (nI (t + 1)), pla, tok, tpl, num, flt, cod, csz, eds, b2, t + 1, by omega, rfl, rfl, rfl, fun _ => ⟨rfl, rfl⟩, fun z => absurd z (by omega)⟩ rfl (pX c d k r tr kr ((upd (fdF tp t (feV b1 b2 b3 b4 b5) 1) (t + 1) b2), (nI (t + 1 + 1)), pla, tok, tpl, num, flt, cod, csz, eds) ft tg tc lw kl ik ri s0 s1 s2 s3 tx) [] rfl rfl ?_
                  rw [show upd (fdF tp t (feV b1 b2 b3 b4 b5) 1) (t + 1) b2 = (fdF tp t (feV b1 b2 b3 b4 b5) 2) from (fdF_s tp t (feV b1 b2 b3 b4 b5) 1)]
                  refine V.nm [(0, .ref 0), (1, .int (nI 4)), (2, .int b1), (3, .int b2), (4, .int b3), (5, .int b4), (6, .int b5)] [] (pX c d k r tr kr ((fdF tp t (feV b1 b2 b3 b4 b5) 2), (nI (t + 2)), pla, tok, tpl, num, flt, cod, csz, eds) ft tg tc lw kl ik ri s0 s1 s2 s3 tx) rfl rfl rfl ?_
                  refine V.g2 60 [47, 68, 89, 103, 117, 131] mX6_feed_ok rfl ?_
                  refine pk_le 4 2 (fun e0 => absurd e0 (by omega)) (fun e0 => ?_) rfl rfl
                  refine V.cV1P mX6_feed_ok rfl lX6_80 (c1_append l) rfl 56 rfl [34, 35, 36, 37] [none, none, none, none, none, none, none, none, none, none, none, none, none, none, none, none, none, none, none, none, none, none, none, none, none, none, none, none, none, none, none, none, none, none, some 0, some 1, some 2, some 3, none, none, none, none, none, none, none, none, none, none, none, none, none, none, none, none, none, none] (by decide +kernel) (pRd 0 ((fdF tp t (feV b1 b2 b3 b4 b5) 2), (nI (t + 2)), pla, tok, tpl, num, flt, cod, csz, eds)) [.ref 0, .int b3] [] rfl 0 1 rfl rfl rfl rfl rfl rfl rfl rfl none (pRd 0 ((upd (fdF tp t (feV b1 b2 b3 b4 b5) 2) (t + 2) b3), (nI (t + 2 + 1)), pla, tok, tpl, num, flt, cod, csz, eds)) ⟨(fdF tp t (feV b1 b2 b3 b4 b5) 2), (nI (t + 2)), pla, tok, tpl, num, flt, cod, csz, eds, b3, t + 2, by omega, rfl, rfl, rfl, fun _ => ⟨rfl, rfl⟩, fun z => absurd z (by omega)⟩ rfl (pX c d k r tr kr ((upd (fdF tp t (feV b1 b2 b3 b4 b5) 2) (t + 2) b3), (nI (t + 2 + 1)), pla, tok, tpl, num, flt, cod, csz, eds) ft tg tc lw kl ik ri s0 s1 s2 s3 tx) [] rfl rfl ?_
                  rw [show upd (fdF tp t (feV b1 b2 b3 b4 b5) 2) (t + 2) b3 = (fdF tp t (feV b1 b2 b3 b4 b5) 3) from (fdF_s tp t (feV b1 b2 b3 b4 b5) 2)]
                  refine V.nm [(0, .ref 0), (1, .int (nI 4)), (2, .int b1), (3, .int b2), (4, .int b3), (5, .int b4), (6, .int b5)] [] (pX c d k r tr kr ((fdF tp t (feV b1 b2 b3 b4 b5) 3), (nI (t + 3)), pla, tok, tpl, num, flt, cod, csz, eds) ft tg tc lw kl ik ri s0 s1 s2 s3 tx) rfl rfl rfl ?_
                  refine V.g2 60 [47, 68, 89, 103, 117, 131] mX6_feed_ok rfl ?_
                  refine pk_le 4 3 (fun e0 => absurd e0 (by omega)) (fun e0 => ?_) rfl rfl
                  refine V.cV1P mX6_feed_ok rfl lX6_80 (c1_append l) rfl 56 rfl [34, 35, 36, 37] [none, none, none, none, none, none, none, none, none, none, none, none, none, none, none, none, none, none, none, none, none, none, none, none, none, none, none, none, none, none, none, none, none, none, some 0, some 1, some 2, some 3, none, none, none, none, none, none, none, none, none, none, none, none, none, none, none, none, none, none] (by decide +kernel) (pRd 0 ((fdF tp t (feV b1 b2 b3 b4 b5) 3), (nI (t + 3)), pla, tok, tpl, num, flt, cod, csz, eds)) [.ref 0, .int b4] [] rfl 0 1 rfl rfl rfl rfl rfl rfl rfl rfl none (pRd 0 ((upd (fdF tp t (feV b1 b2 b3 b4 b5) 3) (t + 3) b4), (nI (t + 3 + 1)), pla, tok, tpl, num, flt, cod, csz, eds)) ⟨(fdF tp t (feV b1 b2 b3 b4 b5) 3), (nI (t + 3)), pla, tok, tpl, num, flt, cod, csz, eds, b4, t + 3, by omega, rfl, rfl, rfl, fun _ => ⟨rfl, rfl⟩, fun z => absurd z (by omega)⟩ rfl (pX c d k r tr kr ((upd (fdF tp t (feV b1 b2 b3 b4 b5) 3) (t + 3) b4), (nI (t + 3 + 1)), pla, tok, tpl, num, flt, cod, csz, eds) ft tg tc lw kl ik ri s0 s1 s2 s3 tx) [] rfl rfl ?_
                  rw [show upd (fdF tp t (feV b1 b2 b3 b4 b5) 3) (t + 3) b4 = (fdF tp t (feV b1 b2 b3 b4 b5) 4) from (fdF_s tp t (feV b1 b2 b3 b4 b5) 3)]
                  refine V.nm [(0, .ref 0), (1, .int (nI 4)), (2, .int b1), (3, .int b2), (4, .int b3), (5, .int b4), (6, .int b5)] [] (pX c d k r tr kr ((fdF tp t (feV b1 b2 b3 b4 b5) 4), (nI (t + 4)), pla, tok, tpl, num, flt, cod, csz, eds) ft tg tc lw kl ik ri s0 s1 s2 s3 tx) rfl rfl rfl ?_
                  refine V.g2 60 [47, 68, 89, 103, 117, 131] mX6_feed_ok rfl ?_
                  refine pk_le 4 4 (fun e0 => ?_) (fun e0 => absurd e0 (by omega)) rfl rfl
                  refine V.g2 60 [47, 68, 89, 103, 117, 131] mX6_feed_ok rfl ?_
                  exact ⟨_, zsim_rfl _, g2⟩
                · refine V.nm [(0, .ref 0), (1, .int (nI 5)), (2, .int b1), (3, .int b2), (4, .int b3), (5, .int b4), (6, .int b5)] [] (pX c d k r tr kr (tp, (nI t), pla, tok, tpl, num, flt, cod, csz, eds) ft tg tc lw kl ik ri s0 s1 s2 s3 tx) rfl rfl rfl ?_
                  refine V.g2 60 [47, 68, 89, 103, 117, 131] mX6_feed_ok rfl ?_
                  refine V.cV1P mX6_feed_ok rfl lX6_80 (c1_append l) rfl 56 rfl [34, 35, 36, 37] [none, none, none, none, none, none, none, none, none, none, none, none, none, none, none, none, none, none, none, none, none, none, none, none, none, none, none, none, none, none, none, none, none, none, some 0, some 1, some 2, some 3, none, none, none, none, none, none, none, none, none, none, none, none, none, none, none, none, none, none] (by decide +kernel) (pRd 0 (tp, (nI t), pla, tok, tpl, num, flt, cod, csz, eds)) [.ref 0, .int b1] [] rfl 0 1 rfl rfl rfl rfl rfl rfl rfl rfl none (pRd 0 ((upd tp (t + 0) b1), (nI (t + 0 + 1)), pla, tok, tpl, num, flt, cod, csz, eds)) ⟨tp, (nI t), pla, tok, tpl, num, flt, cod, csz, eds, b1, t + 0, by omega, rfl, rfl, rfl, fun _ => ⟨rfl, rfl⟩, fun z => absurd z (by omega)⟩ rfl (pX c d k r tr kr ((upd tp (t + 0) b1), (nI (t + 0 + 1)), pla, tok, tpl, num, flt, cod, csz, eds) ft tg tc lw kl ik ri s0 s1 s2 s3 tx) [] rfl rfl ?_
                  rw [show upd tp (t + 0) b1 = (fdF tp t (feV b1 b2 b3 b4 b5) 1) from (by have := fdF_s tp t (feV b1 b2 b3 b4 b5) 0; rw [fdF_0] at this; exact this)]
                  refine V.nm [(0, .ref 0), (1, .int (nI 5)), (2, .int b1), (3, .int b2), (4, .int b3), (5, .int b4), (6, .int b5)] [] (pX c d k r tr kr ((fdF tp t (feV b1 b2 b3 b4 b5) 1), (nI (t + 1)), pla, tok, tpl, num, flt, cod, csz, eds) ft tg tc lw kl ik ri s0 s1 s2 s3 tx) rfl rfl rfl ?_
                  refine V.g2 60 [47, 68, 89, 103, 117, 131] mX6_feed_ok rfl ?_
                  refine pk_le 5 1 (fun e0 => absurd e0 (by omega)) (fun e0 => ?_) rfl rfl
                  refine V.cV1P mX6_feed_ok rfl lX6_80 (c1_append l) rfl 56 rfl [34, 35, 36, 37] [none, none, none, none, none, none, none, none, none, none, none, none, none, none, none, none, none, none, none, none, none, none, none, none, none, none, none, none, none, none, none, none, none, none, some 0, some 1, some 2, some 3, none, none, none, none, none, none, none, none, none, none, none, none, none, none, none, none, none, none] (by decide +kernel) (pRd 0 ((fdF tp t (feV b1 b2 b3 b4 b5) 1), (nI (t + 1)), pla, tok, tpl, num, flt, cod, csz, eds)) [.ref 0, .int b2] [] rfl 0 1 rfl rfl rfl rfl rfl rfl rfl rfl none (pRd 0 ((upd (fdF tp t (feV b1 b2 b3 b4 b5) 1) (t + 1) b2), (nI (t + 1 + 1)), pla, tok, tpl, num, flt, cod, csz, eds)) ⟨(fdF tp t (feV b1 b2 b3 b4 b5) 1), (nI (t + 1)), pla, tok, tpl, num, flt, cod, csz, eds, b2, t + 1, by omega, rfl, rfl, rfl, fun _ => ⟨rfl, rfl⟩, fun z => absurd z (by omega)⟩ rfl (pX c d k r tr kr ((upd (fdF tp t (feV b1 b2 b3 b4 b5) 1) (t + 1) b2), (nI (t + 1 + 1)), pla, tok, tpl, num, flt, cod, csz, eds) ft tg tc lw kl ik ri s0 s1 s2 s3 tx) [] rfl rfl ?_
                  rw [show upd (fdF tp t (feV b1 b2 b3 b4 b5) 1) (t + 1) b2 = (fdF tp t (feV b1 b2 b3 b4 b5) 2) from (fdF_s tp t (feV b1 b2 b3 b4 b5) 1)]
                  refine V.nm [(0, .ref 0), (1, .int (nI 5)), (2, .int b1), (3, .int b2), (4, .int b3), (5, .int b4), (6, .int b5)] [] (pX c d k r tr kr ((fdF tp t (feV b1 b2 b3 b4 b5) 2), (nI (t + 2)), pla, tok, tpl, num, flt, cod, csz, eds) ft tg tc lw kl ik ri s0 s1 s2 s3 tx) rfl rfl rfl ?_
                  refine V.g2 60 [47, 68, 89, 103, 117, 131] mX6_feed_ok rfl ?_
                  refine pk_le 5 2 (fun e0 => absurd e0 (by omega)) (fun e0 => ?_) rfl rfl
                  refine V.cV1P mX6_feed_ok rfl lX6_80 (c1_append l) rfl 56 rfl [34, 35, 36, 37] [none, none, none, none, none, none, none, none, none, none, none, none, none, none, none, none, none, none, none, none, none, none, none, none, none, none, none, none, none, none, none, none, none, none, some 0, some 1, some 2, some 3, none, none, none, none, none, none, none, none, none, none, none, none, none, none, none, none, none, none] (by decide +kernel) (pRd 0 ((fdF tp t (feV b1 b2 b3 b4 b5) 2), (nI (t + 2)), pla, tok, tpl, num, flt, cod, csz, eds)) [.ref 0, .int b3] [] rfl 0 1 rfl rfl rfl rfl rfl rfl rfl rfl none (pRd 0 ((upd (fdF tp t (feV b1 b2 b3 b4 b5) 2) (t + 2) b3), (nI (t + 2 + 1)), pla, tok, tpl, num, flt, cod, csz, eds)) ⟨(fdF tp t (feV b1 b2 b3 b4 b5) 2), (nI (t + 2)), pla, tok, tpl, num, flt, cod, csz, eds, b3, t + 2, by omega, rfl, rfl, rfl, fun _ => ⟨rfl, rfl⟩, fun z => absurd z (by omega)⟩ rfl (pX c d k r tr kr ((upd (fdF tp t (feV b1 b2 b3 b4 b5) 2) (t + 2) b3), (nI (t + 2 + 1)), pla, tok, tpl, num, flt, cod, csz, eds) ft tg tc lw kl ik ri s0 s1 s2 s3 tx) [] rfl rfl ?_
                  rw [show upd (fdF tp t (feV b1 b2 b3 b4 b5) 2) (t + 2) b3 = (fdF tp t (feV b1 b2 b3 b4 b5) 3) from (fdF_s tp t (feV b1 b2 b3 b4 b5) 2)]
                  refine V.nm [(0, .ref 0), (1, .int (nI 5)), (2, .int b1), (3, .int b2), (4, .int b3), (5, .int b4), (6, .int b5)] [] (pX c d k r tr kr ((fdF tp t (feV b1 b2 b3 b4 b5) 3), (nI (t + 3)), pla, tok, tpl, num, flt, cod, csz, eds) ft tg tc lw kl ik ri s0 s1 s2 s3 tx) rfl rfl rfl ?_
                  refine V.g2 60 [47, 68, 89, 103, 117, 131] mX6_feed_ok rfl ?_
                  refine pk_le 5 3 (fun e0 => absurd e0 (by omega)) (fun e0 => ?_) rfl rfl
                  refine V.cV1P mX6_feed_ok rfl lX6_80 (c1_append l) rfl 56 rfl [34, 35, 36, 37] [none, none, none, none, none, none, none, none, none, none, none, none, none, none, none, none, none, none, none, none, none, none, none, none, none, none, none, none, none, none, none, none, none, none, some 0, some 1, some 2, some 3, none, none, none, none, none, none, none, none, none, none, none, none, none, none, none, none, none, none] (by decide +kernel) (pRd 0 ((fdF tp t (feV b1 b2 b3 b4 b5) 3), (nI (t + 3)), pla, tok, tpl, num, flt, cod, csz, eds)) [.ref 0, .int b4] [] rfl 0 1 rfl rfl rfl rfl rfl rfl rfl rfl none (pRd 0 ((upd (fdF tp t (feV b1 b2 b3 b4 b5) 3) (t + 3) b4), (nI (t + 3 + 1)), pla, tok, tpl, num, flt, cod, csz, eds)) ⟨(fdF tp t (feV b1 b2 b3 b4 b5) 3), (nI (t + 3)), pla, tok, tpl, num, flt, cod, csz, eds, b4, t + 3, by omega, rfl, rfl, rfl, fun _ => ⟨rfl, rfl⟩, fun z => absurd z (by omega)⟩ rfl (pX c d k r tr kr ((upd (fdF tp t (feV b1 b2 b3 b4 b5) 3) (t + 3) b4), (nI (t + 3 + 1)), pla, tok, tpl, num, flt, cod, csz, eds) ft tg tc lw kl ik ri s0 s1 s2 s3 tx) [] rfl rfl ?_
                  rw [show upd (fdF tp t (feV b1 b2 b3 b4 b5) 3) (t + 3) b4 = (fdF tp t (feV b1 b2 b3 b4 b5) 4) from (fdF_s tp t (feV b1 b2 b3 b4 b5) 3)]
                  refine V.nm [(0, .ref 0), (1, .int (nI 5)), (2, .int b1), (3, .int b2), (4, .int b3), (5, .int b4), (6, .int b5)] [] (pX c d k r tr kr ((fdF tp t (feV b1 b2 b3 b4 b5) 4), (nI (t + 4)), pla, tok, tpl, num, flt, cod, csz, eds) ft tg tc lw kl ik ri s0 s1 s2 s3 tx) rfl rfl rfl ?_
                  refine V.g2 60 [47, 68, 89, 103, 117, 131] mX6_feed_ok rfl ?_
                  refine pk_le 5 4 (fun e0 => absurd e0 (by omega)) (fun e0 => ?_) rfl rfl
                  refine V.cV1P mX6_feed_ok rfl lX6_80 (c1_append l) rfl 56 rfl [34, 35, 36, 37] [none, none, none, none, none, none, none, none, none, none, none, none, none, none, none, none, none, none, none, none, none, none, none, none, none, none, none, none, none, none, none, none, none, none, some 0, some 1, some 2, some 3, none, none, none, none, none, none, none, none, none, none, none, none, none, none, none, none, none, none] (by decide +kernel) (pRd 0 ((fdF tp t (feV b1 b2 b3 b4 b5) 4), (nI (t + 4)), pla, tok, tpl, num, flt, cod, csz, eds)) [.ref 0, .int b5] [] rfl 0 1 rfl rfl rfl rfl rfl rfl rfl rfl none (pRd 0 ((upd (fdF tp t (feV b1 b2 b3 b4 b5) 4) (t + 4) b5), (nI (t + 4 + 1)), pla, tok, tpl, num, flt, cod, csz, eds)) ⟨(fdF tp t (feV b1 b2 b3 b4 b5) 4), (nI (t + 4)), pla, tok, tpl, num, flt, cod, csz, eds, b5, t + 4, by omega, rfl, rfl, rfl, fun _ => ⟨rfl, rfl⟩, fun z => absurd z (by omega)⟩ rfl (pX c d k r tr kr ((upd (fdF tp t (feV b1 b2 b3 b4 b5) 4) (t + 4) b5), (nI (t + 4 + 1)), pla, tok, tpl, num, flt, cod, csz, eds) ft tg tc lw kl ik ri s0 s1 s2 s3 tx) [] rfl rfl ?_
                  rw [show upd (fdF tp t (feV b1 b2 b3 b4 b5) 4) (t + 4) b5 = (fdF tp t (feV b1 b2 b3 b4 b5) 5) from (fdF_s tp t (feV b1 b2 b3 b4 b5) 4)]
                  refine V.nm [(0, .ref 0), (1, .int (nI 5)), (2, .int b1), (3, .int b2), (4, .int b3), (5, .int b4), (6, .int b5)] [] (pX c d k r tr kr ((fdF tp t (feV b1 b2 b3 b4 b5) 5), (nI (t + 5)), pla, tok, tpl, num, flt, cod, csz, eds) ft tg tc lw kl ik ri s0 s1 s2 s3 tx) rfl rfl rfl ?_
                  refine V.g2 60 [47, 68, 89, 103, 117, 131] mX6_feed_ok rfl ?_
                  exact ⟨_, zsim_rfl _, g2⟩
              · exact ⟨_, zsim_rfl _, g1 (by omega)⟩
