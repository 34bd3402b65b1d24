/-! ===== the class: rule, at, exact ===== -/
def T7_mostRuled : zT := fun args hs Q => ∃ (x : Int32) (j : Nat), j < 4 ∧ x = nI j ∧ args = [.int x] ∧ Q (some (.int (nI (ruM j)))) hs
theorem c7_mostRuled (l : Launch) : Ct l mX6_mostRuled false 1 0 0 T7_mostRuled := by
  refine Ct.intro mX6_mostRuled_ok ?_
  rintro args hs Q ⟨x, j, hj, hx, rfl, h⟩
  refine ⟨Nat.le_of_ble_eq_true rfl, ?_⟩
  subst hx
  rcases (show j = 0 ∨ j = 1 ∨ j = 2 ∨ j = 3 by omega) with rfl | rfl | rfl | rfl
  · refine V.g2 60 [] mX6_mostRuled_ok rfl ?_
    refine V.ls mX6_mostRuled_ok rfl (by decide) 32 (by decide) 33 rfl ?_
    refine V.g2 60 [] mX6_mostRuled_ok rfl ?_
    exact ⟨_, zsim_rfl _, h⟩
  · refine V.g2 60 [] mX6_mostRuled_ok rfl ?_
    refine V.ls mX6_mostRuled_ok rfl (by decide) 27 (by decide) 28 rfl ?_
    refine V.g2 60 [] mX6_mostRuled_ok rfl ?_
    exact ⟨_, zsim_rfl _, h⟩
  · refine V.g2 60 [] mX6_mostRuled_ok rfl ?_
    refine V.ls mX6_mostRuled_ok rfl (by decide) 32 (by decide) 33 rfl ?_
    refine V.g2 60 [] mX6_mostRuled_ok rfl ?_
    exact ⟨_, zsim_rfl _, h⟩
  · refine V.g2 60 [] mX6_mostRuled_ok rfl ?_
    refine V.ls mX6_mostRuled_ok rfl (by decide) 30 (by decide) 31 rfl ?_
    refine V.g2 60 [] mX6_mostRuled_ok rfl ?_
    exact ⟨_, zsim_rfl _, h⟩
def T6_rule : zT := fun args hs Q => ∃ (c d k : zCart) (r tr kr : zRow) (rd : zRd) (ft : Nat) (tg : Nat → Option Nat) (tc lw kl ik : Int32) (ri : zRi) (s0 s1 s2 s3 : zSh) (tx : zTx) (x o v : Int32) (s : Nat), s ≤ 8 ∧ r.2.2.1 = nI s ∧ args = [.ref 0, .int x, .int o, .int v] ∧ hs = pX c d k r tr kr rd ft tg tc lw kl ik ri s0 s1 s2 s3 tx ∧ (wiB x 3 = false → Q (some (.int (-5))) hs) ∧ (x = nI 0 → (∀ j, j < s → ¬ o = nI j) → Q (some (.int (-5))) hs) ∧ (∀ j, j < 4 → x = nI j → (j = 0 → ∃ i, i < s ∧ o = nI i) → (ruB j v = false → Q (some (.int (-7))) hs) ∧ (ruB j v = true → (∀ i, j = 0 → i < s → o = nI i → Q (some (.int (r.1 i))) (pX c d k (upd r.1 i v, (r.2.1), (r.2.2.1), (r.2.2.2.1), (r.2.2.2.2.1), (r.2.2.2.2.2.1), (r.2.2.2.2.2.2.1), (r.2.2.2.2.2.2.2.1), (r.2.2.2.2.2.2.2.2.1), (r.2.2.2.2.2.2.2.2.2.1), (r.2.2.2.2.2.2.2.2.2.2)) tr kr rd ft tg tc lw kl ik ri s0 s1 s2 s3 tx)) ∧ (j = 1 → Q (some (.int (r.2.2.2.1))) (pX c d k ((r.1), (r.2.1), (r.2.2.1), v, (r.2.2.2.2.1), (r.2.2.2.2.2.1), (r.2.2.2.2.2.2.1), (r.2.2.2.2.2.2.2.1), (r.2.2.2.2.2.2.2.2.1), (r.2.2.2.2.2.2.2.2.2.1), (r.2.2.2.2.2.2.2.2.2.2)) tr kr rd ft tg tc lw kl ik ri s0 s1 s2 s3 tx)) ∧ (j = 2 → Q (some (.int (r.2.2.2.2.1))) (pX c d k ((r.1), (r.2.1), (r.2.2.1), (r.2.2.2.1), v, (r.2.2.2.2.2.1), (r.2.2.2.2.2.2.1), (r.2.2.2.2.2.2.2.1), (r.2.2.2.2.2.2.2.2.1), (r.2.2.2.2.2.2.2.2.2.1), (r.2.2.2.2.2.2.2.2.2.2)) tr kr rd ft tg tc lw kl ik ri s0 s1 s2 s3 tx)) ∧ (j = 3 → Q (some (.int (r.2.2.2.2.2.1))) (pX c d k ((r.1), (r.2.1), (r.2.2.1), (r.2.2.2.1), (r.2.2.2.2.1), v, (r.2.2.2.2.2.2.1), (r.2.2.2.2.2.2.2.1), (r.2.2.2.2.2.2.2.2.1), (r.2.2.2.2.2.2.2.2.2.1), (r.2.2.2.2.2.2.2.2.2.2)) tr kr rd ft tg tc lw kl ik ri s0 s1 s2 s3 tx))))
set_option maxHeartbeats 4000000 in
theorem c6_rule (l : Launch) : Ct l mX6_rule false 2 0 0 T6_rule := by
  refine Ct.intro mX6_rule_ok ?_
  rintro args hs Q ⟨c, d, k, r, tr, kr, rd, ft, tg, tc, lw, kl, ik, ri, s0, s1, s2, s3, tx, x, o, v, s, hs8, hsz, rfl, rfl, h0, h1, h2⟩
  obtain ⟨bd, od, sz, lo, be, aw, st, tk, mb, mw, mt⟩ := r
  refine ⟨Nat.le_of_ble_eq_true rfl, ?_⟩
  have hsz : sz = nI s := hsz
  refine V.g2 60 [] mX6_rule_ok rfl ?_
  refine V.cS0 mX6_rule_ok rfl lX6_114 (ct_within l) rfl [.int x, .int (nI 0), .int (nI 3)] [] rfl rfl rfl (some (.int (bI (wiB x 3)))) (T_within_use rfl) ?_
  cases hB : (wiB x 3) with
  | false =>
    refine V.nm [(0, .ref 0), (1, .int x), (2, .int o), (3, .int v)] [.int (bI false)] (pX c d k (bd, od, sz, lo, be, aw, st, tk, mb, mw, mt) tr kr rd ft tg tc lw kl ik ri s0 s1 s2 s3 tx) rfl rfl rfl ?_
    refine V.g2 60 [] mX6_rule_ok rfl ?_
    refine And.intro (fun _ => ?_) (fun e => absurd rfl e)
    exact ⟨_, zsim_rfl _, h0 hB⟩
  | true =>
    refine V.nm [(0, .ref 0), (1, .int x), (2, .int o), (3, .int v)] [.int (bI true)] (pX c d k (bd, od, sz, lo, be, aw, st, tk, mb, mw, mt) tr kr rd ft tg tc lw kl ik ri s0 s1 s2 s3 tx) rfl rfl rfl ?_
    obtain ⟨j, hj, rfl⟩ := wiB_t hB (by omega)
    have h2 := h2 j hj rfl
    clear h0 hB
    refine V.nm [(0, .ref 0), (1, .int (nI j)), (2, .int o), (3, .int v)] [.int (bI true)] (pX c d k (bd, od, sz, lo, be, aw, st, tk, mb, mw, mt) tr kr rd ft tg tc lw kl ik ri s0 s1 s2 s3 tx) rfl rfl rfl ?_
    have t44 : ∀ (y : Int32), y = nI (ruL j) → (j = 0 → ∃ i, i < s ∧ o = nI i) → V l mX6_rule false (pX c d k (bd, od, sz, lo, be, aw, st, tk, mb, mw, mt) tr kr rd ft tg tc lw kl ik ri s0 s1 s2 s3 tx) (zrm 2 0 0) (zFm false (pX c d k (bd, od, sz, lo, be, aw, st, tk, mb, mw, mt) tr kr rd ft tg tc lw kl ik ri s0 s1 s2 s3 tx) Q 0 0) 0 0 44 [(0, .ref 0), (1, .int (nI j)), (2, .int o), (3, .int v)] [.int y, .int v] (pX c d k (bd, od, sz, lo, be, aw, st, tk, mb, mw, mt) tr kr rd ft tg tc lw kl ik ri s0 s1 s2 s3 tx) := by
      intro y hy hj0
      obtain ⟨h3, h4⟩ := h2 hj0
      clear h2 h1
      refine V.g2 60 [33, 43, 44, 30] mX6_rule_ok rfl ?_
      refine V.cS0 mX6_rule_ok rfl lX6_294 (c7_mostRuled l) rfl [.int (nI j)] [.int y, .int v] rfl rfl rfl (some (.int (nI (ruM j)))) ⟨_, j, hj, rfl, rfl, rfl, rfl⟩ ?_
      refine V.nm [(0, .ref 0), (1, .int (nI j)), (2, .int o), (3, .int v)] [.int (nI (ruM j)), .int y, .int v] (pX c d k (bd, od, sz, lo, be, aw, st, tk, mb, mw, mt) tr kr rd ft tg tc lw kl ik ri s0 s1 s2 s3 tx) rfl rfl rfl ?_
      refine V.g2 60 [33, 43, 44, 30] mX6_rule_ok rfl ?_
      refine V.cS0 mX6_rule_ok rfl lX6_114 (ct_within l) rfl [.int v, .int y, .int (nI (ruM j))] [] rfl rfl rfl (some (.int (bI (decide (y ≤ v) && decide (v ≤ (nI (ruM j))))))) (T_within_use rfl) ?_
      cases hC : (decide (y ≤ v) && decide (v ≤ (nI (ruM j)))) with
      | false =>
        refine V.nm [(0, .ref 0), (1, .int (nI j)), (2, .int o), (3, .int v)] [.int (bI false)] (pX c d k (bd, od, sz, lo, be, aw, st, tk, mb, mw, mt) tr kr rd ft tg tc lw kl ik ri s0 s1 s2 s3 tx) rfl rfl rfl ?_
        rw [hy] at hC
        refine V.g2 60 [33, 43, 44, 30] mX6_rule_ok rfl ?_
        refine And.intro (fun e => absurd rfl e) (fun _ => ?_)
        exact ⟨_, zsim_rfl _, h3 hC⟩
      | true =>
        refine V.nm [(0, .ref 0), (1, .int (nI j)), (2, .int o), (3, .int v)] [.int (bI true)] (pX c d k (bd, od, sz, lo, be, aw, st, tk, mb, mw, mt) tr kr rd ft tg tc lw kl ik ri s0 s1 s2 s3 tx) rfl rfl rfl ?_
        rw [hy] at hC
        obtain ⟨k0, k1, k2, k3⟩ := h4 hC
        rcases (show j = 0 ∨ j = 1 ∨ j = 2 ∨ j = 3 by omega) with rfl | rfl | rfl | rfl
        · refine V.nm [(0, .ref 0), (1, .int (nI 0)), (2, .int o), (3, .int v)] [.int (bI true)] (pX c d k (bd, od, sz, lo, be, aw, st, tk, mb, mw, mt) tr kr rd ft tg tc lw kl ik ri s0 s1 s2 s3 tx) rfl rfl rfl ?_
          obtain ⟨i, hi, rfl⟩ := hj0 rfl
          refine V.g2 60 [33, 43, 44, 30] mX6_rule_ok rfl ?_
          refine And.intro (fun _ => ?_) (fun e => absurd e (by decide))
          refine V.tsI mX6_rule_ok rfl 0 (by decide) (by decide) (by decide) 26 rfl 84 rfl ?_
          refine V.g2 60 [33, 43, 44, 30] mX6_rule_ok rfl ?_
          refine ⟨i, by omega, rfl, rfl, ?_⟩
          refine ⟨i, by omega, rfl, rfl, ?_⟩
          exact ⟨_, zsim_rfl _, k0 i rfl hi rfl⟩
        · refine V.nm [(0, .ref 0), (1, .int (nI 1)), (2, .int o), (3, .int v)] [.int (bI true)] (pX c d k (bd, od, sz, lo, be, aw, st, tk, mb, mw, mt) tr kr rd ft tg tc lw kl ik ri s0 s1 s2 s3 tx) rfl rfl rfl ?_
          refine V.g2 60 [33, 43, 44, 30] mX6_rule_ok rfl ?_
          refine And.intro (fun _ => ?_) (fun e => absurd e (by decide))
          refine V.tsI mX6_rule_ok rfl 1 (by decide) (by decide) (by decide) 50 rfl 108 rfl ?_
          refine V.g2 60 [33, 43, 44, 30] mX6_rule_ok rfl ?_
          exact ⟨_, zsim_rfl _, k1 rfl⟩
        · refine V.nm [(0, .ref 0), (1, .int (nI 2)), (2, .int o), (3, .int v)] [.int (bI true)] (pX c d k (bd, od, sz, lo, be, aw, st, tk, mb, mw, mt) tr kr rd ft tg tc lw kl ik ri s0 s1 s2 s3 tx) rfl rfl rfl ?_
          refine V.g2 60 [33, 43, 44, 30] mX6_rule_ok rfl ?_
          refine And.intro (fun _ => ?_) (fun e => absurd e (by decide))
          refine V.tsI mX6_rule_ok rfl 2 (by decide) (by decide) (by decide) 70 rfl 128 rfl ?_
          refine V.g2 60 [33, 43, 44, 30] mX6_rule_ok rfl ?_
          exact ⟨_, zsim_rfl _, k2 rfl⟩
        · refine V.nm [(0, .ref 0), (1, .int (nI 3)), (2, .int o), (3, .int v)] [.int (bI true)] (pX c d k (bd, od, sz, lo, be, aw, st, tk, mb, mw, mt) tr kr rd ft tg tc lw kl ik ri s0 s1 s2 s3 tx) rfl rfl rfl ?_
          refine V.g2 60 [33, 43, 44, 30] mX6_rule_ok rfl ?_
          refine And.intro (fun _ => ?_) (fun e => absurd e (by decide))
          refine V.tsO mX6_rule_ok rfl (Or.inr (by decide)) 148 rfl ?_
          refine V.g2 60 [33, 43, 44, 30] mX6_rule_ok rfl ?_
          exact ⟨_, zsim_rfl _, k3 rfl⟩
    have t33 : (j = 0 → ∃ i, i < s ∧ o = nI i) → V l mX6_rule false (pX c d k (bd, od, sz, lo, be, aw, st, tk, mb, mw, mt) tr kr rd ft tg tc lw kl ik ri s0 s1 s2 s3 tx) (zrm 2 0 0) (zFm false (pX c d k (bd, od, sz, lo, be, aw, st, tk, mb, mw, mt) tr kr rd ft tg tc lw kl ik ri s0 s1 s2 s3 tx) Q 0 0) 0 0 33 [(0, .ref 0), (1, .int (nI j)), (2, .int o), (3, .int v)] [] (pX c d k (bd, od, sz, lo, be, aw, st, tk, mb, mw, mt) tr kr rd ft tg tc lw kl ik ri s0 s1 s2 s3 tx) := by
      intro  hj0
      refine V.g2 60 [33, 43, 44, 30] mX6_rule_ok rfl ?_
      refine zp_ne j 1 (fun e1 => ?_) (fun e1 => ?_) rfl rfl
      · refine V.g2 60 [33, 43, 44, 30] mX6_rule_ok rfl ?_
        refine V.nm [(0, .ref 0), (1, .int (nI j)), (2, .int o), (3, .int v)] [.int (nI 0), .int v] (pX c d k (bd, od, sz, lo, be, aw, st, tk, mb, mw, mt) tr kr rd ft tg tc lw kl ik ri s0 s1 s2 s3 tx) rfl rfl rfl ?_
        exact t44 _ (by rw [ruL, if_neg e1]) hj0
      · refine V.nm [(0, .ref 0), (1, .int (nI j)), (2, .int o), (3, .int v)] [.int (nI 1), .int v] (pX c d k (bd, od, sz, lo, be, aw, st, tk, mb, mw, mt) tr kr rd ft tg tc lw kl ik ri s0 s1 s2 s3 tx) rfl rfl rfl ?_
        exact t44 _ (by rw [ruL, if_pos e1]) hj0
    refine V.g2 60 [33, 43, 44, 30] mX6_rule_ok rfl ?_
    refine And.intro (fun e => absurd e (by decide)) (fun _ => ?_)
    refine zp_ne j 0 (fun e0 => ?_) (fun e0 => ?_) rfl rfl
    · refine V.nm [(0, .ref 0), (1, .int (nI j)), (2, .int o), (3, .int v)] [] (pX c d k (bd, od, sz, lo, be, aw, st, tk, mb, mw, mt) tr kr rd ft tg tc lw kl ik ri s0 s1 s2 s3 tx) rfl rfl rfl ?_
      exact t33 (fun z => absurd z e0)
    · subst e0
      refine V.cS0 mX6_rule_ok rfl lX6_114 (ct_within l) rfl [.int o, .int (nI 0), .int (sz - (nI 1))] [] rfl rfl rfl (some (.int (bI (decide ((nI 0) ≤ o) && decide (o ≤ (sz - (nI 1))))))) (T_within_use rfl) ?_
      cases hD : (decide ((nI 0) ≤ o) && decide (o ≤ (sz - (nI 1)))) with
      | false =>
        refine V.nm [(0, .ref 0), (1, .int (nI 0)), (2, .int o), (3, .int v)] [.int (bI false)] (pX c d k (bd, od, sz, lo, be, aw, st, tk, mb, mw, mt) tr kr rd ft tg tc lw kl ik ri s0 s1 s2 s3 tx) rfl rfl rfl ?_
        refine V.g2 60 [33, 43, 44, 30] mX6_rule_ok rfl ?_
        refine And.intro (fun e => absurd rfl e) (fun _ => ?_)
        refine V.g2 60 [33, 43, 44, 30] mX6_rule_ok rfl ?_
        exact ⟨_, zsim_rfl _, h1 rfl (fun i hi e => by rw [e, hsz, decide_eq_true (show nI 0 ≤ nI i from nI_le (Nat.zero_le _) (by omega)), decide_eq_true (show nI i ≤ nI s - nI 1 by rw [pk_sub (by omega)]; exact nI_le (by omega) (by omega))] at hD; cases hD)⟩
      | true =>
        refine V.nm [(0, .ref 0), (1, .int (nI 0)), (2, .int o), (3, .int v)] [.int (bI true)] (pX c d k (bd, od, sz, lo, be, aw, st, tk, mb, mw, mt) tr kr rd ft tg tc lw kl ik ri s0 s1 s2 s3 tx) rfl rfl rfl ?_
        refine V.g2 60 [33, 43, 44, 30] mX6_rule_ok rfl ?_
        refine And.intro (fun _ => ?_) (fun e => absurd e (by decide))
        refine V.nm [(0, .ref 0), (1, .int (nI 0)), (2, .int o), (3, .int v)] [] (pX c d k (bd, od, sz, lo, be, aw, st, tk, mb, mw, mt) tr kr rd ft tg tc lw kl ik ri s0 s1 s2 s3 tx) rfl rfl rfl ?_
        refine t33 (fun _ => ?_)
        simp only [Bool.and_eq_true, decide_eq_true_eq] at hD
        rcases pk_ix o (show s < 2 ^ 31 by omega) with q | q | ⟨i, q1, q2⟩
        · exact absurd hD.1 (Int32.not_le.mpr q)
        · have q3 := hD.2
          rw [hsz] at q3
          rcases Nat.eq_zero_or_pos s with z | z
          · rw [z] at q3; exact absurd (Int32.le_trans hD.1 q3) (by decide)
          · rw [pk_sub (by omega)] at q3
            exact absurd (Int32.le_trans q q3) (Int32.not_le.mpr (nI_lt (by omega) (by omega)))
        · exact ⟨i, q1, q2⟩
