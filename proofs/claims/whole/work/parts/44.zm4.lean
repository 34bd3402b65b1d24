/-! ===== look, set ===== -/
def lkF (c : zCart) (x o : Int32) : Int32 := if x = nI 0 then (bif wiB o 7 then loC c (cl o) else -6) else if x = nI 1 then haC c 0 else if x = nI 2 then haC c 1 else if x = nI 3 then paC c else if x = nI 4 then (bif wiB o 29 then wiC c (cl o) else -6) else -5
def T_look : zT := fun args hs Q => ∃ (c d k : zCart) (r tr kr : zRow) (rd : zRd) (ft : Nat) (tg : Nat → Option Nat) (tc lw kl ik : Int32) (ri : zRi) (s0 s1 s2 s3 : zSh) (tx : zTx) (x o : Int32), args = [.ref 0, .int x, .int o] ∧ hs = pX c d k r tr kr rd ft tg tc lw kl ik ri s0 s1 s2 s3 tx ∧ Q (some (.int (lkF c x o))) hs
theorem ct_look (l : Launch) : Ct l mX6_look false 3 0 0 T_look := by
  refine Ct.intro mX6_look_ok ?_
  rintro args hs Q ⟨c, d, k, r, tr, kr, rd, ft, tg, tc, lw, kl, ik, ri, s0, s1, s2, s3, tx, x, o, rfl, rfl, h⟩
  refine ⟨Nat.le_of_ble_eq_true rfl, ?_⟩
  refine V.g 10 [] mX6_look_ok rfl ?_
  rcases zcase x 5 (by omega) with ⟨j, hj, rfl⟩ | hx
  · rcases (show j = 0 ∨ j = 1 ∨ j = 2 ∨ j = 3 ∨ j = 4 by omega) with rfl | rfl | rfl | rfl | rfl
    · refine V.tsI mX6_look_ok rfl 0 (by decide) (by decide) (by decide) 35 rfl 36 rfl ?_
      refine V.g 10 [] mX6_look_ok rfl ?_
      refine V.cS0 mX6_look_ok rfl lX6_178 (ct_isPlace l) rfl [.int o] [] rfl rfl rfl (some (.int (bI (wiB o 7)))) ⟨o, rfl, rfl, rfl⟩ ?_
      have h2 : Q (some (.int (bif wiB o 7 then loC c (cl o) else -6))) (pX c d k r tr kr rd ft tg tc lw kl ik ri s0 s1 s2 s3 tx) := h
      cases hb : wiB o 7 with
      | true =>
        rw [hb] at h2
        obtain ⟨i, hi, ho⟩ := wiB_t hb (by omega)
        refine V.g 10 [] mX6_look_ok rfl ?_
        refine And.intro (fun e => absurd e (by decide)) (fun _ => ?_)
        exact And.intro (pk_in i 8 hi ho) ⟨_, zsim_rfl _, h2⟩
      | false =>
        rw [hb] at h2
        refine V.g 10 [] mX6_look_ok rfl ?_
        exact And.intro (fun _ => ⟨_, zsim_rfl _, h2⟩) (fun e => absurd rfl e)
    · refine V.tsI mX6_look_ok rfl 1 (by decide) (by decide) (by decide) 57 rfl 58 rfl ?_
      exact V.g 10 [] mX6_look_ok rfl (And.intro (pk_in 0 2 (by omega)) ⟨_, zsim_rfl _, h⟩)
    · refine V.tsI mX6_look_ok rfl 2 (by decide) (by decide) (by decide) 67 rfl 68 rfl ?_
      exact V.g 10 [] mX6_look_ok rfl (And.intro (pk_in 1 2 (by omega)) ⟨_, zsim_rfl _, h⟩)
    · refine V.tsI mX6_look_ok rfl 3 (by decide) (by decide) (by decide) 77 rfl 78 rfl ?_
      exact V.g 10 [] mX6_look_ok rfl ⟨_, zsim_rfl _, h⟩
    · refine V.tsI mX6_look_ok rfl 4 (by decide) (by decide) (by decide) 85 rfl 86 rfl ?_
      refine V.g 10 [] mX6_look_ok rfl ?_
      refine V.cS0 mX6_look_ok rfl lX6_122 (ct_isTenth l) rfl [.int o] [] rfl rfl rfl (some (.int (bI (wiB o 29)))) ⟨o, rfl, rfl, rfl⟩ ?_
      have h2 : Q (some (.int (bif wiB o 29 then wiC c (cl o) else -6))) (pX c d k r tr kr rd ft tg tc lw kl ik ri s0 s1 s2 s3 tx) := h
      cases hb : wiB o 29 with
      | true =>
        rw [hb] at h2
        obtain ⟨i, hi, ho⟩ := wiB_t hb (by omega)
        refine V.g 10 [] mX6_look_ok rfl ?_
        refine And.intro (fun e => absurd e (by decide)) (fun _ => ?_)
        exact And.intro (pk_in i 30 hi ho) ⟨_, zsim_rfl _, h2⟩
      | false =>
        rw [hb] at h2
        refine V.g 10 [] mX6_look_ok rfl ?_
        exact And.intro (fun _ => ⟨_, zsim_rfl _, h2⟩) (fun e => absurd rfl e)
  · refine V.tsO mX6_look_ok rfl (by omega) 108 rfl ?_
    rw [lkF, if_neg (zout hx 0 (by omega) (by omega)), if_neg (zout hx 1 (by omega) (by omega)), if_neg (zout hx 2 (by omega) (by omega)), if_neg (zout hx 3 (by omega) (by omega)), if_neg (zout hx 4 (by omega) (by omega))] at h
    exact V.g 10 [] mX6_look_ok rfl ⟨_, zsim_rfl _, h⟩
def lstF (j : Nat) : Nat := if 3 ≤ j then 1 else 0
def mstF (j : Nat) : Nat := if j = 0 then 40 else if j = 3 then 9 else if j = 4 then 99 else 9
def T_leastOf : zT := fun args hs Q => ∃ j : Nat, j < 5 ∧ args = [.int (nI j)] ∧ Q (some (.int (nI (lstF j)))) hs
theorem ct_leastOf (l : Launch) : Ct l mX6_leastOf false 1 0 0 T_leastOf := by
  refine Ct.intro mX6_leastOf_ok ?_
  rintro args hs Q ⟨j, hj, rfl, h⟩
  refine ⟨Nat.le_of_ble_eq_true rfl, ?_⟩
  refine V.g 10 [] mX6_leastOf_ok rfl ?_
  refine pk_lt j 3 (fun e => ⟨_, zsim_rfl _, ?_⟩) (fun e => ⟨_, zsim_rfl _, ?_⟩)
  · rw [lstF, if_neg (by omega)] at h; exact h
  · rw [lstF, if_pos (by omega)] at h; exact h
def T_mostOf : zT := fun args hs Q => ∃ j : Nat, j < 5 ∧ args = [.int (nI j)] ∧ Q (some (.int (nI (mstF j)))) hs
theorem ct_mostOf (l : Launch) : Ct l mX6_mostOf false 1 0 0 T_mostOf := by
  refine Ct.intro mX6_mostOf_ok ?_
  rintro args hs Q ⟨j, hj, rfl, h⟩
  refine ⟨Nat.le_of_ble_eq_true rfl, ?_⟩
  refine V.g 10 [] mX6_mostOf_ok rfl ?_
  rcases (show j = 0 ∨ j = 1 ∨ j = 2 ∨ j = 3 ∨ j = 4 by omega) with rfl | rfl | rfl | rfl | rfl
  · refine V.tsI mX6_mostOf_ok rfl 0 (by decide) (by decide) (by decide) 35 rfl 36 rfl ?_
    exact V.g 10 [] mX6_mostOf_ok rfl ⟨_, zsim_rfl _, h⟩
  · refine V.tsI mX6_mostOf_ok rfl 1 (by decide) (by decide) (by decide) 44 rfl 45 rfl ?_
    exact V.g 10 [] mX6_mostOf_ok rfl ⟨_, zsim_rfl _, h⟩
  · refine V.tsI mX6_mostOf_ok rfl 2 (by decide) (by decide) (by decide) 44 rfl 45 rfl ?_
    exact V.g 10 [] mX6_mostOf_ok rfl ⟨_, zsim_rfl _, h⟩
  · refine V.tsI mX6_mostOf_ok rfl 3 (by decide) (by decide) (by decide) 38 rfl 39 rfl ?_
    exact V.g 10 [] mX6_mostOf_ok rfl ⟨_, zsim_rfl _, h⟩
  · refine V.tsI mX6_mostOf_ok rfl 4 (by decide) (by decide) (by decide) 41 rfl 42 rfl ?_
    exact V.g 10 [] mX6_mostOf_ok rfl ⟨_, zsim_rfl _, h⟩
def stS (c : zCart) (j : Nat) (o v : Int32) : zCart := if j = 0 then (kdC c, moC c, kiC c, upd (loC c) (cl o) v, haC c, wiC c, paC c) else if j = 1 then (kdC c, moC c, kiC c, loC c, upd (haC c) 0 v, wiC c, paC c) else if j = 2 then (kdC c, moC c, kiC c, loC c, upd (haC c) 1 v, wiC c, paC c) else if j = 3 then (kdC c, moC c, kiC c, loC c, haC c, wiC c, v) else (kdC c, moC c, kiC c, loC c, haC c, upd (wiC c) (cl o) v, paC c)
def vOkB (j : Nat) (v : Int32) : Bool := decide (nI (lstF j) ≤ v) && decide (v ≤ nI (mstF j))
def T_set : zT := fun args hs Q => ∃ (c d k : zCart) (r tr kr : zRow) (rd : zRd) (ft : Nat) (tg : Nat → Option Nat) (tc lw kl ik : Int32) (ri : zRi) (s0 s1 s2 s3 : zSh) (tx : zTx) (x o v : Int32), args = [.ref 0, .int x, .int o, .int v] ∧ hs = pX c d k r tr kr rd ft tg tc lw kl ik ri s0 s1 s2 s3 tx ∧ (lkF c x o < 0 → Q (some (.int (lkF c x o))) hs) ∧ (∀ j, j < 5 → x = nI j → ¬ lkF c x o < 0 → (vOkB j v = false → Q (some (.int (-7))) hs) ∧ (vOkB j v = true → Q (some (.int (lkF c x o))) (pX (stS c j o v) d k r tr kr rd ft tg tc lw kl ik ri s0 s1 s2 s3 tx)))
set_option maxHeartbeats 4000000 in
theorem ct_set (l : Launch) : Ct l mX6_set false 4 0 0 T_set := by
  refine Ct.intro mX6_set_ok ?_
  rintro args hs Q ⟨c, d, k, r, tr, kr, rd, ft, tg, tc, lw, kl, ik, ri, s0, s1, s2, s3, tx, x, o, v, rfl, rfl, h0, h1⟩
  refine ⟨Nat.le_of_ble_eq_true rfl, ?_⟩
  refine V.g 10 [] mX6_set_ok rfl ?_
  refine V.cVW mX6_set_ok rfl lX6_159 (ct_look l) rfl [.ref 0, .int x, .int o] [] rfl 0 6 rfl rfl rfl rfl rfl rfl (some (.int (lkF c x o))) (pX c d k r tr kr rd ft tg tc lw kl ik ri s0 s1 s2 s3 tx) ⟨c, d, k, r, tr, kr, rd, ft, tg, tc, lw, kl, ik, ri, s0, s1, s2, s3, tx, x, o, rfl, rfl, rfl, rfl⟩ rfl ?_
  have hO : ¬ lkF c x o < 0 → ∃ j, j < 5 ∧ x = nI j ∧ (j = 0 → ∃ i, i < 8 ∧ o = nI i) ∧ (j = 4 → ∃ i, i < 30 ∧ o = nI i) := by
    intro hn
    rcases zcase x 5 (by omega) with ⟨j, hj, rfl⟩ | hx
    · refine ⟨j, hj, rfl, fun e => ?_, fun e => ?_⟩
      · subst e
        cases hb : wiB o 7 with
        | true => exact wiB_t hb (by omega)
        | false =>
          have : lkF c (nI 0) o = -6 := by rw [lkF, if_pos rfl, hb]; rfl
          rw [this] at hn
          exact absurd (by decide) hn
      · subst e
        cases hb : wiB o 29 with
        | true => exact wiB_t hb (by omega)
        | false =>
          have : lkF c (nI 4) o = -6 := by rw [lkF, if_neg (by decide), if_neg (by decide), if_neg (by decide), if_neg (by decide), if_pos rfl, hb]; rfl
          rw [this] at hn
          exact absurd (by decide) hn
    · have : lkF c x o = -5 := by rw [lkF, if_neg (zout hx 0 (by omega) (by omega)), if_neg (zout hx 1 (by omega) (by omega)), if_neg (zout hx 2 (by omega) (by omega)), if_neg (zout hx 3 (by omega) (by omega)), if_neg (zout hx 4 (by omega) (by omega))]
      rw [this] at hn
      exact absurd (by decide) hn
  generalize lkF c x o = wa at h0 h1 hO
  refine V.g 10 [] mX6_set_ok rfl ?_
  refine And.intro (fun e => ?_) (fun e => ⟨_, zsim_rfl _, h0 (Int32.not_le.mp e)⟩)
  have hn : ¬ wa < 0 := Int32.not_lt.mpr e
  obtain ⟨j, hj, hx, hj0, hj4⟩ := hO hn
  obtain ⟨h2, h3⟩ := h1 j hj hx hn
  subst hx
  refine V.cS0 mX6_set_ok rfl lX6_163 (ct_leastOf l) rfl [.int (nI j)] [.int v] rfl rfl rfl (some (.int (nI (lstF j)))) ⟨j, hj, rfl, rfl, rfl⟩ ?_
  refine V.g 10 [] mX6_set_ok rfl ?_
  refine V.cS0 mX6_set_ok rfl lX6_166 (ct_mostOf l) rfl [.int (nI j)] [.int (nI (lstF j)), .int v] rfl rfl rfl (some (.int (nI (mstF j)))) ⟨j, hj, rfl, rfl, rfl⟩ ?_
  refine V.cS0 mX6_set_ok rfl lX6_114 (ct_within l) rfl [.int v, .int (nI (lstF j)), .int (nI (mstF j))] [] rfl rfl rfl (some (.int (bI (vOkB j v)))) (T_within_use rfl) ?_
  cases hb : vOkB j v with
  | false =>
    refine V.g 10 [] mX6_set_ok rfl ?_
    exact And.intro (fun e => absurd rfl e) (fun _ => ⟨_, zsim_rfl _, h2 hb⟩)
  | true =>
    have h := h3 hb
    refine V.g 10 [] mX6_set_ok rfl ?_
    refine And.intro (fun _ => ?_) (fun e => absurd e (by decide))
    rcases (show j = 0 ∨ j = 1 ∨ j = 2 ∨ j = 3 ∨ j = 4 by omega) with rfl | rfl | rfl | rfl | rfl
    · obtain ⟨i, hi, ho⟩ := hj0 rfl
      refine V.tsI mX6_set_ok rfl 0 (by decide) (by decide) (by decide) 29 rfl 64 rfl ?_
      exact V.g 20 [] mX6_set_ok rfl (And.intro (pk_in i 8 hi ho) ⟨_, zsim_rfl _, h⟩)
    · refine V.tsI mX6_set_ok rfl 1 (by decide) (by decide) (by decide) 42 rfl 77 rfl ?_
      exact V.g 20 [] mX6_set_ok rfl (And.intro (pk_in 0 2 (by omega)) ⟨_, zsim_rfl _, h⟩)
    · refine V.tsI mX6_set_ok rfl 2 (by decide) (by decide) (by decide) 55 rfl 90 rfl ?_
      exact V.g 20 [] mX6_set_ok rfl (And.intro (pk_in 1 2 (by omega)) ⟨_, zsim_rfl _, h⟩)
    · refine V.tsI mX6_set_ok rfl 3 (by decide) (by decide) (by decide) 68 rfl 103 rfl ?_
      exact V.g 20 [] mX6_set_ok rfl ⟨_, zsim_rfl _, h⟩
    · obtain ⟨i, hi, ho⟩ := hj4 rfl
      refine V.tsO mX6_set_ok rfl (Or.inr (by decide)) 114 rfl ?_
      exact V.g 20 [] mX6_set_ok rfl (And.intro (pk_in i 30 hi ho) ⟨_, zsim_rfl _, h⟩)
