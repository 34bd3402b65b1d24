/-! ===== count, force, wheel, kick, told ===== -/
def cntF (what a0 a1 a2 a3 a4 : Int32) : Int32 := if what = nI 0 then a0 else if what = nI 1 then a1 else if what = nI 2 then a2 else if what = nI 3 then a3 else if what = nI 4 then a4 else -2
theorem zout {x : Int32} {n : Nat} (h : x.toInt < 0 ∨ (n : Int) ≤ x.toInt) (j : Nat) (hj : j < n) (hn : n < 2 ^ 31) : ¬ x = nI j := by
  intro e
  rw [e, nI_toInt (by omega)] at h
  omega
theorem znI {a b : Nat} (ha : a < 2 ^ 31) (hb : b < 2 ^ 31) (h : a ≠ b) : ¬ nI a = nI b := fun e => h ((nI_eq ha hb).mp e)
def T_count : zT := fun args hs Q => ∃ (c d k : zCart) (r tr kr : zRow) (rd : zRd) (ft : Nat) (tg : Nat → Option Nat) (tc lw kl ik : Int32) (ri : zRi) (s0 s1 s2 s3 : zSh) (tx : zTx) (x : Int32), args = [.ref 0, .int x] ∧ hs = pX c d k r tr kr rd ft tg tc lw kl ik ri s0 s1 s2 s3 tx ∧ Q (some (.int (cntF x r.2.2.1 tc lw rd.2.1 (smT (loC c) 8)))) hs
theorem ct_count (l : Launch) : Ct l mX6_count false 2 0 0 T_count := by
  refine Ct.intro mX6_count_ok ?_
  rintro args hs Q ⟨c, d, k, r, tr, kr, rd, ft, tg, tc, lw, kl, ik, ri, s0, s1, s2, s3, tx, x, rfl, rfl, h⟩
  refine ⟨Nat.le_of_ble_eq_true rfl, ?_⟩
  refine V.g 10 [] mX6_count_ok rfl ?_
  rcases zcase x 5 (by omega) with ⟨j, hj, rfl⟩ | hx
  · rcases (show j = 0 ∨ j = 1 ∨ j = 2 ∨ j = 3 ∨ j = 4 by omega) with rfl | rfl | rfl | rfl | rfl
    · refine V.tsI mX6_count_ok rfl 0 (by decide) (by decide) (by decide) 35 rfl 36 rfl ?_
      exact V.g 10 [] mX6_count_ok rfl ⟨_, zsim_rfl _, h⟩
    · refine V.tsI mX6_count_ok rfl 1 (by decide) (by decide) (by decide) 43 rfl 44 rfl ?_
      exact V.g 10 [] mX6_count_ok rfl ⟨_, zsim_rfl _, h⟩
    · refine V.tsI mX6_count_ok rfl 2 (by decide) (by decide) (by decide) 48 rfl 49 rfl ?_
      exact V.g 10 [] mX6_count_ok rfl ⟨_, zsim_rfl _, h⟩
    · refine V.tsI mX6_count_ok rfl 3 (by decide) (by decide) (by decide) 53 rfl 54 rfl ?_
      exact V.g 10 [] mX6_count_ok rfl ⟨_, zsim_rfl _, h⟩
    · refine V.tsI mX6_count_ok rfl 4 (by decide) (by decide) (by decide) 61 rfl 62 rfl ?_
      refine V.g 10 [] mX6_count_ok rfl ?_
      refine V.cV1 mX6_count_ok rfl lX6_111 (ct_wholeLoad l) rfl [1, 2, 3, 4, 5, 6, 7] (pCart 0 c) [.ref 0] [] rfl 0 0 rfl rfl rfl rfl rfl rfl rfl rfl (some (.int (smT (loC c) 8))) (pCart 0 c) ⟨c, rfl, rfl, rfl, rfl⟩ rfl (pX c d k r tr kr rd ft tg tc lw kl ik ri s0 s1 s2 s3 tx) (some (.int (smT (loC c) 8))) [(0, .ref 0), (1, .int (nI 4))] rfl rfl rfl ?_
      exact V.g 10 [] mX6_count_ok rfl ⟨_, zsim_rfl _, h⟩
  · refine V.tsO mX6_count_ok rfl (by omega) 70 rfl ?_
    rw [cntF, if_neg (zout hx 0 (by omega) (by omega)), if_neg (zout hx 1 (by omega) (by omega)), if_neg (zout hx 2 (by omega) (by omega)), if_neg (zout hx 3 (by omega) (by omega)), if_neg (zout hx 4 (by omega) (by omega))] at h
    exact V.g 10 [] mX6_count_ok rfl ⟨_, zsim_rfl _, h⟩
def T_force : zT := fun args hs Q => ∃ (c d k : zCart) (r tr kr : zRow) (rd : zRd) (ft : Nat) (tg : Nat → Option Nat) (tc lw kl ik : Int32) (ri : zRi) (s0 s1 s2 s3 : zSh) (tx : zTx) (x : Int32), args = [.ref 0, .int x] ∧ hs = pX c d k r tr kr rd ft tg tc lw kl ik ri s0 s1 s2 s3 tx ∧ ((¬ (nI 0 ≤ x ∧ x ≤ tc - nI 1) → Q (some (.int (-2))) hs) ∧ (nI 0 ≤ x ∧ x ≤ tc - nI 1 → Q (some (.int lw)) (pX c d k r tr kr rd ft tg tc x kl ik ri s0 s1 s2 s3 tx)))
theorem ct_force (l : Launch) : Ct l mX6_force false 2 0 0 T_force := by
  refine Ct.intro mX6_force_ok ?_
  rintro args hs Q ⟨c, d, k, r, tr, kr, rd, ft, tg, tc, lw, kl, ik, ri, s0, s1, s2, s3, tx, x, rfl, rfl, h0, h1⟩
  refine ⟨Nat.le_of_ble_eq_true rfl, ?_⟩
  refine V.g 10 [] mX6_force_ok rfl ?_
  refine V.cS0 mX6_force_ok rfl lX6_114 (ct_within l) rfl [.int x, .int (nI 0), .int (tc - nI 1)] [] rfl rfl rfl (some (.int (bI (decide (nI 0 ≤ x) && decide (x ≤ tc - nI 1))))) (T_within_use rfl) ?_
  cases hb : (decide (nI 0 ≤ x) && decide (x ≤ tc - nI 1)) with
  | true =>
    simp only [Bool.and_eq_true, decide_eq_true_eq] at hb
    refine V.g 20 [] mX6_force_ok rfl ?_
    refine And.intro (fun _ => ?_) (fun e => absurd e (by decide))
    exact ⟨_, zsim_rfl _, h1 hb⟩
  | false =>
    refine V.g 20 [] mX6_force_ok rfl ?_
    refine And.intro (fun e => absurd rfl e) (fun _ => ?_)
    refine ⟨_, zsim_rfl _, h0 (fun q => ?_)⟩
    rw [decide_eq_true q.1, decide_eq_true q.2] at hb
    cases hb
def whB (w kd mo : Int32) : Bool := wiB kd 5 && wiB mo 9
def whS (c : zCart) (w : Nat) (kd mo : Int32) : zCart := (upd (kdC c) w kd, upd (moC c) w mo, upd (kiC c) w 0, loC c, haC c, wiC c, paC c)
def T_wheel : zT := fun args hs Q => ∃ (c d k : zCart) (r tr kr : zRow) (rd : zRd) (ft : Nat) (tg : Nat → Option Nat) (tc lw kl ik : Int32) (ri : zRi) (s0 s1 s2 s3 : zSh) (tx : zTx) (w kd mo : Int32), args = [.ref 0, .int w, .int kd, .int mo] ∧ hs = pX c d k r tr kr rd ft tg tc lw kl ik ri s0 s1 s2 s3 tx ∧ (wiB w 3 = false → Q (some (.int (-5))) hs) ∧ (∀ j, j < 4 → w = nI j → ((wiB kd 5 && wiB mo 9) = false → Q (some (.int (-7))) hs) ∧ ((wiB kd 5 && wiB mo 9) = true → Q (some (.int (nI 10 * kdC c j + moC c j))) (pX (whS c j kd mo) d k r tr kr rd ft tg tc lw kl ik ri s0 s1 s2 s3 tx)))
theorem ct_wheel (l : Launch) : Ct l mX6_wheel false 3 0 0 T_wheel := by
  refine Ct.intro mX6_wheel_ok ?_
  rintro args hs Q ⟨c, d, k, r, tr, kr, rd, ft, tg, tc, lw, kl, ik, ri, s0, s1, s2, s3, tx, w, kd, mo, rfl, rfl, h0, h1⟩
  refine ⟨Nat.le_of_ble_eq_true rfl, ?_⟩
  refine V.g 10 [] mX6_wheel_ok rfl ?_
  refine V.cS0 mX6_wheel_ok rfl lX6_125 (ct_isWheel l) rfl [.int w] [] rfl rfl rfl (some (.int (bI (wiB w 3)))) ⟨w, rfl, rfl, rfl⟩ ?_
  cases hb : wiB w 3 with
  | false =>
    refine V.g 10 [] mX6_wheel_ok rfl ?_
    exact And.intro (fun e => absurd rfl e) (fun _ => ⟨_, zsim_rfl _, h0 hb⟩)
  | true =>
    obtain ⟨j, hj, hw⟩ := wiB_t hb (by omega)
    obtain ⟨h2, h3⟩ := h1 j hj hw
    have ew := pk_cl j hw
    refine V.g 10 [] mX6_wheel_ok rfl ?_
    refine And.intro (fun _ => ?_) (fun e => absurd e (by decide))
    refine V.cS0 mX6_wheel_ok rfl lX6_114 (ct_within l) rfl [.int kd, .int (nI 0), .int (nI 5)] [] rfl rfl rfl (some (.int (bI (wiB kd 5)))) (T_within_use rfl) ?_
    cases hb2 : wiB kd 5 with
    | false =>
      rw [hb2] at h2
      refine V.g 10 [] mX6_wheel_ok rfl ?_
      exact And.intro (fun _ => ⟨_, zsim_rfl _, h2 rfl⟩) (fun e => absurd rfl e)
    | true =>
      rw [hb2] at h2 h3
      refine V.g 10 [] mX6_wheel_ok rfl ?_
      refine And.intro (fun e => absurd e (by decide)) (fun _ => ?_)
      refine V.cS0 mX6_wheel_ok rfl lX6_114 (ct_within l) rfl [.int mo, .int (nI 0), .int (nI 9)] [] rfl rfl rfl (some (.int (bI (wiB mo 9)))) (T_within_use rfl) ?_
      cases hb3 : wiB mo 9 with
      | false =>
        rw [hb3] at h2
        refine V.g 10 [] mX6_wheel_ok rfl ?_
        exact And.intro (fun e => absurd rfl e) (fun _ => ⟨_, zsim_rfl _, h2 rfl⟩)
      | true =>
        rw [hb3] at h3
        refine V.g 50 [] mX6_wheel_ok rfl ?_
        refine And.intro (fun _ => ?_) (fun e => absurd e (by decide))
        refine And.intro (pk_in j 4 hj hw) (And.intro (pk_in j 4 hj hw) (And.intro (pk_in j 4 hj hw) (And.intro (pk_in j 4 hj hw) (And.intro (pk_in j 4 hj hw) ⟨_, zsim_rfl _, ?_⟩))))
        have h4 := h3 rfl
        rw [← ew] at h4
        exact h4
def kiS (c : zCart) (w : Nat) : zCart := (kdC c, moC c, upd (kiC c) w (kiC c w + nI 1), loC c, haC c, wiC c, paC c)
def T_kick : zT := fun args hs Q => ∃ (c d k : zCart) (r tr kr : zRow) (rd : zRd) (ft : Nat) (tg : Nat → Option Nat) (tc lw kl ik : Int32) (ri : zRi) (s0 s1 s2 s3 : zSh) (tx : zTx) (w : Int32), kOk c ∧ args = [.ref 0, .int w] ∧ hs = pX c d k r tr kr rd ft tg tc lw kl ik ri s0 s1 s2 s3 tx ∧ (wiB w 3 = false → Q (some (.int (-5))) hs) ∧ (∀ j, j < 4 → w = nI j → (¬ kiC c j < nI 9 → Q (some (.int (-3))) hs) ∧ (kiC c j < nI 9 → Q (some (.int (luF (kiS c j) j))) (pX (kiS c j) d k r tr kr rd ft tg tc lw kl ik ri s0 s1 s2 s3 tx)))
theorem ct_kick (l : Launch) : Ct l mX6_kick false 3 0 0 T_kick := by
  refine Ct.intro mX6_kick_ok ?_
  rintro args hs Q ⟨c, d, k, r, tr, kr, rd, ft, tg, tc, lw, kl, ik, ri, s0, s1, s2, s3, tx, w, hok, rfl, rfl, h0, h1⟩
  refine ⟨Nat.le_of_ble_eq_true rfl, ?_⟩
  refine V.g 10 [] mX6_kick_ok rfl ?_
  refine V.cS0 mX6_kick_ok rfl lX6_125 (ct_isWheel l) rfl [.int w] [] rfl rfl rfl (some (.int (bI (wiB w 3)))) ⟨w, rfl, rfl, rfl⟩ ?_
  cases hb : wiB w 3 with
  | false =>
    refine V.g 10 [] mX6_kick_ok rfl ?_
    exact And.intro (fun e => absurd rfl e) (fun _ => ⟨_, zsim_rfl _, h0 hb⟩)
  | true =>
    obtain ⟨j, hj, hw⟩ := wiB_t hb (by omega)
    obtain ⟨h2, h3⟩ := h1 j hj hw
    have ew := pk_cl j hw
    refine V.g 30 [] mX6_kick_ok rfl ?_
    refine And.intro (fun _ => ?_) (fun e => absurd e (by decide))
    refine And.intro (pk_in j 4 hj hw) ?_
    refine And.intro (fun e => ?_) (fun e => ?_)
    · have e1 : kiC c (cl w) < nI 9 := e
      rw [show cl w = j from ew] at e1
      refine And.intro (pk_in j 4 hj hw) (And.intro (pk_in j 4 hj hw) ?_)
      have h4 := h3 e1
      rw [← ew] at h4
      refine V.nm [(0, .ref 0), (1, .int w)] [.int w, .ref 2] (pX (kiS c w.toNatClampNeg) d k r tr kr rd ft tg tc lw kl ik ri s0 s1 s2 s3 tx) rfl rfl rfl ?_
      refine V.cV1 mX6_kick_ok rfl lX6_153 (ct_loudness l) rfl [1, 2, 3, 4, 5, 6, 7] (pCart 0 (kiS c w.toNatClampNeg)) [.ref 0, .int w] [] rfl 0 0 rfl rfl rfl rfl rfl rfl rfl rfl (some (.int (luF (kiS c w.toNatClampNeg) w.toNatClampNeg))) (pCart 0 (kiS c w.toNatClampNeg)) ⟨kiS c w.toNatClampNeg, j, hj, hok, by rw [hw], rfl, by rw [ew], rfl⟩ rfl (pX (kiS c w.toNatClampNeg) d k r tr kr rd ft tg tc lw kl ik ri s0 s1 s2 s3 tx) (some (.int (luF (kiS c w.toNatClampNeg) w.toNatClampNeg))) [(0, .ref 0), (1, .int w)] rfl rfl rfl ?_
      exact V.g 10 [] mX6_kick_ok rfl ⟨_, zsim_rfl _, h4⟩
    · have e1 : ¬ kiC c (cl w) < nI 9 := e
      rw [show cl w = j from ew] at e1
      exact ⟨_, zsim_rfl _, h2 e1⟩
def tldF (c : zCart) (j : Nat) (x : Int32) : Int32 := if x = nI 0 then kdC c j else if x = nI 1 then moC c j else if x = nI 2 then kiC c j else if x = nI 3 then luF c j else if x = nI 4 then ldO c j else -7
def T_told : zT := fun args hs Q => ∃ (c d k : zCart) (r tr kr : zRow) (rd : zRd) (ft : Nat) (tg : Nat → Option Nat) (tc lw kl ik : Int32) (ri : zRi) (s0 s1 s2 s3 : zSh) (tx : zTx) (w x : Int32), kOk c ∧ args = [.ref 0, .int w, .int x] ∧ hs = pX c d k r tr kr rd ft tg tc lw kl ik ri s0 s1 s2 s3 tx ∧ (wiB w 3 = false → Q (some (.int (-5))) hs) ∧ (∀ j, j < 4 → w = nI j → Q (some (.int (tldF c j x))) hs)
theorem ct_told (l : Launch) : Ct l mX6_told false 3 0 0 T_told := by
  refine Ct.intro mX6_told_ok ?_
  rintro args hs Q ⟨c, d, k, r, tr, kr, rd, ft, tg, tc, lw, kl, ik, ri, s0, s1, s2, s3, tx, w, x, hok, rfl, rfl, h0, h1⟩
  refine ⟨Nat.le_of_ble_eq_true rfl, ?_⟩
  refine V.g 10 [] mX6_told_ok rfl ?_
  refine V.cS0 mX6_told_ok rfl lX6_125 (ct_isWheel l) rfl [.int w] [] rfl rfl rfl (some (.int (bI (wiB w 3)))) ⟨w, rfl, rfl, rfl⟩ ?_
  cases hb : wiB w 3 with
  | false =>
    refine V.g 10 [] mX6_told_ok rfl ?_
    exact And.intro (fun e => absurd rfl e) (fun _ => ⟨_, zsim_rfl _, h0 hb⟩)
  | true =>
    obtain ⟨j, hj, hw⟩ := wiB_t hb (by omega)
    have h := h1 j hj hw
    have ew := pk_cl j hw
    refine V.g 30 [] mX6_told_ok rfl ?_
    refine And.intro (fun _ => ?_) (fun e => absurd e (by decide))
    rcases zcase x 5 (by omega) with ⟨i, hi, rfl⟩ | hx
    · rcases (show i = 0 ∨ i = 1 ∨ i = 2 ∨ i = 3 ∨ i = 4 by omega) with rfl | rfl | rfl | rfl | rfl
      · refine V.tsI mX6_told_ok rfl 0 (by decide) (by decide) (by decide) 33 rfl 44 rfl ?_
        refine V.g 10 [] mX6_told_ok rfl (And.intro (pk_in j 4 hj hw) ⟨_, zsim_rfl _, ?_⟩)
        rw [← ew] at h
        exact h
      · refine V.tsI mX6_told_ok rfl 1 (by decide) (by decide) (by decide) 43 rfl 54 rfl ?_
        refine V.g 10 [] mX6_told_ok rfl (And.intro (pk_in j 4 hj hw) ⟨_, zsim_rfl _, ?_⟩)
        rw [← ew] at h
        exact h
      · refine V.tsI mX6_told_ok rfl 2 (by decide) (by decide) (by decide) 53 rfl 64 rfl ?_
        refine V.g 10 [] mX6_told_ok rfl (And.intro (pk_in j 4 hj hw) ⟨_, zsim_rfl _, ?_⟩)
        rw [← ew] at h
        exact h
      · refine V.tsI mX6_told_ok rfl 3 (by decide) (by decide) (by decide) 63 rfl 74 rfl ?_
        refine V.g 10 [] mX6_told_ok rfl ?_
        refine V.cV1 mX6_told_ok rfl lX6_153 (ct_loudness l) rfl [1, 2, 3, 4, 5, 6, 7] (pCart 0 c) [.ref 0, .int w] [] rfl 0 0 rfl rfl rfl rfl rfl rfl rfl rfl (some (.int (luF c j))) (pCart 0 c) ⟨c, j, hj, hok, by rw [hw], rfl, rfl, rfl⟩ rfl (pX c d k r tr kr rd ft tg tc lw kl ik ri s0 s1 s2 s3 tx) (some (.int (luF c j))) [(0, .ref 0), (1, .int w), (2, .int (nI 3))] rfl rfl rfl ?_
        exact V.g 10 [] mX6_told_ok rfl ⟨_, zsim_rfl _, h⟩
      · refine V.tsI mX6_told_ok rfl 4 (by decide) (by decide) (by decide) 72 rfl 83 rfl ?_
        refine V.g 10 [] mX6_told_ok rfl ?_
        refine V.cV1 mX6_told_ok rfl lX6_156 (ct_loadOver l) rfl [1, 2, 3, 4, 5, 6, 7] (pCart 0 c) [.ref 0, .int w] [] rfl 0 0 rfl rfl rfl rfl rfl rfl rfl rfl (some (.int (ldO c j))) (pCart 0 c) ⟨c, j, hj, by rw [hw], rfl, rfl, rfl⟩ rfl (pX c d k r tr kr rd ft tg tc lw kl ik ri s0 s1 s2 s3 tx) (some (.int (ldO c j))) [(0, .ref 0), (1, .int w), (2, .int (nI 4))] rfl rfl rfl ?_
        exact V.g 10 [] mX6_told_ok rfl ⟨_, zsim_rfl _, h⟩
    · refine V.tsO mX6_told_ok rfl (by omega) 92 rfl ?_
      rw [tldF, if_neg (zout hx 0 (by omega) (by omega)), if_neg (zout hx 1 (by omega) (by omega)), if_neg (zout hx 2 (by omega) (by omega)), if_neg (zout hx 3 (by omega) (by omega)), if_neg (zout hx 4 (by omega) (by omega))] at h
      exact V.g 10 [] mX6_told_ok rfl ⟨_, zsim_rfl _, h⟩
