/-! ===== the reference: how to hold it, where to put what ===== -/
/-- the first k below n with p k -/
def fsF (p : Nat → Bool) : Nat → Option Nat
  | 0 => none
  | n + 1 => match fsF p n with
    | some j => some j
    | none => if p n = true then some n else none
theorem fsF_up {p : Nat → Bool} {n j : Nat} (h : fsF p n = some j) : ∀ k, fsF p (n + k) = some j
  | 0 => h
  | k + 1 => by show fsF p (n + k + 1) = _; rw [fsF, fsF_up h k]
theorem fsF_hit {p : Nat → Bool} {n m : Nat} (h : fsF p n = none) (hp : p n = true) (hm : n < m) : fsF p m = some n := by
  have : fsF p (n + 1) = some n := by rw [fsF, h]; simp only [hp, if_true]
  have := fsF_up this (m - (n + 1))
  rwa [show n + 1 + (m - (n + 1)) = m by omega] at this
theorem fsF_miss {p : Nat → Bool} {n : Nat} (h : fsF p n = none) (hp : p n = false) : fsF p (n + 1) = none := by
  rw [fsF, h]
  simp only [hp, Bool.false_eq_true, if_false]
def plT (c : zCart) (P : zP) (t : Nat) : Int32 := plF c (haC c) (drS c P (haC c) (nI t)) t 4
def nvN (c : zCart) (P : zP) : Nat → Bool
  | 0 => true
  | n + 1 => nvN c P n && decide (plT c P n = 0)
theorem nvN_f {c : zCart} {P : zP} {n : Nat} (h : nvN c P n = false) : ∀ k, nvN c P (n + k) = false
  | 0 => h
  | k + 1 => by show nvN c P (n + k + 1) = _; rw [nvN, nvN_f h k, Bool.false_and]
def exP (c : zCart) (P : zP) (h : Nat) : Bool := nvN (cwH c (haH h)) P 30
def T7_straight : zT := fun args hs Q => ∃ (fv : Nat → Int32) (ar : Nat → fI) (y : Int32) (P : zP), mOk fv ar P ∧ args = [.ref 0, .int y] ∧ hs = pM fv ar ∧ (wiB y 1 = false → Q (some (.int (-2))) hs) ∧ (wiB y 1 = true → ∀ r : Int32, r = (if y = nI 0 then nI (mnF (lhF false (cM fv ar) P) 100).1 else (mnF (lhF false (cM fv ar) P) 100).2) → ∀ fv2 ar2, kM fv ar fv2 ar2 → Q (some (.int r)) (pM fv2 ar2))
theorem c7_straight (l : Launch) : Ct l mX7_straight false 10 0 0 T7_straight := by
  refine Ct.intro mX7_straight_ok ?_
  rintro args hs Q ⟨fv, ar, y, P, hM, rfl, rfl, h0, h1⟩
  refine ⟨Nat.le_of_ble_eq_true rfl, ?_⟩
  refine V.g2 60 [] mX7_straight_ok rfl ?_
  refine V.cs mX7_straight_ok rfl lX7_117 (c7_in l) rfl rfl rfl rfl ⟨_, _, _, rfl, fun B hB => ⟨rfl, ?_⟩⟩
  rcases B with _ | _
  · refine V.g2 60 [] mX7_straight_ok rfl ?_
    refine And.intro (fun e => absurd rfl e) (fun _ => ?_)
    exact ⟨_, zsim_rfl _, h0 hB.symm⟩
  · have h := h1 hB.symm
    obtain ⟨j, hj, rfl⟩ := wiB_t (n := 1) hB.symm (by omega)
    refine V.g2 60 [] mX7_straight_ok rfl ?_
    refine And.intro (fun _ => ?_) (fun e => absurd e (by decide))
    refine V.cw mX7_straight_ok rfl lX7_281 (c7_findsHands l) rfl 0 7 rfl rfl rfl rfl rfl rfl ⟨fv, ar, _, false, P, rfl, hM, rfl, rfl, fun a b ha hb fv2 ar2 hk e1 e2 => ⟨rfl, ?_⟩⟩
    refine V.g2 60 [] mX7_straight_ok rfl ?_
    refine zp_ne j 0 (fun e => ?_) (fun e => ?_) rfl rfl
    · exact ⟨_, zsim_rfl _, h _ (by rw [if_neg (znI (by omega) (by omega) e)]; exact e2.trans hb) fv2 ar2 hk⟩
    · exact ⟨_, zsim_rfl _, h _ (by rw [e, if_pos rfl]; exact e1.trans ha) fv2 ar2 hk⟩
def T7_hold : zT := fun args hs Q => ∃ (fv : Nat → Int32) (ar : Nat → fI) (y : Int32) (P : zP), mOk fv ar P ∧ args = [.ref 0, .int y] ∧ hs = pM fv ar ∧ (wiB y 1 = false → Q (some (.int (-2))) hs) ∧ (wiB y 1 = true → ∀ r : Int32, r = (if y = nI 0 then nI (mnF (lhF true (cM fv ar) P) 100).1 else (mnF (lhF true (cM fv ar) P) 100).2) → ∀ fv2 ar2, kM fv ar fv2 ar2 → Q (some (.int r)) (pM fv2 ar2))
theorem c7_hold (l : Launch) : Ct l mX7_hold false 10 0 0 T7_hold := by
  refine Ct.intro mX7_hold_ok ?_
  rintro args hs Q ⟨fv, ar, y, P, hM, rfl, rfl, h0, h1⟩
  refine ⟨Nat.le_of_ble_eq_true rfl, ?_⟩
  refine V.g2 60 [] mX7_hold_ok rfl ?_
  refine V.cs mX7_hold_ok rfl lX7_117 (c7_in l) rfl rfl rfl rfl ⟨_, _, _, rfl, fun B hB => ⟨rfl, ?_⟩⟩
  rcases B with _ | _
  · refine V.g2 60 [] mX7_hold_ok rfl ?_
    refine And.intro (fun e => absurd rfl e) (fun _ => ?_)
    exact ⟨_, zsim_rfl _, h0 hB.symm⟩
  · have h := h1 hB.symm
    obtain ⟨j, hj, rfl⟩ := wiB_t (n := 1) hB.symm (by omega)
    refine V.g2 60 [] mX7_hold_ok rfl ?_
    refine And.intro (fun _ => ?_) (fun e => absurd e (by decide))
    refine V.cw mX7_hold_ok rfl lX7_281 (c7_findsHands l) rfl 0 7 rfl rfl rfl rfl rfl rfl ⟨fv, ar, _, true, P, rfl, hM, rfl, rfl, fun a b ha hb fv2 ar2 hk e1 e2 => ⟨rfl, ?_⟩⟩
    refine V.g2 60 [] mX7_hold_ok rfl ?_
    refine zp_ne j 0 (fun e => ?_) (fun e => ?_) rfl rfl
    · exact ⟨_, zsim_rfl _, h _ (by rw [if_neg (znI (by omega) (by omega) e)]; exact e2.trans hb) fv2 ar2 hk⟩
    · exact ⟨_, zsim_rfl _, h _ (by rw [e, if_pos rfl]; exact e1.trans ha) fv2 ar2 hk⟩
def T7_isStraight : zT := fun args hs Q => ∃ (fv : Nat → Int32) (ar : Nat → fI) (P : zP), mOk fv ar P ∧ args = [.ref 0] ∧ hs = pM fv ar ∧ ∀ B : Bool, B = nvN (cM fv ar) P 30 → ∀ sk nm, Q (some (.int (bI B))) (pM fv (upa (upa ar 36 sk) 37 nm))
set_option maxHeartbeats 4000000 in
theorem c7_isStraight (l : Launch) : Ct l mX7_isStraight false 6 0 0 T7_isStraight := by
  refine Ct.intro mX7_isStraight_ok ?_
  rintro args hs Q ⟨fv, ar, P, hM, rfl, rfl, h⟩
  refine ⟨Nat.le_of_ble_eq_true rfl, ?_⟩
  generalize hS : pM fv ar = S
  have loop : ∀ (m t : Nat) (x1 : Int32) (sk nm : fI), t + m = 30 → x1 = nI t → nvN (cM fv ar) P t = true → V l mX7_isStraight false S (zrm 6 0 0) (zFm false S Q 0 0) 0 0 2 [(1, .int x1), (0, .ref 0)] [] (pM fv (upa (upa ar 36 sk) 37 nm)) := by
    intro m
    induction m with
    | zero =>
      intro t x1 sk nm ht h1 hn
      obtain rfl : t = 30 := by omega
      refine V.g2 60 [2] mX7_isStraight_ok rfl ?_
      refine pk_le 30 30 (fun e0 => ?_) (fun e0 => absurd e0 (by omega)) rfl h1
      refine And.intro (Or.inr rfl) ?_
      exact ⟨_, zsim_rfl _, h true hn.symm sk nm⟩
    | succ m ih =>
      intro t x1 sk nm ht h1 hn
      refine V.g2 60 [2] mX7_isStraight_ok rfl ?_
      refine pk_le 30 t (fun e => absurd e (by omega)) (fun e => ?_) rfl h1
      refine V.cw mX7_isStraight_ok rfl lX7_241 (c7_pullIn l) rfl 0 7 rfl rfl rfl rfl rfl rfl ⟨fv, upa (upa ar 36 sk) 37 nm, _, t, P, by omega, h1, hM.1, hM.2.2, rfl, rfl, fun v hv sk2 nm2 => ⟨rfl, ?_⟩⟩
      replace hv : v = plT (cM fv ar) P t := hv
      refine V.g2 60 [2] mX7_isStraight_ok rfl ?_
      refine And.intro (fun e => ?_) (fun e => ?_)
      · refine V.kn [1, 0] [(1, .int (x1 + zi 1)), (0, .ref 0)] [] (pM fv (upa (upa ar 36 sk2) 37 nm2)) rfl rfl rfl ?_
        exact ih (t + 1) _ sk2 nm2 (by omega) (ninc h1) (by rw [nvN, hn, ← hv, decide_eq_true e]; rfl)
      · refine And.intro (Or.inl rfl) ?_
        exact ⟨_, zsim_rfl _, h false (by have q := nvN_f (c := cM fv ar) (P := P) (n := t + 1) (by rw [nvN, ← hv, decide_eq_false e, Bool.and_false]) (30 - (t + 1)); rw [show t + 1 + (30 - (t + 1)) = 30 by omega] at q; exact q.symm) sk2 nm2⟩
  subst hS
  refine V.g2 60 [2] mX7_isStraight_ok rfl ?_
  refine V.kn [1, 0] [(1, .int (nI 0)), (0, .ref 0)] [] (pM fv ar) rfl rfl rfl ?_
  exact loop 30 0 _ (ar 36) (ar 37) rfl rfl rfl
def T7_exact : zT := fun args hs Q => ∃ (fv : Nat → Int32) (ar : Nat → fI) (P : zP), mOk fv ar P ∧ args = [.ref 0] ∧ hs = pM fv ar ∧ ∀ r : Int32, r = oI (fsF (exP (cM fv ar) P) 100) → ∀ fv2 ar2, kM fv ar fv2 ar2 → Q (some (.int r)) (pM fv2 ar2)
set_option maxHeartbeats 4000000 in
theorem c7_exact (l : Launch) : Ct l mX7_exact false 7 0 0 T7_exact := by
  refine Ct.intro mX7_exact_ok ?_
  rintro args hs Q ⟨fv, ar, P, hM, rfl, rfl, h⟩
  refine ⟨Nat.le_of_ble_eq_true rfl, ?_⟩
  generalize hS : pM fv ar = S
  have loop : ∀ (m k : Nat) (x2 x1 : Int32) (sk nm ha : fI), k + m = 100 → x2 = nI k → x1 = oI (fsF (exP (cM fv ar) P) k) → V l mX7_exact false S (zrm 7 0 0) (zFm false S Q 0 0) 0 0 8 [(2, .int x2), (1, .int x1), (0, .ref 0)] [] (pM (upf (upf fv 45 (ar 4 0)) 46 (ar 4 1)) (upa (upa (upa ar 36 sk) 37 nm) 4 ha)) := by
    intro m
    induction m with
    | zero =>
      intro k x2 x1 sk nm ha hk h2 h1
      obtain rfl : k = 100 := by omega
      refine V.g2 60 [8, 39] mX7_exact_ok rfl ?_
      refine pk_le 100 100 (fun e0 => ?_) (fun e0 => absurd e0 (by omega)) rfl h2
      refine V.cw mX7_exact_ok rfl lX7_278 (c7_laysHands l) rfl 0 7 rfl rfl rfl rfl rfl rfl ⟨(upf (upf fv 45 (ar 4 0)) 46 (ar 4 1)), (upa (upa (upa ar 36 sk) 37 nm) 4 ha), rfl, rfl, rfl, ?_⟩
      refine V.nm [(2, .int x2), (1, .int x1), (0, .ref 0)] [] (pM (upf (upf fv 45 (ar 4 0)) 46 (ar 4 1)) (upa (upa (upa ar 36 sk) 37 nm) 4 (h2F (ar 4 0) (ar 4 1)))) rfl rfl rfl ?_
      refine V.sim (zsm4 (y := (ar 4)) h2F_k) ?_
      refine V.g2 60 [8, 39] mX7_exact_ok rfl ?_
      refine ⟨_, zsim_rfl _, ?_⟩
      exact h _ h1 (upf (upf fv 45 (ar 4 0)) 46 (ar 4 1)) (upa (upa (upa ar 36 sk) 37 nm) 4 (ar 4)) ⟨⟨rfl, rfl, rfl, rfl, rfl, rfl, rfl, rfl, rfl, rfl, rfl⟩, ⟨rfl, rfl, rfl, rfl, rfl, rfl, rfl, rfl, rfl, rfl, rfl, rfl, rfl, rfl, rfl, rfl⟩⟩
    | succ m ih =>
      intro k x2 x1 sk nm ha hk h2 h1
      cases hf : fsF (exP (cM fv ar) P) k with
      | some j =>
        rw [hf] at h1
        have hj : j < k := by
          have : ∀ n, fsF (exP (cM fv ar) P) n = some j → j < n := by
            intro n
            induction n with
            | zero => intro q; cases q
            | succ n ih =>
              intro q
              rw [fsF] at q
              cases hq : fsF (exP (cM fv ar) P) n with
              | some i => rw [hq] at q; have := ih (hq.trans q); omega
              | none => rw [hq] at q; simp only [] at q; split at q <;> cases q; omega
          exact this k hf
        have hfin : fsF (exP (cM fv ar) P) 100 = some j := by have q := fsF_up hf (100 - k); rwa [show k + (100 - k) = 100 by omega] at q
        refine V.g2 60 [8, 39] mX7_exact_ok rfl ?_
        refine pk_le 100 k (fun e => absurd e (by omega)) (fun e => ?_) rfl h2
        refine And.intro (fun e1 => ?_) (fun e1 => absurd ((show x1 = nI j from h1).symm.trans e1) (nI_m1 (by omega)))
        refine V.cw mX7_exact_ok rfl lX7_278 (c7_laysHands l) rfl 0 7 rfl rfl rfl rfl rfl rfl ⟨(upf (upf fv 45 (ar 4 0)) 46 (ar 4 1)), (upa (upa (upa ar 36 sk) 37 nm) 4 ha), rfl, rfl, rfl, ?_⟩
        refine V.nm [(2, .int x2), (1, .int x1), (0, .ref 0)] [] (pM (upf (upf fv 45 (ar 4 0)) 46 (ar 4 1)) (upa (upa (upa ar 36 sk) 37 nm) 4 (h2F (ar 4 0) (ar 4 1)))) rfl rfl rfl ?_
        refine V.sim (zsm4 (y := (ar 4)) h2F_k) ?_
        refine V.g2 60 [8, 39] mX7_exact_ok rfl ?_
        refine ⟨_, zsim_rfl _, ?_⟩
        exact h _ (by rw [h1, hfin]) (upf (upf fv 45 (ar 4 0)) 46 (ar 4 1)) (upa (upa (upa ar 36 sk) 37 nm) 4 (ar 4)) ⟨⟨rfl, rfl, rfl, rfl, rfl, rfl, rfl, rfl, rfl, rfl, rfl⟩, ⟨rfl, rfl, rfl, rfl, rfl, rfl, rfl, rfl, rfl, rfl, rfl, rfl, rfl, rfl, rfl, rfl⟩⟩
      | none =>
        rw [hf] at h1
        have h1b : x1 = -1 := h1
        refine V.g2 60 [8, 39] mX7_exact_ok rfl ?_
        refine pk_le 100 k (fun e => absurd e (by omega)) (fun e => ?_) rfl h2
        refine And.intro (fun e1 => absurd h1b e1) (fun e1 => ?_)
        refine And.intro (show ¬ (nI 10) = 0 by decide) ?_
        refine ⟨0, by omega, rfl, rfl, ?_⟩
        refine And.intro (show ¬ (nI 10) = 0 by decide) ?_
        refine ⟨1, by omega, rfl, rfl, ?_⟩
        refine V.nm [(2, .int x2), (1, .int x1), (0, .ref 0)] [] (pM (upf (upf fv 45 (ar 4 0)) 46 (ar 4 1)) (upa (upa (upa ar 36 sk) 37 nm) 4 (upd (upd ha 0 (x2 / (nI 10))) 1 (x2 - x2 / (nI 10) * (nI 10))))) rfl rfl rfl ?_
        refine V.sim (zsm4 (y := (haH k)) (haH_s (ndiv h2 rfl (by omega) (by omega) (by omega)) (nrem h2 rfl (by omega) (by omega) (by omega)))) ?_
        refine V.g2 60 [8, 39] mX7_exact_ok rfl ?_
        refine V.cw mX7_exact_ok rfl lX7_285 (c7_isStraight l) rfl 0 7 rfl rfl rfl rfl rfl rfl ⟨(upf (upf fv 45 (ar 4 0)) 46 (ar 4 1)), (upa (upa (upa ar 36 sk) 37 nm) 4 (haH k)), P, hM, rfl, rfl, fun B hB sk2 nm2 => ⟨rfl, ?_⟩⟩
        replace hB : B = exP (cM fv ar) P k := hB
        rcases B with _ | _
        · refine V.g2 60 [8, 39] mX7_exact_ok rfl ?_
          refine And.intro (fun _ => ?_) (fun e => absurd rfl e)
          refine V.kn [2, 1, 0] [(2, .int (x2 + zi 1)), (1, .int (-1 : Int32)), (0, .ref 0)] [] (pM (upf (upf fv 45 (ar 4 0)) 46 (ar 4 1)) (upa (upa (upa ar 4 (haH k)) 36 sk2) 37 nm2)) rfl rfl rfl ?_
          exact ih (k + 1) _ _ sk2 nm2 (haH k) (by omega) (ninc h2) (by rw [fsF_miss hf hB.symm]; rfl)
        · refine V.g2 60 [8, 39] mX7_exact_ok rfl ?_
          refine And.intro (fun e => absurd e (by decide)) (fun _ => ?_)
          refine V.kn [2, 1, 0] [(2, .int (x2 + zi 1)), (1, .int x2), (0, .ref 0)] [] (pM (upf (upf fv 45 (ar 4 0)) 46 (ar 4 1)) (upa (upa (upa ar 4 (haH k)) 36 sk2) 37 nm2)) rfl rfl rfl ?_
          exact ih (k + 1) _ _ sk2 nm2 (haH k) (by omega) (ninc h2) (by rw [fsF_hit hf hB.symm (Nat.lt_succ_self k)]; exact h2)
  subst hS
  refine V.g2 60 [8, 39] mX7_exact_ok rfl ?_
  refine V.cw mX7_exact_ok rfl lX7_263 (c7_keepsHands l) rfl 0 7 rfl rfl rfl rfl rfl rfl ⟨fv, ar, rfl, rfl, rfl, ?_⟩
  refine V.g2 60 [8, 39] mX7_exact_ok rfl ?_
  refine V.kn [2, 1, 0] [(2, .int (nI 0)), (1, .int (-1 : Int32)), (0, .ref 0)] [] (pM (upf (upf fv 45 (ar 4 0)) 46 (ar 4 1)) ar) rfl rfl rfl ?_
  exact loop 100 0 _ _ (ar 36) (ar 37) (ar 4) rfl rfl rfl
def T7_swaps : zT := fun args hs Q => ∃ (fv : Nat → Int32) (ar : Nat → fI) (x y : Int32) (a b : Nat), a < 8 ∧ b < 8 ∧ x = nI a ∧ y = nI b ∧ args = [.ref 0, .int x, .int y] ∧ hs = pM fv ar ∧ Q none (pM fv (upa ar 3 (exF (ar 3) a b)))
theorem c7_swaps (l : Launch) : Ct l mX7_swaps false 1 0 0 T7_swaps := by
  refine Ct.intro mX7_swaps_ok ?_
  rintro args hs Q ⟨fv, ar, x, y, a, b, ha, hb, hx, hy, rfl, rfl, h⟩
  refine ⟨Nat.le_of_ble_eq_true rfl, ?_⟩
  refine V.g2 60 [] mX7_swaps_ok rfl ?_
  refine ⟨a, by omega, hx, rfl, ?_⟩
  refine ⟨b, by omega, hy, rfl, ?_⟩
  refine ⟨a, by omega, hx, rfl, ?_⟩
  refine ⟨b, by omega, hy, rfl, ?_⟩
  exact ⟨_, zsim_rfl _, h⟩
def T7_turnsLoads : zT := fun args hs Q => ∃ (fv : Nat → Int32) (ar : Nat → fI) , args = [.ref 0] ∧ hs = pM fv ar ∧ Q none (pM fv (upa ar 3 (tuL (ar 3))))
theorem c7_turnsLoads (l : Launch) : Ct l mX7_turnsLoads false 2 0 0 T7_turnsLoads := by
  refine Ct.intro mX7_turnsLoads_ok ?_
  rintro args hs Q ⟨fv, ar, rfl, rfl, h⟩
  refine ⟨Nat.le_of_ble_eq_true rfl, ?_⟩
  refine V.g2 60 [] mX7_turnsLoads_ok rfl ?_
  refine V.cw mX7_turnsLoads_ok rfl lX7_288 (c7_swaps l) rfl 0 7 rfl rfl rfl rfl rfl rfl ⟨fv, ar, _, _, 0, 2, by omega, by omega, rfl, rfl, rfl, rfl, rfl, ?_⟩
  refine V.g2 60 [] mX7_turnsLoads_ok rfl ?_
  refine V.cw mX7_turnsLoads_ok rfl lX7_288 (c7_swaps l) rfl 0 7 rfl rfl rfl rfl rfl rfl ⟨fv, (upa ar 3 (exF (ar 3) 0 2)), _, _, 1, 3, by omega, by omega, rfl, rfl, rfl, rfl, rfl, ?_⟩
  refine V.g2 60 [] mX7_turnsLoads_ok rfl ?_
  refine V.cw mX7_turnsLoads_ok rfl lX7_288 (c7_swaps l) rfl 0 7 rfl rfl rfl rfl rfl rfl ⟨fv, (upa ar 3 (exF (exF (ar 3) 0 2) 1 3)), _, _, 4, 6, by omega, by omega, rfl, rfl, rfl, rfl, rfl, ?_⟩
  refine V.g2 60 [] mX7_turnsLoads_ok rfl ?_
  refine V.cw mX7_turnsLoads_ok rfl lX7_288 (c7_swaps l) rfl 0 7 rfl rfl rfl rfl rfl rfl ⟨fv, (upa ar 3 (exF (exF (exF (ar 3) 0 2) 1 3) 4 6)), _, _, 5, 7, by omega, by omega, rfl, rfl, rfl, rfl, rfl, ?_⟩
  refine V.g2 60 [] mX7_turnsLoads_ok rfl ?_
  exact ⟨_, zsim_rfl _, h⟩
theorem exF_2 {lo : fI} {p q : Nat} : ∀ i, exF (exF lo p q) p q i = lo i := by
  intro i
  unfold exF
  by_cases h1 : i = q
  · subst h1
    rw [pk_us]
    by_cases h2 : p = i
    · subst h2; rw [pk_us]
    · rw [pk_un h2, pk_us]
  · rw [pk_un h1]
    by_cases h2 : i = p
    · subst h2; rw [pk_us, pk_us]
    · rw [pk_un h2, pk_un h1, pk_un h2]
theorem exF_2f {lo : fI} {p q : Nat} : exF (exF lo p q) p q = lo := funext exF_2
theorem exF_c {lo : fI} {a b p q : Nat} (h1 : a ≠ p) (h2 : a ≠ q) (h3 : b ≠ p) (h4 : b ≠ q) : exF (exF lo a b) p q = exF (exF lo p q) a b := by
  funext i
  unfold exF
  by_cases i1 : i = a
  · subst i1
    simp only [upd, if_neg h1, if_neg h2, if_neg (Ne.symm h1), if_neg (Ne.symm h2), if_neg (Ne.symm h3), if_neg (Ne.symm h4), if_neg h3, if_neg h4]
  · by_cases i2 : i = b
    · subst i2
      simp only [upd, if_neg i1, if_neg h1, if_neg h2, if_neg (Ne.symm h1), if_neg (Ne.symm h2), if_neg (Ne.symm h3), if_neg (Ne.symm h4), if_neg h3, if_neg h4]
    · simp only [upd, if_neg i1, if_neg i2, if_neg h1, if_neg h2, if_neg (Ne.symm h1), if_neg (Ne.symm h2), if_neg (Ne.symm h3), if_neg (Ne.symm h4), if_neg h3, if_neg h4]
theorem tuL_2 (lo : fI) : tuL (tuL lo) = lo := by
  unfold tuL
  rw [exF_c (lo := exF (exF (exF lo 0 2) 1 3) 4 6) (a := 5) (b := 7) (p := 0) (q := 2) (by omega) (by omega) (by omega) (by omega), exF_c (lo := exF (exF lo 0 2) 1 3) (a := 4) (b := 6) (p := 0) (q := 2) (by omega) (by omega) (by omega) (by omega), exF_c (lo := exF lo 0 2) (a := 1) (b := 3) (p := 0) (q := 2) (by omega) (by omega) (by omega) (by omega), exF_2f]
  rw [exF_c (lo := exF (exF lo 1 3) 4 6) (a := 5) (b := 7) (p := 1) (q := 3) (by omega) (by omega) (by omega) (by omega), exF_c (lo := exF lo 1 3) (a := 4) (b := 6) (p := 1) (q := 3) (by omega) (by omega) (by omega) (by omega), exF_2f]
  rw [exF_c (lo := exF lo 4 6) (a := 5) (b := 7) (p := 4) (q := 6) (by omega) (by omega) (by omega) (by omega), exF_2f, exF_2f]
def T7_turned : zT := fun args hs Q => ∃ (fv : Nat → Int32) (ar : Nat → fI) (P : zP), mOk fv ar P ∧ args = [.ref 0] ∧ hs = pM fv ar ∧ ∀ r : Int32, r = faF (cwL (cM fv ar) (tuL (ar 3))) P - faF (cM fv ar) P → ∀ fv2 ar2, kM fv ar fv2 ar2 → Q (some (.int r)) (pM fv2 ar2)
theorem c7_turned (l : Launch) : Ct l mX7_turned false 9 0 0 T7_turned := by
  refine Ct.intro mX7_turned_ok ?_
  rintro args hs Q ⟨fv, ar, P, hM, rfl, rfl, h⟩
  refine ⟨Nat.le_of_ble_eq_true rfl, ?_⟩
  refine V.g2 60 [] mX7_turned_ok rfl ?_
  refine V.cw mX7_turned_ok rfl lX7_272 (c7_farNow l) rfl 0 7 rfl rfl rfl rfl rfl rfl ⟨fv, ar, P, hM, rfl, rfl, fun v1 hv1 q sk nm pl az cs => ⟨rfl, ?_⟩⟩
  refine V.g2 60 [] mX7_turned_ok rfl ?_
  refine V.cw mX7_turned_ok rfl lX7_305 (c7_turnsLoads l) rfl 0 7 rfl rfl rfl rfl rfl rfl ⟨(upf (upf (upf (upf fv 41 q.2.2.2.1) 42 q.2.2.2.2.1) 43 q.2.2.2.2.2.1) 44 q.2.2.2.2.2.2), (upa (upa (upa (upa (upa ar 36 sk) 37 nm) 38 pl) 39 az) 40 cs), rfl, rfl, rfl, ?_⟩
  refine V.g2 60 [] mX7_turned_ok rfl ?_
  refine V.cw mX7_turned_ok rfl lX7_272 (c7_farNow l) rfl 0 7 rfl rfl rfl rfl rfl rfl ⟨(upf (upf (upf (upf fv 41 q.2.2.2.1) 42 q.2.2.2.2.1) 43 q.2.2.2.2.2.1) 44 q.2.2.2.2.2.2), (upa (upa (upa (upa (upa (upa ar 36 sk) 37 nm) 38 pl) 39 az) 40 cs) 3 (tuL (ar 3))), P, hM, rfl, rfl, fun v2 hv2 q2 sk2 nm2 pl2 az2 cs2 => ⟨rfl, ?_⟩⟩
  refine V.g2 60 [] mX7_turned_ok rfl ?_
  refine V.cw mX7_turned_ok rfl lX7_305 (c7_turnsLoads l) rfl 0 7 rfl rfl rfl rfl rfl rfl ⟨(upf (upf (upf (upf fv 41 q2.2.2.2.1) 42 q2.2.2.2.2.1) 43 q2.2.2.2.2.2.1) 44 q2.2.2.2.2.2.2), (upa (upa (upa (upa (upa (upa ar 3 (tuL (ar 3))) 36 sk2) 37 nm2) 38 pl2) 39 az2) 40 cs2), rfl, rfl, rfl, ?_⟩
  refine V.nm [(2, .int v2), (1, .int v1), (0, .ref 0)] [] (pM (upf (upf (upf (upf fv 41 q2.2.2.2.1) 42 q2.2.2.2.2.1) 43 q2.2.2.2.2.2.1) 44 q2.2.2.2.2.2.2) (upa (upa (upa (upa (upa (upa ar 36 sk2) 37 nm2) 38 pl2) 39 az2) 40 cs2) 3 (tuL (tuL (ar 3))))) rfl rfl rfl ?_
  rw [tuL_2]
  refine V.g2 60 [] mX7_turned_ok rfl ?_
  refine ⟨_, zsim_rfl _, ?_⟩
  exact h _ (by rw [hv1, hv2]; rfl) (upf (upf (upf (upf fv 41 q2.2.2.2.1) 42 q2.2.2.2.2.1) 43 q2.2.2.2.2.2.1) 44 q2.2.2.2.2.2.2) (upa (upa (upa (upa (upa (upa ar 36 sk2) 37 nm2) 38 pl2) 39 az2) 40 cs2) 3 (ar 3)) ⟨⟨rfl, rfl, rfl, rfl, rfl, rfl, rfl, rfl, rfl, rfl, rfl⟩, ⟨rfl, rfl, rfl, rfl, rfl, rfl, rfl, rfl, rfl, rfl, rfl, rfl, rfl, rfl, rfl, rfl⟩⟩
