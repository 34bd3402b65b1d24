/-! ===== the reference: a roll by lot; drawn; odds ===== -/
theorem plF_cw {c : zCart} {h ha dr : fI} {te : Nat} : ∀ n, plF (cwH c h) ha dr te n = plF c ha dr te n
  | 0 => by simp only [plF]
  | n + 1 => by simp only [plF]; rw [plF_cw n]; rfl
theorem stF_cw {c : zCart} {P : zP} {h ha : fI} {te : Nat} {r : RT} : stF (cwH c h) P ha te r = stF c P ha te r := by
  unfold stF
  rw [plF_cw]
  rfl
theorem wn_bd {v : Int32} : wnF v (nI 0) (nI 9) = bdF v (nI 0) (nI 9) := by
  unfold wnF bdF
  by_cases h : v < nI 9
  · rw [if_pos h]
    by_cases g : nI 0 < v
    · rw [if_neg (Int32.not_lt.mpr (Int32.le_of_lt g)), if_neg (Int32.not_lt.mpr (Int32.le_of_lt h)), if_pos g]
    · rw [if_neg g]
      by_cases g2 : v < nI 0
      · rw [if_pos g2]
      · rw [if_neg g2, if_neg (Int32.not_lt.mpr (Int32.le_of_lt h))]
        exact Int32.le_antisymm (Int32.not_lt.mp g) (Int32.not_lt.mp g2)
  · rw [if_neg h, if_pos (show nI 0 < nI 9 by decide), if_neg (fun z => h (Int32.lt_of_lt_of_le z (by decide)))]
    by_cases g : nI 9 < v
    · rw [if_pos g]
    · rw [if_neg g]
      exact Int32.le_antisymm (Int32.not_lt.mp g) (Int32.not_lt.mp h)
theorem i32_as {a b c : Int32} : a + b - c = a + (b - c) := by
  rw [Int32.sub_eq_add_neg, Int32.sub_eq_add_neg, Int32.add_assoc]
theorem dw2_s {c : zCart} {f : fI} {lt : Int64} {a b : Int32} (ha : a = wnF (haC c 0 + (lt - lt / 3 * 3).toInt32 - nI 1) (nI 0) (nI 9)) (hb : b = wnF (haC c 1 + (lt / 3 - lt / 3 / 3 * 3).toInt32 - nI 1) (nI 0) (nI 9)) : ∀ i, i < 2 → upd (upd f 0 a) 1 b i = dw2 c lt i := by
  intro i hi
  rw [wn_bd, i32_as] at ha hb
  subst ha
  subst hb
  rcases (show i = 0 ∨ i = 1 by omega) with rfl | rfl <;> rfl
theorem stF_r {c : zCart} {P : zP} {ha : fI} {te : Nat} {r : RT} : stF c P ha te (0, r.2.1, 0, r.2.2.2.1, r.2.2.2.2.1, r.2.2.2.2.2.1, r.2.2.2.2.2.2) = stF c P ha te r := rfl
def T7_rollsBy : zT := fun args hs Q => ∃ (fv : Nat → Int32) (ar : Nat → fI) (k : Nat) (P : zP), k < 2147483647 ∧ mOk fv ar P ∧ args = [.ref 0, .int (nI k)] ∧ hs = pM fv ar ∧ ∀ q : RT, q = rlL (cM fv ar) P (nI (k + 1)).toInt64 30 → ∀ fv2 ar2, kM fv ar fv2 ar2 → fv2 43 = q.2.2.2.2.2.1 → ar2 39 29 = q.2.1 → Q none (pM fv2 ar2)
set_option maxHeartbeats 500000 in
theorem c7_rollsBy (l : Launch) : Ct l mX7_rollsBy false 9 0 0 T7_rollsBy := by
  refine Ct.intro mX7_rollsBy_ok ?_
  rintro args hs Q ⟨fv, ar, k, P, hk, hM, rfl, rfl, h⟩
  refine ⟨Nat.le_of_ble_eq_true rfl, ?_⟩
  generalize hS : pM fv ar = S
  obtain ⟨LO, hLO⟩ : ∃ LO, LO = (nI (k + 1)).toInt64 := ⟨_, rfl⟩
  rw [← hLO] at h
  have loop : ∀ (m t : Nat) (x4 : Int32) (lt : Int64) (q : RT) (sk nm pl az cs ha : fI), t + m = 30 → x4 = nI t → lt = loN LO t → q = rlL (cM fv ar) P LO t → (∀ j, j < t → az j = (rlL (cM fv ar) P LO (j + 1)).2.1) → V l mX7_rollsBy false S (zrm 9 0 0) (zFm false S Q 0 0) 0 0 16 [(4, .int x4), (0, .ref 0), (1, .int (nI k)), (2, .long lt)] [] (pM (upf (upf (upf (upf (upf (upf fv 41 q.2.2.2.1) 42 q.2.2.2.2.1) 43 q.2.2.2.2.2.1) 44 q.2.2.2.2.2.2) 45 (ar 4 0)) 46 (ar 4 1)) (upa (upa (upa (upa (upa (upa ar 4 ha) 36 sk) 37 nm) 38 pl) 39 az) 40 cs)) := by
    intro m
    induction m with
    | zero =>
      intro t x4 lt q sk nm pl az cs ha ht h4 hlt hq hr
      have et : t = 30 := by omega
      rw [et] at h4 hlt hq hr
      have e29 : az 29 = q.2.1 := by
        obtain ⟨RL, hRL⟩ : ∃ RL, RL = rlL (cM fv ar) P LO := ⟨_, rfl⟩
        rw [← hRL] at hr hq
        rw [hq]
        exact hr 29 (by omega)
      refine V.g2 60 [16] mX7_rollsBy_ok rfl ?_
      refine pk_le 30 30 (fun e0 => ?_) (fun e0 => absurd e0 (by omega)) rfl h4
      refine V.cw mX7_rollsBy_ok rfl lX7_278 (c7_laysHands l) rfl 0 7 rfl rfl rfl rfl rfl rfl ⟨(upf (upf (upf (upf (upf (upf fv 41 q.2.2.2.1) 42 q.2.2.2.2.1) 43 q.2.2.2.2.2.1) 44 q.2.2.2.2.2.2) 45 (ar 4 0)) 46 (ar 4 1)), (upa (upa (upa (upa (upa (upa ar 4 ha) 36 sk) 37 nm) 38 pl) 39 az) 40 cs), rfl, rfl, rfl, ?_⟩
      refine V.nm [(4, .int x4), (0, .ref 0), (1, .int (nI k)), (2, .long lt)] [] (pM (upf (upf (upf (upf (upf (upf fv 41 q.2.2.2.1) 42 q.2.2.2.2.1) 43 q.2.2.2.2.2.1) 44 q.2.2.2.2.2.2) 45 (ar 4 0)) 46 (ar 4 1)) (upa (upa (upa (upa (upa (upa ar 36 sk) 37 nm) 38 pl) 39 az) 40 cs) 4 (h2F (ar 4 0) (ar 4 1)))) rfl rfl rfl ?_
      refine V.sim (zsm4 (y := (ar 4)) h2F_k) ?_
      refine V.g2 60 [16] mX7_rollsBy_ok rfl ?_
      refine ⟨_, zsim_rfl _, ?_⟩
      exact h q hq (upf (upf (upf (upf (upf (upf fv 41 q.2.2.2.1) 42 q.2.2.2.2.1) 43 q.2.2.2.2.2.1) 44 q.2.2.2.2.2.2) 45 (ar 4 0)) 46 (ar 4 1)) (upa (upa (upa (upa (upa (upa ar 36 sk) 37 nm) 38 pl) 39 az) 40 cs) 4 (ar 4)) ⟨⟨rfl, rfl, rfl, rfl, rfl, rfl, rfl, rfl, rfl, rfl, rfl⟩, ⟨rfl, rfl, rfl, rfl, rfl, rfl, rfl, rfl, rfl, rfl, rfl, rfl, rfl, rfl, rfl, rfl⟩⟩ rfl e29
    | succ m ih =>
      intro t x4 lt q sk nm pl az cs ha ht h4 hlt hq hr
      refine V.g2 60 [16] mX7_rollsBy_ok rfl ?_
      refine pk_le 30 t (fun e => absurd e (by omega)) (fun e => ?_) rfl h4
      refine And.intro (show ¬ (2147483647 : Int64) = 0 by decide) ?_
      refine And.intro (show ¬ (3 : Int64) = 0 by decide) ?_
      refine V.cs mX7_rollsBy_ok rfl lX7_200 (c7_within l) rfl rfl rfl rfl ⟨_, _, _, rfl, fun r1 hr1 => ⟨rfl, ?_⟩⟩
      refine V.g2 60 [16] mX7_rollsBy_ok rfl ?_
      refine ⟨0, by omega, rfl, rfl, ?_⟩
      refine And.intro (show ¬ (3 : Int64) = 0 by decide) ?_
      refine And.intro (show ¬ (3 : Int64) = 0 by decide) ?_
      refine V.cs mX7_rollsBy_ok rfl lX7_200 (c7_within l) rfl rfl rfl rfl ⟨_, _, _, rfl, fun r2 hr2 => ⟨rfl, ?_⟩⟩
      refine V.g2 60 [16] mX7_rollsBy_ok rfl ?_
      refine ⟨1, by omega, rfl, rfl, ?_⟩
      refine V.nm [(2, .long (ltF lt)), (4, .int x4), (0, .ref 0), (1, .int (nI k))] [.int x4, .ref 0] (pM (upf (upf (upf (upf (upf (upf fv 41 q.2.2.2.1) 42 q.2.2.2.2.1) 43 q.2.2.2.2.2.1) 44 q.2.2.2.2.2.2) 45 (ar 4 0)) 46 (ar 4 1)) (upa (upa (upa (upa (upa (upa ar 36 sk) 37 nm) 38 pl) 39 az) 40 cs) 4 (upd (upd ha 0 r1) 1 r2))) rfl rfl rfl ?_
      refine V.sim (zsm4 (y := (dw2 (cM fv ar) (ltF lt))) (dw2_s (c := cM fv ar) (lt := ltF lt) hr1 hr2)) ?_
      refine V.g2 60 [16] mX7_rollsBy_ok rfl ?_
      refine V.cw mX7_rollsBy_ok rfl lX7_250 (c7_tenths l) rfl 0 7 rfl rfl rfl rfl rfl rfl ⟨(upf (upf (upf (upf (upf (upf fv 41 q.2.2.2.1) 42 q.2.2.2.2.1) 43 q.2.2.2.2.2.1) 44 q.2.2.2.2.2.2) 45 (ar 4 0)) 46 (ar 4 1)), (upa (upa (upa (upa (upa (upa ar 4 (dw2 (cM fv ar) (ltF lt))) 36 sk) 37 nm) 38 pl) 39 az) 40 cs), _, _, t, P, by omega, h4, hM, rfl, rfl, rfl, fun q2 hq2 sk2 nm2 => ⟨rfl, ?_⟩⟩
      have hq3 : q2 = rlL (cM fv ar) P LO (t + 1) := by
        have e1 : (if t = 0 then 0 else az (t - 1)) = q.2.1 := by
          rcases Nat.eq_zero_or_pos t with e | e
          · subst e
            rw [if_pos rfl, hq]; rfl
          · rw [if_neg (by omega), hr (t - 1) (by omega), hq, show t - 1 + 1 = t by omega]
        have e2 : q2 = stF (cwH (cM fv ar) (dw2 (cM fv ar) (ltF lt))) P (dw2 (cM fv ar) (ltF lt)) t (0, (if t = 0 then 0 else az (t - 1)), 0, q.2.2.2.1, q.2.2.2.2.1, q.2.2.2.2.2.1, q.2.2.2.2.2.2) := hq2
        rw [e2, stF_cw, e1, rlL, loN, ← hlt, ← hq]
        exact stF_r
      refine V.g2 60 [16] mX7_rollsBy_ok rfl ?_
      refine V.kn [4, 0, 1, 2] [(4, .int (x4 + zi 1)), (0, .ref 0), (1, .int (nI k)), (2, .long (ltF lt))] [] (pM (upf (upf (upf (upf (upf (upf fv 41 q2.2.2.2.1) 42 q2.2.2.2.2.1) 43 q2.2.2.2.2.2.1) 44 q2.2.2.2.2.2.2) 45 (ar 4 0)) 46 (ar 4 1)) (upa (upa (upa (upa (upa (upa ar 4 (dw2 (cM fv ar) (ltF lt))) 36 sk2) 37 nm2) 38 (upd pl t q2.1)) 39 (upd az t q2.2.1)) 40 (upd cs t q2.2.2.1))) rfl rfl rfl ?_
      refine ih (t + 1) _ _ q2 sk2 nm2 (upd pl t q2.1) (upd az t q2.2.1) (upd cs t q2.2.2.1) (dw2 (cM fv ar) (ltF lt)) (by omega) (ninc h4) (by rw [hlt]; rfl) hq3 (fun j hj => ?_)
      by_cases e : j = t
      · subst e
        rw [pk_us, hq3]
      · rw [pk_un e]
        exact hr j (by omega)
  subst hS
  refine V.g2 60 [16] mX7_rollsBy_ok rfl ?_
  refine V.cw mX7_rollsBy_ok rfl lX7_263 (c7_keepsHands l) rfl 0 7 rfl rfl rfl rfl rfl rfl ⟨fv, ar, rfl, rfl, rfl, ?_⟩
  refine V.g2 60 [16] mX7_rollsBy_ok rfl ?_
  refine V.cw mX7_rollsBy_ok rfl lX7_247 (c7_begins l) rfl 0 7 rfl rfl rfl rfl rfl rfl ⟨(upf (upf fv 45 (ar 4 0)) 46 (ar 4 1)), ar, rfl, rfl, rfl, ?_⟩
  refine V.g2 60 [16] mX7_rollsBy_ok rfl ?_
  have eL : (nI k).toInt64 + Int64.ofNat 1 = LO := by rw [hLO, nI_l (by omega), nI_l (by omega)]; exact lN_add k 1
  refine V.kn [4, 0, 1, 2] [(4, .int (nI 0)), (0, .ref 0), (1, .int (nI k)), (2, .long ((nI k).toInt64 + Int64.ofNat 1))] [] (pM (upf (upf (upf (upf (upf (upf fv 41 (0 : Int32)) 42 (0 : Int32)) 43 (0 : Int32)) 44 (0 : Int32)) 45 (ar 4 0)) 46 (ar 4 1)) ar) rfl rfl rfl ?_
  rw [eL]
  exact loop 30 0 _ LO r0 (ar 36) (ar 37) (ar 38) (ar 39) (ar 40) (ar 4) rfl rfl rfl rfl (fun j hj => absurd hj (by omega))
def T7_drawn : zT := fun args hs Q => ∃ (fv : Nat → Int32) (ar : Nat → fI) (x y : Int32) (P : zP), mOk fv ar P ∧ args = [.ref 0, .int x, .int y] ∧ hs = pM fv ar ∧ ((wiB x 99999 && wiB y 1) = false → Q (some (.int (-1000000))) hs) ∧ (∀ k, k < 100000 → x = nI k → wiB y 1 = true → ∀ r : Int32, r = (if y = nI 0 then (rlL (cM fv ar) P (nI (k + 1)).toInt64 30).2.1 else (rlL (cM fv ar) P (nI (k + 1)).toInt64 30).2.2.2.2.2.1) → ∀ fv2 ar2, kM fv ar fv2 ar2 → Q (some (.int r)) (pM fv2 ar2))
theorem c7_drawn (l : Launch) : Ct l mX7_drawn false 10 0 0 T7_drawn := by
  refine Ct.intro mX7_drawn_ok ?_
  rintro args hs Q ⟨fv, ar, x, y, P, hM, rfl, rfl, h0, h1⟩
  refine ⟨Nat.le_of_ble_eq_true rfl, ?_⟩
  refine V.g2 60 [] mX7_drawn_ok rfl ?_
  refine V.cs mX7_drawn_ok rfl lX7_117 (c7_in l) rfl rfl rfl rfl ⟨_, _, _, rfl, fun B hB => ⟨rfl, ?_⟩⟩
  rcases B with _ | _
  · refine V.g2 60 [] mX7_drawn_ok rfl ?_
    refine And.intro (fun _ => ?_) (fun e => absurd rfl e)
    exact ⟨_, zsim_rfl _, h0 (by rw [show wiB x 99999 = false from hB.symm]; rfl)⟩
  · refine V.g2 60 [] mX7_drawn_ok rfl ?_
    refine And.intro (fun e => absurd e (by decide)) (fun _ => ?_)
    refine V.cs mX7_drawn_ok rfl lX7_117 (c7_in l) rfl rfl rfl rfl ⟨_, _, _, rfl, fun B2 hB2 => ⟨rfl, ?_⟩⟩
    rcases B2 with _ | _
    · refine V.g2 60 [] mX7_drawn_ok rfl ?_
      refine And.intro (fun e => absurd rfl e) (fun _ => ?_)
      exact ⟨_, zsim_rfl _, h0 (by rw [show wiB y 1 = false from hB2.symm, Bool.and_false])⟩
    · obtain ⟨k, hk, rfl⟩ := wiB_t (n := 99999) hB.symm (by omega)
      have h := h1 k (by omega) rfl hB2.symm
      obtain ⟨j, hj, rfl⟩ := wiB_t (n := 1) hB2.symm (by omega)
      refine V.g2 60 [] mX7_drawn_ok rfl ?_
      refine And.intro (fun _ => ?_) (fun e => absurd e (by decide))
      refine V.cw mX7_drawn_ok rfl lX7_368 (c7_rollsBy l) rfl 0 7 rfl rfl rfl rfl rfl rfl ⟨fv, ar, k, P, by omega, hM, rfl, rfl, fun q hq fv2 ar2 hk2 h43 h39 => ⟨rfl, ?_⟩⟩
      refine V.g2 60 [] mX7_drawn_ok rfl ?_
      refine zp_ne j 0 (fun e => ?_) (fun e => ?_) rfl rfl
      · refine ⟨_, zsim_rfl _, ?_⟩
        exact h _ (by rw [if_neg (znI (by omega) (by omega) e), h43, hq]) fv2 ar2 hk2
      · refine ⟨29, by omega, rfl, rfl, ?_⟩
        refine ⟨_, zsim_rfl _, ?_⟩
        exact h _ (by rw [e, if_pos rfl, h39, hq]) fv2 ar2 hk2
