/-! ===== Cart: how a wheel drags, wishes, how loud it is ===== -/
def kw (c : zCart) (w : Nat) : Nat := (kdC c w).toNatClampNeg
def kOk (c : zCart) : Prop := ∀ w, w < 4 → kw c w < 6 ∧ kdC c w = nI (kw c w)
def drF (c : zCart) (w : Nat) (said : Int32) (t : Nat) : Int32 :=
  if kdC c w = nI 5 ∧ ldO c w ≤ nI 3 * moC c w then 0 else
    let x := bif isU (kw c w) 1 then said + moC c w * (ldO c w + nI 1) else said
    bif isU (kw c w) 3 then x + nI t * moC c w / nI 4 else x
def wiF (c : zCart) (w t : Nat) : Int32 :=
  if isU (kw c w) 4 = true ∧ moC c w < paC c then (if t % 2 = 0 then nI 6 * (paC c - moC c w) else - (nI 6 * (paC c - moC c w)))
  else bif isU (kw c w) 2 then nI 2 * moC c w + nI 1 else 0
def luF (c : zCart) (w : Nat) : Int32 :=
  bif isU (kw c w) 3 then nI 2 * kiC c w + moC c w else bif isU (kw c w) 1 then kiC c w else 0
def T_loudness : zT := fun args hs Q => ∃ (c : zCart) (w : Nat), w < 4 ∧ kOk c ∧ args = [.ref 0, .int (nI w)] ∧ hs = pCart 0 c ∧ Q (some (.int (luF c w))) hs
theorem ct_loudness (l : Launch) : Ct l mX0_loudness false 2 0 0 T_loudness := by
  refine Ct.intro mX0_loudness_ok ?_
  rintro args hs Q ⟨c, w, hw, hok, rfl, rfl, h⟩
  obtain ⟨hk6, hkd⟩ := hok w hw
  have ew := pk_cl (x := nI w) w
  refine ⟨Nat.le_of_ble_eq_true rfl, ?_⟩
  refine V.g 30 [] mX0_loudness_ok rfl ?_
  refine V.cVW mX0_loudness_ok rfl lX0_53 (ct_isOfKind l) rfl [.ref 0, .int (nI w), .int (nI 3)] [] rfl 0 0 rfl rfl rfl rfl rfl rfl (some (.int (bI (isU (kw c w) 3)))) (pCart 0 c) ⟨c, w, 3, kw c w, hw, by omega, hk6, hkd, rfl, rfl, rfl, rfl⟩ rfl ?_
  unfold luF at h
  cases hb : isU (kw c w) 3 with
  | true =>
    rw [hb] at h
    refine V.g 30 [] mX0_loudness_ok rfl ?_
    refine And.intro (fun e => absurd e (by decide)) (fun _ => ?_)
    refine And.intro (pk_in w 4 hw) (And.intro (pk_in w 4 hw) ⟨_, zsim_rfl _, ?_⟩)
    rw [ew]
    exact h
  | false =>
    rw [hb] at h
    refine V.g 30 [] mX0_loudness_ok rfl ?_
    refine And.intro (fun _ => ?_) (fun e => absurd rfl e)
    refine V.cVW mX0_loudness_ok rfl lX0_53 (ct_isOfKind l) rfl [.ref 0, .int (nI w), .int (nI 1)] [] rfl 0 0 rfl rfl rfl rfl rfl rfl (some (.int (bI (isU (kw c w) 1)))) (pCart 0 c) ⟨c, w, 1, kw c w, hw, by omega, hk6, hkd, rfl, rfl, rfl, rfl⟩ rfl ?_
    cases hb2 : isU (kw c w) 1 with
    | true =>
      rw [hb2] at h
      refine V.g 30 [] mX0_loudness_ok rfl ?_
      refine And.intro (fun e => absurd e (by decide)) (fun _ => ?_)
      refine And.intro (pk_in w 4 hw) ⟨_, zsim_rfl _, ?_⟩
      rw [ew]
      exact h
    | false =>
      rw [hb2] at h
      refine V.g 30 [] mX0_loudness_ok rfl ?_
      refine And.intro (fun _ => ?_) (fun e => absurd rfl e)
      exact ⟨_, zsim_rfl _, h⟩
def T_wish : zT := fun args hs Q => ∃ (c : zCart) (w t : Nat), w < 4 ∧ t < 30 ∧ kOk c ∧ args = [.ref 0, .int (nI w), .int (nI t)] ∧ hs = pCart 0 c ∧ Q (some (.int (wiF c w t))) hs
theorem ct_wish (l : Launch) : Ct l mX0_wish false 2 0 0 T_wish := by
  refine Ct.intro mX0_wish_ok ?_
  rintro args hs Q ⟨c, w, t, hw, ht, hok, rfl, rfl, h⟩
  obtain ⟨hk6, hkd⟩ := hok w hw
  have ew := pk_cl (x := nI w) w
  refine ⟨Nat.le_of_ble_eq_true rfl, ?_⟩
  have tail : (¬ (isU (kw c w) 4 = true ∧ moC c w < paC c)) → V l mX0_wish false (pCart 0 c) (zrm 2 0 0) (zFm false (pCart 0 c) Q 0 0) 0 0 50 [(0, .ref 0), (1, .int (nI w)), (2, .int (nI t))] [] (pCart 0 c) := by
    intro hn
    rw [wiF, if_neg hn] at h
    refine V.g 30 [] mX0_wish_ok rfl ?_
    refine V.cVW mX0_wish_ok rfl lX0_53 (ct_isOfKind l) rfl [.ref 0, .int (nI w), .int (nI 2)] [] rfl 0 0 rfl rfl rfl rfl rfl rfl (some (.int (bI (isU (kw c w) 2)))) (pCart 0 c) ⟨c, w, 2, kw c w, hw, by omega, hk6, hkd, rfl, rfl, rfl, rfl⟩ rfl ?_
    cases hb2 : isU (kw c w) 2 with
    | true =>
      rw [hb2] at h
      refine V.g 30 [] mX0_wish_ok rfl ?_
      refine And.intro (fun e => absurd e (by decide)) (fun _ => ?_)
      refine And.intro (pk_in w 4 hw) ⟨_, zsim_rfl _, ?_⟩
      rw [ew]
      exact h
    | false =>
      rw [hb2] at h
      refine V.g 30 [] mX0_wish_ok rfl ?_
      refine And.intro (fun _ => ?_) (fun e => absurd rfl e)
      exact ⟨_, zsim_rfl _, h⟩
  refine V.g 30 [] mX0_wish_ok rfl ?_
  refine V.cVW mX0_wish_ok rfl lX0_53 (ct_isOfKind l) rfl [.ref 0, .int (nI w), .int (nI 4)] [] rfl 0 0 rfl rfl rfl rfl rfl rfl (some (.int (bI (isU (kw c w) 4)))) (pCart 0 c) ⟨c, w, 4, kw c w, hw, by omega, hk6, hkd, rfl, rfl, rfl, rfl⟩ rfl ?_
  cases hb : isU (kw c w) 4 with
  | false =>
    refine V.g 30 [50] mX0_wish_ok rfl ?_
    refine And.intro (fun _ => ?_) (fun e => absurd rfl e)
    exact tail (fun q => by rw [hb] at q; cases q.1)
  | true =>
    refine V.g 30 [50] mX0_wish_ok rfl ?_
    refine And.intro (fun e => absurd e (by decide)) (fun _ => ?_)
    refine And.intro (pk_in w 4 hw) ?_
    refine And.intro (fun e => ?_) (fun e => ?_)
    · refine tail (fun q => ?_)
      have e2 : paC c ≤ moC c (nI w).toNatClampNeg := e
      rw [ew] at e2
      exact absurd q.2 (Int32.not_lt.mpr e2)
    · have e2 : ¬ paC c ≤ moC c (nI w).toNatClampNeg := e
      rw [ew] at e2
      rw [wiF, if_pos ⟨hb, Int32.not_le.mp e2⟩] at h
      refine And.intro (pk_in w 4 hw) (And.intro (show ¬ nI 2 = 0 by decide) ?_)
      have e3 : nI t - nI t / nI 2 * nI 2 = nI (t % 2) := pk_rem (by omega) (by omega) (by omega)
      refine zp_ne (t % 2) 0 (fun e => ?_) (fun e => ?_) e3
      · rw [if_neg e] at h
        refine ⟨_, zsim_rfl _, ?_⟩
        rw [ew]
        exact h
      · rw [if_pos e] at h
        refine ⟨_, zsim_rfl _, ?_⟩
        rw [ew]
        exact h
def T_drag : zT := fun args hs Q => ∃ (c : zCart) (w : Nat) (said : Int32) (t : Nat), w < 4 ∧ t < 30 ∧ kOk c ∧ args = [.ref 0, .int (nI w), .int said, .int (nI t)] ∧ hs = pCart 0 c ∧ Q (some (.int (drF c w said t))) hs
theorem ct_drag (l : Launch) : Ct l mX0_drag false 2 0 0 T_drag := by
  refine Ct.intro mX0_drag_ok ?_
  rintro args hs Q ⟨c, w, said, t, hw, ht, hok, rfl, rfl, h⟩
  obtain ⟨hk6, hkd⟩ := hok w hw
  have ew := pk_cl (x := nI w) w
  refine ⟨Nat.le_of_ble_eq_true rfl, ?_⟩
  have t60 : ∀ x : Int32, Q (some (.int (bif isU (kw c w) 3 then x + nI t * moC c w / nI 4 else x))) (pCart 0 c) → V l mX0_drag false (pCart 0 c) (zrm 2 0 0) (zFm false (pCart 0 c) Q 0 0) 0 0 60 [(5, .int x), (4, .int (ldO c w)), (0, .ref 0), (1, .int (nI w)), (2, .int said), (3, .int (nI t))] [] (pCart 0 c) := by
    intro x h
    refine V.g 30 [] mX0_drag_ok rfl ?_
    refine V.cVW mX0_drag_ok rfl lX0_53 (ct_isOfKind l) rfl [.ref 0, .int (nI w), .int (nI 3)] [] rfl 0 0 rfl rfl rfl rfl rfl rfl (some (.int (bI (isU (kw c w) 3)))) (pCart 0 c) ⟨c, w, 3, kw c w, hw, by omega, hk6, hkd, rfl, rfl, rfl, rfl⟩ rfl ?_
    cases hb : isU (kw c w) 3 with
    | true =>
      rw [hb] at h
      refine V.g 30 [] mX0_drag_ok rfl ?_
      refine And.intro (fun e => absurd e (by decide)) (fun _ => ?_)
      refine And.intro (pk_in w 4 hw) (And.intro (show ¬ nI 4 = 0 by decide) ⟨_, zsim_rfl _, ?_⟩)
      rw [ew]
      exact h
    | false =>
      rw [hb] at h
      refine V.g 30 [] mX0_drag_ok rfl ?_
      refine And.intro (fun _ => ?_) (fun e => absurd rfl e)
      exact ⟨_, zsim_rfl _, h⟩
  have t32 : ¬ (kdC c w = nI 5 ∧ ldO c w ≤ nI 3 * moC c w) → V l mX0_drag false (pCart 0 c) (zrm 2 0 0) (zFm false (pCart 0 c) Q 0 0) 0 0 32 [(4, .int (ldO c w)), (0, .ref 0), (1, .int (nI w)), (2, .int said), (3, .int (nI t))] [] (pCart 0 c) := by
    intro hn
    rw [drF, if_neg hn] at h
    refine V.g 30 [] mX0_drag_ok rfl ?_
    refine V.cVW mX0_drag_ok rfl lX0_53 (ct_isOfKind l) rfl [.ref 0, .int (nI w), .int (nI 1)] [] rfl 0 0 rfl rfl rfl rfl rfl rfl (some (.int (bI (isU (kw c w) 1)))) (pCart 0 c) ⟨c, w, 1, kw c w, hw, by omega, hk6, hkd, rfl, rfl, rfl, rfl⟩ rfl ?_
    cases hb : isU (kw c w) 1 with
    | true =>
      rw [hb] at h
      refine V.g 30 [60] mX0_drag_ok rfl ?_
      refine And.intro (fun e => absurd e (by decide)) (fun _ => ?_)
      refine And.intro (pk_in w 4 hw) ?_
      have e1 : moC c (nI w).toNatClampNeg = moC c w := by rw [ew]
      rw [← e1] at h
      refine t60 _ ?_
      rw [← e1]
      exact h
    | false =>
      rw [hb] at h
      refine V.g 30 [60] mX0_drag_ok rfl ?_
      refine And.intro (fun _ => ?_) (fun e => absurd rfl e)
      exact t60 _ h
  refine V.g 30 [] mX0_drag_ok rfl ?_
  refine V.cVW mX0_drag_ok rfl lX0_49 (ct_loadOver l) rfl [.ref 0, .int (nI w)] [] rfl 0 0 rfl rfl rfl rfl rfl rfl (some (.int (ldO c w))) (pCart 0 c) ⟨c, w, hw, rfl, rfl, rfl, rfl⟩ rfl ?_
  refine V.g 30 [32] mX0_drag_ok rfl ?_
  refine And.intro (pk_in w 4 hw) ?_
  refine And.intro (fun e => ?_) (fun e => ?_)
  · have e1 : ¬ kdC c (nI w).toNatClampNeg = nI 5 := e
    rw [ew] at e1
    exact t32 (fun q => e1 q.1)
  · have e1 : kdC c (nI w).toNatClampNeg = nI 5 := e
    rw [ew] at e1
    refine And.intro (pk_in w 4 hw) ?_
    refine And.intro (fun e => ?_) (fun e => ?_)
    · have e2 : nI 3 * moC c (nI w).toNatClampNeg < ldO c w := e
      rw [ew] at e2
      exact t32 (fun q => absurd e2 (Int32.not_lt.mpr q.2))
    · have e2 : ¬ nI 3 * moC c (nI w).toNatClampNeg < ldO c w := e
      rw [ew] at e2
      rw [drF, if_pos ⟨e1, Int32.not_lt.mp e2⟩] at h
      exact ⟨_, zsim_rfl _, h⟩
