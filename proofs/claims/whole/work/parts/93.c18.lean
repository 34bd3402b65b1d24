/-! ===== the class: lowestTerm, share, drawn, odds ===== -/
theorem nI_ng {k : Nat} (h : k < 2 ^ 30) : (- nI k).toInt = -(k : Int) := by
  rw [Int32.toInt_neg, nI_toInt (by omega)]
  exact Int.bmod_eq_of_le (by omega) (by omega)
theorem nI_ngl {k : Nat} (h : k < 2 ^ 30) : (- nI k).toInt64 = - lN k := by
  apply Int64.toInt_inj.mp
  rw [Int32.toInt_toInt64, nI_ng h, Int64.toInt_neg, pk_lT (by omega)]
  exact (Int.bmod_eq_of_le (by omega) (by omega)).symm
theorem nI_ngd {a g : Nat} (ha : a < 2 ^ 30) (h0 : 0 < g) (hg : g < 2 ^ 30) : - nI a / nI g = - nI (a / g) := by
  apply Int32.toInt_inj.mp
  have hd : a / g ≤ a := Nat.div_le_self a g
  rw [Int32.toInt_div, nI_ng ha, nI_ng (by omega), nI_toInt (by omega), Int.neg_tdiv]
  have : ((a : Int).tdiv (g : Int)) = ((a / g : Nat) : Int) := rfl
  rw [this]
  generalize a / g = q at hd
  exact Int.bmod_eq_of_le (by omega) (by omega)
theorem nI_ng0 {a : Nat} (ha : a < 2 ^ 30) (h0 : 0 < a) : ¬ 0 ≤ - nI a := by
  rw [Int32.le_iff_toInt_le, nI_ng ha]
  show ¬ (0 : Int) ≤ -(a : Int)
  omega
def ltA (s : Bool) (a b j : Nat) : Int64 := if s = true ∧ j = 0 then - loE a b 0 else loE a b j
def T7_lowestTerm : zT := fun args hs Q => ∃ (x y z : Int32) (a b j : Nat) (s : Bool), x = (bif s then - nI a else nI a) ∧ y = nI b ∧ z = nI j ∧ a < 2 ^ 30 ∧ b < 2 ^ 30 ∧ 0 < b ∧ j < 2 ∧ ((s = true → 0 < a)) ∧ args = [.int x, .int y, .int z] ∧ ∀ r : Int64, r = ltA s a b j → Q (some (.long r)) hs
set_option maxHeartbeats 500000 in
theorem c7_lowestTerm (l : Launch) : Ct l mX6_lowestTerm false 2 0 0 T7_lowestTerm := by
  refine Ct.intro mX6_lowestTerm_ok ?_
  rintro args hs Q ⟨x, y, z, a, b, j, s, hx, hy, hz, ha, hb, hb0, hj, hs3, rfl, h⟩
  refine ⟨Nat.le_of_ble_eq_true rfl, ?_⟩
  subst hy
  subst hz
  have hg0 := Nat.gcd_pos_of_pos_right a hb0
  have hgb := Nat.gcd_le_right a hb0
  have hgn : ¬ nI (Nat.gcd a b) = 0 := fun e => absurd ((nI_eq (b := 0) (by omega) (by omega)).mp e) (by omega)
  refine V.g2 60 [4, 17, 28] mX6_lowestTerm_ok rfl ?_
  refine V.mabs mX6_lowestTerm_ok rfl lX6_365 rfl rfl ?_
  have hab : (if 0 ≤ x then x else 0 - x) = nI a := by
    rw [hx]
    cases s with
    | false => exact if_pos (nI_le (Nat.zero_le a) (by omega))
    | true => rw [cond_true, if_neg (nI_ng0 ha (hs3 rfl)), Int32.zero_sub, Int32.neg_neg]
  refine V.nm [(0, .int x), (1, .int (nI b)), (2, .int (nI j))] [.int (nI a)] hs rfl (by rw [hab]) rfl ?_
  refine V.g2 60 [4, 17, 28] mX6_lowestTerm_ok rfl ?_
  refine V.cs mX6_lowestTerm_ok rfl lX6_368 (c7_commonDivisor l) rfl rfl rfl rfl ⟨_, _, a, b, rfl, rfl, by omega, by omega, rfl, fun q hq => ⟨rfl, ?_⟩⟩
  subst hq
  refine V.nm [(0, .int x), (1, .int (nI b)), (2, .int (nI j))] [.int (nI (Nat.gcd a b))] hs rfl rfl rfl ?_
  refine V.g2 60 [4, 17, 28] mX6_lowestTerm_ok rfl ?_
  refine zp_ne (Nat.gcd a b) 0 (fun e1 => ?_) (fun e1 => ?_) rfl rfl
  · refine V.g2 60 [4, 17, 28] mX6_lowestTerm_ok rfl ?_
    refine zp_ne j 0 (fun e2 => ?_) (fun e2 => ?_) rfl rfl
    · refine V.g2 60 [4, 17, 28] mX6_lowestTerm_ok rfl ?_
      refine And.intro (show ¬ (nI (Nat.gcd a b)) = 0 from hgn) ?_
      exact ⟨_, zsim_rfl _, h _ (by rw [ltA, if_neg (fun z => e2 z.2), loE, if_neg e2, pk_div (by omega) hg0 (by omega)]; exact nI_l (by have := Nat.div_le_self b (Nat.gcd a b); omega))⟩
    · subst e2
      cases s with
      | false =>
        have hx2 : x = (nI a) := hx
        subst hx2
        refine And.intro (show ¬ (nI (Nat.gcd a b)) = 0 from hgn) ?_
        exact ⟨_, zsim_rfl _, h _ (by rw [ltA, if_neg (fun z => Bool.noConfusion z.1), loE, if_pos rfl, pk_div (by omega) hg0 (by omega)]; exact nI_l (by have := Nat.div_le_self a (Nat.gcd a b); omega))⟩
      | true =>
        have hx2 : x = (- nI a) := hx
        subst hx2
        refine And.intro (show ¬ (nI (Nat.gcd a b)) = 0 from hgn) ?_
        exact ⟨_, zsim_rfl _, h _ (by rw [ltA, if_pos ⟨rfl, rfl⟩, loE, if_pos rfl, nI_ngd ha hg0 (by omega)]; exact nI_ngl (by have := Nat.div_le_self a (Nat.gcd a b); omega))⟩
  · exact absurd e1 (by omega)
def T6_drawn : zT := fun args hs Q => ∃ (c d k : zCart) (r tr kr : zRow) (rd : zRd) (ft : Nat) (tg : Nat → Option Nat) (tc lw kl ik : Int32) (ri : zRi) (s0 s1 s2 s3 : zSh) (tx : zTx) (x y : Int32) (P : zP), lOk tg lw tx P ∧ kOk c ∧ args = [.ref 0, .int x, .int y] ∧ hs = pX c d k r tr kr rd ft tg tc lw kl ik ri s0 s1 s2 s3 tx ∧ ((wiB x 99999 && wiB y 1) = false → Q (some (.int (-1000000))) hs) ∧ (∀ k1, k1 < 100000 → x = nI k1 → wiB y 1 = true → ∀ r0 : Int32, r0 = (if y = nI 0 then (rlL c P (nI (k1 + 1)).toInt64 30).2.1 else (rlL c P (nI (k1 + 1)).toInt64 30).2.2.2.2.2.1) → ∀ ri' nm' sk', Q (some (.int r0)) (pX c d k r tr kr rd ft tg tc lw kl ik ri' s0 s1 s2 s3 (txS tx nm' sk')))
set_option maxHeartbeats 4000000 in
theorem c6_drawn (l : Launch) : Ct l mX6_drawn false 8 0 0 T6_drawn := by
  refine Ct.intro mX6_drawn_ok ?_
  rintro args hs Q ⟨c, d, k, r, tr, kr, rd, ft, tg, tc, lw, kl, ik, ri, s0, s1, s2, s3, tx, x, y, P, hL, hok, rfl, rfl, h0, h1⟩
  obtain ⟨orc, orl, obl, olt, ote, oha, odr, ohd, opu, oaz, oco, oho, obu, obb, ofa⟩ := ri
  obtain ⟨nt, n, cd, en, nm, sk⟩ := tx
  refine ⟨Nat.le_of_ble_eq_true rfl, ?_⟩
  refine V.g2 60 [] mX6_drawn_ok rfl ?_
  refine V.cS0 mX6_drawn_ok rfl lX6_114 (ct_within l) rfl [.int x, .int (nI 0), .int (99999 : Int32)] [] rfl rfl rfl (some (.int (bI (decide ((nI 0) ≤ x) && decide (x ≤ (99999 : Int32)))))) (T_within_use rfl) ?_
  cases hB : (decide ((nI 0) ≤ x) && decide (x ≤ (99999 : Int32))) with
  | false =>
    refine V.nm [(0, .ref 0), (1, .int x), (2, .int y)] [.int (bI false)] (pX c d k r tr kr rd ft tg tc lw kl ik (orc, orl, obl, olt, ote, oha, odr, ohd, opu, oaz, oco, oho, obu, obb, ofa) s0 s1 s2 s3 (nt, n, cd, en, nm, sk)) rfl rfl rfl ?_
    have hB : wiB x 99999 = false := hB
    refine V.g2 60 [] mX6_drawn_ok rfl ?_
    refine And.intro (fun _ => ?_) (fun e => absurd rfl e)
    exact ⟨_, zsim_rfl _, h0 (by rw [hB]; rfl)⟩
  | true =>
    refine V.nm [(0, .ref 0), (1, .int x), (2, .int y)] [.int (bI true)] (pX c d k r tr kr rd ft tg tc lw kl ik (orc, orl, obl, olt, ote, oha, odr, ohd, opu, oaz, oco, oho, obu, obb, ofa) s0 s1 s2 s3 (nt, n, cd, en, nm, sk)) rfl rfl rfl ?_
    have hB : wiB x 99999 = true := hB
    refine V.g2 60 [] mX6_drawn_ok rfl ?_
    refine And.intro (fun e => absurd e (by decide)) (fun _ => ?_)
    refine V.cS0 mX6_drawn_ok rfl lX6_114 (ct_within l) rfl [.int y, .int (nI 0), .int (nI 1)] [] rfl rfl rfl (some (.int (bI (wiB y 1)))) (T_within_use rfl) ?_
    cases hC : (wiB y 1) with
    | false =>
      refine V.nm [(0, .ref 0), (1, .int x), (2, .int y)] [.int (bI false)] (pX c d k r tr kr rd ft tg tc lw kl ik (orc, orl, obl, olt, ote, oha, odr, ohd, opu, oaz, oco, oho, obu, obb, ofa) s0 s1 s2 s3 (nt, n, cd, en, nm, sk)) rfl rfl rfl ?_
      refine V.g2 60 [] mX6_drawn_ok rfl ?_
      refine And.intro (fun e => absurd rfl e) (fun _ => ?_)
      exact ⟨_, zsim_rfl _, h0 (by rw [hB, hC]; rfl)⟩
    | true =>
      refine V.nm [(0, .ref 0), (1, .int x), (2, .int y)] [.int (bI true)] (pX c d k r tr kr rd ft tg tc lw kl ik (orc, orl, obl, olt, ote, oha, odr, ohd, opu, oaz, oco, oho, obu, obb, ofa) s0 s1 s2 s3 (nt, n, cd, en, nm, sk)) rfl rfl rfl ?_
      obtain ⟨k1, hk1, rfl⟩ := wiB_t hB (by omega)
      have h1 := h1 k1 (by omega) rfl hC
      clear h0
      refine V.nm [(0, .ref 0), (1, .int (nI k1)), (2, .int y)] [.int (bI true)] (pX c d k r tr kr rd ft tg tc lw kl ik (orc, orl, obl, olt, ote, oha, odr, ohd, opu, oaz, oco, oho, obu, obb, ofa) s0 s1 s2 s3 (nt, n, cd, en, nm, sk)) rfl rfl rfl ?_
      obtain ⟨S, hS⟩ : ∃ S, pX c d k r tr kr rd ft tg tc lw kl ik (orc, orl, obl, olt, ote, oha, odr, ohd, opu, oaz, oco, oho, obu, obb, ofa) s0 s1 s2 s3 (nt, n, cd, en, nm, sk) = S := ⟨_, rfl⟩
      refine V.s0 hS ?_
      refine V.g2 60 [] mX6_drawn_ok rfl ?_
      refine And.intro (fun _ => ?_) (fun e => absurd e (by decide))
      refine V.cVW mX6_drawn_ok rfl lX6_128 (ct_theLaw l) rfl [.ref 0] [.ref 2, .ref 78] rfl 0 6 rfl rfl rfl rfl rfl rfl (some (.ref 102)) (pX c d k r tr kr rd ft tg tc lw kl ik (orc, orl, obl, olt, ote, oha, odr, ohd, opu, oaz, oco, oho, obu, obb, ofa) s0 s1 s2 s3 (nt, n, cd, en, nm, sk)) ⟨c, d, k, r, tr, kr, rd, ft, tg, tc, lw, kl, ik, (orc, orl, obl, olt, ote, oha, odr, ohd, opu, oaz, oco, oho, obu, obb, ofa), s0, s1, s2, s3, (nt, n, cd, en, nm, sk), P, hL, rfl, rfl, rfl, rfl⟩ rfl ?_
      refine V.g2 60 [] mX6_drawn_ok rfl ?_
      refine V.callVP mX6_drawn_ok rfl lX6_341 (ct_goByLot l) rfl 56 rfl (dl2 orc orl) (dl2_ok orc orl) [39, 40, 41, 1, 2, 3, 4, 5, 6, 7, 51, 52, 53, 54, 55] [none, some 3, some 4, some 5, some 6, some 7, some 8, some 9, none, none, none, none, none, none, none, none, none, none, none, none, none, none, none, none, none, none, none, none, none, none, none, none, none, none, none, none, none, none, none, some 0, some 1, some 2, none, none, none, none, none, none, none, none, none, some 10, some 11, some 12, some 13, some 14] (by decide +kernel) (pRide 101 103 obl olt ote oha odr ohd opu oaz oco oho obu obb ofa ++ (pCart 3 c ++ pText 10 nt n cd en nm sk)) [.ref 0, .ref 6, .ref 20, .int (nI k1)] [] (fun v wc' => ∃ (lt2 : Int64) (ha2 dr2 nm2 sk2 : fI) (hd2 : Int32) (rr2 : RT), rr2 = rlL c P ((nI k1) + nI 1).toInt64 30 ∧ v = none ∧ wc' = pRX 1 lt2 (nI 30) ha2 dr2 hd2 rr2 c nt n cd en nm2 sk2) rfl 0 2 rfl rfl rfl rfl rfl rfl rfl rfl ⟨101, 103, obl, olt, ote, oha, odr, ohd, opu, oaz, oco, oho, obu, obb, ofa, (nI k1), c, nt, n, cd, en, nm, sk, P, hok, hL.2, rfl, rfl, fun lt2 ha2 dr2 hd2 nm2 sk2 => ⟨lt2, ha2, dr2, nm2, sk2, hd2, _, rfl, rfl, rfl⟩⟩ (fun v wc' hv => ?_)
      obtain ⟨lt1, ha1, dr1, nm1, sk1, hd1, rr1, hst1, rfl, rfl⟩ := hv
      refine ⟨rfl, ?_⟩
      refine V.nm [(0, .ref 0), (1, .int (nI k1)), (2, .int y)] [] (pX c d k r tr kr rd ft tg tc lw kl ik (2, 102, 1, lt1, (nI 30), ha1, dr1, hd1, rr1) s0 s1 s2 s3 (nt, n, cd, en, nm1, sk1)) rfl rfl rfl ?_
      rw [show nI k1 + nI 1 = nI (k1 + 1) from nI_1 k1] at hst1
      obtain ⟨R, hR⟩ : ∃ R, R = rlL c P (nI (k1 + 1)).toInt64 30 := ⟨_, rfl⟩
      rw [← hR] at hst1
      have h1 := fun (r0 : Int32) (e : r0 = (if y = nI 0 then R.2.1 else R.2.2.2.2.2.1)) => h1 r0 (by rw [← hR]; exact e)
      refine V.g2 60 [] mX6_drawn_ok rfl ?_
      refine And.intro (fun (e2 : ¬ y = (0 : Int32)) => ?_) (fun (e2 : y = (0 : Int32)) => ?_)
      · exact ⟨_, zsim_rfl _, h1 _ (by rw [show nI 0 = (0 : Int32) from rfl, if_neg e2, ← hst1]) (2, 102, 1, lt1, (nI 30), ha1, dr1, hd1, rr1) nm1 sk1⟩
      · exact ⟨_, zsim_rfl _, h1 _ (by rw [show nI 0 = (0 : Int32) from rfl, if_pos e2, ← hst1]) (2, 102, 1, lt1, (nI 30), ha1, dr1, hd1, rr1) nm1 sk1⟩
def T6_odds : zT := fun args hs Q => ∃ (c d k : zCart) (r tr kr : zRow) (rd : zRd) (ft : Nat) (tg : Nat → Option Nat) (tc lw kl ik : Int32) (ri : zRi) (s0 s1 s2 s3 : zSh) (tx : zTx) (x y z : Int32) (P : zP), lOk tg lw tx P ∧ kOk c ∧ args = [.ref 0, .int x, .int y, .int z] ∧ hs = pX c d k r tr kr rd ft tg tc lw kl ik ri s0 s1 s2 s3 tx ∧ ((wiB x 99999 && (decide (nI 1 ≤ y) && decide (y ≤ nI 30)) && wiB z 1) = false → Q (some (.long (-4611686018427387904))) hs) ∧ (∀ k1 n j, k1 < 100000 → 1 ≤ n → n ≤ 30 → j < 2 → x = nI k1 → y = nI n → z = nI j → ∀ r0 : Int64, r0 = loE (cnB (smB c P k1) n) n j → ∀ ri' nm' sk', Q (some (.long r0)) (pX c d k r tr kr rd ft tg tc lw kl ik ri' s0 s1 s2 s3 (txS tx nm' sk')))
set_option maxHeartbeats 4000000 in
theorem c6_odds (l : Launch) : Ct l mX6_odds false 8 0 0 T6_odds := by
  refine Ct.intro mX6_odds_ok ?_
  rintro args hs Q ⟨c, d, k, r, tr, kr, rd, ft, tg, tc, lw, kl, ik, ri, s0, s1, s2, s3, tx, x, y, z, P, hL, hok, rfl, rfl, h0, h1⟩
  obtain ⟨orc, orl, obl, olt, ote, oha, odr, ohd, opu, oaz, oco, oho, obu, obb, ofa⟩ := ri
  obtain ⟨nt, n, cd, en, nm, sk⟩ := tx
  refine ⟨Nat.le_of_ble_eq_true rfl, ?_⟩
  refine V.g2 60 [40, 78] mX6_odds_ok rfl ?_
  refine V.cS0 mX6_odds_ok rfl lX6_114 (ct_within l) rfl [.int x, .int (nI 0), .int (99999 : Int32)] [] rfl rfl rfl (some (.int (bI (decide ((nI 0) ≤ x) && decide (x ≤ (99999 : Int32)))))) (T_within_use rfl) ?_
  cases hB : (decide ((nI 0) ≤ x) && decide (x ≤ (99999 : Int32))) with
  | false =>
    refine V.nm [(0, .ref 0), (1, .int x), (2, .int y), (3, .int z)] [.int (bI false)] (pX c d k r tr kr rd ft tg tc lw kl ik (orc, orl, obl, olt, ote, oha, odr, ohd, opu, oaz, oco, oho, obu, obb, ofa) s0 s1 s2 s3 (nt, n, cd, en, nm, sk)) rfl rfl rfl ?_
    have hB : wiB x 99999 = false := hB
    refine V.g2 60 [40, 78] mX6_odds_ok rfl ?_
    refine And.intro (fun _ => ?_) (fun e => absurd rfl e)
    exact ⟨_, zsim_rfl _, h0 (by rw [hB]; rfl)⟩
  | true =>
    refine V.nm [(0, .ref 0), (1, .int x), (2, .int y), (3, .int z)] [.int (bI true)] (pX c d k r tr kr rd ft tg tc lw kl ik (orc, orl, obl, olt, ote, oha, odr, ohd, opu, oaz, oco, oho, obu, obb, ofa) s0 s1 s2 s3 (nt, n, cd, en, nm, sk)) rfl rfl rfl ?_
    have hB : wiB x 99999 = true := hB
    refine V.g2 60 [40, 78] mX6_odds_ok rfl ?_
    refine And.intro (fun e => absurd e (by decide)) (fun _ => ?_)
    refine V.cS0 mX6_odds_ok rfl lX6_114 (ct_within l) rfl [.int y, .int (nI 1), .int (nI 30)] [] rfl rfl rfl (some (.int (bI (decide ((nI 1) ≤ y) && decide (y ≤ (nI 30)))))) (T_within_use rfl) ?_
    cases hC : (decide ((nI 1) ≤ y) && decide (y ≤ (nI 30))) with
    | false =>
      refine V.nm [(0, .ref 0), (1, .int x), (2, .int y), (3, .int z)] [.int (bI false)] (pX c d k r tr kr rd ft tg tc lw kl ik (orc, orl, obl, olt, ote, oha, odr, ohd, opu, oaz, oco, oho, obu, obb, ofa) s0 s1 s2 s3 (nt, n, cd, en, nm, sk)) rfl rfl rfl ?_
      refine V.g2 60 [40, 78] mX6_odds_ok rfl ?_
      refine And.intro (fun _ => ?_) (fun e => absurd rfl e)
      exact ⟨_, zsim_rfl _, h0 (by rw [hB, hC]; rfl)⟩
    | true =>
      refine V.nm [(0, .ref 0), (1, .int x), (2, .int y), (3, .int z)] [.int (bI true)] (pX c d k r tr kr rd ft tg tc lw kl ik (orc, orl, obl, olt, ote, oha, odr, ohd, opu, oaz, oco, oho, obu, obb, ofa) s0 s1 s2 s3 (nt, n, cd, en, nm, sk)) rfl rfl rfl ?_
      refine V.g2 60 [40, 78] mX6_odds_ok rfl ?_
      refine And.intro (fun e => absurd e (by decide)) (fun _ => ?_)
      refine V.cS0 mX6_odds_ok rfl lX6_114 (ct_within l) rfl [.int z, .int (nI 0), .int (nI 1)] [] rfl rfl rfl (some (.int (bI (wiB z 1)))) (T_within_use rfl) ?_
      cases hD : (wiB z 1) with
      | false =>
        refine V.nm [(0, .ref 0), (1, .int x), (2, .int y), (3, .int z)] [.int (bI false)] (pX c d k r tr kr rd ft tg tc lw kl ik (orc, orl, obl, olt, ote, oha, odr, ohd, opu, oaz, oco, oho, obu, obb, ofa) s0 s1 s2 s3 (nt, n, cd, en, nm, sk)) rfl rfl rfl ?_
        refine V.g2 60 [40, 78] mX6_odds_ok rfl ?_
        refine And.intro (fun e => absurd rfl e) (fun _ => ?_)
        exact ⟨_, zsim_rfl _, h0 (by rw [hB, hC, hD]; rfl)⟩
      | true =>
        refine V.nm [(0, .ref 0), (1, .int x), (2, .int y), (3, .int z)] [.int (bI true)] (pX c d k r tr kr rd ft tg tc lw kl ik (orc, orl, obl, olt, ote, oha, odr, ohd, opu, oaz, oco, oho, obu, obb, ofa) s0 s1 s2 s3 (nt, n, cd, en, nm, sk)) rfl rfl rfl ?_
        obtain ⟨k1, hk1, rfl⟩ := wiB_t hB (by omega)
        obtain ⟨j, hj, rfl⟩ := wiB_t hD (by omega)
        rw [Bool.and_eq_true, decide_eq_true_eq, decide_eq_true_eq] at hC
        obtain ⟨n1, hn, rfl⟩ := nI_of (Int32.not_lt.mpr (Int32.le_trans (show (0 : Int32) ≤ nI 1 by decide) hC.1))
        have hn1 : 1 ≤ n1 := (nI_leI (by omega) hn).mp hC.1
        have hn2 : n1 ≤ 30 := (nI_leI hn (by omega)).mp hC.2
        have h1 := h1 k1 n1 j (by omega) hn1 hn2 (by omega) rfl rfl rfl
        clear h0 hB hC hD
        refine V.nm [(0, .ref 0), (1, .int (nI k1)), (2, .int (nI n1)), (3, .int (nI j))] [.int (bI true)] (pX c d k r tr kr rd ft tg tc lw kl ik (orc, orl, obl, olt, ote, oha, odr, ohd, opu, oaz, oco, oho, obu, obb, ofa) s0 s1 s2 s3 (nt, n, cd, en, nm, sk)) rfl rfl rfl ?_
        obtain ⟨S, hS⟩ : ∃ S, pX c d k r tr kr rd ft tg tc lw kl ik (orc, orl, obl, olt, ote, oha, odr, ohd, opu, oaz, oco, oho, obu, obb, ofa) s0 s1 s2 s3 (nt, n, cd, en, nm, sk) = S := ⟨_, rfl⟩
        refine V.s0 hS ?_
        obtain ⟨G, hG⟩ : ∃ G, G = smB c P k1 := ⟨_, rfl⟩
        rw [← hG] at h1
        refine V.g2 60 [40, 78] mX6_odds_ok rfl ?_
        refine And.intro (fun _ => ?_) (fun e => absurd e (by decide))
        have loop : ∀ (m i : Nat) (x5 x4 : Int32) (rc2 rl2 : Nat) (bl2 : Int32) (lt2 : Int64) (te2 : Int32) (ha2 dr2 : fI) (hd2 : Int32) (rr2 : RT) (nm2 sk2 : fI), i + m = n1 → x5 = nI i → x4 = nI (cnB G i) → V l mX6_odds false S (zrm 8 0 0) (zFm false S Q 0 0) 0 0 40 [(5, .int x5), (4, .int x4), (0, .ref 0), (1, .int (nI k1)), (2, .int (nI n1)), (3, .int (nI j))] [] (pX c d k r tr kr rd ft tg tc lw kl ik (rc2, rl2, bl2, lt2, te2, ha2, dr2, hd2, rr2) s0 s1 s2 s3 (nt, n, cd, en, nm2, sk2)) := by
          intro m
          induction m with
          | zero =>
            intro i x5 x4 rc2 rl2 bl2 lt2 te2 ha2 dr2 hd2 rr2 nm2 sk2 hi h5 h4
            refine V.g2 60 [40, 78] mX6_odds_ok rfl ?_
            refine pk_le n1 i (fun e1 => ?_) (fun e1 => absurd e1 (by omega)) rfl h5
            have ei : n1 = i := by omega
            subst ei
            have hcl := cnB_le (p := G) n1
            subst h4
            refine V.cs mX6_odds_ok rfl lX6_336 (c7_lowestTerm l) rfl rfl rfl rfl ⟨_, _, _, cnB G n1, n1, j, false, rfl, rfl, rfl, by omega, by omega, by omega, by omega, (fun e => Bool.noConfusion e), rfl, fun q hq => ⟨rfl, ?_⟩⟩
            refine V.nm [(5, .int x5), (4, .int (nI (cnB G n1))), (0, .ref 0), (1, .int (nI k1)), (2, .int (nI n1)), (3, .int (nI j))] [.long q] (pX c d k r tr kr rd ft tg tc lw kl ik (rc2, rl2, bl2, lt2, te2, ha2, dr2, hd2, rr2) s0 s1 s2 s3 (nt, n, cd, en, nm2, sk2)) rfl rfl rfl ?_
            refine V.g2 60 [40, 78] mX6_odds_ok rfl ?_
            exact ⟨_, zsim_rfl _, h1 _ (by rw [hq, ltA, if_neg (fun e => Bool.noConfusion e.1)]) (rc2, rl2, bl2, lt2, te2, ha2, dr2, hd2, rr2) nm2 sk2⟩
          | succ m ih =>
            intro i x5 x4 rc2 rl2 bl2 lt2 te2 ha2 dr2 hd2 rr2 nm2 sk2 hi h5 h4
            refine V.g2 60 [40, 78] mX6_odds_ok rfl ?_
            refine pk_le n1 i (fun e1 => absurd e1 (by omega)) (fun e1 => ?_) rfl h5
            subst h5
            have hcl := cnB_le (p := G) i
            refine V.cVW mX6_odds_ok rfl lX6_128 (ct_theLaw l) rfl [.ref 0] [.ref 2, .ref 78] rfl 0 6 rfl rfl rfl rfl rfl rfl (some (.ref 102)) (pX c d k r tr kr rd ft tg tc lw kl ik (rc2, rl2, bl2, lt2, te2, ha2, dr2, hd2, rr2) s0 s1 s2 s3 (nt, n, cd, en, nm2, sk2)) ⟨c, d, k, r, tr, kr, rd, ft, tg, tc, lw, kl, ik, (rc2, rl2, bl2, lt2, te2, ha2, dr2, hd2, rr2), s0, s1, s2, s3, (nt, n, cd, en, nm2, sk2), P, hL, rfl, rfl, rfl, rfl⟩ rfl ?_
            refine V.g2 60 [40, 78] mX6_odds_ok rfl ?_
            refine V.callVP mX6_odds_ok rfl lX6_341 (ct_goByLot l) rfl 56 rfl (dl2 rc2 rl2) (dl2_ok rc2 rl2) [39, 40, 41, 1, 2, 3, 4, 5, 6, 7, 51, 52, 53, 54, 55] [none, some 3, some 4, some 5, some 6, some 7, some 8, some 9, none, none, none, none, none, none, none, none, none, none, none, none, none, none, none, none, none, none, none, none, none, none, none, none, none, none, none, none, none, none, none, some 0, some 1, some 2, none, none, none, none, none, none, none, none, none, some 10, some 11, some 12, some 13, some 14] (by decide +kernel) (pRide 101 103 bl2 lt2 te2 ha2 dr2 hd2 (rr2.1) (rr2.2.1) (rr2.2.2.1) (rr2.2.2.2.1) (rr2.2.2.2.2.1) (rr2.2.2.2.2.2.1) (rr2.2.2.2.2.2.2) ++ (pCart 3 c ++ pText 10 nt n cd en nm2 sk2)) [.ref 0, .ref 6, .ref 20, .int ((nI k1) + (nI i))] [] (fun v wc' => ∃ (lt2 : Int64) (ha2 dr2 nm2 sk2 : fI) (hd2 : Int32) (rr2 : RT), rr2 = rlL c P (((nI k1) + (nI i)) + nI 1).toInt64 30 ∧ v = none ∧ wc' = pRX 1 lt2 (nI 30) ha2 dr2 hd2 rr2 c nt n cd en nm2 sk2) rfl 0 2 rfl rfl rfl rfl rfl rfl rfl rfl ⟨101, 103, bl2, lt2, te2, ha2, dr2, hd2, (rr2.1), (rr2.2.1), (rr2.2.2.1), (rr2.2.2.2.1), (rr2.2.2.2.2.1), (rr2.2.2.2.2.2.1), (rr2.2.2.2.2.2.2), ((nI k1) + (nI i)), c, nt, n, cd, en, nm2, sk2, P, hok, hL.2, rfl, rfl, fun lt2 ha2 dr2 hd2 nm2 sk2 => ⟨lt2, ha2, dr2, nm2, sk2, hd2, _, rfl, rfl, rfl⟩⟩ (fun v wc' hv => ?_)
            obtain ⟨lt2, ha2, dr2, nm2, sk2, hd2, rr2, hst2, rfl, rfl⟩ := hv
            refine ⟨rfl, ?_⟩
            refine V.nm [(5, .int (nI i)), (4, .int x4), (0, .ref 0), (1, .int (nI k1)), (2, .int (nI n1)), (3, .int (nI j))] [] (pX c d k r tr kr rd ft tg tc lw kl ik (2, 102, 1, lt2, (nI 30), ha2, dr2, hd2, rr2) s0 s1 s2 s3 (nt, n, cd, en, nm2, sk2)) rfl rfl rfl ?_
            rw [nI_add, show nI (k1 + i) + nI 1 = nI (k1 + i + 1) from nI_1 _] at hst2
            have hg : G i = decide (rr2.2.2.2.2.2.1 = 0) := by rw [hG, hst2]; rfl
            refine V.g2 60 [40, 78] mX6_odds_ok rfl ?_
            refine And.intro (fun (e2 : ¬ (rr2.2.2.2.2.2.1) = (0 : Int32)) => ?_) (fun (e2 : (rr2.2.2.2.2.2.1) = (0 : Int32)) => ?_)
            · refine V.g2 60 [40, 78] mX6_odds_ok rfl ?_
              refine V.kn [5, 4, 0, 1, 2, 3] [(5, .int ((nI i) + zi 1)), (4, .int x4), (0, .ref 0), (1, .int (nI k1)), (2, .int (nI n1)), (3, .int (nI j))] [] (pX c d k r tr kr rd ft tg tc lw kl ik (2, 102, 1, lt2, (nI 30), ha2, dr2, hd2, rr2) s0 s1 s2 s3 (nt, n, cd, en, nm2, sk2)) rfl rfl rfl ?_
              exact ih (i + 1) _ _ _ _ _ _ _ _ _ _ _ _ _ (by omega) (ninc rfl) (by rw [cnB, hg, decide_eq_false e2]; exact h4)
            · refine V.g2 60 [40, 78] mX6_odds_ok rfl ?_
              refine V.kn [5, 4, 0, 1, 2, 3] [(5, .int ((nI i) + zi 1)), (4, .int (x4 + zi 1)), (0, .ref 0), (1, .int (nI k1)), (2, .int (nI n1)), (3, .int (nI j))] [] (pX c d k r tr kr rd ft tg tc lw kl ik (2, 102, 1, lt2, (nI 30), ha2, dr2, hd2, rr2) s0 s1 s2 s3 (nt, n, cd, en, nm2, sk2)) rfl rfl rfl ?_
              exact ih (i + 1) _ _ _ _ _ _ _ _ _ _ _ _ _ (by omega) (ninc rfl) (by rw [cnB, hg, decide_eq_true e2]; exact ninc h4)
        refine V.kn [5, 4, 0, 1, 2, 3] [(5, .int (nI 0)), (4, .int (nI 0)), (0, .ref 0), (1, .int (nI k1)), (2, .int (nI n1)), (3, .int (nI j))] [] (pX c d k r tr kr rd ft tg tc lw kl ik (orc, orl, obl, olt, ote, oha, odr, ohd, opu, oaz, oco, oho, obu, obb, ofa) s0 s1 s2 s3 (nt, n, cd, en, nm, sk)) rfl rfl rfl ?_
        exact loop n1 0 _ _ _ _ _ _ _ _ _ _ (opu, oaz, oco, oho, obu, obb, ofa) _ _ (by omega) rfl rfl
