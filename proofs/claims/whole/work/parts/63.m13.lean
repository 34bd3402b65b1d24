/-! ===== the reference: lowest terms, share, odds ===== -/
def loE (a b j : Nat) : Int64 := lN ((if j = 0 then a else b) / Nat.gcd a b)
def shE (p q b j : Nat) : Int64 := if p < q ∧ j = 0 then - loE (q - p) b 0 else loE (p - q + (q - p)) b j
theorem lc0 {a : Nat} (h : a < 2 ^ 63) : (lg_cmp (lN a) (Int64.ofNat 0) = 0) ↔ a = 0 := by
  rw [lg_cmp_eq]
  exact pk_lEQ h (by omega)
theorem lN_nz {a : Nat} (h : a < 2 ^ 63) (h0 : 0 < a) : ¬ lN a = 0 := fun z => by
  have := (pk_lEQ h (show 0 < 2 ^ 63 by omega)).mp z
  omega
theorem gcd_st {u v : Nat} : Nat.gcd u v = Nat.gcd v (u % v) := by
  rw [Nat.gcd_comm u v, Nat.gcd_rec v u, Nat.gcd_comm]
theorem loE_0 {b j : Nat} (hb : 0 < b) (hj : j < 2) : loE 0 b j = lN j := by
  unfold loE
  rw [Nat.gcd_zero_left]
  rcases (show j = 0 ∨ j = 1 by omega) with rfl | rfl
  · rw [if_pos rfl, Nat.zero_div]
  · rw [if_neg (by omega), Nat.div_self hb]
theorem lN_neg {p q : Nat} (h : p < q) : lN p - lN q = - lN (q - p) := by
  have e : lN q = lN p + lN (q - p) := by rw [lN_add, show p + (q - p) = q by omega]
  rw [e, Int64.sub_eq_add_neg, Int64.neg_add, Int64.sub_eq_add_neg, ← Int64.add_assoc, Int64.add_right_neg, Int64.zero_add]
theorem lN_ng0 {k : Nat} (h : k < 2 ^ 62) (h0 : 0 < k) : - lN k < 0 := by
  rw [Int64.lt_iff_toInt_lt, Int64.toInt_neg, pk_lT (by omega), Int.bmod_eq_of_le (by omega) (by omega)]
  show - (k : Int) < 0
  omega
def T7_lowest : zT := fun args hs Q => ∃ (x y : Int64) (z : Int32) (a b j : Nat), x = lN a ∧ y = lN b ∧ z = nI j ∧ a < 2 ^ 62 ∧ b < 2 ^ 62 ∧ 0 < b ∧ j < 2 ∧ args = [.long x, .long y, .int z] ∧ ∀ r : Int64, r = loE a b j → Q (some (.long r)) hs
theorem c7_lowest (l : Launch) : Ct l mX7_lowest false 1 0 0 T7_lowest := by
  refine Ct.intro mX7_lowest_ok ?_
  rintro args hs Q ⟨x, y, z, a, b, j, hx, hy, hz, ha, hb, hb0, hj, rfl, h⟩
  refine ⟨Nat.le_of_ble_eq_true rfl, ?_⟩
  subst hx
  subst hy
  subst hz
  refine V.g2 60 [16, 41] mX7_lowest_ok rfl ?_
  refine And.intro (fun (e : ¬ (lg_cmp (lN a) (Int64.ofNat 0)) = (0 : Int32)) => ?_) (fun (e : (lg_cmp (lN a) (Int64.ofNat 0)) = (0 : Int32)) => ?_)
  · have hg0 := Nat.gcd_pos_of_pos_right a hb0
    have hgb := Nat.gcd_le_right a hb0
    have loop : ∀ (m u v : Nat), v ≤ m → u < 2 ^ 62 → v < 2 ^ 62 → Nat.gcd u v = Nat.gcd a b → V l mX7_lowest false hs (zrm 1 0 0) (zFm false hs Q 0 0) 0 0 16 [(7, .long (lN v)), (5, .long (lN u)), (0, .long (lN a)), (2, .long (lN b)), (4, .int (nI j))] [] (hs) := by
      intro m
      induction m with
      | zero =>
        intro u v hv hu hv2 hg
        have hv0 : v = 0 := by omega
        refine V.g2 60 [16, 41] mX7_lowest_ok rfl ?_
        refine And.intro (fun (e : (lg_cmp (lN v) (Int64.ofNat 0)) = (0 : Int32)) => ?_) (fun (e : ¬ (lg_cmp (lN v) (Int64.ofNat 0)) = (0 : Int32)) => absurd ((lc0 (by omega)).mpr hv0) e)
        subst hv0
        rw [Nat.gcd_zero_right] at hg
        subst hg
        refine V.g2 60 [16, 41] mX7_lowest_ok rfl ?_
        refine zp_ne j 0 (fun ej => ?_) (fun ej => ?_) rfl rfl
        · refine And.intro (show ¬ (lN (Nat.gcd a b)) = 0 from lN_nz (by omega) hg0) ?_
          refine ⟨_, zsim_rfl _, ?_⟩
          exact h _ (by rw [loE, if_neg ej]; exact pk_lDiv (by omega) hg0 (by omega))
        · refine And.intro (show ¬ (lN (Nat.gcd a b)) = 0 from lN_nz (by omega) hg0) ?_
          refine ⟨_, zsim_rfl _, ?_⟩
          exact h _ (by rw [loE, if_pos ej]; exact pk_lDiv (by omega) hg0 (by omega))
      | succ m ih =>
        intro u v hv hu hv2 hg
        refine V.g2 60 [16, 41] mX7_lowest_ok rfl ?_
        refine And.intro (fun (e : (lg_cmp (lN v) (Int64.ofNat 0)) = (0 : Int32)) => ?_) (fun (e : ¬ (lg_cmp (lN v) (Int64.ofNat 0)) = (0 : Int32)) => ?_)
        · have hv0 := (lc0 (by omega)).mp e
          subst hv0
          rw [Nat.gcd_zero_right] at hg
          subst hg
          refine V.g2 60 [16, 41] mX7_lowest_ok rfl ?_
          refine zp_ne j 0 (fun ej => ?_) (fun ej => ?_) rfl rfl
          · refine And.intro (show ¬ (lN (Nat.gcd a b)) = 0 from lN_nz (by omega) hg0) ?_
            refine ⟨_, zsim_rfl _, ?_⟩
            exact h _ (by rw [loE, if_neg ej]; exact pk_lDiv (by omega) hg0 (by omega))
          · refine And.intro (show ¬ (lN (Nat.gcd a b)) = 0 from lN_nz (by omega) hg0) ?_
            refine ⟨_, zsim_rfl _, ?_⟩
            exact h _ (by rw [loE, if_pos ej]; exact pk_lDiv (by omega) hg0 (by omega))
        · have hv0 : 0 < v := Nat.pos_of_ne_zero (fun q => e ((lc0 (by omega)).mpr q))
          have hm := Nat.mod_lt u hv0
          refine And.intro (show ¬ (lN v) = 0 from lN_nz (by omega) hv0) ?_
          refine V.kn [7, 5, 0, 2, 4] [(7, .long ((lN u) - (lN u) / (lN v) * (lN v))), (5, .long (lN v)), (0, .long (lN a)), (2, .long (lN b)), (4, .int (nI j))] [] (hs) rfl rfl rfl ?_
          rw [pk_lRem (by omega) hv0 (by omega)]
          exact ih v (u % v) (by omega) hv2 (by omega) (by rw [← hg]; exact gcd_st.symm)
    refine V.kn [7, 5, 0, 2, 4] [(7, .long (lN b)), (5, .long (lN a)), (0, .long (lN a)), (2, .long (lN b)), (4, .int (nI j))] [] (hs) rfl rfl rfl ?_
    exact loop b a b (Nat.le_refl _) ha hb rfl
  · refine ⟨_, zsim_rfl _, ?_⟩
    have ea := (lc0 (by omega)).mp e
    exact h _ (by rw [ea, loE_0 hb0 hj]; exact nI_l (by omega))
def T7_fraction : zT := fun args hs Q => ∃ (x y : Int64) (z : Int32) (p q b j : Nat), x = lN p - lN q ∧ y = lN b ∧ z = nI j ∧ p < 2 ^ 40 ∧ q < 2 ^ 40 ∧ b < 2 ^ 62 ∧ 0 < b ∧ j < 2 ∧ args = [.long x, .long y, .int z] ∧ ∀ r : Int64, r = shE p q b j → Q (some (.long r)) hs
theorem c7_fraction (l : Launch) : Ct l mX7_fraction false 2 0 0 T7_fraction := by
  refine Ct.intro mX7_fraction_ok ?_
  rintro args hs Q ⟨x, y, z, p, q, b, j, hx, hy, hz, hp, hq, hb, hb0, hj, rfl, h⟩
  refine ⟨Nat.le_of_ble_eq_true rfl, ?_⟩
  subst hz
  rcases Nat.lt_or_ge p q with hpq | hpq
  · rw [lN_neg hpq] at hx
    have hx0 : x < 0 := by rw [hx]; exact lN_ng0 (by omega) (by omega)
    have hneg : - x = lN (q - p) := by rw [hx, Int64.neg_neg]
    have hc : ¬ 0 ≤ lg_cmp x (Int64.ofNat 0) := fun z => absurd ((lg_cmp_ge _ _).mp z) (Int64.not_le.mpr hx0)
    refine V.g2 60 [12, 37] mX7_fraction_ok rfl ?_
    refine And.intro (fun (e : (0 : Int32) ≤ (lg_cmp x (Int64.ofNat 0))) => absurd e hc) (fun (e : ¬ (0 : Int32) ≤ (lg_cmp x (Int64.ofNat 0))) => ?_)
    refine V.g2 60 [12, 37] mX7_fraction_ok rfl ?_
    refine V.cs mX7_fraction_ok rfl lX7_351 (c7_lowest l) rfl rfl rfl rfl ⟨_, _, _, q - p, b, j, hneg, hy, rfl, by omega, hb, hb0, hj, rfl, fun r hr => ⟨rfl, ?_⟩⟩
    refine V.g2 60 [12, 37] mX7_fraction_ok rfl ?_
    refine zp_ne j 0 (fun ej => ?_) (fun ej => ?_) rfl rfl
    · refine V.g2 60 [12, 37] mX7_fraction_ok rfl ?_
      refine ⟨_, zsim_rfl _, ?_⟩
      exact h _ (by rw [hr, shE, if_neg (fun z => ej z.2), show p - q + (q - p) = q - p by omega])
    · refine And.intro (fun (e : (0 : Int32) ≤ (lg_cmp x (Int64.ofNat 0))) => absurd e hc) (fun (e : ¬ (0 : Int32) ≤ (lg_cmp x (Int64.ofNat 0))) => ?_)
      refine ⟨_, zsim_rfl _, ?_⟩
      exact h _ (by rw [hr, ej, shE, if_pos ⟨hpq, rfl⟩])
  · rw [lN_sub hpq] at hx
    have hc : 0 ≤ lg_cmp x (Int64.ofNat 0) := (lg_cmp_ge _ _).mpr (by rw [hx]; exact (pk_lLE (show 0 < 2 ^ 63 by omega) (by omega)).mpr (Nat.zero_le _))
    refine V.g2 60 [12, 37] mX7_fraction_ok rfl ?_
    refine And.intro (fun (e : (0 : Int32) ≤ (lg_cmp x (Int64.ofNat 0))) => ?_) (fun (e : ¬ (0 : Int32) ≤ (lg_cmp x (Int64.ofNat 0))) => absurd hc e)
    refine V.g2 60 [12, 37] mX7_fraction_ok rfl ?_
    refine V.cs mX7_fraction_ok rfl lX7_351 (c7_lowest l) rfl rfl rfl rfl ⟨_, _, _, p - q, b, j, hx, hy, rfl, by omega, hb, hb0, hj, rfl, fun r hr => ⟨rfl, ?_⟩⟩
    refine V.g2 60 [12, 37] mX7_fraction_ok rfl ?_
    refine zp_ne j 0 (fun ej => ?_) (fun ej => ?_) rfl rfl
    · refine V.g2 60 [12, 37] mX7_fraction_ok rfl ?_
      refine ⟨_, zsim_rfl _, ?_⟩
      exact h _ (by rw [hr, shE, if_neg (fun z => absurd z.1 (Nat.not_lt.mpr hpq)), show p - q + (q - p) = p - q by omega])
    · refine And.intro (fun (e : (0 : Int32) ≤ (lg_cmp x (Int64.ofNat 0))) => ?_) (fun (e : ¬ (0 : Int32) ≤ (lg_cmp x (Int64.ofNat 0))) => absurd hc e)
      refine V.g2 60 [12, 37] mX7_fraction_ok rfl ?_
      refine ⟨_, zsim_rfl _, ?_⟩
      exact h _ (by rw [hr, shE, if_neg (fun z => absurd z.1 (Nat.not_lt.mpr hpq)), show p - q + (q - p) = p - q by omega])
theorem kM_c {f g : Nat → Int32} {a b : Nat → fI} (h : kM f a g b) : cM g b = cM f a := by
  obtain ⟨⟨c1, -⟩, ⟨d1, d2, d3, d4, d5, d6, -⟩⟩ := h
  show (b 0, b 1, b 2, b 3, b 4, b 6, g 5) = (a 0, a 1, a 2, a 3, a 4, a 6, f 5)
  rw [c1, d1, d2, d3, d4, d5, d6]
theorem kM_m {f g : Nat → Int32} {a b : Nat → fI} {P : zP} (h : kM f a g b) (hM : mOk f a P) : mOk g b P := by
  obtain ⟨h1, h2, li, h3, h4⟩ := hM
  have e := kM_c h
  obtain ⟨⟨c1, c2, c3, c4, c5, c6, c7, c8, c9, c10, c11⟩, ⟨d1, d2, d3, d4, d5, d6, d7, d8, d9, d10, d11, d12, d13, d14, d15, d16⟩⟩ := h
  refine ⟨by rw [e]; exact h1, by rw [e]; exact h2, li, by rw [c8]; exact h3, ?_⟩
  rw [d10, d11]
  exact h4
def cnB (p : Nat → Bool) : Nat → Nat
  | 0 => 0
  | n + 1 => cnB p n + (if p n then 1 else 0)
theorem cnB_le {p : Nat → Bool} : ∀ n, cnB p n ≤ n
  | 0 => Nat.le_refl _
  | n + 1 => by have := cnB_le (p := p) n; rw [cnB]; split <;> omega
def smB (c : zCart) (P : zP) (k i : Nat) : Bool := decide ((rlL c P (nI (k + i + 1)).toInt64 30).2.2.2.2.2.1 = 0)
theorem anB3 {a b c : Bool} : (a && b && c) = false → a = false ∨ b = false ∨ c = false := by cases a <;> cases b <;> cases c <;> decide
def T7_odds : zT := fun args hs Q => ∃ (fv : Nat → Int32) (ar : Nat → fI) (x y z : Int32) (P : zP), mOk fv ar P ∧ args = [.ref 0, .int x, .int y, .int z] ∧ hs = pM fv ar ∧ ((wiB x 99999 && (decide (nI 1 ≤ y) && decide (y ≤ nI 30)) && wiB z 1) = false → Q (some (.long (-4611686018427387904))) hs) ∧ (∀ k n j, k < 100000 → 1 ≤ n → n ≤ 30 → j < 2 → x = nI k → y = nI n → z = nI j → ∀ r : Int64, r = loE (cnB (smB (cM fv ar) P k) n) n j → ∀ fv2 ar2, kM fv ar fv2 ar2 → Q (some (.long r)) (pM fv2 ar2))
set_option maxHeartbeats 500000 in
theorem c7_odds (l : Launch) : Ct l mX7_odds false 10 0 0 T7_odds := by
  refine Ct.intro mX7_odds_ok ?_
  rintro args hs Q ⟨fv, ar, x, y, z, P, hM, rfl, rfl, h0, h1⟩
  refine ⟨Nat.le_of_ble_eq_true rfl, ?_⟩
  have t30 : (wiB x 99999 && (decide (nI 1 ≤ y) && decide (y ≤ nI 30)) && wiB z 1) = false → V l mX7_odds false (pM fv ar) (zrm 10 0 0) (zFm false (pM fv ar) Q 0 0) 0 0 30 [(0, .ref 0), (1, .int x), (2, .int y), (3, .int z)] [] (pM fv ar) := by
    intro  hf
    refine V.g2 60 [30, 34, 40, 68, 77] mX7_odds_ok rfl ?_
    exact ⟨_, zsim_rfl _, h0 hf⟩
  refine V.g2 60 [30, 34, 40, 68, 77] mX7_odds_ok rfl ?_
  refine V.cs mX7_odds_ok rfl lX7_117 (c7_in l) rfl rfl rfl rfl ⟨_, _, _, rfl, fun B hB => ⟨rfl, ?_⟩⟩
  rcases B with _ | _
  · refine V.g2 60 [30, 34, 40, 68, 77] mX7_odds_ok rfl ?_
    refine And.intro (fun _ => ?_) (fun e => absurd rfl e)
    refine V.kn [0, 1, 2, 3] [(0, .ref 0), (1, .int x), (2, .int y), (3, .int z)] [] (pM fv ar) rfl rfl rfl ?_
    exact t30 (by rw [show wiB x 99999 = false from hB.symm]; rfl)
  · refine V.g2 60 [30, 34, 40, 68, 77] mX7_odds_ok rfl ?_
    refine And.intro (fun e => absurd e (by decide)) (fun _ => ?_)
    refine V.cs mX7_odds_ok rfl lX7_117 (c7_in l) rfl rfl rfl rfl ⟨_, _, _, rfl, fun B2 hB2 => ⟨rfl, ?_⟩⟩
    rcases B2 with _ | _
    · refine V.g2 60 [30, 34, 40, 68, 77] mX7_odds_ok rfl ?_
      refine And.intro (fun _ => ?_) (fun e => absurd rfl e)
      refine V.kn [0, 1, 2, 3] [(0, .ref 0), (1, .int x), (2, .int y), (3, .int z)] [] (pM fv ar) rfl rfl rfl ?_
      exact t30 (by rw [show (decide (nI 1 ≤ y) && decide (y ≤ nI 30)) = false from hB2.symm, Bool.and_false]; rfl)
    · refine V.g2 60 [30, 34, 40, 68, 77] mX7_odds_ok rfl ?_
      refine And.intro (fun e => absurd e (by decide)) (fun _ => ?_)
      refine V.cs mX7_odds_ok rfl lX7_117 (c7_in l) rfl rfl rfl rfl ⟨_, _, _, rfl, fun B3 hB3 => ⟨rfl, ?_⟩⟩
      rcases B3 with _ | _
      · refine V.g2 60 [30, 34, 40, 68, 77] mX7_odds_ok rfl ?_
        refine And.intro (fun e => absurd rfl e) (fun _ => ?_)
        refine V.kn [0, 1, 2, 3] [(0, .ref 0), (1, .int x), (2, .int y), (3, .int z)] [] (pM fv ar) rfl rfl rfl ?_
        exact t30 (by rw [show wiB z 1 = false from hB3.symm, Bool.and_false])
      · clear t30 h0
        obtain ⟨k, hk, rfl⟩ := wiB_t (n := 99999) hB.symm (by omega)
        have q := hB2.symm
        simp only [Bool.and_eq_true, decide_eq_true_eq] at q
        obtain ⟨n, hn, rfl⟩ := nI_of (Int32.not_lt.mpr (Int32.le_trans (show (0 : Int32) ≤ nI 1 by decide) (show nI 1 ≤ y from q.1)))
        have hn1 : 1 ≤ n := (nI_leI (by omega) hn).mp (show nI 1 ≤ nI n from q.1)
        have hn2 : n ≤ 30 := (nI_leI hn (by omega)).mp (show nI n ≤ nI 30 from q.2)
        obtain ⟨j, hj, rfl⟩ := wiB_t (n := 1) hB3.symm (by omega)
        have h := h1 k n j (by omega) hn1 hn2 (by omega) rfl rfl rfl
        refine V.g2 60 [30, 34, 40, 68, 77] mX7_odds_ok rfl ?_
        refine And.intro (fun _ => ?_) (fun e => absurd e (by decide))
        refine V.g2 60 [30, 34, 40, 68, 77] mX7_odds_ok rfl ?_
        generalize hS : pM fv ar = S
        have loop : ∀ (m i : Nat) (x6 : Int32) (x4 : Int64) (fv2 : Nat → Int32) (ar2 : Nat → fI), i + m = n → x6 = nI i → x4 = lN (cnB (smB (cM fv ar) P k) i) → kM fv ar fv2 ar2 → V l mX7_odds false S (zrm 10 0 0) (zFm false S Q 0 0) 0 0 40 [(6, .int x6), (4, .long x4), (0, .ref 0), (1, .int (nI k)), (2, .int (nI n)), (3, .int (nI j))] [] (pM fv2 ar2) := by
          intro m
          induction m with
          | zero =>
            intro i x6 x4 fv2 ar2 hi h6 h4 hk2
            have ei : i = n := by omega
            rw [ei] at h4
            refine V.g2 60 [30, 34, 40, 68, 77] mX7_odds_ok rfl ?_
            refine pk_le n i (fun e => ?_) (fun e => absurd e (by omega)) rfl h6
            refine V.g2 60 [30, 34, 40, 68, 77] mX7_odds_ok rfl ?_
            refine V.cs mX7_odds_ok rfl lX7_351 (c7_lowest l) rfl rfl rfl rfl ⟨_, _, _, cnB (smB (cM fv ar) P k) n, n, j, h4, nI_l (by omega), rfl, by have := cnB_le (p := smB (cM fv ar) P k) n; omega, by omega, by omega, by omega, rfl, fun r hr => ⟨rfl, ?_⟩⟩
            refine V.g2 60 [30, 34, 40, 68, 77] mX7_odds_ok rfl ?_
            exact ⟨_, zsim_rfl _, h r hr fv2 ar2 hk2⟩
          | succ m ih =>
            intro i x6 x4 fv2 ar2 hi h6 h4 hk2
            refine V.g2 60 [30, 34, 40, 68, 77] mX7_odds_ok rfl ?_
            refine pk_le n i (fun el => absurd el (by omega)) (fun el => ?_) rfl h6
            refine V.cw mX7_odds_ok rfl lX7_368 (c7_rollsBy l) rfl 0 7 rfl rfl rfl rfl rfl rfl ⟨fv2, ar2, k + i, P, by omega, kM_m hk2 hM, by rw [nadd rfl h6]; rfl, rfl, fun q hq fv3 ar3 hk3 h43 _ => ⟨rfl, ?_⟩⟩
            rw [kM_c hk2] at hq
            refine V.g2 60 [30, 34, 40, 68, 77] mX7_odds_ok rfl ?_
            refine And.intro (fun (e : ¬ (fv3 43) = (0 : Int32)) => ?_) (fun (e : (fv3 43) = (0 : Int32)) => ?_)
            · refine V.g2 60 [30, 34, 40, 68, 77] mX7_odds_ok rfl ?_
              refine V.kn [6, 4, 0, 1, 2, 3] [(6, .int (x6 + zi 1)), (4, .long (x4 + (Int64.ofNat 0))), (0, .ref 0), (1, .int (nI k)), (2, .int (nI n)), (3, .int (nI j))] [] (pM fv3 ar3) rfl rfl rfl ?_
              have eb : smB (cM fv ar) P k i = false := decide_eq_false (by rw [← hq, ← h43]; exact e)
              refine ih (i + 1) _ _ fv3 ar3 (by omega) (ninc h6) ?_ (kM_tr hk2 hk3)
              rw [cnB, eb, h4]
              exact lN_add _ 0
            · refine V.g2 60 [30, 34, 40, 68, 77] mX7_odds_ok rfl ?_
              refine V.kn [6, 4, 0, 1, 2, 3] [(6, .int (x6 + zi 1)), (4, .long (x4 + (Int64.ofNat 1))), (0, .ref 0), (1, .int (nI k)), (2, .int (nI n)), (3, .int (nI j))] [] (pM fv3 ar3) rfl rfl rfl ?_
              have eb : smB (cM fv ar) P k i = true := decide_eq_true (by rw [← hq, ← h43]; exact e)
              refine ih (i + 1) _ _ fv3 ar3 (by omega) (ninc h6) ?_ (kM_tr hk2 hk3)
              rw [cnB, eb, h4]
              exact lN_add _ 1
        subst hS
        refine V.kn [6, 4, 0, 1, 2, 3] [(6, .int (nI 0)), (4, .long (Int64.ofNat 0)), (0, .ref 0), (1, .int (nI k)), (2, .int (nI n)), (3, .int (nI j))] [] (pM fv ar) rfl rfl rfl ?_
        exact loop n 0 _ _ fv ar (by omega) rfl rfl (kM_rfl _ _)
def bOk (bd : fI) : Prop := ∀ i, i < 8 → ∃ b, b ≤ 99 ∧ bd i = nI b
theorem nI_cl {b : Nat} (h : b < 2 ^ 31) : cl (nI b) = b := nI_clamp h
theorem bOk_cl {bd : fI} (h : bOk bd) {i : Nat} (hi : i < 8) : cl (bd i) ≤ 99 ∧ bd i = nI (cl (bd i)) := by
  obtain ⟨b, hb, e⟩ := h i hi
  rw [e, nI_cl (by omega)]
  exact ⟨hb, rfl⟩
theorem psh_mb {g : Nat} {s : RS} : (psh g s).2.2.2 = s.2.2.2 := by
  unfold psh
  split <;> rfl
theorem tko_mb {bd : fI} {be : Int32} {lk g m : Nat} {s : RS} (hb : bOk bd) (h : rOk s g) (hm : ∃ k, k ≤ m ∧ s.2.2.2.1 = nI k) : ∃ k, k ≤ m + 99 ∧ (tko bd be lk g s).2.2.2.1 = nI k := by
  obtain ⟨k, hk, e⟩ := hm
  unfold tko
  split
  · exact ⟨k, by omega, e⟩
  · rename_i p hp
    have hp8 : p < 8 := Nat.lt_of_lt_of_le (chG_lt bd s.1 be (m := min s.2.1 lk) _ _ _ (by omega) (fun q hq => by cases hq) p hp) (by have := h.1; omega)
    obtain ⟨j, hj, ej⟩ := h.2.1 p hp8
    obtain ⟨b, hb9, eb⟩ := hb j hj
    refine ⟨k + b, by omega, ?_⟩
    show s.2.2.2.1 + bd (cl (s.1 p)) = _
    rw [e, ej, nI_cl (by omega), eb]
    exact nadd rfl rfl
theorem svG_mb {bd : fI} {be : Int32} {lk aw : Nat} {od : fI} {sz : Nat} {tk : fI} (hb : bOk bd) (h : sz ≤ 8) (ho : oOk od) : ∀ g, ∃ k, k ≤ 99 * g ∧ (svG bd be lk aw (od, sz, tk, 0, 0, 0) g).2.2.2.1 = nI k
  | 0 => ⟨0, by omega, rfl⟩
  | g + 1 => by
    have hr : rOk (svG bd be lk aw (od, sz, tk, 0, 0, 0) g) g := svG_ok (s := (od, sz, tk, 0, 0, 0)) ⟨h, ho, fun k hk => absurd hk (by omega)⟩ g
    have hm := svG_mb (be := be) (lk := lk) (aw := aw) (tk := tk) hb h ho g
    rw [svG]
    unfold gst
    have key : ∀ s2 : RS, rOk s2 g → (∃ k, k ≤ 99 * g ∧ s2.2.2.2.1 = nI k) → ∃ k, k ≤ 99 * (g + 1) ∧ (tko bd be lk g s2).2.2.2.1 = nI k := fun s2 h2 hm2 => tko_mb hb h2 hm2
    split
    · exact key _ (psh_ok hr (by omega)) (by rw [psh_mb]; exact hm)
    · exact key _ hr hm
theorem svP_mb {s : RS} {g : Nat} : ∀ n, (svP s g n).2.2.2 = s.2.2.2
  | 0 => rfl
  | n + 1 => by rw [svP, psh_mb]; exact svP_mb n
theorem svF_mb {bd : fI} {be : Int32} {lk aw : Nat} {od : fI} {sz n : Nat} (hb : bOk bd) (h : sz ≤ 8) (ho : oOk od) : ∃ k, k ≤ 99 * n ∧ (svF bd be lk aw od sz n).2.2.2.1 = nI k := by
  have e : (svF bd be lk aw od sz n).2.2.2 = (svG bd be lk aw (od, sz, (fun _ => 0), 0, 0, 0) n).2.2.2 := svP_mb _
  rw [show (svF bd be lk aw od sz n).2.2.2.1 = (svG bd be lk aw (od, sz, (fun _ => 0), 0, 0, 0) n).2.2.2.1 from congrArg Prod.fst e]
  exact svG_mb hb h ho n
def clS (f : fI) : Nat → Nat
  | 0 => 0
  | n + 1 => clS f n + cl (f n)
theorem clS_le {f : fI} (h : bOk f) : ∀ n, n ≤ 8 → clS f n ≤ 99 * n
  | 0, _ => Nat.le_refl _
  | n + 1, h2 => by
    have h3 := clS_le h n (by omega)
    have h4 := (bOk_cl h (show n < 8 by omega)).1
    rw [clS]
    omega
def T7_share : zT := fun args hs Q => ∃ (fv : Nat → Int32) (ar : Nat → fI) (x y : Int32) (sz lk aw : Nat) (od : fI), sz ≤ 8 ∧ fv 7 = nI sz ∧ lk ≤ 8 ∧ fv 10 = nI lk ∧ aw ≤ 5 ∧ fv 12 = nI aw ∧ ((∀ i, i < sz → ar 9 i = od i)) ∧ oOk od ∧ bOk (ar 8) ∧ args = [.ref 0, .int x, .int y] ∧ hs = pM fv ar ∧ (((decide (nI 1 ≤ x) && decide (x ≤ nI 24)) && wiB y 1) = false ∨ sz = 0 → Q (some (.long (-4611686018427387904))) hs) ∧ (∀ n j, 1 ≤ n → n ≤ 24 → x = nI n → j < 2 → y = nI j → 0 < sz → ∀ r : Int64, r = shE (cl (svF (ar 8) (fv 11) lk aw od sz n).2.2.2.1 * sz) (clS (ar 8) sz * n) (n * sz) j → ∀ fv2 ar2, kM fv ar fv2 ar2 → Q (some (.long r)) (pM fv2 ar2))
set_option maxHeartbeats 500000 in
theorem c7_share (l : Launch) : Ct l mX7_share false 6 0 0 T7_share := by
  refine Ct.intro mX7_share_ok ?_
  rintro args hs Q ⟨fv, ar, x, y, sz, lk, aw, od, hsz8, h7, hlk, h10, haw, h12, hord, hod, hbo, rfl, rfl, h0, h1⟩
  refine ⟨Nat.le_of_ble_eq_true rfl, ?_⟩
  have t26 : ((decide (nI 1 ≤ x) && decide (x ≤ nI 24)) && wiB y 1) = false ∨ sz = 0 → V l mX7_share false (pM fv ar) (zrm 6 0 0) (zFm false (pM fv ar) Q 0 0) 0 0 26 [(0, .ref 0), (1, .int x), (2, .int y)] [] (pM fv ar) := by
    intro  hf
    refine V.g2 60 [26, 35, 61] mX7_share_ok rfl ?_
    exact ⟨_, zsim_rfl _, h0 hf⟩
  refine V.g2 60 [26, 35, 61] mX7_share_ok rfl ?_
  refine V.cs mX7_share_ok rfl lX7_117 (c7_in l) rfl rfl rfl rfl ⟨_, _, _, rfl, fun B hB => ⟨rfl, ?_⟩⟩
  rcases B with _ | _
  · refine V.g2 60 [26, 35, 61] mX7_share_ok rfl ?_
    refine And.intro (fun _ => ?_) (fun e => absurd rfl e)
    refine V.kn [0, 1, 2] [(0, .ref 0), (1, .int x), (2, .int y)] [] (pM fv ar) rfl rfl rfl ?_
    exact t26 (Or.inl (by rw [show (decide (nI 1 ≤ x) && decide (x ≤ nI 24)) = false from hB.symm]; rfl))
  · refine V.g2 60 [26, 35, 61] mX7_share_ok rfl ?_
    refine And.intro (fun e => absurd e (by decide)) (fun _ => ?_)
    refine V.cs mX7_share_ok rfl lX7_117 (c7_in l) rfl rfl rfl rfl ⟨_, _, _, rfl, fun B2 hB2 => ⟨rfl, ?_⟩⟩
    rcases B2 with _ | _
    · refine V.g2 60 [26, 35, 61] mX7_share_ok rfl ?_
      refine And.intro (fun _ => ?_) (fun e => absurd rfl e)
      refine V.kn [0, 1, 2] [(0, .ref 0), (1, .int x), (2, .int y)] [] (pM fv ar) rfl rfl rfl ?_
      exact t26 (Or.inl (by rw [show wiB y 1 = false from hB2.symm, Bool.and_false]))
    · refine V.g2 60 [26, 35, 61] mX7_share_ok rfl ?_
      refine And.intro (fun e => absurd e (by decide)) (fun _ => ?_)
      refine zp_ne sz 0 (fun ez => ?_) (fun ez => ?_) h7 rfl
      · clear t26 h0
        have q := hB.symm
        simp only [Bool.and_eq_true, decide_eq_true_eq] at q
        obtain ⟨n, hn, rfl⟩ := nI_of (Int32.not_lt.mpr (Int32.le_trans (show (0 : Int32) ≤ nI 1 by decide) (show nI 1 ≤ x from q.1)))
        have hn1 : 1 ≤ n := (nI_leI (by omega) hn).mp (show nI 1 ≤ nI n from q.1)
        have hn2 : n ≤ 24 := (nI_leI hn (by omega)).mp (show nI n ≤ nI 24 from q.2)
        obtain ⟨j, hj, rfl⟩ := wiB_t (n := 1) hB2.symm (by omega)
        have h := h1 n j hn1 hn2 rfl (by omega) rfl (by omega)
        generalize hS : pM fv ar = S
        have loop : ∀ (m i : Nat) (x5 : Int32) (x3 : Int64), i + m = sz → x5 = nI i → x3 = lN (clS (ar 8) i) → V l mX7_share false S (zrm 6 0 0) (zFm false S Q 0 0) 0 0 35 [(5, .int x5), (3, .long x3), (0, .ref 0), (1, .int (nI n)), (2, .int (nI j))] [] (pM fv ar) := by
          intro m
          induction m with
          | zero =>
            intro i x5 x3 hi h5 h3
            have ei : i = sz := by omega
            rw [ei] at h3
            refine V.g2 60 [26, 35, 61] mX7_share_ok rfl ?_
            refine pk_le sz i (fun e => ?_) (fun e => absurd e (by omega)) h7 h5
            refine V.g2 60 [26, 35, 61] mX7_share_ok rfl ?_
            subst hS
            refine V.cw mX7_share_ok rfl lX7_355 (c7_metBy l) rfl 0 7 rfl rfl rfl rfl rfl rfl ⟨fv, ar, _, n, sz, lk, aw, od, by omega, rfl, hsz8, h7, hlk, h10, haw, h12, hord, hod, rfl, rfl, fun v hv fv2 ar2 hk2 => ⟨rfl, ?_⟩⟩
            refine V.g2 60 [26, 35, 61] mX7_share_ok rfl ?_
            obtain ⟨mb, hmb, emb⟩ := svF_mb (be := fv 11) (lk := lk) (aw := aw) (n := n) hbo hsz8 hod
            have hcs := clS_le hbo sz hsz8
            have e7 : (fv2 7).toInt64 = lN sz := by rw [kM_7 hk2, h7]; exact nI_l (by omega)
            have en : (nI n).toInt64 = lN n := nI_l (by omega)
            have ev : v.toInt64 = lN mb := by rw [hv, emb]; exact nI_l (by omega)
            rw [emb, nI_cl (by omega)] at h
            have b1 : mb * sz ≤ 2376 * 8 := Nat.mul_le_mul (by omega) hsz8
            have b2 : clS (ar 8) sz * n ≤ 792 * 24 := Nat.mul_le_mul (by omega) hn2
            have b3 : n * sz ≤ 24 * 8 := Nat.mul_le_mul hn2 hsz8
            have b4 : 0 < n * sz := Nat.mul_pos (by omega) (by omega)
            refine V.cs mX7_share_ok rfl lX7_358 (c7_fraction l) rfl rfl rfl rfl ⟨_, _, _, mb * sz, clS (ar 8) sz * n, n * sz, j, by rw [ev, e7, h3, en, lN_mul, lN_mul], by rw [en, e7, lN_mul], rfl, by omega, by omega, by omega, b4, by omega, rfl, fun r hr => ⟨rfl, ?_⟩⟩
            refine V.g2 60 [26, 35, 61] mX7_share_ok rfl ?_
            exact ⟨_, zsim_rfl _, h r hr fv2 ar2 hk2⟩
          | succ m ih =>
            intro i x5 x3 hi h5 h3
            refine V.g2 60 [26, 35, 61] mX7_share_ok rfl ?_
            refine pk_le sz i (fun el => absurd el (by omega)) (fun el => ?_) h7 h5
            refine ⟨i, by omega, h5, rfl, ?_⟩
            refine V.kn [5, 3, 0, 1, 2] [(5, .int (x5 + zi 1)), (3, .long (x3 + ((ar 8) i).toInt64)), (0, .ref 0), (1, .int (nI n)), (2, .int (nI j))] [] (pM fv ar) rfl rfl rfl ?_
            refine ih (i + 1) _ _ (by omega) (ninc h5) ?_
            obtain ⟨-, e2⟩ := bOk_cl hbo (show i < 8 by omega)
            rw [clS, h3, e2, nI_cl (by have := (bOk_cl hbo (show i < 8 by omega)).1; omega), nI_l (by have := (bOk_cl hbo (show i < 8 by omega)).1; omega)]
            exact lN_add _ _
        subst hS
        refine V.kn [5, 3, 0, 1, 2] [(5, .int (nI 0)), (3, .long (Int64.ofNat 0)), (0, .ref 0), (1, .int (nI n)), (2, .int (nI j))] [] (pM fv ar) rfl rfl rfl ?_
        exact loop sz 0 _ _ (by omega) rfl rfl
      · refine V.kn [0, 1, 2] [(0, .ref 0), (1, .int x), (2, .int y)] [] (pM fv ar) rfl rfl rfl ?_
        exact t26 (Or.inr (by omega))
