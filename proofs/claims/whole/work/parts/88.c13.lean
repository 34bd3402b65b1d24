theorem bd_z {z : Int32} (h1 : ¬ nI 40 < z) (h2 : ¬ z < 0) : bdF z (nI 0) (nI 40) = z := by
  rcases pk_ix z (show 41 < 2 ^ 31 by omega) with q | q | ⟨j, q1, q2⟩
  · exact absurd q h2
  · exact absurd (Int32.lt_of_lt_of_le (show nI 40 < nI 41 from nI_lt (by omega) (by omega)) q) h1
  · rw [q2]
    exact bd_n (by omega)
theorem nI_leD {a b : Nat} (ha : a < 2 ^ 31) (hb : b < 2 ^ 31) : decide (nI a ≤ nI b) = decide (a ≤ b) := by
  rcases Nat.lt_or_ge b a with q | q
  · rw [decide_eq_false (show ¬ a ≤ b by omega), decide_eq_false (Int32.not_le.mpr (nI_lt q ha))]
  · rw [decide_eq_true q, decide_eq_true (nI_le q hb)]
theorem has_nn {n a k : Nat} (hn : n ≤ 40) (ha : a < 2 ^ 31) (hk : k < 2 ^ 31) : hasF (nI n) (nI a) (nI k) = decide (a + k ≤ n) := by
  unfold hasF
  rw [show (0 : Int32) = nI 0 from rfl, nI_leD (by omega) ha, nI_leD (by omega) hk, nI_leD ha (by omega), decide_eq_true (Nat.zero_le a), decide_eq_true (Nat.zero_le k)]
  rcases Nat.lt_or_ge n a with q | q
  · rw [decide_eq_false (show ¬ a ≤ n by omega), decide_eq_false (show ¬ a + k ≤ n by omega)]
    rfl
  · rw [decide_eq_true (show a ≤ n by omega), pk_sub q, nI_leD hk (by omega)]
    simp only [Bool.true_and, decide_eq_decide]
    omega
theorem has_neg {z i n : Int32} (h : i < 0 ∨ n < 0) : hasF z i n = false := by
  unfold hasF
  rcases h with h | h
  · rw [decide_eq_false (Int32.not_le.mpr h)]; rfl
  · rw [decide_eq_false (Int32.not_le.mpr h), Bool.and_false]; rfl
theorem nn_ex {x : Int32} (h : ¬ x < 0) : ∃ a, a < 2 ^ 31 ∧ x = nI a := by
  rcases pk_ix x (show 2147483647 < 2 ^ 31 by omega) with q | q | ⟨j, q1, q2⟩
  · exact absurd q h
  · refine ⟨2147483647, by omega, Int32.le_antisymm ?_ q⟩
    have := Int32.le_maxValue x
    exact this
  · exact ⟨j, by omega, q2⟩
def T6_sheet : zT := fun args hs Q => ∃ (c d k : zCart) (r tr kr : zRow) (rd : zRd) (ft : Nat) (tg : Nat → Option Nat) (tc lw kl ik : Int32) (ri : zRi) (s0 s1 s2 s3 : zSh) (tx : zTx) (x y z : Int32), args = [.ref 0, .int x, .int y, .int z] ∧ hs = pX c d k r tr kr rd ft tg tc lw kl ik ri s0 s1 s2 s3 tx ∧ ((wiB x 3 && (decide ((-1 : Int32) ≤ y) && decide (y ≤ nI 2))) = false → Q (some (.int (-2))) hs) ∧ (∀ s, s < 4 → x = nI s → (-1 : Int32) ≤ y → y ≤ nI 2 → (¬ y = -1 → nI 40 < z → Q (some (.int (-2))) hs) ∧ (¬ y = -1 → z < 0 → Q (some (.int (-14))) hs) ∧ ((y = -1 ∨ (¬ nI 40 < z ∧ ¬ z < 0)) → Q (some (.int 1)) (pX c d k r tr kr rd ft tg tc lw kl ik ri (shO 0 s (y, (if y = -1 then 0 else z), fun _ => 0) s0) (shO 1 s (y, (if y = -1 then 0 else z), fun _ => 0) s1) (shO 2 s (y, (if y = -1 then 0 else z), fun _ => 0) s2) (shO 3 s (y, (if y = -1 then 0 else z), fun _ => 0) s3) tx)))
set_option maxHeartbeats 4000000 in
theorem c6_sheet (l : Launch) : Ct l mX6_sheet false 5 0 0 T6_sheet := by
  refine Ct.intro mX6_sheet_ok ?_
  rintro args hs Q ⟨c, d, k, r, tr, kr, rd, ft, tg, tc, lw, kl, ik, ri, s0, s1, s2, s3, tx, x, y, z, rfl, rfl, h0, h1⟩
  refine ⟨Nat.le_of_ble_eq_true rfl, ?_⟩
  refine V.g2 60 [30, 59] mX6_sheet_ok rfl ?_
  refine V.cS0 mX6_sheet_ok rfl lX6_278 (ct_isSheet l) rfl [.int x] [] rfl rfl rfl (some (.int (bI (wiB x 3)))) ⟨_, rfl, rfl, rfl⟩ ?_
  cases hB : wiB x 3 with
  | false =>
    refine V.nm [(0, .ref 0), (1, .int x), (2, .int y), (3, .int z)] [.int (bI false)] (pX c d k r tr kr rd ft tg tc lw kl ik ri s0 s1 s2 s3 tx) rfl rfl rfl ?_
    refine V.g2 60 [30, 59] mX6_sheet_ok rfl ?_
    refine And.intro (fun _ => ?_) (fun e => absurd rfl e)
    exact ⟨_, zsim_rfl _, h0 (by rw [hB]; rfl)⟩
  | true =>
    refine V.nm [(0, .ref 0), (1, .int x), (2, .int y), (3, .int z)] [.int (bI true)] (pX c d k r tr kr rd ft tg tc lw kl ik ri s0 s1 s2 s3 tx) rfl rfl rfl ?_
    refine V.g2 60 [30, 59] mX6_sheet_ok rfl ?_
    refine And.intro (fun e => absurd e (by decide)) (fun _ => ?_)
    refine V.cS0 mX6_sheet_ok rfl lX6_114 (ct_within l) rfl [.int y, .int (-1 : Int32), .int (nI 2)] [] rfl rfl rfl (some (.int (bI (decide ((-1 : Int32) ≤ y) && decide (y ≤ (nI 2)))))) (T_within_use rfl) ?_
    cases hC : (decide ((-1 : Int32) ≤ y) && decide (y ≤ (nI 2))) with
    | false =>
      refine V.nm [(0, .ref 0), (1, .int x), (2, .int y), (3, .int z)] [.int (bI false)] (pX c d k r tr kr rd ft tg tc lw kl ik ri s0 s1 s2 s3 tx) rfl rfl rfl ?_
      refine V.g2 60 [30, 59] mX6_sheet_ok rfl ?_
      refine And.intro (fun e => absurd rfl e) (fun _ => ?_)
      exact ⟨_, zsim_rfl _, h0 (by rw [hB, hC]; rfl)⟩
    | true =>
      refine V.nm [(0, .ref 0), (1, .int x), (2, .int y), (3, .int z)] [.int (bI true)] (pX c d k r tr kr rd ft tg tc lw kl ik ri s0 s1 s2 s3 tx) rfl rfl rfl ?_
      obtain ⟨s, hs4, rfl⟩ := wiB_t hB (by omega)
      rw [Bool.and_eq_true, decide_eq_true_eq, decide_eq_true_eq] at hC
      obtain ⟨h2, h3, h4⟩ := h1 s hs4 rfl hC.1 hC.2
      clear h0 h1 hB
      refine V.nm [(0, .ref 0), (1, .int (nI s)), (2, .int y), (3, .int z)] [.int (bI true)] (pX c d k r tr kr rd ft tg tc lw kl ik ri s0 s1 s2 s3 tx) rfl rfl rfl ?_
      rcases (show s = 0 ∨ s = 1 ∨ s = 2 ∨ s = 3 by omega) with rfl | rfl | rfl | rfl
      · refine V.nm [(0, .ref 0), (1, .int (nI 0)), (2, .int y), (3, .int z)] [.int (bI true)] (pX c d k r tr kr rd ft tg tc lw kl ik ri s0 s1 s2 s3 tx) rfl rfl rfl ?_
        refine V.g2 60 [30, 59] mX6_sheet_ok rfl ?_
        refine And.intro (fun _ => ?_) (fun e => absurd e (by decide))
        refine And.intro (fun (e1 : ¬ y = (-1 : Int32)) => ?_) (fun (e1 : y = (-1 : Int32)) => ?_)
        · refine And.intro (fun (e2 : z ≤ (nI 40)) => ?_) (fun (e2 : ¬ z ≤ (nI 40)) => ?_)
          · refine And.intro (fun (e3 : (0 : Int32) ≤ z) => ?_) (fun (e3 : ¬ (0 : Int32) ≤ z) => ?_)
            · have er : zrf (zsg (nI 0).toNatClampNeg) = .ref 86 := by rw [pk_cl 0 rfl]; rfl
              refine And.intro (pk_in 0 4 (by omega) rfl) ?_
              refine V.nm [(0, .ref 0), (1, .int (nI 0)), (2, .int y), (3, .int z)] [.ref 86] (pX c d k r tr kr rd ft tg tc lw kl ik ri s0 s1 s2 s3 tx) rfl (by rw [← er] <;> rfl) rfl ?_
              refine V.g2 60 [30, 59] mX6_sheet_ok rfl ?_
              refine V.cV1P mX6_sheet_ok rfl lX6_281 (ct_sbecome l) rfl 56 rfl [43, 44] [none, none, none, none, none, none, none, none, none, none, none, none, none, none, none, none, none, none, none, none, none, none, none, none, none, none, none, none, none, none, none, none, none, none, none, none, none, none, none, none, none, none, none, some 0, some 1, none, none, none, none, none, none, none, none, none, none, none] (by decide +kernel) (pSheet 0 (s0.1) (s0.2.1) (s0.2.2)) [.ref 0, .int y, .int z] [] rfl 0 4 rfl rfl rfl rfl rfl rfl rfl rfl none (pSheet 0 y (bdF z (nI 0) (nI 40)) (fun _ => (0 : Int32))) ⟨s0.1, s0.2.1, y, z, s0.2.2, rfl, rfl, rfl, rfl⟩ rfl (pX c d k r tr kr rd ft tg tc lw kl ik ri (y, (bdF z (nI 0) (nI 40)), (fun _ => (0 : Int32))) s1 s2 s3 tx) [] rfl rfl ?_
              refine V.g2 60 [30, 59] mX6_sheet_ok rfl ?_
              exact ⟨_, zsim_rfl _, (by have h4 := h4 (Or.inr ⟨Int32.not_lt.mpr e2, Int32.not_lt.mpr e3⟩); rw [if_neg e1] at h4; rw [bd_z (Int32.not_lt.mpr e2) (Int32.not_lt.mpr e3)]; exact h4)⟩
            · exact ⟨_, zsim_rfl _, h3 e1 (Int32.not_le.mp e3)⟩
          · exact ⟨_, zsim_rfl _, h2 e1 (Int32.not_le.mp e2)⟩
        · have er : zrf (zsg (nI 0).toNatClampNeg) = .ref 86 := by rw [pk_cl 0 rfl]; rfl
          refine And.intro (pk_in 0 4 (by omega) rfl) ?_
          refine V.nm [(0, .ref 0), (1, .int (nI 0)), (2, .int y), (3, .int z)] [.ref 86] (pX c d k r tr kr rd ft tg tc lw kl ik ri s0 s1 s2 s3 tx) rfl (by rw [← er] <;> rfl) rfl ?_
          refine V.g2 60 [30, 59] mX6_sheet_ok rfl ?_
          refine V.cV1P mX6_sheet_ok rfl lX6_281 (ct_sbecome l) rfl 56 rfl [43, 44] [none, none, none, none, none, none, none, none, none, none, none, none, none, none, none, none, none, none, none, none, none, none, none, none, none, none, none, none, none, none, none, none, none, none, none, none, none, none, none, none, none, none, none, some 0, some 1, none, none, none, none, none, none, none, none, none, none, none] (by decide +kernel) (pSheet 0 (s0.1) (s0.2.1) (s0.2.2)) [.ref 0, .int (-1), .int (nI 0)] [] rfl 0 4 rfl rfl rfl rfl rfl rfl rfl rfl none (pSheet 0 (-1) (bdF (nI 0) (nI 0) (nI 40)) (fun _ => (0 : Int32))) ⟨s0.1, s0.2.1, -1, nI 0, s0.2.2, rfl, rfl, rfl, rfl⟩ rfl (pX c d k r tr kr rd ft tg tc lw kl ik ri ((-1), (bdF (nI 0) (nI 0) (nI 40)), (fun _ => (0 : Int32))) s1 s2 s3 tx) [] rfl rfl ?_
          refine V.g2 60 [30, 59] mX6_sheet_ok rfl ?_
          exact ⟨_, zsim_rfl _, (by have h4 := h4 (Or.inl e1); rw [if_pos e1, e1] at h4; exact h4)⟩
      · refine V.nm [(0, .ref 0), (1, .int (nI 1)), (2, .int y), (3, .int z)] [.int (bI true)] (pX c d k r tr kr rd ft tg tc lw kl ik ri s0 s1 s2 s3 tx) rfl rfl rfl ?_
        refine V.g2 60 [30, 59] mX6_sheet_ok rfl ?_
        refine And.intro (fun _ => ?_) (fun e => absurd e (by decide))
        refine And.intro (fun (e1 : ¬ y = (-1 : Int32)) => ?_) (fun (e1 : y = (-1 : Int32)) => ?_)
        · refine And.intro (fun (e2 : z ≤ (nI 40)) => ?_) (fun (e2 : ¬ z ≤ (nI 40)) => ?_)
          · refine And.intro (fun (e3 : (0 : Int32) ≤ z) => ?_) (fun (e3 : ¬ (0 : Int32) ≤ z) => ?_)
            · have er : zrf (zsg (nI 1).toNatClampNeg) = .ref 90 := by rw [pk_cl 1 rfl]; rfl
              refine And.intro (pk_in 1 4 (by omega) rfl) ?_
              refine V.nm [(0, .ref 0), (1, .int (nI 1)), (2, .int y), (3, .int z)] [.ref 90] (pX c d k r tr kr rd ft tg tc lw kl ik ri s0 s1 s2 s3 tx) rfl (by rw [← er] <;> rfl) rfl ?_
              refine V.g2 60 [30, 59] mX6_sheet_ok rfl ?_
              refine V.cV1P mX6_sheet_ok rfl lX6_281 (ct_sbecome l) rfl 56 rfl [45, 46] [none, none, none, none, none, none, none, none, none, none, none, none, none, none, none, none, none, none, none, none, none, none, none, none, none, none, none, none, none, none, none, none, none, none, none, none, none, none, none, none, none, none, none, none, none, some 0, some 1, none, none, none, none, none, none, none, none, none] (by decide +kernel) (pSheet 0 (s1.1) (s1.2.1) (s1.2.2)) [.ref 0, .int y, .int z] [] rfl 0 4 rfl rfl rfl rfl rfl rfl rfl rfl none (pSheet 0 y (bdF z (nI 0) (nI 40)) (fun _ => (0 : Int32))) ⟨s1.1, s1.2.1, y, z, s1.2.2, rfl, rfl, rfl, rfl⟩ rfl (pX c d k r tr kr rd ft tg tc lw kl ik ri s0 (y, (bdF z (nI 0) (nI 40)), (fun _ => (0 : Int32))) s2 s3 tx) [] rfl rfl ?_
              refine V.g2 60 [30, 59] mX6_sheet_ok rfl ?_
              exact ⟨_, zsim_rfl _, (by have h4 := h4 (Or.inr ⟨Int32.not_lt.mpr e2, Int32.not_lt.mpr e3⟩); rw [if_neg e1] at h4; rw [bd_z (Int32.not_lt.mpr e2) (Int32.not_lt.mpr e3)]; exact h4)⟩
            · exact ⟨_, zsim_rfl _, h3 e1 (Int32.not_le.mp e3)⟩
          · exact ⟨_, zsim_rfl _, h2 e1 (Int32.not_le.mp e2)⟩
        · have er : zrf (zsg (nI 1).toNatClampNeg) = .ref 90 := by rw [pk_cl 1 rfl]; rfl
          refine And.intro (pk_in 1 4 (by omega) rfl) ?_
          refine V.nm [(0, .ref 0), (1, .int (nI 1)), (2, .int y), (3, .int z)] [.ref 90] (pX c d k r tr kr rd ft tg tc lw kl ik ri s0 s1 s2 s3 tx) rfl (by rw [← er] <;> rfl) rfl ?_
          refine V.g2 60 [30, 59] mX6_sheet_ok rfl ?_
          refine V.cV1P mX6_sheet_ok rfl lX6_281 (ct_sbecome l) rfl 56 rfl [45, 46] [none, none, none, none, none, none, none, none, none, none, none, none, none, none, none, none, none, none, none, none, none, none, none, none, none, none, none, none, none, none, none, none, none, none, none, none, none, none, none, none, none, none, none, none, none, some 0, some 1, none, none, none, none, none, none, none, none, none] (by decide +kernel) (pSheet 0 (s1.1) (s1.2.1) (s1.2.2)) [.ref 0, .int (-1), .int (nI 0)] [] rfl 0 4 rfl rfl rfl rfl rfl rfl rfl rfl none (pSheet 0 (-1) (bdF (nI 0) (nI 0) (nI 40)) (fun _ => (0 : Int32))) ⟨s1.1, s1.2.1, -1, nI 0, s1.2.2, rfl, rfl, rfl, rfl⟩ rfl (pX c d k r tr kr rd ft tg tc lw kl ik ri s0 ((-1), (bdF (nI 0) (nI 0) (nI 40)), (fun _ => (0 : Int32))) s2 s3 tx) [] rfl rfl ?_
          refine V.g2 60 [30, 59] mX6_sheet_ok rfl ?_
          exact ⟨_, zsim_rfl _, (by have h4 := h4 (Or.inl e1); rw [if_pos e1, e1] at h4; exact h4)⟩
      · refine V.nm [(0, .ref 0), (1, .int (nI 2)), (2, .int y), (3, .int z)] [.int (bI true)] (pX c d k r tr kr rd ft tg tc lw kl ik ri s0 s1 s2 s3 tx) rfl rfl rfl ?_
        refine V.g2 60 [30, 59] mX6_sheet_ok rfl ?_
        refine And.intro (fun _ => ?_) (fun e => absurd e (by decide))
        refine And.intro (fun (e1 : ¬ y = (-1 : Int32)) => ?_) (fun (e1 : y = (-1 : Int32)) => ?_)
        · refine And.intro (fun (e2 : z ≤ (nI 40)) => ?_) (fun (e2 : ¬ z ≤ (nI 40)) => ?_)
          · refine And.intro (fun (e3 : (0 : Int32) ≤ z) => ?_) (fun (e3 : ¬ (0 : Int32) ≤ z) => ?_)
            · have er : zrf (zsg (nI 2).toNatClampNeg) = .ref 94 := by rw [pk_cl 2 rfl]; rfl
              refine And.intro (pk_in 2 4 (by omega) rfl) ?_
              refine V.nm [(0, .ref 0), (1, .int (nI 2)), (2, .int y), (3, .int z)] [.ref 94] (pX c d k r tr kr rd ft tg tc lw kl ik ri s0 s1 s2 s3 tx) rfl (by rw [← er] <;> rfl) rfl ?_
              refine V.g2 60 [30, 59] mX6_sheet_ok rfl ?_
              refine V.cV1P mX6_sheet_ok rfl lX6_281 (ct_sbecome l) rfl 56 rfl [47, 48] [none, none, none, none, none, none, none, none, none, none, none, none, none, none, none, none, none, none, none, none, none, none, none, none, none, none, none, none, none, none, none, none, none, none, none, none, none, none, none, none, none, none, none, none, none, none, none, some 0, some 1, none, none, none, none, none, none, none] (by decide +kernel) (pSheet 0 (s2.1) (s2.2.1) (s2.2.2)) [.ref 0, .int y, .int z] [] rfl 0 4 rfl rfl rfl rfl rfl rfl rfl rfl none (pSheet 0 y (bdF z (nI 0) (nI 40)) (fun _ => (0 : Int32))) ⟨s2.1, s2.2.1, y, z, s2.2.2, rfl, rfl, rfl, rfl⟩ rfl (pX c d k r tr kr rd ft tg tc lw kl ik ri s0 s1 (y, (bdF z (nI 0) (nI 40)), (fun _ => (0 : Int32))) s3 tx) [] rfl rfl ?_
              refine V.g2 60 [30, 59] mX6_sheet_ok rfl ?_
              exact ⟨_, zsim_rfl _, (by have h4 := h4 (Or.inr ⟨Int32.not_lt.mpr e2, Int32.not_lt.mpr e3⟩); rw [if_neg e1] at h4; rw [bd_z (Int32.not_lt.mpr e2) (Int32.not_lt.mpr e3)]; exact h4)⟩
            · exact ⟨_, zsim_rfl _, h3 e1 (Int32.not_le.mp e3)⟩
          · exact ⟨_, zsim_rfl _, h2 e1 (Int32.not_le.mp e2)⟩
        · have er : zrf (zsg (nI 2).toNatClampNeg) = .ref 94 := by rw [pk_cl 2 rfl]; rfl
          refine And.intro (pk_in 2 4 (by omega) rfl) ?_
          refine V.nm [(0, .ref 0), (1, .int (nI 2)), (2, .int y), (3, .int z)] [.ref 94] (pX c d k r tr kr rd ft tg tc lw kl ik ri s0 s1 s2 s3 tx) rfl (by rw [← er] <;> rfl) rfl ?_
          refine V.g2 60 [30, 59] mX6_sheet_ok rfl ?_
          refine V.cV1P mX6_sheet_ok rfl lX6_281 (ct_sbecome l) rfl 56 rfl [47, 48] [none, none, none, none, none, none, none, none, none, none, none, none, none, none, none, none, none, none, none, none, none, none, none, none, none, none, none, none, none, none, none, none, none, none, none, none, none, none, none, none, none, none, none, none, none, none, none, some 0, some 1, none, none, none, none, none, none, none] (by decide +kernel) (pSheet 0 (s2.1) (s2.2.1) (s2.2.2)) [.ref 0, .int (-1), .int (nI 0)] [] rfl 0 4 rfl rfl rfl rfl rfl rfl rfl rfl none (pSheet 0 (-1) (bdF (nI 0) (nI 0) (nI 40)) (fun _ => (0 : Int32))) ⟨s2.1, s2.2.1, -1, nI 0, s2.2.2, rfl, rfl, rfl, rfl⟩ rfl (pX c d k r tr kr rd ft tg tc lw kl ik ri s0 s1 ((-1), (bdF (nI 0) (nI 0) (nI 40)), (fun _ => (0 : Int32))) s3 tx) [] rfl rfl ?_
          refine V.g2 60 [30, 59] mX6_sheet_ok rfl ?_
          exact ⟨_, zsim_rfl _, (by have h4 := h4 (Or.inl e1); rw [if_pos e1, e1] at h4; exact h4)⟩
      · refine V.nm [(0, .ref 0), (1, .int (nI 3)), (2, .int y), (3, .int z)] [.int (bI true)] (pX c d k r tr kr rd ft tg tc lw kl ik ri s0 s1 s2 s3 tx) rfl rfl rfl ?_
        refine V.g2 60 [30, 59] mX6_sheet_ok rfl ?_
        refine And.intro (fun _ => ?_) (fun e => absurd e (by decide))
        refine And.intro (fun (e1 : ¬ y = (-1 : Int32)) => ?_) (fun (e1 : y = (-1 : Int32)) => ?_)
        · refine And.intro (fun (e2 : z ≤ (nI 40)) => ?_) (fun (e2 : ¬ z ≤ (nI 40)) => ?_)
          · refine And.intro (fun (e3 : (0 : Int32) ≤ z) => ?_) (fun (e3 : ¬ (0 : Int32) ≤ z) => ?_)
            · have er : zrf (zsg (nI 3).toNatClampNeg) = .ref 98 := by rw [pk_cl 3 rfl]; rfl
              refine And.intro (pk_in 3 4 (by omega) rfl) ?_
              refine V.nm [(0, .ref 0), (1, .int (nI 3)), (2, .int y), (3, .int z)] [.ref 98] (pX c d k r tr kr rd ft tg tc lw kl ik ri s0 s1 s2 s3 tx) rfl (by rw [← er] <;> rfl) rfl ?_
              refine V.g2 60 [30, 59] mX6_sheet_ok rfl ?_
              refine V.cV1P mX6_sheet_ok rfl lX6_281 (ct_sbecome l) rfl 56 rfl [49, 50] [none, none, none, none, none, none, none, none, none, none, none, none, none, none, none, none, none, none, none, none, none, none, none, none, none, none, none, none, none, none, none, none, none, none, none, none, none, none, none, none, none, none, none, none, none, none, none, none, none, some 0, some 1, none, none, none, none, none] (by decide +kernel) (pSheet 0 (s3.1) (s3.2.1) (s3.2.2)) [.ref 0, .int y, .int z] [] rfl 0 4 rfl rfl rfl rfl rfl rfl rfl rfl none (pSheet 0 y (bdF z (nI 0) (nI 40)) (fun _ => (0 : Int32))) ⟨s3.1, s3.2.1, y, z, s3.2.2, rfl, rfl, rfl, rfl⟩ rfl (pX c d k r tr kr rd ft tg tc lw kl ik ri s0 s1 s2 (y, (bdF z (nI 0) (nI 40)), (fun _ => (0 : Int32))) tx) [] rfl rfl ?_
              refine V.g2 60 [30, 59] mX6_sheet_ok rfl ?_
              exact ⟨_, zsim_rfl _, (by have h4 := h4 (Or.inr ⟨Int32.not_lt.mpr e2, Int32.not_lt.mpr e3⟩); rw [if_neg e1] at h4; rw [bd_z (Int32.not_lt.mpr e2) (Int32.not_lt.mpr e3)]; exact h4)⟩
            · exact ⟨_, zsim_rfl _, h3 e1 (Int32.not_le.mp e3)⟩
          · exact ⟨_, zsim_rfl _, h2 e1 (Int32.not_le.mp e2)⟩
        · have er : zrf (zsg (nI 3).toNatClampNeg) = .ref 98 := by rw [pk_cl 3 rfl]; rfl
          refine And.intro (pk_in 3 4 (by omega) rfl) ?_
          refine V.nm [(0, .ref 0), (1, .int (nI 3)), (2, .int y), (3, .int z)] [.ref 98] (pX c d k r tr kr rd ft tg tc lw kl ik ri s0 s1 s2 s3 tx) rfl (by rw [← er] <;> rfl) rfl ?_
          refine V.g2 60 [30, 59] mX6_sheet_ok rfl ?_
          refine V.cV1P mX6_sheet_ok rfl lX6_281 (ct_sbecome l) rfl 56 rfl [49, 50] [none, none, none, none, none, none, none, none, none, none, none, none, none, none, none, none, none, none, none, none, none, none, none, none, none, none, none, none, none, none, none, none, none, none, none, none, none, none, none, none, none, none, none, none, none, none, none, none, none, some 0, some 1, none, none, none, none, none] (by decide +kernel) (pSheet 0 (s3.1) (s3.2.1) (s3.2.2)) [.ref 0, .int (-1), .int (nI 0)] [] rfl 0 4 rfl rfl rfl rfl rfl rfl rfl rfl none (pSheet 0 (-1) (bdF (nI 0) (nI 0) (nI 40)) (fun _ => (0 : Int32))) ⟨s3.1, s3.2.1, -1, nI 0, s3.2.2, rfl, rfl, rfl, rfl⟩ rfl (pX c d k r tr kr rd ft tg tc lw kl ik ri s0 s1 s2 ((-1), (bdF (nI 0) (nI 0) (nI 40)), (fun _ => (0 : Int32))) tx) [] rfl rfl ?_
          refine V.g2 60 [30, 59] mX6_sheet_ok rfl ?_
          exact ⟨_, zsim_rfl _, (by have h4 := h4 (Or.inl e1); rw [if_pos e1, e1] at h4; exact h4)⟩
def T6_cell : zT := fun args hs Q => ∃ (c d k : zCart) (r tr kr : zRow) (rd : zRd) (ft : Nat) (tg : Nat → Option Nat) (tc lw kl ik : Int32) (ri : zRi) (s0 s1 s2 s3 : zSh) (tx : zTx) (x y z : Int32), (∀ s, s < 4 → ∃ n, n ≤ 40 ∧ (shW s0 s1 s2 s3 s).2.1 = nI n) ∧ args = [.ref 0, .int x, .int y, .int z] ∧ hs = pX c d k r tr kr rd ft tg tc lw kl ik ri s0 s1 s2 s3 tx ∧ (wiB x 3 = false → Q (some (.int (-2))) hs) ∧ (∀ s n, s < 4 → x = nI s → n ≤ 40 → (shW s0 s1 s2 s3 s).2.1 = nI n → ((shW s0 s1 s2 s3 s).1 = -1 → Q (some (.int (-11))) hs) ∧ (¬ (shW s0 s1 s2 s3 s).1 = -1 → (∀ i, i < n → ¬ y = nI i) → Q (some (.int (-12))) hs) ∧ (∀ i, ¬ (shW s0 s1 s2 s3 s).1 = -1 → i < n → y = nI i → Q (some (.int 1)) (pX c d k r tr kr rd ft tg tc lw kl ik ri (shO 0 s ((shW s0 s1 s2 s3 s).1, (shW s0 s1 s2 s3 s).2.1, upd (shW s0 s1 s2 s3 s).2.2 i (cutF (shW s0 s1 s2 s3 s).1 z)) s0) (shO 1 s ((shW s0 s1 s2 s3 s).1, (shW s0 s1 s2 s3 s).2.1, upd (shW s0 s1 s2 s3 s).2.2 i (cutF (shW s0 s1 s2 s3 s).1 z)) s1) (shO 2 s ((shW s0 s1 s2 s3 s).1, (shW s0 s1 s2 s3 s).2.1, upd (shW s0 s1 s2 s3 s).2.2 i (cutF (shW s0 s1 s2 s3 s).1 z)) s2) (shO 3 s ((shW s0 s1 s2 s3 s).1, (shW s0 s1 s2 s3 s).2.1, upd (shW s0 s1 s2 s3 s).2.2 i (cutF (shW s0 s1 s2 s3 s).1 z)) s3) tx)))
set_option maxHeartbeats 4000000 in
theorem c6_cell (l : Launch) : Ct l mX6_cell false 4 0 0 T6_cell := by
  refine Ct.intro mX6_cell_ok ?_
  rintro args hs Q ⟨c, d, k, r, tr, kr, rd, ft, tg, tc, lw, kl, ik, ri, s0, s1, s2, s3, tx, x, y, z, hsh, rfl, rfl, h0, h1⟩
  refine ⟨Nat.le_of_ble_eq_true rfl, ?_⟩
  refine V.g2 60 [16, 32, 49] mX6_cell_ok rfl ?_
  refine V.cS0 mX6_cell_ok rfl lX6_278 (ct_isSheet l) rfl [.int x] [] rfl rfl rfl (some (.int (bI (wiB x 3)))) ⟨_, rfl, rfl, rfl⟩ ?_
  cases hB : wiB x 3 with
  | false =>
    refine V.nm [(0, .ref 0), (1, .int x), (2, .int y), (3, .int z)] [.int (bI false)] (pX c d k r tr kr rd ft tg tc lw kl ik ri s0 s1 s2 s3 tx) rfl rfl rfl ?_
    refine V.g2 60 [16, 32, 49] mX6_cell_ok rfl ?_
    refine And.intro (fun e => absurd rfl e) (fun _ => ?_)
    exact ⟨_, zsim_rfl _, h0 hB⟩
  | true =>
    refine V.nm [(0, .ref 0), (1, .int x), (2, .int y), (3, .int z)] [.int (bI true)] (pX c d k r tr kr rd ft tg tc lw kl ik ri s0 s1 s2 s3 tx) rfl rfl rfl ?_
    obtain ⟨s, hs4, rfl⟩ := wiB_t hB (by omega)
    obtain ⟨n, hn40, hsz⟩ := hsh s hs4
    obtain ⟨h2, h3, h4⟩ := h1 s n hs4 rfl hn40 hsz
    clear h0 h1 hB hsh
    refine V.nm [(0, .ref 0), (1, .int (nI s)), (2, .int y), (3, .int z)] [.int (bI true)] (pX c d k r tr kr rd ft tg tc lw kl ik ri s0 s1 s2 s3 tx) rfl rfl rfl ?_
    rcases (show s = 0 ∨ s = 1 ∨ s = 2 ∨ s = 3 by omega) with rfl | rfl | rfl | rfl
    · refine V.nm [(0, .ref 0), (1, .int (nI 0)), (2, .int y), (3, .int z)] [.int (bI true)] (pX c d k r tr kr rd ft tg tc lw kl ik ri s0 s1 s2 s3 tx) rfl rfl rfl ?_
      have hsz : s0.2.1 = nI n := hsz
      refine V.g2 60 [16, 32, 49] mX6_cell_ok rfl ?_
      refine And.intro (fun _ => ?_) (fun e => absurd e (by decide))
      have er : zrf (zsg (nI 0).toNatClampNeg) = .ref 86 := by rw [pk_cl 0 rfl]; rfl
      refine And.intro (pk_in 0 4 (by omega) rfl) ?_
      refine V.nm [(0, .ref 0), (1, .int (nI 0)), (2, .int y), (3, .int z)] [.ref 86] (pX c d k r tr kr rd ft tg tc lw kl ik ri s0 s1 s2 s3 tx) rfl (by rw [← er] <;> rfl) rfl ?_
      refine V.g2 60 [16, 32, 49] mX6_cell_ok rfl ?_
      refine And.intro (fun (e1 : ¬ (s0.1) = (-1 : Int32)) => ?_) (fun (e1 : (s0.1) = (-1 : Int32)) => ?_)
      · have h3 := h3 e1
        have h4 := fun i => h4 i e1
        have er : zrf (zsg (nI 0).toNatClampNeg) = .ref 86 := by rw [pk_cl 0 rfl]; rfl
        refine And.intro (pk_in 0 4 (by omega) rfl) ?_
        refine V.nm [(0, .ref 0), (1, .int (nI 0)), (2, .int y), (3, .int z)] [.ref 86] (pX c d k r tr kr rd ft tg tc lw kl ik ri s0 s1 s2 s3 tx) rfl (by rw [← er] <;> rfl) rfl ?_
        refine V.g2 60 [16, 32, 49] mX6_cell_ok rfl ?_
        refine V.cV1P mX6_cell_ok rfl lX6_345 (ct_has l) rfl 56 rfl [43, 44] [none, none, none, none, none, none, none, none, none, none, none, none, none, none, none, none, none, none, none, none, none, none, none, none, none, none, none, none, none, none, none, none, none, none, none, none, none, none, none, none, none, none, none, some 0, some 1, none, none, none, none, none, none, none, none, none, none, none] (by decide +kernel) (pSheet 0 (s0.1) (s0.2.1) (s0.2.2)) [.ref 0, .int y, .int (nI 1)] [] rfl 0 4 rfl rfl rfl rfl rfl rfl rfl rfl (some (.int (bI (hasF s0.2.1 y (nI 1))))) (pSheet 0 (s0.1) (s0.2.1) (s0.2.2)) ⟨s0.1, s0.2.1, y, nI 1, s0.2.2, rfl, rfl, rfl, rfl⟩ rfl (pX c d k r tr kr rd ft tg tc lw kl ik ri s0 s1 s2 s3 tx) [.int (bI (hasF s0.2.1 y (nI 1)))] rfl rfl ?_
        cases hH : (hasF s0.2.1 y (nI 1)) with
        | false =>
          refine V.nm [(0, .ref 0), (1, .int (nI 0)), (2, .int y), (3, .int z)] [.int (bI false)] (pX c d k r tr kr rd ft tg tc lw kl ik ri s0 s1 s2 s3 tx) rfl rfl rfl ?_
          rw [hsz] at hH
          refine V.g2 60 [16, 32, 49] mX6_cell_ok rfl ?_
          refine And.intro (fun e => absurd rfl e) (fun _ => ?_)
          exact ⟨_, zsim_rfl _, h3 (fun i hi e => by rw [e, show nI 1 = nI 1 from rfl, has_nn hn40 (by omega) (by omega), decide_eq_true (by omega)] at hH; cases hH)⟩
        | true =>
          refine V.nm [(0, .ref 0), (1, .int (nI 0)), (2, .int y), (3, .int z)] [.int (bI true)] (pX c d k r tr kr rd ft tg tc lw kl ik ri s0 s1 s2 s3 tx) rfl rfl rfl ?_
          rw [hsz] at hH
          obtain ⟨i, hi, rfl⟩ : ∃ i, i < n ∧ y = nI i := by
            rcases pk_ix y (show 2147483647 < 2 ^ 31 by omega) with q | q | ⟨j, q1, q2⟩
            · rw [has_neg (Or.inl q)] at hH; cases hH
            · obtain ⟨a, ha, ea⟩ := nn_ex (x := y) (fun z => by rw [has_neg (Or.inl z)] at hH; cases hH)
              rw [ea, has_nn hn40 ha (by omega), decide_eq_true_eq] at hH
              exact ⟨a, by omega, ea⟩
            · rw [q2, has_nn hn40 (by omega) (by omega), decide_eq_true_eq] at hH
              exact ⟨j, by omega, q2⟩
          have h4 := h4 i hi rfl
          refine V.nm [(0, .ref 0), (1, .int (nI 0)), (2, .int (nI i)), (3, .int z)] [.int (bI true)] (pX c d k r tr kr rd ft tg tc lw kl ik ri s0 s1 s2 s3 tx) rfl rfl rfl ?_
          refine V.g2 60 [16, 32, 49] mX6_cell_ok rfl ?_
          refine And.intro (fun _ => ?_) (fun e => absurd e (by decide))
          have er : zrf (zsg (nI 0).toNatClampNeg) = .ref 86 := by rw [pk_cl 0 rfl]; rfl
          refine And.intro (pk_in 0 4 (by omega) rfl) ?_
          refine V.nm [(0, .ref 0), (1, .int (nI 0)), (2, .int (nI i)), (3, .int z)] [.ref 86] (pX c d k r tr kr rd ft tg tc lw kl ik ri s0 s1 s2 s3 tx) rfl (by rw [← er] <;> rfl) rfl ?_
          refine V.g2 60 [16, 32, 49] mX6_cell_ok rfl ?_
          refine V.cV1P mX6_cell_ok rfl lX6_283 (ct_write l) rfl 56 rfl [43, 44] [none, none, none, none, none, none, none, none, none, none, none, none, none, none, none, none, none, none, none, none, none, none, none, none, none, none, none, none, none, none, none, none, none, none, none, none, none, none, none, none, none, none, none, some 0, some 1, none, none, none, none, none, none, none, none, none, none, none] (by decide +kernel) (pSheet 0 (s0.1) (s0.2.1) (s0.2.2)) [.ref 0, .int (nI i), .int z] [] rfl 0 4 rfl rfl rfl rfl rfl rfl rfl rfl none (pSheet 0 s0.1 s0.2.1 (upd s0.2.2 i (cutF s0.1 z))) ⟨s0.1, s0.2.1, z, i, s0.2.2, by omega, rfl, rfl, rfl, rfl⟩ rfl (pX c d k r tr kr rd ft tg tc lw kl ik ri (s0.1, s0.2.1, (upd s0.2.2 i (cutF s0.1 z))) s1 s2 s3 tx) [] rfl rfl ?_
          refine V.g2 60 [16, 32, 49] mX6_cell_ok rfl ?_
          exact ⟨_, zsim_rfl _, h4⟩
      · exact ⟨_, zsim_rfl _, h2 e1⟩
    · refine V.nm [(0, .ref 0), (1, .int (nI 1)), (2, .int y), (3, .int z)] [.int (bI true)] (pX c d k r tr kr rd ft tg tc lw kl ik ri s0 s1 s2 s3 tx) rfl rfl rfl ?_
      have hsz : s1.2.1 = nI n := hsz
      refine V.g2 60 [16, 32, 49] mX6_cell_ok rfl ?_
      refine And.intro (fun _ => ?_) (fun e => absurd e (by decide))
      have er : zrf (zsg (nI 1).toNatClampNeg) = .ref 90 := by rw [pk_cl 1 rfl]; rfl
      refine And.intro (pk_in 1 4 (by omega) rfl) ?_
      refine V.nm [(0, .ref 0), (1, .int (nI 1)), (2, .int y), (3, .int z)] [.ref 90] (pX c d k r tr kr rd ft tg tc lw kl ik ri s0 s1 s2 s3 tx) rfl (by rw [← er] <;> rfl) rfl ?_
      refine V.g2 60 [16, 32, 49] mX6_cell_ok rfl ?_
      refine And.intro (fun (e1 : ¬ (s1.1) = (-1 : Int32)) => ?_) (fun (e1 : (s1.1) = (-1 : Int32)) => ?_)
      · have h3 := h3 e1
        have h4 := fun i => h4 i e1
        have er : zrf (zsg (nI 1).toNatClampNeg) = .ref 90 := by rw [pk_cl 1 rfl]; rfl
        refine And.intro (pk_in 1 4 (by omega) rfl) ?_
        refine V.nm [(0, .ref 0), (1, .int (nI 1)), (2, .int y), (3, .int z)] [.ref 90] (pX c d k r tr kr rd ft tg tc lw kl ik ri s0 s1 s2 s3 tx) rfl (by rw [← er] <;> rfl) rfl ?_
        refine V.g2 60 [16, 32, 49] mX6_cell_ok rfl ?_
        refine V.cV1P mX6_cell_ok rfl lX6_345 (ct_has l) rfl 56 rfl [45, 46] [none, none, none, none, none, none, none, none, none, none, none, none, none, none, none, none, none, none, none, none, none, none, none, none, none, none, none, none, none, none, none, none, none, none, none, none, none, none, none, none, none, none, none, none, none, some 0, some 1, none, none, none, none, none, none, none, none, none] (by decide +kernel) (pSheet 0 (s1.1) (s1.2.1) (s1.2.2)) [.ref 0, .int y, .int (nI 1)] [] rfl 0 4 rfl rfl rfl rfl rfl rfl rfl rfl (some (.int (bI (hasF s1.2.1 y (nI 1))))) (pSheet 0 (s1.1) (s1.2.1) (s1.2.2)) ⟨s1.1, s1.2.1, y, nI 1, s1.2.2, rfl, rfl, rfl, rfl⟩ rfl (pX c d k r tr kr rd ft tg tc lw kl ik ri s0 s1 s2 s3 tx) [.int (bI (hasF s1.2.1 y (nI 1)))] rfl rfl ?_
        cases hH : (hasF s1.2.1 y (nI 1)) with
        | false =>
          refine V.nm [(0, .ref 0), (1, .int (nI 1)), (2, .int y), (3, .int z)] [.int (bI false)] (pX c d k r tr kr rd ft tg tc lw kl ik ri s0 s1 s2 s3 tx) rfl rfl rfl ?_
          rw [hsz] at hH
          refine V.g2 60 [16, 32, 49] mX6_cell_ok rfl ?_
          refine And.intro (fun e => absurd rfl e) (fun _ => ?_)
          exact ⟨_, zsim_rfl _, h3 (fun i hi e => by rw [e, show nI 1 = nI 1 from rfl, has_nn hn40 (by omega) (by omega), decide_eq_true (by omega)] at hH; cases hH)⟩
        | true =>
          refine V.nm [(0, .ref 0), (1, .int (nI 1)), (2, .int y), (3, .int z)] [.int (bI true)] (pX c d k r tr kr rd ft tg tc lw kl ik ri s0 s1 s2 s3 tx) rfl rfl rfl ?_
          rw [hsz] at hH
          obtain ⟨i, hi, rfl⟩ : ∃ i, i < n ∧ y = nI i := by
            rcases pk_ix y (show 2147483647 < 2 ^ 31 by omega) with q | q | ⟨j, q1, q2⟩
            · rw [has_neg (Or.inl q)] at hH; cases hH
            · obtain ⟨a, ha, ea⟩ := nn_ex (x := y) (fun z => by rw [has_neg (Or.inl z)] at hH; cases hH)
              rw [ea, has_nn hn40 ha (by omega), decide_eq_true_eq] at hH
              exact ⟨a, by omega, ea⟩
            · rw [q2, has_nn hn40 (by omega) (by omega), decide_eq_true_eq] at hH
              exact ⟨j, by omega, q2⟩
          have h4 := h4 i hi rfl
          refine V.nm [(0, .ref 0), (1, .int (nI 1)), (2, .int (nI i)), (3, .int z)] [.int (bI true)] (pX c d k r tr kr rd ft tg tc lw kl ik ri s0 s1 s2 s3 tx) rfl rfl rfl ?_
          refine V.g2 60 [16, 32, 49] mX6_cell_ok rfl ?_
          refine And.intro (fun _ => ?_) (fun e => absurd e (by decide))
          have er : zrf (zsg (nI 1).toNatClampNeg) = .ref 90 := by rw [pk_cl 1 rfl]; rfl
          refine And.intro (pk_in 1 4 (by omega) rfl) ?_
          refine V.nm [(0, .ref 0), (1, .int (nI 1)), (2, .int (nI i)), (3, .int z)] [.ref 90] (pX c d k r tr kr rd ft tg tc lw kl ik ri s0 s1 s2 s3 tx) rfl (by rw [← er] <;> rfl) rfl ?_
          refine V.g2 60 [16, 32, 49] mX6_cell_ok rfl ?_
          refine V.cV1P mX6_cell_ok rfl lX6_283 (ct_write l) rfl 56 rfl [45, 46] [none, none, none, none, none, none, none, none, none, none, none, none, none, none, none, none, none, none, none, none, none, none, none, none, none, none, none, none, none, none, none, none, none, none, none, none, none, none, none, none, none, none, none, none, none, some 0, some 1, none, none, none, none, none, none, none, none, none] (by decide +kernel) (pSheet 0 (s1.1) (s1.2.1) (s1.2.2)) [.ref 0, .int (nI i), .int z] [] rfl 0 4 rfl rfl rfl rfl rfl rfl rfl rfl none (pSheet 0 s1.1 s1.2.1 (upd s1.2.2 i (cutF s1.1 z))) ⟨s1.1, s1.2.1, z, i, s1.2.2, by omega, rfl, rfl, rfl, rfl⟩ rfl (pX c d k r tr kr rd ft tg tc lw kl ik ri s0 (s1.1, s1.2.1, (upd s1.2.2 i (cutF s1.1 z))) s2 s3 tx) [] rfl rfl ?_
          refine V.g2 60 [16, 32, 49] mX6_cell_ok rfl ?_
          exact ⟨_, zsim_rfl _, h4⟩
      · exact ⟨_, zsim_rfl _, h2 e1⟩
    · refine V.nm [(0, .ref 0), (1, .int (nI 2)), (2, .int y), (3, .int z)] [.int (bI true)] (pX c d k r tr kr rd ft tg tc lw kl ik ri s0 s1 s2 s3 tx) rfl rfl rfl ?_
      have hsz : s2.2.1 = nI n := hsz
      refine V.g2 60 [16, 32, 49] mX6_cell_ok rfl ?_
      refine And.intro (fun _ => ?_) (fun e => absurd e (by decide))
      have er : zrf (zsg (nI 2).toNatClampNeg) = .ref 94 := by rw [pk_cl 2 rfl]; rfl
      refine And.intro (pk_in 2 4 (by omega) rfl) ?_
      refine V.nm [(0, .ref 0), (1, .int (nI 2)), (2, .int y), (3, .int z)] [.ref 94] (pX c d k r tr kr rd ft tg tc lw kl ik ri s0 s1 s2 s3 tx) rfl (by rw [← er] <;> rfl) rfl ?_
      refine V.g2 60 [16, 32, 49] mX6_cell_ok rfl ?_
      refine And.intro (fun (e1 : ¬ (s2.1) = (-1 : Int32)) => ?_) (fun (e1 : (s2.1) = (-1 : Int32)) => ?_)
      · have h3 := h3 e1
        have h4 := fun i => h4 i e1
        have er : zrf (zsg (nI 2).toNatClampNeg) = .ref 94 := by rw [pk_cl 2 rfl]; rfl
        refine And.intro (pk_in 2 4 (by omega) rfl) ?_
        refine V.nm [(0, .ref 0), (1, .int (nI 2)), (2, .int y), (3, .int z)] [.ref 94] (pX c d k r tr kr rd ft tg tc lw kl ik ri s0 s1 s2 s3 tx) rfl (by rw [← er] <;> rfl) rfl ?_
        refine V.g2 60 [16, 32, 49] mX6_cell_ok rfl ?_
        refine V.cV1P mX6_cell_ok rfl lX6_345 (ct_has l) rfl 56 rfl [47, 48] [none, none, none, none, none, none, none, none, none, none, none, none, none, none, none, none, none, none, none, none, none, none, none, none, none, none, none, none, none, none, none, none, none, none, none, none, none, none, none, none, none, none, none, none, none, none, none, some 0, some 1, none, none, none, none, none, none, none] (by decide +kernel) (pSheet 0 (s2.1) (s2.2.1) (s2.2.2)) [.ref 0, .int y, .int (nI 1)] [] rfl 0 4 rfl rfl rfl rfl rfl rfl rfl rfl (some (.int (bI (hasF s2.2.1 y (nI 1))))) (pSheet 0 (s2.1) (s2.2.1) (s2.2.2)) ⟨s2.1, s2.2.1, y, nI 1, s2.2.2, rfl, rfl, rfl, rfl⟩ rfl (pX c d k r tr kr rd ft tg tc lw kl ik ri s0 s1 s2 s3 tx) [.int (bI (hasF s2.2.1 y (nI 1)))] rfl rfl ?_
        cases hH : (hasF s2.2.1 y (nI 1)) with
        | false =>
          refine V.nm [(0, .ref 0), (1, .int (nI 2)), (2, .int y), (3, .int z)] [.int (bI false)] (pX c d k r tr kr rd ft tg tc lw kl ik ri s0 s1 s2 s3 tx) rfl rfl rfl ?_
          rw [hsz] at hH
          refine V.g2 60 [16, 32, 49] mX6_cell_ok rfl ?_
          refine And.intro (fun e => absurd rfl e) (fun _ => ?_)
          exact ⟨_, zsim_rfl _, h3 (fun i hi e => by rw [e, show nI 1 = nI 1 from rfl, has_nn hn40 (by omega) (by omega), decide_eq_true (by omega)] at hH; cases hH)⟩
        | true =>
          refine V.nm [(0, .ref 0), (1, .int (nI 2)), (2, .int y), (3, .int z)] [.int (bI true)] (pX c d k r tr kr rd ft tg tc lw kl ik ri s0 s1 s2 s3 tx) rfl rfl rfl ?_
          rw [hsz] at hH
          obtain ⟨i, hi, rfl⟩ : ∃ i, i < n ∧ y = nI i := by
            rcases pk_ix y (show 2147483647 < 2 ^ 31 by omega) with q | q | ⟨j, q1, q2⟩
            · rw [has_neg (Or.inl q)] at hH; cases hH
            · obtain ⟨a, ha, ea⟩ := nn_ex (x := y) (fun z => by rw [has_neg (Or.inl z)] at hH; cases hH)
              rw [ea, has_nn hn40 ha (by omega), decide_eq_true_eq] at hH
              exact ⟨a, by omega, ea⟩
            · rw [q2, has_nn hn40 (by omega) (by omega), decide_eq_true_eq] at hH
              exact ⟨j, by omega, q2⟩
          have h4 := h4 i hi rfl
          refine V.nm [(0, .ref 0), (1, .int (nI 2)), (2, .int (nI i)), (3, .int z)] [.int (bI true)] (pX c d k r tr kr rd ft tg tc lw kl ik ri s0 s1 s2 s3 tx) rfl rfl rfl ?_
          refine V.g2 60 [16, 32, 49] mX6_cell_ok rfl ?_
          refine And.intro (fun _ => ?_) (fun e => absurd e (by decide))
          have er : zrf (zsg (nI 2).toNatClampNeg) = .ref 94 := by rw [pk_cl 2 rfl]; rfl
          refine And.intro (pk_in 2 4 (by omega) rfl) ?_
          refine V.nm [(0, .ref 0), (1, .int (nI 2)), (2, .int (nI i)), (3, .int z)] [.ref 94] (pX c d k r tr kr rd ft tg tc lw kl ik ri s0 s1 s2 s3 tx) rfl (by rw [← er] <;> rfl) rfl ?_
          refine V.g2 60 [16, 32, 49] mX6_cell_ok rfl ?_
          refine V.cV1P mX6_cell_ok rfl lX6_283 (ct_write l) rfl 56 rfl [47, 48] [none, none, none, none, none, none, none, none, none, none, none, none, none, none, none, none, none, none, none, none, none, none, none, none, none, none, none, none, none, none, none, none, none, none, none, none, none, none, none, none, none, none, none, none, none, none, none, some 0, some 1, none, none, none, none, none, none, none] (by decide +kernel) (pSheet 0 (s2.1) (s2.2.1) (s2.2.2)) [.ref 0, .int (nI i), .int z] [] rfl 0 4 rfl rfl rfl rfl rfl rfl rfl rfl none (pSheet 0 s2.1 s2.2.1 (upd s2.2.2 i (cutF s2.1 z))) ⟨s2.1, s2.2.1, z, i, s2.2.2, by omega, rfl, rfl, rfl, rfl⟩ rfl (pX c d k r tr kr rd ft tg tc lw kl ik ri s0 s1 (s2.1, s2.2.1, (upd s2.2.2 i (cutF s2.1 z))) s3 tx) [] rfl rfl ?_
          refine V.g2 60 [16, 32, 49] mX6_cell_ok rfl ?_
          exact ⟨_, zsim_rfl _, h4⟩
      · exact ⟨_, zsim_rfl _, h2 e1⟩
    · refine V.nm [(0, .ref 0), (1, .int (nI 3)), (2, .int y), (3, .int z)] [.int (bI true)] (pX c d k r tr kr rd ft tg tc lw kl ik ri s0 s1 s2 s3 tx) rfl rfl rfl ?_
      have hsz : s3.2.1 = nI n := hsz
      refine V.g2 60 [16, 32, 49] mX6_cell_ok rfl ?_
      refine And.intro (fun _ => ?_) (fun e => absurd e (by decide))
      have er : zrf (zsg (nI 3).toNatClampNeg) = .ref 98 := by rw [pk_cl 3 rfl]; rfl
      refine And.intro (pk_in 3 4 (by omega) rfl) ?_
      refine V.nm [(0, .ref 0), (1, .int (nI 3)), (2, .int y), (3, .int z)] [.ref 98] (pX c d k r tr kr rd ft tg tc lw kl ik ri s0 s1 s2 s3 tx) rfl (by rw [← er] <;> rfl) rfl ?_
      refine V.g2 60 [16, 32, 49] mX6_cell_ok rfl ?_
      refine And.intro (fun (e1 : ¬ (s3.1) = (-1 : Int32)) => ?_) (fun (e1 : (s3.1) = (-1 : Int32)) => ?_)
      · have h3 := h3 e1
        have h4 := fun i => h4 i e1
        have er : zrf (zsg (nI 3).toNatClampNeg) = .ref 98 := by rw [pk_cl 3 rfl]; rfl
        refine And.intro (pk_in 3 4 (by omega) rfl) ?_
        refine V.nm [(0, .ref 0), (1, .int (nI 3)), (2, .int y), (3, .int z)] [.ref 98] (pX c d k r tr kr rd ft tg tc lw kl ik ri s0 s1 s2 s3 tx) rfl (by rw [← er] <;> rfl) rfl ?_
        refine V.g2 60 [16, 32, 49] mX6_cell_ok rfl ?_
        refine V.cV1P mX6_cell_ok rfl lX6_345 (ct_has l) rfl 56 rfl [49, 50] [none, none, none, none, none, none, none, none, none, none, none, none, none, none, none, none, none, none, none, none, none, none, none, none, none, none, none, none, none, none, none, none, none, none, none, none, none, none, none, none, none, none, none, none, none, none, none, none, none, some 0, some 1, none, none, none, none, none] (by decide +kernel) (pSheet 0 (s3.1) (s3.2.1) (s3.2.2)) [.ref 0, .int y, .int (nI 1)] [] rfl 0 4 rfl rfl rfl rfl rfl rfl rfl rfl (some (.int (bI (hasF s3.2.1 y (nI 1))))) (pSheet 0 (s3.1) (s3.2.1) (s3.2.2)) ⟨s3.1, s3.2.1, y, nI 1, s3.2.2, rfl, rfl, rfl, rfl⟩ rfl (pX c d k r tr kr rd ft tg tc lw kl ik ri s0 s1 s2 s3 tx) [.int (bI (hasF s3.2.1 y (nI 1)))] rfl rfl ?_
        cases hH : (hasF s3.2.1 y (nI 1)) with
        | false =>
          refine V.nm [(0, .ref 0), (1, .int (nI 3)), (2, .int y), (3, .int z)] [.int (bI false)] (pX c d k r tr kr rd ft tg tc lw kl ik ri s0 s1 s2 s3 tx) rfl rfl rfl ?_
          rw [hsz] at hH
          refine V.g2 60 [16, 32, 49] mX6_cell_ok rfl ?_
          refine And.intro (fun e => absurd rfl e) (fun _ => ?_)
          exact ⟨_, zsim_rfl _, h3 (fun i hi e => by rw [e, show nI 1 = nI 1 from rfl, has_nn hn40 (by omega) (by omega), decide_eq_true (by omega)] at hH; cases hH)⟩
        | true =>
          refine V.nm [(0, .ref 0), (1, .int (nI 3)), (2, .int y), (3, .int z)] [.int (bI true)] (pX c d k r tr kr rd ft tg tc lw kl ik ri s0 s1 s2 s3 tx) rfl rfl rfl ?_
          rw [hsz] at hH
          obtain ⟨i, hi, rfl⟩ : ∃ i, i < n ∧ y = nI i := by
            rcases pk_ix y (show 2147483647 < 2 ^ 31 by omega) with q | q | ⟨j, q1, q2⟩
            · rw [has_neg (Or.inl q)] at hH; cases hH
            · obtain ⟨a, ha, ea⟩ := nn_ex (x := y) (fun z => by rw [has_neg (Or.inl z)] at hH; cases hH)
              rw [ea, has_nn hn40 ha (by omega), decide_eq_true_eq] at hH
              exact ⟨a, by omega, ea⟩
            · rw [q2, has_nn hn40 (by omega) (by omega), decide_eq_true_eq] at hH
              exact ⟨j, by omega, q2⟩
          have h4 := h4 i hi rfl
          refine V.nm [(0, .ref 0), (1, .int (nI 3)), (2, .int (nI i)), (3, .int z)] [.int (bI true)] (pX c d k r tr kr rd ft tg tc lw kl ik ri s0 s1 s2 s3 tx) rfl rfl rfl ?_
          refine V.g2 60 [16, 32, 49] mX6_cell_ok rfl ?_
          refine And.intro (fun _ => ?_) (fun e => absurd e (by decide))
          have er : zrf (zsg (nI 3).toNatClampNeg) = .ref 98 := by rw [pk_cl 3 rfl]; rfl
          refine And.intro (pk_in 3 4 (by omega) rfl) ?_
          refine V.nm [(0, .ref 0), (1, .int (nI 3)), (2, .int (nI i)), (3, .int z)] [.ref 98] (pX c d k r tr kr rd ft tg tc lw kl ik ri s0 s1 s2 s3 tx) rfl (by rw [← er] <;> rfl) rfl ?_
          refine V.g2 60 [16, 32, 49] mX6_cell_ok rfl ?_
          refine V.cV1P mX6_cell_ok rfl lX6_283 (ct_write l) rfl 56 rfl [49, 50] [none, none, none, none, none, none, none, none, none, none, none, none, none, none, none, none, none, none, none, none, none, none, none, none, none, none, none, none, none, none, none, none, none, none, none, none, none, none, none, none, none, none, none, none, none, none, none, none, none, some 0, some 1, none, none, none, none, none] (by decide +kernel) (pSheet 0 (s3.1) (s3.2.1) (s3.2.2)) [.ref 0, .int (nI i), .int z] [] rfl 0 4 rfl rfl rfl rfl rfl rfl rfl rfl none (pSheet 0 s3.1 s3.2.1 (upd s3.2.2 i (cutF s3.1 z))) ⟨s3.1, s3.2.1, z, i, s3.2.2, by omega, rfl, rfl, rfl, rfl⟩ rfl (pX c d k r tr kr rd ft tg tc lw kl ik ri s0 s1 s2 (s3.1, s3.2.1, (upd s3.2.2 i (cutF s3.1 z))) tx) [] rfl rfl ?_
          refine V.g2 60 [16, 32, 49] mX6_cell_ok rfl ?_
          exact ⟨_, zsim_rfl _, h4⟩
      · exact ⟨_, zsim_rfl _, h2 e1⟩
