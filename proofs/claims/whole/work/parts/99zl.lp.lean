/-! ===== the law: its loop ===== -/
theorem lc_gt {i L : Nat} (h : L ≤ i + 6) (hi : i ≤ 4000) (hL : L ≤ 4000) : nI L - zi 7 < nI i := by
  show nI L - nI 7 < nI i
  rcases Nat.lt_or_ge L 7 with q | q
  · rw [nI_subn q]
    have h0 : (0 : Int32) ≤ nI i := show nI 0 ≤ nI i from nI_le (Nat.zero_le i) (by omega)
    have key : ∀ j, j < 7 → - nI (7 - j) < (0 : Int32) := by decide
    exact Int32.lt_of_lt_of_le (key L q) h0
  · rw [pk_sub q]
    exact nI_lt (by omega) (by omega)
theorem lc_ng {i L : Nat} (h : i + 6 < L) (hL : L ≤ 4000) : ¬ nI L - zi 7 < nI i := by
  show ¬ nI L - nI 7 < nI i
  rw [pk_sub (by omega)]
  exact Int32.not_lt.mpr (nI_le (by omega) (by omega))
section
variable {l : Launch} {b0 L : Nat} {xs : Nat → Int32}
theorem lc_go (hL : L ≤ 3584) {nc ns n i : Nat} {Ps : Nat → zP} (h : ∀ (c d k : zCart) (r tr kr : zRow) (rd : zRd) (lw kl ik : Int32) (rj : zRj) (s0 s1 s2 s3 : zSh) (fv : Nat → Int32) (ar : Nat → fI) (TS : List zTx), Rel c k r kr rd lw kl ik s0 s1 s2 s3 fv ar n Ps → TSok TS n Ps → VL l b0 L xs nc ns 18 (lv0 (i + 7)) [] (lW c d k r tr kr rd n lw kl ik rj s0 s1 s2 s3 fv ar TS)) : KN l b0 L xs nc ns n i Ps := fun c d k r tr kr rd lw kl ik rj s0 s1 s2 s3 fv ar TS hR hTS => by
  refine V.gl 40 [18] ?_
  refine V.nm (lv0 (i + 7)) [] _ ?_ rfl rfl (h c d k r tr kr rd lw kl ik rj s0 s1 s2 s3 fv ar TS hR hTS)
  show [(3, Value.int (nI i + nI 7)), (0, .ref 301), (1, .ref 0), (2, .ref 102)] = lv0 (i + 7)
  rw [nI_add]
theorem lc_end {c d k : zCart} {r tr kr : zRow} {rd : zRd} {lw kl ik : Int32} {rj : zRj} {s0 s1 s2 s3 : zSh} {fv : Nat → Int32} {ar : Nat → fI} {TS : List zTx} {nc ns n i : Nat} (hnc : nc ≤ 600000) (hns : ns ≤ 7302250) : VL l b0 L xs nc ns 1641 (lv0 i) [] (lW c d k r tr kr rd n lw kl ik rj s0 s1 s2 s3 fv ar TS) := by
  refine V.gl 40 [1642] ?_
  exact V.lret rfl hnc hns
set_option maxHeartbeats 4000000 in
theorem lc_all {c d k : zCart} {r tr kr : zRow} {rd : zRd} {lw kl ik : Int32} {rj : zRj} {s0 s1 s2 s3 : zSh} {fv : Nat → Int32} {ar : Nat → fI} {TS : List zTx} {nc ns n i : Nat} {Ps : Nat → zP} (hL : L ≤ 3584) (hi : i + 6 < L) (hnc : nc + 5 ≤ 600000) (hns : ns + 491 ≤ 7302250) (hR : Rel c k r kr rd lw kl ik s0 s1 s2 s3 fv ar n Ps) (hTS : TSok TS n Ps) (hK : KN l b0 L xs nc ns n i Ps) (hK2 : ∀ (n2 : Nat) (Ps2 : Nat → zP), KN l b0 L xs (nc + 5) (ns + 491) n2 i Ps2) {x : Int32} : VL l b0 L xs nc ns 33 (lv0 i) [.int x] (lW c d k r tr kr rd n lw kl ik rj s0 s1 s2 s3 fv ar TS) := by
  have hnc0 : nc ≤ 600000 := by omega
  have hns0 : ns ≤ 7302250 := by omega
  rcases zcase x 46 (by decide) with ⟨j, hj, hx⟩ | hx
  · match j, hj, hx with
    | 0, _, hx => exact V.tsI mLw_ok rfl 0 (by rw [hx]; exact nI_toInt (by decide)) (by decide) (by decide) 199 rfl 232 rfl (lc_0 hL hi hnc0 hns0 hR hTS hK)
    | 1, _, hx => exact V.tsI mLw_ok rfl 1 (by rw [hx]; exact nI_toInt (by decide)) (by decide) (by decide) 222 rfl 255 rfl (lc_1 hL hi hnc0 hns0 hR hTS hK)
    | 2, _, hx => exact V.tsI mLw_ok rfl 2 (by rw [hx]; exact nI_toInt (by decide)) (by decide) (by decide) 297 rfl 330 rfl (lc_2 hnc hns hR hTS hK2)
    | 3, _, hx => exact V.tsI mLw_ok rfl 3 (by rw [hx]; exact nI_toInt (by decide)) (by decide) (by decide) 310 rfl 343 rfl (lc_3 hL hi hnc0 hns0 hR hTS hK)
    | 4, _, hx => exact V.tsI mLw_ok rfl 4 (by rw [hx]; exact nI_toInt (by decide)) (by decide) (by decide) 333 rfl 366 rfl (lc_4 hL hi hnc0 hns0 hR hTS hK)
    | 5, _, hx => exact V.tsI mLw_ok rfl 5 (by rw [hx]; exact nI_toInt (by decide)) (by decide) (by decide) 386 rfl 419 rfl (lc_5 hL hi hnc0 hns0 hR hTS hK)
    | 6, _, hx => exact V.tsI mLw_ok rfl 6 (by rw [hx]; exact nI_toInt (by decide)) (by decide) (by decide) 429 rfl 462 rfl (lc_6 hL hi hnc0 hns0 hR hTS hK)
    | 7, _, hx => exact V.tsI mLw_ok rfl 7 (by rw [hx]; exact nI_toInt (by decide)) (by decide) (by decide) 452 rfl 485 rfl (lc_7 hL hi hnc0 hns0 hR hTS hK)
    | 8, _, hx => exact V.tsI mLw_ok rfl 8 (by rw [hx]; exact nI_toInt (by decide)) (by decide) (by decide) 485 rfl 518 rfl (lc_8 hL hi hnc0 hns0 hR hTS hK)
    | 9, _, hx => exact V.tsI mLw_ok rfl 9 (by rw [hx]; exact nI_toInt (by decide)) (by decide) (by decide) 528 rfl 561 rfl (lc_9 hL hi hnc0 hns0 hR hTS hK)
    | 10, _, hx => exact V.tsI mLw_ok rfl 10 (by rw [hx]; exact nI_toInt (by decide)) (by decide) (by decide) 561 rfl 594 rfl (lc_10 hL hi hnc0 hns0 hR hTS hK)
    | 11, _, hx => exact V.tsI mLw_ok rfl 11 (by rw [hx]; exact nI_toInt (by decide)) (by decide) (by decide) 594 rfl 627 rfl (lc_11 hL hi hnc0 hns0 hR hTS hK)
    | 12, _, hx => exact V.tsI mLw_ok rfl 12 (by rw [hx]; exact nI_toInt (by decide)) (by decide) (by decide) 617 rfl 650 rfl (lc_12 hL hi hnc0 hns0 hR hTS hK)
    | 13, _, hx => exact V.tsI mLw_ok rfl 13 (by rw [hx]; exact nI_toInt (by decide)) (by decide) (by decide) 640 rfl 673 rfl (lc_13 hL hi hnc0 hns0 hR hTS hK)
    | 14, _, hx => exact V.tsI mLw_ok rfl 14 (by rw [hx]; exact nI_toInt (by decide)) (by decide) (by decide) 663 rfl 696 rfl (lc_14 hL hi hnc0 hns0 hR hTS hK)
    | 15, _, hx => exact V.tsI mLw_ok rfl 15 (by rw [hx]; exact nI_toInt (by decide)) (by decide) (by decide) 676 rfl 709 rfl (lc_15 hL hi hnc0 hns0 hR hTS hK)
    | 16, _, hx => exact V.tsI mLw_ok rfl 16 (by rw [hx]; exact nI_toInt (by decide)) (by decide) (by decide) 709 rfl 742 rfl (lc_16 hL hi hnc0 hns0 hR hTS hK)
    | 17, _, hx => exact V.tsI mLw_ok rfl 17 (by rw [hx]; exact nI_toInt (by decide)) (by decide) (by decide) 732 rfl 765 rfl (lc_17 hL hi hnc0 hns0 hR hTS hK)
    | 18, _, hx => exact V.tsI mLw_ok rfl 18 (by rw [hx]; exact nI_toInt (by decide)) (by decide) (by decide) 756 rfl 789 rfl (lc_18 hL hi hnc0 hns0 hR hTS hK)
    | 19, _, hx => exact V.tsI mLw_ok rfl 19 (by rw [hx]; exact nI_toInt (by decide)) (by decide) (by decide) 769 rfl 802 rfl (lc_19 hL hi hnc0 hns0 hR hTS hK)
    | 20, _, hx => exact V.tsI mLw_ok rfl 20 (by rw [hx]; exact nI_toInt (by decide)) (by decide) (by decide) 782 rfl 815 rfl (lc_20 hL hi hnc0 hns0 hR hTS hK)
    | 21, _, hx => exact V.tsI mLw_ok rfl 21 (by rw [hx]; exact nI_toInt (by decide)) (by decide) (by decide) 805 rfl 838 rfl (lc_21 hL hi hnc0 hns0 hR hTS hK)
    | 22, _, hx => exact V.tsI mLw_ok rfl 22 (by rw [hx]; exact nI_toInt (by decide)) (by decide) (by decide) 828 rfl 861 rfl (lc_22 hL hi hnc0 hns0 hR hTS hK)
    | 23, _, hx => exact V.tsI mLw_ok rfl 23 (by rw [hx]; exact nI_toInt (by decide)) (by decide) (by decide) 841 rfl 874 rfl (lc_23 hL hi hnc0 hns0 hR hTS hK)
    | 24, _, hx => exact V.tsI mLw_ok rfl 24 (by rw [hx]; exact nI_toInt (by decide)) (by decide) (by decide) 864 rfl 897 rfl (lc_24 hL hi hnc0 hns0 hR hTS hK)
    | 25, _, hx => exact V.tsI mLw_ok rfl 25 (by rw [hx]; exact nI_toInt (by decide)) (by decide) (by decide) 907 rfl 940 rfl (lc_25 hL hi hnc0 hns0 hR hTS hK)
    | 26, _, hx => exact V.tsI mLw_ok rfl 26 (by rw [hx]; exact nI_toInt (by decide)) (by decide) (by decide) 930 rfl 963 rfl (lc_26 hL hi hnc0 hns0 hR hTS hK)
    | 27, _, hx => exact V.tsI mLw_ok rfl 27 (by rw [hx]; exact nI_toInt (by decide)) (by decide) (by decide) 963 rfl 996 rfl (lc_27 hL hi hnc0 hns0 hR hTS hK)
    | 28, _, hx => exact V.tsI mLw_ok rfl 28 (by rw [hx]; exact nI_toInt (by decide)) (by decide) (by decide) 986 rfl 1019 rfl (lc_28 hL hi hnc0 hns0 hR hTS hK)
    | 29, _, hx => exact V.tsI mLw_ok rfl 29 (by rw [hx]; exact nI_toInt (by decide)) (by decide) (by decide) 1019 rfl 1052 rfl (lc_29 hL hi hnc0 hns0 hR hTS hK)
    | 30, _, hx => exact V.tsI mLw_ok rfl 30 (by rw [hx]; exact nI_toInt (by decide)) (by decide) (by decide) 1042 rfl 1075 rfl (lc_30 hL hi hnc0 hns0 hR hTS hK)
    | 31, _, hx => exact V.tsI mLw_ok rfl 31 (by rw [hx]; exact nI_toInt (by decide)) (by decide) (by decide) 1085 rfl 1118 rfl (lc_31 hL hi hnc0 hns0 hR hTS hK)
    | 32, _, hx => exact V.tsI mLw_ok rfl 32 (by rw [hx]; exact nI_toInt (by decide)) (by decide) (by decide) 1118 rfl 1151 rfl (lc_32 hL hi hnc0 hns0 hR hTS hK)
    | 33, _, hx => exact V.tsI mLw_ok rfl 33 (by rw [hx]; exact nI_toInt (by decide)) (by decide) (by decide) 1141 rfl 1174 rfl (lc_33 hL hi hnc0 hns0 hR hTS hK)
    | 34, _, hx => exact V.tsI mLw_ok rfl 34 (by rw [hx]; exact nI_toInt (by decide)) (by decide) (by decide) 1164 rfl 1197 rfl (lc_34 hL hi hnc0 hns0 hR hTS hK)
    | 35, _, hx => exact V.tsI mLw_ok rfl 35 (by rw [hx]; exact nI_toInt (by decide)) (by decide) (by decide) 1198 rfl 1231 rfl (lc_35 hL hi hnc0 hns0 hR hTS hK)
    | 36, _, hx => exact V.tsI mLw_ok rfl 36 (by rw [hx]; exact nI_toInt (by decide)) (by decide) (by decide) 1231 rfl 1264 rfl (lc_36 hL hi hnc0 hns0 hR hTS hK)
    | 37, _, hx => exact V.tsI mLw_ok rfl 37 (by rw [hx]; exact nI_toInt (by decide)) (by decide) (by decide) 1264 rfl 1297 rfl (lc_37 hL hi hnc0 hns0 hR hTS hK)
    | 38, _, hx => exact V.tsI mLw_ok rfl 38 (by rw [hx]; exact nI_toInt (by decide)) (by decide) (by decide) 1297 rfl 1330 rfl (lc_38 hL hi hnc0 hns0 hR hTS hK)
    | 39, _, hx => exact V.tsI mLw_ok rfl 39 (by rw [hx]; exact nI_toInt (by decide)) (by decide) (by decide) 1341 rfl 1374 rfl (lc_39 hL hi hnc0 hns0 hR hTS hK)
    | 40, _, hx => exact V.tsI mLw_ok rfl 40 (by rw [hx]; exact nI_toInt (by decide)) (by decide) (by decide) 1354 rfl 1387 rfl (lc_40 hL hi hnc0 hns0 hR hTS hK)
    | 41, _, hx => exact V.tsI mLw_ok rfl 41 (by rw [hx]; exact nI_toInt (by decide)) (by decide) (by decide) 1367 rfl 1400 rfl (lc_41 hL hi hnc0 hns0 hR hTS hK)
    | 42, _, hx => exact V.tsI mLw_ok rfl 42 (by rw [hx]; exact nI_toInt (by decide)) (by decide) (by decide) 1410 rfl 1443 rfl (lc_42 hL hi hnc0 hns0 hR hTS hK)
    | 43, _, hx => exact V.tsI mLw_ok rfl 43 (by rw [hx]; exact nI_toInt (by decide)) (by decide) (by decide) 1453 rfl 1486 rfl (lc_43 hL hi hnc0 hns0 hR hTS hK)
    | 44, _, hx => exact V.tsI mLw_ok rfl 44 (by rw [hx]; exact nI_toInt (by decide)) (by decide) (by decide) 1516 rfl 1549 rfl (lc_44 hL hi hnc0 hns0 hR hTS hK)
    | 45, _, hx => exact V.tsI mLw_ok rfl 45 (by rw [hx]; exact nI_toInt (by decide)) (by decide) (by decide) 1569 rfl 1602 rfl (lc_45 hL hi hnc0 hns0 hR hTS hK)
    | j + 46, h, _ => exact absurd h (by omega)
  · exact V.tsO mLw_ok rfl (hx.imp id (fun h => Int.lt_of_lt_of_le (by decide) h)) 1635 rfl (hK _ _ _ _ _ _ _ _ _ _ _ _ _ _ _ _ _ _ hR hTS)
set_option maxRecDepth 20000 in
theorem lc_loop (hL : L ≤ 3584) : ∀ (m i nc ns n : Nat) (Ps : Nat → zP) (c d k : zCart) (r tr kr : zRow) (rd : zRd) (lw kl ik : Int32) (rj : zRj) (s0 s1 s2 s3 : zSh) (fv : Nat → Int32) (ar : Nat → fI) (TS : List zTx), L ≤ i + 7 * m → i ≤ L → nc + 5 * m ≤ 600000 → ns + 491 * m ≤ 7302250 → Rel c k r kr rd lw kl ik s0 s1 s2 s3 fv ar n Ps → TSok TS n Ps → VL l b0 L xs nc ns 18 (lv0 i) [] (lW c d k r tr kr rd n lw kl ik rj s0 s1 s2 s3 fv ar TS) := by
  intro m
  induction m with
  | zero =>
    intro i nc ns n Ps c d k r tr kr rd lw kl ik rj s0 s1 s2 s3 fv ar TS h1 h2 h3 h4 hR hTS
    refine V.gl 40 [20] ?_
    refine V.slen rfl ?_
    refine V.gl 40 [27, 1641] ?_
    refine And.intro (fun _ => lc_end (by omega) (by omega)) (fun q => absurd (lc_gt (by omega) (by omega) (by omega)) q)
  | succ m ih =>
    intro i nc ns n Ps c d k r tr kr rd lw kl ik rj s0 s1 s2 s3 fv ar TS h1 h2 h3 h4 hR hTS
    refine V.gl 40 [20] ?_
    refine V.slen rfl ?_
    refine V.gl 40 [27, 1641] ?_
    by_cases hi : i + 6 < L
    · refine And.intro (fun q => absurd q (lc_ng hi (by omega))) (fun _ => ?_)
      refine V.gl 40 [29] ?_
      refine V.sld i rfl hL rfl (by omega) ?_
      refine V.gl 40 [33] ?_
      exact lc_all hL hi (by omega) (by omega) hR hTS (lc_go hL (fun c d k r tr kr rd lw kl ik rj s0 s1 s2 s3 fv ar TS hR hTS => ih (i + 7) nc ns n Ps c d k r tr kr rd lw kl ik rj s0 s1 s2 s3 fv ar TS (by omega) (by omega) (by omega) (by omega) hR hTS)) (fun n2 Ps2 => lc_go hL (fun c d k r tr kr rd lw kl ik rj s0 s1 s2 s3 fv ar TS hR hTS => ih (i + 7) (nc + 5) (ns + 491) n2 Ps2 c d k r tr kr rd lw kl ik rj s0 s1 s2 s3 fv ar TS (by omega) (by omega) (by omega) (by omega) hR hTS))
    · exact And.intro (fun _ => lc_end (by omega) (by omega)) (fun q => absurd (lc_gt (by omega) (by omega) (by omega)) q)
end
