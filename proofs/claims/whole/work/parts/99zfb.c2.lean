/-! ===== the law: more cases ===== -/
theorem lc_12 {l : Launch} {b0 L : Nat} {xs : Nat → Int32} {nc ns n i : Nat} {Ps : Nat → zP} {c d k : zCart} {r tr kr : zRow} {rd : zRd} {lw kl ik : Int32} {rj : zRj} {s0 s1 s2 s3 : zSh} {fv : Nat → Int32} {ar : Nat → fI} {TS : List zTx} (hL : L ≤ 3584) (hi : i + 6 < L) (hnc : nc ≤ 600000) (hns : ns ≤ 7302250) (hR : Rel c k r kr rd lw kl ik s0 s1 s2 s3 fv ar n Ps) (hTS : TSok TS n Ps) (hK : KN l b0 L xs nc ns n i Ps) : VL l b0 L xs nc ns 650 (lv0 i) [] (lW c d k r tr kr rd n lw kl ik rj s0 s1 s2 s3 fv ar TS) := by
  refine V.gl 40 [655] ?_
  refine V.sld (i + 1) rfl hL (nadd rfl rfl) (by omega) ?_
  refine V.gl 40 [] ?_
  refine V.lcX (T7 := T7_straight) rfl lL_67 (ct_straight l) (by decide) (by decide) hnc hns [.int (xs (i + 1))] rfl rfl rfl rfl (fun _ _ => rfl) (pr_straight _) hR hTS (fun c2 d2 k2 r2 tr2 kr2 rd2 lw2 kl2 ik2 rj2 s02 s12 s22 s32 TS2 v hTS2 hv h7 => ?_)
  obtain ⟨w, rfl⟩ := vkd_int hv
  refine V.gl 40 [664] ?_
  refine V.sld (i + 1) rfl hL (nadd rfl rfl) (by omega) ?_
  refine V.gl 40 [] ?_
  refine V.lcM (lB_len (c := c2) (d := d2) (k := k2) (r := r2) (tr := tr2) (kr := kr2) (rd := rd2) (ft := 2 * 81) (tg := tgW 81 n) (tc := nI n) (lw := lw2) (kl := kl2) (ik := ik2) (ri := (303, 305, rj2)) (s0 := s02) (s1 := s12) (s2 := s22) (s3 := s32)) (C2 := lT 81 TS2) rfl lL_70 (c7_straight l) (by decide) (by decide) hnc hns [.int (xs (i + 1))] rfl rfl rfl [.int w] rfl rfl rfl h7 (fun fv2 ar2 hr => ?_)
  refine V.gl 40 [1635] ?_
  exact And.intro (fun _ => hK _ _ _ _ _ _ _ _ _ _ _ _ _ _ _ _ _ _ hr hTS2) (fun q => absurd rfl q)
theorem lc_13 {l : Launch} {b0 L : Nat} {xs : Nat → Int32} {nc ns n i : Nat} {Ps : Nat → zP} {c d k : zCart} {r tr kr : zRow} {rd : zRd} {lw kl ik : Int32} {rj : zRj} {s0 s1 s2 s3 : zSh} {fv : Nat → Int32} {ar : Nat → fI} {TS : List zTx} (hL : L ≤ 3584) (hi : i + 6 < L) (hnc : nc ≤ 600000) (hns : ns ≤ 7302250) (hR : Rel c k r kr rd lw kl ik s0 s1 s2 s3 fv ar n Ps) (hTS : TSok TS n Ps) (hK : KN l b0 L xs nc ns n i Ps) : VL l b0 L xs nc ns 673 (lv0 i) [] (lW c d k r tr kr rd n lw kl ik rj s0 s1 s2 s3 fv ar TS) := by
  refine V.gl 40 [678] ?_
  refine V.sld (i + 1) rfl hL (nadd rfl rfl) (by omega) ?_
  refine V.gl 40 [] ?_
  refine V.lcX (T7 := T7_hold) rfl lL_71 (ct_hold l) (by decide) (by decide) hnc hns [.int (xs (i + 1))] rfl rfl rfl rfl (fun _ _ => rfl) (pr_hold _) hR hTS (fun c2 d2 k2 r2 tr2 kr2 rd2 lw2 kl2 ik2 rj2 s02 s12 s22 s32 TS2 v hTS2 hv h7 => ?_)
  obtain ⟨w, rfl⟩ := vkd_int hv
  refine V.gl 40 [687] ?_
  refine V.sld (i + 1) rfl hL (nadd rfl rfl) (by omega) ?_
  refine V.gl 40 [] ?_
  refine V.lcM (lB_len (c := c2) (d := d2) (k := k2) (r := r2) (tr := tr2) (kr := kr2) (rd := rd2) (ft := 2 * 81) (tg := tgW 81 n) (tc := nI n) (lw := lw2) (kl := kl2) (ik := ik2) (ri := (303, 305, rj2)) (s0 := s02) (s1 := s12) (s2 := s22) (s3 := s32)) (C2 := lT 81 TS2) rfl lL_74 (c7_hold l) (by decide) (by decide) hnc hns [.int (xs (i + 1))] rfl rfl rfl [.int w] rfl rfl rfl h7 (fun fv2 ar2 hr => ?_)
  refine V.gl 40 [1635] ?_
  exact And.intro (fun _ => hK _ _ _ _ _ _ _ _ _ _ _ _ _ _ _ _ _ _ hr hTS2) (fun q => absurd rfl q)
theorem lc_14 {l : Launch} {b0 L : Nat} {xs : Nat → Int32} {nc ns n i : Nat} {Ps : Nat → zP} {c d k : zCart} {r tr kr : zRow} {rd : zRd} {lw kl ik : Int32} {rj : zRj} {s0 s1 s2 s3 : zSh} {fv : Nat → Int32} {ar : Nat → fI} {TS : List zTx} (hL : L ≤ 3584) (hi : i + 6 < L) (hnc : nc ≤ 600000) (hns : ns ≤ 7302250) (hR : Rel c k r kr rd lw kl ik s0 s1 s2 s3 fv ar n Ps) (hTS : TSok TS n Ps) (hK : KN l b0 L xs nc ns n i Ps) : VL l b0 L xs nc ns 696 (lv0 i) [] (lW c d k r tr kr rd n lw kl ik rj s0 s1 s2 s3 fv ar TS) := by
  refine V.gl 40 [] ?_
  refine V.lcX (T7 := T7_exact) rfl lL_75 (c6_exact l) (by decide) (by decide) hnc hns [] rfl rfl rfl rfl (fun _ _ => rfl) (pr_exact) hR hTS (fun c2 d2 k2 r2 tr2 kr2 rd2 lw2 kl2 ik2 rj2 s02 s12 s22 s32 TS2 v hTS2 hv h7 => ?_)
  obtain ⟨w, rfl⟩ := vkd_int hv
  refine V.gl 40 [] ?_
  refine V.lcM (lB_len (c := c2) (d := d2) (k := k2) (r := r2) (tr := tr2) (kr := kr2) (rd := rd2) (ft := 2 * 81) (tg := tgW 81 n) (tc := nI n) (lw := lw2) (kl := kl2) (ik := ik2) (ri := (303, 305, rj2)) (s0 := s02) (s1 := s12) (s2 := s22) (s3 := s32)) (C2 := lT 81 TS2) rfl lL_78 (c7_exact l) (by decide) (by decide) hnc hns [] rfl rfl rfl [.int w] rfl rfl rfl h7 (fun fv2 ar2 hr => ?_)
  refine V.gl 40 [1635] ?_
  exact And.intro (fun _ => hK _ _ _ _ _ _ _ _ _ _ _ _ _ _ _ _ _ _ hr hTS2) (fun q => absurd rfl q)
theorem lc_15 {l : Launch} {b0 L : Nat} {xs : Nat → Int32} {nc ns n i : Nat} {Ps : Nat → zP} {c d k : zCart} {r tr kr : zRow} {rd : zRd} {lw kl ik : Int32} {rj : zRj} {s0 s1 s2 s3 : zSh} {fv : Nat → Int32} {ar : Nat → fI} {TS : List zTx} (hL : L ≤ 3584) (hi : i + 6 < L) (hnc : nc ≤ 600000) (hns : ns ≤ 7302250) (hR : Rel c k r kr rd lw kl ik s0 s1 s2 s3 fv ar n Ps) (hTS : TSok TS n Ps) (hK : KN l b0 L xs nc ns n i Ps) : VL l b0 L xs nc ns 709 (lv0 i) [] (lW c d k r tr kr rd n lw kl ik rj s0 s1 s2 s3 fv ar TS) := by
  refine V.gl 40 [714] ?_
  refine V.sld (i + 1) rfl hL (nadd rfl rfl) (by omega) ?_
  refine V.gl 40 [719] ?_
  refine V.sld (i + 2) rfl hL (nadd rfl rfl) (by omega) ?_
  refine V.gl 40 [] ?_
  refine V.lcX (T7 := T7_put) rfl lL_79 (c6_put l) (by decide) (by decide) hnc hns [.int (xs (i + 1)), .int (xs (i + 2))] rfl rfl rfl rfl (fun _ _ => rfl) (pr_put _ _) hR hTS (fun c2 d2 k2 r2 tr2 kr2 rd2 lw2 kl2 ik2 rj2 s02 s12 s22 s32 TS2 v hTS2 hv h7 => ?_)
  obtain ⟨w, rfl⟩ := vkd_int hv
  refine V.gl 40 [728] ?_
  refine V.sld (i + 1) rfl hL (nadd rfl rfl) (by omega) ?_
  refine V.gl 40 [733] ?_
  refine V.sld (i + 2) rfl hL (nadd rfl rfl) (by omega) ?_
  refine V.gl 40 [] ?_
  refine V.lcM (lB_len (c := c2) (d := d2) (k := k2) (r := r2) (tr := tr2) (kr := kr2) (rd := rd2) (ft := 2 * 81) (tg := tgW 81 n) (tc := nI n) (lw := lw2) (kl := kl2) (ik := ik2) (ri := (303, 305, rj2)) (s0 := s02) (s1 := s12) (s2 := s22) (s3 := s32)) (C2 := lT 81 TS2) rfl lL_82 (c7_put l) (by decide) (by decide) hnc hns [.int (xs (i + 1)), .int (xs (i + 2))] rfl rfl rfl [.int w] rfl rfl rfl h7 (fun fv2 ar2 hr => ?_)
  refine V.gl 40 [1635] ?_
  exact And.intro (fun _ => hK _ _ _ _ _ _ _ _ _ _ _ _ _ _ _ _ _ _ hr hTS2) (fun q => absurd rfl q)
theorem lc_16 {l : Launch} {b0 L : Nat} {xs : Nat → Int32} {nc ns n i : Nat} {Ps : Nat → zP} {c d k : zCart} {r tr kr : zRow} {rd : zRd} {lw kl ik : Int32} {rj : zRj} {s0 s1 s2 s3 : zSh} {fv : Nat → Int32} {ar : Nat → fI} {TS : List zTx} (hL : L ≤ 3584) (hi : i + 6 < L) (hnc : nc ≤ 600000) (hns : ns ≤ 7302250) (hR : Rel c k r kr rd lw kl ik s0 s1 s2 s3 fv ar n Ps) (hTS : TSok TS n Ps) (hK : KN l b0 L xs nc ns n i Ps) : VL l b0 L xs nc ns 742 (lv0 i) [] (lW c d k r tr kr rd n lw kl ik rj s0 s1 s2 s3 fv ar TS) := by
  refine V.gl 40 [747] ?_
  refine V.sld (i + 1) rfl hL (nadd rfl rfl) (by omega) ?_
  refine V.gl 40 [] ?_
  refine V.lcX (T7 := T7_swap) rfl lL_83 (c6_swap l) (by decide) (by decide) hnc hns [.int (xs (i + 1))] rfl rfl rfl rfl (fun _ _ => rfl) (pr_swap _) hR hTS (fun c2 d2 k2 r2 tr2 kr2 rd2 lw2 kl2 ik2 rj2 s02 s12 s22 s32 TS2 v hTS2 hv h7 => ?_)
  obtain ⟨w, rfl⟩ := vkd_int hv
  refine V.gl 40 [756] ?_
  refine V.sld (i + 1) rfl hL (nadd rfl rfl) (by omega) ?_
  refine V.gl 40 [] ?_
  refine V.lcM (lB_len (c := c2) (d := d2) (k := k2) (r := r2) (tr := tr2) (kr := kr2) (rd := rd2) (ft := 2 * 81) (tg := tgW 81 n) (tc := nI n) (lw := lw2) (kl := kl2) (ik := ik2) (ri := (303, 305, rj2)) (s0 := s02) (s1 := s12) (s2 := s22) (s3 := s32)) (C2 := lT 81 TS2) rfl lL_86 (c7_swap l) (by decide) (by decide) hnc hns [.int (xs (i + 1))] rfl rfl rfl [.int w] rfl rfl rfl h7 (fun fv2 ar2 hr => ?_)
  refine V.gl 40 [1635] ?_
  exact And.intro (fun _ => hK _ _ _ _ _ _ _ _ _ _ _ _ _ _ _ _ _ _ hr hTS2) (fun q => absurd rfl q)
theorem lc_17 {l : Launch} {b0 L : Nat} {xs : Nat → Int32} {nc ns n i : Nat} {Ps : Nat → zP} {c d k : zCart} {r tr kr : zRow} {rd : zRd} {lw kl ik : Int32} {rj : zRj} {s0 s1 s2 s3 : zSh} {fv : Nat → Int32} {ar : Nat → fI} {TS : List zTx} (hL : L ≤ 3584) (hi : i + 6 < L) (hnc : nc ≤ 600000) (hns : ns ≤ 7302250) (hR : Rel c k r kr rd lw kl ik s0 s1 s2 s3 fv ar n Ps) (hTS : TSok TS n Ps) (hK : KN l b0 L xs nc ns n i Ps) : VL l b0 L xs nc ns 765 (lv0 i) [] (lW c d k r tr kr rd n lw kl ik rj s0 s1 s2 s3 fv ar TS) := by
  refine V.gl 40 [770] ?_
  refine V.sld (i + 1) rfl hL (nadd rfl rfl) (by omega) ?_
  refine V.gl 40 [] ?_
  refine V.lcX (T7 := T7_lay) rfl lL_87 (c6_lay l) (by decide) (by decide) hnc hns [.int (xs (i + 1))] rfl rfl rfl rfl (fun _ _ => rfl) (pr_lay _) hR hTS (fun c2 d2 k2 r2 tr2 kr2 rd2 lw2 kl2 ik2 rj2 s02 s12 s22 s32 TS2 v hTS2 hv h7 => ?_)
  obtain ⟨w, rfl⟩ := vkd_long hv
  refine V.gl 40 [779] ?_
  refine V.sld (i + 1) rfl hL (nadd rfl rfl) (by omega) ?_
  refine V.gl 40 [] ?_
  refine V.lcM (lB_len (c := c2) (d := d2) (k := k2) (r := r2) (tr := tr2) (kr := kr2) (rd := rd2) (ft := 2 * 81) (tg := tgW 81 n) (tc := nI n) (lw := lw2) (kl := kl2) (ik := ik2) (ri := (303, 305, rj2)) (s0 := s02) (s1 := s12) (s2 := s22) (s3 := s32)) (C2 := lT 81 TS2) rfl lL_91 (c7_lay l) (by decide) (by decide) hnc hns [.int (xs (i + 1))] rfl rfl rfl [.long w] rfl rfl rfl h7 (fun fv2 ar2 hr => ?_)
  refine V.gl 40 [1635] ?_
  exact And.intro (fun _ => hK _ _ _ _ _ _ _ _ _ _ _ _ _ _ _ _ _ _ hr hTS2) (fun q => absurd (lg_self w) q)
theorem lc_18 {l : Launch} {b0 L : Nat} {xs : Nat → Int32} {nc ns n i : Nat} {Ps : Nat → zP} {c d k : zCart} {r tr kr : zRow} {rd : zRd} {lw kl ik : Int32} {rj : zRj} {s0 s1 s2 s3 : zSh} {fv : Nat → Int32} {ar : Nat → fI} {TS : List zTx} (hL : L ≤ 3584) (hi : i + 6 < L) (hnc : nc ≤ 600000) (hns : ns ≤ 7302250) (hR : Rel c k r kr rd lw kl ik s0 s1 s2 s3 fv ar n Ps) (hTS : TSok TS n Ps) (hK : KN l b0 L xs nc ns n i Ps) : VL l b0 L xs nc ns 789 (lv0 i) [] (lW c d k r tr kr rd n lw kl ik rj s0 s1 s2 s3 fv ar TS) := by
  refine V.gl 40 [] ?_
  refine V.lcX (T7 := T7_quick) rfl lL_92 (c6_quick l) (by decide) (by decide) hnc hns [] rfl rfl rfl rfl (fun _ _ => rfl) (pr_quick) hR hTS (fun c2 d2 k2 r2 tr2 kr2 rd2 lw2 kl2 ik2 rj2 s02 s12 s22 s32 TS2 v hTS2 hv h7 => ?_)
  obtain ⟨w, rfl⟩ := vkd_int hv
  refine V.gl 40 [] ?_
  refine V.lcM (lB_len (c := c2) (d := d2) (k := k2) (r := r2) (tr := tr2) (kr := kr2) (rd := rd2) (ft := 2 * 81) (tg := tgW 81 n) (tc := nI n) (lw := lw2) (kl := kl2) (ik := ik2) (ri := (303, 305, rj2)) (s0 := s02) (s1 := s12) (s2 := s22) (s3 := s32)) (C2 := lT 81 TS2) rfl lL_95 (c7_quick l) (by decide) (by decide) hnc hns [] rfl rfl rfl [.int w] rfl rfl rfl h7 (fun fv2 ar2 hr => ?_)
  refine V.gl 40 [1635] ?_
  exact And.intro (fun _ => hK _ _ _ _ _ _ _ _ _ _ _ _ _ _ _ _ _ _ hr hTS2) (fun q => absurd rfl q)
theorem lc_19 {l : Launch} {b0 L : Nat} {xs : Nat → Int32} {nc ns n i : Nat} {Ps : Nat → zP} {c d k : zCart} {r tr kr : zRow} {rd : zRd} {lw kl ik : Int32} {rj : zRj} {s0 s1 s2 s3 : zSh} {fv : Nat → Int32} {ar : Nat → fI} {TS : List zTx} (hL : L ≤ 3584) (hi : i + 6 < L) (hnc : nc ≤ 600000) (hns : ns ≤ 7302250) (hR : Rel c k r kr rd lw kl ik s0 s1 s2 s3 fv ar n Ps) (hTS : TSok TS n Ps) (hK : KN l b0 L xs nc ns n i Ps) : VL l b0 L xs nc ns 802 (lv0 i) [] (lW c d k r tr kr rd n lw kl ik rj s0 s1 s2 s3 fv ar TS) := by
  refine V.gl 40 [] ?_
  refine V.lcX (T7 := T7_flutters) rfl lL_96 (c6_flutters l) (by decide) (by decide) hnc hns [] rfl rfl rfl rfl (fun _ _ => rfl) (pr_flutters) hR hTS (fun c2 d2 k2 r2 tr2 kr2 rd2 lw2 kl2 ik2 rj2 s02 s12 s22 s32 TS2 v hTS2 hv h7 => ?_)
  obtain ⟨w, rfl⟩ := vkd_int hv
  refine V.gl 40 [] ?_
  refine V.lcM (lB_len (c := c2) (d := d2) (k := k2) (r := r2) (tr := tr2) (kr := kr2) (rd := rd2) (ft := 2 * 81) (tg := tgW 81 n) (tc := nI n) (lw := lw2) (kl := kl2) (ik := ik2) (ri := (303, 305, rj2)) (s0 := s02) (s1 := s12) (s2 := s22) (s3 := s32)) (C2 := lT 81 TS2) rfl lL_99 (c7_flutters l) (by decide) (by decide) hnc hns [] rfl rfl rfl [.int w] rfl rfl rfl h7 (fun fv2 ar2 hr => ?_)
  refine V.gl 40 [1635] ?_
  exact And.intro (fun _ => hK _ _ _ _ _ _ _ _ _ _ _ _ _ _ _ _ _ _ hr hTS2) (fun q => absurd rfl q)
theorem lc_20 {l : Launch} {b0 L : Nat} {xs : Nat → Int32} {nc ns n i : Nat} {Ps : Nat → zP} {c d k : zCart} {r tr kr : zRow} {rd : zRd} {lw kl ik : Int32} {rj : zRj} {s0 s1 s2 s3 : zSh} {fv : Nat → Int32} {ar : Nat → fI} {TS : List zTx} (hL : L ≤ 3584) (hi : i + 6 < L) (hnc : nc ≤ 600000) (hns : ns ≤ 7302250) (hR : Rel c k r kr rd lw kl ik s0 s1 s2 s3 fv ar n Ps) (hTS : TSok TS n Ps) (hK : KN l b0 L xs nc ns n i Ps) : VL l b0 L xs nc ns 815 (lv0 i) [] (lW c d k r tr kr rd n lw kl ik rj s0 s1 s2 s3 fv ar TS) := by
  refine V.gl 40 [820] ?_
  refine V.sld (i + 1) rfl hL (nadd rfl rfl) (by omega) ?_
  refine V.gl 40 [] ?_
  refine V.lcX (T7 := T7_mend) rfl lL_100 (ct_mend l) (by decide) (by decide) hnc hns [.int (xs (i + 1))] rfl rfl rfl rfl (fun _ _ => rfl) (pr_mend _) hR hTS (fun c2 d2 k2 r2 tr2 kr2 rd2 lw2 kl2 ik2 rj2 s02 s12 s22 s32 TS2 v hTS2 hv h7 => ?_)
  obtain ⟨w, rfl⟩ := vkd_int hv
  refine V.gl 40 [829] ?_
  refine V.sld (i + 1) rfl hL (nadd rfl rfl) (by omega) ?_
  refine V.gl 40 [] ?_
  refine V.lcM (lB_len (c := c2) (d := d2) (k := k2) (r := r2) (tr := tr2) (kr := kr2) (rd := rd2) (ft := 2 * 81) (tg := tgW 81 n) (tc := nI n) (lw := lw2) (kl := kl2) (ik := ik2) (ri := (303, 305, rj2)) (s0 := s02) (s1 := s12) (s2 := s22) (s3 := s32)) (C2 := lT 81 TS2) rfl lL_103 (c7_mend l) (by decide) (by decide) hnc hns [.int (xs (i + 1))] rfl rfl rfl [.int w] rfl rfl rfl h7 (fun fv2 ar2 hr => ?_)
  refine V.gl 40 [1635] ?_
  exact And.intro (fun _ => hK _ _ _ _ _ _ _ _ _ _ _ _ _ _ _ _ _ _ hr hTS2) (fun q => absurd rfl q)
theorem lc_21 {l : Launch} {b0 L : Nat} {xs : Nat → Int32} {nc ns n i : Nat} {Ps : Nat → zP} {c d k : zCart} {r tr kr : zRow} {rd : zRd} {lw kl ik : Int32} {rj : zRj} {s0 s1 s2 s3 : zSh} {fv : Nat → Int32} {ar : Nat → fI} {TS : List zTx} (hL : L ≤ 3584) (hi : i + 6 < L) (hnc : nc ≤ 600000) (hns : ns ≤ 7302250) (hR : Rel c k r kr rd lw kl ik s0 s1 s2 s3 fv ar n Ps) (hTS : TSok TS n Ps) (hK : KN l b0 L xs nc ns n i Ps) : VL l b0 L xs nc ns 838 (lv0 i) [] (lW c d k r tr kr rd n lw kl ik rj s0 s1 s2 s3 fv ar TS) := by
  refine V.gl 40 [843] ?_
  refine V.sld (i + 1) rfl hL (nadd rfl rfl) (by omega) ?_
  refine V.gl 40 [] ?_
  refine V.lcX (T7 := T7_change) rfl lL_104 (c6_change l) (by decide) (by decide) hnc hns [.int (xs (i + 1))] rfl rfl rfl rfl (fun _ _ => rfl) (pr_change _) hR hTS (fun c2 d2 k2 r2 tr2 kr2 rd2 lw2 kl2 ik2 rj2 s02 s12 s22 s32 TS2 v hTS2 hv h7 => ?_)
  obtain ⟨w, rfl⟩ := vkd_int hv
  refine V.gl 40 [852] ?_
  refine V.sld (i + 1) rfl hL (nadd rfl rfl) (by omega) ?_
  refine V.gl 40 [] ?_
  refine V.lcM (lB_len (c := c2) (d := d2) (k := k2) (r := r2) (tr := tr2) (kr := kr2) (rd := rd2) (ft := 2 * 81) (tg := tgW 81 n) (tc := nI n) (lw := lw2) (kl := kl2) (ik := ik2) (ri := (303, 305, rj2)) (s0 := s02) (s1 := s12) (s2 := s22) (s3 := s32)) (C2 := lT 81 TS2) rfl lL_107 (c7_change l) (by decide) (by decide) hnc hns [.int (xs (i + 1))] rfl rfl rfl [.int w] rfl rfl rfl h7 (fun fv2 ar2 hr => ?_)
  refine V.gl 40 [1635] ?_
  exact And.intro (fun _ => hK _ _ _ _ _ _ _ _ _ _ _ _ _ _ _ _ _ _ hr hTS2) (fun q => absurd rfl q)
theorem lc_22 {l : Launch} {b0 L : Nat} {xs : Nat → Int32} {nc ns n i : Nat} {Ps : Nat → zP} {c d k : zCart} {r tr kr : zRow} {rd : zRd} {lw kl ik : Int32} {rj : zRj} {s0 s1 s2 s3 : zSh} {fv : Nat → Int32} {ar : Nat → fI} {TS : List zTx} (hL : L ≤ 3584) (hi : i + 6 < L) (hnc : nc ≤ 600000) (hns : ns ≤ 7302250) (hR : Rel c k r kr rd lw kl ik s0 s1 s2 s3 fv ar n Ps) (hTS : TSok TS n Ps) (hK : KN l b0 L xs nc ns n i Ps) : VL l b0 L xs nc ns 861 (lv0 i) [] (lW c d k r tr kr rd n lw kl ik rj s0 s1 s2 s3 fv ar TS) := by
  refine V.gl 40 [] ?_
  refine V.lcX (T7 := T7_turned) rfl lL_108 (ct_turned l) (by decide) (by decide) hnc hns [] rfl rfl rfl rfl (fun _ _ => rfl) (pr_turned) hR hTS (fun c2 d2 k2 r2 tr2 kr2 rd2 lw2 kl2 ik2 rj2 s02 s12 s22 s32 TS2 v hTS2 hv h7 => ?_)
  obtain ⟨w, rfl⟩ := vkd_int hv
  refine V.gl 40 [] ?_
  refine V.lcM (lB_len (c := c2) (d := d2) (k := k2) (r := r2) (tr := tr2) (kr := kr2) (rd := rd2) (ft := 2 * 81) (tg := tgW 81 n) (tc := nI n) (lw := lw2) (kl := kl2) (ik := ik2) (ri := (303, 305, rj2)) (s0 := s02) (s1 := s12) (s2 := s22) (s3 := s32)) (C2 := lT 81 TS2) rfl lL_111 (c7_turned l) (by decide) (by decide) hnc hns [] rfl rfl rfl [.int w] rfl rfl rfl h7 (fun fv2 ar2 hr => ?_)
  refine V.gl 40 [1635] ?_
  exact And.intro (fun _ => hK _ _ _ _ _ _ _ _ _ _ _ _ _ _ _ _ _ _ hr hTS2) (fun q => absurd rfl q)
