/-! ===== the law: more cases ===== -/
theorem lc_23 {l : Launch} {b0 L : Nat} {xs : Nat → Int32} {nc ns n i : Nat} {Ps : Nat → zP} {c d k : zCart} {r tr kr : zRow} {rd : zRd} {lw kl ik : Int32} {rj : zRj} {s0 s1 s2 s3 : zSh} {fv : Nat → Int32} {ar : Nat → fI} {TS : List zTx} (hL : L ≤ 3584) (hi : i + 6 < L) (hnc : nc ≤ 600000) (hns : ns ≤ 7302250) (hR : Rel c k r kr rd lw kl ik s0 s1 s2 s3 fv ar n Ps) (hTS : TSok TS n Ps) (hK : KN l b0 L xs nc ns n i Ps) : VL l b0 L xs nc ns 874 (lv0 i) [] (lW c d k r tr kr rd n lw kl ik rj s0 s1 s2 s3 fv ar TS) := by
  refine V.gl 40 [879] ?_
  refine V.sld (i + 1) rfl hL (nadd rfl rfl) (by omega) ?_
  refine V.gl 40 [] ?_
  refine V.lcX (T7 := T7_judge) rfl lL_112 (c6_judge l) (by decide) (by decide) hnc hns [.int (xs (i + 1))] rfl rfl rfl rfl (fun _ _ => rfl) (pr_judge _) hR hTS (fun c2 d2 k2 r2 tr2 kr2 rd2 lw2 kl2 ik2 rj2 s02 s12 s22 s32 TS2 v hTS2 hv h7 => ?_)
  obtain ⟨w, rfl⟩ := vkd_int hv
  refine V.gl 40 [888] ?_
  refine V.sld (i + 1) rfl hL (nadd rfl rfl) (by omega) ?_
  refine V.gl 40 [] ?_
  refine V.lcM (lB_len (c := c2) (d := d2) (k := k2) (r := r2) (tr := tr2) (kr := kr2) (rd := rd2) (ft := 2 * 81) (tg := tgW 81 n) (tc := nI n) (lw := lw2) (kl := kl2) (ik := ik2) (ri := (303, 305, rj2)) (s0 := s02) (s1 := s12) (s2 := s22) (s3 := s32)) (C2 := lT 81 TS2) rfl lL_115 (c7_judge l) (by decide) (by decide) hnc hns [.int (xs (i + 1))] rfl rfl rfl [.int w] rfl rfl rfl h7 (fun fv2 ar2 hr => ?_)
  refine V.gl 40 [1635] ?_
  exact And.intro (fun _ => hK _ _ _ _ _ _ _ _ _ _ _ _ _ _ _ _ _ _ hr hTS2) (fun q => absurd rfl q)
theorem lc_24 {l : Launch} {b0 L : Nat} {xs : Nat → Int32} {nc ns n i : Nat} {Ps : Nat → zP} {c d k : zCart} {r tr kr : zRow} {rd : zRd} {lw kl ik : Int32} {rj : zRj} {s0 s1 s2 s3 : zSh} {fv : Nat → Int32} {ar : Nat → fI} {TS : List zTx} (hL : L ≤ 3584) (hi : i + 6 < L) (hnc : nc ≤ 600000) (hns : ns ≤ 7302250) (hR : Rel c k r kr rd lw kl ik s0 s1 s2 s3 fv ar n Ps) (hTS : TSok TS n Ps) (hK : KN l b0 L xs nc ns n i Ps) : VL l b0 L xs nc ns 897 (lv0 i) [] (lW c d k r tr kr rd n lw kl ik rj s0 s1 s2 s3 fv ar TS) := by
  refine V.gl 40 [902] ?_
  refine V.sld (i + 1) rfl hL (nadd rfl rfl) (by omega) ?_
  refine V.gl 40 [907] ?_
  refine V.sld (i + 2) rfl hL (nadd rfl rfl) (by omega) ?_
  refine V.gl 40 [912] ?_
  refine V.sld (i + 3) rfl hL (nadd rfl rfl) (by omega) ?_
  refine V.gl 40 [] ?_
  refine V.lcX (T7 := T7_kinds) rfl lL_116 (c6_kinds l) (by decide) (by decide) hnc hns [.int (xs (i + 1)), .int (xs (i + 2)), .int (xs (i + 3))] rfl rfl rfl rfl (fun _ _ => rfl) (pr_kinds _ _ _) hR hTS (fun c2 d2 k2 r2 tr2 kr2 rd2 lw2 kl2 ik2 rj2 s02 s12 s22 s32 TS2 v hTS2 hv h7 => ?_)
  obtain ⟨w, rfl⟩ := vkd_int hv
  refine V.gl 40 [921] ?_
  refine V.sld (i + 1) rfl hL (nadd rfl rfl) (by omega) ?_
  refine V.gl 40 [926] ?_
  refine V.sld (i + 2) rfl hL (nadd rfl rfl) (by omega) ?_
  refine V.gl 40 [931] ?_
  refine V.sld (i + 3) rfl hL (nadd rfl rfl) (by omega) ?_
  refine V.gl 40 [] ?_
  refine V.lcM (lB_len (c := c2) (d := d2) (k := k2) (r := r2) (tr := tr2) (kr := kr2) (rd := rd2) (ft := 2 * 81) (tg := tgW 81 n) (tc := nI n) (lw := lw2) (kl := kl2) (ik := ik2) (ri := (303, 305, rj2)) (s0 := s02) (s1 := s12) (s2 := s22) (s3 := s32)) (C2 := lT 81 TS2) rfl lL_119 (c7_kinds l) (by decide) (by decide) hnc hns [.int (xs (i + 1)), .int (xs (i + 2)), .int (xs (i + 3))] rfl rfl rfl [.int w] rfl rfl rfl h7 (fun fv2 ar2 hr => ?_)
  refine V.gl 40 [1635] ?_
  exact And.intro (fun _ => hK _ _ _ _ _ _ _ _ _ _ _ _ _ _ _ _ _ _ hr hTS2) (fun q => absurd rfl q)
theorem lc_25 {l : Launch} {b0 L : Nat} {xs : Nat → Int32} {nc ns n i : Nat} {Ps : Nat → zP} {c d k : zCart} {r tr kr : zRow} {rd : zRd} {lw kl ik : Int32} {rj : zRj} {s0 s1 s2 s3 : zSh} {fv : Nat → Int32} {ar : Nat → fI} {TS : List zTx} (hL : L ≤ 3584) (hi : i + 6 < L) (hnc : nc ≤ 600000) (hns : ns ≤ 7302250) (hR : Rel c k r kr rd lw kl ik s0 s1 s2 s3 fv ar n Ps) (hTS : TSok TS n Ps) (hK : KN l b0 L xs nc ns n i Ps) : VL l b0 L xs nc ns 940 (lv0 i) [] (lW c d k r tr kr rd n lw kl ik rj s0 s1 s2 s3 fv ar TS) := by
  refine V.gl 40 [945] ?_
  refine V.sld (i + 1) rfl hL (nadd rfl rfl) (by omega) ?_
  refine V.gl 40 [] ?_
  refine V.lcX (T7 := T7_which) rfl lL_120 (c6_which l) (by decide) (by decide) hnc hns [.int (xs (i + 1))] rfl rfl rfl rfl (fun _ _ => rfl) (pr_which _) hR hTS (fun c2 d2 k2 r2 tr2 kr2 rd2 lw2 kl2 ik2 rj2 s02 s12 s22 s32 TS2 v hTS2 hv h7 => ?_)
  obtain ⟨w, rfl⟩ := vkd_int hv
  refine V.gl 40 [954] ?_
  refine V.sld (i + 1) rfl hL (nadd rfl rfl) (by omega) ?_
  refine V.gl 40 [] ?_
  refine V.lcM (lB_len (c := c2) (d := d2) (k := k2) (r := r2) (tr := tr2) (kr := kr2) (rd := rd2) (ft := 2 * 81) (tg := tgW 81 n) (tc := nI n) (lw := lw2) (kl := kl2) (ik := ik2) (ri := (303, 305, rj2)) (s0 := s02) (s1 := s12) (s2 := s22) (s3 := s32)) (C2 := lT 81 TS2) rfl lL_123 (c7_which l) (by decide) (by decide) hnc hns [.int (xs (i + 1))] rfl rfl rfl [.int w] rfl rfl rfl h7 (fun fv2 ar2 hr => ?_)
  refine V.gl 40 [1635] ?_
  exact And.intro (fun _ => hK _ _ _ _ _ _ _ _ _ _ _ _ _ _ _ _ _ _ hr hTS2) (fun q => absurd rfl q)
theorem lc_26 {l : Launch} {b0 L : Nat} {xs : Nat → Int32} {nc ns n i : Nat} {Ps : Nat → zP} {c d k : zCart} {r tr kr : zRow} {rd : zRd} {lw kl ik : Int32} {rj : zRj} {s0 s1 s2 s3 : zSh} {fv : Nat → Int32} {ar : Nat → fI} {TS : List zTx} (hL : L ≤ 3584) (hi : i + 6 < L) (hnc : nc ≤ 600000) (hns : ns ≤ 7302250) (hR : Rel c k r kr rd lw kl ik s0 s1 s2 s3 fv ar n Ps) (hTS : TSok TS n Ps) (hK : KN l b0 L xs nc ns n i Ps) : VL l b0 L xs nc ns 963 (lv0 i) [] (lW c d k r tr kr rd n lw kl ik rj s0 s1 s2 s3 fv ar TS) := by
  refine V.gl 40 [968] ?_
  refine V.sld (i + 1) rfl hL (nadd rfl rfl) (by omega) ?_
  refine V.gl 40 [973] ?_
  refine V.sld (i + 2) rfl hL (nadd rfl rfl) (by omega) ?_
  refine V.gl 40 [] ?_
  refine V.lcX (T7 := T7_held) rfl lL_124 (c6_held l) (by decide) (by decide) hnc hns [.int (xs (i + 1)), .int (xs (i + 2))] rfl rfl rfl rfl (fun _ _ => rfl) (pr_held _ _) hR hTS (fun c2 d2 k2 r2 tr2 kr2 rd2 lw2 kl2 ik2 rj2 s02 s12 s22 s32 TS2 v hTS2 hv h7 => ?_)
  obtain ⟨w, rfl⟩ := vkd_int hv
  refine V.gl 40 [982] ?_
  refine V.sld (i + 1) rfl hL (nadd rfl rfl) (by omega) ?_
  refine V.gl 40 [987] ?_
  refine V.sld (i + 2) rfl hL (nadd rfl rfl) (by omega) ?_
  refine V.gl 40 [] ?_
  refine V.lcM (lB_len (c := c2) (d := d2) (k := k2) (r := r2) (tr := tr2) (kr := kr2) (rd := rd2) (ft := 2 * 81) (tg := tgW 81 n) (tc := nI n) (lw := lw2) (kl := kl2) (ik := ik2) (ri := (303, 305, rj2)) (s0 := s02) (s1 := s12) (s2 := s22) (s3 := s32)) (C2 := lT 81 TS2) rfl lL_127 (c7_held l) (by decide) (by decide) hnc hns [.int (xs (i + 1)), .int (xs (i + 2))] rfl rfl rfl [.int w] rfl rfl rfl h7 (fun fv2 ar2 hr => ?_)
  refine V.gl 40 [1635] ?_
  exact And.intro (fun _ => hK _ _ _ _ _ _ _ _ _ _ _ _ _ _ _ _ _ _ hr hTS2) (fun q => absurd rfl q)
theorem lc_28 {l : Launch} {b0 L : Nat} {xs : Nat → Int32} {nc ns n i : Nat} {Ps : Nat → zP} {c d k : zCart} {r tr kr : zRow} {rd : zRd} {lw kl ik : Int32} {rj : zRj} {s0 s1 s2 s3 : zSh} {fv : Nat → Int32} {ar : Nat → fI} {TS : List zTx} (hL : L ≤ 3584) (hi : i + 6 < L) (hnc : nc ≤ 600000) (hns : ns ≤ 7302250) (hR : Rel c k r kr rd lw kl ik s0 s1 s2 s3 fv ar n Ps) (hTS : TSok TS n Ps) (hK : KN l b0 L xs nc ns n i Ps) : VL l b0 L xs nc ns 1019 (lv0 i) [] (lW c d k r tr kr rd n lw kl ik rj s0 s1 s2 s3 fv ar TS) := by
  refine V.gl 40 [1024] ?_
  refine V.sld (i + 1) rfl hL (nadd rfl rfl) (by omega) ?_
  refine V.gl 40 [1029] ?_
  refine V.sld (i + 2) rfl hL (nadd rfl rfl) (by omega) ?_
  refine V.gl 40 [] ?_
  refine V.lcX (T7 := T7_film) rfl lL_132 (c6_film l) (by decide) (by decide) hnc hns [.int (xs (i + 1)), .int (xs (i + 2))] rfl rfl rfl rfl (fun _ _ => rfl) (pr_film _ _) hR hTS (fun c2 d2 k2 r2 tr2 kr2 rd2 lw2 kl2 ik2 rj2 s02 s12 s22 s32 TS2 v hTS2 hv h7 => ?_)
  obtain ⟨w, rfl⟩ := vkd_int hv
  refine V.gl 40 [1038] ?_
  refine V.sld (i + 1) rfl hL (nadd rfl rfl) (by omega) ?_
  refine V.gl 40 [1043] ?_
  refine V.sld (i + 2) rfl hL (nadd rfl rfl) (by omega) ?_
  refine V.gl 40 [] ?_
  refine V.lcM (lB_len (c := c2) (d := d2) (k := k2) (r := r2) (tr := tr2) (kr := kr2) (rd := rd2) (ft := 2 * 81) (tg := tgW 81 n) (tc := nI n) (lw := lw2) (kl := kl2) (ik := ik2) (ri := (303, 305, rj2)) (s0 := s02) (s1 := s12) (s2 := s22) (s3 := s32)) (C2 := lT 81 TS2) rfl lL_135 (c7_film l) (by decide) (by decide) hnc hns [.int (xs (i + 1)), .int (xs (i + 2))] rfl rfl rfl [.int w] rfl rfl rfl h7 (fun fv2 ar2 hr => ?_)
  refine V.gl 40 [1635] ?_
  exact And.intro (fun _ => hK _ _ _ _ _ _ _ _ _ _ _ _ _ _ _ _ _ _ hr hTS2) (fun q => absurd rfl q)
theorem lc_29 {l : Launch} {b0 L : Nat} {xs : Nat → Int32} {nc ns n i : Nat} {Ps : Nat → zP} {c d k : zCart} {r tr kr : zRow} {rd : zRd} {lw kl ik : Int32} {rj : zRj} {s0 s1 s2 s3 : zSh} {fv : Nat → Int32} {ar : Nat → fI} {TS : List zTx} (hL : L ≤ 3584) (hi : i + 6 < L) (hnc : nc ≤ 600000) (hns : ns ≤ 7302250) (hR : Rel c k r kr rd lw kl ik s0 s1 s2 s3 fv ar n Ps) (hTS : TSok TS n Ps) (hK : KN l b0 L xs nc ns n i Ps) : VL l b0 L xs nc ns 1052 (lv0 i) [] (lW c d k r tr kr rd n lw kl ik rj s0 s1 s2 s3 fv ar TS) := by
  refine V.gl 40 [1057] ?_
  refine V.sld (i + 1) rfl hL (nadd rfl rfl) (by omega) ?_
  refine V.gl 40 [] ?_
  refine V.lcX (T7 := T7_come) rfl lL_136 (ct_come l) (by decide) (by decide) hnc hns [.int (xs (i + 1))] rfl rfl rfl rfl (fun _ _ => rfl) (pr_come _) hR hTS (fun c2 d2 k2 r2 tr2 kr2 rd2 lw2 kl2 ik2 rj2 s02 s12 s22 s32 TS2 v hTS2 hv h7 => ?_)
  obtain ⟨w, rfl⟩ := vkd_int hv
  refine V.gl 40 [1066] ?_
  refine V.sld (i + 1) rfl hL (nadd rfl rfl) (by omega) ?_
  refine V.gl 40 [] ?_
  refine V.lcM (lB_len (c := c2) (d := d2) (k := k2) (r := r2) (tr := tr2) (kr := kr2) (rd := rd2) (ft := 2 * 81) (tg := tgW 81 n) (tc := nI n) (lw := lw2) (kl := kl2) (ik := ik2) (ri := (303, 305, rj2)) (s0 := s02) (s1 := s12) (s2 := s22) (s3 := s32)) (C2 := lT 81 TS2) rfl lL_139 (c7_come l) (by decide) (by decide) hnc hns [.int (xs (i + 1))] rfl rfl rfl [.int w] rfl rfl rfl h7 (fun fv2 ar2 hr => ?_)
  refine V.gl 40 [1635] ?_
  exact And.intro (fun _ => hK _ _ _ _ _ _ _ _ _ _ _ _ _ _ _ _ _ _ hr hTS2) (fun q => absurd rfl q)
theorem lc_30 {l : Launch} {b0 L : Nat} {xs : Nat → Int32} {nc ns n i : Nat} {Ps : Nat → zP} {c d k : zCart} {r tr kr : zRow} {rd : zRd} {lw kl ik : Int32} {rj : zRj} {s0 s1 s2 s3 : zSh} {fv : Nat → Int32} {ar : Nat → fI} {TS : List zTx} (hL : L ≤ 3584) (hi : i + 6 < L) (hnc : nc ≤ 600000) (hns : ns ≤ 7302250) (hR : Rel c k r kr rd lw kl ik s0 s1 s2 s3 fv ar n Ps) (hTS : TSok TS n Ps) (hK : KN l b0 L xs nc ns n i Ps) : VL l b0 L xs nc ns 1075 (lv0 i) [] (lW c d k r tr kr rd n lw kl ik rj s0 s1 s2 s3 fv ar TS) := by
  refine V.gl 40 [1080] ?_
  refine V.sld (i + 1) rfl hL (nadd rfl rfl) (by omega) ?_
  refine V.gl 40 [1085] ?_
  refine V.sld (i + 2) rfl hL (nadd rfl rfl) (by omega) ?_
  refine V.gl 40 [1090] ?_
  refine V.sld (i + 3) rfl hL (nadd rfl rfl) (by omega) ?_
  refine V.gl 40 [] ?_
  refine V.lcX (T7 := T7_rule) rfl lL_140 (c6_rule l) (by decide) (by decide) hnc hns [.int (xs (i + 1)), .int (xs (i + 2)), .int (xs (i + 3))] rfl rfl rfl rfl (fun _ _ => rfl) (pr_rule _ _ _) hR hTS (fun c2 d2 k2 r2 tr2 kr2 rd2 lw2 kl2 ik2 rj2 s02 s12 s22 s32 TS2 v hTS2 hv h7 => ?_)
  obtain ⟨w, rfl⟩ := vkd_int hv
  refine V.gl 40 [1099] ?_
  refine V.sld (i + 1) rfl hL (nadd rfl rfl) (by omega) ?_
  refine V.gl 40 [1104] ?_
  refine V.sld (i + 2) rfl hL (nadd rfl rfl) (by omega) ?_
  refine V.gl 40 [1109] ?_
  refine V.sld (i + 3) rfl hL (nadd rfl rfl) (by omega) ?_
  refine V.gl 40 [] ?_
  refine V.lcM (lB_len (c := c2) (d := d2) (k := k2) (r := r2) (tr := tr2) (kr := kr2) (rd := rd2) (ft := 2 * 81) (tg := tgW 81 n) (tc := nI n) (lw := lw2) (kl := kl2) (ik := ik2) (ri := (303, 305, rj2)) (s0 := s02) (s1 := s12) (s2 := s22) (s3 := s32)) (C2 := lT 81 TS2) rfl lL_143 (c7_rule l) (by decide) (by decide) hnc hns [.int (xs (i + 1)), .int (xs (i + 2)), .int (xs (i + 3))] rfl rfl rfl [.int w] rfl rfl rfl h7 (fun fv2 ar2 hr => ?_)
  refine V.gl 40 [1635] ?_
  exact And.intro (fun _ => hK _ _ _ _ _ _ _ _ _ _ _ _ _ _ _ _ _ _ hr hTS2) (fun q => absurd rfl q)
theorem lc_31 {l : Launch} {b0 L : Nat} {xs : Nat → Int32} {nc ns n i : Nat} {Ps : Nat → zP} {c d k : zCart} {r tr kr : zRow} {rd : zRd} {lw kl ik : Int32} {rj : zRj} {s0 s1 s2 s3 : zSh} {fv : Nat → Int32} {ar : Nat → fI} {TS : List zTx} (hL : L ≤ 3584) (hi : i + 6 < L) (hnc : nc ≤ 600000) (hns : ns ≤ 7302250) (hR : Rel c k r kr rd lw kl ik s0 s1 s2 s3 fv ar n Ps) (hTS : TSok TS n Ps) (hK : KN l b0 L xs nc ns n i Ps) : VL l b0 L xs nc ns 1118 (lv0 i) [] (lW c d k r tr kr rd n lw kl ik rj s0 s1 s2 s3 fv ar TS) := by
  refine V.gl 40 [1123] ?_
  refine V.sld (i + 1) rfl hL (nadd rfl rfl) (by omega) ?_
  refine V.gl 40 [1128] ?_
  refine V.sld (i + 2) rfl hL (nadd rfl rfl) (by omega) ?_
  refine V.gl 40 [] ?_
  refine V.lcX (T7 := T7_meets) rfl lL_144 (ct_meets l) (by decide) (by decide) hnc hns [.int (xs (i + 1)), .int (xs (i + 2))] rfl rfl rfl rfl (fun _ _ => rfl) (pr_meets _ _) hR hTS (fun c2 d2 k2 r2 tr2 kr2 rd2 lw2 kl2 ik2 rj2 s02 s12 s22 s32 TS2 v hTS2 hv h7 => ?_)
  obtain ⟨w, rfl⟩ := vkd_int hv
  refine V.gl 40 [1137] ?_
  refine V.sld (i + 1) rfl hL (nadd rfl rfl) (by omega) ?_
  refine V.gl 40 [1142] ?_
  refine V.sld (i + 2) rfl hL (nadd rfl rfl) (by omega) ?_
  refine V.gl 40 [] ?_
  refine V.lcM (lB_len (c := c2) (d := d2) (k := k2) (r := r2) (tr := tr2) (kr := kr2) (rd := rd2) (ft := 2 * 81) (tg := tgW 81 n) (tc := nI n) (lw := lw2) (kl := kl2) (ik := ik2) (ri := (303, 305, rj2)) (s0 := s02) (s1 := s12) (s2 := s22) (s3 := s32)) (C2 := lT 81 TS2) rfl lL_147 (c7_meets l) (by decide) (by decide) hnc hns [.int (xs (i + 1)), .int (xs (i + 2))] rfl rfl rfl [.int w] rfl rfl rfl h7 (fun fv2 ar2 hr => ?_)
  refine V.gl 40 [1635] ?_
  exact And.intro (fun _ => hK _ _ _ _ _ _ _ _ _ _ _ _ _ _ _ _ _ _ hr hTS2) (fun q => absurd rfl q)
theorem lc_32 {l : Launch} {b0 L : Nat} {xs : Nat → Int32} {nc ns n i : Nat} {Ps : Nat → zP} {c d k : zCart} {r tr kr : zRow} {rd : zRd} {lw kl ik : Int32} {rj : zRj} {s0 s1 s2 s3 : zSh} {fv : Nat → Int32} {ar : Nat → fI} {TS : List zTx} (hL : L ≤ 3584) (hi : i + 6 < L) (hnc : nc ≤ 600000) (hns : ns ≤ 7302250) (hR : Rel c k r kr rd lw kl ik s0 s1 s2 s3 fv ar n Ps) (hTS : TSok TS n Ps) (hK : KN l b0 L xs nc ns n i Ps) : VL l b0 L xs nc ns 1151 (lv0 i) [] (lW c d k r tr kr rd n lw kl ik rj s0 s1 s2 s3 fv ar TS) := by
  refine V.gl 40 [1156] ?_
  refine V.sld (i + 1) rfl hL (nadd rfl rfl) (by omega) ?_
  refine V.gl 40 [] ?_
  refine V.lcX (T7 := T7_day) rfl lL_148 (ct_day l) (by decide) (by decide) hnc hns [.int (xs (i + 1))] rfl rfl rfl rfl (fun _ _ => rfl) (pr_day _) hR hTS (fun c2 d2 k2 r2 tr2 kr2 rd2 lw2 kl2 ik2 rj2 s02 s12 s22 s32 TS2 v hTS2 hv h7 => ?_)
  obtain ⟨w, rfl⟩ := vkd_int hv
  refine V.gl 40 [1165] ?_
  refine V.sld (i + 1) rfl hL (nadd rfl rfl) (by omega) ?_
  refine V.gl 40 [] ?_
  refine V.lcM (lB_len (c := c2) (d := d2) (k := k2) (r := r2) (tr := tr2) (kr := kr2) (rd := rd2) (ft := 2 * 81) (tg := tgW 81 n) (tc := nI n) (lw := lw2) (kl := kl2) (ik := ik2) (ri := (303, 305, rj2)) (s0 := s02) (s1 := s12) (s2 := s22) (s3 := s32)) (C2 := lT 81 TS2) rfl lL_151 (c7_day l) (by decide) (by decide) hnc hns [.int (xs (i + 1))] rfl rfl rfl [.int w] rfl rfl rfl h7 (fun fv2 ar2 hr => ?_)
  refine V.gl 40 [1635] ?_
  exact And.intro (fun _ => hK _ _ _ _ _ _ _ _ _ _ _ _ _ _ _ _ _ _ hr hTS2) (fun q => absurd rfl q)
theorem lc_33 {l : Launch} {b0 L : Nat} {xs : Nat → Int32} {nc ns n i : Nat} {Ps : Nat → zP} {c d k : zCart} {r tr kr : zRow} {rd : zRd} {lw kl ik : Int32} {rj : zRj} {s0 s1 s2 s3 : zSh} {fv : Nat → Int32} {ar : Nat → fI} {TS : List zTx} (hL : L ≤ 3584) (hi : i + 6 < L) (hnc : nc ≤ 600000) (hns : ns ≤ 7302250) (hR : Rel c k r kr rd lw kl ik s0 s1 s2 s3 fv ar n Ps) (hTS : TSok TS n Ps) (hK : KN l b0 L xs nc ns n i Ps) : VL l b0 L xs nc ns 1174 (lv0 i) [] (lW c d k r tr kr rd n lw kl ik rj s0 s1 s2 s3 fv ar TS) := by
  refine V.gl 40 [1179] ?_
  refine V.sld (i + 1) rfl hL (nadd rfl rfl) (by omega) ?_
  refine V.gl 40 [] ?_
  refine V.lcX (T7 := T7_stands) rfl lL_152 (ct_stands l) (by decide) (by decide) hnc hns [.int (xs (i + 1))] rfl rfl rfl rfl (fun _ _ => rfl) (pr_stands _) hR hTS (fun c2 d2 k2 r2 tr2 kr2 rd2 lw2 kl2 ik2 rj2 s02 s12 s22 s32 TS2 v hTS2 hv h7 => ?_)
  obtain ⟨w, rfl⟩ := vkd_int hv
  refine V.gl 40 [1188] ?_
  refine V.sld (i + 1) rfl hL (nadd rfl rfl) (by omega) ?_
  refine V.gl 40 [] ?_
  refine V.lcM (lB_len (c := c2) (d := d2) (k := k2) (r := r2) (tr := tr2) (kr := kr2) (rd := rd2) (ft := 2 * 81) (tg := tgW 81 n) (tc := nI n) (lw := lw2) (kl := kl2) (ik := ik2) (ri := (303, 305, rj2)) (s0 := s02) (s1 := s12) (s2 := s22) (s3 := s32)) (C2 := lT 81 TS2) rfl lL_155 (c7_stands l) (by decide) (by decide) hnc hns [.int (xs (i + 1))] rfl rfl rfl [.int w] rfl rfl rfl h7 (fun fv2 ar2 hr => ?_)
  refine V.gl 40 [1635] ?_
  exact And.intro (fun _ => hK _ _ _ _ _ _ _ _ _ _ _ _ _ _ _ _ _ _ hr hTS2) (fun q => absurd rfl q)
theorem lc_34 {l : Launch} {b0 L : Nat} {xs : Nat → Int32} {nc ns n i : Nat} {Ps : Nat → zP} {c d k : zCart} {r tr kr : zRow} {rd : zRd} {lw kl ik : Int32} {rj : zRj} {s0 s1 s2 s3 : zSh} {fv : Nat → Int32} {ar : Nat → fI} {TS : List zTx} (hL : L ≤ 3584) (hi : i + 6 < L) (hnc : nc ≤ 600000) (hns : ns ≤ 7302250) (hR : Rel c k r kr rd lw kl ik s0 s1 s2 s3 fv ar n Ps) (hTS : TSok TS n Ps) (hK : KN l b0 L xs nc ns n i Ps) : VL l b0 L xs nc ns 1197 (lv0 i) [] (lW c d k r tr kr rd n lw kl ik rj s0 s1 s2 s3 fv ar TS) := by
  refine V.gl 40 [1202] ?_
  refine V.sld (i + 1) rfl hL (nadd rfl rfl) (by omega) ?_
  refine V.gl 40 [1207] ?_
  refine V.sld (i + 2) rfl hL (nadd rfl rfl) (by omega) ?_
  refine V.gl 40 [] ?_
  refine V.lcX (T7 := T7_share) rfl lL_156 (c6_share l) (by decide) (by decide) hnc hns [.int (xs (i + 1)), .int (xs (i + 2))] rfl rfl rfl rfl (fun _ _ => rfl) (pr_share _ _) hR hTS (fun c2 d2 k2 r2 tr2 kr2 rd2 lw2 kl2 ik2 rj2 s02 s12 s22 s32 TS2 v hTS2 hv h7 => ?_)
  obtain ⟨w, rfl⟩ := vkd_long hv
  refine V.gl 40 [1216] ?_
  refine V.sld (i + 1) rfl hL (nadd rfl rfl) (by omega) ?_
  refine V.gl 40 [1221] ?_
  refine V.sld (i + 2) rfl hL (nadd rfl rfl) (by omega) ?_
  refine V.gl 40 [] ?_
  refine V.lcM (lB_len (c := c2) (d := d2) (k := k2) (r := r2) (tr := tr2) (kr := kr2) (rd := rd2) (ft := 2 * 81) (tg := tgW 81 n) (tc := nI n) (lw := lw2) (kl := kl2) (ik := ik2) (ri := (303, 305, rj2)) (s0 := s02) (s1 := s12) (s2 := s22) (s3 := s32)) (C2 := lT 81 TS2) rfl lL_160 (c7_share l) (by decide) (by decide) hnc hns [.int (xs (i + 1)), .int (xs (i + 2))] rfl rfl rfl [.long w] rfl rfl rfl h7 (fun fv2 ar2 hr => ?_)
  refine V.gl 40 [1635] ?_
  exact And.intro (fun _ => hK _ _ _ _ _ _ _ _ _ _ _ _ _ _ _ _ _ _ hr hTS2) (fun q => absurd (lg_self w) q)
