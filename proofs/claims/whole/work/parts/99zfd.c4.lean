/-! ===== the law: more cases ===== -/
theorem lc_35 {l : Launch} {b0 L : Nat} {xs : Nat → Int32} {nc ns n i : Nat} {Ps : Nat → zP} {c d k : zCart} {r tr kr : zRow} {rd : zRd} {lw kl ik : Int32} {rj : zRj} {s0 s1 s2 s3 : zSh} {fv : Nat → Int32} {ar : Nat → fI} {TS : List zTx} (hL : L ≤ 3584) (hi : i + 6 < L) (hnc : nc ≤ 600000) (hns : ns ≤ 7302250) (hR : Rel c k r kr rd lw kl ik s0 s1 s2 s3 fv ar n Ps) (hTS : TSok TS n Ps) (hK : KN l b0 L xs nc ns n i Ps) : VL l b0 L xs nc ns 1231 (lv0 i) [] (lW c d k r tr kr rd n lw kl ik rj s0 s1 s2 s3 fv ar TS) := by
  refine V.gl 40 [1236] ?_
  refine V.sld (i + 1) rfl hL (nadd rfl rfl) (by omega) ?_
  refine V.gl 40 [1241] ?_
  refine V.sld (i + 2) rfl hL (nadd rfl rfl) (by omega) ?_
  refine V.gl 40 [] ?_
  refine V.lcX (T7 := T7_best) rfl lL_161 (c6_best l) (by decide) (by decide) hnc hns [.int (xs (i + 1)), .int (xs (i + 2))] rfl rfl rfl rfl (fun _ _ => rfl) (pr_best _ _) hR hTS (fun c2 d2 k2 r2 tr2 kr2 rd2 lw2 kl2 ik2 rj2 s02 s12 s22 s32 TS2 v hTS2 hv h7 => ?_)
  obtain ⟨w, rfl⟩ := vkd_int hv
  refine V.gl 40 [1250] ?_
  refine V.sld (i + 1) rfl hL (nadd rfl rfl) (by omega) ?_
  refine V.gl 40 [1255] ?_
  refine V.sld (i + 2) rfl hL (nadd rfl rfl) (by omega) ?_
  refine V.gl 40 [] ?_
  refine V.lcM (lB_len (c := c2) (d := d2) (k := k2) (r := r2) (tr := tr2) (kr := kr2) (rd := rd2) (ft := 2 * 81) (tg := tgW 81 n) (tc := nI n) (lw := lw2) (kl := kl2) (ik := ik2) (ri := (303, 305, rj2)) (s0 := s02) (s1 := s12) (s2 := s22) (s3 := s32)) (C2 := lT 81 TS2) rfl lL_164 (c7_best l) (by decide) (by decide) hnc hns [.int (xs (i + 1)), .int (xs (i + 2))] rfl rfl rfl [.int w] rfl rfl rfl h7 (fun fv2 ar2 hr => ?_)
  refine V.gl 40 [1635] ?_
  exact And.intro (fun _ => hK _ _ _ _ _ _ _ _ _ _ _ _ _ _ _ _ _ _ hr hTS2) (fun q => absurd rfl q)
theorem lc_36 {l : Launch} {b0 L : Nat} {xs : Nat → Int32} {nc ns n i : Nat} {Ps : Nat → zP} {c d k : zCart} {r tr kr : zRow} {rd : zRd} {lw kl ik : Int32} {rj : zRj} {s0 s1 s2 s3 : zSh} {fv : Nat → Int32} {ar : Nat → fI} {TS : List zTx} (hL : L ≤ 3584) (hi : i + 6 < L) (hnc : nc ≤ 600000) (hns : ns ≤ 7302250) (hR : Rel c k r kr rd lw kl ik s0 s1 s2 s3 fv ar n Ps) (hTS : TSok TS n Ps) (hK : KN l b0 L xs nc ns n i Ps) : VL l b0 L xs nc ns 1264 (lv0 i) [] (lW c d k r tr kr rd n lw kl ik rj s0 s1 s2 s3 fv ar TS) := by
  refine V.gl 40 [1269] ?_
  refine V.sld (i + 1) rfl hL (nadd rfl rfl) (by omega) ?_
  refine V.gl 40 [1274] ?_
  refine V.sld (i + 2) rfl hL (nadd rfl rfl) (by omega) ?_
  refine V.gl 40 [] ?_
  refine V.lcX (T7 := T7_first) rfl lL_165 (c6_first l) (by decide) (by decide) hnc hns [.int (xs (i + 1)), .int (xs (i + 2))] rfl rfl rfl rfl (fun _ _ => rfl) (pr_first _ _) hR hTS (fun c2 d2 k2 r2 tr2 kr2 rd2 lw2 kl2 ik2 rj2 s02 s12 s22 s32 TS2 v hTS2 hv h7 => ?_)
  obtain ⟨w, rfl⟩ := vkd_int hv
  refine V.gl 40 [1283] ?_
  refine V.sld (i + 1) rfl hL (nadd rfl rfl) (by omega) ?_
  refine V.gl 40 [1288] ?_
  refine V.sld (i + 2) rfl hL (nadd rfl rfl) (by omega) ?_
  refine V.gl 40 [] ?_
  refine V.lcM (lB_len (c := c2) (d := d2) (k := k2) (r := r2) (tr := tr2) (kr := kr2) (rd := rd2) (ft := 2 * 81) (tg := tgW 81 n) (tc := nI n) (lw := lw2) (kl := kl2) (ik := ik2) (ri := (303, 305, rj2)) (s0 := s02) (s1 := s12) (s2 := s22) (s3 := s32)) (C2 := lT 81 TS2) rfl lL_168 (c7_first l) (by decide) (by decide) hnc hns [.int (xs (i + 1)), .int (xs (i + 2))] rfl rfl rfl [.int w] rfl rfl rfl h7 (fun fv2 ar2 hr => ?_)
  refine V.gl 40 [1635] ?_
  exact And.intro (fun _ => hK _ _ _ _ _ _ _ _ _ _ _ _ _ _ _ _ _ _ hr hTS2) (fun q => absurd rfl q)
theorem lc_37 {l : Launch} {b0 L : Nat} {xs : Nat → Int32} {nc ns n i : Nat} {Ps : Nat → zP} {c d k : zCart} {r tr kr : zRow} {rd : zRd} {lw kl ik : Int32} {rj : zRj} {s0 s1 s2 s3 : zSh} {fv : Nat → Int32} {ar : Nat → fI} {TS : List zTx} (hL : L ≤ 3584) (hi : i + 6 < L) (hnc : nc ≤ 600000) (hns : ns ≤ 7302250) (hR : Rel c k r kr rd lw kl ik s0 s1 s2 s3 fv ar n Ps) (hTS : TSok TS n Ps) (hK : KN l b0 L xs nc ns n i Ps) : VL l b0 L xs nc ns 1297 (lv0 i) [] (lW c d k r tr kr rd n lw kl ik rj s0 s1 s2 s3 fv ar TS) := by
  refine V.gl 40 [1302] ?_
  refine V.sld (i + 1) rfl hL (nadd rfl rfl) (by omega) ?_
  refine V.gl 40 [1307] ?_
  refine V.sld (i + 2) rfl hL (nadd rfl rfl) (by omega) ?_
  refine V.gl 40 [] ?_
  refine V.lcX (T7 := T7_drawn) rfl lL_169 (c6_drawn l) (by decide) (by decide) hnc hns [.int (xs (i + 1)), .int (xs (i + 2))] rfl rfl rfl rfl (fun _ _ => rfl) (pr_drawn _ _) hR hTS (fun c2 d2 k2 r2 tr2 kr2 rd2 lw2 kl2 ik2 rj2 s02 s12 s22 s32 TS2 v hTS2 hv h7 => ?_)
  obtain ⟨w, rfl⟩ := vkd_int hv
  refine V.gl 40 [1316] ?_
  refine V.sld (i + 1) rfl hL (nadd rfl rfl) (by omega) ?_
  refine V.gl 40 [1321] ?_
  refine V.sld (i + 2) rfl hL (nadd rfl rfl) (by omega) ?_
  refine V.gl 40 [] ?_
  refine V.lcM (lB_len (c := c2) (d := d2) (k := k2) (r := r2) (tr := tr2) (kr := kr2) (rd := rd2) (ft := 2 * 81) (tg := tgW 81 n) (tc := nI n) (lw := lw2) (kl := kl2) (ik := ik2) (ri := (303, 305, rj2)) (s0 := s02) (s1 := s12) (s2 := s22) (s3 := s32)) (C2 := lT 81 TS2) rfl lL_172 (c7_drawn l) (by decide) (by decide) hnc hns [.int (xs (i + 1)), .int (xs (i + 2))] rfl rfl rfl [.int w] rfl rfl rfl h7 (fun fv2 ar2 hr => ?_)
  refine V.gl 40 [1635] ?_
  exact And.intro (fun _ => hK _ _ _ _ _ _ _ _ _ _ _ _ _ _ _ _ _ _ hr hTS2) (fun q => absurd rfl q)
theorem lc_38 {l : Launch} {b0 L : Nat} {xs : Nat → Int32} {nc ns n i : Nat} {Ps : Nat → zP} {c d k : zCart} {r tr kr : zRow} {rd : zRd} {lw kl ik : Int32} {rj : zRj} {s0 s1 s2 s3 : zSh} {fv : Nat → Int32} {ar : Nat → fI} {TS : List zTx} (hL : L ≤ 3584) (hi : i + 6 < L) (hnc : nc ≤ 600000) (hns : ns ≤ 7302250) (hR : Rel c k r kr rd lw kl ik s0 s1 s2 s3 fv ar n Ps) (hTS : TSok TS n Ps) (hK : KN l b0 L xs nc ns n i Ps) : VL l b0 L xs nc ns 1330 (lv0 i) [] (lW c d k r tr kr rd n lw kl ik rj s0 s1 s2 s3 fv ar TS) := by
  refine V.gl 40 [1335] ?_
  refine V.sld (i + 1) rfl hL (nadd rfl rfl) (by omega) ?_
  refine V.gl 40 [1340] ?_
  refine V.sld (i + 2) rfl hL (nadd rfl rfl) (by omega) ?_
  refine V.gl 40 [1345] ?_
  refine V.sld (i + 3) rfl hL (nadd rfl rfl) (by omega) ?_
  refine V.gl 40 [] ?_
  refine V.lcX (T7 := T7_odds) rfl lL_173 (c6_odds l) (by decide) (by decide) hnc hns [.int (xs (i + 1)), .int (xs (i + 2)), .int (xs (i + 3))] rfl rfl rfl rfl (fun _ _ => rfl) (pr_odds _ _ _) hR hTS (fun c2 d2 k2 r2 tr2 kr2 rd2 lw2 kl2 ik2 rj2 s02 s12 s22 s32 TS2 v hTS2 hv h7 => ?_)
  obtain ⟨w, rfl⟩ := vkd_long hv
  refine V.gl 40 [1354] ?_
  refine V.sld (i + 1) rfl hL (nadd rfl rfl) (by omega) ?_
  refine V.gl 40 [1359] ?_
  refine V.sld (i + 2) rfl hL (nadd rfl rfl) (by omega) ?_
  refine V.gl 40 [1364] ?_
  refine V.sld (i + 3) rfl hL (nadd rfl rfl) (by omega) ?_
  refine V.gl 40 [] ?_
  refine V.lcM (lB_len (c := c2) (d := d2) (k := k2) (r := r2) (tr := tr2) (kr := kr2) (rd := rd2) (ft := 2 * 81) (tg := tgW 81 n) (tc := nI n) (lw := lw2) (kl := kl2) (ik := ik2) (ri := (303, 305, rj2)) (s0 := s02) (s1 := s12) (s2 := s22) (s3 := s32)) (C2 := lT 81 TS2) rfl lL_177 (c7_odds l) (by decide) (by decide) hnc hns [.int (xs (i + 1)), .int (xs (i + 2)), .int (xs (i + 3))] rfl rfl rfl [.long w] rfl rfl rfl h7 (fun fv2 ar2 hr => ?_)
  refine V.gl 40 [1635] ?_
  exact And.intro (fun _ => hK _ _ _ _ _ _ _ _ _ _ _ _ _ _ _ _ _ _ hr hTS2) (fun q => absurd (lg_self w) q)
theorem lc_39 {l : Launch} {b0 L : Nat} {xs : Nat → Int32} {nc ns n i : Nat} {Ps : Nat → zP} {c d k : zCart} {r tr kr : zRow} {rd : zRd} {lw kl ik : Int32} {rj : zRj} {s0 s1 s2 s3 : zSh} {fv : Nat → Int32} {ar : Nat → fI} {TS : List zTx} (hL : L ≤ 3584) (hi : i + 6 < L) (hnc : nc ≤ 600000) (hns : ns ≤ 7302250) (hR : Rel c k r kr rd lw kl ik s0 s1 s2 s3 fv ar n Ps) (hTS : TSok TS n Ps) (hK : KN l b0 L xs nc ns n i Ps) : VL l b0 L xs nc ns 1374 (lv0 i) [] (lW c d k r tr kr rd n lw kl ik rj s0 s1 s2 s3 fv ar TS) := by
  refine V.gl 40 [] ?_
  refine V.lcX (T7 := T7_image) rfl lL_178 (ct_image l) (by decide) (by decide) hnc hns [] rfl rfl rfl rfl (fun _ _ => rfl) (pr_image) hR hTS (fun c2 d2 k2 r2 tr2 kr2 rd2 lw2 kl2 ik2 rj2 s02 s12 s22 s32 TS2 v hTS2 hv h7 => ?_)
  obtain ⟨w, rfl⟩ := vkd_int hv
  refine V.gl 40 [] ?_
  refine V.lcM (lB_len (c := c2) (d := d2) (k := k2) (r := r2) (tr := tr2) (kr := kr2) (rd := rd2) (ft := 2 * 81) (tg := tgW 81 n) (tc := nI n) (lw := lw2) (kl := kl2) (ik := ik2) (ri := (303, 305, rj2)) (s0 := s02) (s1 := s12) (s2 := s22) (s3 := s32)) (C2 := lT 81 TS2) rfl lL_181 (c7_image l) (by decide) (by decide) hnc hns [] rfl rfl rfl [.int w] rfl rfl rfl h7 (fun fv2 ar2 hr => ?_)
  refine V.gl 40 [1635] ?_
  exact And.intro (fun _ => hK _ _ _ _ _ _ _ _ _ _ _ _ _ _ _ _ _ _ hr hTS2) (fun q => absurd rfl q)
theorem lc_40 {l : Launch} {b0 L : Nat} {xs : Nat → Int32} {nc ns n i : Nat} {Ps : Nat → zP} {c d k : zCart} {r tr kr : zRow} {rd : zRd} {lw kl ik : Int32} {rj : zRj} {s0 s1 s2 s3 : zSh} {fv : Nat → Int32} {ar : Nat → fI} {TS : List zTx} (hL : L ≤ 3584) (hi : i + 6 < L) (hnc : nc ≤ 600000) (hns : ns ≤ 7302250) (hR : Rel c k r kr rd lw kl ik s0 s1 s2 s3 fv ar n Ps) (hTS : TSok TS n Ps) (hK : KN l b0 L xs nc ns n i Ps) : VL l b0 L xs nc ns 1387 (lv0 i) [] (lW c d k r tr kr rd n lw kl ik rj s0 s1 s2 s3 fv ar TS) := by
  refine V.gl 40 [] ?_
  refine V.lcX (T7 := T7_back) rfl lL_182 (ct_back l) (by decide) (by decide) hnc hns [] rfl rfl rfl rfl (fun _ _ => rfl) (pr_back) hR hTS (fun c2 d2 k2 r2 tr2 kr2 rd2 lw2 kl2 ik2 rj2 s02 s12 s22 s32 TS2 v hTS2 hv h7 => ?_)
  obtain ⟨w, rfl⟩ := vkd_int hv
  refine V.gl 40 [] ?_
  refine V.lcM (lB_len (c := c2) (d := d2) (k := k2) (r := r2) (tr := tr2) (kr := kr2) (rd := rd2) (ft := 2 * 81) (tg := tgW 81 n) (tc := nI n) (lw := lw2) (kl := kl2) (ik := ik2) (ri := (303, 305, rj2)) (s0 := s02) (s1 := s12) (s2 := s22) (s3 := s32)) (C2 := lT 81 TS2) rfl lL_185 (c7_back l) (by decide) (by decide) hnc hns [] rfl rfl rfl [.int w] rfl rfl rfl h7 (fun fv2 ar2 hr => ?_)
  refine V.gl 40 [1635] ?_
  exact And.intro (fun _ => hK _ _ _ _ _ _ _ _ _ _ _ _ _ _ _ _ _ _ hr hTS2) (fun q => absurd rfl q)
theorem lc_41 {l : Launch} {b0 L : Nat} {xs : Nat → Int32} {nc ns n i : Nat} {Ps : Nat → zP} {c d k : zCart} {r tr kr : zRow} {rd : zRd} {lw kl ik : Int32} {rj : zRj} {s0 s1 s2 s3 : zSh} {fv : Nat → Int32} {ar : Nat → fI} {TS : List zTx} (hL : L ≤ 3584) (hi : i + 6 < L) (hnc : nc ≤ 600000) (hns : ns ≤ 7302250) (hR : Rel c k r kr rd lw kl ik s0 s1 s2 s3 fv ar n Ps) (hTS : TSok TS n Ps) (hK : KN l b0 L xs nc ns n i Ps) : VL l b0 L xs nc ns 1400 (lv0 i) [] (lW c d k r tr kr rd n lw kl ik rj s0 s1 s2 s3 fv ar TS) := by
  refine V.gl 40 [1405] ?_
  refine V.sld (i + 1) rfl hL (nadd rfl rfl) (by omega) ?_
  refine V.gl 40 [1410] ?_
  refine V.sld (i + 2) rfl hL (nadd rfl rfl) (by omega) ?_
  refine V.gl 40 [1415] ?_
  refine V.sld (i + 3) rfl hL (nadd rfl rfl) (by omega) ?_
  refine V.gl 40 [] ?_
  refine V.lcX (T7 := T7_sheet) rfl lL_186 (c6_sheet l) (by decide) (by decide) hnc hns [.int (xs (i + 1)), .int (xs (i + 2)), .int (xs (i + 3))] rfl rfl rfl rfl (fun _ _ => rfl) (pr_sheet _ _ _) hR hTS (fun c2 d2 k2 r2 tr2 kr2 rd2 lw2 kl2 ik2 rj2 s02 s12 s22 s32 TS2 v hTS2 hv h7 => ?_)
  obtain ⟨w, rfl⟩ := vkd_int hv
  refine V.gl 40 [1424] ?_
  refine V.sld (i + 1) rfl hL (nadd rfl rfl) (by omega) ?_
  refine V.gl 40 [1429] ?_
  refine V.sld (i + 2) rfl hL (nadd rfl rfl) (by omega) ?_
  refine V.gl 40 [1434] ?_
  refine V.sld (i + 3) rfl hL (nadd rfl rfl) (by omega) ?_
  refine V.gl 40 [] ?_
  refine V.lcM (lB_len (c := c2) (d := d2) (k := k2) (r := r2) (tr := tr2) (kr := kr2) (rd := rd2) (ft := 2 * 81) (tg := tgW 81 n) (tc := nI n) (lw := lw2) (kl := kl2) (ik := ik2) (ri := (303, 305, rj2)) (s0 := s02) (s1 := s12) (s2 := s22) (s3 := s32)) (C2 := lT 81 TS2) rfl lL_189 (c7_sheet l) (by decide) (by decide) hnc hns [.int (xs (i + 1)), .int (xs (i + 2)), .int (xs (i + 3))] rfl rfl rfl [.int w] rfl rfl rfl h7 (fun fv2 ar2 hr => ?_)
  refine V.gl 40 [1635] ?_
  exact And.intro (fun _ => hK _ _ _ _ _ _ _ _ _ _ _ _ _ _ _ _ _ _ hr hTS2) (fun q => absurd rfl q)
theorem lc_42 {l : Launch} {b0 L : Nat} {xs : Nat → Int32} {nc ns n i : Nat} {Ps : Nat → zP} {c d k : zCart} {r tr kr : zRow} {rd : zRd} {lw kl ik : Int32} {rj : zRj} {s0 s1 s2 s3 : zSh} {fv : Nat → Int32} {ar : Nat → fI} {TS : List zTx} (hL : L ≤ 3584) (hi : i + 6 < L) (hnc : nc ≤ 600000) (hns : ns ≤ 7302250) (hR : Rel c k r kr rd lw kl ik s0 s1 s2 s3 fv ar n Ps) (hTS : TSok TS n Ps) (hK : KN l b0 L xs nc ns n i Ps) : VL l b0 L xs nc ns 1443 (lv0 i) [] (lW c d k r tr kr rd n lw kl ik rj s0 s1 s2 s3 fv ar TS) := by
  refine V.gl 40 [1448] ?_
  refine V.sld (i + 1) rfl hL (nadd rfl rfl) (by omega) ?_
  refine V.gl 40 [1453] ?_
  refine V.sld (i + 2) rfl hL (nadd rfl rfl) (by omega) ?_
  refine V.gl 40 [1458] ?_
  refine V.sld (i + 3) rfl hL (nadd rfl rfl) (by omega) ?_
  refine V.gl 40 [] ?_
  refine V.lcX (T7 := T7_cell) rfl lL_190 (c6_cell l) (by decide) (by decide) hnc hns [.int (xs (i + 1)), .int (xs (i + 2)), .int (xs (i + 3))] rfl rfl rfl rfl (fun _ _ => rfl) (pr_cell _ _ _) hR hTS (fun c2 d2 k2 r2 tr2 kr2 rd2 lw2 kl2 ik2 rj2 s02 s12 s22 s32 TS2 v hTS2 hv h7 => ?_)
  obtain ⟨w, rfl⟩ := vkd_int hv
  refine V.gl 40 [1467] ?_
  refine V.sld (i + 1) rfl hL (nadd rfl rfl) (by omega) ?_
  refine V.gl 40 [1472] ?_
  refine V.sld (i + 2) rfl hL (nadd rfl rfl) (by omega) ?_
  refine V.gl 40 [1477] ?_
  refine V.sld (i + 3) rfl hL (nadd rfl rfl) (by omega) ?_
  refine V.gl 40 [] ?_
  refine V.lcM (lB_len (c := c2) (d := d2) (k := k2) (r := r2) (tr := tr2) (kr := kr2) (rd := rd2) (ft := 2 * 81) (tg := tgW 81 n) (tc := nI n) (lw := lw2) (kl := kl2) (ik := ik2) (ri := (303, 305, rj2)) (s0 := s02) (s1 := s12) (s2 := s22) (s3 := s32)) (C2 := lT 81 TS2) rfl lL_193 (c7_cell l) (by decide) (by decide) hnc hns [.int (xs (i + 1)), .int (xs (i + 2)), .int (xs (i + 3))] rfl rfl rfl [.int w] rfl rfl rfl h7 (fun fv2 ar2 hr => ?_)
  refine V.gl 40 [1635] ?_
  exact And.intro (fun _ => hK _ _ _ _ _ _ _ _ _ _ _ _ _ _ _ _ _ _ hr hTS2) (fun q => absurd rfl q)
theorem lc_43 {l : Launch} {b0 L : Nat} {xs : Nat → Int32} {nc ns n i : Nat} {Ps : Nat → zP} {c d k : zCart} {r tr kr : zRow} {rd : zRd} {lw kl ik : Int32} {rj : zRj} {s0 s1 s2 s3 : zSh} {fv : Nat → Int32} {ar : Nat → fI} {TS : List zTx} (hL : L ≤ 3584) (hi : i + 6 < L) (hnc : nc ≤ 600000) (hns : ns ≤ 7302250) (hR : Rel c k r kr rd lw kl ik s0 s1 s2 s3 fv ar n Ps) (hTS : TSok TS n Ps) (hK : KN l b0 L xs nc ns n i Ps) : VL l b0 L xs nc ns 1486 (lv0 i) [] (lW c d k r tr kr rd n lw kl ik rj s0 s1 s2 s3 fv ar TS) := by
  refine V.gl 40 [1491] ?_
  refine V.sld (i + 1) rfl hL (nadd rfl rfl) (by omega) ?_
  refine V.gl 40 [1496] ?_
  refine V.sld (i + 2) rfl hL (nadd rfl rfl) (by omega) ?_
  refine V.gl 40 [1501] ?_
  refine V.sld (i + 3) rfl hL (nadd rfl rfl) (by omega) ?_
  refine V.gl 40 [1506] ?_
  refine V.sld (i + 4) rfl hL (nadd rfl rfl) (by omega) ?_
  refine V.gl 40 [1511] ?_
  refine V.sld (i + 5) rfl hL (nadd rfl rfl) (by omega) ?_
  refine V.gl 40 [] ?_
  refine V.lcX (T7 := T7_copy) rfl lL_194 (c6_copy l) (by decide) (by decide) hnc hns [.int (xs (i + 1)), .int (xs (i + 2)), .int (xs (i + 3)), .int (xs (i + 4)), .int (xs (i + 5))] rfl rfl rfl rfl (fun _ _ => rfl) (pr_copy _ _ _ _ _) hR hTS (fun c2 d2 k2 r2 tr2 kr2 rd2 lw2 kl2 ik2 rj2 s02 s12 s22 s32 TS2 v hTS2 hv h7 => ?_)
  obtain ⟨w, rfl⟩ := vkd_int hv
  refine V.gl 40 [1520] ?_
  refine V.sld (i + 1) rfl hL (nadd rfl rfl) (by omega) ?_
  refine V.gl 40 [1525] ?_
  refine V.sld (i + 2) rfl hL (nadd rfl rfl) (by omega) ?_
  refine V.gl 40 [1530] ?_
  refine V.sld (i + 3) rfl hL (nadd rfl rfl) (by omega) ?_
  refine V.gl 40 [1535] ?_
  refine V.sld (i + 4) rfl hL (nadd rfl rfl) (by omega) ?_
  refine V.gl 40 [1540] ?_
  refine V.sld (i + 5) rfl hL (nadd rfl rfl) (by omega) ?_
  refine V.gl 40 [] ?_
  refine V.lcM (lB_len (c := c2) (d := d2) (k := k2) (r := r2) (tr := tr2) (kr := kr2) (rd := rd2) (ft := 2 * 81) (tg := tgW 81 n) (tc := nI n) (lw := lw2) (kl := kl2) (ik := ik2) (ri := (303, 305, rj2)) (s0 := s02) (s1 := s12) (s2 := s22) (s3 := s32)) (C2 := lT 81 TS2) rfl lL_198 (c7_copy l) (by decide) (by decide) hnc hns [.int (xs (i + 1)), .int (xs (i + 2)), .int (xs (i + 3)), .int (xs (i + 4)), .int (xs (i + 5))] rfl rfl rfl [.int w] rfl rfl rfl h7 (fun fv2 ar2 hr => ?_)
  refine V.gl 40 [1635] ?_
  exact And.intro (fun _ => hK _ _ _ _ _ _ _ _ _ _ _ _ _ _ _ _ _ _ hr hTS2) (fun q => absurd rfl q)
theorem lc_44 {l : Launch} {b0 L : Nat} {xs : Nat → Int32} {nc ns n i : Nat} {Ps : Nat → zP} {c d k : zCart} {r tr kr : zRow} {rd : zRd} {lw kl ik : Int32} {rj : zRj} {s0 s1 s2 s3 : zSh} {fv : Nat → Int32} {ar : Nat → fI} {TS : List zTx} (hL : L ≤ 3584) (hi : i + 6 < L) (hnc : nc ≤ 600000) (hns : ns ≤ 7302250) (hR : Rel c k r kr rd lw kl ik s0 s1 s2 s3 fv ar n Ps) (hTS : TSok TS n Ps) (hK : KN l b0 L xs nc ns n i Ps) : VL l b0 L xs nc ns 1549 (lv0 i) [] (lW c d k r tr kr rd n lw kl ik rj s0 s1 s2 s3 fv ar TS) := by
  refine V.gl 40 [1554] ?_
  refine V.sld (i + 1) rfl hL (nadd rfl rfl) (by omega) ?_
  refine V.gl 40 [1559] ?_
  refine V.sld (i + 2) rfl hL (nadd rfl rfl) (by omega) ?_
  refine V.gl 40 [1564] ?_
  refine V.sld (i + 3) rfl hL (nadd rfl rfl) (by omega) ?_
  refine V.gl 40 [1569] ?_
  refine V.sld (i + 4) rfl hL (nadd rfl rfl) (by omega) ?_
  refine V.gl 40 [] ?_
  refine V.lcX (T7 := T7_loadsBy) rfl lL_199 (c6_loadsBy l) (by decide) (by decide) hnc hns [.int (xs (i + 1)), .int (xs (i + 2)), .int (xs (i + 3)), .int (xs (i + 4))] rfl rfl rfl rfl (fun _ _ => rfl) (pr_loadsBy _ _ _ _) hR hTS (fun c2 d2 k2 r2 tr2 kr2 rd2 lw2 kl2 ik2 rj2 s02 s12 s22 s32 TS2 v hTS2 hv h7 => ?_)
  obtain ⟨w, rfl⟩ := vkd_int hv
  refine V.gl 40 [1578] ?_
  refine V.sld (i + 1) rfl hL (nadd rfl rfl) (by omega) ?_
  refine V.gl 40 [1583] ?_
  refine V.sld (i + 2) rfl hL (nadd rfl rfl) (by omega) ?_
  refine V.gl 40 [1588] ?_
  refine V.sld (i + 3) rfl hL (nadd rfl rfl) (by omega) ?_
  refine V.gl 40 [1593] ?_
  refine V.sld (i + 4) rfl hL (nadd rfl rfl) (by omega) ?_
  refine V.gl 40 [] ?_
  refine V.lcM (lB_len (c := c2) (d := d2) (k := k2) (r := r2) (tr := tr2) (kr := kr2) (rd := rd2) (ft := 2 * 81) (tg := tgW 81 n) (tc := nI n) (lw := lw2) (kl := kl2) (ik := ik2) (ri := (303, 305, rj2)) (s0 := s02) (s1 := s12) (s2 := s22) (s3 := s32)) (C2 := lT 81 TS2) rfl lL_202 (c7_loadsBy l) (by decide) (by decide) hnc hns [.int (xs (i + 1)), .int (xs (i + 2)), .int (xs (i + 3)), .int (xs (i + 4))] rfl rfl rfl [.int w] rfl rfl rfl h7 (fun fv2 ar2 hr => ?_)
  refine V.gl 40 [1635] ?_
  exact And.intro (fun _ => hK _ _ _ _ _ _ _ _ _ _ _ _ _ _ _ _ _ _ hr hTS2) (fun q => absurd rfl q)
theorem lc_45 {l : Launch} {b0 L : Nat} {xs : Nat → Int32} {nc ns n i : Nat} {Ps : Nat → zP} {c d k : zCart} {r tr kr : zRow} {rd : zRd} {lw kl ik : Int32} {rj : zRj} {s0 s1 s2 s3 : zSh} {fv : Nat → Int32} {ar : Nat → fI} {TS : List zTx} (hL : L ≤ 3584) (hi : i + 6 < L) (hnc : nc ≤ 600000) (hns : ns ≤ 7302250) (hR : Rel c k r kr rd lw kl ik s0 s1 s2 s3 fv ar n Ps) (hTS : TSok TS n Ps) (hK : KN l b0 L xs nc ns n i Ps) : VL l b0 L xs nc ns 1602 (lv0 i) [] (lW c d k r tr kr rd n lw kl ik rj s0 s1 s2 s3 fv ar TS) := by
  refine V.gl 40 [1607] ?_
  refine V.sld (i + 1) rfl hL (nadd rfl rfl) (by omega) ?_
  refine V.gl 40 [1612] ?_
  refine V.sld (i + 2) rfl hL (nadd rfl rfl) (by omega) ?_
  refine V.gl 40 [] ?_
  refine V.lcX (T7 := T7_taken) rfl lL_203 (c6_taken l) (by decide) (by decide) hnc hns [.int (xs (i + 1)), .int (xs (i + 2))] rfl rfl rfl rfl (fun _ _ => rfl) (pr_taken _ _) hR hTS (fun c2 d2 k2 r2 tr2 kr2 rd2 lw2 kl2 ik2 rj2 s02 s12 s22 s32 TS2 v hTS2 hv h7 => ?_)
  obtain ⟨w, rfl⟩ := vkd_int hv
  refine V.gl 40 [1621] ?_
  refine V.sld (i + 1) rfl hL (nadd rfl rfl) (by omega) ?_
  refine V.gl 40 [1626] ?_
  refine V.sld (i + 2) rfl hL (nadd rfl rfl) (by omega) ?_
  refine V.gl 40 [] ?_
  refine V.lcM (lB_len (c := c2) (d := d2) (k := k2) (r := r2) (tr := tr2) (kr := kr2) (rd := rd2) (ft := 2 * 81) (tg := tgW 81 n) (tc := nI n) (lw := lw2) (kl := kl2) (ik := ik2) (ri := (303, 305, rj2)) (s0 := s02) (s1 := s12) (s2 := s22) (s3 := s32)) (C2 := lT 81 TS2) rfl lL_206 (c7_taken l) (by decide) (by decide) hnc hns [.int (xs (i + 1)), .int (xs (i + 2))] rfl rfl rfl [.int w] rfl rfl rfl h7 (fun fv2 ar2 hr => ?_)
  refine V.gl 40 [1635] ?_
  exact And.intro (fun _ => hK _ _ _ _ _ _ _ _ _ _ _ _ _ _ _ _ _ _ hr hTS2) (fun q => absurd rfl q)
