/-! ===== the law: its cases ===== -/
abbrev lv0 (i : Nat) : zL := [(3, .int (nI i)), (0, .ref 301), (1, .ref 0), (2, .ref 102)]
/-- the loop goes on -/
def KN (l : Launch) (b0 L : Nat) (xs : Nat → Int32) (nc ns n i : Nat) (Ps : Nat → zP) : Prop := ∀ (c d k : zCart) (r tr kr : zRow) (rd : zRd) (lw kl ik : Int32) (rj : zRj) (s0 s1 s2 s3 : zSh) (fv : Nat → Int32) (ar : Nat → fI) (TS : List zTx), Rel c k r kr rd lw kl ik s0 s1 s2 s3 fv ar n Ps → TSok TS n Ps → VL l b0 L xs nc ns 1635 (lv0 i) [] (lW c d k r tr kr rd n lw kl ik rj s0 s1 s2 s3 fv ar TS)
theorem vkd_int {v : Value} (h : vkd false v = true) : ∃ w, v = .int w := by
  cases v <;> first | exact ⟨_, rfl⟩ | cases h
theorem vkd_long {v : Value} (h : vkd true v = true) : ∃ w, v = .long w := by
  cases v <;> first | exact ⟨_, rfl⟩ | cases h
theorem lg_self (w : Int64) : lg_cmp w w = 0 := by
  simp [lg_cmp]
theorem lc_0 {l : Launch} {b0 L : Nat} {xs : Nat → Int32} {nc ns n i : Nat} {Ps : Nat → zP} {c d k : zCart} {r tr kr : zRow} {rd : zRd} {lw kl ik : Int32} {rj : zRj} {s0 s1 s2 s3 : zSh} {fv : Nat → Int32} {ar : Nat → fI} {TS : List zTx} (hL : L ≤ 3584) (hi : i + 6 < L) (hnc : nc ≤ 600000) (hns : ns ≤ 7302250) (hR : Rel c k r kr rd lw kl ik s0 s1 s2 s3 fv ar n Ps) (hTS : TSok TS n Ps) (hK : KN l b0 L xs nc ns n i Ps) : VL l b0 L xs nc ns 232 (lv0 i) [] (lW c d k r tr kr rd n lw kl ik rj s0 s1 s2 s3 fv ar TS) := by
  refine V.gl 40 [237] ?_
  refine V.sld (i + 1) rfl hL (nadd rfl rfl) (by omega) ?_
  refine V.gl 40 [] ?_
  refine V.lcX (T7 := T7_count) rfl lL_13 (ct_count l) (by decide) (by decide) hnc hns [.int (xs (i + 1))] rfl rfl rfl rfl (fun _ _ => rfl) (pr_count _) hR hTS (fun c2 d2 k2 r2 tr2 kr2 rd2 lw2 kl2 ik2 rj2 s02 s12 s22 s32 TS2 v hTS2 hv h7 => ?_)
  obtain ⟨w, rfl⟩ := vkd_int hv
  refine V.gl 40 [246] ?_
  refine V.sld (i + 1) rfl hL (nadd rfl rfl) (by omega) ?_
  refine V.gl 40 [] ?_
  refine V.lcM (lB_len (c := c2) (d := d2) (k := k2) (r := r2) (tr := tr2) (kr := kr2) (rd := rd2) (ft := 2 * 81) (tg := tgW 81 n) (tc := nI n) (lw := lw2) (kl := kl2) (ik := ik2) (ri := (303, 305, rj2)) (s0 := s02) (s1 := s12) (s2 := s22) (s3 := s32)) (C2 := lT 81 TS2) rfl lL_17 (c7_count l) (by decide) (by decide) hnc hns [.int (xs (i + 1))] rfl rfl rfl [.int w] rfl rfl rfl h7 (fun fv2 ar2 hr => ?_)
  refine V.gl 40 [1635] ?_
  exact And.intro (fun _ => hK _ _ _ _ _ _ _ _ _ _ _ _ _ _ _ _ _ _ hr hTS2) (fun q => absurd rfl q)
theorem lc_1 {l : Launch} {b0 L : Nat} {xs : Nat → Int32} {nc ns n i : Nat} {Ps : Nat → zP} {c d k : zCart} {r tr kr : zRow} {rd : zRd} {lw kl ik : Int32} {rj : zRj} {s0 s1 s2 s3 : zSh} {fv : Nat → Int32} {ar : Nat → fI} {TS : List zTx} (hL : L ≤ 3584) (hi : i + 6 < L) (hnc : nc ≤ 600000) (hns : ns ≤ 7302250) (hR : Rel c k r kr rd lw kl ik s0 s1 s2 s3 fv ar n Ps) (hTS : TSok TS n Ps) (hK : KN l b0 L xs nc ns n i Ps) : VL l b0 L xs nc ns 255 (lv0 i) [] (lW c d k r tr kr rd n lw kl ik rj s0 s1 s2 s3 fv ar TS) := by
  refine V.gl 40 [260] ?_
  refine V.sld (i + 1) rfl hL (nadd rfl rfl) (by omega) ?_
  refine V.gl 40 [265] ?_
  refine V.sld (i + 2) rfl hL (nadd rfl rfl) (by omega) ?_
  refine V.gl 40 [270] ?_
  refine V.sld (i + 3) rfl hL (nadd rfl rfl) (by omega) ?_
  refine V.gl 40 [275] ?_
  refine V.sld (i + 4) rfl hL (nadd rfl rfl) (by omega) ?_
  refine V.gl 40 [280] ?_
  refine V.sld (i + 5) rfl hL (nadd rfl rfl) (by omega) ?_
  refine V.gl 40 [286] ?_
  refine V.sld (i + 6) rfl hL (nadd rfl rfl) (by omega) ?_
  refine V.gl 40 [] ?_
  refine V.lcX (T7 := T7_feed) rfl lL_18 (c6_feed l) (by decide) (by decide) hnc hns [.int (xs (i + 1)), .int (xs (i + 2)), .int (xs (i + 3)), .int (xs (i + 4)), .int (xs (i + 5)), .int (xs (i + 6))] rfl rfl rfl rfl (fun _ _ => rfl) (pr_feed _ _ _ _ _ _) hR hTS (fun c2 d2 k2 r2 tr2 kr2 rd2 lw2 kl2 ik2 rj2 s02 s12 s22 s32 TS2 v hTS2 hv h7 => ?_)
  obtain ⟨w, rfl⟩ := vkd_int hv
  refine V.gl 40 [295] ?_
  refine V.sld (i + 1) rfl hL (nadd rfl rfl) (by omega) ?_
  refine V.gl 40 [300] ?_
  refine V.sld (i + 2) rfl hL (nadd rfl rfl) (by omega) ?_
  refine V.gl 40 [305] ?_
  refine V.sld (i + 3) rfl hL (nadd rfl rfl) (by omega) ?_
  refine V.gl 40 [310] ?_
  refine V.sld (i + 4) rfl hL (nadd rfl rfl) (by omega) ?_
  refine V.gl 40 [315] ?_
  refine V.sld (i + 5) rfl hL (nadd rfl rfl) (by omega) ?_
  refine V.gl 40 [321] ?_
  refine V.sld (i + 6) rfl hL (nadd rfl rfl) (by omega) ?_
  refine V.gl 40 [] ?_
  refine V.lcM (lB_len (c := c2) (d := d2) (k := k2) (r := r2) (tr := tr2) (kr := kr2) (rd := rd2) (ft := 2 * 81) (tg := tgW 81 n) (tc := nI n) (lw := lw2) (kl := kl2) (ik := ik2) (ri := (303, 305, rj2)) (s0 := s02) (s1 := s12) (s2 := s22) (s3 := s32)) (C2 := lT 81 TS2) rfl lL_22 (c7_feed l) (by decide) (by decide) hnc hns [.int (xs (i + 1)), .int (xs (i + 2)), .int (xs (i + 3)), .int (xs (i + 4)), .int (xs (i + 5)), .int (xs (i + 6))] rfl rfl rfl [.int w] rfl rfl rfl h7 (fun fv2 ar2 hr => ?_)
  refine V.gl 40 [1635] ?_
  exact And.intro (fun _ => hK _ _ _ _ _ _ _ _ _ _ _ _ _ _ _ _ _ _ hr hTS2) (fun q => absurd rfl q)
theorem lc_3 {l : Launch} {b0 L : Nat} {xs : Nat → Int32} {nc ns n i : Nat} {Ps : Nat → zP} {c d k : zCart} {r tr kr : zRow} {rd : zRd} {lw kl ik : Int32} {rj : zRj} {s0 s1 s2 s3 : zSh} {fv : Nat → Int32} {ar : Nat → fI} {TS : List zTx} (hL : L ≤ 3584) (hi : i + 6 < L) (hnc : nc ≤ 600000) (hns : ns ≤ 7302250) (hR : Rel c k r kr rd lw kl ik s0 s1 s2 s3 fv ar n Ps) (hTS : TSok TS n Ps) (hK : KN l b0 L xs nc ns n i Ps) : VL l b0 L xs nc ns 343 (lv0 i) [] (lW c d k r tr kr rd n lw kl ik rj s0 s1 s2 s3 fv ar TS) := by
  refine V.gl 40 [348] ?_
  refine V.sld (i + 1) rfl hL (nadd rfl rfl) (by omega) ?_
  refine V.gl 40 [] ?_
  refine V.lcX (T7 := T7_force) rfl lL_28 (ct_force l) (by decide) (by decide) hnc hns [.int (xs (i + 1))] rfl rfl rfl rfl (fun _ _ => rfl) (pr_force _) hR hTS (fun c2 d2 k2 r2 tr2 kr2 rd2 lw2 kl2 ik2 rj2 s02 s12 s22 s32 TS2 v hTS2 hv h7 => ?_)
  obtain ⟨w, rfl⟩ := vkd_int hv
  refine V.gl 40 [357] ?_
  refine V.sld (i + 1) rfl hL (nadd rfl rfl) (by omega) ?_
  refine V.gl 40 [] ?_
  refine V.lcM (lB_len (c := c2) (d := d2) (k := k2) (r := r2) (tr := tr2) (kr := kr2) (rd := rd2) (ft := 2 * 81) (tg := tgW 81 n) (tc := nI n) (lw := lw2) (kl := kl2) (ik := ik2) (ri := (303, 305, rj2)) (s0 := s02) (s1 := s12) (s2 := s22) (s3 := s32)) (C2 := lT 81 TS2) rfl lL_31 (c7_force l) (by decide) (by decide) hnc hns [.int (xs (i + 1))] rfl rfl rfl [.int w] rfl rfl rfl h7 (fun fv2 ar2 hr => ?_)
  refine V.gl 40 [1635] ?_
  exact And.intro (fun _ => hK _ _ _ _ _ _ _ _ _ _ _ _ _ _ _ _ _ _ hr hTS2) (fun q => absurd rfl q)
theorem lc_4 {l : Launch} {b0 L : Nat} {xs : Nat → Int32} {nc ns n i : Nat} {Ps : Nat → zP} {c d k : zCart} {r tr kr : zRow} {rd : zRd} {lw kl ik : Int32} {rj : zRj} {s0 s1 s2 s3 : zSh} {fv : Nat → Int32} {ar : Nat → fI} {TS : List zTx} (hL : L ≤ 3584) (hi : i + 6 < L) (hnc : nc ≤ 600000) (hns : ns ≤ 7302250) (hR : Rel c k r kr rd lw kl ik s0 s1 s2 s3 fv ar n Ps) (hTS : TSok TS n Ps) (hK : KN l b0 L xs nc ns n i Ps) : VL l b0 L xs nc ns 366 (lv0 i) [] (lW c d k r tr kr rd n lw kl ik rj s0 s1 s2 s3 fv ar TS) := by
  refine V.gl 40 [371] ?_
  refine V.sld (i + 1) rfl hL (nadd rfl rfl) (by omega) ?_
  refine V.gl 40 [376] ?_
  refine V.sld (i + 2) rfl hL (nadd rfl rfl) (by omega) ?_
  refine V.gl 40 [381] ?_
  refine V.sld (i + 3) rfl hL (nadd rfl rfl) (by omega) ?_
  refine V.gl 40 [386] ?_
  refine V.sld (i + 4) rfl hL (nadd rfl rfl) (by omega) ?_
  refine V.gl 40 [] ?_
  refine V.lcX (T7 := T7_asks) rfl lL_32 (c6_asks l) (by decide) (by decide) hnc hns [.int (xs (i + 1)), .int (xs (i + 2)), .int (xs (i + 3)), .int (xs (i + 4))] rfl rfl rfl rfl (fun _ _ => rfl) (pr_asks _ _ _ _) hR hTS (fun c2 d2 k2 r2 tr2 kr2 rd2 lw2 kl2 ik2 rj2 s02 s12 s22 s32 TS2 v hTS2 hv h7 => ?_)
  obtain ⟨w, rfl⟩ := vkd_int hv
  refine V.gl 40 [395] ?_
  refine V.sld (i + 1) rfl hL (nadd rfl rfl) (by omega) ?_
  refine V.gl 40 [400] ?_
  refine V.sld (i + 2) rfl hL (nadd rfl rfl) (by omega) ?_
  refine V.gl 40 [405] ?_
  refine V.sld (i + 3) rfl hL (nadd rfl rfl) (by omega) ?_
  refine V.gl 40 [410] ?_
  refine V.sld (i + 4) rfl hL (nadd rfl rfl) (by omega) ?_
  refine V.gl 40 [] ?_
  refine V.lcM (lB_len (c := c2) (d := d2) (k := k2) (r := r2) (tr := tr2) (kr := kr2) (rd := rd2) (ft := 2 * 81) (tg := tgW 81 n) (tc := nI n) (lw := lw2) (kl := kl2) (ik := ik2) (ri := (303, 305, rj2)) (s0 := s02) (s1 := s12) (s2 := s22) (s3 := s32)) (C2 := lT 81 TS2) rfl lL_36 (c7_asks l) (by decide) (by decide) hnc hns [.int (xs (i + 1)), .int (xs (i + 2)), .int (xs (i + 3)), .int (xs (i + 4))] rfl rfl rfl [.int w] rfl rfl rfl h7 (fun fv2 ar2 hr => ?_)
  refine V.gl 40 [1635] ?_
  exact And.intro (fun _ => hK _ _ _ _ _ _ _ _ _ _ _ _ _ _ _ _ _ _ hr hTS2) (fun q => absurd rfl q)
theorem lc_5 {l : Launch} {b0 L : Nat} {xs : Nat → Int32} {nc ns n i : Nat} {Ps : Nat → zP} {c d k : zCart} {r tr kr : zRow} {rd : zRd} {lw kl ik : Int32} {rj : zRj} {s0 s1 s2 s3 : zSh} {fv : Nat → Int32} {ar : Nat → fI} {TS : List zTx} (hL : L ≤ 3584) (hi : i + 6 < L) (hnc : nc ≤ 600000) (hns : ns ≤ 7302250) (hR : Rel c k r kr rd lw kl ik s0 s1 s2 s3 fv ar n Ps) (hTS : TSok TS n Ps) (hK : KN l b0 L xs nc ns n i Ps) : VL l b0 L xs nc ns 419 (lv0 i) [] (lW c d k r tr kr rd n lw kl ik rj s0 s1 s2 s3 fv ar TS) := by
  refine V.gl 40 [424] ?_
  refine V.sld (i + 1) rfl hL (nadd rfl rfl) (by omega) ?_
  refine V.gl 40 [429] ?_
  refine V.sld (i + 2) rfl hL (nadd rfl rfl) (by omega) ?_
  refine V.gl 40 [434] ?_
  refine V.sld (i + 3) rfl hL (nadd rfl rfl) (by omega) ?_
  refine V.gl 40 [] ?_
  refine V.lcX (T7 := T7_wheel) rfl lL_37 (ct_wheel l) (by decide) (by decide) hnc hns [.int (xs (i + 1)), .int (xs (i + 2)), .int (xs (i + 3))] rfl rfl rfl rfl (fun _ _ => rfl) (pr_wheel _ _ _) hR hTS (fun c2 d2 k2 r2 tr2 kr2 rd2 lw2 kl2 ik2 rj2 s02 s12 s22 s32 TS2 v hTS2 hv h7 => ?_)
  obtain ⟨w, rfl⟩ := vkd_int hv
  refine V.gl 40 [443] ?_
  refine V.sld (i + 1) rfl hL (nadd rfl rfl) (by omega) ?_
  refine V.gl 40 [448] ?_
  refine V.sld (i + 2) rfl hL (nadd rfl rfl) (by omega) ?_
  refine V.gl 40 [453] ?_
  refine V.sld (i + 3) rfl hL (nadd rfl rfl) (by omega) ?_
  refine V.gl 40 [] ?_
  refine V.lcM (lB_len (c := c2) (d := d2) (k := k2) (r := r2) (tr := tr2) (kr := kr2) (rd := rd2) (ft := 2 * 81) (tg := tgW 81 n) (tc := nI n) (lw := lw2) (kl := kl2) (ik := ik2) (ri := (303, 305, rj2)) (s0 := s02) (s1 := s12) (s2 := s22) (s3 := s32)) (C2 := lT 81 TS2) rfl lL_41 (c7_wheel l) (by decide) (by decide) hnc hns [.int (xs (i + 1)), .int (xs (i + 2)), .int (xs (i + 3))] rfl rfl rfl [.int w] rfl rfl rfl h7 (fun fv2 ar2 hr => ?_)
  refine V.gl 40 [1635] ?_
  exact And.intro (fun _ => hK _ _ _ _ _ _ _ _ _ _ _ _ _ _ _ _ _ _ hr hTS2) (fun q => absurd rfl q)
theorem lc_6 {l : Launch} {b0 L : Nat} {xs : Nat → Int32} {nc ns n i : Nat} {Ps : Nat → zP} {c d k : zCart} {r tr kr : zRow} {rd : zRd} {lw kl ik : Int32} {rj : zRj} {s0 s1 s2 s3 : zSh} {fv : Nat → Int32} {ar : Nat → fI} {TS : List zTx} (hL : L ≤ 3584) (hi : i + 6 < L) (hnc : nc ≤ 600000) (hns : ns ≤ 7302250) (hR : Rel c k r kr rd lw kl ik s0 s1 s2 s3 fv ar n Ps) (hTS : TSok TS n Ps) (hK : KN l b0 L xs nc ns n i Ps) : VL l b0 L xs nc ns 462 (lv0 i) [] (lW c d k r tr kr rd n lw kl ik rj s0 s1 s2 s3 fv ar TS) := by
  refine V.gl 40 [467] ?_
  refine V.sld (i + 1) rfl hL (nadd rfl rfl) (by omega) ?_
  refine V.gl 40 [] ?_
  refine V.lcX (T7 := T7_kick) rfl lL_42 (ct_kick l) (by decide) (by decide) hnc hns [.int (xs (i + 1))] rfl rfl rfl rfl (fun _ _ => rfl) (pr_kick _) hR hTS (fun c2 d2 k2 r2 tr2 kr2 rd2 lw2 kl2 ik2 rj2 s02 s12 s22 s32 TS2 v hTS2 hv h7 => ?_)
  obtain ⟨w, rfl⟩ := vkd_int hv
  refine V.gl 40 [476] ?_
  refine V.sld (i + 1) rfl hL (nadd rfl rfl) (by omega) ?_
  refine V.gl 40 [] ?_
  refine V.lcM (lB_len (c := c2) (d := d2) (k := k2) (r := r2) (tr := tr2) (kr := kr2) (rd := rd2) (ft := 2 * 81) (tg := tgW 81 n) (tc := nI n) (lw := lw2) (kl := kl2) (ik := ik2) (ri := (303, 305, rj2)) (s0 := s02) (s1 := s12) (s2 := s22) (s3 := s32)) (C2 := lT 81 TS2) rfl lL_45 (c7_kick l) (by decide) (by decide) hnc hns [.int (xs (i + 1))] rfl rfl rfl [.int w] rfl rfl rfl h7 (fun fv2 ar2 hr => ?_)
  refine V.gl 40 [1635] ?_
  exact And.intro (fun _ => hK _ _ _ _ _ _ _ _ _ _ _ _ _ _ _ _ _ _ hr hTS2) (fun q => absurd rfl q)
theorem lc_7 {l : Launch} {b0 L : Nat} {xs : Nat → Int32} {nc ns n i : Nat} {Ps : Nat → zP} {c d k : zCart} {r tr kr : zRow} {rd : zRd} {lw kl ik : Int32} {rj : zRj} {s0 s1 s2 s3 : zSh} {fv : Nat → Int32} {ar : Nat → fI} {TS : List zTx} (hL : L ≤ 3584) (hi : i + 6 < L) (hnc : nc ≤ 600000) (hns : ns ≤ 7302250) (hR : Rel c k r kr rd lw kl ik s0 s1 s2 s3 fv ar n Ps) (hTS : TSok TS n Ps) (hK : KN l b0 L xs nc ns n i Ps) : VL l b0 L xs nc ns 485 (lv0 i) [] (lW c d k r tr kr rd n lw kl ik rj s0 s1 s2 s3 fv ar TS) := by
  refine V.gl 40 [490] ?_
  refine V.sld (i + 1) rfl hL (nadd rfl rfl) (by omega) ?_
  refine V.gl 40 [495] ?_
  refine V.sld (i + 2) rfl hL (nadd rfl rfl) (by omega) ?_
  refine V.gl 40 [] ?_
  refine V.lcX (T7 := T7_told) rfl lL_46 (ct_told l) (by decide) (by decide) hnc hns [.int (xs (i + 1)), .int (xs (i + 2))] rfl rfl rfl rfl (fun _ _ => rfl) (pr_told _ _) hR hTS (fun c2 d2 k2 r2 tr2 kr2 rd2 lw2 kl2 ik2 rj2 s02 s12 s22 s32 TS2 v hTS2 hv h7 => ?_)
  obtain ⟨w, rfl⟩ := vkd_int hv
  refine V.gl 40 [504] ?_
  refine V.sld (i + 1) rfl hL (nadd rfl rfl) (by omega) ?_
  refine V.gl 40 [509] ?_
  refine V.sld (i + 2) rfl hL (nadd rfl rfl) (by omega) ?_
  refine V.gl 40 [] ?_
  refine V.lcM (lB_len (c := c2) (d := d2) (k := k2) (r := r2) (tr := tr2) (kr := kr2) (rd := rd2) (ft := 2 * 81) (tg := tgW 81 n) (tc := nI n) (lw := lw2) (kl := kl2) (ik := ik2) (ri := (303, 305, rj2)) (s0 := s02) (s1 := s12) (s2 := s22) (s3 := s32)) (C2 := lT 81 TS2) rfl lL_50 (c7_told l) (by decide) (by decide) hnc hns [.int (xs (i + 1)), .int (xs (i + 2))] rfl rfl rfl [.int w] rfl rfl rfl h7 (fun fv2 ar2 hr => ?_)
  refine V.gl 40 [1635] ?_
  exact And.intro (fun _ => hK _ _ _ _ _ _ _ _ _ _ _ _ _ _ _ _ _ _ hr hTS2) (fun q => absurd rfl q)
theorem lc_8 {l : Launch} {b0 L : Nat} {xs : Nat → Int32} {nc ns n i : Nat} {Ps : Nat → zP} {c d k : zCart} {r tr kr : zRow} {rd : zRd} {lw kl ik : Int32} {rj : zRj} {s0 s1 s2 s3 : zSh} {fv : Nat → Int32} {ar : Nat → fI} {TS : List zTx} (hL : L ≤ 3584) (hi : i + 6 < L) (hnc : nc ≤ 600000) (hns : ns ≤ 7302250) (hR : Rel c k r kr rd lw kl ik s0 s1 s2 s3 fv ar n Ps) (hTS : TSok TS n Ps) (hK : KN l b0 L xs nc ns n i Ps) : VL l b0 L xs nc ns 518 (lv0 i) [] (lW c d k r tr kr rd n lw kl ik rj s0 s1 s2 s3 fv ar TS) := by
  refine V.gl 40 [523] ?_
  refine V.sld (i + 1) rfl hL (nadd rfl rfl) (by omega) ?_
  refine V.gl 40 [528] ?_
  refine V.sld (i + 2) rfl hL (nadd rfl rfl) (by omega) ?_
  refine V.gl 40 [533] ?_
  refine V.sld (i + 3) rfl hL (nadd rfl rfl) (by omega) ?_
  refine V.gl 40 [] ?_
  refine V.lcX (T7 := T7_set) rfl lL_51 (ct_set l) (by decide) (by decide) hnc hns [.int (xs (i + 1)), .int (xs (i + 2)), .int (xs (i + 3))] rfl rfl rfl rfl (fun _ _ => rfl) (pr_set _ _ _) hR hTS (fun c2 d2 k2 r2 tr2 kr2 rd2 lw2 kl2 ik2 rj2 s02 s12 s22 s32 TS2 v hTS2 hv h7 => ?_)
  obtain ⟨w, rfl⟩ := vkd_int hv
  refine V.gl 40 [542] ?_
  refine V.sld (i + 1) rfl hL (nadd rfl rfl) (by omega) ?_
  refine V.gl 40 [547] ?_
  refine V.sld (i + 2) rfl hL (nadd rfl rfl) (by omega) ?_
  refine V.gl 40 [552] ?_
  refine V.sld (i + 3) rfl hL (nadd rfl rfl) (by omega) ?_
  refine V.gl 40 [] ?_
  refine V.lcM (lB_len (c := c2) (d := d2) (k := k2) (r := r2) (tr := tr2) (kr := kr2) (rd := rd2) (ft := 2 * 81) (tg := tgW 81 n) (tc := nI n) (lw := lw2) (kl := kl2) (ik := ik2) (ri := (303, 305, rj2)) (s0 := s02) (s1 := s12) (s2 := s22) (s3 := s32)) (C2 := lT 81 TS2) rfl lL_54 (c7_set l) (by decide) (by decide) hnc hns [.int (xs (i + 1)), .int (xs (i + 2)), .int (xs (i + 3))] rfl rfl rfl [.int w] rfl rfl rfl h7 (fun fv2 ar2 hr => ?_)
  refine V.gl 40 [1635] ?_
  exact And.intro (fun _ => hK _ _ _ _ _ _ _ _ _ _ _ _ _ _ _ _ _ _ hr hTS2) (fun q => absurd rfl q)
theorem lc_9 {l : Launch} {b0 L : Nat} {xs : Nat → Int32} {nc ns n i : Nat} {Ps : Nat → zP} {c d k : zCart} {r tr kr : zRow} {rd : zRd} {lw kl ik : Int32} {rj : zRj} {s0 s1 s2 s3 : zSh} {fv : Nat → Int32} {ar : Nat → fI} {TS : List zTx} (hL : L ≤ 3584) (hi : i + 6 < L) (hnc : nc ≤ 600000) (hns : ns ≤ 7302250) (hR : Rel c k r kr rd lw kl ik s0 s1 s2 s3 fv ar n Ps) (hTS : TSok TS n Ps) (hK : KN l b0 L xs nc ns n i Ps) : VL l b0 L xs nc ns 561 (lv0 i) [] (lW c d k r tr kr rd n lw kl ik rj s0 s1 s2 s3 fv ar TS) := by
  refine V.gl 40 [566] ?_
  refine V.sld (i + 1) rfl hL (nadd rfl rfl) (by omega) ?_
  refine V.gl 40 [571] ?_
  refine V.sld (i + 2) rfl hL (nadd rfl rfl) (by omega) ?_
  refine V.gl 40 [] ?_
  refine V.lcX (T7 := T7_look) rfl lL_55 (ct_look l) (by decide) (by decide) hnc hns [.int (xs (i + 1)), .int (xs (i + 2))] rfl rfl rfl rfl (fun _ _ => rfl) (pr_look _ _) hR hTS (fun c2 d2 k2 r2 tr2 kr2 rd2 lw2 kl2 ik2 rj2 s02 s12 s22 s32 TS2 v hTS2 hv h7 => ?_)
  obtain ⟨w, rfl⟩ := vkd_int hv
  refine V.gl 40 [580] ?_
  refine V.sld (i + 1) rfl hL (nadd rfl rfl) (by omega) ?_
  refine V.gl 40 [585] ?_
  refine V.sld (i + 2) rfl hL (nadd rfl rfl) (by omega) ?_
  refine V.gl 40 [] ?_
  refine V.lcM (lB_len (c := c2) (d := d2) (k := k2) (r := r2) (tr := tr2) (kr := kr2) (rd := rd2) (ft := 2 * 81) (tg := tgW 81 n) (tc := nI n) (lw := lw2) (kl := kl2) (ik := ik2) (ri := (303, 305, rj2)) (s0 := s02) (s1 := s12) (s2 := s22) (s3 := s32)) (C2 := lT 81 TS2) rfl lL_58 (c7_look l) (by decide) (by decide) hnc hns [.int (xs (i + 1)), .int (xs (i + 2))] rfl rfl rfl [.int w] rfl rfl rfl h7 (fun fv2 ar2 hr => ?_)
  refine V.gl 40 [1635] ?_
  exact And.intro (fun _ => hK _ _ _ _ _ _ _ _ _ _ _ _ _ _ _ _ _ _ hr hTS2) (fun q => absurd rfl q)
theorem lc_10 {l : Launch} {b0 L : Nat} {xs : Nat → Int32} {nc ns n i : Nat} {Ps : Nat → zP} {c d k : zCart} {r tr kr : zRow} {rd : zRd} {lw kl ik : Int32} {rj : zRj} {s0 s1 s2 s3 : zSh} {fv : Nat → Int32} {ar : Nat → fI} {TS : List zTx} (hL : L ≤ 3584) (hi : i + 6 < L) (hnc : nc ≤ 600000) (hns : ns ≤ 7302250) (hR : Rel c k r kr rd lw kl ik s0 s1 s2 s3 fv ar n Ps) (hTS : TSok TS n Ps) (hK : KN l b0 L xs nc ns n i Ps) : VL l b0 L xs nc ns 594 (lv0 i) [] (lW c d k r tr kr rd n lw kl ik rj s0 s1 s2 s3 fv ar TS) := by
  refine V.gl 40 [599] ?_
  refine V.sld (i + 1) rfl hL (nadd rfl rfl) (by omega) ?_
  refine V.gl 40 [604] ?_
  refine V.sld (i + 2) rfl hL (nadd rfl rfl) (by omega) ?_
  refine V.gl 40 [] ?_
  refine V.lcX (T7 := T7_at) rfl lL_59 (c6_at l) (by decide) (by decide) hnc hns [.int (xs (i + 1)), .int (xs (i + 2))] rfl rfl rfl rfl (fun _ _ => rfl) (pr_at _ _) hR hTS (fun c2 d2 k2 r2 tr2 kr2 rd2 lw2 kl2 ik2 rj2 s02 s12 s22 s32 TS2 v hTS2 hv h7 => ?_)
  obtain ⟨w, rfl⟩ := vkd_int hv
  refine V.gl 40 [613] ?_
  refine V.sld (i + 1) rfl hL (nadd rfl rfl) (by omega) ?_
  refine V.gl 40 [618] ?_
  refine V.sld (i + 2) rfl hL (nadd rfl rfl) (by omega) ?_
  refine V.gl 40 [] ?_
  refine V.lcM (lB_len (c := c2) (d := d2) (k := k2) (r := r2) (tr := tr2) (kr := kr2) (rd := rd2) (ft := 2 * 81) (tg := tgW 81 n) (tc := nI n) (lw := lw2) (kl := kl2) (ik := ik2) (ri := (303, 305, rj2)) (s0 := s02) (s1 := s12) (s2 := s22) (s3 := s32)) (C2 := lT 81 TS2) rfl lL_62 (c7_at l) (by decide) (by decide) hnc hns [.int (xs (i + 1)), .int (xs (i + 2))] rfl rfl rfl [.int w] rfl rfl rfl h7 (fun fv2 ar2 hr => ?_)
  refine V.gl 40 [1635] ?_
  exact And.intro (fun _ => hK _ _ _ _ _ _ _ _ _ _ _ _ _ _ _ _ _ _ hr hTS2) (fun q => absurd rfl q)
theorem lc_11 {l : Launch} {b0 L : Nat} {xs : Nat → Int32} {nc ns n i : Nat} {Ps : Nat → zP} {c d k : zCart} {r tr kr : zRow} {rd : zRd} {lw kl ik : Int32} {rj : zRj} {s0 s1 s2 s3 : zSh} {fv : Nat → Int32} {ar : Nat → fI} {TS : List zTx} (hL : L ≤ 3584) (hi : i + 6 < L) (hnc : nc ≤ 600000) (hns : ns ≤ 7302250) (hR : Rel c k r kr rd lw kl ik s0 s1 s2 s3 fv ar n Ps) (hTS : TSok TS n Ps) (hK : KN l b0 L xs nc ns n i Ps) : VL l b0 L xs nc ns 627 (lv0 i) [] (lW c d k r tr kr rd n lw kl ik rj s0 s1 s2 s3 fv ar TS) := by
  refine V.gl 40 [632] ?_
  refine V.sld (i + 1) rfl hL (nadd rfl rfl) (by omega) ?_
  refine V.gl 40 [] ?_
  refine V.lcX (T7 := T7_roll) rfl lL_63 (ct_roll l) (by decide) (by decide) hnc hns [.int (xs (i + 1))] rfl rfl rfl rfl (fun _ _ => rfl) (pr_roll _) hR hTS (fun c2 d2 k2 r2 tr2 kr2 rd2 lw2 kl2 ik2 rj2 s02 s12 s22 s32 TS2 v hTS2 hv h7 => ?_)
  obtain ⟨w, rfl⟩ := vkd_int hv
  refine V.gl 40 [641] ?_
  refine V.sld (i + 1) rfl hL (nadd rfl rfl) (by omega) ?_
  refine V.gl 40 [] ?_
  refine V.lcM (lB_len (c := c2) (d := d2) (k := k2) (r := r2) (tr := tr2) (kr := kr2) (rd := rd2) (ft := 2 * 81) (tg := tgW 81 n) (tc := nI n) (lw := lw2) (kl := kl2) (ik := ik2) (ri := (303, 305, rj2)) (s0 := s02) (s1 := s12) (s2 := s22) (s3 := s32)) (C2 := lT 81 TS2) rfl lL_66 (c7_roll l) (by decide) (by decide) hnc hns [.int (xs (i + 1))] rfl rfl rfl [.int w] rfl rfl rfl h7 (fun fv2 ar2 hr => ?_)
  refine V.gl 40 [1635] ?_
  exact And.intro (fun _ => hK _ _ _ _ _ _ _ _ _ _ _ _ _ _ _ _ _ _ hr hTS2) (fun q => absurd rfl q)
