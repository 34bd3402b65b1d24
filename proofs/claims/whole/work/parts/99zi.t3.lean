/-! ===== the law: the call of laws ===== -/
section
variable {c d k : zCart} {r tr kr : zRow} {rd : zRd} {n : Nat} {lw kl ik : Int32} {rj : zRj} {s0 s1 s2 s3 : zSh} {fv : Nat → Int32} {ar : Nat → fI} {TS : List zTx} {Ps : Nat → zP} {l : Launch} {b0 L : Nat} {xs : Nat → Int32} {nc ns i pc : Nat}
abbrev eL (n : Nat) : Nat → Nat := ze (81 + 5 * n) (csX 81 (5 * n)) (dlW 303 305 81 0)
theorem eL_1 {j : Nat} (h : j < 51) : eL n (2 * j) = 2 * j := ze_in (csX_1 h)
theorem eL_2 {j : Nat} (h : j < 5 * n) : eL n (2 * (51 + j)) = 2 * (81 + j) := ze_in (csX_2 h)
theorem eL_a : eL n 101 = 303 := by
  show ze (81 + 5 * n) (csX 81 (5 * n)) (dlW 303 305 81 0) (2 * 50 + 1) = _
  rw [ze_odd]
  rfl
theorem eL_b : eL n 103 = 305 := by
  show ze (81 + 5 * n) (csX 81 (5 * n)) (dlW 303 305 81 0) (2 * 51 + 1) = _
  rw [ze_odd]
  rfl
theorem eL_tg : (fun u => (tgW 51 n u).map (eL n)) = tgW 81 n := by
  funext u
  unfold tgW
  by_cases h : u < n
  · rw [if_pos h, if_pos h]
    show some (eL n (2 * (51 + 5 * u))) = _
    rw [eL_2 (by omega)]
  · rw [if_neg h, if_neg h]
    rfl
theorem eL_lB {ri : zRi} {tc : Int32} (hn : 0 < n) : (lB c d k r tr kr rd (2 * 51) (tgW 51 n) tc lw kl ik ri s0 s1 s2 s3).map (zrc (eL n)) = lB c d k r tr kr rd (2 * 81) (tgW 81 n) tc lw kl ik (eL n ri.1, eL n ri.2.1, ri.2.2) s0 s1 s2 s3 := by
  have h0 : eL n (2 * 51) = 2 * 81 := eL_2 (j := 0) (by omega)
  rw [lB_map (fun j hj => eL_1 hj), eL_tg, h0]
theorem eL_lT {TS2 : List zTx} (h : TS2.length = n) : (lT 51 TS2).map (zrc (eL n)) = lT 81 TS2 := lT_map TS2 51 81 (fun j hj => eL_2 (by omega))
theorem lc_27c {w : Int32} {ri2 : zRi} {TS2 : List zTx} (hn : 0 < n) (hT : TS2.length = n) (h : VL l b0 L xs nc ns pc (lv0 i) [.int w] (lW c d k r tr kr rd n lw kl ik ri2.2.2 s0 s1 s2 s3 fv ar TS2)) : VL l b0 L xs nc ns pc (lv0 i) [.int w] ((lB c d k r tr kr rd (2 * 51) (tgW 51 n) (nI n) lw kl ik ri2 s0 s1 s2 s3).map (zrc (eL n)) ++ (pMo fv ar ++ ((lT 51 TS2).map (zrc (eL n)) ++ []))) := by
  have h1 := V.ren (e3 (eL n ri2.1) (eL n ri2.2.1)) (fun i _ => e3_e i) (fun i hi => by unfold e3; rw [if_neg (by omega), if_neg (by omega)]) rfl (lwF_re b0 L xs) h
  rw [lW_e3] at h1
  rw [eL_lB hn, eL_lT hT, List.append_nil]
  exact h1
theorem lc_27b {w : Int32} {RR : (Nat → Int32) → (Nat → fI) → Prop} (hL : L ≤ 3584) (hi : i + 6 < L) (hnc : nc ≤ 600000) (hns : ns ≤ 7302250) (hT : ∀ Q7 : Option Value → List zE → Prop, (∀ (fv2 : Nat → Int32) (ar2 : Nat → fI), RR fv2 ar2 → Q7 (some (.int w)) (pM fv2 ar2)) → T7_laws [.ref 0, .int (xs (i + 1))] (pM fv ar) Q7) (h : ∀ (fv2 : Nat → Int32) (ar2 : Nat → fI), RR fv2 ar2 → VL l b0 L xs nc ns 1635 (lv0 i) [] (lW c d k r tr kr rd n lw kl ik rj s0 s1 s2 s3 fv2 ar2 TS)) : VL l b0 L xs nc ns 1005 (lv0 i) [.int w] (lW c d k r tr kr rd n lw kl ik rj s0 s1 s2 s3 fv ar TS) := by
  refine V.gl 40 [1010] ?_
  refine V.sld (i + 1) rfl hL (nadd rfl rfl) (by omega) ?_
  refine V.gl 40 [] ?_
  refine V.lcM (lB_len (c := c) (d := d) (k := k) (r := r) (tr := tr) (kr := kr) (rd := rd) (ft := 2 * 81) (tg := tgW 81 n) (tc := nI n) (lw := lw) (kl := kl) (ik := ik) (ri := (303, 305, rj)) (s0 := s0) (s1 := s1) (s2 := s2) (s3 := s3)) (C2 := lT 81 TS) rfl lL_131 (c7_laws l) (by decide) (by decide) hnc hns [.int (xs (i + 1))] rfl rfl rfl [.int w] rfl rfl rfl hT (fun fv2 ar2 hr => ?_)
  refine V.gl 40 [1635] ?_
  exact And.intro (fun _ => h fv2 ar2 hr) (fun q => absurd rfl q)
set_option maxHeartbeats 4000000 in
theorem lc_27 (hL : L ≤ 3584) (hi : i + 6 < L) (hnc : nc ≤ 600000) (hns : ns ≤ 7302250) (hR : Rel c k r kr rd lw kl ik s0 s1 s2 s3 fv ar n Ps) (hTS : TSok TS n Ps) (hK : KN l b0 L xs nc ns n i Ps) : VL l b0 L xs nc ns 996 (lv0 i) [] (lW c d k r tr kr rd n lw kl ik rj s0 s1 s2 s3 fv ar TS) := by
  obtain ⟨hn1, hn6, h17, hlw, hmT, hwo⟩ := id hR.2.2.2.2.2
  have hn0 : 0 < n := hn1
  obtain ⟨hcM, hco⟩ := id hR.1
  have hsh := hR.2.2.2.1.1
  have hok := hco.1
  have hok7 : kOk (cM fv ar) := by rw [← hcM]; exact hco.1
  have hwk7 : wOk (cM fv ar) := by rw [← hcM]; exact hco.2.1
  refine V.gl 40 [1001] ?_
  refine V.sld (i + 1) rfl hL (nadd rfl rfl) (by omega) ?_
  refine V.gl 40 [] ?_
  refine V.sim (zsim_app (lB_sim hR.2.2.2.1) (zsim_rfl _)) ?_
  have hR2 := hR.m
  refine V.cX (M' := mX6_laws) (T := T6_laws) (n := 1) mLw_ok rfl lL_128 (c6_laws l) (hRL (by decide) (by decide) hnc hns) (dlW 303 305 81 0) (dlW_ok _ _ _ _) (81 + 5 * n) 81 (5 * n) (lB c d k r tr kr rd (2 * 81) (tgW 81 n) (nI n) lw kl ik (303, 305, rj) (shM ar 0) (shM ar 1) (shM ar 2) (shM ar 3)) (pMo fv ar) (lT 81 TS) [] (lB c d k r tr kr rd (2 * 51) (tgW 51 n) (nI n) lw kl ik (101, 103, rj) (shM ar 0) (shM ar 1) (shM ar 2) (shM ar 3)) (lT 51 TS) ?_ ?_ lB_len rfl ?_ ?_ (eL_lT hTS.1) [.ref 0, .int (xs (i + 1))] [] rfl rfl rfl rfl ?_ rfl ?_
  · rw [List.append_nil]
  · rw [List.length_append, lB_len, List.length_append, lT_len, pMo_len, hTS.1]
    omega
  · rw [lT_len, hTS.1]
  · refine (eL_lB (ri := (101, 103, rj)) hn0).trans ?_
    show lB c d k r tr kr rd (2 * 81) (tgW 81 n) (nI n) lw kl ik (eL n 101, eL n 103, rj) (shM ar 0) (shM ar 1) (shM ar 2) (shM ar 3) = _
    rw [eL_a, eL_b]
  · show [Value.int (xs (i + 1)), .ref 0] = [Value.int (xs (i + 1)), .ref (eL n (2 * 0))]
    rw [show eL n (2 * 0) = 2 * 0 from eL_1 (by omega)]
  · refine ⟨c, d, k, r, tr, kr, rd, lw, kl, ik, (101, 103, rj), shM ar 0, shM ar 1, shM ar 2, shM ar 3, TS, n, Ps, xs (i + 1), hTS, hn0, hn6, hok, fun s hs => ?_, rfl, rfl, fun hb => ?_, fun s hs ex hne => ?_, fun s m hs ex hf hm hsz r0 hr0 ri2 TS2 hTS2 => ?_⟩
    · rw [shM_W hs]
      obtain ⟨-, m, hm, e⟩ := hsh s hs
      exact ⟨m, hm, e⟩
    · refine ⟨_, lT 51 TS, rfl, rfl, by rw [lT_len, hTS.1], ?_⟩
      refine lc_27c (ri2 := (101, 103, rj)) hn0 hTS.1 ?_
      refine lc_27b (RR := fun fv2 ar2 => Rel c k r kr rd lw kl ik (shM ar 0) (shM ar 1) (shM ar 2) (shM ar 3) fv2 ar2 n Ps) hL hi hnc hns (fun Q7 h8 => ⟨fv, ar, xs (i + 1), n, Ps, hok7, hwk7, hmT, hn6, h17, hsh, rfl, rfl, fun _ => h8 fv ar hR2, fun s2 hs2 e2 _ => ?_, fun s2 m2 hs2 e2 _ _ _ _ _ _ _ _ => ?_⟩) (fun fv2 ar2 hr => hK _ _ _ _ _ _ _ _ _ _ _ _ _ _ _ _ _ _ hr hTS)
      · exact (wib_c hb e2 (by omega) (by omega)).elim
      · exact (wib_c hb e2 (by omega) (by omega)).elim
    · rw [shM_W hs] at hne ⊢
      refine ⟨_, lT 51 TS, rfl, rfl, by rw [lT_len, hTS.1], ?_⟩
      refine lc_27c (ri2 := (101, 103, rj)) hn0 hTS.1 ?_
      refine lc_27b (RR := fun fv2 ar2 => Rel c k r kr rd lw kl ik (shM ar 0) (shM ar 1) (shM ar 2) (shM ar 3) fv2 ar2 n Ps) hL hi hnc hns (fun Q7 h8 => ⟨fv, ar, xs (i + 1), n, Ps, hok7, hwk7, hmT, hn6, h17, hsh, rfl, rfl, fun hb => (wib_c hb ex (by omega) (by omega)).elim, fun s2 hs2 e2 _ => ?_, fun s2 m2 hs2 e2 hf2 _ _ _ _ _ _ _ => ?_⟩) (fun fv2 ar2 hr => hK _ _ _ _ _ _ _ _ _ _ _ _ _ _ _ _ _ _ hr hTS)
      · obtain rfl := nI_i ex e2 (by omega) (by omega)
        exact h8 fv ar hR2
      · obtain rfl := nI_i ex e2 (by omega) (by omega)
        exact absurd hf2 hne
    · rw [shM_W hs] at hf hsz hr0
      refine ⟨_, lT 51 TS2, rfl, rfl, by rw [lT_len, hTS2.1], ?_⟩
      refine lc_27c hn0 hTS2.1 ?_
      refine lc_27b (RR := fun fv2 ar2 => Rel c k r kr rd lw kl ik (shM ar 0) (shM ar 1) (shM ar 2) (shM ar 3) fv2 ar2 n Ps) hL hi hnc hns (fun Q7 h8 => ⟨fv, ar, xs (i + 1), n, Ps, hok7, hwk7, hmT, hn6, h17, hsh, rfl, rfl, fun hb => (wib_c hb ex (by omega) (by omega)).elim, fun s2 hs2 e2 hne => ?_, fun s2 m2 hs2 e2 hf2 hm2 hsz2 r2 hr2 fv2 ar2 hkm => ?_⟩) (fun fv2 ar2 hr => hK _ _ _ _ _ _ _ _ _ _ _ _ _ _ _ _ _ _ hr hTS2)
      · obtain rfl := nI_i ex e2 (by omega) (by omega)
        exact absurd hf hne
      · obtain rfl := nI_i ex e2 (by omega) (by omega)
        obtain rfl := nI_i hsz hsz2 (by omega) (by omega)
        rw [hcM] at hr0
        have e : r2 = r0 := hr2.trans hr0.symm
        rw [e]
        exact h8 fv2 ar2 (hR2.kM hkm)
end
