/-! ===== the law: the call of text ===== -/
section
variable {c d k : zCart} {r tr kr : zRow} {rd : zRd} {n li : Nat} {lw kl ik : Int32} {rj : zRj} {s0 s1 s2 s3 : zSh} {fv : Nat → Int32} {ar : Nat → fI} {TS : List zTx} {Ps : Nat → zP} {l : Launch} {b0 L : Nat} {xs : Nat → Int32} {nc ns i : Nat}
abbrev eT (n li : Nat) : Nat → Nat := ze (81 + 5 * n) (csX (81 + 5 * li) 5) (dlW 303 305 81 n)
theorem eT_new {j : Nat} : eT n li (2 * (56 + j)) = 2 * (81 + 5 * n + j) := by
  show ze (81 + 5 * n) (csX (81 + 5 * li) 5) (dlW 303 305 81 n) (2 * (56 + j)) = _
  rw [ze_out (by rw [csX_len]; omega), csX_len]
  congr 2
  omega
theorem eT_tg (hl : li < n) : (fun u => (va_up (tgC li n) n (some 112) u).map (eT n li)) = tgW 81 (n + 1) := by
  have h0 : (fun u => (tgC li n u).map (eT n li)) = tgW 81 n := eW_tg rfl
  funext u
  unfold va_up
  by_cases e : u = n
  · rw [if_pos e]
    show some (eT n li (2 * (56 + 0))) = tgW 81 (n + 1) u
    unfold tgW
    rw [eT_new, if_pos (by omega), e]
    rfl
  · rw [if_neg e]
    refine (congrFun h0 u).trans ?_
    unfold tgW
    by_cases h : u < n
    · rw [if_pos h, if_pos (by omega)]
    · rw [if_neg h, if_neg (by omega)]
theorem eT_lB {rd2 : zRd} {tc : Int32} (hn : 0 < n) (hl : li < n) : (lB c d k r tr kr rd2 (ftC li) (va_up (tgC li n) n (some 112)) tc lw kl ik (101, 103, rj) s0 s1 s2 s3).map (zrc (eT n li)) = lB c d k r tr kr rd2 (2 * 81) (tgW 81 (n + 1)) tc lw kl ik (303, 305, rj) s0 s1 s2 s3 := by
  have hf : eT n li (ftC li) = 2 * 81 := eW_ft rfl hn
  have ha : eT n li 101 = 303 := eW_a
  have hb : eT n li 103 = 305 := eW_b
  refine (lB_map (e := eT n li) (fun j hj => eW_1 hj)).trans ?_
  show lB c d k r tr kr rd2 (eT n li (ftC li)) (fun u => (va_up (tgC li n) n (some 112) u).map (eT n li)) tc lw kl ik (eT n li 101, eT n li 103, rj) s0 s1 s2 s3 = _
  rw [hf, eT_tg hl, ha, hb]
theorem T6_text_mono {args : List Value} {hs : List zE} : ∀ (Q1 Q2 : Option Value → List zE → Prop), (∀ v w, Q1 v w → Q2 v w) → T6_text args hs Q1 → T6_text args hs Q2 := by
  rintro Q1 Q2 hq ⟨c, d, k, r, tr, kr, ft, tg, lw, kl, ik, ri, s0, s1, s2, s3, tx, tp, n, pla, tok, q0, num, flt, cod, csz, eds, t, g1, g2, g3, g4, g5, g6, g7, g8, g9, g10⟩
  refine ⟨c, d, k, r, tr, kr, ft, tg, lw, kl, ik, ri, s0, s1, s2, s3, tx, tp, n, pla, tok, q0, num, flt, cod, csz, eds, t, g1, g2, g3, g4, g5, g6, g7, g8, fun e => hq _ _ (g9 e), fun e Rr s L cod2 ed a1 a2 a3 a4 a5 => ?_⟩
  obtain ⟨h1, h2⟩ := g10 e Rr s L cod2 ed a1 a2 a3 a4 a5
  exact ⟨fun f => hq _ _ (h1 f), fun f => hq _ _ (h2 f)⟩
set_option maxHeartbeats 4000000 in
theorem lc_2 (hnc : nc + 5 ≤ 600000) (hns : ns + 491 ≤ 7302250) (hR : Rel c k r kr rd lw kl ik s0 s1 s2 s3 fv ar n Ps) (hTS : TSok TS n Ps) (hK : ∀ (n2 : Nat) (Ps2 : Nat → zP), KN l b0 L xs (nc + 5) (ns + 491) n2 i Ps2) : VL l b0 L xs nc ns 330 (lv0 i) [] (lW c d k r tr kr rd n lw kl ik rj s0 s1 s2 s3 fv ar TS) := by
  obtain ⟨hn1, hn6, h17, ⟨li, hli, hlw, h18⟩, hmT, hwo⟩ := id hR.2.2.2.2.2
  obtain ⟨tp, n1, pla, tok, q0i, num, flt, cod, csz, eds⟩ := rd
  obtain ⟨htp, ⟨t, ht, hn1t, h14⟩, q0, hq0⟩ := id hR.2.2.1
  have htp : tp = ar 13 := htp
  have hn1t : n1 = nI t := hn1t
  have hq0 : q0i = nI q0 := hq0
  subst htp hn1t hq0
  obtain ⟨TA, tx, TB, rfl, hTA, hT, hup⟩ := TSok_split hTS hli
  have hTS0 := hup tx.2.2.2.2.1 tx.2.2.2.2.2
  have hn0 : 0 < n := hn1
  have hlen : TA.length + (TB.length + 1) = n := by
    have := hTS.1
    rwa [List.length_append, List.length_cons] at this
  have lt : ∀ y : zTx, pMo fv ar ++ lT 81 (TA ++ y :: TB) = (pMo fv ar ++ lT 81 TA) ++ (pTextT (81 + 5 * li) y ++ lT (81 + 5 * li + 5) TB) := fun y => by
    rw [lT_app, List.append_assoc, hTA]
    rfl
  have hw : ∀ {rd2 : zRd}, lW c d k r tr kr rd2 n lw kl ik rj s0 s1 s2 s3 fv ar (TA ++ tx :: TB) = lB c d k r tr kr rd2 (2 * 81) (tgW 81 n) (nI n) lw kl ik (303, 305, rj) s0 s1 s2 s3 ++ ((pMo fv ar ++ lT 81 TA) ++ (pTextT (81 + 5 * li) tx ++ lT (81 + 5 * li + 5) TB)) := fun {rd2} => by
    unfold lW
    rw [lt]
  have hN : (lW c d k r tr kr (ar 13, nI t, pla, tok, nI q0, num, flt, cod, csz, eds) n lw kl ik rj s0 s1 s2 s3 fv ar (TA ++ tx :: TB)).length = 81 + 5 * n := by
    unfold lW
    rw [List.length_append, lB_len, List.length_append, lT_len, pMo_len, hTS.1]
    omega
  have hf0 : zlk 56 (ftC li) = true := by
    unfold ftC
    by_cases e : li = 0
    · rw [if_pos e]
      rfl
    · rw [if_neg e]
      rfl
  have htg : ∀ u q, tgC li n u = some q → zlk 56 q = true := fun u q hq => by
    unfold tgC at hq
    by_cases h : u < n
    · rw [if_pos h] at hq
      by_cases e : u = li
      · rw [if_pos e] at hq
        cases hq
        rfl
      · rw [if_neg e] at hq
        exact zlk_o (by have := Option.some.inj hq; omega)
    · rw [if_neg h] at hq
      cases hq
  refine V.gl 40 [] ?_
  refine V.mkX (M' := mX6_text) (T := T6_text) (n := 0) mLw_ok rfl lL_23 (k6_text l) (hRL (by decide) (by decide) hnc hns) (dlW 303 305 81 n) (dlW_ok _ _ _ _) (81 + 5 * n) (81 + 5 * li) 5 (Nat.ble_eq_true_of_le (Nat.zero_le _)) (fun j => ?_) _ (pMo fv ar ++ lT 81 TA) (pTextT (81 + 5 * li) tx) (lT (81 + 5 * li + 5) TB) (lB c d k r tr kr (ar 13, nI t, pla, tok, nI q0, num, flt, cod, csz, eds) (ftC li) (tgC li n) (nI n) lw kl ik (101, 103, rj) s0 s1 s2 s3) (pTextT 51 tx) hw hN lB_len ?_ rfl (lB_in rfl hn0) pT_in [.ref 0] [] rfl rfl rfl rfl ?_ rfl (lW_low hn0 hTS.1) ?_ T6_text_mono
  · unfold dlW
    by_cases e1 : 2 * j + 1 = 101
    · rw [if_pos e1]
      exact zlk_o rfl
    · rw [if_neg e1]
      by_cases e2 : 2 * j + 1 = 103
      · rw [if_pos e2]
        exact zlk_o rfl
      · rw [if_neg e2]
        by_cases e3 : 201 ≤ 2 * j + 1 ∧ 2 * j + 1 < 201 + 2 * n
        · rw [if_pos e3]
          exact zlk_e rfl (by omega)
        · rw [if_neg e3]
          exact zlk_o (by omega)
  · rw [List.length_append, lT_len, pMo_len, hTA]
    omega
  · show [Value.ref 0] = [Value.ref (eT n li (2 * 0))]
    rw [show eT n li (2 * 0) = 2 * 0 from eW_1 (by omega)]
  · have hun : ∀ rd2 : zRd, (lB c d k r tr kr rd2 (ftC li) (tgC li n) (nI n) lw kl ik (101, 103, rj) s0 s1 s2 s3).map (zrc (eT n li)) ++ ((pMo fv ar ++ lT 81 TA) ++ ((pTextT 51 tx).map (zrc (eT n li)) ++ lT (81 + 5 * li + 5) TB)) ++ ([] : List zE).map (zrc (eT n li)) = lW c d k r tr kr rd2 n lw kl ik rj s0 s1 s2 s3 fv ar (TA ++ tx :: TB) := fun rd2 => by
      rw [List.map_nil, List.append_nil, lB_in rfl hn0, pT_in, hw]
    refine ⟨c, d, k, r, tr, kr, ftC li, tgC li n, lw, kl, ik, (101, 103, rj), s0, s1, s2, s3, tx, ar 13, t, pla, tok, q0, num, flt, cod, csz, eds, n, hn6, ht, hf0, (show zlk 56 101 = true from rfl), (show zlk 56 103 = true from rfl), htg, rfl, rfl, fun e6 => ?_, fun h6 Rr s Ln cod2 ed eR eS eL hrd hed => ?_⟩
    · refine ⟨_, pTextT 51 tx, [], (by first | (rw [List.append_nil]; done) | (rw [List.append_nil]; rfl)), rfl, rfl, ?_⟩
      refine V.nm (lv0 i) [.int (-4)] _ rfl rfl (hun _) ?_
      exact lc_2b hnc hns (mtx_full hR h14 ht e6) (fun fv2 ar2 hr => hK n Ps _ _ _ _ _ _ _ _ _ _ _ _ _ _ _ _ _ _ hr hTS)
    · subst eS
      refine ⟨fun hf => ?_, fun hf => ?_⟩
      · refine ⟨lB c d k r tr kr _ (ftC li) (tgC li n) (nI n) lw kl ik (101, 103, rj) s0 s1 s2 s3, pTextT 51 tx, [], (by first | (rw [List.append_nil]; done) | (rw [List.append_nil]; rfl)), rfl, rfl, ?_⟩
        refine V.nm (lv0 i) [.int _] _ rfl rfl (hun _) ?_
        exact lc_2b hnc hns (mtx_bad (rd2 := (ar 13, 0, nI Rr.2.2.2.1, Rr.2.2.2.2.1, nI Rr.2.2.2.2.2.1, Rr.2.2.2.2.2.2.1, Rr.2.2.2.2.2.2.2.1, cod2, nI Ln, ed)) hR h14 ht h6 eR hf rfl rfl ⟨_, rfl⟩) (fun fv2 ar2 hr => hK n Ps _ _ _ _ _ _ _ _ _ _ _ _ _ _ _ _ _ _ hr hTS)
      · refine ⟨lB c d k r tr kr _ (ftC li) (va_up (tgC li n) n (some 112)) (nI (n + 1)) lw kl ik (101, 103, rj) s0 s1 s2 s3, pTextT 51 tx, pTextT 56 (bI (hasT cod2 Ln), Ln, cod2, ed, fz, fz), (by rw [← List.append_assoc]; rfl), rfl, rfl, ?_⟩
        refine V.nm (lv0 i) [.int (nI n)] (lW c d k r tr kr (ar 13, 0, nI Rr.2.2.2.1, Rr.2.2.2.2.1, nI Rr.2.2.2.2.2.1, Rr.2.2.2.2.2.2.1, Rr.2.2.2.2.2.2.2.1, cod2, nI Ln, ed) (n + 1) lw kl ik rj s0 s1 s2 s3 fv ar ((TA ++ tx :: TB) ++ [(bI (hasT cod2 Ln), Ln, cod2, ed, fz, fz)])) rfl rfl ?_ ?_
        · rw [eT_lB hn0 hli, pT_in, pT_map (o2 := 81 + 5 * n) (fun j _ => eT_new)]
          unfold lW
          rw [lT_app, ← List.append_assoc (pMo fv ar), lt, hTS.1]
          simp only [List.append_assoc]
          rfl
        · subst eL
          refine lc_2b hnc hns (mtx_new (rd2 := (ar 13, 0, nI Rr.2.2.2.1, Rr.2.2.2.2.1, nI Rr.2.2.2.2.2.1, Rr.2.2.2.2.2.2.1, Rr.2.2.2.2.2.2.2.1, cod2, nI Rr.2.2.2.2.2.2.2.2.length, ed)) hR h14 ht h6 eR hf hrd hed rfl rfl ⟨_, rfl⟩) (fun fv2 ar2 hr => ?_)
          obtain ⟨P, hP, hr⟩ := hr
          exact hK (n + 1) _ _ _ _ _ _ _ _ _ _ _ _ _ _ _ _ _ _ _ hr (hTS.snoc hP)
end
