def T_askLaw : zT := fun args hs Q => ∃ (bl : Int32) (lt : Int64) (te : Int32) (ha dr : fI) (hd pu az co ho bu bb fa : Int32) (c : zCart) (nt : Int32) (n : Nat) (cd en nm sk : fI) (P : zP), tTx nt n cd en P ∧ args = [.ref 0] ∧ hs = pRW bl lt te ha dr hd pu az co ho bu bb fa c nt n cd en nm sk ∧ ∀ nm' sk', Q none (pRW bl lt te ha (flF (drS c P ha te) dr 4) (hoS c P ha te) pu az co ho bu bb fa c nt n cd en nm' sk')
set_option maxHeartbeats 4000000 in
theorem ct_askLaw (l : Launch) : Ct l mX2_askLaw false 4 0 0 T_askLaw := by
  refine Ct.intro mX2_askLaw_ok ?_
  rintro args hs Q ⟨bl, lt, te, ha, dr, hd, pu, az, co, ho, bu, bb, fa, c, nt, n, cd, en, nm, sk, P, hT, rfl, rfl, h⟩
  refine ⟨Nat.le_of_ble_eq_true rfl, ?_⟩
  obtain ⟨hn, hp0, hp1, hp2, -, -⟩ := id hT
  generalize hS : pRW bl lt te ha dr hd pu az co ho bu bb fa c nt n cd en nm sk = S
  have loop2 : ∀ (k i : Nat) (x hd' : Int32) (nm' sk' : fI), i + k = 2 → x = nI i → nm' 0 = 0 → nm' 4 = 0 → nm' 2 = paC c → nm' 3 = te → hd' = (if i = 0 then 0 else if i = 1 then 0 + sayF P.2.1 (nmF 0 (ha 0) (paC c) te 0 (nI 0)) else hoS c P ha te) → V l mX2_askLaw false S (zrm 4 0 0) (zFm false S Q 0 0) 0 0 137 [(1, .int x), (0, .ref 0)] [] (pRW bl lt te ha (flF (drS c P ha te) dr 4) hd' pu az co ho bu bb fa c nt n cd en nm' sk') := by
    intro k
    induction k with
    | zero =>
      intro i x hd' nm' sk' hi hx g0 g4 g2 g3 hh
      have : i = 2 := by omega
      subst this
      refine V.g 60 [137] mX2_askLaw_ok rfl ?_
      refine pk_le 2 2 (fun _ => ⟨_, zsim_rfl _, ?_⟩) (fun e => absurd e (by omega)) rfl hx
      have e2 : hd' = hoS c P ha te := hh
      rw [e2]
      exact h nm' sk'
    | succ k ih =>
      intro i x hd' nm' sk' hi hx g0 g4 g2 g3 hh
      have ex := pk_cl i hx
      refine V.g 60 [137] mX2_askLaw_ok rfl ?_
      refine pk_le 2 i (fun e => absurd e (by omega)) (fun _ => ?_) rfl hx
      refine And.intro (pk_in i 2 (by omega) hx) ?_
      refine V.cV1 mX2_askLaw_ok rfl lX2_119 (ct_name l) rfl [10, 11, 12, 13, 14] (pText 0 nt n cd en nm' sk') [.ref 0, .int (nI 1), .int (ha (cl x))] [] rfl 0 5 rfl rfl rfl rfl rfl rfl rfl rfl none _ ⟨nt, n, cd, en, nm', sk', 1, (ha (cl x)), by omega, rfl, rfl, rfl, rfl⟩ rfl (pRW bl lt te ha (flF (drS c P ha te) dr 4) hd' pu az co ho bu bb fa c nt n cd en (upd nm' 1 (ha (cl x))) sk') none [(1, .int x), (0, .ref 0)] rfl rfl rfl ?_
      refine V.g 60 [137] mX2_askLaw_ok rfl ?_
      refine V.cV1 mX2_askLaw_ok rfl lX2_119 (ct_name l) rfl [10, 11, 12, 13, 14] (pText 0 nt n cd en (upd nm' 1 (ha (cl x))) sk') [.ref 0, .int (nI 5), .int x] [] rfl 0 5 rfl rfl rfl rfl rfl rfl rfl rfl none _ ⟨nt, n, cd, en, (upd nm' 1 (ha (cl x))), sk', 5, x, by omega, rfl, rfl, rfl, rfl⟩ rfl (pRW bl lt te ha (flF (drS c P ha te) dr 4) hd' pu az co ho bu bb fa c nt n cd en (upd (upd nm' 1 (ha (cl x))) 5 x) sk') none [(1, .int x), (0, .ref 0)] rfl rfl rfl ?_
      refine V.g 60 [137] mX2_askLaw_ok rfl ?_
      refine V.callV mX2_askLaw_ok rfl lX2_129 (ct_says l) rfl (fun k => k) (fun _ _ => rfl) [10, 11, 12, 13, 14] (pText 0 nt n cd en (upd (upd nm' 1 (ha (cl x))) 5 x) sk') [.ref 0, .int (nI 1)] [.int hd', .ref 0] (fun v wc' => ∃ sk2, v = some (.int (sayF P.2.1 (upd (upd nm' 1 (ha (cl x))) 5 x))) ∧ wc' = pText 0 nt n cd en (upd (upd nm' 1 (ha (cl x))) 5 x) sk2) rfl 0 5 rfl rfl rfl rfl rfl rfl rfl rfl ⟨nt, n, cd, en, _, sk', 1, P.2.1, hn, by omega, hp1, rfl, rfl, fun sk2 => ⟨sk2, rfl, rfl⟩⟩ (fun v wc' hq => ?_)
      obtain ⟨sk2, rfl, rfl⟩ := hq
      refine ⟨rfl, ?_⟩
      refine V.nm [(1, .int x), (0, .ref 0)] [.int (sayF P.2.1 (upd (upd nm' 1 (ha (cl x))) 5 x)), .int hd', .ref 0] (pRW bl lt te ha (flF (drS c P ha te) dr 4) hd' pu az co ho bu bb fa c nt n cd en (upd (upd nm' 1 (ha (cl x))) 5 x) sk2) rfl rfl rfl ?_
      refine V.g 60 [137] mX2_askLaw_ok rfl ?_
      refine V.nm [(1, .int (x + zi 1)), (0, .ref 0)] [] (pRW bl lt te ha (flF (drS c P ha te) dr 4) (hd' + sayF P.2.1 (upd (upd nm' 1 (ha (cl x))) 5 x)) pu az co ho bu bb fa c nt n cd en (upd (upd nm' 1 (ha (cl x))) 5 x) sk2) rfl rfl rfl ?_
      refine ih (i + 1) _ _ _ _ (by omega) (by rw [hx]; exact nI_1 i) g0 g4 g2 g3 ?_
      have es : sayF P.2.1 (upd (upd nm' 1 (ha (cl x))) 5 x) = sayF P.2.1 (nmF 0 (ha i) (paC c) te 0 (nI i)) := by
        refine nm_all ?_ ?_ ?_ ?_ ?_ ?_ P.2.1
        · exact g0
        · show ha (cl x) = ha i
          rw [show cl x = i from ex]
        · exact g2
        · exact g3
        · exact g4
        · exact hx
      rw [es, hh]
      rcases (show i = 0 ∨ i = 1 by omega) with rfl | rfl
      · rfl
      · rfl
  have loop1 : ∀ (k w : Nat) (x : Int32) (dr' nm' sk' : fI), w + k = 4 → x = nI w → nm' 2 = paC c → nm' 3 = te → dr' = flF (drS c P ha te) dr w → V l mX2_askLaw false S (zrm 4 0 0) (zFm false S Q 0 0) 0 0 29 [(1, .int x), (0, .ref 0)] [] (pRW bl lt te ha dr' hd pu az co ho bu bb fa c nt n cd en nm' sk') := by
    intro k
    induction k with
    | zero =>
      intro w x dr' nm' sk' hw hx g2 g3 hdr
      have : w = 4 := by omega
      subst this
      subst hdr
      refine V.g 60 [137, 29] mX2_askLaw_ok rfl ?_
      refine pk_le 4 4 (fun _ => ?_) (fun e => absurd e (by omega)) rfl hx
      refine V.cV1 mX2_askLaw_ok rfl lX2_119 (ct_name l) rfl [10, 11, 12, 13, 14] (pText 0 nt n cd en nm' sk') [.ref 0, .int (nI 0), .int (nI 0)] [] rfl 0 5 rfl rfl rfl rfl rfl rfl rfl rfl none _ ⟨nt, n, cd, en, nm', sk', 0, (nI 0), by omega, rfl, rfl, rfl, rfl⟩ rfl (pRW bl lt te ha (flF (drS c P ha te) dr 4) hd pu az co ho bu bb fa c nt n cd en (upd nm' 0 (nI 0)) sk') none [(1, .int x), (0, .ref 0)] rfl rfl rfl ?_
      refine V.g 60 [137, 29] mX2_askLaw_ok rfl ?_
      refine V.cV1 mX2_askLaw_ok rfl lX2_119 (ct_name l) rfl [10, 11, 12, 13, 14] (pText 0 nt n cd en (upd nm' 0 (nI 0)) sk') [.ref 0, .int (nI 4), .int (nI 0)] [] rfl 0 5 rfl rfl rfl rfl rfl rfl rfl rfl none _ ⟨nt, n, cd, en, (upd nm' 0 (nI 0)), sk', 4, (nI 0), by omega, rfl, rfl, rfl, rfl⟩ rfl (pRW bl lt te ha (flF (drS c P ha te) dr 4) hd pu az co ho bu bb fa c nt n cd en (upd (upd nm' 0 (nI 0)) 4 (nI 0)) sk') none [(1, .int x), (0, .ref 0)] rfl rfl rfl ?_
      refine V.g 60 [137, 29] mX2_askLaw_ok rfl ?_
      refine V.nm [(1, .int (nI 0)), (0, .ref 0)] [] (pRW bl lt te ha (flF (drS c P ha te) dr 4) (nI 0) pu az co ho bu bb fa c nt n cd en (upd (upd nm' 0 (nI 0)) 4 (nI 0)) sk') rfl rfl rfl ?_
      exact loop2 2 0 _ _ _ _ rfl rfl rfl rfl g2 g3 rfl
    | succ k ih =>
      intro w x dr' nm' sk' hw hx g2 g3 hdr
      have ex := pk_cl w hx
      have er : x - x / nI 2 * nI 2 = nI (w % 2) := by rw [hx]; exact pk_rem (by omega) (by omega) (by omega)
      refine V.g 60 [137, 29] mX2_askLaw_ok rfl ?_
      refine pk_le 4 w (fun e => absurd e (by omega)) (fun _ => ?_) rfl hx
      refine V.cV1 mX2_askLaw_ok rfl lX2_123 (ct_loadOver l) rfl [3, 4, 5, 6, 7, 8, 9] (pCart 0 c) [.ref 0, .int x] [.int (nI 0), .ref 20] rfl 0 0 rfl rfl rfl rfl rfl rfl rfl rfl (some (.int (ldO c w))) (pCart 0 c) ⟨c, w, by omega, by rw [hx], rfl, rfl, rfl⟩ rfl (pRW bl lt te ha dr' hd pu az co ho bu bb fa c nt n cd en nm' sk') (some (.int (ldO c w))) [(1, .int x), (0, .ref 0)] rfl rfl rfl ?_
      refine V.cV1 mX2_askLaw_ok rfl lX2_119 (ct_name l) rfl [10, 11, 12, 13, 14] (pText 0 nt n cd en nm' sk') [.ref 0, .int (nI 0), .int (ldO c w)] [] rfl 0 5 rfl rfl rfl rfl rfl rfl rfl rfl none _ ⟨nt, n, cd, en, nm', sk', 0, (ldO c w), by omega, rfl, rfl, rfl, rfl⟩ rfl (pRW bl lt te ha dr' hd pu az co ho bu bb fa c nt n cd en (upd nm' 0 (ldO c w)) sk') none [(1, .int x), (0, .ref 0)] rfl rfl rfl ?_
      refine V.g 60 [137, 29] mX2_askLaw_ok rfl ?_
      refine And.intro (show ¬ nI 2 = 0 by decide) (And.intro (pk_in (w % 2) 2 (by omega) er) ?_)
      refine V.cV1 mX2_askLaw_ok rfl lX2_119 (ct_name l) rfl [10, 11, 12, 13, 14] (pText 0 nt n cd en (upd nm' 0 (ldO c w)) sk') [.ref 0, .int (nI 1), .int (ha (cl (x - x / nI 2 * nI 2)))] [] rfl 0 5 rfl rfl rfl rfl rfl rfl rfl rfl none _ ⟨nt, n, cd, en, (upd nm' 0 (ldO c w)), sk', 1, (ha (cl (x - x / nI 2 * nI 2))), by omega, rfl, rfl, rfl, rfl⟩ rfl (pRW bl lt te ha dr' hd pu az co ho bu bb fa c nt n cd en (upd (upd nm' 0 (ldO c w)) 1 (ha (cl (x - x / nI 2 * nI 2)))) sk') none [(1, .int x), (0, .ref 0)] rfl rfl rfl ?_
      refine V.g 60 [137, 29] mX2_askLaw_ok rfl ?_
      refine And.intro (pk_in w 4 (by omega) hx) ?_
      refine V.cV1 mX2_askLaw_ok rfl lX2_119 (ct_name l) rfl [10, 11, 12, 13, 14] (pText 0 nt n cd en (upd (upd nm' 0 (ldO c w)) 1 (ha (cl (x - x / nI 2 * nI 2)))) sk') [.ref 0, .int (nI 4), .int (moC c (cl x))] [] rfl 0 5 rfl rfl rfl rfl rfl rfl rfl rfl none _ ⟨nt, n, cd, en, (upd (upd nm' 0 (ldO c w)) 1 (ha (cl (x - x / nI 2 * nI 2)))), sk', 4, (moC c (cl x)), by omega, rfl, rfl, rfl, rfl⟩ rfl (pRW bl lt te ha dr' hd pu az co ho bu bb fa c nt n cd en (upd (upd (upd nm' 0 (ldO c w)) 1 (ha (cl (x - x / nI 2 * nI 2)))) 4 (moC c (cl x))) sk') none [(1, .int x), (0, .ref 0)] rfl rfl rfl ?_
      refine V.g 60 [137, 29] mX2_askLaw_ok rfl ?_
      refine V.cV1 mX2_askLaw_ok rfl lX2_119 (ct_name l) rfl [10, 11, 12, 13, 14] (pText 0 nt n cd en (upd (upd (upd nm' 0 (ldO c w)) 1 (ha (cl (x - x / nI 2 * nI 2)))) 4 (moC c (cl x))) sk') [.ref 0, .int (nI 5), .int x] [] rfl 0 5 rfl rfl rfl rfl rfl rfl rfl rfl none _ ⟨nt, n, cd, en, (upd (upd (upd nm' 0 (ldO c w)) 1 (ha (cl (x - x / nI 2 * nI 2)))) 4 (moC c (cl x))), sk', 5, x, by omega, rfl, rfl, rfl, rfl⟩ rfl (pRW bl lt te ha dr' hd pu az co ho bu bb fa c nt n cd en (upd (upd (upd (upd nm' 0 (ldO c w)) 1 (ha (cl (x - x / nI 2 * nI 2)))) 4 (moC c (cl x))) 5 x) sk') none [(1, .int x), (0, .ref 0)] rfl rfl rfl ?_
      refine V.g 60 [137, 29] mX2_askLaw_ok rfl ?_
      generalize hnm : (upd (upd (upd (upd nm' 0 (ldO c w)) 1 (ha (cl (x - x / nI 2 * nI 2)))) 4 (moC c (cl x))) 5 x) = nm2
      refine V.callV mX2_askLaw_ok rfl lX2_129 (ct_says l) rfl (fun k => k) (fun _ _ => rfl) [10, 11, 12, 13, 14] (pText 0 nt n cd en nm2 sk') [.ref 0, .int (nI 0)] [.int x, .ref 4] (fun v wc' => ∃ sk2, v = some (.int (sayF P.1 nm2)) ∧ wc' = pText 0 nt n cd en nm2 sk2) rfl 0 5 rfl rfl rfl rfl rfl rfl rfl rfl ⟨nt, n, cd, en, _, sk', 0, P.1, hn, by omega, hp0, rfl, rfl, fun sk2 => ⟨sk2, rfl, rfl⟩⟩ (fun v wc' hq => ?_)
      obtain ⟨sk2, rfl, rfl⟩ := hq
      refine ⟨rfl, ?_⟩
      refine V.nm [(1, .int x), (0, .ref 0)] [.int (sayF P.1 nm2), .int x, .ref 4] (pRW bl lt te ha dr' hd pu az co ho bu bb fa c nt n cd en nm2 sk2) rfl rfl rfl ?_
      refine V.g 60 [137, 29] mX2_askLaw_ok rfl ?_
      refine And.intro (pk_in w 4 (by omega) hx) ?_
      refine V.nm [(1, .int (x + zi 1)), (0, .ref 0)] [] (pRW bl lt te ha (upd dr' (cl x) (sayF P.1 nm2)) hd pu az co ho bu bb fa c nt n cd en nm2 sk2) rfl rfl rfl ?_
      refine ih (w + 1) _ _ _ _ (by omega) (by rw [hx]; exact nI_1 w) (by subst hnm; exact g2) (by subst hnm; exact g3) ?_
      have es : sayF P.1 nm2 = drS c P ha te w := by
        rw [drS]
        subst hnm
        refine nm_all ?_ ?_ ?_ ?_ ?_ ?_ P.1
        · rfl
        · show ha (cl (x - x / nI 2 * nI 2)) = ha (w % 2)
          rw [show cl (x - x / nI 2 * nI 2) = w % 2 from pk_cl _ er]
        · exact g2
        · exact g3
        · show moC c (cl x) = moC c w
          rw [show cl x = w from ex]
        · exact hx
      rw [es, hdr, show cl x = w from ex]
      exact flF_s _ _ w
  subst hS
  refine V.g 60 [137, 29] mX2_askLaw_ok rfl ?_
  refine V.cV1 mX2_askLaw_ok rfl lX2_119 (ct_name l) rfl [10, 11, 12, 13, 14] (pText 0 nt n cd en nm sk) [.ref 0, .int (nI 2), .int (paC c)] [] rfl 0 5 rfl rfl rfl rfl rfl rfl rfl rfl none _ ⟨nt, n, cd, en, nm, sk, 2, (paC c), by omega, rfl, rfl, rfl, rfl⟩ rfl (pRW bl lt te ha dr hd pu az co ho bu bb fa c nt n cd en (upd nm 2 (paC c)) sk) none [(0, .ref 0)] rfl rfl rfl ?_
  refine V.g 60 [137, 29] mX2_askLaw_ok rfl ?_
  refine V.cV1 mX2_askLaw_ok rfl lX2_119 (ct_name l) rfl [10, 11, 12, 13, 14] (pText 0 nt n cd en (upd nm 2 (paC c)) sk) [.ref 0, .int (nI 3), .int te] [] rfl 0 5 rfl rfl rfl rfl rfl rfl rfl rfl none _ ⟨nt, n, cd, en, (upd nm 2 (paC c)), sk, 3, te, by omega, rfl, rfl, rfl, rfl⟩ rfl (pRW bl lt te ha dr hd pu az co ho bu bb fa c nt n cd en (upd (upd nm 2 (paC c)) 3 te) sk) none [(0, .ref 0)] rfl rfl rfl ?_
  refine V.g 60 [137, 29] mX2_askLaw_ok rfl ?_
  refine V.nm [(1, .int (nI 0)), (0, .ref 0)] [] (pRW bl lt te ha dr hd pu az co ho bu bb fa c nt n cd en (upd (upd nm 2 (paC c)) 3 te) sk) rfl rfl rfl ?_
  exact loop1 4 0 _ _ _ _ rfl rfl rfl rfl (flF_0 _ _).symm
