/-! ===== the class: levels of the reader, findFault ===== -/
def qLv (tp : fI) (n : Nat) : Nat → (zS → zS) × (zS → zS) × (zS → zS)
  | 0 => (qOn tp n none, qDn tp n none (qCm tp n (qSm tp n (qTm tp n (qOn tp n none)))), qEt tp n (qBt tp n (qDn tp n none (qCm tp n (qSm tp n (qTm tp n (qOn tp n none)))))))
  | d + 1 => (qOn tp n (some ((qLv tp n d).1, (qLv tp n d).2.2)), qDn tp n (some (qLv tp n d).2.1) (qCm tp n (qSm tp n (qTm tp n (qOn tp n (some ((qLv tp n d).1, (qLv tp n d).2.2)))))), qEt tp n (qBt tp n (qDn tp n (some (qLv tp n d).2.1) (qCm tp n (qSm tp n (qTm tp n (qOn tp n (some ((qLv tp n d).1, (qLv tp n d).2.2)))))))))
theorem c2_lv {l : Launch} {tp : fI} {n : Nat} (hnx : ∀ l, Ct l mX1_next false 7 0 0 T1_next) : ∀ d, d ≤ 5 → Ct l mX1_readOne false (9 + 7 * d) 0 0 (T_q tp n [.int (nI (5 - d))] (qLv tp n d).1) ∧ Ct l mX1_readDenied false (13 + 7 * d) 0 0 (T_q tp n [.int (nI (5 - d))] (qLv tp n d).2.1) ∧ Ct l mX1_readEither false (15 + 7 * d) 0 0 (T_q tp n [.int (nI (5 - d))] (qLv tp n d).2.2)
  | 0, _ => by
    have h1 : Ct l mX1_readOne false 9 0 0 (T_q tp n [.int (nI 5)] (qOn tp n none)) := c2_one0 (Nat.le_refl 9) hnx rfl
    have h2 := c2_compared (by omega) hnx (c2_sum (by omega) hnx (c2_term (by omega) hnx h1))
    have h3 := c2_denied0 (by omega) hnx h2 rfl
    exact ⟨h1, h3, c2_either (by omega) hnx (c2_both (by omega) hnx h3)⟩
  | d + 1, hd => by
    obtain ⟨g1, g2, g3⟩ := c2_lv hnx d (by omega)
    rw [show 5 - d = 5 - (d + 1) + 1 by omega] at g1 g2 g3
    have h1 : Ct l mX1_readOne false (9 + 7 * (d + 1)) 0 0 (T_q tp n [.int (nI (5 - (d + 1)))] (qOn tp n (some ((qLv tp n d).1, (qLv tp n d).2.2)))) := c2_oneD (by omega) hnx (by omega) (by omega) (by omega) g1 g3
    have h2 := c2_compared (by omega) hnx (c2_sum (by omega) hnx (c2_term (by omega) hnx h1))
    have h3 := c2_deniedD (by omega) hnx h2 (by omega) (by omega) g2
    have h4 := c2_either (by omega) hnx (c2_both (by omega) hnx h3)
    rw [show 9 + 7 * (d + 1) + 1 + 1 + 1 + 1 = 13 + 7 * (d + 1) by omega] at h3
    rw [show 9 + 7 * (d + 1) + 1 + 1 + 1 + 1 + 1 + 1 = 15 + 7 * (d + 1) by omega] at h4
    exact ⟨h1, h3, h4⟩
/-- a part: its name, what it says, its end -/
def qPa (tp : fI) (n k : Nat) (s : zS) : zS := qEx tp n (nI 59) ((qLv tp n 5).2.2 (qEx tp n (nI (316 + k)) s))
def qFF (tp : fI) (n : Nat) (num : Int32) : zS × zS × zS × zS := (qPa tp n 0 (nxS tp n (0, nI 0, 0, num, -1, [])), qPa tp n 1 (qPa tp n 0 (nxS tp n (0, nI 0, 0, num, -1, []))), qPa tp n 2 (qPa tp n 1 (qPa tp n 0 (nxS tp n (0, nI 0, 0, num, -1, [])))), qEx tp n (nI 301) (qPa tp n 2 (qPa tp n 1 (qPa tp n 0 (nxS tp n (0, nI 0, 0, num, -1, []))))))
theorem nxS_tok {tp : fI} {n a t1 t2 : Nat} {k1 k2 num flt : Int32} {ou : List Int32} : nxS tp n (a, k1, t1, num, flt, ou) = nxS tp n (a, k2, t2, num, flt, ou) := rfl
def T1_findFault : zT := fun args hs Q => ∃ (tp : fI) (n : Nat) (pla tok : Int32) (t0 : Nat) (num flt : Int32) (cod : fI) (csz : Int32) (eds : fI), n ≤ 160 ∧ args = [.ref 0] ∧ hs = pRd 0 (tp, nI n, pla, tok, nI t0, num, flt, cod, csz, eds) ∧ ∀ R : zS × zS × zS × zS, R = qFF tp n num → ∀ cod2, rdI n R.2.2.2 cod2 → Q (some (.int R.2.2.2.2.2.2.2.1)) (pRz tp n (upd (upd (upd eds 0 (nI R.1.2.2.2.2.2.length)) 1 (nI R.2.1.2.2.2.2.2.length)) 2 (nI R.2.2.1.2.2.2.2.2.length)) R.2.2.2 cod2)
set_option maxHeartbeats 4000000 in
theorem c2_findFault (l : Launch) (hnx : ∀ l, Ct l mX1_next false 7 0 0 T1_next) : Ct l mX1_findFault false 52 0 0 T1_findFault := by
  refine Ct.intro mX1_findFault_ok ?_
  rintro args hs Q ⟨tp, n, pla, tok, t0, num, flt, cod, csz, eds, hn, rfl, rfl, h⟩
  refine ⟨Nat.le_of_ble_eq_true rfl, ?_⟩
  obtain ⟨S, hS⟩ : ∃ S, pRd 0 (tp, nI n, pla, tok, nI t0, num, flt, cod, csz, eds) = S := ⟨_, rfl⟩
  refine V.s0 hS ?_
  obtain ⟨E, hE⟩ : ∃ E, E = (qLv tp n 5).2.2 := ⟨_, rfl⟩
  have h5 : Ct l mX1_readEither false 50 0 0 (T_q tp n [.int (nI 0)] E) := by rw [hE]; exact (c2_lv hnx 5 (Nat.le_refl 5)).2.2
  obtain ⟨RF, hRF⟩ : ∃ RF, RF = qFF tp n num := ⟨_, rfl⟩
  rw [← hRF] at h
  unfold qFF qPa at hRF
  simp only [Nat.reduceAdd, ← hE] at hRF
  clear hE
  refine V.g2 60 [21] mX1_findFault_ok rfl ?_
  refine V.nm [(0, .ref 0)] [.ref 0] (pRz tp n eds (0, tok, t0, num, -1, []) cod) rfl rfl rfl ?_
  have hI : rdI n (0, tok, t0, num, -1, []) cod := ⟨Nat.zero_le n, Nat.zero_le 160, trivial⟩
  refine V.cw mX1_findFault_ok rfl lX1_34 (c2_next hnx) (hRk (by omega) (by decide)) 0 1 rfl rfl rfl rfl rfl rfl ⟨(0, tok, t0, num, -1, []), cod, eds, hn, hI, rfl, rfl, fun cod1 hI1 => ⟨rfl, ?_⟩⟩
  have hI0 := hI1
  obtain ⟨z0, hz0⟩ : ∃ z0, z0 = nxS tp n (0, nI 0, 0, num, -1, []) := ⟨_, rfl⟩
  rw [nxS_tok (k2 := nI 0) (t2 := 0), ← hz0] at hI0 ⊢
  rw [← hz0] at hRF
  refine V.g2 60 [21] mX1_findFault_ok rfl ?_
  refine V.nm [(1, .int (nI 0)), (0, .ref 0)] [] (pRz tp n eds z0 cod1) rfl rfl rfl ?_
  refine V.g2 60 [21] mX1_findFault_ok rfl ?_
  refine pk_le 3 0 (fun e0 => absurd e0 (by omega)) (fun e0 => ?_) rfl rfl
  refine V.cw mX1_findFault_ok rfl lX1_37 (c2_expect hnx) (hRk (by omega) (by decide)) 0 1 rfl rfl rfl rfl rfl rfl ⟨z0, cod1, eds, hn, hI0, rfl, rfl, fun cod2 hI2 => ⟨rfl, ?_⟩⟩
  refine V.g2 60 [21] mX1_findFault_ok rfl ?_
  refine V.cw mX1_findFault_ok rfl lX1_41 h5 (hRk (by omega) (by decide)) 0 1 rfl rfl rfl rfl rfl rfl ⟨(qEx tp n (nI 316) z0), cod2, eds, hn, hI2, rfl, rfl, fun cod3 hI3 => ⟨rfl, ?_⟩⟩
  refine V.g2 60 [21] mX1_findFault_ok rfl ?_
  refine V.cw mX1_findFault_ok rfl lX1_37 (c2_expect hnx) (hRk (by omega) (by decide)) 0 1 rfl rfl rfl rfl rfl rfl ⟨(E (qEx tp n (nI 316) z0)), cod3, eds, hn, hI3, rfl, rfl, fun cod4 hI4 => ⟨rfl, ?_⟩⟩
  refine V.nm [(1, .int (nI 0)), (0, .ref 0)] [] (pRz tp n eds (qEx tp n (nI 59) (E (qEx tp n (nI 316) z0))) cod4) rfl rfl rfl ?_
  have hI1 : rdI n (qEx tp n (nI 59) (E (qEx tp n (nI 316) z0))) cod4 := hI4
  obtain ⟨z1, hz1⟩ : ∃ z, z = qEx tp n (nI 59) (E (qEx tp n (nI 316) z0)) := ⟨_, rfl⟩
  rw [← hz1] at hI1 hRF ⊢
  refine V.nm [(1, .int (nI 0)), (0, .ref 0)] [] (pRz tp n eds z1 cod4) rfl rfl rfl ?_
  refine V.g2 60 [21] mX1_findFault_ok rfl ?_
  refine ⟨0, by omega, rfl, rfl, ?_⟩
  refine V.nm [(1, .int (nI 1)), (0, .ref 0)] [] (pRz tp n (upd eds 0 (nI z1.2.2.2.2.2.length)) z1 cod4) rfl rfl rfl ?_
  refine V.g2 60 [21] mX1_findFault_ok rfl ?_
  refine pk_le 3 1 (fun e0 => absurd e0 (by omega)) (fun e0 => ?_) rfl rfl
  refine V.cw mX1_findFault_ok rfl lX1_37 (c2_expect hnx) (hRk (by omega) (by decide)) 0 1 rfl rfl rfl rfl rfl rfl ⟨z1, cod4, (upd eds 0 (nI z1.2.2.2.2.2.length)), hn, hI1, rfl, rfl, fun cod5 hI5 => ⟨rfl, ?_⟩⟩
  refine V.g2 60 [21] mX1_findFault_ok rfl ?_
  refine V.cw mX1_findFault_ok rfl lX1_41 h5 (hRk (by omega) (by decide)) 0 1 rfl rfl rfl rfl rfl rfl ⟨(qEx tp n (nI 317) z1), cod5, (upd eds 0 (nI z1.2.2.2.2.2.length)), hn, hI5, rfl, rfl, fun cod6 hI6 => ⟨rfl, ?_⟩⟩
  refine V.g2 60 [21] mX1_findFault_ok rfl ?_
  refine V.cw mX1_findFault_ok rfl lX1_37 (c2_expect hnx) (hRk (by omega) (by decide)) 0 1 rfl rfl rfl rfl rfl rfl ⟨(E (qEx tp n (nI 317) z1)), cod6, (upd eds 0 (nI z1.2.2.2.2.2.length)), hn, hI6, rfl, rfl, fun cod7 hI7 => ⟨rfl, ?_⟩⟩
  refine V.nm [(1, .int (nI 1)), (0, .ref 0)] [] (pRz tp n (upd eds 0 (nI z1.2.2.2.2.2.length)) (qEx tp n (nI 59) (E (qEx tp n (nI 317) z1))) cod7) rfl rfl rfl ?_
  have hI2 : rdI n (qEx tp n (nI 59) (E (qEx tp n (nI 317) z1))) cod7 := hI7
  obtain ⟨z2, hz2⟩ : ∃ z, z = qEx tp n (nI 59) (E (qEx tp n (nI 317) z1)) := ⟨_, rfl⟩
  rw [← hz2] at hI2 hRF ⊢
  refine V.nm [(1, .int (nI 1)), (0, .ref 0)] [] (pRz tp n (upd eds 0 (nI z1.2.2.2.2.2.length)) z2 cod7) rfl rfl rfl ?_
  refine V.g2 60 [21] mX1_findFault_ok rfl ?_
  refine ⟨1, by omega, rfl, rfl, ?_⟩
  refine V.nm [(1, .int (nI 2)), (0, .ref 0)] [] (pRz tp n (upd (upd eds 0 (nI z1.2.2.2.2.2.length)) 1 (nI z2.2.2.2.2.2.length)) z2 cod7) rfl rfl rfl ?_
  refine V.g2 60 [21] mX1_findFault_ok rfl ?_
  refine pk_le 3 2 (fun e0 => absurd e0 (by omega)) (fun e0 => ?_) rfl rfl
  refine V.cw mX1_findFault_ok rfl lX1_37 (c2_expect hnx) (hRk (by omega) (by decide)) 0 1 rfl rfl rfl rfl rfl rfl ⟨z2, cod7, (upd (upd eds 0 (nI z1.2.2.2.2.2.length)) 1 (nI z2.2.2.2.2.2.length)), hn, hI2, rfl, rfl, fun cod8 hI8 => ⟨rfl, ?_⟩⟩
  refine V.g2 60 [21] mX1_findFault_ok rfl ?_
  refine V.cw mX1_findFault_ok rfl lX1_41 h5 (hRk (by omega) (by decide)) 0 1 rfl rfl rfl rfl rfl rfl ⟨(qEx tp n (nI 318) z2), cod8, (upd (upd eds 0 (nI z1.2.2.2.2.2.length)) 1 (nI z2.2.2.2.2.2.length)), hn, hI8, rfl, rfl, fun cod9 hI9 => ⟨rfl, ?_⟩⟩
  refine V.g2 60 [21] mX1_findFault_ok rfl ?_
  refine V.cw mX1_findFault_ok rfl lX1_37 (c2_expect hnx) (hRk (by omega) (by decide)) 0 1 rfl rfl rfl rfl rfl rfl ⟨(E (qEx tp n (nI 318) z2)), cod9, (upd (upd eds 0 (nI z1.2.2.2.2.2.length)) 1 (nI z2.2.2.2.2.2.length)), hn, hI9, rfl, rfl, fun cod10 hI10 => ⟨rfl, ?_⟩⟩
  refine V.nm [(1, .int (nI 2)), (0, .ref 0)] [] (pRz tp n (upd (upd eds 0 (nI z1.2.2.2.2.2.length)) 1 (nI z2.2.2.2.2.2.length)) (qEx tp n (nI 59) (E (qEx tp n (nI 318) z2))) cod10) rfl rfl rfl ?_
  have hI3 : rdI n (qEx tp n (nI 59) (E (qEx tp n (nI 318) z2))) cod10 := hI10
  obtain ⟨z3, hz3⟩ : ∃ z, z = qEx tp n (nI 59) (E (qEx tp n (nI 318) z2)) := ⟨_, rfl⟩
  rw [← hz3] at hI3 hRF ⊢
  refine V.nm [(1, .int (nI 2)), (0, .ref 0)] [] (pRz tp n (upd (upd eds 0 (nI z1.2.2.2.2.2.length)) 1 (nI z2.2.2.2.2.2.length)) z3 cod10) rfl rfl rfl ?_
  refine V.g2 60 [21] mX1_findFault_ok rfl ?_
  refine ⟨2, by omega, rfl, rfl, ?_⟩
  refine V.nm [(1, .int (nI 3)), (0, .ref 0)] [] (pRz tp n (upd (upd (upd eds 0 (nI z1.2.2.2.2.2.length)) 1 (nI z2.2.2.2.2.2.length)) 2 (nI z3.2.2.2.2.2.length)) z3 cod10) rfl rfl rfl ?_
  refine V.g2 60 [21] mX1_findFault_ok rfl ?_
  refine pk_le 3 3 (fun e0 => ?_) (fun e0 => absurd e0 (by omega)) rfl rfl
  refine V.cw mX1_findFault_ok rfl lX1_37 (c2_expect hnx) (hRk (by omega) (by decide)) 0 1 rfl rfl rfl rfl rfl rfl ⟨z3, cod10, (upd (upd (upd eds 0 (nI z1.2.2.2.2.2.length)) 1 (nI z2.2.2.2.2.2.length)) 2 (nI z3.2.2.2.2.2.length)), hn, hI3, rfl, rfl, fun cod11 hI11 => ⟨rfl, ?_⟩⟩
  refine V.nm [(1, .int (nI 3)), (0, .ref 0)] [] (pRz tp n (upd (upd (upd eds 0 (nI z1.2.2.2.2.2.length)) 1 (nI z2.2.2.2.2.2.length)) 2 (nI z3.2.2.2.2.2.length)) (qEx tp n (nI 301) z3) cod11) rfl rfl rfl ?_
  refine V.g2 60 [21] mX1_findFault_ok rfl ?_
  subst hRF
  exact ⟨_, zsim_rfl _, h _ rfl _ hI11⟩
