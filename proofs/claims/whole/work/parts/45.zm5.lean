/-! ===== straight, hold ===== -/
def haH (h : Nat) : fI := fun i => if i = 0 then nI (h / 10) else nI (h % 10)
def cwH (c : zCart) (ha : fI) : zCart := (kdC c, moC c, kiC c, loC c, ha, wiC c, paC c)
theorem haH_sim {f : fI} {h : Nat} : ∀ i, i < 2 → upd (upd f 0 (nI (h / 10))) 1 (nI (h % 10)) i = haH h i := by
  intro i hi
  rcases (show i = 0 ∨ i = 1 by omega) with rfl | rfl <;> rfl
/-- the least of f 0 .. f (n - 1), of like ones the first: where, which -/
def mnF (f : Nat → Int32) : Nat → Nat × Int32
  | 0 => (0, 1000000)
  | n + 1 => if f n < (mnF f n).2 then (n, f n) else mnF f n
def faF (c : zCart) (P : zP) : Int32 := (rlF c P (haC c) 30).2.2.2.2.2.2
def coF (c : zCart) (P : zP) : Int32 := (rlF c P (haC c) 30).2.2.2.1 + (rlF c P (haC c) 30).2.2.2.2.1
def lhF (B : Bool) (c : zCart) (P : zP) (h : Nat) : Int32 := bif B then coF (cwH c (haH h)) P else faF (cwH c (haH h)) P
def T_leastHands : zT := fun args hs Q => ∃ (c d k : zCart) (r tr kr : zRow) (rd : zRd) (ft : Nat) (tg : Nat → Option Nat) (tc lw kl ik : Int32) (ri : zRi) (s0 s1 s2 s3 : zSh) (tx : zTx) (P : zP) (y : Int32) (B : Bool), lOk tg lw tx P ∧ kOk c ∧ args = [.ref 0, .int y, .int (bI B)] ∧ hs = pX c d k r tr kr rd ft tg tc lw kl ik ri s0 s1 s2 s3 tx ∧ (wiB y 1 = false → Q (some (.int (-2))) hs) ∧ (wiB y 1 = true → ∀ d' ri' nm' sk', Q (some (.int (if y = nI 0 then nI (mnF (lhF B c P) 100).1 else (mnF (lhF B c P) 100).2))) (pX c d' k r tr kr rd ft tg tc lw kl ik ri' s0 s1 s2 s3 (txS tx nm' sk')))
set_option maxHeartbeats 4000000 in
theorem ct_leastHands (l : Launch) : Ct l mX6_leastHands false 8 0 0 T_leastHands := by
  refine Ct.intro mX6_leastHands_ok ?_
  rintro args hs Q ⟨c, d, k, r, tr, kr, rd, ft, tg, tc, lw, kl, ik, ri, s0, s1, s2, s3, tx, P, y, B, hL, hok, rfl, rfl, h0, h1⟩
  refine ⟨Nat.le_of_ble_eq_true rfl, ?_⟩
  obtain ⟨nt, n, cd, en, nm, sk⟩ := tx
  generalize hS : pX c d k r tr kr rd ft tg tc lw kl ik ri s0 s1 s2 s3 (nt, n, cd, en, nm, sk) = S at h0
  generalize hz : bI B = z
  have loop : ∀ (m i : Nat) (x5 x4 x3 : Int32) (hb0 : wiB y 1 = true) (ha : fI) (ri' : zRi) (nm' sk' : fI), i + m = 100 → x5 = nI i → x4 = nI (mnF (lhF B c P) i).1 → x3 = (mnF (lhF B c P) i).2 → V l mX6_leastHands false S (zrm 8 0 0) (zFm false S Q 0 0) 0 0 32 [(5, .int x5), (4, .int x4), (3, .int x3), (0, .ref 0), (1, .int y), (2, .int z)] [] (pX c (cwH c ha) k r tr kr rd ft tg tc lw kl ik ri' s0 s1 s2 s3 (nt, n, cd, en, nm', sk')) := by
    intro m
    induction m with
    | zero =>
      intro i x5 x4 x3 hb0 ha ri' nm' sk' hi h5 h4 h3
      have : i = 100 := by omega
      subst this
      have h := h1 hb0 (cwH c ha) ri' nm' sk'
      obtain ⟨w, hw, rfl⟩ := wiB_t hb0 (by omega)
      rw [← h4, ← h3] at h
      refine V.g 20 [32] mX6_leastHands_ok rfl ?_
      refine pk_le 100 100 (fun _ => ?_) (fun e => absurd e (by omega)) rfl h5
      refine zp_ne w 0 (fun e => ⟨_, zsim_rfl _, ?_⟩) (fun e => ⟨_, zsim_rfl _, ?_⟩)
      · rw [if_neg (znI (by omega) (by omega) e)] at h
        exact h
      · subst e
        rw [if_pos rfl] at h
        exact h
    | succ m ih =>
      intro i x5 x4 x3 hb0 ha ri' nm' sk' hi h5 h4 h3
      have t71 : ∀ (v : Int32) (ri2 : zRi) (nm2 sk2 : fI), v = lhF B c P i → V l mX6_leastHands false S (zrm 8 0 0) (zFm false S Q 0 0) 0 0 71 [(5, .int x5), (4, .int x4), (3, .int x3), (0, .ref 0), (1, .int y), (2, .int z)] [.int v] (pX c (cwH c (haH i)) k r tr kr rd ft tg tc lw kl ik ri2 s0 s1 s2 s3 (nt, n, cd, en, nm2, sk2)) := by
        intro v ri2 nm2 sk2 hv
        refine V.g 20 [32] mX6_leastHands_ok rfl ?_
        refine And.intro (fun e => ?_) (fun e => ?_)
        · refine V.key [5, 4, 3, 0, 1, 2] ?_
          have e2 : mnF (lhF B c P) (i + 1) = mnF (lhF B c P) i := by
            rw [mnF, if_neg]
            rw [← hv, ← h3]
            exact Int32.not_lt.mpr e
          exact ih (i + 1) _ _ _ hb0 _ _ _ _ (by omega) (by rw [h5]; exact nI_1 i) (by rw [e2]; exact h4) (by rw [e2]; exact h3)
        · refine V.key [5, 4, 3, 0, 1, 2] ?_
          have e2 : mnF (lhF B c P) (i + 1) = (i, lhF B c P i) := by
            rw [mnF, if_pos]
            rw [← hv, ← h3]
            exact Int32.not_le.mp e
          exact ih (i + 1) _ _ _ hb0 _ _ _ _ (by omega) (by rw [h5]; exact nI_1 i) (by rw [e2]; exact h5) (by rw [e2]; exact hv)
      refine V.g 10 [32] mX6_leastHands_ok rfl ?_
      refine pk_le 100 i (fun e => absurd e (by omega)) (fun _ => ?_) rfl h5
      refine V.cV1 mX6_leastHands_ok rfl lX6_218 (ct_takeHands l) rfl [8, 9, 10, 11, 12, 13, 14] (pCart 0 (cwH c ha)) [.ref 0, .int x5] [] rfl 0 0 rfl rfl rfl rfl rfl rfl rfl rfl none (pCart 0 (cwH c (upd (upd ha 0 (nI (i / 10))) 1 (nI (i % 10))))) ⟨cwH c ha, i, by omega, by rw [h5], rfl, rfl, rfl⟩ rfl (pX c (cwH c (upd (upd ha 0 (nI (i / 10))) 1 (nI (i % 10)))) k r tr kr rd ft tg tc lw kl ik ri' s0 s1 s2 s3 (nt, n, cd, en, nm', sk')) none [(5, .int x5), (4, .int x4), (3, .int x3), (0, .ref 0), (1, .int y), (2, .int z)] rfl rfl rfl ?_
      refine V.sim (hs' := pX c (cwH c (haH i)) k r tr kr rd ft tg tc lw kl ik ri' s0 s1 s2 s3 (nt, n, cd, en, nm', sk')) ?_ ?_
      · exact zsim_e (zsim_e (zsim_e (zsim_e (zsim_e (zsim_e (zsim_e (zsim_e (zsim_e (zsim_e (zsim_e (zsim_e (zsim_e (zsim_c (zsm_i haH_sim) (zsim_rfl _))))))))))))))
      · cases B with
        | true =>
          refine V.g 10 [71] mX6_leastHands_ok rfl ?_
          refine And.intro (fun e => absurd (hz.trans e) (by decide)) (fun _ => ?_)
          refine V.callVW mX6_leastHands_ok rfl lX6_221 (ct_costOf_t l) rfl [.ref 0, .ref 16] [] (fun v hs' => ∃ (vv : Int32) (ri2 : zRi) (nm2 sk2 : fI), vv = lhF true c P i ∧ v = some (.int vv) ∧ hs' = pX c (cwH c (haH i)) k r tr kr rd ft tg tc lw kl ik ri2 s0 s1 s2 s3 (nt, n, cd, en, nm2, sk2)) rfl 0 6 rfl rfl rfl rfl rfl rfl ⟨c, cwH c (haH i), k, r, tr, kr, rd, ft, tg, tc, lw, kl, ik, ri', s0, s1, s2, s3, (nt, n, cd, en, nm', sk'), P, hL, hok, rfl, rfl, fun ri2 nm2 sk2 => ⟨_, ri2, nm2, sk2, rfl, rfl, rfl⟩⟩ (fun v hs' hv => ?_)
          obtain ⟨vv, ri2, nm2, sk2, hvv, rfl, rfl⟩ := hv
          refine ⟨rfl, ?_⟩
          refine V.g 10 [71] mX6_leastHands_ok rfl ?_
          exact t71 vv ri2 nm2 sk2 hvv
        | false =>
          refine V.g 10 [71] mX6_leastHands_ok rfl ?_
          refine And.intro (fun _ => ?_) (fun e => absurd hz.symm e)
          refine V.callVW mX6_leastHands_ok rfl lX6_225 (ct_farthestOf_t l) rfl [.ref 0, .ref 16] [] (fun v hs' => ∃ (vv : Int32) (ri2 : zRi) (nm2 sk2 : fI), vv = lhF false c P i ∧ v = some (.int vv) ∧ hs' = pX c (cwH c (haH i)) k r tr kr rd ft tg tc lw kl ik ri2 s0 s1 s2 s3 (nt, n, cd, en, nm2, sk2)) rfl 0 6 rfl rfl rfl rfl rfl rfl ⟨c, cwH c (haH i), k, r, tr, kr, rd, ft, tg, tc, lw, kl, ik, ri', s0, s1, s2, s3, (nt, n, cd, en, nm', sk'), P, hL, hok, rfl, rfl, fun ri2 nm2 sk2 => ⟨_, ri2, nm2, sk2, rfl, rfl, rfl⟩⟩ (fun v hs' hv => ?_)
          obtain ⟨vv, ri2, nm2, sk2, hvv, rfl, rfl⟩ := hv
          refine ⟨rfl, ?_⟩
          exact t71 vv ri2 nm2 sk2 hvv
  subst hS
  refine V.g 10 [] mX6_leastHands_ok rfl ?_
  refine V.cS0 mX6_leastHands_ok rfl lX6_114 (ct_within l) rfl [.int y, .int (nI 0), .int (nI 1)] [] rfl rfl rfl (some (.int (bI (wiB y 1)))) (T_within_use rfl) ?_
  cases hb : wiB y 1 with
  | false =>
    refine V.g 10 [] mX6_leastHands_ok rfl ?_
    exact And.intro (fun e => absurd rfl e) (fun _ => ⟨_, zsim_rfl _, h0 hb⟩)
  | true =>
    refine V.g 20 [] mX6_leastHands_ok rfl ?_
    refine And.intro (fun _ => ?_) (fun e => absurd e (by decide))
    refine V.cV1 mX6_leastHands_ok rfl lX6_214 (ct_cbecome l) rfl [8, 9, 10, 11, 12, 13, 14, 1, 2, 3, 4, 5, 6, 7] (pCart 0 d ++ pCart 7 c) [.ref 0, .ref 14] [] rfl 0 0 rfl rfl rfl rfl rfl rfl rfl rfl none (pCart 0 c ++ pCart 7 c) ⟨d, c, rfl, rfl, rfl, rfl⟩ rfl (pX c (cwH c (haC c)) k r tr kr rd ft tg tc lw kl ik ri s0 s1 s2 s3 (nt, n, cd, en, nm, sk)) none [(4, .int (nI 0)), (3, .int 1000000), (0, .ref 0), (1, .int y), (2, .int z)] rfl rfl rfl ?_
    refine V.g 20 [32] mX6_leastHands_ok rfl ?_
    refine V.key [5, 4, 3, 0, 1, 2] ?_
    exact loop 100 0 _ _ _ hb (haC c) ri nm sk rfl rfl rfl rfl
def T_strH (B : Bool) : zT := fun args hs Q => ∃ (c d k : zCart) (r tr kr : zRow) (rd : zRd) (ft : Nat) (tg : Nat → Option Nat) (tc lw kl ik : Int32) (ri : zRi) (s0 s1 s2 s3 : zSh) (tx : zTx) (P : zP) (y : Int32), lOk tg lw tx P ∧ kOk c ∧ args = [.ref 0, .int y] ∧ hs = pX c d k r tr kr rd ft tg tc lw kl ik ri s0 s1 s2 s3 tx ∧ (wiB y 1 = false → Q (some (.int (-2))) hs) ∧ (wiB y 1 = true → ∀ d' ri' nm' sk', Q (some (.int (if y = nI 0 then nI (mnF (lhF B c P) 100).1 else (mnF (lhF B c P) 100).2))) (pX c d' k r tr kr rd ft tg tc lw kl ik ri' s0 s1 s2 s3 (txS tx nm' sk')))
theorem ct_straight (l : Launch) : Ct l mX6_straight false 9 0 0 (T_strH false) := by
  refine Ct.intro mX6_straight_ok ?_
  rintro args hs Q ⟨c, d, k, r, tr, kr, rd, ft, tg, tc, lw, kl, ik, ri, s0, s1, s2, s3, tx, P, y, hL, hok, rfl, rfl, h0, h1⟩
  refine ⟨Nat.le_of_ble_eq_true rfl, ?_⟩
  refine V.g 10 [] mX6_straight_ok rfl ?_
  refine V.callVW mX6_straight_ok rfl lX6_209 (ct_leastHands l) rfl [.ref 0, .int y, .int (bI false)] [] (fun v hs' => hs'.length = 56 ∧ ∃ w, v = some (.int w) ∧ Q v hs') rfl 0 6 rfl rfl rfl rfl rfl rfl ⟨c, d, k, r, tr, kr, rd, ft, tg, tc, lw, kl, ik, ri, s0, s1, s2, s3, tx, P, y, false, hL, hok, rfl, rfl, fun e => ⟨rfl, _, rfl, h0 e⟩, fun e d' ri' nm' sk' => ⟨rfl, _, rfl, h1 e d' ri' nm' sk'⟩⟩ (fun v hs' hv => ?_)
  obtain ⟨hlen, w, rfl, hq⟩ := hv
  refine ⟨hlen, ?_⟩
  refine V.g 10 [] mX6_straight_ok rfl ?_
  exact ⟨_, zsim_rfl _, hq⟩
theorem ct_hold (l : Launch) : Ct l mX6_hold false 9 0 0 (T_strH true) := by
  refine Ct.intro mX6_hold_ok ?_
  rintro args hs Q ⟨c, d, k, r, tr, kr, rd, ft, tg, tc, lw, kl, ik, ri, s0, s1, s2, s3, tx, P, y, hL, hok, rfl, rfl, h0, h1⟩
  refine ⟨Nat.le_of_ble_eq_true rfl, ?_⟩
  refine V.g 10 [] mX6_hold_ok rfl ?_
  refine V.callVW mX6_hold_ok rfl lX6_209 (ct_leastHands l) rfl [.ref 0, .int y, .int (bI true)] [] (fun v hs' => hs'.length = 56 ∧ ∃ w, v = some (.int w) ∧ Q v hs') rfl 0 6 rfl rfl rfl rfl rfl rfl ⟨c, d, k, r, tr, kr, rd, ft, tg, tc, lw, kl, ik, ri, s0, s1, s2, s3, tx, P, y, true, hL, hok, rfl, rfl, fun e => ⟨rfl, _, rfl, h0 e⟩, fun e d' ri' nm' sk' => ⟨rfl, _, rfl, h1 e d' ri' nm' sk'⟩⟩ (fun v hs' hv => ?_)
  obtain ⟨hlen, w, rfl, hq⟩ := hv
  refine ⟨hlen, ?_⟩
  refine V.g 10 [] mX6_hold_ok rfl ?_
  exact ⟨_, zsim_rfl _, hq⟩
