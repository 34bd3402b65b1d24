/-! ===== roll, drawn ===== -/
def roF (x : Int32) (q : RT) : Int32 := if x = nI 0 then q.2.2.2.1 else if x = nI 1 then q.2.2.2.2.1 else if x = nI 2 then q.2.2.2.2.2.1 else if x = nI 3 then q.2.2.2.2.2.2 else q.2.1
def T_roll : zT := fun args hs Q => ∃ (c d k : zCart) (r tr kr : zRow) (rd : zRd) (ft : Nat) (tg : Nat → Option Nat) (tc lw kl ik : Int32) (ri : zRi) (s0 s1 s2 s3 : zSh) (tx : zTx) (P : zP) (x : Int32), lOk tg lw tx P ∧ kOk c ∧ args = [.ref 0, .int x] ∧ hs = pX c d k r tr kr rd ft tg tc lw kl ik ri s0 s1 s2 s3 tx ∧ (wiB x 4 = false → Q (some (.int (-1000000))) hs) ∧ (wiB x 4 = true → ∀ ri' nm' sk', Q (some (.int (roF x (rlF c P (haC c) 30)))) (pX c d k r tr kr rd ft tg tc lw kl ik ri' s0 s1 s2 s3 (txS tx nm' sk')))
set_option maxHeartbeats 4000000 in
theorem ct_roll (l : Launch) : Ct l mX6_roll false 7 0 0 T_roll := by
  refine Ct.intro mX6_roll_ok ?_
  rintro args hs Q ⟨c, d, k, r, tr, kr, rd, ft, tg, tc, lw, kl, ik, ri, s0, s1, s2, s3, tx, P, x, hL, hok, rfl, rfl, h0, h1⟩
  obtain ⟨orc, orl, obl, olt, ote, oha, odr, ohd, opu, oaz, oco, oho, obu, obb, ofa⟩ := ri
  obtain ⟨nt, n, cd, en, nm, sk⟩ := tx
  refine ⟨Nat.le_of_ble_eq_true rfl, ?_⟩
  refine V.g 10 [] mX6_roll_ok rfl ?_
  refine V.cS0 mX6_roll_ok rfl lX6_114 (ct_within l) rfl [.int x, .int (nI 0), .int (nI 4)] [] rfl rfl rfl (some (.int (bI (wiB x 4)))) (T_within_use rfl) ?_
  cases hb : wiB x 4 with
  | false =>
    refine V.g 10 [] mX6_roll_ok rfl ?_
    exact And.intro (fun e => absurd rfl e) (fun _ => ⟨_, zsim_rfl _, h0 hb⟩)
  | true =>
    have h := h1 hb
    refine V.g 10 [] mX6_roll_ok rfl ?_
    refine And.intro (fun _ => ?_) (fun e => absurd e (by decide))
    refine V.cVW mX6_roll_ok rfl lX6_128 (ct_theLaw l) rfl [.ref 0] [.ref 2, .ref 78] rfl 0 6 rfl rfl rfl rfl rfl rfl (some (.ref 102)) (pX c d k r tr kr rd ft tg tc lw kl ik (orc, orl, obl, olt, ote, oha, odr, ohd, opu, oaz, oco, oho, obu, obb, ofa) s0 s1 s2 s3 (nt, n, cd, en, nm, sk)) ⟨c, d, k, r, tr, kr, rd, ft, tg, tc, lw, kl, ik, (orc, orl, obl, olt, ote, oha, odr, ohd, opu, oaz, oco, oho, obu, obb, ofa), s0, s1, s2, s3, (nt, n, cd, en, nm, sk), P, hL, rfl, rfl, rfl, rfl⟩ rfl ?_
    refine V.callV mX6_roll_ok rfl lX6_194 (ct_goAll l) rfl (dl2 orc orl) (dl2_ok orc orl) [39, 40, 41, 1, 2, 3, 4, 5, 6, 7, 51, 52, 53, 54, 55] (pRide 101 103 obl olt ote oha odr ohd opu oaz oco oho obu obb ofa ++ (pCart 3 c ++ pText 10 nt n cd en nm sk)) [.ref 0, .ref 6, .ref 20] [] (fun v wc' => ∃ (dr' nm' sk' : fI) (hd' : Int32) (rr : RT), rr = rlF c P (haC c) 30 ∧ v = none ∧ wc' = pRX 0 olt (nI 30) (haC c) dr' hd' rr c nt n cd en nm' sk') rfl 0 2 rfl rfl rfl rfl rfl rfl rfl rfl ⟨101, 103, obl, olt, ote, oha, odr, ohd, opu, oaz, oco, oho, obu, obb, ofa, c, nt, n, cd, en, nm, sk, P, hok, hL.2, rfl, rfl, fun dr' hd' nm' sk' => ⟨dr', nm', sk', hd', _, rfl, rfl, rfl⟩⟩ (fun v wc' hv => ?_)
    obtain ⟨dr', nm', sk', hd', ⟨pu, az, co, ho, bu, bb, fa⟩, hrr, rfl, rfl⟩ := hv
    refine ⟨rfl, ?_⟩
    refine V.nm [(0, .ref 0), (1, .int x)] [] (pX c d k r tr kr rd ft tg tc lw kl ik (2, 102, 0, olt, nI 30, haC c, dr', hd', pu, az, co, ho, bu, bb, fa) s0 s1 s2 s3 (nt, n, cd, en, nm', sk')) rfl rfl rfl ?_
    have h2 := h (2, 102, 0, olt, nI 30, haC c, dr', hd', pu, az, co, ho, bu, bb, fa) nm' sk'
    rw [← hrr] at h2
    obtain ⟨i, hi, rfl⟩ := wiB_t hb (by omega)
    refine V.g 10 [] mX6_roll_ok rfl ?_
    rcases (show i = 0 ∨ i = 1 ∨ i = 2 ∨ i = 3 ∨ i = 4 by omega) with rfl | rfl | rfl | rfl | rfl
    · refine V.tsI mX6_roll_ok rfl 0 (by decide) (by decide) (by decide) 32 rfl 60 rfl ?_
      exact V.g 10 [] mX6_roll_ok rfl ⟨_, zsim_rfl _, h2⟩
    · refine V.tsI mX6_roll_ok rfl 1 (by decide) (by decide) (by decide) 40 rfl 68 rfl ?_
      exact V.g 10 [] mX6_roll_ok rfl ⟨_, zsim_rfl _, h2⟩
    · refine V.tsI mX6_roll_ok rfl 2 (by decide) (by decide) (by decide) 48 rfl 76 rfl ?_
      exact V.g 10 [] mX6_roll_ok rfl ⟨_, zsim_rfl _, h2⟩
    · refine V.tsI mX6_roll_ok rfl 3 (by decide) (by decide) (by decide) 56 rfl 84 rfl ?_
      exact V.g 10 [] mX6_roll_ok rfl ⟨_, zsim_rfl _, h2⟩
    · refine V.tsO mX6_roll_ok rfl (Or.inr (by decide)) 92 rfl ?_
      exact V.g 10 [] mX6_roll_ok rfl ⟨_, zsim_rfl _, h2⟩
