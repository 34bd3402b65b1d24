/-! ===== the class: at, exact, quick, flutters, change ===== -/
theorem V.s0 {l : Launch} {M : zM} {b : Bool} {hs0 S hs : List zE} {R : Room} {nc ns mc ms pc : Nat} {Post : Option Value → List zE → Prop} {lv : zL} {st : List Value} (h : hs0 = S) (hv : V l M b S R (zFm b S Post mc ms) nc ns pc lv st hs) : V l M b hs0 R (zFm b hs0 Post mc ms) nc ns pc lv st hs := by
  subst h
  exact hv
def T6_at : zT := fun args hs Q => ∃ (c d k : zCart) (r tr kr : zRow) (rd : zRd) (ft : Nat) (tg : Nat → Option Nat) (tc lw kl ik : Int32) (ri : zRi) (s0 s1 s2 s3 : zSh) (tx : zTx) (x y : Int32) (P : zP), lOk tg lw tx P ∧ kOk c ∧ args = [.ref 0, .int x, .int y] ∧ hs = pX c d k r tr kr rd ft tg tc lw kl ik ri s0 s1 s2 s3 tx ∧ ((wiB x 29 && wiB y 1) = false → Q (some (.int (-1000000))) hs) ∧ (∀ te, te < 30 → x = nI te → wiB y 1 = true → ∀ r0 : Int32, r0 = (if y = nI 0 then (rlF c P (haC c) (te + 1)).1 else (rlF c P (haC c) (te + 1)).2.1) → ∀ ri' nm' sk', Q (some (.int r0)) (pX c d k r tr kr rd ft tg tc lw kl ik ri' s0 s1 s2 s3 (txS tx nm' sk')))
set_option maxHeartbeats 4000000 in
theorem c6_at (l : Launch) : Ct l mX6_at false 6 0 0 T6_at := by
  refine Ct.intro mX6_at_ok ?_
  rintro args hs Q ⟨c, d, k, r, tr, kr, rd, ft, tg, tc, lw, kl, ik, ri, s0, s1, s2, s3, tx, x, y, P, hL, hok, rfl, rfl, h0, h1⟩
  obtain ⟨orc, orl, obl, olt, ote, oha, odr, ohd, opu, oaz, oco, oho, obu, obb, ofa⟩ := ri
  obtain ⟨nt, n, cd, en, nm, sk⟩ := tx
  refine ⟨Nat.le_of_ble_eq_true rfl, ?_⟩
  refine V.g2 60 [] mX6_at_ok rfl ?_
  refine V.cS0 mX6_at_ok rfl lX6_122 (ct_isTenth l) rfl [.int x] [] rfl rfl rfl (some (.int (bI (wiB x 29)))) ⟨_, rfl, rfl, rfl⟩ ?_
  cases hB : wiB x 29 with
  | false =>
    refine V.nm [(0, .ref 0), (1, .int x), (2, .int y)] [.int (bI false)] (pX c d k r tr kr rd ft tg tc lw kl ik (orc, orl, obl, olt, ote, oha, odr, ohd, opu, oaz, oco, oho, obu, obb, ofa) s0 s1 s2 s3 (nt, n, cd, en, nm, sk)) rfl rfl rfl ?_
    refine V.g2 60 [] mX6_at_ok rfl ?_
    refine And.intro (fun _ => ?_) (fun e => absurd rfl e)
    exact ⟨_, zsim_rfl _, h0 (by rw [hB]; rfl)⟩
  | true =>
    refine V.nm [(0, .ref 0), (1, .int x), (2, .int y)] [.int (bI true)] (pX c d k r tr kr rd ft tg tc lw kl ik (orc, orl, obl, olt, ote, oha, odr, ohd, opu, oaz, oco, oho, obu, obb, ofa) s0 s1 s2 s3 (nt, n, cd, en, nm, sk)) rfl rfl rfl ?_
    refine V.g2 60 [] mX6_at_ok rfl ?_
    refine And.intro (fun e => absurd e (by decide)) (fun _ => ?_)
    refine V.cS0 mX6_at_ok rfl lX6_114 (ct_within l) rfl [.int y, .int (nI 0), .int (nI 1)] [] rfl rfl rfl (some (.int (bI (wiB y 1)))) (T_within_use rfl) ?_
    cases hC : (wiB y 1) with
    | false =>
      refine V.nm [(0, .ref 0), (1, .int x), (2, .int y)] [.int (bI false)] (pX c d k r tr kr rd ft tg tc lw kl ik (orc, orl, obl, olt, ote, oha, odr, ohd, opu, oaz, oco, oho, obu, obb, ofa) s0 s1 s2 s3 (nt, n, cd, en, nm, sk)) rfl rfl rfl ?_
      refine V.g2 60 [] mX6_at_ok rfl ?_
      refine And.intro (fun e => absurd rfl e) (fun _ => ?_)
      exact ⟨_, zsim_rfl _, h0 (by rw [hB, hC]; rfl)⟩
    | true =>
      refine V.nm [(0, .ref 0), (1, .int x), (2, .int y)] [.int (bI true)] (pX c d k r tr kr rd ft tg tc lw kl ik (orc, orl, obl, olt, ote, oha, odr, ohd, opu, oaz, oco, oho, obu, obb, ofa) s0 s1 s2 s3 (nt, n, cd, en, nm, sk)) rfl rfl rfl ?_
      obtain ⟨te, hte, rfl⟩ := wiB_t hB (by omega)
      have h1 := h1 te (by omega) rfl hC
      refine V.nm [(0, .ref 0), (1, .int (nI te)), (2, .int y)] [.int (bI true)] (pX c d k r tr kr rd ft tg tc lw kl ik (orc, orl, obl, olt, ote, oha, odr, ohd, opu, oaz, oco, oho, obu, obb, ofa) s0 s1 s2 s3 (nt, n, cd, en, nm, sk)) rfl rfl rfl ?_
      obtain ⟨S, hS⟩ : ∃ S, pX c d k r tr kr rd ft tg tc lw kl ik (orc, orl, obl, olt, ote, oha, odr, ohd, opu, oaz, oco, oho, obu, obb, ofa) s0 s1 s2 s3 (nt, n, cd, en, nm, sk) = S := ⟨_, rfl⟩
      refine V.s0 hS ?_
      have loop : ∀ (m t : Nat) (x3 : Int32) (dr2 nm2 sk2 : fI) (hd2 : Int32) (rr : RT), t + m = te + 1 → x3 = nI t → (t = 0 ∨ dhO c P (haC c) dr2 hd2 (nI (t - 1))) → rr = rlF c P (haC c) t → V l mX6_at false S (zrm 6 0 0) (zFm false S Q 0 0) 0 0 36 [(3, .int x3), (0, .ref 0), (1, .int (nI te)), (2, .int y)] [] (pX c d k r tr kr rd ft tg tc lw kl ik (2, 102, 0, olt, (nI t), (haC c), dr2, hd2, rr) s0 s1 s2 s3 (nt, n, cd, en, nm2, sk2)) := by
        intro m
        induction m with
        | zero =>
          intro t x3 dr2 nm2 sk2 hd2 rr ht h3 hd hr
          refine V.g2 60 [36, 54] mX6_at_ok rfl ?_
          refine pk_lt te t (fun e1 => ?_) (fun e1 => absurd e1 (by omega)) rfl h3
          have et : t = te + 1 := by omega
          subst et
          refine V.g2 60 [36, 54] mX6_at_ok rfl ?_
          refine And.intro (fun (e2 : ¬ y = (0 : Int32)) => ?_) (fun (e2 : y = (0 : Int32)) => ?_)
          · exact ⟨_, zsim_rfl _, h1 _ (by rw [show (nI 0 : Int32) = 0 from rfl, if_neg e2, ← hr]) (2, 102, 0, olt, (nI (te + 1)), (haC c), dr2, hd2, rr) nm2 sk2⟩
          · exact ⟨_, zsim_rfl _, h1 _ (by rw [show (nI 0 : Int32) = 0 from rfl, if_pos e2, ← hr]) (2, 102, 0, olt, (nI (te + 1)), (haC c), dr2, hd2, rr) nm2 sk2⟩
        | succ m ih =>
          intro t x3 dr2 nm2 sk2 hd2 rr ht h3 hd hr
          refine V.g2 60 [36, 54] mX6_at_ok rfl ?_
          refine pk_lt te t (fun e1 => absurd e1 (by omega)) (fun e1 => ?_) rfl h3
          refine V.xstep_c mX6_at_ok rfl lX6_185 rfl rfl (by omega) hok hL.2 hd (fun dr1 nm1 sk1 hd1 rr1 hst1 hh1 => ?_)
          have hr2 : rr1 = rlF c P (haC c) (t + 1) := by rw [hst1, rlF, hr]
          refine V.g2 60 [36, 54] mX6_at_ok rfl ?_
          refine V.kn [3, 0, 1, 2] [(3, .int (x3 + zi 1)), (0, .ref 0), (1, .int (nI te)), (2, .int y)] [] (pX c d k r tr kr rd ft tg tc lw kl ik (2, 102, 0, olt, (nI (t + 1)), (haC c), dr1, hd1, rr1) s0 s1 s2 s3 (nt, n, cd, en, nm1, sk1)) rfl rfl rfl ?_
          exact ih (t + 1) _ dr1 nm1 sk1 hd1 rr1 (by omega) (ninc h3) (Or.inr hh1) hr2
      refine V.g2 60 [36, 54] mX6_at_ok rfl ?_
      refine And.intro (fun _ => ?_) (fun e => absurd e (by decide))
      refine V.cVW mX6_at_ok rfl lX6_128 (ct_theLaw l) rfl [.ref 0] [.ref 2, .ref 78] rfl 0 6 rfl rfl rfl rfl rfl rfl (some (.ref 102)) (pX c d k r tr kr rd ft tg tc lw kl ik (orc, orl, obl, olt, ote, oha, odr, ohd, opu, oaz, oco, oho, obu, obb, ofa) s0 s1 s2 s3 (nt, n, cd, en, nm, sk)) ⟨c, d, k, r, tr, kr, rd, ft, tg, tc, lw, kl, ik, (orc, orl, obl, olt, ote, oha, odr, ohd, opu, oaz, oco, oho, obu, obb, ofa), s0, s1, s2, s3, (nt, n, cd, en, nm, sk), P, hL, rfl, rfl, rfl, rfl⟩ rfl ?_
      refine V.g2 60 [36, 54] mX6_at_ok rfl ?_
      refine V.xstart_c mX6_at_ok rfl lX6_182 rfl rfl ?_
      refine V.nm [(0, .ref 0), (1, .int (nI te)), (2, .int y)] [] (pX c d k r tr kr rd ft tg tc lw kl ik (2, 102, 0, olt, (nI 0), (haC c), odr, ohd, r0) s0 s1 s2 s3 (nt, n, cd, en, nm, sk)) rfl rfl rfl ?_
      refine V.g2 60 [36, 54] mX6_at_ok rfl ?_
      refine V.kn [3, 0, 1, 2] [(3, .int (nI 0)), (0, .ref 0), (1, .int (nI te)), (2, .int y)] [] (pX c d k r tr kr rd ft tg tc lw kl ik (2, 102, 0, olt, (nI 0), (haC c), odr, ohd, r0) s0 s1 s2 s3 (nt, n, cd, en, nm, sk)) rfl rfl rfl ?_
      exact loop (te + 1) 0 _ _ _ _ _ _ (by omega) rfl (Or.inl rfl) rfl
