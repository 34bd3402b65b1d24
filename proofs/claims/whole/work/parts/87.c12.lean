/-- the sheet i, where that of s is v -/
abbrev shO (i s : Nat) (v o : zSh) : zSh := bif Nat.beq s i then v else o
theorem bd_n {n : Nat} (h : n ≤ 40) : bdF (nI n) (nI 0) (nI 40) = nI n := by
  unfold bdF
  rcases Nat.lt_or_ge n 40 with q | q
  · rw [if_pos (nI_lt q (by omega))]
    rcases Nat.eq_zero_or_pos n with z | z
    · rw [z]; rfl
    · rw [if_pos (nI_lt z (by omega))]
  · have : n = 40 := by omega
    subst this
    rfl
theorem fi_0 {c : zCart} {P : zP} : fiF c P 0 = fun _ => 0 := by
  funext t
  rw [fiF, if_neg (by omega)]
theorem fi_s {c : zCart} {P : zP} {t : Nat} {v : Int32} (h : v = (rlF c P (haC c) (t + 1)).2.1) : upd (fiF c P t) t (cutF (nI 2) v) = fiF c P (t + 1) := by
  funext i
  have hc : cutF (nI 2) v = v := by rw [cutF, if_neg (by decide), if_neg (by decide)]
  by_cases e : i = t
  · subst e
    rw [pk_us, hc, fiF, if_pos (by omega)]
    exact h
  · rw [pk_un e]
    unfold fiF
    by_cases e2 : i < t
    · rw [if_pos e2, if_pos (by omega)]
    · rw [if_neg e2, if_neg (by omega)]
def T6_film : zT := fun args hs Q => ∃ (c d k : zCart) (r tr kr : zRow) (rd : zRd) (ft : Nat) (tg : Nat → Option Nat) (tc lw kl ik : Int32) (ri : zRi) (s0 s1 s2 s3 : zSh) (tx : zTx) (x y : Int32) (P : zP), lOk tg lw tx P ∧ kOk c ∧ args = [.ref 0, .int x, .int y] ∧ hs = pX c d k r tr kr rd ft tg tc lw kl ik ri s0 s1 s2 s3 tx ∧ ((wiB x 3 && wiB y 30) = false → Q (some (.int (-2))) hs) ∧ (∀ s n, s < 4 → x = nI s → n ≤ 30 → y = nI n → ∀ ri' nm' sk', Q (some (.int (nI n))) (pX c d k r tr kr rd ft tg tc lw kl ik ri' (shO 0 s (nI 2, nI n, fiF c P n) s0) (shO 1 s (nI 2, nI n, fiF c P n) s1) (shO 2 s (nI 2, nI n, fiF c P n) s2) (shO 3 s (nI 2, nI n, fiF c P n) s3) (txS tx nm' sk')))
set_option maxHeartbeats 4000000 in
theorem c6_film (l : Launch) : Ct l mX6_film false 6 0 0 T6_film := by
  refine Ct.intro mX6_film_ok ?_
  rintro args hs Q ⟨c, d, k, r, tr, kr, rd, ft, tg, tc, lw, kl, ik, ri, s0, s1, s2, s3, tx, x, y, P, hL, hok, rfl, rfl, h0, h1⟩
  obtain ⟨orc, orl, obl, olt, ote, oha, odr, ohd, opu, oaz, oco, oho, obu, obb, ofa⟩ := ri
  obtain ⟨nt, n, cd, en, nm, sk⟩ := tx
  refine ⟨Nat.le_of_ble_eq_true rfl, ?_⟩
  refine V.g2 60 [26, 51] mX6_film_ok rfl ?_
  refine V.cS0 mX6_film_ok rfl lX6_278 (ct_isSheet l) rfl [.int x] [] rfl rfl rfl (some (.int (bI (wiB x 3)))) ⟨_, rfl, rfl, rfl⟩ ?_
  cases hB : wiB x 3 with
  | false =>
    refine V.nm [(0, .ref 0), (1, .int x), (2, .int y)] [.int (bI false)] (pX c d k r tr kr rd ft tg tc lw kl ik (orc, orl, obl, olt, ote, oha, odr, ohd, opu, oaz, oco, oho, obu, obb, ofa) s0 s1 s2 s3 (nt, n, cd, en, nm, sk)) rfl rfl rfl ?_
    refine V.g2 60 [26, 51] mX6_film_ok rfl ?_
    refine And.intro (fun _ => ?_) (fun e => absurd rfl e)
    exact ⟨_, zsim_rfl _, h0 (by rw [hB]; rfl)⟩
  | true =>
    refine V.nm [(0, .ref 0), (1, .int x), (2, .int y)] [.int (bI true)] (pX c d k r tr kr rd ft tg tc lw kl ik (orc, orl, obl, olt, ote, oha, odr, ohd, opu, oaz, oco, oho, obu, obb, ofa) s0 s1 s2 s3 (nt, n, cd, en, nm, sk)) rfl rfl rfl ?_
    refine V.g2 60 [26, 51] mX6_film_ok rfl ?_
    refine And.intro (fun e => absurd e (by decide)) (fun _ => ?_)
    refine V.cS0 mX6_film_ok rfl lX6_114 (ct_within l) rfl [.int y, .int (nI 0), .int (nI 30)] [] rfl rfl rfl (some (.int (bI (wiB y 30)))) (T_within_use rfl) ?_
    cases hC : (wiB y 30) with
    | false =>
      refine V.nm [(0, .ref 0), (1, .int x), (2, .int y)] [.int (bI false)] (pX c d k r tr kr rd ft tg tc lw kl ik (orc, orl, obl, olt, ote, oha, odr, ohd, opu, oaz, oco, oho, obu, obb, ofa) s0 s1 s2 s3 (nt, n, cd, en, nm, sk)) rfl rfl rfl ?_
      refine V.g2 60 [26, 51] mX6_film_ok rfl ?_
      refine And.intro (fun e => absurd rfl e) (fun _ => ?_)
      exact ⟨_, zsim_rfl _, h0 (by rw [hB, hC]; rfl)⟩
    | true =>
      refine V.nm [(0, .ref 0), (1, .int x), (2, .int y)] [.int (bI true)] (pX c d k r tr kr rd ft tg tc lw kl ik (orc, orl, obl, olt, ote, oha, odr, ohd, opu, oaz, oco, oho, obu, obb, ofa) s0 s1 s2 s3 (nt, n, cd, en, nm, sk)) rfl rfl rfl ?_
      obtain ⟨s, hs4, rfl⟩ := wiB_t hB (by omega)
      obtain ⟨n2, hn2, rfl⟩ := wiB_t hC (by omega)
      have h1 := h1 s n2 hs4 rfl (by omega) rfl
      clear h0 hB hC
      refine V.nm [(0, .ref 0), (1, .int (nI s)), (2, .int (nI n2))] [.int (bI true)] (pX c d k r tr kr rd ft tg tc lw kl ik (orc, orl, obl, olt, ote, oha, odr, ohd, opu, oaz, oco, oho, obu, obb, ofa) s0 s1 s2 s3 (nt, n, cd, en, nm, sk)) rfl rfl rfl ?_
      obtain ⟨S, hS⟩ : ∃ S, pX c d k r tr kr rd ft tg tc lw kl ik (orc, orl, obl, olt, ote, oha, odr, ohd, opu, oaz, oco, oho, obu, obb, ofa) s0 s1 s2 s3 (nt, n, cd, en, nm, sk) = S := ⟨_, rfl⟩
      refine V.s0 hS ?_
      rcases (show s = 0 ∨ s = 1 ∨ s = 2 ∨ s = 3 by omega) with rfl | rfl | rfl | rfl
      · refine V.nm [(0, .ref 0), (1, .int (nI 0)), (2, .int (nI n2))] [.int (bI true)] (pX c d k r tr kr rd ft tg tc lw kl ik (orc, orl, obl, olt, ote, oha, odr, ohd, opu, oaz, oco, oho, obu, obb, ofa) s0 s1 s2 s3 (nt, n, cd, en, nm, sk)) rfl rfl rfl ?_
        refine V.g2 60 [26, 51] mX6_film_ok rfl ?_
        refine And.intro (fun _ => ?_) (fun e => absurd e (by decide))
        have er : zrf (zsg (nI 0).toNatClampNeg) = .ref 86 := by rw [pk_cl 0 rfl]; rfl
        refine And.intro (pk_in 0 4 (by omega) rfl) ?_
        refine V.nm [(0, .ref 0), (1, .int (nI 0)), (2, .int (nI n2))] [.ref 86] (pX c d k r tr kr rd ft tg tc lw kl ik (orc, orl, obl, olt, ote, oha, odr, ohd, opu, oaz, oco, oho, obu, obb, ofa) s0 s1 s2 s3 (nt, n, cd, en, nm, sk)) rfl (by rw [← er] <;> rfl) rfl ?_
        refine V.g2 60 [26, 51] mX6_film_ok rfl ?_
        refine V.cV1P mX6_film_ok rfl lX6_281 (ct_sbecome l) rfl 56 rfl [43, 44] [none, none, none, none, none, none, none, none, none, none, none, none, none, none, none, none, none, none, none, none, none, none, none, none, none, none, none, none, none, none, none, none, none, none, none, none, none, none, none, none, none, none, none, some 0, some 1, none, none, none, none, none, none, none, none, none, none, none] (by decide +kernel) (pSheet 0 (s0.1) (s0.2.1) (s0.2.2)) [.ref 0, .int (nI 2), .int (nI n2)] [] rfl 0 4 rfl rfl rfl rfl rfl rfl rfl rfl none (pSheet 0 (nI 2) (bdF (nI n2) (nI 0) (nI 40)) (fun _ => (0 : Int32))) ⟨s0.1, s0.2.1, nI 2, nI n2, s0.2.2, rfl, rfl, rfl, rfl⟩ rfl (pX c d k r tr kr rd ft tg tc lw kl ik (orc, orl, obl, olt, ote, oha, odr, ohd, opu, oaz, oco, oho, obu, obb, ofa) ((nI 2), (bdF (nI n2) (nI 0) (nI 40)), (fun _ => (0 : Int32))) s1 s2 s3 (nt, n, cd, en, nm, sk)) [] rfl rfl ?_
        rw [bd_n (by omega), ← fi_0 (c := c) (P := P)]
        refine V.nm [(3, .ref 86), (0, .ref 0), (1, .int (nI 0)), (2, .int (nI n2))] [] (pX c d k r tr kr rd ft tg tc lw kl ik (orc, orl, obl, olt, ote, oha, odr, ohd, opu, oaz, oco, oho, obu, obb, ofa) ((nI 2), (nI n2), (fiF c P 0)) s1 s2 s3 (nt, n, cd, en, nm, sk)) rfl rfl rfl ?_
        refine V.g2 60 [26, 51] mX6_film_ok rfl ?_
        refine V.cVW mX6_film_ok rfl lX6_128 (ct_theLaw l) rfl [.ref 0] [.ref 2, .ref 78] rfl 0 6 rfl rfl rfl rfl rfl rfl (some (.ref 102)) (pX c d k r tr kr rd ft tg tc lw kl ik (orc, orl, obl, olt, ote, oha, odr, ohd, opu, oaz, oco, oho, obu, obb, ofa) ((nI 2), (nI n2), (fiF c P 0)) s1 s2 s3 (nt, n, cd, en, nm, sk)) ⟨c, d, k, r, tr, kr, rd, ft, tg, tc, lw, kl, ik, (orc, orl, obl, olt, ote, oha, odr, ohd, opu, oaz, oco, oho, obu, obb, ofa), ((nI 2), (nI n2), (fiF c P 0)), s1, s2, s3, (nt, n, cd, en, nm, sk), P, hL, rfl, rfl, rfl, rfl⟩ rfl ?_
        refine V.g2 60 [26, 51] mX6_film_ok rfl ?_
        refine V.xstart_c mX6_film_ok rfl lX6_182 rfl rfl ?_
        refine V.nm [(3, .ref 86), (0, .ref 0), (1, .int (nI 0)), (2, .int (nI n2))] [] (pX c d k r tr kr rd ft tg tc lw kl ik (2, 102, 0, olt, (nI 0), (haC c), odr, ohd, r0) ((nI 2), (nI n2), (fiF c P 0)) s1 s2 s3 (nt, n, cd, en, nm, sk)) rfl rfl rfl ?_
        refine V.g2 60 [26, 51] mX6_film_ok rfl ?_
        have loop : ∀ (m t : Nat) (x4 : Int32) (dr2 nm2 sk2 : fI) (hd2 : Int32) (rr : RT), t + m = n2 → x4 = nI t → (t = 0 ∨ dhO c P (haC c) dr2 hd2 (nI (t - 1))) → rr = rlF c P (haC c) t → V l mX6_film false S (zrm 6 0 0) (zFm false S Q 0 0) 0 0 51 [(4, .int x4), (3, .ref 86), (0, .ref 0), (1, .int (nI 0)), (2, .int (nI n2))] [] (pX c d k r tr kr rd ft tg tc lw kl ik (2, 102, 0, olt, (nI t), (haC c), dr2, hd2, rr) ((nI 2), (nI n2), (fiF c P t)) s1 s2 s3 (nt, n, cd, en, nm2, sk2)) := by
          intro m
          induction m with
          | zero =>
            intro t x4 dr2 nm2 sk2 hd2 rr ht h4 hd hr
            refine V.g2 60 [26, 51] mX6_film_ok rfl ?_
            refine pk_le n2 t (fun e1 => ?_) (fun e1 => absurd e1 (by omega)) rfl h4
            have et : t = n2 := by omega
            subst et
            exact ⟨_, zsim_rfl _, h1 (2, 102, 0, olt, (nI t), (haC c), dr2, hd2, rr) nm2 sk2⟩
          | succ m ih =>
            intro t x4 dr2 nm2 sk2 hd2 rr ht h4 hd hr
            refine V.g2 60 [26, 51] mX6_film_ok rfl ?_
            refine pk_le n2 t (fun e1 => absurd e1 (by omega)) (fun e1 => ?_) rfl h4
            refine V.xstep_c mX6_film_ok rfl lX6_185 rfl rfl (by omega) hok hL.2 hd (fun dr1 nm1 sk1 hd1 rr1 hst1 hh1 => ?_)
            have hr2 : rr1 = rlF c P (haC c) (t + 1) := by rw [hst1, rlF, hr]
            refine V.g2 60 [26, 51] mX6_film_ok rfl ?_
            refine V.cV1P mX6_film_ok rfl lX6_283 (ct_write l) rfl 56 rfl [43, 44] [none, none, none, none, none, none, none, none, none, none, none, none, none, none, none, none, none, none, none, none, none, none, none, none, none, none, none, none, none, none, none, none, none, none, none, none, none, none, none, none, none, none, none, some 0, some 1, none, none, none, none, none, none, none, none, none, none, none] (by decide +kernel) (pSheet 0 (nI 2) (nI n2) (fiF c P t)) [.ref 0, .int x4, .int (rr1.2.1)] [] rfl 0 4 rfl rfl rfl rfl rfl rfl rfl rfl none (pSheet 0 (nI 2) (nI n2) (upd (fiF c P t) t (cutF (nI 2) (rr1.2.1)))) ⟨nI 2, nI n2, (rr1.2.1), t, fiF c P t, by omega, by rw [h4], rfl, rfl, rfl⟩ rfl (pX c d k r tr kr rd ft tg tc lw kl ik (2, 102, 0, olt, (nI (t + 1)), (haC c), dr1, hd1, rr1) ((nI 2), (nI n2), (upd (fiF c P t) t (cutF (nI 2) (rr1.2.1)))) s1 s2 s3 (nt, n, cd, en, nm1, sk1)) [] rfl rfl ?_
            rw [fi_s (show (rr1.2.1) = _ by rw [hr2])]
            refine V.nm [(4, .int x4), (3, .ref 86), (0, .ref 0), (1, .int (nI 0)), (2, .int (nI n2))] [] (pX c d k r tr kr rd ft tg tc lw kl ik (2, 102, 0, olt, (nI (t + 1)), (haC c), dr1, hd1, rr1) ((nI 2), (nI n2), (fiF c P (t + 1))) s1 s2 s3 (nt, n, cd, en, nm1, sk1)) rfl rfl rfl ?_
            refine V.g2 60 [26, 51] mX6_film_ok rfl ?_
            refine V.kn [4, 3, 0, 1, 2] [(4, .int (x4 + zi 1)), (3, .ref 86), (0, .ref 0), (1, .int (nI 0)), (2, .int (nI n2))] [] (pX c d k r tr kr rd ft tg tc lw kl ik (2, 102, 0, olt, (nI (t + 1)), (haC c), dr1, hd1, rr1) ((nI 2), (nI n2), (fiF c P (t + 1))) s1 s2 s3 (nt, n, cd, en, nm1, sk1)) rfl rfl rfl ?_
            exact ih (t + 1) _ dr1 nm1 sk1 hd1 rr1 (by omega) (ninc h4) (Or.inr hh1) hr2
        refine V.kn [4, 3, 0, 1, 2] [(4, .int (nI 0)), (3, .ref 86), (0, .ref 0), (1, .int (nI 0)), (2, .int (nI n2))] [] (pX c d k r tr kr rd ft tg tc lw kl ik (2, 102, 0, olt, (nI 0), (haC c), odr, ohd, r0) ((nI 2), (nI n2), (fiF c P 0)) s1 s2 s3 (nt, n, cd, en, nm, sk)) rfl rfl rfl ?_
        exact loop n2 0 _ _ _ _ _ _ (by omega) rfl (Or.inl rfl) rfl
      · refine V.nm [(0, .ref 0), (1, .int (nI 1)), (2, .int (nI n2))] [.int (bI true)] (pX c d k r tr kr rd ft tg tc lw kl ik (orc, orl, obl, olt, ote, oha, odr, ohd, opu, oaz, oco, oho, obu, obb, ofa) s0 s1 s2 s3 (nt, n, cd, en, nm, sk)) rfl rfl rfl ?_
        refine V.g2 60 [26, 51] mX6_film_ok rfl ?_
        refine And.intro (fun _ => ?_) (fun e => absurd e (by decide))
        have er : zrf (zsg (nI 1).toNatClampNeg) = .ref 90 := by rw [pk_cl 1 rfl]; rfl
        refine And.intro (pk_in 1 4 (by omega) rfl) ?_
        refine V.nm [(0, .ref 0), (1, .int (nI 1)), (2, .int (nI n2))] [.ref 90] (pX c d k r tr kr rd ft tg tc lw kl ik (orc, orl, obl, olt, ote, oha, odr, ohd, opu, oaz, oco, oho, obu, obb, ofa) s0 s1 s2 s3 (nt, n, cd, en, nm, sk)) rfl (by rw [← er] <;> rfl) rfl ?_
        refine V.g2 60 [26, 51] mX6_film_ok rfl ?_
        refine V.cV1P mX6_film_ok rfl lX6_281 (ct_sbecome l) rfl 56 rfl [45, 46] [none, none, none, none, none, none, none, none, none, none, none, none, none, none, none, none, none, none, none, none, none, none, none, none, none, none, none, none, none, none, none, none, none, none, none, none, none, none, none, none, none, none, none, none, none, some 0, some 1, none, none, none, none, none, none, none, none, none] (by decide +kernel) (pSheet 0 (s1.1) (s1.2.1) (s1.2.2)) [.ref 0, .int (nI 2), .int (nI n2)] [] rfl 0 4 rfl rfl rfl rfl rfl rfl rfl rfl none (pSheet 0 (nI 2) (bdF (nI n2) (nI 0) (nI 40)) (fun _ => (0 : Int32))) ⟨s1.1, s1.2.1, nI 2, nI n2, s1.2.2, rfl, rfl, rfl, rfl⟩ rfl (pX c d k r tr kr rd ft tg tc lw kl ik (orc, orl, obl, olt, ote, oha, odr, ohd, opu, oaz, oco, oho, obu, obb, ofa) s0 ((nI 2), (bdF (nI n2) (nI 0) (nI 40)), (fun _ => (0 : Int32))) s2 s3 (nt, n, cd, en, nm, sk)) [] rfl rfl ?_
        rw [bd_n (by omega), ← fi_0 (c := c) (P := P)]
        refine V.nm [(3, .ref 90), (0, .ref 0), (1, .int (nI 1)), (2, .int (nI n2))] [] (pX c d k r tr kr rd ft tg tc lw kl ik (orc, orl, obl, olt, ote, oha, odr, ohd, opu, oaz, oco, oho, obu, obb, ofa) s0 ((nI 2), (nI n2), (fiF c P 0)) s2 s3 (nt, n, cd, en, nm, sk)) rfl rfl rfl ?_
        refine V.g2 60 [26, 51] mX6_film_ok rfl ?_
        refine V.cVW mX6_film_ok rfl lX6_128 (ct_theLaw l) rfl [.ref 0] [.ref 2, .ref 78] rfl 0 6 rfl rfl rfl rfl rfl rfl (some (.ref 102)) (pX c d k r tr kr rd ft tg tc lw kl ik (orc, orl, obl, olt, ote, oha, odr, ohd, opu, oaz, oco, oho, obu, obb, ofa) s0 ((nI 2), (nI n2), (fiF c P 0)) s2 s3 (nt, n, cd, en, nm, sk)) ⟨c, d, k, r, tr, kr, rd, ft, tg, tc, lw, kl, ik, (orc, orl, obl, olt, ote, oha, odr, ohd, opu, oaz, oco, oho, obu, obb, ofa), s0, ((nI 2), (nI n2), (fiF c P 0)), s2, s3, (nt, n, cd, en, nm, sk), P, hL, rfl, rfl, rfl, rfl⟩ rfl ?_
        refine V.g2 60 [26, 51] mX6_film_ok rfl ?_
        refine V.xstart_c mX6_film_ok rfl lX6_182 rfl rfl ?_
        refine V.nm [(3, .ref 90), (0, .ref 0), (1, .int (nI 1)), (2, .int (nI n2))] [] (pX c d k r tr kr rd ft tg tc lw kl ik (2, 102, 0, olt, (nI 0), (haC c), odr, ohd, r0) s0 ((nI 2), (nI n2), (fiF c P 0)) s2 s3 (nt, n, cd, en, nm, sk)) rfl rfl rfl ?_
        refine V.g2 60 [26, 51] mX6_film_ok rfl ?_
        have loop : ∀ (m t : Nat) (x4 : Int32) (dr2 nm2 sk2 : fI) (hd2 : Int32) (rr : RT), t + m = n2 → x4 = nI t → (t = 0 ∨ dhO c P (haC c) dr2 hd2 (nI (t - 1))) → rr = rlF c P (haC c) t → V l mX6_film false S (zrm 6 0 0) (zFm false S Q 0 0) 0 0 51 [(4, .int x4), (3, .ref 90), (0, .ref 0), (1, .int (nI 1)), (2, .int (nI n2))] [] (pX c d k r tr kr rd ft tg tc lw kl ik (2, 102, 0, olt, (nI t), (haC c), dr2, hd2, rr) s0 ((nI 2), (nI n2), (fiF c P t)) s2 s3 (nt, n, cd, en, nm2, sk2)) := by
          intro m
          induction m with
          | zero =>
            intro t x4 dr2 nm2 sk2 hd2 rr ht h4 hd hr
            refine V.g2 60 [26, 51] mX6_film_ok rfl ?_
            refine pk_le n2 t (fun e1 => ?_) (fun e1 => absurd e1 (by omega)) rfl h4
            have et : t = n2 := by omega
            subst et
            exact ⟨_, zsim_rfl _, h1 (2, 102, 0, olt, (nI t), (haC c), dr2, hd2, rr) nm2 sk2⟩
          | succ m ih =>
            intro t x4 dr2 nm2 sk2 hd2 rr ht h4 hd hr
            refine V.g2 60 [26, 51] mX6_film_ok rfl ?_
            refine pk_le n2 t (fun e1 => absurd e1 (by omega)) (fun e1 => ?_) rfl h4
            refine V.xstep_c mX6_film_ok rfl lX6_185 rfl rfl (by omega) hok hL.2 hd (fun dr2 nm2 sk2 hd2 rr2 hst2 hh2 => ?_)
            have hr2 : rr2 = rlF c P (haC c) (t + 1) := by rw [hst2, rlF, hr]
            refine V.g2 60 [26, 51] mX6_film_ok rfl ?_
            refine V.cV1P mX6_film_ok rfl lX6_283 (ct_write l) rfl 56 rfl [45, 46] [none, none, none, none, none, none, none, none, none, none, none, none, none, none, none, none, none, none, none, none, none, none, none, none, none, none, none, none, none, none, none, none, none, none, none, none, none, none, none, none, none, none, none, none, none, some 0, some 1, none, none, none, none, none, none, none, none, none] (by decide +kernel) (pSheet 0 (nI 2) (nI n2) (fiF c P t)) [.ref 0, .int x4, .int (rr2.2.1)] [] rfl 0 4 rfl rfl rfl rfl rfl rfl rfl rfl none (pSheet 0 (nI 2) (nI n2) (upd (fiF c P t) t (cutF (nI 2) (rr2.2.1)))) ⟨nI 2, nI n2, (rr2.2.1), t, fiF c P t, by omega, by rw [h4], rfl, rfl, rfl⟩ rfl (pX c d k r tr kr rd ft tg tc lw kl ik (2, 102, 0, olt, (nI (t + 1)), (haC c), dr2, hd2, rr2) s0 ((nI 2), (nI n2), (upd (fiF c P t) t (cutF (nI 2) (rr2.2.1)))) s2 s3 (nt, n, cd, en, nm2, sk2)) [] rfl rfl ?_
            rw [fi_s (show (rr2.2.1) = _ by rw [hr2])]
            refine V.nm [(4, .int x4), (3, .ref 90), (0, .ref 0), (1, .int (nI 1)), (2, .int (nI n2))] [] (pX c d k r tr kr rd ft tg tc lw kl ik (2, 102, 0, olt, (nI (t + 1)), (haC c), dr2, hd2, rr2) s0 ((nI 2), (nI n2), (fiF c P (t + 1))) s2 s3 (nt, n, cd, en, nm2, sk2)) rfl rfl rfl ?_
            refine V.g2 60 [26, 51] mX6_film_ok rfl ?_
            refine V.kn [4, 3, 0, 1, 2] [(4, .int (x4 + zi 1)), (3, .ref 90), (0, .ref 0), (1, .int (nI 1)), (2, .int (nI n2))] [] (pX c d k r tr kr rd ft tg tc lw kl ik (2, 102, 0, olt, (nI (t + 1)), (haC c), dr2, hd2, rr2) s0 ((nI 2), (nI n2), (fiF c P (t + 1))) s2 s3 (nt, n, cd, en, nm2, sk2)) rfl rfl rfl ?_
            exact ih (t + 1) _ dr2 nm2 sk2 hd2 rr2 (by omega) (ninc h4) (Or.inr hh2) hr2
        refine V.kn [4, 3, 0, 1, 2] [(4, .int (nI 0)), (3, .ref 90), (0, .ref 0), (1, .int (nI 1)), (2, .int (nI n2))] [] (pX c d k r tr kr rd ft tg tc lw kl ik (2, 102, 0, olt, (nI 0), (haC c), odr, ohd, r0) s0 ((nI 2), (nI n2), (fiF c P 0)) s2 s3 (nt, n, cd, en, nm, sk)) rfl rfl rfl ?_
        exact loop n2 0 _ _ _ _ _ _ (by omega) rfl (Or.inl rfl) rfl
      · refine V.nm [(0, .ref 0), (1, .int (nI 2)), (2, .int (nI n2))] [.int (bI true)] (pX c d k r tr kr rd ft tg tc lw kl ik (orc, orl, obl, olt, ote, oha, odr, ohd, opu, oaz, oco, oho, obu, obb, ofa) s0 s1 s2 s3 (nt, n, cd, en, nm, sk)) rfl rfl rfl ?_
        refine V.g2 60 [26, 51] mX6_film_ok rfl ?_
        refine And.intro (fun _ => ?_) (fun e => absurd e (by decide))
        have er : zrf (zsg (nI 2).toNatClampNeg) = .ref 94 := by rw [pk_cl 2 rfl]; rfl
        refine And.intro (pk_in 2 4 (by omega) rfl) ?_
        refine V.nm [(0, .ref 0), (1, .int (nI 2)), (2, .int (nI n2))] [.ref 94] (pX c d k r tr kr rd ft tg tc lw kl ik (orc, orl, obl, olt, ote, oha, odr, ohd, opu, oaz, oco, oho, obu, obb, ofa) s0 s1 s2 s3 (nt, n, cd, en, nm, sk)) rfl (by rw [← er] <;> rfl) rfl ?_
        refine V.g2 60 [26, 51] mX6_film_ok rfl ?_
        refine V.cV1P mX6_film_ok rfl lX6_281 (ct_sbecome l) rfl 56 rfl [47, 48] [none, none, none, none, none, none, none, none, none, none, none, none, none, none, none, none, none, none, none, none, none, none, none, none, none, none, none, none, none, none, none, none, none, none, none, none, none, none, none, none, none, none, none, none, none, none, none, some 0, some 1, none, none, none, none, none, none, none] (by decide +kernel) (pSheet 0 (s2.1) (s2.2.1) (s2.2.2)) [.ref 0, .int (nI 2), .int (nI n2)] [] rfl 0 4 rfl rfl rfl rfl rfl rfl rfl rfl none (pSheet 0 (nI 2) (bdF (nI n2) (nI 0) (nI 40)) (fun _ => (0 : Int32))) ⟨s2.1, s2.2.1, nI 2, nI n2, s2.2.2, rfl, rfl, rfl, rfl⟩ rfl (pX c d k r tr kr rd ft tg tc lw kl ik (orc, orl, obl, olt, ote, oha, odr, ohd, opu, oaz, oco, oho, obu, obb, ofa) s0 s1 ((nI 2), (bdF (nI n2) (nI 0) (nI 40)), (fun _ => (0 : Int32))) s3 (nt, n, cd, en, nm, sk)) [] rfl rfl ?_
        rw [bd_n (by omega), ← fi_0 (c := c) (P := P)]
        refine V.nm [(3, .ref 94), (0, .ref 0), (1, .int (nI 2)), (2, .int (nI n2))] [] (pX c d k r tr kr rd ft tg tc lw kl ik (orc, orl, obl, olt, ote, oha, odr, ohd, opu, oaz, oco, oho, obu, obb, ofa) s0 s1 ((nI 2), (nI n2), (fiF c P 0)) s3 (nt, n, cd, en, nm, sk)) rfl rfl rfl ?_
        refine V.g2 60 [26, 51] mX6_film_ok rfl ?_
        refine V.cVW mX6_film_ok rfl lX6_128 (ct_theLaw l) rfl [.ref 0] [.ref 2, .ref 78] rfl 0 6 rfl rfl rfl rfl rfl rfl (some (.ref 102)) (pX c d k r tr kr rd ft tg tc lw kl ik (orc, orl, obl, olt, ote, oha, odr, ohd, opu, oaz, oco, oho, obu, obb, ofa) s0 s1 ((nI 2), (nI n2), (fiF c P 0)) s3 (nt, n, cd, en, nm, sk)) ⟨c, d, k, r, tr, kr, rd, ft, tg, tc, lw, kl, ik, (orc, orl, obl, olt, ote, oha, odr, ohd, opu, oaz, oco, oho, obu, obb, ofa), s0, s1, ((nI 2), (nI n2), (fiF c P 0)), s3, (nt, n, cd, en, nm, sk), P, hL, rfl, rfl, rfl, rfl⟩ rfl ?_
        refine V.g2 60 [26, 51] mX6_film_ok rfl ?_
        refine V.xstart_c mX6_film_ok rfl lX6_182 rfl rfl ?_
        refine V.nm [(3, .ref 94), (0, .ref 0), (1, .int (nI 2)), (2, .int (nI n2))] [] (pX c d k r tr kr rd ft tg tc lw kl ik (2, 102, 0, olt, (nI 0), (haC c), odr, ohd, r0) s0 s1 ((nI 2), (nI n2), (fiF c P 0)) s3 (nt, n, cd, en, nm, sk)) rfl rfl rfl ?_
        refine V.g2 60 [26, 51] mX6_film_ok rfl ?_
        have loop : ∀ (m t : Nat) (x4 : Int32) (dr2 nm2 sk2 : fI) (hd2 : Int32) (rr : RT), t + m = n2 → x4 = nI t → (t = 0 ∨ dhO c P (haC c) dr2 hd2 (nI (t - 1))) → rr = rlF c P (haC c) t → V l mX6_film false S (zrm 6 0 0) (zFm false S Q 0 0) 0 0 51 [(4, .int x4), (3, .ref 94), (0, .ref 0), (1, .int (nI 2)), (2, .int (nI n2))] [] (pX c d k r tr kr rd ft tg tc lw kl ik (2, 102, 0, olt, (nI t), (haC c), dr2, hd2, rr) s0 s1 ((nI 2), (nI n2), (fiF c P t)) s3 (nt, n, cd, en, nm2, sk2)) := by
          intro m
          induction m with
          | zero =>
            intro t x4 dr2 nm2 sk2 hd2 rr ht h4 hd hr
            refine V.g2 60 [26, 51] mX6_film_ok rfl ?_
            refine pk_le n2 t (fun e1 => ?_) (fun e1 => absurd e1 (by omega)) rfl h4
            have et : t = n2 := by omega
            subst et
            exact ⟨_, zsim_rfl _, h1 (2, 102, 0, olt, (nI t), (haC c), dr2, hd2, rr) nm2 sk2⟩
          | succ m ih =>
            intro t x4 dr2 nm2 sk2 hd2 rr ht h4 hd hr
            refine V.g2 60 [26, 51] mX6_film_ok rfl ?_
            refine pk_le n2 t (fun e1 => absurd e1 (by omega)) (fun e1 => ?_) rfl h4
            refine V.xstep_c mX6_film_ok rfl lX6_185 rfl rfl (by omega) hok hL.2 hd (fun dr3 nm3 sk3 hd3 rr3 hst3 hh3 => ?_)
            have hr2 : rr3 = rlF c P (haC c) (t + 1) := by rw [hst3, rlF, hr]
            refine V.g2 60 [26, 51] mX6_film_ok rfl ?_
            refine V.cV1P mX6_film_ok rfl lX6_283 (ct_write l) rfl 56 rfl [47, 48] [none, none, none, none, none, none, none, none, none, none, none, none, none, none, none, none, none, none, none, none, none, none, none, none, none, none, none, none, none, none, none, none, none, none, none, none, none, none, none, none, none, none, none, none, none, none, none, some 0, some 1, none, none, none, none, none, none, none] (by decide +kernel) (pSheet 0 (nI 2) (nI n2) (fiF c P t)) [.ref 0, .int x4, .int (rr3.2.1)] [] rfl 0 4 rfl rfl rfl rfl rfl rfl rfl rfl none (pSheet 0 (nI 2) (nI n2) (upd (fiF c P t) t (cutF (nI 2) (rr3.2.1)))) ⟨nI 2, nI n2, (rr3.2.1), t, fiF c P t, by omega, by rw [h4], rfl, rfl, rfl⟩ rfl (pX c d k r tr kr rd ft tg tc lw kl ik (2, 102, 0, olt, (nI (t + 1)), (haC c), dr3, hd3, rr3) s0 s1 ((nI 2), (nI n2), (upd (fiF c P t) t (cutF (nI 2) (rr3.2.1)))) s3 (nt, n, cd, en, nm3, sk3)) [] rfl rfl ?_
            rw [fi_s (show (rr3.2.1) = _ by rw [hr2])]
            refine V.nm [(4, .int x4), (3, .ref 94), (0, .ref 0), (1, .int (nI 2)), (2, .int (nI n2))] [] (pX c d k r tr kr rd ft tg tc lw kl ik (2, 102, 0, olt, (nI (t + 1)), (haC c), dr3, hd3, rr3) s0 s1 ((nI 2), (nI n2), (fiF c P (t + 1))) s3 (nt, n, cd, en, nm3, sk3)) rfl rfl rfl ?_
            refine V.g2 60 [26, 51] mX6_film_ok rfl ?_
            refine V.kn [4, 3, 0, 1, 2] [(4, .int (x4 + zi 1)), (3, .ref 94), (0, .ref 0), (1, .int (nI 2)), (2, .int (nI n2))] [] (pX c d k r tr kr rd ft tg tc lw kl ik (2, 102, 0, olt, (nI (t + 1)), (haC c), dr3, hd3, rr3) s0 s1 ((nI 2), (nI n2), (fiF c P (t + 1))) s3 (nt, n, cd, en, nm3, sk3)) rfl rfl rfl ?_
            exact ih (t + 1) _ dr3 nm3 sk3 hd3 rr3 (by omega) (ninc h4) (Or.inr hh3) hr2
        refine V.kn [4, 3, 0, 1, 2] [(4, .int (nI 0)), (3, .ref 94), (0, .ref 0), (1, .int (nI 2)), (2, .int (nI n2))] [] (pX c d k r tr kr rd ft tg tc lw kl ik (2, 102, 0, olt, (nI 0), (haC c), odr, ohd, r0) s0 s1 ((nI 2), (nI n2), (fiF c P 0)) s3 (nt, n, cd, en, nm, sk)) rfl rfl rfl ?_
        exact loop n2 0 _ _ _ _ _ _ (by omega) rfl (Or.inl rfl) rfl
      · refine V.nm [(0, .ref 0), (1, .int (nI 3)), (2, .int (nI n2))] [.int (bI true)] (pX c d k r tr kr rd ft tg tc lw kl ik (orc, orl, obl, olt, ote, oha, odr, ohd, opu, oaz, oco, oho, obu, obb, ofa) s0 s1 s2 s3 (nt, n, cd, en, nm, sk)) rfl rfl rfl ?_
        refine V.g2 60 [26, 51] mX6_film_ok rfl ?_
        refine And.intro (fun _ => ?_) (fun e => absurd e (by decide))
        have er : zrf (zsg (nI 3).toNatClampNeg) = .ref 98 := by rw [pk_cl 3 rfl]; rfl
        refine And.intro (pk_in 3 4 (by omega) rfl) ?_
        refine V.nm [(0, .ref 0), (1, .int (nI 3)), (2, .int (nI n2))] [.ref 98] (pX c d k r tr kr rd ft tg tc lw kl ik (orc, orl, obl, olt, ote, oha, odr, ohd, opu, oaz, oco, oho, obu, obb, ofa) s0 s1 s2 s3 (nt, n, cd, en, nm, sk)) rfl (by rw [← er] <;> rfl) rfl ?_
        refine V.g2 60 [26, 51] mX6_film_ok rfl ?_
        refine V.cV1P mX6_film_ok rfl lX6_281 (ct_sbecome l) rfl 56 rfl [49, 50] [none, none, none, none, none, none, none, none, none, none, none, none, none, none, none, none, none, none, none, none, none, none, none, none, none, none, none, none, none, none, none, none, none, none, none, none, none, none, none, none, none, none, none, none, none, none, none, none, none, some 0, some 1, none, none, none, none, none] (by decide +kernel) (pSheet 0 (s3.1) (s3.2.1) (s3.2.2)) [.ref 0, .int (nI 2), .int (nI n2)] [] rfl 0 4 rfl rfl rfl rfl rfl rfl rfl rfl none (pSheet 0 (nI 2) (bdF (nI n2) (nI 0) (nI 40)) (fun _ => (0 : Int32))) ⟨s3.1, s3.2.1, nI 2, nI n2, s3.2.2, rfl, rfl, rfl, rfl⟩ rfl (pX c d k r tr kr rd ft tg tc lw kl ik (orc, orl, obl, olt, ote, oha, odr, ohd, opu, oaz, oco, oho, obu, obb, ofa) s0 s1 s2 ((nI 2), (bdF (nI n2) (nI 0) (nI 40)), (fun _ => (0 : Int32))) (nt, n, cd, en, nm, sk)) [] rfl rfl ?_
        rw [bd_n (by omega), ← fi_0 (c := c) (P := P)]
        refine V.nm [(3, .ref 98), (0, .ref 0), (1, .int (nI 3)), (2, .int (nI n2))] [] (pX c d k r tr kr rd ft tg tc lw kl ik (orc, orl, obl, olt, ote, oha, odr, ohd, opu, oaz, oco, oho, obu, obb, ofa) s0 s1 s2 ((nI 2), (nI n2), (fiF c P 0)) (nt, n, cd, en, nm, sk)) rfl rfl rfl ?_
        refine V.g2 60 [26, 51] mX6_film_ok rfl ?_
        refine V.cVW mX6_film_ok rfl lX6_128 (ct_theLaw l) rfl [.ref 0] [.ref 2, .ref 78] rfl 0 6 rfl rfl rfl rfl rfl rfl (some (.ref 102)) (pX c d k r tr kr rd ft tg tc lw kl ik (orc, orl, obl, olt, ote, oha, odr, ohd, opu, oaz, oco, oho, obu, obb, ofa) s0 s1 s2 ((nI 2), (nI n2), (fiF c P 0)) (nt, n, cd, en, nm, sk)) ⟨c, d, k, r, tr, kr, rd, ft, tg, tc, lw, kl, ik, (orc, orl, obl, olt, ote, oha, odr, ohd, opu, oaz, oco, oho, obu, obb, ofa), s0, s1, s2, ((nI 2), (nI n2), (fiF c P 0)), (nt, n, cd, en, nm, sk), P, hL, rfl, rfl, rfl, rfl⟩ rfl ?_
        refine V.g2 60 [26, 51] mX6_film_ok rfl ?_
        refine V.xstart_c mX6_film_ok rfl lX6_182 rfl rfl ?_
        refine V.nm [(3, .ref 98), (0, .ref 0), (1, .int (nI 3)), (2, .int (nI n2))] [] (pX c d k r tr kr rd ft tg tc lw kl ik (2, 102, 0, olt, (nI 0), (haC c), odr, ohd, r0) s0 s1 s2 ((nI 2), (nI n2), (fiF c P 0)) (nt, n, cd, en, nm, sk)) rfl rfl rfl ?_
        refine V.g2 60 [26, 51] mX6_film_ok rfl ?_
        have loop : ∀ (m t : Nat) (x4 : Int32) (dr2 nm2 sk2 : fI) (hd2 : Int32) (rr : RT), t + m = n2 → x4 = nI t → (t = 0 ∨ dhO c P (haC c) dr2 hd2 (nI (t - 1))) → rr = rlF c P (haC c) t → V l mX6_film false S (zrm 6 0 0) (zFm false S Q 0 0) 0 0 51 [(4, .int x4), (3, .ref 98), (0, .ref 0), (1, .int (nI 3)), (2, .int (nI n2))] [] (pX c d k r tr kr rd ft tg tc lw kl ik (2, 102, 0, olt, (nI t), (haC c), dr2, hd2, rr) s0 s1 s2 ((nI 2), (nI n2), (fiF c P t)) (nt, n, cd, en, nm2, sk2)) := by
          intro m
          induction m with
          | zero =>
            intro t x4 dr2 nm2 sk2 hd2 rr ht h4 hd hr
            refine V.g2 60 [26, 51] mX6_film_ok rfl ?_
            refine pk_le n2 t (fun e1 => ?_) (fun e1 => absurd e1 (by omega)) rfl h4
            have et : t = n2 := by omega
            subst et
            exact ⟨_, zsim_rfl _, h1 (2, 102, 0, olt, (nI t), (haC c), dr2, hd2, rr) nm2 sk2⟩
          | succ m ih =>
            intro t x4 dr2 nm2 sk2 hd2 rr ht h4 hd hr
            refine V.g2 60 [26, 51] mX6_film_ok rfl ?_
            refine pk_le n2 t (fun e1 => absurd e1 (by omega)) (fun e1 => ?_) rfl h4
            refine V.xstep_c mX6_film_ok rfl lX6_185 rfl rfl (by omega) hok hL.2 hd (fun dr4 nm4 sk4 hd4 rr4 hst4 hh4 => ?_)
            have hr2 : rr4 = rlF c P (haC c) (t + 1) := by rw [hst4, rlF, hr]
            refine V.g2 60 [26, 51] mX6_film_ok rfl ?_
            refine V.cV1P mX6_film_ok rfl lX6_283 (ct_write l) rfl 56 rfl [49, 50] [none, none, none, none, none, none, none, none, none, none, none, none, none, none, none, none, none, none, none, none, none, none, none, none, none, none, none, none, none, none, none, none, none, none, none, none, none, none, none, none, none, none, none, none, none, none, none, none, none, some 0, some 1, none, none, none, none, none] (by decide +kernel) (pSheet 0 (nI 2) (nI n2) (fiF c P t)) [.ref 0, .int x4, .int (rr4.2.1)] [] rfl 0 4 rfl rfl rfl rfl rfl rfl rfl rfl none (pSheet 0 (nI 2) (nI n2) (upd (fiF c P t) t (cutF (nI 2) (rr4.2.1)))) ⟨nI 2, nI n2, (rr4.2.1), t, fiF c P t, by omega, by rw [h4], rfl, rfl, rfl⟩ rfl (pX c d k r tr kr rd ft tg tc lw kl ik (2, 102, 0, olt, (nI (t + 1)), (haC c), dr4, hd4, rr4) s0 s1 s2 ((nI 2), (nI n2), (upd (fiF c P t) t (cutF (nI 2) (rr4.2.1)))) (nt, n, cd, en, nm4, sk4)) [] rfl rfl ?_
            rw [fi_s (show (rr4.2.1) = _ by rw [hr2])]
            refine V.nm [(4, .int x4), (3, .ref 98), (0, .ref 0), (1, .int (nI 3)), (2, .int (nI n2))] [] (pX c d k r tr kr rd ft tg tc lw kl ik (2, 102, 0, olt, (nI (t + 1)), (haC c), dr4, hd4, rr4) s0 s1 s2 ((nI 2), (nI n2), (fiF c P (t + 1))) (nt, n, cd, en, nm4, sk4)) rfl rfl rfl ?_
            refine V.g2 60 [26, 51] mX6_film_ok rfl ?_
            refine V.kn [4, 3, 0, 1, 2] [(4, .int (x4 + zi 1)), (3, .ref 98), (0, .ref 0), (1, .int (nI 3)), (2, .int (nI n2))] [] (pX c d k r tr kr rd ft tg tc lw kl ik (2, 102, 0, olt, (nI (t + 1)), (haC c), dr4, hd4, rr4) s0 s1 s2 ((nI 2), (nI n2), (fiF c P (t + 1))) (nt, n, cd, en, nm4, sk4)) rfl rfl rfl ?_
            exact ih (t + 1) _ dr4 nm4 sk4 hd4 rr4 (by omega) (ninc h4) (Or.inr hh4) hr2
        refine V.kn [4, 3, 0, 1, 2] [(4, .int (nI 0)), (3, .ref 98), (0, .ref 0), (1, .int (nI 3)), (2, .int (nI n2))] [] (pX c d k r tr kr rd ft tg tc lw kl ik (2, 102, 0, olt, (nI 0), (haC c), odr, ohd, r0) s0 s1 s2 ((nI 2), (nI n2), (fiF c P 0)) (nt, n, cd, en, nm, sk)) rfl rfl rfl ?_
        exact loop n2 0 _ _ _ _ _ _ (by omega) rfl (Or.inl rfl) rfl
