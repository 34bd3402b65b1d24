theorem flW_m {so sz : Int32} (h : ∃ n, n ≤ 40 ∧ sz = nI n) (hf : flW so sz = 0) : ∃ n, n ≤ 30 ∧ sz = nI n := by
  obtain ⟨n, hn, e⟩ := h
  refine ⟨n, ?_, e⟩
  have := (flW_0 hf).2
  rw [e] at this
  rcases Nat.lt_or_ge 30 n with q | q
  · exact absurd (nI_lt q (by omega)) this
  · exact q
def T6_judge : zT := fun args hs Q => ∃ (c d k : zCart) (r tr kr : zRow) (rd : zRd) (ft : Nat) (tg : Nat → Option Nat) (tc lw kl ik : Int32) (ri : zRi) (s0 s1 s2 s3 : zSh) (tx : zTx) (x : Int32) (P : zP), lOk tg lw tx P ∧ kOk c ∧ (∀ s, s < 4 → ∃ n, n ≤ 40 ∧ (shW s0 s1 s2 s3 s).2.1 = nI n) ∧ args = [.ref 0, .int x] ∧ hs = pX c d k r tr kr rd ft tg tc lw kl ik ri s0 s1 s2 s3 tx ∧ (wiB x 3 = false → Q (some (.int (-2))) hs) ∧ (∀ s, s < 4 → x = nI s → ¬ flW (shW s0 s1 s2 s3 s).1 (shW s0 s1 s2 s3 s).2.1 = 0 → Q (some (.int (flW (shW s0 s1 s2 s3 s).1 (shW s0 s1 s2 s3 s).2.1))) hs) ∧ (∀ s n, s < 4 → x = nI s → flW (shW s0 s1 s2 s3 s).1 (shW s0 s1 s2 s3 s).2.1 = 0 → n ≤ 30 → (shW s0 s1 s2 s3 s).2.1 = nI n → ∀ r0 : Int32, r0 = oI (foF c P (shW s0 s1 s2 s3 s).2.2 n) → ∀ ri' nm' sk', Q (some (.int r0)) (pX c d k r tr kr rd ft tg tc lw kl ik ri' s0 s1 s2 s3 (txS tx nm' sk')))
set_option maxHeartbeats 4000000 in
theorem c6_judge (l : Launch) : Ct l mX6_judge false 7 0 0 T6_judge := by
  refine Ct.intro mX6_judge_ok ?_
  rintro args hs Q ⟨c, d, k, r, tr, kr, rd, ft, tg, tc, lw, kl, ik, ri, s0, s1, s2, s3, tx, x, P, hL, hok, hsh, rfl, rfl, h0, h1, h2⟩
  obtain ⟨orc, orl, obl, olt, ote, oha, odr, ohd, opu, oaz, oco, oho, obu, obb, ofa⟩ := ri
  obtain ⟨nt, n, cd, en, nm, sk⟩ := tx
  refine ⟨Nat.le_of_ble_eq_true rfl, ?_⟩
  refine V.g2 60 [14, 29, 32] mX6_judge_ok rfl ?_
  cases hB : wiB x 3 with
  | false =>
    refine V.cw mX6_judge_ok rfl lX6_260 (c6_refusalOfFilm l) rfl 0 6 rfl rfl rfl rfl rfl rfl ⟨c, d, k, r, tr, kr, rd, ft, tg, tc, lw, kl, ik, (orc, orl, obl, olt, ote, oha, odr, ohd, opu, oaz, oco, oho, obu, obb, ofa), s0, s1, s2, s3, (nt, n, cd, en, nm, sk), _, rfl, rfl, fun _ => ⟨rfl, ?_⟩, fun s hs e => absurd hB (by rw [e, wiB_n (by omega) (by omega)]; exact fun z => Bool.noConfusion z)⟩
    refine V.nm [(0, .ref 0), (1, .int x)] [.int (-2)] (pX c d k r tr kr rd ft tg tc lw kl ik (orc, orl, obl, olt, ote, oha, odr, ohd, opu, oaz, oco, oho, obu, obb, ofa) s0 s1 s2 s3 (nt, n, cd, en, nm, sk)) rfl rfl rfl ?_
    refine V.g2 60 [14, 29, 32] mX6_judge_ok rfl ?_
    refine And.intro (fun (e : (-2) = (0 : Int32)) => absurd e (by decide)) (fun (e : ¬ (-2) = (0 : Int32)) => ?_)
    refine V.g2 60 [14, 29, 32] mX6_judge_ok rfl ?_
    exact ⟨_, zsim_rfl _, h0 hB⟩
  | true =>
    obtain ⟨s, hs4, rfl⟩ := wiB_t hB (by omega)
    refine V.cw mX6_judge_ok rfl lX6_260 (c6_refusalOfFilm l) rfl 0 6 rfl rfl rfl rfl rfl rfl ⟨c, d, k, r, tr, kr, rd, ft, tg, tc, lw, kl, ik, (orc, orl, obl, olt, ote, oha, odr, ohd, opu, oaz, oco, oho, obu, obb, ofa), s0, s1, s2, s3, (nt, n, cd, en, nm, sk), _, rfl, rfl, fun z => absurd (z.symm.trans hB) (fun e => Bool.noConfusion e), fun s2 hs2 e rr0 hrr0 => ⟨rfl, ?_⟩⟩
    have es : s = s2 := (nI_eq (by omega) (by omega)).mp e
    subst es
    refine V.nm [(0, .ref 0), (1, .int (nI s))] [.int rr0] (pX c d k r tr kr rd ft tg tc lw kl ik (orc, orl, obl, olt, ote, oha, odr, ohd, opu, oaz, oco, oho, obu, obb, ofa) s0 s1 s2 s3 (nt, n, cd, en, nm, sk)) rfl rfl rfl ?_
    have h1 := h1 s hs4 rfl
    have h2 := fun n => h2 s n hs4 rfl
    have hn0 := hsh s hs4
    refine V.g2 60 [14, 29, 32] mX6_judge_ok rfl ?_
    refine And.intro (fun (e : rr0 = (0 : Int32)) => ?_) (fun (e : ¬ rr0 = (0 : Int32)) => ?_)
    · have hf := hrr0.symm.trans e
      obtain ⟨n2, hn30, hsz⟩ := flW_m hn0 hf
      have h2 := h2 n2 hf hn30 hsz
      clear h0 h1
      refine V.kn [0, 1] [(0, .ref 0), (1, .int (nI s))] [] (pX c d k r tr kr rd ft tg tc lw kl ik (orc, orl, obl, olt, ote, oha, odr, ohd, opu, oaz, oco, oho, obu, obb, ofa) s0 s1 s2 s3 (nt, n, cd, en, nm, sk)) rfl rfl rfl ?_
      obtain ⟨S, hS⟩ : ∃ S, pX c d k r tr kr rd ft tg tc lw kl ik (orc, orl, obl, olt, ote, oha, odr, ohd, opu, oaz, oco, oho, obu, obb, ofa) s0 s1 s2 s3 (nt, n, cd, en, nm, sk) = S := ⟨_, rfl⟩
      refine V.s0 hS ?_
      clear hf hrr0 hn0 hsh
      rcases (show s = 0 ∨ s = 1 ∨ s = 2 ∨ s = 3 by omega) with rfl | rfl | rfl | rfl
      · have hsz : s0.2.1 = nI n2 := hsz
        have h2 : ∀ r0, r0 = oI (foF c P s0.2.2 n2) → _ := h2
        refine V.nm [(0, .ref 0), (1, .int (nI 0))] [] (pX c d k r tr kr rd ft tg tc lw kl ik (orc, orl, obl, olt, ote, oha, odr, ohd, opu, oaz, oco, oho, obu, obb, ofa) s0 s1 s2 s3 (nt, n, cd, en, nm, sk)) rfl rfl rfl ?_
        refine V.g2 60 [14, 29, 32] mX6_judge_ok rfl ?_
        refine V.cVW mX6_judge_ok rfl lX6_128 (ct_theLaw l) rfl [.ref 0] [.ref 2, .ref 0] rfl 0 6 rfl rfl rfl rfl rfl rfl (some (.ref 102)) (pX c d k r tr kr rd ft tg tc lw kl ik (orc, orl, obl, olt, ote, oha, odr, ohd, opu, oaz, oco, oho, obu, obb, ofa) s0 s1 s2 s3 (nt, n, cd, en, nm, sk)) ⟨c, d, k, r, tr, kr, rd, ft, tg, tc, lw, kl, ik, (orc, orl, obl, olt, ote, oha, odr, ohd, opu, oaz, oco, oho, obu, obb, ofa), s0, s1, s2, s3, (nt, n, cd, en, nm, sk), P, hL, rfl, rfl, rfl, rfl⟩ rfl ?_
        refine V.g2 60 [14, 29, 32] mX6_judge_ok rfl ?_
        have er : zrf (zsg (nI 0).toNatClampNeg) = .ref 86 := by rw [pk_cl 0 rfl]; rfl
        refine And.intro (pk_in 0 4 (by omega) rfl) ?_
        refine V.nm [(0, .ref 0), (1, .int (nI 0))] [.ref 86, .ref 102, .ref 2, .ref 0] (pX c d k r tr kr rd ft tg tc lw kl ik (orc, orl, obl, olt, ote, oha, odr, ohd, opu, oaz, oco, oho, obu, obb, ofa) s0 s1 s2 s3 (nt, n, cd, en, nm, sk)) rfl (by rw [← er] <;> rfl) rfl ?_
        refine V.callVP mX6_judge_ok rfl lX6_263 (c6_firstOtherwise l) rfl 56 rfl (dlF orc orl ft) (dlF_ok orc orl ft) [0, 39, 40, 41, 1, 2, 3, 4, 5, 6, 7, 51, 52, 53, 54, 55, 43, 44] [some 0, some 4, some 5, some 6, some 7, some 8, some 9, some 10, none, none, none, none, none, none, none, none, none, none, none, none, none, none, none, none, none, none, none, none, none, none, none, none, none, none, none, none, none, none, none, some 1, some 2, some 3, none, some 16, some 17, none, none, none, none, none, none, some 11, some 12, some 13, some 14, some 15] (by decide +kernel) (pFO tc lw kl ik c 101 103 (obl, olt, ote, oha, odr, ohd, opu, oaz, oco, oho, obu, obb, ofa) (nt, n, cd, en, nm, sk) s0) [.ref 0, .ref 8, .ref 22, .ref 32] [] (fun v wc' => ∃ (r2 te2 : Int32) (dr2 nm2 sk2 : fI) (hd2 : Int32) (rr2 : RT), r2 = oI (foF c P (s0.2.2) n2) ∧ v = some (.int r2) ∧ wc' = pFO tc lw kl ik c 8 22 (0, olt, te2, haC c, dr2, hd2, rr2) (nt, n, cd, en, nm2, sk2) s0) rfl 0 6 rfl rfl rfl rfl rfl rfl rfl rfl ⟨tc, lw, kl, ik, c, 101, 103, (obl, olt, ote, oha, odr, ohd, opu, oaz, oco, oho, obu, obb, ofa), (nt, n, cd, en, nm, sk), s0, P, n2, hL.2, hok, hn30, hsz, rfl, rfl, fun r2 hr2 te2 dr2 hd2 nm2 sk2 rr2 => ⟨r2, te2, dr2, nm2, sk2, hd2, rr2, hr2, rfl, rfl⟩⟩ (fun v wc' hv => ?_)
        obtain ⟨r21, te1, dr1, nm1, sk1, hd1, rr1, hr21, rfl, rfl⟩ := hv
        refine ⟨rfl, ?_⟩
        refine V.nm [(0, .ref 0), (1, .int (nI 0))] [.int r21] (pX c d k r tr kr rd ft tg tc lw kl ik (2, 102, 0, olt, te1, (haC c), dr1, hd1, rr1) s0 s1 s2 s3 (nt, n, cd, en, nm1, sk1)) rfl rfl rfl ?_
        refine V.g2 60 [14, 29, 32] mX6_judge_ok rfl ?_
        exact ⟨_, zsim_rfl _, h2 _ hr21 (2, 102, 0, olt, te1, (haC c), dr1, hd1, rr1) nm1 sk1⟩
      · have hsz : s1.2.1 = nI n2 := hsz
        have h2 : ∀ r0, r0 = oI (foF c P s1.2.2 n2) → _ := h2
        refine V.nm [(0, .ref 0), (1, .int (nI 1))] [] (pX c d k r tr kr rd ft tg tc lw kl ik (orc, orl, obl, olt, ote, oha, odr, ohd, opu, oaz, oco, oho, obu, obb, ofa) s0 s1 s2 s3 (nt, n, cd, en, nm, sk)) rfl rfl rfl ?_
        refine V.g2 60 [14, 29, 32] mX6_judge_ok rfl ?_
        refine V.cVW mX6_judge_ok rfl lX6_128 (ct_theLaw l) rfl [.ref 0] [.ref 2, .ref 0] rfl 0 6 rfl rfl rfl rfl rfl rfl (some (.ref 102)) (pX c d k r tr kr rd ft tg tc lw kl ik (orc, orl, obl, olt, ote, oha, odr, ohd, opu, oaz, oco, oho, obu, obb, ofa) s0 s1 s2 s3 (nt, n, cd, en, nm, sk)) ⟨c, d, k, r, tr, kr, rd, ft, tg, tc, lw, kl, ik, (orc, orl, obl, olt, ote, oha, odr, ohd, opu, oaz, oco, oho, obu, obb, ofa), s0, s1, s2, s3, (nt, n, cd, en, nm, sk), P, hL, rfl, rfl, rfl, rfl⟩ rfl ?_
        refine V.g2 60 [14, 29, 32] mX6_judge_ok rfl ?_
        have er : zrf (zsg (nI 1).toNatClampNeg) = .ref 90 := by rw [pk_cl 1 rfl]; rfl
        refine And.intro (pk_in 1 4 (by omega) rfl) ?_
        refine V.nm [(0, .ref 0), (1, .int (nI 1))] [.ref 90, .ref 102, .ref 2, .ref 0] (pX c d k r tr kr rd ft tg tc lw kl ik (orc, orl, obl, olt, ote, oha, odr, ohd, opu, oaz, oco, oho, obu, obb, ofa) s0 s1 s2 s3 (nt, n, cd, en, nm, sk)) rfl (by rw [← er] <;> rfl) rfl ?_
        refine V.callVP mX6_judge_ok rfl lX6_263 (c6_firstOtherwise l) rfl 56 rfl (dlF orc orl ft) (dlF_ok orc orl ft) [0, 39, 40, 41, 1, 2, 3, 4, 5, 6, 7, 51, 52, 53, 54, 55, 45, 46] [some 0, some 4, some 5, some 6, some 7, some 8, some 9, some 10, none, none, none, none, none, none, none, none, none, none, none, none, none, none, none, none, none, none, none, none, none, none, none, none, none, none, none, none, none, none, none, some 1, some 2, some 3, none, none, none, some 16, some 17, none, none, none, none, some 11, some 12, some 13, some 14, some 15] (by decide +kernel) (pFO tc lw kl ik c 101 103 (obl, olt, ote, oha, odr, ohd, opu, oaz, oco, oho, obu, obb, ofa) (nt, n, cd, en, nm, sk) s1) [.ref 0, .ref 8, .ref 22, .ref 32] [] (fun v wc' => ∃ (r2 te2 : Int32) (dr2 nm2 sk2 : fI) (hd2 : Int32) (rr2 : RT), r2 = oI (foF c P (s1.2.2) n2) ∧ v = some (.int r2) ∧ wc' = pFO tc lw kl ik c 8 22 (0, olt, te2, haC c, dr2, hd2, rr2) (nt, n, cd, en, nm2, sk2) s1) rfl 0 6 rfl rfl rfl rfl rfl rfl rfl rfl ⟨tc, lw, kl, ik, c, 101, 103, (obl, olt, ote, oha, odr, ohd, opu, oaz, oco, oho, obu, obb, ofa), (nt, n, cd, en, nm, sk), s1, P, n2, hL.2, hok, hn30, hsz, rfl, rfl, fun r2 hr2 te2 dr2 hd2 nm2 sk2 rr2 => ⟨r2, te2, dr2, nm2, sk2, hd2, rr2, hr2, rfl, rfl⟩⟩ (fun v wc' hv => ?_)
        obtain ⟨r22, te2, dr2, nm2, sk2, hd2, rr2, hr22, rfl, rfl⟩ := hv
        refine ⟨rfl, ?_⟩
        refine V.nm [(0, .ref 0), (1, .int (nI 1))] [.int r22] (pX c d k r tr kr rd ft tg tc lw kl ik (2, 102, 0, olt, te2, (haC c), dr2, hd2, rr2) s0 s1 s2 s3 (nt, n, cd, en, nm2, sk2)) rfl rfl rfl ?_
        refine V.g2 60 [14, 29, 32] mX6_judge_ok rfl ?_
        exact ⟨_, zsim_rfl _, h2 _ hr22 (2, 102, 0, olt, te2, (haC c), dr2, hd2, rr2) nm2 sk2⟩
      · have hsz : s2.2.1 = nI n2 := hsz
        have h2 : ∀ r0, r0 = oI (foF c P s2.2.2 n2) → _ := h2
        refine V.nm [(0, .ref 0), (1, .int (nI 2))] [] (pX c d k r tr kr rd ft tg tc lw kl ik (orc, orl, obl, olt, ote, oha, odr, ohd, opu, oaz, oco, oho, obu, obb, ofa) s0 s1 s2 s3 (nt, n, cd, en, nm, sk)) rfl rfl rfl ?_
        refine V.g2 60 [14, 29, 32] mX6_judge_ok rfl ?_
        refine V.cVW mX6_judge_ok rfl lX6_128 (ct_theLaw l) rfl [.ref 0] [.ref 2, .ref 0] rfl 0 6 rfl rfl rfl rfl rfl rfl (some (.ref 102)) (pX c d k r tr kr rd ft tg tc lw kl ik (orc, orl, obl, olt, ote, oha, odr, ohd, opu, oaz, oco, oho, obu, obb, ofa) s0 s1 s2 s3 (nt, n, cd, en, nm, sk)) ⟨c, d, k, r, tr, kr, rd, ft, tg, tc, lw, kl, ik, (orc, orl, obl, olt, ote, oha, odr, ohd, opu, oaz, oco, oho, obu, obb, ofa), s0, s1, s2, s3, (nt, n, cd, en, nm, sk), P, hL, rfl, rfl, rfl, rfl⟩ rfl ?_
        refine V.g2 60 [14, 29, 32] mX6_judge_ok rfl ?_
        have er : zrf (zsg (nI 2).toNatClampNeg) = .ref 94 := by rw [pk_cl 2 rfl]; rfl
        refine And.intro (pk_in 2 4 (by omega) rfl) ?_
        refine V.nm [(0, .ref 0), (1, .int (nI 2))] [.ref 94, .ref 102, .ref 2, .ref 0] (pX c d k r tr kr rd ft tg tc lw kl ik (orc, orl, obl, olt, ote, oha, odr, ohd, opu, oaz, oco, oho, obu, obb, ofa) s0 s1 s2 s3 (nt, n, cd, en, nm, sk)) rfl (by rw [← er] <;> rfl) rfl ?_
        refine V.callVP mX6_judge_ok rfl lX6_263 (c6_firstOtherwise l) rfl 56 rfl (dlF orc orl ft) (dlF_ok orc orl ft) [0, 39, 40, 41, 1, 2, 3, 4, 5, 6, 7, 51, 52, 53, 54, 55, 47, 48] [some 0, some 4, some 5, some 6, some 7, some 8, some 9, some 10, none, none, none, none, none, none, none, none, none, none, none, none, none, none, none, none, none, none, none, none, none, none, none, none, none, none, none, none, none, none, none, some 1, some 2, some 3, none, none, none, none, none, some 16, some 17, none, none, some 11, some 12, some 13, some 14, some 15] (by decide +kernel) (pFO tc lw kl ik c 101 103 (obl, olt, ote, oha, odr, ohd, opu, oaz, oco, oho, obu, obb, ofa) (nt, n, cd, en, nm, sk) s2) [.ref 0, .ref 8, .ref 22, .ref 32] [] (fun v wc' => ∃ (r2 te2 : Int32) (dr2 nm2 sk2 : fI) (hd2 : Int32) (rr2 : RT), r2 = oI (foF c P (s2.2.2) n2) ∧ v = some (.int r2) ∧ wc' = pFO tc lw kl ik c 8 22 (0, olt, te2, haC c, dr2, hd2, rr2) (nt, n, cd, en, nm2, sk2) s2) rfl 0 6 rfl rfl rfl rfl rfl rfl rfl rfl ⟨tc, lw, kl, ik, c, 101, 103, (obl, olt, ote, oha, odr, ohd, opu, oaz, oco, oho, obu, obb, ofa), (nt, n, cd, en, nm, sk), s2, P, n2, hL.2, hok, hn30, hsz, rfl, rfl, fun r2 hr2 te2 dr2 hd2 nm2 sk2 rr2 => ⟨r2, te2, dr2, nm2, sk2, hd2, rr2, hr2, rfl, rfl⟩⟩ (fun v wc' hv => ?_)
        obtain ⟨r23, te3, dr3, nm3, sk3, hd3, rr3, hr23, rfl, rfl⟩ := hv
        refine ⟨rfl, ?_⟩
        refine V.nm [(0, .ref 0), (1, .int (nI 2))] [.int r23] (pX c d k r tr kr rd ft tg tc lw kl ik (2, 102, 0, olt, te3, (haC c), dr3, hd3, rr3) s0 s1 s2 s3 (nt, n, cd, en, nm3, sk3)) rfl rfl rfl ?_
        refine V.g2 60 [14, 29, 32] mX6_judge_ok rfl ?_
        exact ⟨_, zsim_rfl _, h2 _ hr23 (2, 102, 0, olt, te3, (haC c), dr3, hd3, rr3) nm3 sk3⟩
      · have hsz : s3.2.1 = nI n2 := hsz
        have h2 : ∀ r0, r0 = oI (foF c P s3.2.2 n2) → _ := h2
        refine V.nm [(0, .ref 0), (1, .int (nI 3))] [] (pX c d k r tr kr rd ft tg tc lw kl ik (orc, orl, obl, olt, ote, oha, odr, ohd, opu, oaz, oco, oho, obu, obb, ofa) s0 s1 s2 s3 (nt, n, cd, en, nm, sk)) rfl rfl rfl ?_
        refine V.g2 60 [14, 29, 32] mX6_judge_ok rfl ?_
        refine V.cVW mX6_judge_ok rfl lX6_128 (ct_theLaw l) rfl [.ref 0] [.ref 2, .ref 0] rfl 0 6 rfl rfl rfl rfl rfl rfl (some (.ref 102)) (pX c d k r tr kr rd ft tg tc lw kl ik (orc, orl, obl, olt, ote, oha, odr, ohd, opu, oaz, oco, oho, obu, obb, ofa) s0 s1 s2 s3 (nt, n, cd, en, nm, sk)) ⟨c, d, k, r, tr, kr, rd, ft, tg, tc, lw, kl, ik, (orc, orl, obl, olt, ote, oha, odr, ohd, opu, oaz, oco, oho, obu, obb, ofa), s0, s1, s2, s3, (nt, n, cd, en, nm, sk), P, hL, rfl, rfl, rfl, rfl⟩ rfl ?_
        refine V.g2 60 [14, 29, 32] mX6_judge_ok rfl ?_
        have er : zrf (zsg (nI 3).toNatClampNeg) = .ref 98 := by rw [pk_cl 3 rfl]; rfl
        refine And.intro (pk_in 3 4 (by omega) rfl) ?_
        refine V.nm [(0, .ref 0), (1, .int (nI 3))] [.ref 98, .ref 102, .ref 2, .ref 0] (pX c d k r tr kr rd ft tg tc lw kl ik (orc, orl, obl, olt, ote, oha, odr, ohd, opu, oaz, oco, oho, obu, obb, ofa) s0 s1 s2 s3 (nt, n, cd, en, nm, sk)) rfl (by rw [← er] <;> rfl) rfl ?_
        refine V.callVP mX6_judge_ok rfl lX6_263 (c6_firstOtherwise l) rfl 56 rfl (dlF orc orl ft) (dlF_ok orc orl ft) [0, 39, 40, 41, 1, 2, 3, 4, 5, 6, 7, 51, 52, 53, 54, 55, 49, 50] [some 0, some 4, some 5, some 6, some 7, some 8, some 9, some 10, none, none, none, none, none, none, none, none, none, none, none, none, none, none, none, none, none, none, none, none, none, none, none, none, none, none, none, none, none, none, none, some 1, some 2, some 3, none, none, none, none, none, none, none, some 16, some 17, some 11, some 12, some 13, some 14, some 15] (by decide +kernel) (pFO tc lw kl ik c 101 103 (obl, olt, ote, oha, odr, ohd, opu, oaz, oco, oho, obu, obb, ofa) (nt, n, cd, en, nm, sk) s3) [.ref 0, .ref 8, .ref 22, .ref 32] [] (fun v wc' => ∃ (r2 te2 : Int32) (dr2 nm2 sk2 : fI) (hd2 : Int32) (rr2 : RT), r2 = oI (foF c P (s3.2.2) n2) ∧ v = some (.int r2) ∧ wc' = pFO tc lw kl ik c 8 22 (0, olt, te2, haC c, dr2, hd2, rr2) (nt, n, cd, en, nm2, sk2) s3) rfl 0 6 rfl rfl rfl rfl rfl rfl rfl rfl ⟨tc, lw, kl, ik, c, 101, 103, (obl, olt, ote, oha, odr, ohd, opu, oaz, oco, oho, obu, obb, ofa), (nt, n, cd, en, nm, sk), s3, P, n2, hL.2, hok, hn30, hsz, rfl, rfl, fun r2 hr2 te2 dr2 hd2 nm2 sk2 rr2 => ⟨r2, te2, dr2, nm2, sk2, hd2, rr2, hr2, rfl, rfl⟩⟩ (fun v wc' hv => ?_)
        obtain ⟨r24, te4, dr4, nm4, sk4, hd4, rr4, hr24, rfl, rfl⟩ := hv
        refine ⟨rfl, ?_⟩
        refine V.nm [(0, .ref 0), (1, .int (nI 3))] [.int r24] (pX c d k r tr kr rd ft tg tc lw kl ik (2, 102, 0, olt, te4, (haC c), dr4, hd4, rr4) s0 s1 s2 s3 (nt, n, cd, en, nm4, sk4)) rfl rfl rfl ?_
        refine V.g2 60 [14, 29, 32] mX6_judge_ok rfl ?_
        exact ⟨_, zsim_rfl _, h2 _ hr24 (2, 102, 0, olt, te4, (haC c), dr4, hd4, rr4) nm4 sk4⟩
    · refine V.g2 60 [14, 29, 32] mX6_judge_ok rfl ?_
      exact ⟨_, zsim_rfl _, (by have h1 := h1 (by rw [← hrr0]; exact e); rw [← hrr0] at h1; exact h1)⟩
def T6_held : zT := fun args hs Q => ∃ (c d k : zCart) (r tr kr : zRow) (rd : zRd) (ft : Nat) (tg : Nat → Option Nat) (tc lw kl ik : Int32) (ri : zRi) (s0 s1 s2 s3 : zSh) (tx : zTx) (x y : Int32) (P : zP), lOk tg lw tx P ∧ kOk c ∧ (∀ s, s < 4 → ∃ n, n ≤ 40 ∧ (shW s0 s1 s2 s3 s).2.1 = nI n) ∧ args = [.ref 0, .int x, .int y] ∧ hs = pX c d k r tr kr rd ft tg tc lw kl ik ri s0 s1 s2 s3 tx ∧ (wiB x 3 = false → Q (some (.int (-2))) hs) ∧ (∀ s, s < 4 → x = nI s → ¬ flW (shW s0 s1 s2 s3 s).1 (shW s0 s1 s2 s3 s).2.1 = 0 → Q (some (.int (flW (shW s0 s1 s2 s3 s).1 (shW s0 s1 s2 s3 s).2.1))) hs) ∧ (∀ s, s < 4 → x = nI s → flW (shW s0 s1 s2 s3 s).1 (shW s0 s1 s2 s3 s).2.1 = 0 → wiB y 1 = false → Q (some (.int (-7))) hs) ∧ (∀ s n j, s < 4 → x = nI s → flW (shW s0 s1 s2 s3 s).1 (shW s0 s1 s2 s3 s).2.1 = 0 → n ≤ 30 → (shW s0 s1 s2 s3 s).2.1 = nI n → j < 2 → y = nI j → ∀ r0 : Int32, r0 = (if j = 0 then ctB (fun h => foB (cwH c (haH h)) P (shW s0 s1 s2 s3 s).2.2 n) 100 else oI (fsF (fun h => foB (cwH c (haH h)) P (shW s0 s1 s2 s3 s).2.2 n) 100)) → ∀ d' ri' nm' sk', Q (some (.int r0)) (pX c d' k r tr kr rd ft tg tc lw kl ik ri' s0 s1 s2 s3 (txS tx nm' sk')))
set_option maxHeartbeats 4000000 in
theorem c6_held (l : Launch) : Ct l mX6_held false 8 0 0 T6_held := by
  refine Ct.intro mX6_held_ok ?_
  rintro args hs Q ⟨c, d, k, r, tr, kr, rd, ft, tg, tc, lw, kl, ik, ri, s0, s1, s2, s3, tx, x, y, P, hL, hok, hsh, rfl, rfl, h0, h1, h2, h3⟩
  obtain ⟨nt, n, cd, en, nm, sk⟩ := tx
  refine ⟨Nat.le_of_ble_eq_true rfl, ?_⟩
  refine V.g2 60 [44, 81, 98] mX6_held_ok rfl ?_
  cases hB : wiB x 3 with
  | false =>
    refine V.cw mX6_held_ok rfl lX6_260 (c6_refusalOfFilm l) rfl 0 6 rfl rfl rfl rfl rfl rfl ⟨c, d, k, r, tr, kr, rd, ft, tg, tc, lw, kl, ik, ri, s0, s1, s2, s3, (nt, n, cd, en, nm, sk), _, rfl, rfl, fun _ => ⟨rfl, ?_⟩, fun s hs e => absurd hB (by rw [e, wiB_n (by omega) (by omega)]; exact fun z => Bool.noConfusion z)⟩
    refine V.nm [(0, .ref 0), (1, .int x), (2, .int y)] [.int (-2)] (pX c d k r tr kr rd ft tg tc lw kl ik ri s0 s1 s2 s3 (nt, n, cd, en, nm, sk)) rfl rfl rfl ?_
    refine V.g2 60 [44, 81, 98] mX6_held_ok rfl ?_
    refine And.intro (fun (e : (-2) = (0 : Int32)) => absurd e (by decide)) (fun (e : ¬ (-2) = (0 : Int32)) => ?_)
    exact ⟨_, zsim_rfl _, h0 hB⟩
  | true =>
    obtain ⟨s, hs4, rfl⟩ := wiB_t hB (by omega)
    refine V.cw mX6_held_ok rfl lX6_260 (c6_refusalOfFilm l) rfl 0 6 rfl rfl rfl rfl rfl rfl ⟨c, d, k, r, tr, kr, rd, ft, tg, tc, lw, kl, ik, ri, s0, s1, s2, s3, (nt, n, cd, en, nm, sk), _, rfl, rfl, fun z => absurd (z.symm.trans hB) (fun e => Bool.noConfusion e), fun s2 hs2 e rr0 hrr0 => ⟨rfl, ?_⟩⟩
    have es : s = s2 := (nI_eq (by omega) (by omega)).mp e
    subst es
    refine V.nm [(0, .ref 0), (1, .int (nI s)), (2, .int y)] [.int rr0] (pX c d k r tr kr rd ft tg tc lw kl ik ri s0 s1 s2 s3 (nt, n, cd, en, nm, sk)) rfl rfl rfl ?_
    have h1 := h1 s hs4 rfl
    have h2 := h2 s hs4 rfl
    have h3 := fun n j => h3 s n j hs4 rfl
    have hn0 := hsh s hs4
    refine V.g2 60 [44, 81, 98] mX6_held_ok rfl ?_
    refine And.intro (fun (e : rr0 = (0 : Int32)) => ?_) (fun (e : ¬ rr0 = (0 : Int32)) => ?_)
    · have hf := hrr0.symm.trans e
      obtain ⟨n2, hn30, hsz⟩ := flW_m hn0 hf
      have h2 := h2 hf
      have h3 := fun j => h3 n2 j hf hn30 hsz
      clear h0 h1
      refine V.cS0 mX6_held_ok rfl lX6_114 (ct_within l) rfl [.int y, .int (nI 0), .int (nI 1)] [] rfl rfl rfl (some (.int (bI (wiB y 1)))) (T_within_use rfl) ?_
      cases hC : (wiB y 1) with
      | false =>
        refine V.nm [(3, .int rr0), (0, .ref 0), (1, .int (nI s)), (2, .int y)] [.int (bI false)] (pX c d k r tr kr rd ft tg tc lw kl ik ri s0 s1 s2 s3 (nt, n, cd, en, nm, sk)) rfl rfl rfl ?_
        refine V.g2 60 [44, 81, 98] mX6_held_ok rfl ?_
        refine And.intro (fun e => absurd rfl e) (fun _ => ?_)
        exact ⟨_, zsim_rfl _, h2 hC⟩
      | true =>
        refine V.nm [(3, .int rr0), (0, .ref 0), (1, .int (nI s)), (2, .int y)] [.int (bI true)] (pX c d k r tr kr rd ft tg tc lw kl ik ri s0 s1 s2 s3 (nt, n, cd, en, nm, sk)) rfl rfl rfl ?_
        obtain ⟨j, hj, rfl⟩ := wiB_t hC (by omega)
        have h3 := h3 j (by omega) rfl
        clear h2 hC hf hrr0 hn0 hsh
        refine V.kn [0, 1, 2] [(0, .ref 0), (1, .int (nI s)), (2, .int (nI j))] [.int (bI true)] (pX c d k r tr kr rd ft tg tc lw kl ik ri s0 s1 s2 s3 (nt, n, cd, en, nm, sk)) rfl rfl rfl ?_
        obtain ⟨S, hS⟩ : ∃ S, pX c d k r tr kr rd ft tg tc lw kl ik ri s0 s1 s2 s3 (nt, n, cd, en, nm, sk) = S := ⟨_, rfl⟩
        refine V.s0 hS ?_
        obtain ⟨G, hG⟩ : ∃ G, G = (fun h => foB (cwH c (haH h)) P (shW s0 s1 s2 s3 s).2.2 n2) := ⟨_, rfl⟩
        rw [← hG] at h3
        have loop : ∀ (m i : Nat) (x6 x5 x4 : Int32) (ha nm2 sk2 : fI) (ri2 : zRi), i + m = 100 → x6 = nI i → x5 = oI (fsF G i) → x4 = ctB G i → V l mX6_held false S (zrm 8 0 0) (zFm false S Q 0 0) 0 0 44 [(6, .int x6), (5, .int x5), (4, .int x4), (0, .ref 0), (1, .int (nI s)), (2, .int (nI j))] [] (pX c (cwH c ha) k r tr kr rd ft tg tc lw kl ik ri2 s0 s1 s2 s3 (nt, n, cd, en, nm2, sk2)) := by
          intro m
          induction m with
          | zero =>
            intro i x6 x5 x4 ha nm2 sk2 ri2 hi h6 h5 h4
            refine V.g2 60 [44, 81, 98] mX6_held_ok rfl ?_
            refine pk_le 100 i (fun e1 => ?_) (fun e1 => absurd e1 (by omega)) rfl h6
            have ei : i = 100 := by omega
            subst ei
            refine zp_ne j 0 (fun e2 => ?_) (fun e2 => ?_) rfl rfl
            · refine V.g2 60 [44, 81, 98] mX6_held_ok rfl ?_
              exact ⟨_, zsim_rfl _, h3 _ (by rw [if_neg e2]; exact h5) (cwH c ha) ri2 nm2 sk2⟩
            · refine V.g2 60 [44, 81, 98] mX6_held_ok rfl ?_
              exact ⟨_, zsim_rfl _, h3 _ (by rw [if_pos e2]; exact h4) (cwH c ha) ri2 nm2 sk2⟩
          | succ m ih =>
            intro i x6 x5 x4 ha nm2 sk2 ri2 hi h6 h5 h4
            refine V.g2 60 [44, 81, 98] mX6_held_ok rfl ?_
            refine pk_le 100 i (fun e1 => absurd e1 (by omega)) (fun e1 => ?_) rfl h6
            refine V.cV1P mX6_held_ok rfl lX6_218 (ct_takeHands l) rfl 56 rfl [8, 9, 10, 11, 12, 13, 14] [none, none, none, none, none, none, none, none, some 0, some 1, some 2, some 3, some 4, some 5, some 6, none, none, none, none, none, none, none, none, none, none, none, none, none, none, none, none, none, none, none, none, none, none, none, none, none, none, none, none, none, none, none, none, none, none, none, none, none, none, none, none, none] (by decide +kernel) (pCart 0 (cwH c ha)) [.ref 0, .int x6] [] rfl 0 0 rfl rfl rfl rfl rfl rfl rfl rfl none (pCart 0 ((kdC c), (moC c), (kiC c), (loC c), (upd (upd ha 0 (nI (i / 10))) 1 (nI (i % 10))), (wiC c), (paC c))) ⟨cwH c ha, i, by omega, by rw [h6], rfl, rfl, rfl⟩ rfl (pX c ((kdC c), (moC c), (kiC c), (loC c), (upd (upd ha 0 (nI (i / 10))) 1 (nI (i % 10))), (wiC c), (paC c)) k r tr kr rd ft tg tc lw kl ik ri2 s0 s1 s2 s3 (nt, n, cd, en, nm2, sk2)) [] rfl rfl ?_
            refine V.sim (zsim_at (k := 13) (y := .inl (0, 2, .inl (haH i))) rfl (zsm_i haH_sim)) ?_
            refine V.nm [(6, .int x6), (5, .int x5), (4, .int x4), (0, .ref 0), (1, .int (nI s)), (2, .int (nI j))] [] (pX c (cwH c (haH i)) k r tr kr rd ft tg tc lw kl ik ri2 s0 s1 s2 s3 (nt, n, cd, en, nm2, sk2)) rfl rfl rfl ?_
            refine V.g2 60 [44, 81, 98] mX6_held_ok rfl ?_
            refine V.cw mX6_held_ok rfl lX6_267 (c6_wouldFit l) rfl 0 6 rfl rfl rfl rfl rfl rfl ⟨c, (cwH c (haH i)), k, r, tr, kr, rd, ft, tg, tc, lw, kl, ik, ri2, s0, s1, s2, s3, (nt, n, cd, en, nm2, sk2), P, s, n2, hL, hok, hs4, hn30, hsz, rfl, rfl, fun B hB ri3 nm3 sk3 => ⟨rfl, ?_⟩⟩
            have hB : B = G i := by rw [hG]; exact hB
            cases B with
            | false =>
              refine V.nm [(6, .int x6), (5, .int x5), (4, .int x4), (0, .ref 0), (1, .int (nI s)), (2, .int (nI j))] [.int (bI false)] (pX c (cwH c (haH i)) k r tr kr rd ft tg tc lw kl ik ri3 s0 s1 s2 s3 (nt, n, cd, en, nm3, sk3)) rfl rfl rfl ?_
              refine V.g2 60 [44, 81, 98] mX6_held_ok rfl ?_
              refine And.intro (fun _ => ?_) (fun e => absurd rfl e)
              refine V.g2 60 [44, 81, 98] mX6_held_ok rfl ?_
              refine V.kn [6, 5, 4, 0, 1, 2] [(6, .int (x6 + zi 1)), (5, .int x5), (4, .int x4), (0, .ref 0), (1, .int (nI s)), (2, .int (nI j))] [] (pX c (cwH c (haH i)) k r tr kr rd ft tg tc lw kl ik ri3 s0 s1 s2 s3 (nt, n, cd, en, nm3, sk3)) rfl rfl rfl ?_
              exact ih (i + 1) _ _ _ (haH i) _ _ _ (by omega) (ninc h6) (by rw [h5]; show _ = oI (fsF G (i + 1)); rw [fsF, hB.symm]; cases fsF G i <;> rfl) (by rw [ctB_f hB.symm]; exact h4)
            | true =>
              refine V.nm [(6, .int x6), (5, .int x5), (4, .int x4), (0, .ref 0), (1, .int (nI s)), (2, .int (nI j))] [.int (bI true)] (pX c (cwH c (haH i)) k r tr kr rd ft tg tc lw kl ik ri3 s0 s1 s2 s3 (nt, n, cd, en, nm3, sk3)) rfl rfl rfl ?_
              have t81 : ∀ (y5 y4 : Int32), y5 = oI (fsF G (i + 1)) → y4 = ctB G (i + 1) → V l mX6_held false S (zrm 8 0 0) (zFm false S Q 0 0) 0 0 81 [(6, .int x6), (5, .int y5), (4, .int y4), (0, .ref 0), (1, .int (nI s)), (2, .int (nI j))] [] (pX c (cwH c (haH i)) k r tr kr rd ft tg tc lw kl ik ri3 s0 s1 s2 s3 (nt, n, cd, en, nm3, sk3)) := by
                intro y5 y4 h5 h4
                refine V.g2 60 [44, 81, 98] mX6_held_ok rfl ?_
                refine V.kn [6, 5, 4, 0, 1, 2] [(6, .int (x6 + zi 1)), (5, .int y5), (4, .int y4), (0, .ref 0), (1, .int (nI s)), (2, .int (nI j))] [] (pX c (cwH c (haH i)) k r tr kr rd ft tg tc lw kl ik ri3 s0 s1 s2 s3 (nt, n, cd, en, nm3, sk3)) rfl rfl rfl ?_
                exact ih (i + 1) _ _ _ (haH i) _ _ _ (by omega) (ninc h6) h5 h4
              refine V.g2 60 [44, 81, 98] mX6_held_ok rfl ?_
              refine And.intro (fun e => absurd e (by decide)) (fun _ => ?_)
              refine And.intro (fun (e3 : ¬ x5 = (-1 : Int32)) => ?_) (fun (e3 : x5 = (-1 : Int32)) => ?_)
              · have h5b : x5 = oI (fsF G (i + 1)) := by
                  rw [h5]
                  cases hz : fsF G i with
                  | none => exact absurd (by rw [h5, hz]; rfl) e3
                  | some q => rw [fsF, hz]
                refine V.kn [6, 5, 4, 0, 1, 2] [(6, .int x6), (5, .int x5), (4, .int (x4 + zi 1)), (0, .ref 0), (1, .int (nI s)), (2, .int (nI j))] [] (pX c (cwH c (haH i)) k r tr kr rd ft tg tc lw kl ik ri3 s0 s1 s2 s3 (nt, n, cd, en, nm3, sk3)) rfl rfl rfl ?_
                exact t81 _ _ h5b (by rw [ctB_t hB.symm, ← h4]; rfl)
              · have h5b : x6 = oI (fsF G (i + 1)) := by
                  cases hz : fsF G i with
                  | none => rw [fsF_hit hz hB.symm (Nat.lt_succ_self i)]; exact h6
                  | some q => exact absurd (by rw [← e3, h5, hz]; rfl : nI q = -1) (fun e => nI_pos (n := q) (by have := fsF_lt hz; omega) (by rw [e]; decide))
                refine V.kn [6, 5, 4, 0, 1, 2] [(6, .int x6), (5, .int x6), (4, .int (x4 + zi 1)), (0, .ref 0), (1, .int (nI s)), (2, .int (nI j))] [] (pX c (cwH c (haH i)) k r tr kr rd ft tg tc lw kl ik ri3 s0 s1 s2 s3 (nt, n, cd, en, nm3, sk3)) rfl rfl rfl ?_
                exact t81 _ _ h5b (by rw [ctB_t hB.symm, ← h4]; rfl)
        refine V.g2 60 [44, 81, 98] mX6_held_ok rfl ?_
        refine And.intro (fun _ => ?_) (fun e => absurd e (by decide))
        refine V.cV1P mX6_held_ok rfl lX6_214 (ct_cbecome l) rfl 56 rfl [8, 9, 10, 11, 12, 13, 14, 1, 2, 3, 4, 5, 6, 7] [none, some 7, some 8, some 9, some 10, some 11, some 12, some 13, some 0, some 1, some 2, some 3, some 4, some 5, some 6, none, none, none, none, none, none, none, none, none, none, none, none, none, none, none, none, none, none, none, none, none, none, none, none, none, none, none, none, none, none, none, none, none, none, none, none, none, none, none, none, none] (by decide +kernel) (pCart 0 d ++ pCart 7 c) [.ref 0, .ref 14] [] rfl 0 0 rfl rfl rfl rfl rfl rfl rfl rfl none (pCart 0 c ++ pCart 7 c) ⟨d, c, rfl, rfl, rfl, rfl⟩ rfl (pX c c k r tr kr rd ft tg tc lw kl ik ri s0 s1 s2 s3 (nt, n, cd, en, nm, sk)) [] rfl rfl ?_
        refine V.g2 60 [44, 81, 98] mX6_held_ok rfl ?_
        refine V.kn [6, 5, 4, 0, 1, 2] [(6, .int (nI 0)), (5, .int (-1 : Int32)), (4, .int (nI 0)), (0, .ref 0), (1, .int (nI s)), (2, .int (nI j))] [] (pX c c k r tr kr rd ft tg tc lw kl ik ri s0 s1 s2 s3 (nt, n, cd, en, nm, sk)) rfl rfl rfl ?_
        exact loop 100 0 _ _ _ (haC c) _ _ _ rfl rfl rfl rfl
    · exact ⟨_, zsim_rfl _, (by have h1 := h1 (by rw [← hrr0]; exact e); rw [← hrr0] at h1; exact h1)⟩
