def T6_refusalOfFilm : zT := fun args hs Q => ∃ (c d k : zCart) (r tr kr : zRow) (rd : zRd) (ft : Nat) (tg : Nat → Option Nat) (tc lw kl ik : Int32) (ri : zRi) (s0 s1 s2 s3 : zSh) (tx : zTx) (x : Int32), args = [.ref 0, .int x] ∧ hs = pX c d k r tr kr rd ft tg tc lw kl ik ri s0 s1 s2 s3 tx ∧ (wiB x 3 = false → Q (some (.int (-2))) hs) ∧ (∀ s, s < 4 → x = nI s → ∀ r0 : Int32, r0 = flW (shW s0 s1 s2 s3 s).1 (shW s0 s1 s2 s3 s).2.1 → Q (some (.int r0)) hs)
set_option maxHeartbeats 4000000 in
theorem c6_refusalOfFilm (l : Launch) : Ct l mX6_refusalOfFilm false 3 0 0 T6_refusalOfFilm := by
  refine Ct.intro mX6_refusalOfFilm_ok ?_
  rintro args hs Q ⟨c, d, k, r, tr, kr, rd, ft, tg, tc, lw, kl, ik, ri, s0, s1, s2, s3, tx, x, rfl, rfl, h0, h1⟩
  refine ⟨Nat.le_of_ble_eq_true rfl, ?_⟩
  refine V.g2 60 [16, 32, 46] mX6_refusalOfFilm_ok rfl ?_
  refine V.cS0 mX6_refusalOfFilm_ok rfl lX6_278 (ct_isSheet l) rfl [.int x] [] rfl rfl rfl (some (.int (bI (wiB x 3)))) ⟨_, rfl, rfl, rfl⟩ ?_
  cases hB : wiB x 3 with
  | false =>
    refine V.nm [(0, .ref 0), (1, .int x)] [.int (bI false)] (pX c d k r tr kr rd ft tg tc lw kl ik ri s0 s1 s2 s3 tx) rfl rfl rfl ?_
    refine V.g2 60 [16, 32, 46] mX6_refusalOfFilm_ok rfl ?_
    refine And.intro (fun e => absurd rfl e) (fun _ => ?_)
    exact ⟨_, zsim_rfl _, h0 hB⟩
  | true =>
    refine V.nm [(0, .ref 0), (1, .int x)] [.int (bI true)] (pX c d k r tr kr rd ft tg tc lw kl ik ri s0 s1 s2 s3 tx) rfl rfl rfl ?_
    obtain ⟨s, hs, rfl⟩ := wiB_t hB (by omega)
    have h1 := h1 s hs rfl _ rfl
    clear h0 hB
    rcases (show s = 0 ∨ s = 1 ∨ s = 2 ∨ s = 3 by omega) with rfl | rfl | rfl | rfl
    · refine V.nm [(0, .ref 0), (1, .int (nI 0))] [.int (bI true)] (pX c d k r tr kr rd ft tg tc lw kl ik ri s0 s1 s2 s3 tx) rfl rfl rfl ?_
      have h1 : Q (some (.int (flW s0.1 s0.2.1))) _ := h1
      refine V.g2 60 [16, 32, 46] mX6_refusalOfFilm_ok rfl ?_
      refine And.intro (fun _ => ?_) (fun e => absurd e (by decide))
      have er : zrf (zsg (nI 0).toNatClampNeg) = .ref 86 := by rw [pk_cl 0 rfl]; rfl
      refine And.intro (pk_in 0 4 (by omega) rfl) ?_
      refine V.nm [(0, .ref 0), (1, .int (nI 0))] [.ref 86] (pX c d k r tr kr rd ft tg tc lw kl ik ri s0 s1 s2 s3 tx) rfl (by rw [← er] <;> rfl) rfl ?_
      refine V.g2 60 [16, 32, 46] mX6_refusalOfFilm_ok rfl ?_
      refine And.intro (fun (e1 : ¬ (s0.1) = (-1 : Int32)) => ?_) (fun (e1 : (s0.1) = (-1 : Int32)) => ?_)
      · have er : zrf (zsg (nI 0).toNatClampNeg) = .ref 86 := by rw [pk_cl 0 rfl]; rfl
        refine And.intro (pk_in 0 4 (by omega) rfl) ?_
        refine V.nm [(0, .ref 0), (1, .int (nI 0))] [.ref 86] (pX c d k r tr kr rd ft tg tc lw kl ik ri s0 s1 s2 s3 tx) rfl (by rw [← er] <;> rfl) rfl ?_
        refine V.g2 60 [16, 32, 46] mX6_refusalOfFilm_ok rfl ?_
        refine And.intro (fun (e2 : (s0.2.1) ≤ (nI 30)) => ?_) (fun (e2 : ¬ (s0.2.1) ≤ (nI 30)) => ?_)
        · refine V.g2 60 [16, 32, 46] mX6_refusalOfFilm_ok rfl ?_
          exact ⟨_, zsim_rfl _, (by rw [flW, if_neg e1, if_neg (Int32.not_lt.mpr e2)] at h1; exact h1)⟩
        · refine V.g2 60 [16, 32, 46] mX6_refusalOfFilm_ok rfl ?_
          exact ⟨_, zsim_rfl _, (by rw [flW, if_neg e1, if_pos (Int32.not_le.mp e2)] at h1; exact h1)⟩
      · exact ⟨_, zsim_rfl _, (by rw [flW, if_pos e1] at h1; exact h1)⟩
    · refine V.nm [(0, .ref 0), (1, .int (nI 1))] [.int (bI true)] (pX c d k r tr kr rd ft tg tc lw kl ik ri s0 s1 s2 s3 tx) rfl rfl rfl ?_
      have h1 : Q (some (.int (flW s1.1 s1.2.1))) _ := h1
      refine V.g2 60 [16, 32, 46] mX6_refusalOfFilm_ok rfl ?_
      refine And.intro (fun _ => ?_) (fun e => absurd e (by decide))
      have er : zrf (zsg (nI 1).toNatClampNeg) = .ref 90 := by rw [pk_cl 1 rfl]; rfl
      refine And.intro (pk_in 1 4 (by omega) rfl) ?_
      refine V.nm [(0, .ref 0), (1, .int (nI 1))] [.ref 90] (pX c d k r tr kr rd ft tg tc lw kl ik ri s0 s1 s2 s3 tx) rfl (by rw [← er] <;> rfl) rfl ?_
      refine V.g2 60 [16, 32, 46] mX6_refusalOfFilm_ok rfl ?_
      refine And.intro (fun (e1 : ¬ (s1.1) = (-1 : Int32)) => ?_) (fun (e1 : (s1.1) = (-1 : Int32)) => ?_)
      · have er : zrf (zsg (nI 1).toNatClampNeg) = .ref 90 := by rw [pk_cl 1 rfl]; rfl
        refine And.intro (pk_in 1 4 (by omega) rfl) ?_
        refine V.nm [(0, .ref 0), (1, .int (nI 1))] [.ref 90] (pX c d k r tr kr rd ft tg tc lw kl ik ri s0 s1 s2 s3 tx) rfl (by rw [← er] <;> rfl) rfl ?_
        refine V.g2 60 [16, 32, 46] mX6_refusalOfFilm_ok rfl ?_
        refine And.intro (fun (e2 : (s1.2.1) ≤ (nI 30)) => ?_) (fun (e2 : ¬ (s1.2.1) ≤ (nI 30)) => ?_)
        · refine V.g2 60 [16, 32, 46] mX6_refusalOfFilm_ok rfl ?_
          exact ⟨_, zsim_rfl _, (by rw [flW, if_neg e1, if_neg (Int32.not_lt.mpr e2)] at h1; exact h1)⟩
        · refine V.g2 60 [16, 32, 46] mX6_refusalOfFilm_ok rfl ?_
          exact ⟨_, zsim_rfl _, (by rw [flW, if_neg e1, if_pos (Int32.not_le.mp e2)] at h1; exact h1)⟩
      · exact ⟨_, zsim_rfl _, (by rw [flW, if_pos e1] at h1; exact h1)⟩
    · refine V.nm [(0, .ref 0), (1, .int (nI 2))] [.int (bI true)] (pX c d k r tr kr rd ft tg tc lw kl ik ri s0 s1 s2 s3 tx) rfl rfl rfl ?_
      have h1 : Q (some (.int (flW s2.1 s2.2.1))) _ := h1
      refine V.g2 60 [16, 32, 46] mX6_refusalOfFilm_ok rfl ?_
      refine And.intro (fun _ => ?_) (fun e => absurd e (by decide))
      have er : zrf (zsg (nI 2).toNatClampNeg) = .ref 94 := by rw [pk_cl 2 rfl]; rfl
      refine And.intro (pk_in 2 4 (by omega) rfl) ?_
      refine V.nm [(0, .ref 0), (1, .int (nI 2))] [.ref 94] (pX c d k r tr kr rd ft tg tc lw kl ik ri s0 s1 s2 s3 tx) rfl (by rw [← er] <;> rfl) rfl ?_
      refine V.g2 60 [16, 32, 46] mX6_refusalOfFilm_ok rfl ?_
      refine And.intro (fun (e1 : ¬ (s2.1) = (-1 : Int32)) => ?_) (fun (e1 : (s2.1) = (-1 : Int32)) => ?_)
      · have er : zrf (zsg (nI 2).toNatClampNeg) = .ref 94 := by rw [pk_cl 2 rfl]; rfl
        refine And.intro (pk_in 2 4 (by omega) rfl) ?_
        refine V.nm [(0, .ref 0), (1, .int (nI 2))] [.ref 94] (pX c d k r tr kr rd ft tg tc lw kl ik ri s0 s1 s2 s3 tx) rfl (by rw [← er] <;> rfl) rfl ?_
        refine V.g2 60 [16, 32, 46] mX6_refusalOfFilm_ok rfl ?_
        refine And.intro (fun (e2 : (s2.2.1) ≤ (nI 30)) => ?_) (fun (e2 : ¬ (s2.2.1) ≤ (nI 30)) => ?_)
        · refine V.g2 60 [16, 32, 46] mX6_refusalOfFilm_ok rfl ?_
          exact ⟨_, zsim_rfl _, (by rw [flW, if_neg e1, if_neg (Int32.not_lt.mpr e2)] at h1; exact h1)⟩
        · refine V.g2 60 [16, 32, 46] mX6_refusalOfFilm_ok rfl ?_
          exact ⟨_, zsim_rfl _, (by rw [flW, if_neg e1, if_pos (Int32.not_le.mp e2)] at h1; exact h1)⟩
      · exact ⟨_, zsim_rfl _, (by rw [flW, if_pos e1] at h1; exact h1)⟩
    · refine V.nm [(0, .ref 0), (1, .int (nI 3))] [.int (bI true)] (pX c d k r tr kr rd ft tg tc lw kl ik ri s0 s1 s2 s3 tx) rfl rfl rfl ?_
      have h1 : Q (some (.int (flW s3.1 s3.2.1))) _ := h1
      refine V.g2 60 [16, 32, 46] mX6_refusalOfFilm_ok rfl ?_
      refine And.intro (fun _ => ?_) (fun e => absurd e (by decide))
      have er : zrf (zsg (nI 3).toNatClampNeg) = .ref 98 := by rw [pk_cl 3 rfl]; rfl
      refine And.intro (pk_in 3 4 (by omega) rfl) ?_
      refine V.nm [(0, .ref 0), (1, .int (nI 3))] [.ref 98] (pX c d k r tr kr rd ft tg tc lw kl ik ri s0 s1 s2 s3 tx) rfl (by rw [← er] <;> rfl) rfl ?_
      refine V.g2 60 [16, 32, 46] mX6_refusalOfFilm_ok rfl ?_
      refine And.intro (fun (e1 : ¬ (s3.1) = (-1 : Int32)) => ?_) (fun (e1 : (s3.1) = (-1 : Int32)) => ?_)
      · have er : zrf (zsg (nI 3).toNatClampNeg) = .ref 98 := by rw [pk_cl 3 rfl]; rfl
        refine And.intro (pk_in 3 4 (by omega) rfl) ?_
        refine V.nm [(0, .ref 0), (1, .int (nI 3))] [.ref 98] (pX c d k r tr kr rd ft tg tc lw kl ik ri s0 s1 s2 s3 tx) rfl (by rw [← er] <;> rfl) rfl ?_
        refine V.g2 60 [16, 32, 46] mX6_refusalOfFilm_ok rfl ?_
        refine And.intro (fun (e2 : (s3.2.1) ≤ (nI 30)) => ?_) (fun (e2 : ¬ (s3.2.1) ≤ (nI 30)) => ?_)
        · refine V.g2 60 [16, 32, 46] mX6_refusalOfFilm_ok rfl ?_
          exact ⟨_, zsim_rfl _, (by rw [flW, if_neg e1, if_neg (Int32.not_lt.mpr e2)] at h1; exact h1)⟩
        · refine V.g2 60 [16, 32, 46] mX6_refusalOfFilm_ok rfl ?_
          exact ⟨_, zsim_rfl _, (by rw [flW, if_neg e1, if_pos (Int32.not_le.mp e2)] at h1; exact h1)⟩
      · exact ⟨_, zsim_rfl _, (by rw [flW, if_pos e1] at h1; exact h1)⟩
theorem fo_lt {c : zCart} {P : zP} {ce : fI} {n : Nat} {k : Nat} (h : foF c P ce n = some k) : k < n := fsF_lt h
theorem fo_B {c : zCart} {P : zP} {ce : fI} {n : Nat} {r : Int32} (hn : n ≤ 40) (hr : r = oI (foF c P ce n)) : (r = -1 → foB c P ce n = true) ∧ (¬ r = -1 → foB c P ce n = false) := by
  unfold foB
  cases hf : foF c P ce n with
  | none => exact ⟨fun _ => rfl, fun h => absurd (by rw [hr, hf]; rfl) h⟩
  | some k =>
    have := fo_lt hf
    refine ⟨fun h => absurd (show nI k = -1 by rw [← h, hr, hf]; rfl) (fun e => ?_), fun _ => rfl⟩
    have q : nI k < 0 := by rw [e]; decide
    exact nI_pos (by omega) q
def T6_wouldFit : zT := fun args hs Q => ∃ (c d k : zCart) (r tr kr : zRow) (rd : zRd) (ft : Nat) (tg : Nat → Option Nat) (tc lw kl ik : Int32) (ri : zRi) (s0 s1 s2 s3 : zSh) (tx : zTx) (P : zP) (s n : Nat), lOk tg lw tx P ∧ kOk d ∧ s < 4 ∧ n ≤ 30 ∧ (shW s0 s1 s2 s3 s).2.1 = nI n ∧ args = [.ref 0, .int (nI s)] ∧ hs = pX c d k r tr kr rd ft tg tc lw kl ik ri s0 s1 s2 s3 tx ∧ ∀ B : Bool, B = foB d P (shW s0 s1 s2 s3 s).2.2 n → ∀ ri' nm' sk', Q (some (.int (bI B))) (pX c d k r tr kr rd ft tg tc lw kl ik ri' s0 s1 s2 s3 (txS tx nm' sk'))
set_option maxHeartbeats 4000000 in
theorem c6_wouldFit (l : Launch) : Ct l mX6_wouldFit false 7 0 0 T6_wouldFit := by
  refine Ct.intro mX6_wouldFit_ok ?_
  rintro args hs Q ⟨c, d, k, r, tr, kr, rd, ft, tg, tc, lw, kl, ik, ri, s0, s1, s2, s3, tx, P, s, n2, hL, hok, hs4, hn30, hsz, rfl, rfl, h⟩
  obtain ⟨orc, orl, obl, olt, ote, oha, odr, ohd, opu, oaz, oco, oho, obu, obb, ofa⟩ := ri
  obtain ⟨nt, n, cd, en, nm, sk⟩ := tx
  refine ⟨Nat.le_of_ble_eq_true rfl, ?_⟩
  obtain ⟨S, hS⟩ : ∃ S, pX c d k r tr kr rd ft tg tc lw kl ik (orc, orl, obl, olt, ote, oha, odr, ohd, opu, oaz, oco, oho, obu, obb, ofa) s0 s1 s2 s3 (nt, n, cd, en, nm, sk) = S := ⟨_, rfl⟩
  refine V.s0 hS ?_
  rcases (show s = 0 ∨ s = 1 ∨ s = 2 ∨ s = 3 by omega) with rfl | rfl | rfl | rfl
  · have hsz : s0.2.1 = nI n2 := hsz
    have h : ∀ B : Bool, B = foB d P s0.2.2 n2 → _ := h
    refine V.g2 60 [15, 27] mX6_wouldFit_ok rfl ?_
    refine V.cVW mX6_wouldFit_ok rfl lX6_128 (ct_theLaw l) rfl [.ref 0] [.ref 16, .ref 0] rfl 0 6 rfl rfl rfl rfl rfl rfl (some (.ref 102)) (pX c d k r tr kr rd ft tg tc lw kl ik (orc, orl, obl, olt, ote, oha, odr, ohd, opu, oaz, oco, oho, obu, obb, ofa) s0 s1 s2 s3 (nt, n, cd, en, nm, sk)) ⟨c, d, k, r, tr, kr, rd, ft, tg, tc, lw, kl, ik, (orc, orl, obl, olt, ote, oha, odr, ohd, opu, oaz, oco, oho, obu, obb, ofa), s0, s1, s2, s3, (nt, n, cd, en, nm, sk), P, hL, rfl, rfl, rfl, rfl⟩ rfl ?_
    refine V.g2 60 [15, 27] mX6_wouldFit_ok rfl ?_
    have er : zrf (zsg (nI 0).toNatClampNeg) = .ref 86 := by rw [pk_cl 0 rfl]; rfl
    refine And.intro (pk_in 0 4 (by omega) rfl) ?_
    refine V.nm [(0, .ref 0), (1, .int (nI 0))] [.ref 86, .ref 102, .ref 16, .ref 0] (pX c d k r tr kr rd ft tg tc lw kl ik (orc, orl, obl, olt, ote, oha, odr, ohd, opu, oaz, oco, oho, obu, obb, ofa) s0 s1 s2 s3 (nt, n, cd, en, nm, sk)) rfl (by rw [← er] <;> rfl) rfl ?_
    refine V.callVP mX6_wouldFit_ok rfl lX6_263 (c6_firstOtherwise l) rfl 56 rfl (dlF orc orl ft) (dlF_ok orc orl ft) [0, 39, 40, 41, 8, 9, 10, 11, 12, 13, 14, 51, 52, 53, 54, 55, 43, 44] [some 0, none, none, none, none, none, none, none, some 4, some 5, some 6, some 7, some 8, some 9, some 10, none, none, none, none, none, none, none, none, none, none, none, none, none, none, none, none, none, none, none, none, none, none, none, none, some 1, some 2, some 3, none, some 16, some 17, none, none, none, none, none, none, some 11, some 12, some 13, some 14, some 15] (by decide +kernel) (pFO tc lw kl ik d 101 103 (obl, olt, ote, oha, odr, ohd, opu, oaz, oco, oho, obu, obb, ofa) (nt, n, cd, en, nm, sk) s0) [.ref 0, .ref 8, .ref 22, .ref 32] [] (fun v wc' => ∃ (r2 te2 : Int32) (dr2 nm2 sk2 : fI) (hd2 : Int32) (rr2 : RT), r2 = oI (foF d P (s0.2.2) n2) ∧ v = some (.int r2) ∧ wc' = pFO tc lw kl ik d 8 22 (0, olt, te2, haC d, dr2, hd2, rr2) (nt, n, cd, en, nm2, sk2) s0) rfl 0 6 rfl rfl rfl rfl rfl rfl rfl rfl ⟨tc, lw, kl, ik, d, 101, 103, (obl, olt, ote, oha, odr, ohd, opu, oaz, oco, oho, obu, obb, ofa), (nt, n, cd, en, nm, sk), s0, P, n2, hL.2, hok, hn30, hsz, rfl, rfl, fun r2 hr2 te2 dr2 hd2 nm2 sk2 rr2 => ⟨r2, te2, dr2, nm2, sk2, hd2, rr2, hr2, rfl, rfl⟩⟩ (fun v wc' hv => ?_)
    obtain ⟨r21, te1, dr1, nm1, sk1, hd1, rr1, hr21, rfl, rfl⟩ := hv
    refine ⟨rfl, ?_⟩
    refine V.nm [(0, .ref 0), (1, .int (nI 0))] [.int r21] (pX c d k r tr kr rd ft tg tc lw kl ik (16, 102, 0, olt, te1, (haC d), dr1, hd1, rr1) s0 s1 s2 s3 (nt, n, cd, en, nm1, sk1)) rfl rfl rfl ?_
    refine V.g2 60 [15, 27] mX6_wouldFit_ok rfl ?_
    refine And.intro (fun (e1 : ¬ r21 = (-1 : Int32)) => ?_) (fun (e1 : r21 = (-1 : Int32)) => ?_)
    · refine V.g2 60 [15, 27] mX6_wouldFit_ok rfl ?_
      refine And.intro (Or.inl rfl) ?_
      exact ⟨_, zsim_rfl _, h false ((fo_B (by omega) hr21).2 e1).symm (16, 102, 0, olt, te1, (haC d), dr1, hd1, rr1) nm1 sk1⟩
    · refine V.g2 60 [15, 27] mX6_wouldFit_ok rfl ?_
      refine And.intro (Or.inr rfl) ?_
      exact ⟨_, zsim_rfl _, h true ((fo_B (by omega) hr21).1 e1).symm (16, 102, 0, olt, te1, (haC d), dr1, hd1, rr1) nm1 sk1⟩
  · have hsz : s1.2.1 = nI n2 := hsz
    have h : ∀ B : Bool, B = foB d P s1.2.2 n2 → _ := h
    refine V.g2 60 [15, 27] mX6_wouldFit_ok rfl ?_
    refine V.cVW mX6_wouldFit_ok rfl lX6_128 (ct_theLaw l) rfl [.ref 0] [.ref 16, .ref 0] rfl 0 6 rfl rfl rfl rfl rfl rfl (some (.ref 102)) (pX c d k r tr kr rd ft tg tc lw kl ik (orc, orl, obl, olt, ote, oha, odr, ohd, opu, oaz, oco, oho, obu, obb, ofa) s0 s1 s2 s3 (nt, n, cd, en, nm, sk)) ⟨c, d, k, r, tr, kr, rd, ft, tg, tc, lw, kl, ik, (orc, orl, obl, olt, ote, oha, odr, ohd, opu, oaz, oco, oho, obu, obb, ofa), s0, s1, s2, s3, (nt, n, cd, en, nm, sk), P, hL, rfl, rfl, rfl, rfl⟩ rfl ?_
    refine V.g2 60 [15, 27] mX6_wouldFit_ok rfl ?_
    have er : zrf (zsg (nI 1).toNatClampNeg) = .ref 90 := by rw [pk_cl 1 rfl]; rfl
    refine And.intro (pk_in 1 4 (by omega) rfl) ?_
    refine V.nm [(0, .ref 0), (1, .int (nI 1))] [.ref 90, .ref 102, .ref 16, .ref 0] (pX c d k r tr kr rd ft tg tc lw kl ik (orc, orl, obl, olt, ote, oha, odr, ohd, opu, oaz, oco, oho, obu, obb, ofa) s0 s1 s2 s3 (nt, n, cd, en, nm, sk)) rfl (by rw [← er] <;> rfl) rfl ?_
    refine V.callVP mX6_wouldFit_ok rfl lX6_263 (c6_firstOtherwise l) rfl 56 rfl (dlF orc orl ft) (dlF_ok orc orl ft) [0, 39, 40, 41, 8, 9, 10, 11, 12, 13, 14, 51, 52, 53, 54, 55, 45, 46] [some 0, none, none, none, none, none, none, none, some 4, some 5, some 6, some 7, some 8, some 9, some 10, none, none, none, none, none, none, none, none, none, none, none, none, none, none, none, none, none, none, none, none, none, none, none, none, some 1, some 2, some 3, none, none, none, some 16, some 17, none, none, none, none, some 11, some 12, some 13, some 14, some 15] (by decide +kernel) (pFO tc lw kl ik d 101 103 (obl, olt, ote, oha, odr, ohd, opu, oaz, oco, oho, obu, obb, ofa) (nt, n, cd, en, nm, sk) s1) [.ref 0, .ref 8, .ref 22, .ref 32] [] (fun v wc' => ∃ (r2 te2 : Int32) (dr2 nm2 sk2 : fI) (hd2 : Int32) (rr2 : RT), r2 = oI (foF d P (s1.2.2) n2) ∧ v = some (.int r2) ∧ wc' = pFO tc lw kl ik d 8 22 (0, olt, te2, haC d, dr2, hd2, rr2) (nt, n, cd, en, nm2, sk2) s1) rfl 0 6 rfl rfl rfl rfl rfl rfl rfl rfl ⟨tc, lw, kl, ik, d, 101, 103, (obl, olt, ote, oha, odr, ohd, opu, oaz, oco, oho, obu, obb, ofa), (nt, n, cd, en, nm, sk), s1, P, n2, hL.2, hok, hn30, hsz, rfl, rfl, fun r2 hr2 te2 dr2 hd2 nm2 sk2 rr2 => ⟨r2, te2, dr2, nm2, sk2, hd2, rr2, hr2, rfl, rfl⟩⟩ (fun v wc' hv => ?_)
    obtain ⟨r22, te2, dr2, nm2, sk2, hd2, rr2, hr22, rfl, rfl⟩ := hv
    refine ⟨rfl, ?_⟩
    refine V.nm [(0, .ref 0), (1, .int (nI 1))] [.int r22] (pX c d k r tr kr rd ft tg tc lw kl ik (16, 102, 0, olt, te2, (haC d), dr2, hd2, rr2) s0 s1 s2 s3 (nt, n, cd, en, nm2, sk2)) rfl rfl rfl ?_
    refine V.g2 60 [15, 27] mX6_wouldFit_ok rfl ?_
    refine And.intro (fun (e1 : ¬ r22 = (-1 : Int32)) => ?_) (fun (e1 : r22 = (-1 : Int32)) => ?_)
    · refine V.g2 60 [15, 27] mX6_wouldFit_ok rfl ?_
      refine And.intro (Or.inl rfl) ?_
      exact ⟨_, zsim_rfl _, h false ((fo_B (by omega) hr22).2 e1).symm (16, 102, 0, olt, te2, (haC d), dr2, hd2, rr2) nm2 sk2⟩
    · refine V.g2 60 [15, 27] mX6_wouldFit_ok rfl ?_
      refine And.intro (Or.inr rfl) ?_
      exact ⟨_, zsim_rfl _, h true ((fo_B (by omega) hr22).1 e1).symm (16, 102, 0, olt, te2, (haC d), dr2, hd2, rr2) nm2 sk2⟩
  · have hsz : s2.2.1 = nI n2 := hsz
    have h : ∀ B : Bool, B = foB d P s2.2.2 n2 → _ := h
    refine V.g2 60 [15, 27] mX6_wouldFit_ok rfl ?_
    refine V.cVW mX6_wouldFit_ok rfl lX6_128 (ct_theLaw l) rfl [.ref 0] [.ref 16, .ref 0] rfl 0 6 rfl rfl rfl rfl rfl rfl (some (.ref 102)) (pX c d k r tr kr rd ft tg tc lw kl ik (orc, orl, obl, olt, ote, oha, odr, ohd, opu, oaz, oco, oho, obu, obb, ofa) s0 s1 s2 s3 (nt, n, cd, en, nm, sk)) ⟨c, d, k, r, tr, kr, rd, ft, tg, tc, lw, kl, ik, (orc, orl, obl, olt, ote, oha, odr, ohd, opu, oaz, oco, oho, obu, obb, ofa), s0, s1, s2, s3, (nt, n, cd, en, nm, sk), P, hL, rfl, rfl, rfl, rfl⟩ rfl ?_
    refine V.g2 60 [15, 27] mX6_wouldFit_ok rfl ?_
    have er : zrf (zsg (nI 2).toNatClampNeg) = .ref 94 := by rw [pk_cl 2 rfl]; rfl
    refine And.intro (pk_in 2 4 (by omega) rfl) ?_
    refine V.nm [(0, .ref 0), (1, .int (nI 2))] [.ref 94, .ref 102, .ref 16, .ref 0] (pX c d k r tr kr rd ft tg tc lw kl ik (orc, orl, obl, olt, ote, oha, odr, ohd, opu, oaz, oco, oho, obu, obb, ofa) s0 s1 s2 s3 (nt, n, cd, en, nm, sk)) rfl (by rw [← er] <;> rfl) rfl ?_
    refine V.callVP mX6_wouldFit_ok rfl lX6_263 (c6_firstOtherwise l) rfl 56 rfl (dlF orc orl ft) (dlF_ok orc orl ft) [0, 39, 40, 41, 8, 9, 10, 11, 12, 13, 14, 51, 52, 53, 54, 55, 47, 48] [some 0, none, none, none, none, none, none, none, some 4, some 5, some 6, some 7, some 8, some 9, some 10, none, none, none, none, none, none, none, none, none, none, none, none, none, none, none, none, none, none, none, none, none, none, none, none, some 1, some 2, some 3, none, none, none, none, none, some 16, some 17, none, none, some 11, some 12, some 13, some 14, some 15] (by decide +kernel) (pFO tc lw kl ik d 101 103 (obl, olt, ote, oha, odr, ohd, opu, oaz, oco, oho, obu, obb, ofa) (nt, n, cd, en, nm, sk) s2) [.ref 0, .ref 8, .ref 22, .ref 32] [] (fun v wc' => ∃ (r2 te2 : Int32) (dr2 nm2 sk2 : fI) (hd2 : Int32) (rr2 : RT), r2 = oI (foF d P (s2.2.2) n2) ∧ v = some (.int r2) ∧ wc' = pFO tc lw kl ik d 8 22 (0, olt, te2, haC d, dr2, hd2, rr2) (nt, n, cd, en, nm2, sk2) s2) rfl 0 6 rfl rfl rfl rfl rfl rfl rfl rfl ⟨tc, lw, kl, ik, d, 101, 103, (obl, olt, ote, oha, odr, ohd, opu, oaz, oco, oho, obu, obb, ofa), (nt, n, cd, en, nm, sk), s2, P, n2, hL.2, hok, hn30, hsz, rfl, rfl, fun r2 hr2 te2 dr2 hd2 nm2 sk2 rr2 => ⟨r2, te2, dr2, nm2, sk2, hd2, rr2, hr2, rfl, rfl⟩⟩ (fun v wc' hv => ?_)
    obtain ⟨r23, te3, dr3, nm3, sk3, hd3, rr3, hr23, rfl, rfl⟩ := hv
    refine ⟨rfl, ?_⟩
    refine V.nm [(0, .ref 0), (1, .int (nI 2))] [.int r23] (pX c d k r tr kr rd ft tg tc lw kl ik (16, 102, 0, olt, te3, (haC d), dr3, hd3, rr3) s0 s1 s2 s3 (nt, n, cd, en, nm3, sk3)) rfl rfl rfl ?_
    refine V.g2 60 [15, 27] mX6_wouldFit_ok rfl ?_
    refine And.intro (fun (e1 : ¬ r23 = (-1 : Int32)) => ?_) (fun (e1 : r23 = (-1 : Int32)) => ?_)
    · refine V.g2 60 [15, 27] mX6_wouldFit_ok rfl ?_
      refine And.intro (Or.inl rfl) ?_
      exact ⟨_, zsim_rfl _, h false ((fo_B (by omega) hr23).2 e1).symm (16, 102, 0, olt, te3, (haC d), dr3, hd3, rr3) nm3 sk3⟩
    · refine V.g2 60 [15, 27] mX6_wouldFit_ok rfl ?_
      refine And.intro (Or.inr rfl) ?_
      exact ⟨_, zsim_rfl _, h true ((fo_B (by omega) hr23).1 e1).symm (16, 102, 0, olt, te3, (haC d), dr3, hd3, rr3) nm3 sk3⟩
  · have hsz : s3.2.1 = nI n2 := hsz
    have h : ∀ B : Bool, B = foB d P s3.2.2 n2 → _ := h
    refine V.g2 60 [15, 27] mX6_wouldFit_ok rfl ?_
    refine V.cVW mX6_wouldFit_ok rfl lX6_128 (ct_theLaw l) rfl [.ref 0] [.ref 16, .ref 0] rfl 0 6 rfl rfl rfl rfl rfl rfl (some (.ref 102)) (pX c d k r tr kr rd ft tg tc lw kl ik (orc, orl, obl, olt, ote, oha, odr, ohd, opu, oaz, oco, oho, obu, obb, ofa) s0 s1 s2 s3 (nt, n, cd, en, nm, sk)) ⟨c, d, k, r, tr, kr, rd, ft, tg, tc, lw, kl, ik, (orc, orl, obl, olt, ote, oha, odr, ohd, opu, oaz, oco, oho, obu, obb, ofa), s0, s1, s2, s3, (nt, n, cd, en, nm, sk), P, hL, rfl, rfl, rfl, rfl⟩ rfl ?_
    refine V.g2 60 [15, 27] mX6_wouldFit_ok rfl ?_
    have er : zrf (zsg (nI 3).toNatClampNeg) = .ref 98 := by rw [pk_cl 3 rfl]; rfl
    refine And.intro (pk_in 3 4 (by omega) rfl) ?_
    refine V.nm [(0, .ref 0), (1, .int (nI 3))] [.ref 98, .ref 102, .ref 16, .ref 0] (pX c d k r tr kr rd ft tg tc lw kl ik (orc, orl, obl, olt, ote, oha, odr, ohd, opu, oaz, oco, oho, obu, obb, ofa) s0 s1 s2 s3 (nt, n, cd, en, nm, sk)) rfl (by rw [← er] <;> rfl) rfl ?_
    refine V.callVP mX6_wouldFit_ok rfl lX6_263 (c6_firstOtherwise l) rfl 56 rfl (dlF orc orl ft) (dlF_ok orc orl ft) [0, 39, 40, 41, 8, 9, 10, 11, 12, 13, 14, 51, 52, 53, 54, 55, 49, 50] [some 0, none, none, none, none, none, none, none, some 4, some 5, some 6, some 7, some 8, some 9, some 10, none, none, none, none, none, none, none, none, none, none, none, none, none, none, none, none, none, none, none, none, none, none, none, none, some 1, some 2, some 3, none, none, none, none, none, none, none, some 16, some 17, some 11, some 12, some 13, some 14, some 15] (by decide +kernel) (pFO tc lw kl ik d 101 103 (obl, olt, ote, oha, odr, ohd, opu, oaz, oco, oho, obu, obb, ofa) (nt, n, cd, en, nm, sk) s3) [.ref 0, .ref 8, .ref 22, .ref 32] [] (fun v wc' => ∃ (r2 te2 : Int32) (dr2 nm2 sk2 : fI) (hd2 : Int32) (rr2 : RT), r2 = oI (foF d P (s3.2.2) n2) ∧ v = some (.int r2) ∧ wc' = pFO tc lw kl ik d 8 22 (0, olt, te2, haC d, dr2, hd2, rr2) (nt, n, cd, en, nm2, sk2) s3) rfl 0 6 rfl rfl rfl rfl rfl rfl rfl rfl ⟨tc, lw, kl, ik, d, 101, 103, (obl, olt, ote, oha, odr, ohd, opu, oaz, oco, oho, obu, obb, ofa), (nt, n, cd, en, nm, sk), s3, P, n2, hL.2, hok, hn30, hsz, rfl, rfl, fun r2 hr2 te2 dr2 hd2 nm2 sk2 rr2 => ⟨r2, te2, dr2, nm2, sk2, hd2, rr2, hr2, rfl, rfl⟩⟩ (fun v wc' hv => ?_)
    obtain ⟨r24, te4, dr4, nm4, sk4, hd4, rr4, hr24, rfl, rfl⟩ := hv
    refine ⟨rfl, ?_⟩
    refine V.nm [(0, .ref 0), (1, .int (nI 3))] [.int r24] (pX c d k r tr kr rd ft tg tc lw kl ik (16, 102, 0, olt, te4, (haC d), dr4, hd4, rr4) s0 s1 s2 s3 (nt, n, cd, en, nm4, sk4)) rfl rfl rfl ?_
    refine V.g2 60 [15, 27] mX6_wouldFit_ok rfl ?_
    refine And.intro (fun (e1 : ¬ r24 = (-1 : Int32)) => ?_) (fun (e1 : r24 = (-1 : Int32)) => ?_)
    · refine V.g2 60 [15, 27] mX6_wouldFit_ok rfl ?_
      refine And.intro (Or.inl rfl) ?_
      exact ⟨_, zsim_rfl _, h false ((fo_B (by omega) hr24).2 e1).symm (16, 102, 0, olt, te4, (haC d), dr4, hd4, rr4) nm4 sk4⟩
    · refine V.g2 60 [15, 27] mX6_wouldFit_ok rfl ?_
      refine And.intro (Or.inr rfl) ?_
      exact ⟨_, zsim_rfl _, h true ((fo_B (by omega) hr24).1 e1).symm (16, 102, 0, olt, te4, (haC d), dr4, hd4, rr4) nm4 sk4⟩
