theorem zsim_set {x y : zE} : ∀ {l : List zE} {k : Nat}, l[k]? = some x → zsm x y → zsim l (l.set k y)
  | [], k, h, _ => by cases h
  | a :: l, 0, h, hs => by cases h; exact zsim_c hs (zsim_rfl _)
  | a :: l, k + 1, h, hs => zsim_e (zsim_set (k := k) h hs)
theorem zsim_at {l : List zE} {k : Nat} {x y : zE} (h : l[k]? = some x) (hs : zsm x y) : zsim l (l.set k y) := zsim_set h hs
theorem rl_pu {c : zCart} {P : zP} {t : Nat} : (rlF c P (haC c) (t + 1)).1 = plT c P t := by
  rw [rlF]
  unfold stF plT
  simp only
  split <;> rfl
theorem rl_cost {c : zCart} {P : zP} : ∀ t, (rlF c P (haC c) t).2.2.2.1 + (rlF c P (haC c) t).2.2.2.2.1 = smT (coR c P) t
  | 0 => by rfl
  | t + 1 => by
    rw [smT, ← rl_cost t]
    show _ = _ + (rlF c P (haC c) (t + 1)).2.2.1
    rw [rlF]
    generalize rlF c P (haC c) t = r
    unfold stF
    simp only
    split
    · simp only [Int32.add_assoc]
      congr 1
      rw [← Int32.add_assoc, Int32.add_comm (hoS _ _ _ _), Int32.add_assoc]
    · simp only [Int32.add_assoc]
      congr 1
      rw [Int32.add_comm]
theorem sd_sm (co : fI) : ∀ m, m ≤ 30 → sdF co m + smT co (30 - m) = smT co 30
  | 0, _ => by rw [sdF, Int32.zero_add]
  | m + 1, h => by
    have := sd_sm co m (by omega)
    rw [← this, show 30 - m = (30 - (m + 1)) + 1 by omega, smT, sdF, show 30 - (m + 1) = 29 - m by omega, Int32.add_assoc, Int32.add_comm (co (29 - m))]
def T6_neverPulls : zT := fun args hs Q => ∃ (c d k : zCart) (r tr kr : zRow) (rd : zRd) (ft : Nat) (tg : Nat → Option Nat) (tc lw kl ik : Int32) (ri : zRi) (s0 s1 s2 s3 : zSh) (tx : zTx) (P : zP), lOk tg lw tx P ∧ kOk d ∧ args = [.ref 0] ∧ hs = pX c d k r tr kr rd ft tg tc lw kl ik ri s0 s1 s2 s3 tx ∧ ∀ B : Bool, B = nvN d P 30 → ∀ ri' nm' sk', Q (some (.int (bI B))) (pX c d k r tr kr rd ft tg tc lw kl ik ri' s0 s1 s2 s3 (txS tx nm' sk'))
set_option maxHeartbeats 4000000 in
theorem c6_neverPulls (l : Launch) : Ct l mX6_neverPulls false 6 0 0 T6_neverPulls := by
  refine Ct.intro mX6_neverPulls_ok ?_
  rintro args hs Q ⟨c, d, k, r, tr, kr, rd, ft, tg, tc, lw, kl, ik, ri, s0, s1, s2, s3, tx, P, hL, hok, rfl, rfl, h⟩
  obtain ⟨orc, orl, obl, olt, ote, oha, odr, ohd, opu, oaz, oco, oho, obu, obb, ofa⟩ := ri
  obtain ⟨nt, n, cd, en, nm, sk⟩ := tx
  refine ⟨Nat.le_of_ble_eq_true rfl, ?_⟩
  obtain ⟨S, hS⟩ : ∃ S, pX c d k r tr kr rd ft tg tc lw kl ik (orc, orl, obl, olt, ote, oha, odr, ohd, opu, oaz, oco, oho, obu, obb, ofa) s0 s1 s2 s3 (nt, n, cd, en, nm, sk) = S := ⟨_, rfl⟩
  refine V.s0 hS ?_
  have loop : ∀ (m t : Nat) (x1 : Int32) (dr2 nm2 sk2 : fI) (hd2 : Int32) (rr : RT), t + m = 30 → x1 = nI t → nvN d P t = true → (t = 0 ∨ dhO d P (haC d) dr2 hd2 (nI (t - 1))) → rr = rlF d P (haC d) t → V l mX6_neverPulls false S (zrm 6 0 0) (zFm false S Q 0 0) 0 0 17 [(1, .int x1), (0, .ref 0)] [] (pX c d k r tr kr rd ft tg tc lw kl ik (16, 102, 0, olt, (nI t), (haC d), dr2, hd2, rr) s0 s1 s2 s3 (nt, n, cd, en, nm2, sk2)) := by
    intro m
    induction m with
    | zero =>
      intro t x1 dr2 nm2 sk2 hd2 rr ht h1 hn hd hr
      refine V.g2 60 [17] mX6_neverPulls_ok rfl ?_
      refine pk_le 30 t (fun e1 => ?_) (fun e1 => absurd e1 (by omega)) rfl h1
      have et : t = 30 := by omega
      subst et
      refine And.intro (Or.inr rfl) ?_
      exact ⟨_, zsim_rfl _, h true hn.symm (16, 102, 0, olt, (nI 30), (haC d), dr2, hd2, rr) nm2 sk2⟩
    | succ m ih =>
      intro t x1 dr2 nm2 sk2 hd2 rr ht h1 hn hd hr
      refine V.g2 60 [17] mX6_neverPulls_ok rfl ?_
      refine pk_le 30 t (fun e1 => absurd e1 (by omega)) (fun e1 => ?_) rfl h1
      refine V.xstep_d mX6_neverPulls_ok rfl lX6_185 rfl rfl (by omega) hok hL.2 hd (fun dr1 nm1 sk1 hd1 rr1 hst1 hh1 => ?_)
      have hr2 : rr1 = rlF d P (haC d) (t + 1) := by rw [hst1, rlF, hr]
      have hpu : rr1.1 = plT d P t := by rw [hr2]; exact rl_pu
      refine V.g2 60 [17] mX6_neverPulls_ok rfl ?_
      refine And.intro (fun (e2 : (rr1.1) = (0 : Int32)) => ?_) (fun (e2 : ¬ (rr1.1) = (0 : Int32)) => ?_)
      · refine V.kn [1, 0] [(1, .int (x1 + zi 1)), (0, .ref 0)] [] (pX c d k r tr kr rd ft tg tc lw kl ik (16, 102, 0, olt, (nI (t + 1)), (haC d), dr1, hd1, rr1) s0 s1 s2 s3 (nt, n, cd, en, nm1, sk1)) rfl rfl rfl ?_
        exact ih (t + 1) _ dr1 nm1 sk1 hd1 rr1 (by omega) (ninc h1) (by rw [nvN, hn, ← hpu, decide_eq_true e2]; rfl) (Or.inr hh1) hr2
      · refine And.intro (Or.inl rfl) ?_
        exact ⟨_, zsim_rfl _, h false (by have := nvN_f (c := d) (P := P) (n := t + 1) (by rw [nvN, hn, ← hpu, decide_eq_false e2]; rfl) (30 - (t + 1)); rw [show t + 1 + (30 - (t + 1)) = 30 by omega] at this; exact this.symm) (16, 102, 0, olt, (nI (t + 1)), (haC d), dr1, hd1, rr1) nm1 sk1⟩
  refine V.g2 60 [17] mX6_neverPulls_ok rfl ?_
  refine V.cVW mX6_neverPulls_ok rfl lX6_128 (ct_theLaw l) rfl [.ref 0] [.ref 16, .ref 78] rfl 0 6 rfl rfl rfl rfl rfl rfl (some (.ref 102)) (pX c d k r tr kr rd ft tg tc lw kl ik (orc, orl, obl, olt, ote, oha, odr, ohd, opu, oaz, oco, oho, obu, obb, ofa) s0 s1 s2 s3 (nt, n, cd, en, nm, sk)) ⟨c, d, k, r, tr, kr, rd, ft, tg, tc, lw, kl, ik, (orc, orl, obl, olt, ote, oha, odr, ohd, opu, oaz, oco, oho, obu, obb, ofa), s0, s1, s2, s3, (nt, n, cd, en, nm, sk), P, hL, rfl, rfl, rfl, rfl⟩ rfl ?_
  refine V.g2 60 [17] mX6_neverPulls_ok rfl ?_
  refine V.xstart_d mX6_neverPulls_ok rfl lX6_182 rfl rfl ?_
  refine V.nm [(0, .ref 0)] [] (pX c d k r tr kr rd ft tg tc lw kl ik (16, 102, 0, olt, (nI 0), (haC d), odr, ohd, r0) s0 s1 s2 s3 (nt, n, cd, en, nm, sk)) rfl rfl rfl ?_
  refine V.g2 60 [17] mX6_neverPulls_ok rfl ?_
  refine V.kn [1, 0] [(1, .int (nI 0)), (0, .ref 0)] [] (pX c d k r tr kr rd ft tg tc lw kl ik (16, 102, 0, olt, (nI 0), (haC d), odr, ohd, r0) s0 s1 s2 s3 (nt, n, cd, en, nm, sk)) rfl rfl rfl ?_
  exact loop 30 0 _ _ _ _ _ _ rfl rfl rfl (Or.inl rfl) rfl
def T6_exact : zT := fun args hs Q => ∃ (c d k : zCart) (r tr kr : zRow) (rd : zRd) (ft : Nat) (tg : Nat → Option Nat) (tc lw kl ik : Int32) (ri : zRi) (s0 s1 s2 s3 : zSh) (tx : zTx) (P : zP), lOk tg lw tx P ∧ kOk c ∧ args = [.ref 0] ∧ hs = pX c d k r tr kr rd ft tg tc lw kl ik ri s0 s1 s2 s3 tx ∧ ∀ r0 : Int32, r0 = oI (fsF (exP c P) 100) → ∀ d' ri' nm' sk', Q (some (.int r0)) (pX c d' k r tr kr rd ft tg tc lw kl ik ri' s0 s1 s2 s3 (txS tx nm' sk'))
set_option maxHeartbeats 4000000 in
theorem c6_exact (l : Launch) : Ct l mX6_exact false 8 0 0 T6_exact := by
  refine Ct.intro mX6_exact_ok ?_
  rintro args hs Q ⟨c, d, k, r, tr, kr, rd, ft, tg, tc, lw, kl, ik, ri, s0, s1, s2, s3, tx, P, hL, hok, rfl, rfl, h⟩
  obtain ⟨nt, n, cd, en, nm, sk⟩ := tx
  refine ⟨Nat.le_of_ble_eq_true rfl, ?_⟩
  obtain ⟨S, hS⟩ : ∃ S, pX c d k r tr kr rd ft tg tc lw kl ik ri s0 s1 s2 s3 (nt, n, cd, en, nm, sk) = S := ⟨_, rfl⟩
  refine V.s0 hS ?_
  have loop : ∀ (m i : Nat) (x1 : Int32) (ha nm2 sk2 : fI) (ri2 : zRi), i + m = 100 → x1 = nI i → fsF (exP c P) i = none → V l mX6_exact false S (zrm 8 0 0) (zFm false S Q 0 0) 0 0 13 [(1, .int x1), (0, .ref 0)] [] (pX c (cwH c ha) k r tr kr rd ft tg tc lw kl ik ri2 s0 s1 s2 s3 (nt, n, cd, en, nm2, sk2)) := by
    intro m
    induction m with
    | zero =>
      intro i x1 ha nm2 sk2 ri2 hi h1 hn
      have ei : i = 100 := by omega
      rw [ei] at hn
      refine V.g2 60 [13] mX6_exact_ok rfl ?_
      refine pk_le 100 i (fun e1 => ?_) (fun e1 => absurd e1 (by omega)) rfl h1
      exact ⟨_, zsim_rfl _, h _ (by rw [hn]; rfl) (cwH c ha) ri2 nm2 sk2⟩
    | succ m ih =>
      intro i x1 ha nm2 sk2 ri2 hi h1 hn
      refine V.g2 60 [13] mX6_exact_ok rfl ?_
      refine pk_le 100 i (fun e1 => absurd e1 (by omega)) (fun e1 => ?_) rfl h1
      refine V.cV1P mX6_exact_ok rfl lX6_218 (ct_takeHands l) rfl 56 rfl [8, 9, 10, 11, 12, 13, 14] [none, none, none, none, none, none, none, none, some 0, some 1, some 2, some 3, some 4, some 5, some 6, none, none, none, none, none, none, none, none, none, none, none, none, none, none, none, none, none, none, none, none, none, none, none, none, none, none, none, none, none, none, none, none, none, none, none, none, none, none, none, none, none] (by decide +kernel) (pCart 0 (cwH c ha)) [.ref 0, .int x1] [] rfl 0 0 rfl rfl rfl rfl rfl rfl rfl rfl none (pCart 0 ((kdC c), (moC c), (kiC c), (loC c), (upd (upd ha 0 (nI (i / 10))) 1 (nI (i % 10))), (wiC c), (paC c))) ⟨cwH c ha, i, by omega, by rw [h1], rfl, rfl, rfl⟩ rfl (pX c ((kdC c), (moC c), (kiC c), (loC c), (upd (upd ha 0 (nI (i / 10))) 1 (nI (i % 10))), (wiC c), (paC c)) k r tr kr rd ft tg tc lw kl ik ri2 s0 s1 s2 s3 (nt, n, cd, en, nm2, sk2)) [] rfl rfl ?_
      refine V.sim (zsim_at (k := 13) (y := .inl (0, 2, .inl (haH i))) rfl (zsm_i haH_sim)) ?_
      refine V.nm [(1, .int x1), (0, .ref 0)] [] (pX c (cwH c (haH i)) k r tr kr rd ft tg tc lw kl ik ri2 s0 s1 s2 s3 (nt, n, cd, en, nm2, sk2)) rfl rfl rfl ?_
      refine V.g2 60 [13] mX6_exact_ok rfl ?_
      refine V.cw mX6_exact_ok rfl lX6_228 (c6_neverPulls l) rfl 0 6 rfl rfl rfl rfl rfl rfl ⟨c, (cwH c (haH i)), k, r, tr, kr, rd, ft, tg, tc, lw, kl, ik, ri2, s0, s1, s2, s3, (nt, n, cd, en, nm2, sk2), P, hL, hok, rfl, rfl, fun B hB ri3 nm3 sk3 => ⟨rfl, ?_⟩⟩
      have hB : B = exP c P i := hB
      cases B with
      | false =>
        refine V.nm [(1, .int x1), (0, .ref 0)] [.int (bI false)] (pX c (cwH c (haH i)) k r tr kr rd ft tg tc lw kl ik ri3 s0 s1 s2 s3 (nt, n, cd, en, nm3, sk3)) rfl rfl rfl ?_
        refine V.g2 60 [13] mX6_exact_ok rfl ?_
        refine And.intro (fun _ => ?_) (fun e => absurd rfl e)
        refine V.kn [1, 0] [(1, .int (x1 + zi 1)), (0, .ref 0)] [] (pX c (cwH c (haH i)) k r tr kr rd ft tg tc lw kl ik ri3 s0 s1 s2 s3 (nt, n, cd, en, nm3, sk3)) rfl rfl rfl ?_
        exact ih (i + 1) _ (haH i) _ _ _ (by omega) (ninc h1) (fsF_miss hn hB.symm)
      | true =>
        refine V.nm [(1, .int x1), (0, .ref 0)] [.int (bI true)] (pX c (cwH c (haH i)) k r tr kr rd ft tg tc lw kl ik ri3 s0 s1 s2 s3 (nt, n, cd, en, nm3, sk3)) rfl rfl rfl ?_
        refine V.g2 60 [13] mX6_exact_ok rfl ?_
        refine And.intro (fun e => absurd e (by decide)) (fun _ => ?_)
        exact ⟨_, zsim_rfl _, h _ (by rw [fsF_hit hn hB.symm (by omega : i < 100), h1]; rfl) (cwH c (haH i)) ri3 nm3 sk3⟩
  refine V.g2 60 [13] mX6_exact_ok rfl ?_
  refine V.cV1P mX6_exact_ok rfl lX6_214 (ct_cbecome l) rfl 56 rfl [8, 9, 10, 11, 12, 13, 14, 1, 2, 3, 4, 5, 6, 7] [none, some 7, some 8, some 9, some 10, some 11, some 12, some 13, some 0, some 1, some 2, some 3, some 4, some 5, some 6, none, none, none, none, none, none, none, none, none, none, none, none, none, none, none, none, none, none, none, none, none, none, none, none, none, none, none, none, none, none, none, none, none, none, none, none, none, none, none, none, none] (by decide +kernel) (pCart 0 d ++ pCart 7 c) [.ref 0, .ref 14] [] rfl 0 0 rfl rfl rfl rfl rfl rfl rfl rfl none (pCart 0 c ++ pCart 7 c) ⟨d, c, rfl, rfl, rfl, rfl⟩ rfl (pX c c k r tr kr rd ft tg tc lw kl ik ri s0 s1 s2 s3 (nt, n, cd, en, nm, sk)) [] rfl rfl ?_
  refine V.g2 60 [13] mX6_exact_ok rfl ?_
  refine V.kn [1, 0] [(1, .int (nI 0)), (0, .ref 0)] [] (pX c c k r tr kr rd ft tg tc lw kl ik ri s0 s1 s2 s3 (nt, n, cd, en, nm, sk)) rfl rfl rfl ?_
  exact loop 100 0 _ (haC c) _ _ _ rfl rfl rfl
