/-! ===== the class: told films (firstOtherwise, over a small world) ===== -/
abbrev zRj : Type := Int32 × Int64 × Int32 × fI × fI × Int32 × RT
def pFO (tc lw kl ik : Int32) (c : zCart) (rc rl : Nat) (x : zRj) (tx : zTx) (s0 : zSh) : List zE :=
  .inr (6, [.ref 201, .ref 203, .ref 205, .ref 207, .ref 209, .ref 211, .ref 213, .ref 215, .ref 217, .int tc, .int lw, .int kl, .int ik, .ref 2, .ref 219]) :: (.inr (2, [.ref rc, .ref rl, .int x.1, .long x.2.1, .int x.2.2.1, .ref 4, .ref 6, .int x.2.2.2.2.2.1, .int x.2.2.2.2.2.2.1, .int x.2.2.2.2.2.2.2.1, .int x.2.2.2.2.2.2.2.2.1, .int x.2.2.2.2.2.2.2.2.2.1, .int x.2.2.2.2.2.2.2.2.2.2.1, .int x.2.2.2.2.2.2.2.2.2.2.2.1, .int x.2.2.2.2.2.2.2.2.2.2.2.2]) :: .inl (0, 2, .inl x.2.2.2.1) :: .inl (0, 4, .inl x.2.2.2.2.1) :: (pCart 4 c ++ (pTextT 11 tx ++ pSheetT 16 s0)))
def dlF (a b ft : Nat) : Nat → Nat := fun k => bif Nat.beq k 101 then a else bif Nat.beq k 103 then b else bif Nat.beq k 201 then 2 else bif Nat.beq k 203 then 16 else bif Nat.beq k 205 then 30 else bif Nat.beq k 207 then 44 else bif Nat.beq k 209 then 52 else bif Nat.beq k 211 then 60 else bif Nat.beq k 213 then 68 else bif Nat.beq k 215 then ft else bif Nat.beq k 217 then 76 else bif Nat.beq k 219 then 84 else k
theorem beq_no {a b : Nat} (h : a ≠ b) : Nat.beq a b = false := by cases hb : Nat.beq a b with
  | false => rfl
  | true => exact absurd (Nat.eq_of_beq_eq_true hb) h
theorem dlF_ok (a b ft : Nat) : ∀ i, i < 27 → dlF a b ft (2 * i + 1) = 2 * i + 1 := by
  intro i hi
  unfold dlF
  rw [beq_no (by omega), beq_no (by omega), beq_no (by omega), beq_no (by omega), beq_no (by omega), beq_no (by omega), beq_no (by omega), beq_no (by omega), beq_no (by omega), beq_no (by omega), beq_no (by omega), beq_no (by omega)]
  rfl
abbrev shW (s0 s1 s2 s3 : zSh) (s : Nat) : zSh := match s with
  | 0 => s0
  | 1 => s1
  | 2 => s2
  | _ => s3
def T6_firstOtherwise : zT := fun args hs Q => ∃ (tc lw kl ik : Int32) (c : zCart) (orc orl : Nat) (rj : zRj) (tx : zTx) (s0 : zSh) (P : zP) (n : Nat), tTx tx.1 tx.2.1 tx.2.2.1 tx.2.2.2.1 P ∧ kOk c ∧ n ≤ 30 ∧ s0.2.1 = nI n ∧ args = [.ref 0, .ref 8, .ref 22, .ref 32] ∧ hs = pFO tc lw kl ik c orc orl rj tx s0 ∧ ∀ r0 : Int32, r0 = oI (foF c P s0.2.2 n) → ∀ te dr' hd' nm' sk' rr', Q (some (.int r0)) (pFO tc lw kl ik c 8 22 (0, rj.2.1, te, haC c, dr', hd', rr') (txS tx nm' sk') s0)
set_option maxHeartbeats 4000000 in
theorem c6_firstOtherwise (l : Launch) : Ct l mX6_firstOtherwise false 6 0 0 T6_firstOtherwise := by
  refine Ct.intro mX6_firstOtherwise_ok ?_
  rintro args hs Q ⟨tc, lw, kl, ik, c, orc, orl, rj, tx, s0, P, n2, hT, hok, hn, hs2, rfl, rfl, h⟩
  obtain ⟨obl, olt, ote, oha, odr, ohd, opu, oaz, oco, oho, obu, obb, ofa⟩ := rj
  obtain ⟨nt, n, cd, en, nm, sk⟩ := tx
  obtain ⟨so, sz, ce⟩ := s0
  refine ⟨Nat.le_of_ble_eq_true rfl, ?_⟩
  have hs2 : sz = nI n2 := hs2
  have hT : tTx nt n cd en P := hT
  obtain ⟨S, hS⟩ : ∃ S, pFO tc lw kl ik c orc orl (obl, olt, ote, oha, odr, ohd, opu, oaz, oco, oho, obu, obb, ofa) (nt, n, cd, en, nm, sk) (so, sz, ce) = S := ⟨_, rfl⟩
  refine V.s0 hS ?_
  have loop : ∀ (m t : Nat) (x4 : Int32) (dr2 nm2 sk2 : fI) (hd2 : Int32) (rr : RT), t + m = n2 → x4 = nI t → fsF (fun t => decide (¬ ce t = (rlF c P (haC c) (t + 1)).2.1)) t = none → (t = 0 ∨ dhO c P (haC c) dr2 hd2 (nI (t - 1))) → rr = rlF c P (haC c) t → V l mX6_firstOtherwise false S (zrm 6 0 0) (zFm false S Q 0 0) 0 0 12 [(4, .int x4), (0, .ref 0), (1, .ref 8), (2, .ref 22), (3, .ref 32)] [] (pFO tc lw kl ik c 8 22 (0, olt, (nI t), (haC c), dr2, hd2, rr) (nt, n, cd, en, nm2, sk2) (so, sz, ce)) := by
    intro m
    induction m with
    | zero =>
      intro t x4 dr2 nm2 sk2 hd2 rr ht h4 hf hd hr
      refine V.g2 60 [12] mX6_firstOtherwise_ok rfl ?_
      refine pk_le n2 t (fun e1 => ?_) (fun e1 => absurd e1 (by omega)) hs2 h4
      have et : t = n2 := by omega
      subst et
      exact ⟨_, zsim_rfl _, h _ (by rw [foF, hf]; rfl) _ dr2 hd2 nm2 sk2 rr⟩
    | succ m ih =>
      intro t x4 dr2 nm2 sk2 hd2 rr ht h4 hf hd hr
      refine V.g2 60 [12] mX6_firstOtherwise_ok rfl ?_
      refine pk_le n2 t (fun e1 => absurd e1 (by omega)) (fun e1 => ?_) hs2 h4
      refine V.callV mX6_firstOtherwise_ok rfl lX6_185 (ct_step l) rfl (fun k => k) (fun _ _ => rfl) [1, 2, 3, 4, 5, 6, 7, 8, 9, 10, 11, 12, 13, 14, 15] (pRX 0 olt (nI t) (haC c) dr2 hd2 rr c nt n cd en nm2 sk2) [.ref 0] [] (fun v wc' => ∃ (dr2 nm2 sk2 : fI) (hd2 : Int32) (rr2 : RT), rr2 = stF c P (haC c) t rr ∧ dhO c P (haC c) dr2 hd2 (nI t) ∧ v = none ∧ wc' = pRX 0 olt (nI (t + 1)) (haC c) dr2 hd2 rr2 c nt n cd en nm2 sk2) rfl 0 2 rfl rfl rfl rfl rfl rfl rfl rfl ⟨0, olt, t, (haC c), dr2, hd2, rr, c, nt, n, cd, en, nm2, sk2, P, by omega, hok, hT, rfl, rfl, Or.inl ⟨rfl, hd, fun dr2 hd2 nm2 sk2 hh => ⟨dr2, nm2, sk2, hd2, _, rfl, hh, rfl, rfl⟩⟩⟩ (fun v wc' hv => ?_)
      obtain ⟨dr1, nm1, sk1, hd1, rr1, hst1, hh1, rfl, rfl⟩ := hv
      refine ⟨rfl, ?_⟩
      refine V.nm [(4, .int x4), (0, .ref 0), (1, .ref 8), (2, .ref 22), (3, .ref 32)] [] (pFO tc lw kl ik c 8 22 (0, olt, (nI (t + 1)), (haC c), dr1, hd1, rr1) (nt, n, cd, en, nm1, sk1) (so, sz, ce)) rfl rfl rfl ?_
      have hr2 : rr1 = rlF c P (haC c) (t + 1) := by rw [hst1, rlF, hr]
      refine V.g2 60 [12] mX6_firstOtherwise_ok rfl ?_
      refine ⟨t, by omega, h4, rfl, ?_⟩
      refine And.intro (fun (e2 : (rr1.2.1) = (ce t)) => ?_) (fun (e2 : ¬ (rr1.2.1) = (ce t)) => ?_)
      · refine V.kn [4, 0, 1, 2, 3] [(4, .int (x4 + zi 1)), (0, .ref 0), (1, .ref 8), (2, .ref 22), (3, .ref 32)] [] (pFO tc lw kl ik c 8 22 (0, olt, (nI (t + 1)), (haC c), dr1, hd1, rr1) (nt, n, cd, en, nm1, sk1) (so, sz, ce)) rfl rfl rfl ?_
        exact ih (t + 1) _ dr1 nm1 sk1 hd1 rr1 (by omega) (ninc h4) (fsF_miss hf (by rw [← hr2]; exact decide_eq_false (fun z => z e2.symm))) (Or.inr hh1) hr2
      · exact ⟨_, zsim_rfl _, h _ (by rw [foF, fsF_hit hf (by rw [← hr2]; exact decide_eq_true (fun z => e2 z.symm)) (by omega : t < n2), h4]; rfl) _ dr1 hd1 nm1 sk1 rr1⟩
  refine V.g2 60 [12] mX6_firstOtherwise_ok rfl ?_
  refine V.callV mX6_firstOtherwise_ok rfl lX6_182 (ct_start l) rfl (dl2 orc orl) (dl2_ok orc orl) [1, 2, 3, 4, 5, 6, 7, 8, 9, 10, 11, 12, 13, 14, 15] (pRide 101 103 obl olt ote oha odr ohd opu oaz oco oho obu obb ofa ++ (pCart 3 c ++ pText 10 nt n cd en nm sk)) [.ref 0, .ref 6, .ref 20] [] (fun v wc' => v = none ∧ wc' = pRX 0 olt (nI 0) (haC c) odr ohd r0 c nt n cd en nm sk) rfl 0 2 rfl rfl rfl rfl rfl rfl rfl rfl ⟨101, 103, obl, olt, ote, oha, odr, ohd, opu, oaz, oco, oho, obu, obb, ofa, c, nt, n, cd, en, nm, sk, rfl, rfl, ⟨rfl, rfl⟩⟩ (fun v wc' hv => ?_)
  obtain ⟨rfl, rfl⟩ := hv
  refine ⟨rfl, ?_⟩
  refine V.nm [(0, .ref 0), (1, .ref 8), (2, .ref 22), (3, .ref 32)] [] (pFO tc lw kl ik c 8 22 (0, olt, (nI 0), (haC c), odr, ohd, r0) (nt, n, cd, en, nm, sk) (so, sz, ce)) rfl rfl rfl ?_
  refine V.g2 60 [12] mX6_firstOtherwise_ok rfl ?_
  refine V.kn [4, 0, 1, 2, 3] [(4, .int (nI 0)), (0, .ref 0), (1, .ref 8), (2, .ref 22), (3, .ref 32)] [] (pFO tc lw kl ik c 8 22 (0, olt, (nI 0), (haC c), odr, ohd, r0) (nt, n, cd, en, nm, sk) (so, sz, ce)) rfl rfl rfl ?_
  exact loop n2 0 _ _ _ _ _ _ (by omega) rfl rfl (Or.inl rfl) rfl
