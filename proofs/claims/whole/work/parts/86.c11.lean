theorem cwB_ok {c : zCart} {w k : Nat} (hk : k < 60) : kOk (cwB c w k) := by
  refine kOk_up (kd := fun _ => 0) (mo := moC c) (fun i _ => ?_) (by omega)
  exact ⟨by show (0 : Int32).toNatClampNeg < 6; decide, rfl⟩
theorem mkP_sim {f : fI} : ∀ i, i < 4 → upd (upd (upd (upd f 0 0) 1 0) 2 0) 3 0 i = (fun _ => (0 : Int32)) i := by
  intro i hi
  rcases (show i = 0 ∨ i = 1 ∨ i = 2 ∨ i = 3 by omega) with rfl | rfl | rfl | rfl <;> rfl
def T6_couldBeWheel : zT := fun args hs Q => ∃ (c d k : zCart) (r tr kr : zRow) (rd : zRd) (ft : Nat) (tg : Nat → Option Nat) (tc lw kl ik : Int32) (ri : zRi) (s0 s1 s2 s3 : zSh) (tx : zTx) (P : zP) (s n w : Nat), lOk tg lw tx P ∧ kOk c ∧ s < 4 ∧ n ≤ 30 ∧ (shW s0 s1 s2 s3 s).2.1 = nI n ∧ w < 4 ∧ args = [.ref 0, .int (nI s), .int (nI w)] ∧ hs = pX c d k r tr kr rd ft tg tc lw kl ik ri s0 s1 s2 s3 tx ∧ ∀ B : Bool, B = anB (fun k => foB (cwB c w k) P (shW s0 s1 s2 s3 s).2.2 n) 60 → ∀ d' ri' nm' sk', Q (some (.int (bI B))) (pX c d' k r tr kr rd ft tg tc lw kl ik ri' s0 s1 s2 s3 (txS tx nm' sk'))
set_option maxHeartbeats 4000000 in
theorem c6_couldBeWheel (l : Launch) : Ct l mX6_couldBeWheel false 8 0 0 T6_couldBeWheel := by
  refine Ct.intro mX6_couldBeWheel_ok ?_
  rintro args hs Q ⟨c, d, k, r, tr, kr, rd, ft, tg, tc, lw, kl, ik, ri, s0, s1, s2, s3, tx, P, s, n2, w, hL, hok, hs4, hn30, hsz, hw, rfl, rfl, h⟩
  obtain ⟨nt, n, cd, en, nm, sk⟩ := tx
  refine ⟨Nat.le_of_ble_eq_true rfl, ?_⟩
  obtain ⟨G, hG⟩ : ∃ G, G = (fun k => foB (cwB c w k) P (shW s0 s1 s2 s3 s).2.2 n2) := ⟨_, rfl⟩
  rw [← hG] at h
  obtain ⟨S, hS⟩ : ∃ S, pX c d k r tr kr rd ft tg tc lw kl ik ri s0 s1 s2 s3 (nt, n, cd, en, nm, sk) = S := ⟨_, rfl⟩
  refine V.s0 hS ?_
  refine V.g2 60 [13, 34, 53, 71] mX6_couldBeWheel_ok rfl ?_
  refine V.cV1P mX6_couldBeWheel_ok rfl lX6_214 (ct_cbecome l) rfl 56 rfl [8, 9, 10, 11, 12, 13, 14, 1, 2, 3, 4, 5, 6, 7] [none, some 7, some 8, some 9, some 10, some 11, some 12, some 13, some 0, some 1, some 2, some 3, some 4, some 5, some 6, none, none, none, none, none, none, none, none, none, none, none, none, none, none, none, none, none, none, none, none, none, none, none, none, none, none, none, none, none, none, none, none, none, none, none, none, none, none, none, none, none] (by decide +kernel) (pCart 0 d ++ pCart 7 c) [.ref 0, .ref 14] [] rfl 0 0 rfl rfl rfl rfl rfl rfl rfl rfl none (pCart 0 c ++ pCart 7 c) ⟨d, c, rfl, rfl, rfl, rfl⟩ rfl (pX c c k r tr kr rd ft tg tc lw kl ik ri s0 s1 s2 s3 (nt, n, cd, en, nm, sk)) [] rfl rfl ?_
  refine V.g2 60 [13, 34, 53, 71] mX6_couldBeWheel_ok rfl ?_
  refine V.nm [(3, .int (nI 0)), (0, .ref 0), (1, .int (nI s)), (2, .int (nI w))] [] (pX c c k r tr kr rd ft tg tc lw kl ik ri s0 s1 s2 s3 (nt, n, cd, en, nm, sk)) rfl rfl rfl ?_
  refine V.g2 60 [13, 34, 53, 71] mX6_couldBeWheel_ok rfl ?_
  refine pk_le 4 0 (fun e0 => absurd e0 (by omega)) (fun e0 => ?_) rfl rfl
  refine V.cV1P mX6_couldBeWheel_ok rfl lX6_254 (ct_makePlain l) rfl 56 rfl [8, 9, 10, 11, 12, 13, 14] [none, none, none, none, none, none, none, none, some 0, some 1, some 2, some 3, some 4, some 5, some 6, none, none, none, none, none, none, none, none, none, none, none, none, none, none, none, none, none, none, none, none, none, none, none, none, none, none, none, none, none, none, none, none, none, none, none, none, none, none, none, none, none] (by decide +kernel) (pCart 0 c) [.ref 0, .int (nI 0)] [] rfl 0 0 rfl rfl rfl rfl rfl rfl rfl rfl none (pCart 0 ((upd (kdC c) 0 0), (upd (moC c) 0 0), (kiC c), (loC c), (haC c), (wiC c), (paC c))) ⟨c, 0, by omega, rfl, rfl, rfl, rfl⟩ rfl (pX c ((upd (kdC c) 0 0), (upd (moC c) 0 0), (kiC c), (loC c), (haC c), (wiC c), (paC c)) k r tr kr rd ft tg tc lw kl ik ri s0 s1 s2 s3 (nt, n, cd, en, nm, sk)) [] rfl rfl ?_
  refine V.g2 60 [13, 34, 53, 71] mX6_couldBeWheel_ok rfl ?_
  refine V.nm [(3, .int (nI 1)), (0, .ref 0), (1, .int (nI s)), (2, .int (nI w))] [] (pX c ((upd (kdC c) 0 0), (upd (moC c) 0 0), (kiC c), (loC c), (haC c), (wiC c), (paC c)) k r tr kr rd ft tg tc lw kl ik ri s0 s1 s2 s3 (nt, n, cd, en, nm, sk)) rfl rfl rfl ?_
  refine V.g2 60 [13, 34, 53, 71] mX6_couldBeWheel_ok rfl ?_
  refine pk_le 4 1 (fun e0 => absurd e0 (by omega)) (fun e0 => ?_) rfl rfl
  refine V.cV1P mX6_couldBeWheel_ok rfl lX6_254 (ct_makePlain l) rfl 56 rfl [8, 9, 10, 11, 12, 13, 14] [none, none, none, none, none, none, none, none, some 0, some 1, some 2, some 3, some 4, some 5, some 6, none, none, none, none, none, none, none, none, none, none, none, none, none, none, none, none, none, none, none, none, none, none, none, none, none, none, none, none, none, none, none, none, none, none, none, none, none, none, none, none, none] (by decide +kernel) (pCart 0 ((upd (kdC c) 0 0), (upd (moC c) 0 0), (kiC c), (loC c), (haC c), (wiC c), (paC c))) [.ref 0, .int (nI 1)] [] rfl 0 0 rfl rfl rfl rfl rfl rfl rfl rfl none (pCart 0 ((upd (upd (kdC c) 0 0) 1 0), (upd (upd (moC c) 0 0) 1 0), (kiC c), (loC c), (haC c), (wiC c), (paC c))) ⟨((upd (kdC c) 0 0), (upd (moC c) 0 0), (kiC c), (loC c), (haC c), (wiC c), (paC c)), 1, by omega, rfl, rfl, rfl, rfl⟩ rfl (pX c ((upd (upd (kdC c) 0 0) 1 0), (upd (upd (moC c) 0 0) 1 0), (kiC c), (loC c), (haC c), (wiC c), (paC c)) k r tr kr rd ft tg tc lw kl ik ri s0 s1 s2 s3 (nt, n, cd, en, nm, sk)) [] rfl rfl ?_
  refine V.g2 60 [13, 34, 53, 71] mX6_couldBeWheel_ok rfl ?_
  refine V.nm [(3, .int (nI 2)), (0, .ref 0), (1, .int (nI s)), (2, .int (nI w))] [] (pX c ((upd (upd (kdC c) 0 0) 1 0), (upd (upd (moC c) 0 0) 1 0), (kiC c), (loC c), (haC c), (wiC c), (paC c)) k r tr kr rd ft tg tc lw kl ik ri s0 s1 s2 s3 (nt, n, cd, en, nm, sk)) rfl rfl rfl ?_
  refine V.g2 60 [13, 34, 53, 71] mX6_couldBeWheel_ok rfl ?_
  refine pk_le 4 2 (fun e0 => absurd e0 (by omega)) (fun e0 => ?_) rfl rfl
  refine V.cV1P mX6_couldBeWheel_ok rfl lX6_254 (ct_makePlain l) rfl 56 rfl [8, 9, 10, 11, 12, 13, 14] [none, none, none, none, none, none, none, none, some 0, some 1, some 2, some 3, some 4, some 5, some 6, none, none, none, none, none, none, none, none, none, none, none, none, none, none, none, none, none, none, none, none, none, none, none, none, none, none, none, none, none, none, none, none, none, none, none, none, none, none, none, none, none] (by decide +kernel) (pCart 0 ((upd (upd (kdC c) 0 0) 1 0), (upd (upd (moC c) 0 0) 1 0), (kiC c), (loC c), (haC c), (wiC c), (paC c))) [.ref 0, .int (nI 2)] [] rfl 0 0 rfl rfl rfl rfl rfl rfl rfl rfl none (pCart 0 ((upd (upd (upd (kdC c) 0 0) 1 0) 2 0), (upd (upd (upd (moC c) 0 0) 1 0) 2 0), (kiC c), (loC c), (haC c), (wiC c), (paC c))) ⟨((upd (upd (kdC c) 0 0) 1 0), (upd (upd (moC c) 0 0) 1 0), (kiC c), (loC c), (haC c), (wiC c), (paC c)), 2, by omega, rfl, rfl, rfl, rfl⟩ rfl (pX c ((upd (upd (upd (kdC c) 0 0) 1 0) 2 0), (upd (upd (upd (moC c) 0 0) 1 0) 2 0), (kiC c), (loC c), (haC c), (wiC c), (paC c)) k r tr kr rd ft tg tc lw kl ik ri s0 s1 s2 s3 (nt, n, cd, en, nm, sk)) [] rfl rfl ?_
  refine V.g2 60 [13, 34, 53, 71] mX6_couldBeWheel_ok rfl ?_
  refine V.nm [(3, .int (nI 3)), (0, .ref 0), (1, .int (nI s)), (2, .int (nI w))] [] (pX c ((upd (upd (upd (kdC c) 0 0) 1 0) 2 0), (upd (upd (upd (moC c) 0 0) 1 0) 2 0), (kiC c), (loC c), (haC c), (wiC c), (paC c)) k r tr kr rd ft tg tc lw kl ik ri s0 s1 s2 s3 (nt, n, cd, en, nm, sk)) rfl rfl rfl ?_
  refine V.g2 60 [13, 34, 53, 71] mX6_couldBeWheel_ok rfl ?_
  refine pk_le 4 3 (fun e0 => absurd e0 (by omega)) (fun e0 => ?_) rfl rfl
  refine V.cV1P mX6_couldBeWheel_ok rfl lX6_254 (ct_makePlain l) rfl 56 rfl [8, 9, 10, 11, 12, 13, 14] [none, none, none, none, none, none, none, none, some 0, some 1, some 2, some 3, some 4, some 5, some 6, none, none, none, none, none, none, none, none, none, none, none, none, none, none, none, none, none, none, none, none, none, none, none, none, none, none, none, none, none, none, none, none, none, none, none, none, none, none, none, none, none] (by decide +kernel) (pCart 0 ((upd (upd (upd (kdC c) 0 0) 1 0) 2 0), (upd (upd (upd (moC c) 0 0) 1 0) 2 0), (kiC c), (loC c), (haC c), (wiC c), (paC c))) [.ref 0, .int (nI 3)] [] rfl 0 0 rfl rfl rfl rfl rfl rfl rfl rfl none (pCart 0 ((upd (upd (upd (upd (kdC c) 0 0) 1 0) 2 0) 3 0), (upd (upd (upd (upd (moC c) 0 0) 1 0) 2 0) 3 0), (kiC c), (loC c), (haC c), (wiC c), (paC c))) ⟨((upd (upd (upd (kdC c) 0 0) 1 0) 2 0), (upd (upd (upd (moC c) 0 0) 1 0) 2 0), (kiC c), (loC c), (haC c), (wiC c), (paC c)), 3, by omega, rfl, rfl, rfl, rfl⟩ rfl (pX c ((upd (upd (upd (upd (kdC c) 0 0) 1 0) 2 0) 3 0), (upd (upd (upd (upd (moC c) 0 0) 1 0) 2 0) 3 0), (kiC c), (loC c), (haC c), (wiC c), (paC c)) k r tr kr rd ft tg tc lw kl ik ri s0 s1 s2 s3 (nt, n, cd, en, nm, sk)) [] rfl rfl ?_
  refine V.g2 60 [13, 34, 53, 71] mX6_couldBeWheel_ok rfl ?_
  refine V.nm [(3, .int (nI 4)), (0, .ref 0), (1, .int (nI s)), (2, .int (nI w))] [] (pX c ((upd (upd (upd (upd (kdC c) 0 0) 1 0) 2 0) 3 0), (upd (upd (upd (upd (moC c) 0 0) 1 0) 2 0) 3 0), (kiC c), (loC c), (haC c), (wiC c), (paC c)) k r tr kr rd ft tg tc lw kl ik ri s0 s1 s2 s3 (nt, n, cd, en, nm, sk)) rfl rfl rfl ?_
  refine V.sim (zsim_at (k := 9) (y := .inl (0, 4, .inl (fun _ => (0 : Int32)))) rfl (zsm_i mkP_sim)) ?_
  refine V.nm [(3, .int (nI 4)), (0, .ref 0), (1, .int (nI s)), (2, .int (nI w))] [] (pX c ((fun _ => (0 : Int32)), (upd (upd (upd (upd (moC c) 0 0) 1 0) 2 0) 3 0), (kiC c), (loC c), (haC c), (wiC c), (paC c)) k r tr kr rd ft tg tc lw kl ik ri s0 s1 s2 s3 (nt, n, cd, en, nm, sk)) rfl rfl rfl ?_
  refine V.sim (zsim_at (k := 10) (y := .inl (0, 4, .inl (fun _ => (0 : Int32)))) rfl (zsm_i mkP_sim)) ?_
  refine V.nm [(3, .int (nI 4)), (0, .ref 0), (1, .int (nI s)), (2, .int (nI w))] [] (pX c ((fun _ => (0 : Int32)), (fun _ => (0 : Int32)), (kiC c), (loC c), (haC c), (wiC c), (paC c)) k r tr kr rd ft tg tc lw kl ik ri s0 s1 s2 s3 (nt, n, cd, en, nm, sk)) rfl rfl rfl ?_
  have loop : ∀ (m q : Nat) (x3 : Int32) (kd2 mo2 nm2 sk2 : fI) (ri2 : zRi), q + m = 6 → x3 = nI q → anB G (10 * q) = false → (∀ a, upd kd2 w a = upd (fun _ => (0 : Int32)) w a) → (∀ a, upd mo2 w a = upd (fun _ => (0 : Int32)) w a) → V l mX6_couldBeWheel false S (zrm 8 0 0) (zFm false S Q 0 0) 0 0 34 [(3, .int x3), (0, .ref 0), (1, .int (nI s)), (2, .int (nI w))] [] (pX c (kd2, mo2, (kiC c), (loC c), (haC c), (wiC c), (paC c)) k r tr kr rd ft tg tc lw kl ik ri2 s0 s1 s2 s3 (nt, n, cd, en, nm2, sk2)) := by
    intro m
    induction m with
    | zero =>
      intro q x3 kd2 mo2 nm2 sk2 ri2 hq h3 hn hkd hmo
      refine V.g2 60 [13, 34, 53, 71] mX6_couldBeWheel_ok rfl ?_
      refine pk_le 6 q (fun e1 => ?_) (fun e1 => absurd e1 (by omega)) rfl h3
      have eq : q = 6 := by omega
      subst eq
      refine And.intro (Or.inl rfl) ?_
      exact ⟨_, zsim_rfl _, h false hn.symm (kd2, mo2, (kiC c), (loC c), (haC c), (wiC c), (paC c)) ri2 nm2 sk2⟩
    | succ m ih =>
      intro q x3 kd2 mo2 nm2 sk2 ri2 hq h3 hn hkd hmo
      refine V.g2 60 [13, 34, 53, 71] mX6_couldBeWheel_ok rfl ?_
      refine pk_le 6 q (fun e1 => absurd e1 (by omega)) (fun e1 => ?_) rfl h3
      subst h3
      refine ⟨w, by omega, rfl, rfl, ?_⟩
      refine V.nm [(4, .int (nI 0)), (3, .int (nI q)), (0, .ref 0), (1, .int (nI s)), (2, .int (nI w))] [] (pX c ((upd kd2 w (nI q)), mo2, (kiC c), (loC c), (haC c), (wiC c), (paC c)) k r tr kr rd ft tg tc lw kl ik ri2 s0 s1 s2 s3 (nt, n, cd, en, nm2, sk2)) rfl rfl rfl ?_
      rw [hkd]
      have inner : ∀ (m2 a : Nat) (x4 : Int32) (mo3 nm3 sk3 : fI) (ri3 : zRi), a + m2 = 10 → x4 = nI a → anB G (10 * q + a) = false → (∀ a, upd mo3 w a = upd (fun _ => (0 : Int32)) w a) → V l mX6_couldBeWheel false S (zrm 8 0 0) (zFm false S Q 0 0) 0 0 53 [(4, .int x4), (3, .int (nI q)), (0, .ref 0), (1, .int (nI s)), (2, .int (nI w))] [] (pX c ((upd (fun _ => (0 : Int32)) w (nI q)), mo3, (kiC c), (loC c), (haC c), (wiC c), (paC c)) k r tr kr rd ft tg tc lw kl ik ri3 s0 s1 s2 s3 (nt, n, cd, en, nm3, sk3)) := by
        intro m2
        induction m2 with
        | zero =>
          intro a x4 mo3 nm3 sk3 ri3 ha h4 hn2 hmo3
          refine V.g2 60 [13, 34, 53, 71] mX6_couldBeWheel_ok rfl ?_
          refine pk_lt 9 a (fun e2 => ?_) (fun e2 => absurd e2 (by omega)) rfl h4
          have ea : a = 10 := by omega
          subst ea
          refine V.kn [3, 0, 1, 2] [(3, .int ((nI q) + zi 1)), (0, .ref 0), (1, .int (nI s)), (2, .int (nI w))] [] (pX c ((upd (fun _ => (0 : Int32)) w (nI q)), mo3, (kiC c), (loC c), (haC c), (wiC c), (paC c)) k r tr kr rd ft tg tc lw kl ik ri3 s0 s1 s2 s3 (nt, n, cd, en, nm3, sk3)) rfl rfl rfl ?_
          exact ih (q + 1) _ _ _ _ _ _ (by omega) (ninc rfl) (by rw [show 10 * (q + 1) = 10 * q + 10 by omega]; exact hn2) (fun b => upd2 _ _ _ _) hmo3
        | succ m2 ih =>
          intro a x4 mo3 nm3 sk3 ri3 ha h4 hn2 hmo3
          refine V.g2 60 [13, 34, 53, 71] mX6_couldBeWheel_ok rfl ?_
          refine pk_lt 9 a (fun e2 => absurd e2 (by omega)) (fun e2 => ?_) rfl h4
          subst h4
          refine ⟨w, by omega, rfl, rfl, ?_⟩
          refine V.nm [(4, .int (nI a)), (3, .int (nI q)), (0, .ref 0), (1, .int (nI s)), (2, .int (nI w))] [] (pX c ((upd (fun _ => (0 : Int32)) w (nI q)), (upd mo3 w (nI a)), (kiC c), (loC c), (haC c), (wiC c), (paC c)) k r tr kr rd ft tg tc lw kl ik ri3 s0 s1 s2 s3 (nt, n, cd, en, nm3, sk3)) rfl rfl rfl ?_
          rw [hmo3]
          have eq1 : (10 * q + a) / 10 = q := by omega
          have eq2 : (10 * q + a) % 10 = a := by omega
          refine V.nm [(4, .int (nI a)), (3, .int (nI q)), (0, .ref 0), (1, .int (nI s)), (2, .int (nI w))] [] (pX c (cwB c w (10 * q + a)) k r tr kr rd ft tg tc lw kl ik ri3 s0 s1 s2 s3 (nt, n, cd, en, nm3, sk3)) rfl rfl (by rw [cwB, eq1, eq2]) ?_
          refine V.g2 60 [13, 34, 53, 71] mX6_couldBeWheel_ok rfl ?_
          refine V.cw mX6_couldBeWheel_ok rfl lX6_267 (c6_wouldFit l) rfl 0 6 rfl rfl rfl rfl rfl rfl ⟨c, (cwB c w (10 * q + a)), k, r, tr, kr, rd, ft, tg, tc, lw, kl, ik, ri3, s0, s1, s2, s3, (nt, n, cd, en, nm3, sk3), P, s, n2, hL, cwB_ok (by omega), hs4, hn30, hsz, rfl, rfl, fun B hB ri4 nm4 sk4 => ⟨rfl, ?_⟩⟩
          have hB : B = G (10 * q + a) := by rw [hG]; exact hB
          cases B with
          | false =>
            refine V.nm [(4, .int (nI a)), (3, .int (nI q)), (0, .ref 0), (1, .int (nI s)), (2, .int (nI w))] [.int (bI false)] (pX c (cwB c w (10 * q + a)) k r tr kr rd ft tg tc lw kl ik ri4 s0 s1 s2 s3 (nt, n, cd, en, nm4, sk4)) rfl rfl rfl ?_
            refine V.g2 60 [13, 34, 53, 71] mX6_couldBeWheel_ok rfl ?_
            refine And.intro (fun _ => ?_) (fun e => absurd rfl e)
            refine V.kn [4, 3, 0, 1, 2] [(4, .int ((nI a) + zi 1)), (3, .int (nI q)), (0, .ref 0), (1, .int (nI s)), (2, .int (nI w))] [] (pX c ((upd (fun _ => (0 : Int32)) w (nI q)), (upd (fun _ => (0 : Int32)) w (nI a)), (kiC c), (loC c), (haC c), (wiC c), (paC c)) k r tr kr rd ft tg tc lw kl ik ri4 s0 s1 s2 s3 (nt, n, cd, en, nm4, sk4)) rfl rfl (by rw [cwB, eq1, eq2]) ?_
            exact ih (a + 1) _ _ _ _ _ (by omega) (ninc rfl) (by show anB G (10 * q + a + 1) = false; rw [anB, hn2, ← hB]; rfl) (fun b => upd2 _ _ _ _)
          | true =>
            refine V.nm [(4, .int (nI a)), (3, .int (nI q)), (0, .ref 0), (1, .int (nI s)), (2, .int (nI w))] [.int (bI true)] (pX c (cwB c w (10 * q + a)) k r tr kr rd ft tg tc lw kl ik ri4 s0 s1 s2 s3 (nt, n, cd, en, nm4, sk4)) rfl rfl rfl ?_
            refine V.g2 60 [13, 34, 53, 71] mX6_couldBeWheel_ok rfl ?_
            refine And.intro (fun e => absurd e (by decide)) (fun _ => ?_)
            refine And.intro (Or.inr rfl) ?_
            exact ⟨_, zsim_rfl _, h true (by have := anB_t (p := G) (n := 10 * q + a + 1) (by rw [anB, ← hB, Bool.or_true]) (60 - (10 * q + a + 1)); rw [show 10 * q + a + 1 + (60 - (10 * q + a + 1)) = 60 by omega] at this; exact this.symm) (cwB c w (10 * q + a)) ri4 nm4 sk4⟩
      refine V.kn [4, 3, 0, 1, 2] [(4, .int (nI 0)), (3, .int (nI q)), (0, .ref 0), (1, .int (nI s)), (2, .int (nI w))] [] (pX c ((upd (fun _ => (0 : Int32)) w (nI q)), mo2, (kiC c), (loC c), (haC c), (wiC c), (paC c)) k r tr kr rd ft tg tc lw kl ik ri2 s0 s1 s2 s3 (nt, n, cd, en, nm2, sk2)) rfl rfl rfl ?_
      exact inner 10 0 _ _ _ _ _ rfl rfl hn hmo
  refine V.g2 60 [13, 34, 53, 71] mX6_couldBeWheel_ok rfl ?_
  refine pk_le 4 4 (fun e0 => ?_) (fun e0 => absurd e0 (by omega)) rfl rfl
  refine V.kn [3, 0, 1, 2] [(3, .int (nI 0)), (0, .ref 0), (1, .int (nI s)), (2, .int (nI w))] [] (pX c ((fun _ => (0 : Int32)), (fun _ => (0 : Int32)), (kiC c), (loC c), (haC c), (wiC c), (paC c)) k r tr kr rd ft tg tc lw kl ik ri s0 s1 s2 s3 (nt, n, cd, en, nm, sk)) rfl rfl rfl ?_
  exact loop 6 0 _ _ _ _ _ _ rfl rfl rfl (fun b => rfl) (fun b => rfl)
def T6_which : zT := fun args hs Q => ∃ (c d k : zCart) (r tr kr : zRow) (rd : zRd) (ft : Nat) (tg : Nat → Option Nat) (tc lw kl ik : Int32) (ri : zRi) (s0 s1 s2 s3 : zSh) (tx : zTx) (x : Int32) (P : zP), lOk tg lw tx P ∧ kOk c ∧ (∀ s, s < 4 → ∃ n, n ≤ 40 ∧ (shW s0 s1 s2 s3 s).2.1 = nI n) ∧ args = [.ref 0, .int x] ∧ hs = pX c d k r tr kr rd ft tg tc lw kl ik ri s0 s1 s2 s3 tx ∧ (wiB x 3 = false → Q (some (.int (-2))) hs) ∧ (∀ s, s < 4 → x = nI s → ¬ flW (shW s0 s1 s2 s3 s).1 (shW s0 s1 s2 s3 s).2.1 = 0 → Q (some (.int (flW (shW s0 s1 s2 s3 s).1 (shW s0 s1 s2 s3 s).2.1))) hs) ∧ (∀ s n, s < 4 → x = nI s → flW (shW s0 s1 s2 s3 s).1 (shW s0 s1 s2 s3 s).2.1 = 0 → n ≤ 30 → (shW s0 s1 s2 s3 s).2.1 = nI n → ∀ r0 : Int32, r0 = btF (fun w => anB (fun k => foB (cwB c w k) P (shW s0 s1 s2 s3 s).2.2 n) 60) 4 → ∀ d' ri' nm' sk', Q (some (.int r0)) (pX c d' k r tr kr rd ft tg tc lw kl ik ri' s0 s1 s2 s3 (txS tx nm' sk')))
set_option maxHeartbeats 4000000 in
theorem c6_which (l : Launch) : Ct l mX6_which false 9 0 0 T6_which := by
  refine Ct.intro mX6_which_ok ?_
  rintro args hs Q ⟨c, d, k, r, tr, kr, rd, ft, tg, tc, lw, kl, ik, ri, s0, s1, s2, s3, tx, x, P, hL, hok, hsh, rfl, rfl, h0, h1, h2⟩
  obtain ⟨nt, n, cd, en, nm, sk⟩ := tx
  refine ⟨Nat.le_of_ble_eq_true rfl, ?_⟩
  refine V.g2 60 [12, 17, 40] mX6_which_ok rfl ?_
  cases hB : wiB x 3 with
  | false =>
    refine V.cw mX6_which_ok rfl lX6_260 (c6_refusalOfFilm l) rfl 0 6 rfl rfl rfl rfl rfl rfl ⟨c, d, k, r, tr, kr, rd, ft, tg, tc, lw, kl, ik, ri, s0, s1, s2, s3, (nt, n, cd, en, nm, sk), _, rfl, rfl, fun _ => ⟨rfl, ?_⟩, fun s hs e => absurd hB (by rw [e, wiB_n (by omega) (by omega)]; exact fun z => Bool.noConfusion z)⟩
    refine V.nm [(0, .ref 0), (1, .int x)] [.int (-2)] (pX c d k r tr kr rd ft tg tc lw kl ik ri s0 s1 s2 s3 (nt, n, cd, en, nm, sk)) rfl rfl rfl ?_
    refine V.g2 60 [12, 17, 40] mX6_which_ok rfl ?_
    refine And.intro (fun (e : (-2) = (0 : Int32)) => absurd e (by decide)) (fun (e : ¬ (-2) = (0 : Int32)) => ?_)
    exact ⟨_, zsim_rfl _, h0 hB⟩
  | true =>
    obtain ⟨s, hs4, rfl⟩ := wiB_t hB (by omega)
    refine V.cw mX6_which_ok rfl lX6_260 (c6_refusalOfFilm l) rfl 0 6 rfl rfl rfl rfl rfl rfl ⟨c, d, k, r, tr, kr, rd, ft, tg, tc, lw, kl, ik, ri, s0, s1, s2, s3, (nt, n, cd, en, nm, sk), _, rfl, rfl, fun z => absurd (z.symm.trans hB) (fun e => Bool.noConfusion e), fun s2 hs2 e rr0 hrr0 => ⟨rfl, ?_⟩⟩
    have es : s = s2 := (nI_eq (by omega) (by omega)).mp e
    subst es
    refine V.nm [(0, .ref 0), (1, .int (nI s))] [.int rr0] (pX c d k r tr kr rd ft tg tc lw kl ik ri s0 s1 s2 s3 (nt, n, cd, en, nm, sk)) rfl rfl rfl ?_
    have h1 := h1 s hs4 rfl
    have h2 := fun n => h2 s n hs4 rfl
    have hn0 := hsh s hs4
    refine V.g2 60 [12, 17, 40] mX6_which_ok rfl ?_
    refine And.intro (fun (e : rr0 = (0 : Int32)) => ?_) (fun (e : ¬ rr0 = (0 : Int32)) => ?_)
    · have hf := hrr0.symm.trans e
      obtain ⟨n2, hn30, hsz⟩ := flW_m hn0 hf
      have h2 := h2 n2 hf hn30 hsz
      clear h0 h1 hf hrr0 hn0 hsh
      refine V.kn [0, 1] [(0, .ref 0), (1, .int (nI s))] [] (pX c d k r tr kr rd ft tg tc lw kl ik ri s0 s1 s2 s3 (nt, n, cd, en, nm, sk)) rfl rfl rfl ?_
      obtain ⟨S, hS⟩ : ∃ S, pX c d k r tr kr rd ft tg tc lw kl ik ri s0 s1 s2 s3 (nt, n, cd, en, nm, sk) = S := ⟨_, rfl⟩
      refine V.s0 hS ?_
      obtain ⟨G, hG⟩ : ∃ G, G = (fun w => anB (fun k => foB (cwB c w k) P (shW s0 s1 s2 s3 s).2.2 n2) 60) := ⟨_, rfl⟩
      rw [← hG] at h2
      have loop : ∀ (m w : Nat) (x4 x3 : Int32) (d2 : zCart) (nm2 sk2 : fI) (ri2 : zRi), w + m = 4 → x4 = nI w → x3 = btF G w → V l mX6_which false S (zrm 9 0 0) (zFm false S Q 0 0) 0 0 17 [(4, .int x4), (3, .int x3), (0, .ref 0), (1, .int (nI s))] [] (pX c d2 k r tr kr rd ft tg tc lw kl ik ri2 s0 s1 s2 s3 (nt, n, cd, en, nm2, sk2)) := by
        intro m
        induction m with
        | zero =>
          intro w x4 x3 d2 nm2 sk2 ri2 hw h4 h3
          refine V.g2 60 [12, 17, 40] mX6_which_ok rfl ?_
          refine pk_le 4 w (fun e1 => ?_) (fun e1 => absurd e1 (by omega)) rfl h4
          have ew : w = 4 := by omega
          subst ew
          exact ⟨_, zsim_rfl _, h2 _ h3 d2 ri2 nm2 sk2⟩
        | succ m ih =>
          intro w x4 x3 d2 nm2 sk2 ri2 hw h4 h3
          refine V.g2 60 [12, 17, 40] mX6_which_ok rfl ?_
          refine pk_le 4 w (fun e1 => absurd e1 (by omega)) (fun e1 => ?_) rfl h4
          subst h4
          refine V.cw mX6_which_ok rfl lX6_270 (c6_couldBeWheel l) rfl 0 6 rfl rfl rfl rfl rfl rfl ⟨c, d2, k, r, tr, kr, rd, ft, tg, tc, lw, kl, ik, ri2, s0, s1, s2, s3, (nt, n, cd, en, nm2, sk2), P, s, n2, w, hL, hok, hs4, hn30, hsz, by omega, rfl, rfl, fun B hB d3 ri3 nm3 sk3 => ⟨rfl, ?_⟩⟩
          have hB : B = G w := by rw [hG]; exact hB
          cases B with
          | false =>
            refine V.nm [(4, .int (nI w)), (3, .int x3), (0, .ref 0), (1, .int (nI s))] [.int (bI false)] (pX c d3 k r tr kr rd ft tg tc lw kl ik ri3 s0 s1 s2 s3 (nt, n, cd, en, nm3, sk3)) rfl rfl rfl ?_
            refine V.g2 60 [12, 17, 40] mX6_which_ok rfl ?_
            refine And.intro (fun _ => ?_) (fun e => absurd rfl e)
            refine V.g2 60 [12, 17, 40] mX6_which_ok rfl ?_
            refine V.kn [4, 3, 0, 1] [(4, .int ((nI w) + zi 1)), (3, .int x3), (0, .ref 0), (1, .int (nI s))] [] (pX c d3 k r tr kr rd ft tg tc lw kl ik ri3 s0 s1 s2 s3 (nt, n, cd, en, nm3, sk3)) rfl rfl rfl ?_
            exact ih (w + 1) _ _ _ _ _ _ (by omega) (ninc rfl) (by rw [btF_f hB.symm]; exact h3)
          | true =>
            refine V.nm [(4, .int (nI w)), (3, .int x3), (0, .ref 0), (1, .int (nI s))] [.int (bI true)] (pX c d3 k r tr kr rd ft tg tc lw kl ik ri3 s0 s1 s2 s3 (nt, n, cd, en, nm3, sk3)) rfl rfl rfl ?_
            refine V.g2 60 [12, 17, 40] mX6_which_ok rfl ?_
            refine And.intro (fun e => absurd e (by decide)) (fun _ => ?_)
            refine V.g2 60 [12, 17, 40] mX6_which_ok rfl ?_
            refine V.kn [4, 3, 0, 1] [(4, .int ((nI w) + zi 1)), (3, .int (x3 ||| ((nI 1) <<< ((nI w) &&& 31)))), (0, .ref 0), (1, .int (nI s))] [] (pX c d3 k r tr kr rd ft tg tc lw kl ik ri3 s0 s1 s2 s3 (nt, n, cd, en, nm3, sk3)) rfl rfl rfl ?_
            exact ih (w + 1) _ _ _ _ _ _ (by omega) (ninc rfl) (by rw [btF_t hB.symm, ← h3])
      refine V.g2 60 [12, 17, 40] mX6_which_ok rfl ?_
      refine V.kn [4, 3, 0, 1] [(4, .int (nI 0)), (3, .int (nI 0)), (0, .ref 0), (1, .int (nI s))] [] (pX c d k r tr kr rd ft tg tc lw kl ik ri s0 s1 s2 s3 (nt, n, cd, en, nm, sk)) rfl rfl rfl ?_
      exact loop 4 0 _ _ d _ _ _ rfl rfl rfl
    · exact ⟨_, zsim_rfl _, (by have h1 := h1 (by rw [← hrr0]; exact e); rw [← hrr0] at h1; exact h1)⟩
