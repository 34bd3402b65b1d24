theorem updZ {lo : fI} {k : Nat} (h : lo k = 0) : upd lo k 0 = lo := by
  have := updS lo k
  rw [h] at this
  exact this
section
variable {l : Launch} {M M' : zM} {b : Bool} {hs0 hs : List zE} {R : Room} {F : zF} {nc ns pc n idx nx tg d' mc' ms' : Nat} {T : zT} {lv : zL} {st : List Value}
theorem V.cS1P (hM : zmok M) (hat : zins M pc = some (.invokestatic idx, nx, tg)) (hlk : zlS (zy M).cls idx M' n) (hC : Ct l M' false d' mc' ms' T) (hR : (Nat.ble (d' + 1) R.frames && Nat.ble (8 + (zmax M' + 11) + 48 * d') R.locals && (Nat.ble (nc + mc') R.cells && Nat.ble (ns + ms') R.slots)) = true) (N : Nat) (hN : hs.length = N) (cs : List Nat) (plan : List (Option Nat)) (hp : plan = (List.range N).map (zpos cs)) (wc : List zE) (argsC rest : List Value) (hn : argsC.length = n) (hst : st = ((argsC.map (zrv (ze N cs (fun k => k)))).reverse) ++ rest) (hW : Nat.ble ((rest.map fun v => v.category).sum) 8 = true) (hnd : va_nd cs = true) (hcs : cs.map (fun i => hs[i]?) = wc.map (fun x => some (zrc (ze N cs (fun k => k)) x))) (r : Option Value) (wc1 : List zE) (hT : T argsC wc (fun v w => v = r ∧ w = wc1)) (hlen : wc1.length = wc.length) (hs1 : List zE) (st1 : List Value) (hw : zpl plan hs (wc1.map (zrc (ze N cs (fun k => k)))) = hs1) (hs2 : (r.map (zrv (ze N cs (fun k => k)))).toList ++ rest = st1) (hV : V l M b hs0 R F (nc + mc') (ns + ms') nx lv st1 hs1) : V l M b hs0 R F nc ns pc lv st hs := by
  subst hN
  refine V.callS hM hat hlk hC hR (fun k => k) (fun _ _ => rfl) cs wc argsC rest _ hn hst hW hnd hcs hT (fun v wc' h => ?_)
  obtain ⟨rfl, rfl⟩ := h
  refine ⟨hlen, ?_⟩
  have hpl : plan.length = hs.length := by rw [hp, List.length_map, List.length_range]
  rw [zput_plan hnd (by rw [List.length_map, hlen]; simpa using (congrArg List.length hcs).symm) (by rw [hpl]; exact hp) hpl, hw, hs2]
  exact hV
end
def T6_freePlaceFor : zT := fun args hs Q => ∃ (c d k : zCart) (r tr kr : zRow) (rd : zRd) (ft : Nat) (tg : Nat → Option Nat) (tc lw kl ik : Int32) (ri : zRi) (s0 s1 s2 s3 : zSh) (tx : zTx) (x : Int32) (u : Nat) (lo : fI) (P : zP), lOk tg lw tx P ∧ kOk c ∧ wOk c ∧ u < 256 ∧ d = cwO c lo ∧ (∃ k, k < 8 ∧ u / 2 ^ k % 2 = 0) ∧ (∀ k, k < 8 → u / 2 ^ k % 2 = 0 → lo k = 0) ∧ args = [.ref 0, .int x, .int (nI u)] ∧ hs = pX c d k r tr kr rd ft tg tc lw kl ik ri s0 s1 s2 s3 tx ∧ ∀ b v, (lyF (fun j => faF (cwO c (upd lo j x)) P) u 8) = some (b, v) → ∀ ri' nm' sk', Q (some (.int (nI b))) (pX c (cwO c lo) k r tr kr rd ft tg tc lw kl ik ri' s0 s1 s2 s3 (txS tx nm' sk'))
set_option maxHeartbeats 4000000 in
theorem c6_freePlaceFor (l : Launch) : Ct l mX6_freePlaceFor false 8 0 0 T6_freePlaceFor := by
  refine Ct.intro mX6_freePlaceFor_ok ?_
  rintro args hs Q ⟨c, d, k, r, tr, kr, rd, ft, tg, tc, lw, kl, ik, ri, s0, s1, s2, s3, tx, x, u, lo, P, hL, hok, hwk, hu, hd, hfr, hz, rfl, rfl, h⟩
  obtain ⟨nt, n, cd, en, nm, sk⟩ := tx
  refine ⟨Nat.le_of_ble_eq_true rfl, ?_⟩
  subst hd
  obtain ⟨S, hS⟩ : ∃ S, pX c (cwO c lo) k r tr kr rd ft tg tc lw kl ik ri s0 s1 s2 s3 (nt, n, cd, en, nm, sk) = S := ⟨_, rfl⟩
  refine V.s0 hS ?_
  obtain ⟨G, hG⟩ : ∃ G, G = (fun j => faF (cwO c (upd lo j x)) P) := ⟨_, rfl⟩
  rw [← hG] at h
  have loop : ∀ (m k2 : Nat) (x5 x4 x3 : Int32) (nm2 sk2 : fI) (ri2 : zRi), k2 + m = 8 → x5 = nI k2 → (lyF G u k2 = none → x3 = 1000000) → (∀ b v, lyF G u k2 = some (b, v) → x4 = nI b ∧ x3 = v) → (lyF G u 8 = none → False) → V l mX6_freePlaceFor false S (zrm 8 0 0) (zFm false S Q 0 0) 0 0 9 [(5, .int x5), (4, .int x4), (3, .int x3), (0, .ref 0), (1, .int x), (2, .int (nI u))] [] (pX c (cwO c lo) k r tr kr rd ft tg tc lw kl ik ri2 s0 s1 s2 s3 (nt, n, cd, en, nm2, sk2)) := by
    intro m
    induction m with
    | zero =>
      intro k2 x5 x4 x3 nm2 sk2 ri2 hk h5 hN hS2 hne
      refine V.g2 60 [9, 29, 74] mX6_freePlaceFor_ok rfl ?_
      refine pk_le 8 k2 (fun e1 => ?_) (fun e1 => absurd e1 (by omega)) rfl h5
      have ek : k2 = 8 := by omega
      subst ek
      exact ⟨_, zsim_rfl _, (by cases hq : lyF G u 8 with | none => exact (hne hq).elim | some q => (obtain ⟨b, v⟩ := q; rw [(hS2 b v hq).1]; exact h b v hq ri2 nm2 sk2))⟩
    | succ m ih =>
      intro k2 x5 x4 x3 nm2 sk2 ri2 hk h5 hN hS2 hne
      refine V.g2 60 [9, 29, 74] mX6_freePlaceFor_ok rfl ?_
      refine pk_le 8 k2 (fun e1 => absurd e1 (by omega)) (fun e1 => ?_) rfl h5
      subst h5
      have hbt := bt_s u hu k2 (by omega)
      refine And.intro (fun (e2 : ¬ (((nI u) >>> ((nI k2) &&& 31)) &&& (nI 1)) = (nI 1)) => ?_) (fun (e2 : (((nI u) >>> ((nI k2) &&& 31)) &&& (nI 1)) = (nI 1)) => ?_)
      · have hb1 : u / 2 ^ k2 % 2 = 0 := by
          rcases Nat.mod_two_eq_zero_or_one (u / 2 ^ k2) with z | z
          · exact z
          · exact absurd (by rw [hbt, z]) e2
        have hlz := hz k2 (by omega) hb1
        refine V.g2 60 [9, 29, 74] mX6_freePlaceFor_ok rfl ?_
        refine ⟨k2, by omega, rfl, rfl, ?_⟩
        refine V.nm [(5, .int (nI k2)), (4, .int x4), (3, .int x3), (0, .ref 0), (1, .int x), (2, .int (nI u))] [.ref 16, .ref 0] (pX c (cwO c (upd lo k2 x)) k r tr kr rd ft tg tc lw kl ik ri2 s0 s1 s2 s3 (nt, n, cd, en, nm2, sk2)) rfl rfl rfl ?_
        refine V.callVW mX6_freePlaceFor_ok rfl lX6_225 (ct_farthestOf_t l) rfl [.ref 0, .ref 16] [] (fun v hs' => ∃ (vv : Int32) (ri1 : zRi) (nm1 sk1 : fI), vv = faF (cwO c (upd lo k2 x)) P ∧ v = some (.int vv) ∧ hs' = pX c (cwO c (upd lo k2 x)) k r tr kr rd ft tg tc lw kl ik ri1 s0 s1 s2 s3 (nt, n, cd, en, nm1, sk1)) rfl 0 6 rfl rfl rfl rfl rfl rfl ⟨c, (cwO c (upd lo k2 x)), k, r, tr, kr, rd, ft, tg, tc, lw, kl, ik, ri2, s0, s1, s2, s3, (nt, n, cd, en, nm2, sk2), P, hL, hok, rfl, rfl, fun ri1 nm1 sk1 => ⟨_, ri1, nm1, sk1, rfl, rfl, rfl⟩⟩ (fun v hs' hv => ?_)
        obtain ⟨vv1, ri1, nm1, sk1, hvv1, rfl, rfl⟩ := hv
        refine ⟨rfl, ?_⟩
        refine V.nm [(5, .int (nI k2)), (4, .int x4), (3, .int x3), (0, .ref 0), (1, .int x), (2, .int (nI u))] [.int vv1] (pX c (cwO c (upd lo k2 x)) k r tr kr rd ft tg tc lw kl ik ri1 s0 s1 s2 s3 (nt, n, cd, en, nm1, sk1)) rfl rfl rfl ?_
        have hlt : vv1 < 1000000 := by rw [hvv1]; exact faF_lt hwk
        have hv : vv1 = G k2 := by rw [hG]; exact hvv1
        refine V.g2 60 [9, 29, 74] mX6_freePlaceFor_ok rfl ?_
        refine ⟨k2, by omega, rfl, rfl, ?_⟩
        refine And.intro (fun (e4 : x3 ≤ vv1) => ?_) (fun (e4 : ¬ x3 ≤ vv1) => ?_)
        · refine V.nm [(6, .int vv1), (5, .int (nI k2)), (4, .int x4), (3, .int x3), (0, .ref 0), (1, .int x), (2, .int (nI u))] [] (pX c (cwO c (upd (upd lo k2 x) k2 (nI 0))) k r tr kr rd ft tg tc lw kl ik ri1 s0 s1 s2 s3 (nt, n, cd, en, nm1, sk1)) rfl rfl rfl ?_
          rw [upd2, show upd lo k2 (nI 0) = lo from updZ hlz]
          refine V.nm [(6, .int vv1), (5, .int (nI k2)), (4, .int x4), (3, .int x3), (0, .ref 0), (1, .int x), (2, .int (nI u))] [] (pX c (cwO c lo) k r tr kr rd ft tg tc lw kl ik ri1 s0 s1 s2 s3 (nt, n, cd, en, nm1, sk1)) rfl rfl rfl ?_
          refine V.g2 60 [9, 29, 74] mX6_freePlaceFor_ok rfl ?_
          refine V.kn [5, 4, 3, 0, 1, 2] [(5, .int ((nI k2) + zi 1)), (4, .int x4), (3, .int x3), (0, .ref 0), (1, .int x), (2, .int (nI u))] [] (pX c (cwO c lo) k r tr kr rd ft tg tc lw kl ik ri1 s0 s1 s2 s3 (nt, n, cd, en, nm1, sk1)) rfl rfl rfl ?_
          cases hq : lyF G u k2 with
          | none => exact absurd (by rw [hN hq] at e4; exact e4) (Int32.not_le.mpr hlt)
          | some q =>
            obtain ⟨q, v⟩ := q
            obtain ⟨e5, e6⟩ := hS2 q v hq
            have hx := lyF_l hb1 hq (by rw [← hv, ← e6]; exact Int32.not_lt.mpr e4)
            exact ih (k2 + 1) _ _ _ _ _ _ (by omega) (ninc rfl) (by rw [hx]; exact fun z => by cases z) (by rw [hx]; exact fun q2 v2 z => by cases z; exact ⟨e5, e6⟩) hne
        · refine V.nm [(4, .int (nI k2)), (3, .int vv1), (6, .int vv1), (5, .int (nI k2)), (0, .ref 0), (1, .int x), (2, .int (nI u))] [] (pX c (cwO c (upd (upd lo k2 x) k2 (nI 0))) k r tr kr rd ft tg tc lw kl ik ri1 s0 s1 s2 s3 (nt, n, cd, en, nm1, sk1)) rfl rfl rfl ?_
          rw [upd2, show upd lo k2 (nI 0) = lo from updZ hlz]
          refine V.nm [(4, .int (nI k2)), (3, .int vv1), (6, .int vv1), (5, .int (nI k2)), (0, .ref 0), (1, .int x), (2, .int (nI u))] [] (pX c (cwO c lo) k r tr kr rd ft tg tc lw kl ik ri1 s0 s1 s2 s3 (nt, n, cd, en, nm1, sk1)) rfl rfl rfl ?_
          refine V.g2 60 [9, 29, 74] mX6_freePlaceFor_ok rfl ?_
          refine V.kn [5, 4, 3, 0, 1, 2] [(5, .int ((nI k2) + zi 1)), (4, .int (nI k2)), (3, .int vv1), (0, .ref 0), (1, .int x), (2, .int (nI u))] [] (pX c (cwO c lo) k r tr kr rd ft tg tc lw kl ik ri1 s0 s1 s2 s3 (nt, n, cd, en, nm1, sk1)) rfl rfl rfl ?_
          have hx : lyF G u (k2 + 1) = some (k2, vv1) := by
            cases hq : lyF G u k2 with
            | none => rw [lyF_n hb1 hq, hv]
            | some q =>
              obtain ⟨q, v⟩ := q
              rw [lyF_g hb1 hq (by rw [← hv, ← (hS2 q v hq).2]; exact Int32.not_le.mp e4), hv]
          exact ih (k2 + 1) _ _ _ _ _ _ (by omega) (ninc rfl) (by rw [hx]; exact fun z => by cases z) (by rw [hx]; exact fun q2 v2 z => by cases z; exact ⟨rfl, rfl⟩) hne
      · have hb1 : ¬ u / 2 ^ k2 % 2 = 0 := fun z => by rw [hbt, z] at e2; exact absurd e2 (by decide)
        refine V.g2 60 [9, 29, 74] mX6_freePlaceFor_ok rfl ?_
        refine V.kn [5, 4, 3, 0, 1, 2] [(5, .int ((nI k2) + zi 1)), (4, .int x4), (3, .int x3), (0, .ref 0), (1, .int x), (2, .int (nI u))] [] (pX c (cwO c lo) k r tr kr rd ft tg tc lw kl ik ri2 s0 s1 s2 s3 (nt, n, cd, en, nm2, sk2)) rfl rfl rfl ?_
        exact ih (k2 + 1) _ _ _ _ _ _ (by omega) (ninc rfl) (by rw [lyF_x hb1]; exact hN) (by rw [lyF_x hb1]; exact hS2) hne
  refine V.g2 60 [9, 29, 74] mX6_freePlaceFor_ok rfl ?_
  refine V.kn [5, 4, 3, 0, 1, 2] [(5, .int (nI 0)), (4, .int (nI 0)), (3, .int (1000000 : Int32)), (0, .ref 0), (1, .int x), (2, .int (nI u))] [] (pX c (cwO c lo) k r tr kr rd ft tg tc lw kl ik ri s0 s1 s2 s3 (nt, n, cd, en, nm, sk)) rfl rfl rfl ?_
  exact loop 8 0 _ _ _ _ _ _ rfl rfl (fun _ => rfl) (fun _ _ z => by cases z) (fun z => by obtain ⟨b, v, e⟩ := lyF_ex (g := G) (u := u) (n := 8) hfr; rw [e] at z; cases z)
def T6_lay : zT := fun args hs Q => ∃ (c d k : zCart) (r tr kr : zRow) (rd : zRd) (ft : Nat) (tg : Nat → Option Nat) (tc lw kl ik : Int32) (ri : zRi) (s0 s1 s2 s3 : zSh) (tx : zTx) (x : Int32) (P : zP), lOk tg lw tx P ∧ kOk c ∧ wOk c ∧ loN0 (loC c) ∧ args = [.ref 0, .int x] ∧ hs = pX c d k r tr kr rd ft tg tc lw kl ik ri s0 s1 s2 s3 tx ∧ (wiB x 1 = false → Q (some (.long (-4611686018427387904))) hs) ∧ (∀ j, j < 2 → x = nI j → ∀ r0 : Int64, r0 = lyR c P j → ∀ d' ri' nm' sk', Q (some (.long r0)) (pX c d' k r tr kr rd ft tg tc lw kl ik ri' s0 s1 s2 s3 (txS tx nm' sk')))
set_option maxHeartbeats 4000000 in
theorem c6_lay (l : Launch) : Ct l mX6_lay false 9 0 0 T6_lay := by
  refine Ct.intro mX6_lay_ok ?_
  rintro args hs Q ⟨c, d, k, r, tr, kr, rd, ft, tg, tc, lw, kl, ik, ri, s0, s1, s2, s3, tx, x, P, hL, hok, hwk, hlo0, rfl, rfl, h0, h1⟩
  obtain ⟨nt, n, cd, en, nm, sk⟩ := tx
  refine ⟨Nat.le_of_ble_eq_true rfl, ?_⟩
  refine V.g2 60 [45] mX6_lay_ok rfl ?_
  refine V.cS0 mX6_lay_ok rfl lX6_114 (ct_within l) rfl [.int x, .int (nI 0), .int (nI 1)] [] rfl rfl rfl (some (.int (bI (wiB x 1)))) (T_within_use rfl) ?_
  cases hB : (wiB x 1) with
  | false =>
    refine V.nm [(0, .ref 0), (1, .int x)] [.int (bI false)] (pX c d k r tr kr rd ft tg tc lw kl ik ri s0 s1 s2 s3 (nt, n, cd, en, nm, sk)) rfl rfl rfl ?_
    refine V.g2 60 [45] mX6_lay_ok rfl ?_
    refine And.intro (fun e => absurd rfl e) (fun _ => ?_)
    exact ⟨_, zsim_rfl _, h0 hB⟩
  | true =>
    refine V.nm [(0, .ref 0), (1, .int x)] [.int (bI true)] (pX c d k r tr kr rd ft tg tc lw kl ik ri s0 s1 s2 s3 (nt, n, cd, en, nm, sk)) rfl rfl rfl ?_
    obtain ⟨j, hj, rfl⟩ := wiB_t hB (by omega)
    have h1 := h1 j (by omega) rfl
    clear h0 hB
    refine V.nm [(0, .ref 0), (1, .int (nI j))] [.int (bI true)] (pX c d k r tr kr rd ft tg tc lw kl ik ri s0 s1 s2 s3 (nt, n, cd, en, nm, sk)) rfl rfl rfl ?_
    obtain ⟨S, hS⟩ : ∃ S, pX c d k r tr kr rd ft tg tc lw kl ik ri s0 s1 s2 s3 (nt, n, cd, en, nm, sk) = S := ⟨_, rfl⟩
    refine V.s0 hS ?_
    refine V.g2 60 [45] mX6_lay_ok rfl ?_
    refine And.intro (fun _ => ?_) (fun e => absurd e (by decide))
    refine V.cV1P mX6_lay_ok rfl lX6_214 (ct_cbecome l) rfl 56 rfl [8, 9, 10, 11, 12, 13, 14, 1, 2, 3, 4, 5, 6, 7] [none, some 7, some 8, some 9, some 10, some 11, some 12, some 13, some 0, some 1, some 2, some 3, some 4, some 5, some 6, none, none, none, none, none, none, none, none, none, none, none, none, none, none, none, none, none, none, none, none, none, none, none, none, none, none, none, none, none, none, none, none, none, none, none, none, none, none, none, none, none] (by decide +kernel) (pCart 0 d ++ pCart 7 c) [.ref 0, .ref 14] [] rfl 0 0 rfl rfl rfl rfl rfl rfl rfl rfl none (pCart 0 c ++ pCart 7 c) ⟨d, c, rfl, rfl, rfl, rfl⟩ rfl (pX c c k r tr kr rd ft tg tc lw kl ik ri s0 s1 s2 s3 (nt, n, cd, en, nm, sk)) [] rfl rfl ?_
    refine V.g2 60 [45] mX6_lay_ok rfl ?_
    refine V.cS1P mX6_lay_ok rfl lX6_237 (ct_fill l) rfl 56 rfl [12] [none, none, none, none, none, none, none, none, none, none, none, none, some 0, none, none, none, none, none, none, none, none, none, none, none, none, none, none, none, none, none, none, none, none, none, none, none, none, none, none, none, none, none, none, none, none, none, none, none, none, none, none, none, none, none, none, none] (by decide +kernel) [.inl (0, 8, .inl (loC c))] [.ref 0, .int (nI 0)] [] rfl rfl rfl rfl rfl none [.inl (0, 8, .inl (fun _ => nI 0))] ⟨8, loC c, nI 0, by omega, rfl, rfl, rfl, rfl⟩ rfl (pX c ((kdC c), (moC c), (kiC c), (fun _ => nI 0), (haC c), (wiC c), (paC c)) k r tr kr rd ft tg tc lw kl ik ri s0 s1 s2 s3 (nt, n, cd, en, nm, sk)) [] rfl rfl ?_
    refine V.nm [(0, .ref 0), (1, .int (nI j))] [] (pX c (cwO c (fun _ => nI 0)) k r tr kr rd ft tg tc lw kl ik ri s0 s1 s2 s3 (nt, n, cd, en, nm, sk)) rfl rfl rfl ?_
    refine V.g2 60 [45] mX6_lay_ok rfl ?_
    have loop : ∀ (m i : Nat) (x6 : Int32) (R : Int64) (T U : Nat) (lo nm2 sk2 : fI) (ri2 : zRi), i + m = 8 → x6 = nI i → (T, U, R, lo) = lyS c P i → T < 256 → U < 256 → pc8 T = i → pc8 U = i → (∀ k, k < 8 → U / 2 ^ k % 2 = 0 → lo k = 0) → V l mX6_lay false S (zrm 9 0 0) (zFm false S Q 0 0) 0 0 45 [(6, .int x6), (4, .long R), (3, .int (nI U)), (2, .int (nI T)), (0, .ref 0), (1, .int (nI j))] [] (pX c (cwO c lo) k r tr kr rd ft tg tc lw kl ik ri2 s0 s1 s2 s3 (nt, n, cd, en, nm2, sk2)) := by
      intro m
      induction m with
      | zero =>
        intro i x6 R T U lo nm2 sk2 ri2 hi h6 hs hT hU pT pU hz
        refine V.g2 60 [45] mX6_lay_ok rfl ?_
        refine pk_le 8 i (fun e1 => ?_) (fun e1 => absurd e1 (by omega)) rfl h6
        have ei : i = 8 := by omega
        subst ei
        refine zp_ne j 0 (fun e2 => ?_) (fun e2 => ?_) rfl rfl
        · refine V.nm [(6, .int x6), (4, .long R), (3, .int (nI U)), (2, .int (nI T)), (0, .ref 0), (1, .int (nI j))] [.ref 16, .ref 0] (pX c (cwO c lo) k r tr kr rd ft tg tc lw kl ik ri2 s0 s1 s2 s3 (nt, n, cd, en, nm2, sk2)) rfl rfl rfl ?_
          refine V.callVW mX6_lay_ok rfl lX6_225 (ct_farthestOf_t l) rfl [.ref 0, .ref 16] [] (fun v hs' => ∃ (vv : Int32) (ri2 : zRi) (nm2 sk2 : fI), vv = faF (cwO c lo) P ∧ v = some (.int vv) ∧ hs' = pX c (cwO c lo) k r tr kr rd ft tg tc lw kl ik ri2 s0 s1 s2 s3 (nt, n, cd, en, nm2, sk2)) rfl 0 6 rfl rfl rfl rfl rfl rfl ⟨c, (cwO c lo), k, r, tr, kr, rd, ft, tg, tc, lw, kl, ik, ri2, s0, s1, s2, s3, (nt, n, cd, en, nm2, sk2), P, hL, hok, rfl, rfl, fun ri2 nm2 sk2 => ⟨_, ri2, nm2, sk2, rfl, rfl, rfl⟩⟩ (fun v hs' hv => ?_)
          obtain ⟨vv2, ri2, nm2, sk2, hvv2, rfl, rfl⟩ := hv
          refine ⟨rfl, ?_⟩
          refine V.nm [(6, .int x6), (4, .long R), (3, .int (nI U)), (2, .int (nI T)), (0, .ref 0), (1, .int (nI j))] [.int vv2] (pX c (cwO c lo) k r tr kr rd ft tg tc lw kl ik ri2 s0 s1 s2 s3 (nt, n, cd, en, nm2, sk2)) rfl rfl rfl ?_
          refine V.g2 60 [45] mX6_lay_ok rfl ?_
          exact ⟨_, zsim_rfl _, h1 _ (by rw [lyR, if_neg e2, ← hs, hvv2]) (cwO c lo) ri2 nm2 sk2⟩
        · exact ⟨_, zsim_rfl _, h1 _ (by rw [lyR, if_pos e2, ← hs]) (cwO c lo) ri2 nm2 sk2⟩
      | succ m ih =>
        intro i x6 R T U lo nm2 sk2 ri2 hi h6 hs hT hU pT pU hz
        refine V.g2 60 [45] mX6_lay_ok rfl ?_
        refine pk_le 8 i (fun e1 => absurd e1 (by omega)) (fun e1 => ?_) rfl h6
        subst h6
        obtain ⟨k1, hk1, hf1⟩ := pc8_f T hT (by omega)
        obtain ⟨k2, hk2, hf2⟩ := pc8_f U hU (by omega)
        obtain ⟨h, hh⟩ := hvF_ex (lo := loC c) (u := T) (n := 8) ⟨k1, hk1, hf1⟩
        refine V.cw mX6_lay_ok rfl lX6_243 (c6_heaviestBut l) rfl 0 6 rfl rfl rfl rfl rfl rfl ⟨c, (cwO c lo), k, r, tr, kr, rd, ft, tg, tc, lw, kl, ik, ri2, s0, s1, s2, s3, (nt, n, cd, en, nm2, sk2), T, hT, hlo0, ⟨h, hh⟩, rfl, rfl, fun q hq => ⟨rfl, ?_⟩⟩
        obtain ⟨hq8, hqf⟩ := hvF_lt hq
        refine V.nm [(6, .int (nI i)), (4, .long R), (3, .int (nI U)), (2, .int (nI T)), (0, .ref 0), (1, .int (nI j))] [.int (nI q)] (pX c (cwO c lo) k r tr kr rd ft tg tc lw kl ik ri2 s0 s1 s2 s3 (nt, n, cd, en, nm2, sk2)) rfl rfl rfl ?_
        refine V.g2 60 [45] mX6_lay_ok rfl ?_
        refine ⟨q, by omega, rfl, rfl, ?_⟩
        refine V.nm [(7, .int (nI q)), (6, .int (nI i)), (4, .long R), (3, .int (nI U)), (2, .int (nI T)), (0, .ref 0), (1, .int (nI j))] [.int (nI U), .int ((loC c) q), .ref 0] (pX c (cwO c lo) k r tr kr rd ft tg tc lw kl ik ri2 s0 s1 s2 s3 (nt, n, cd, en, nm2, sk2)) rfl rfl rfl ?_
        refine V.cw mX6_lay_ok rfl lX6_246 (c6_freePlaceFor l) rfl 0 6 rfl rfl rfl rfl rfl rfl ⟨c, (cwO c lo), k, r, tr, kr, rd, ft, tg, tc, lw, kl, ik, ri2, s0, s1, s2, s3, (nt, n, cd, en, nm2, sk2), _, U, lo, P, hL, hok, hwk, hU, rfl, ⟨k2, hk2, hf2⟩, hz, rfl, rfl, fun p2 v2 hp2 ri3 nm3 sk3 => ⟨rfl, ?_⟩⟩
        obtain ⟨hp8, hpf⟩ := lyF_lt hp2
        have eT := bt_o T hT q hq8
        have eU := bt_o U hU p2 hp8
        obtain ⟨nT, nT2⟩ := pc8_o T hT q hq8 hqf
        obtain ⟨nU, nU2⟩ := pc8_o U hU p2 hp8 hpf
        refine V.nm [(7, .int (nI q)), (6, .int (nI i)), (4, .long R), (3, .int (nI U)), (2, .int (nI T)), (0, .ref 0), (1, .int (nI j))] [.int (nI p2)] (pX c (cwO c lo) k r tr kr rd ft tg tc lw kl ik ri3 s0 s1 s2 s3 (nt, n, cd, en, nm3, sk3)) rfl rfl rfl ?_
        refine V.g2 60 [45] mX6_lay_ok rfl ?_
        refine ⟨q, by omega, rfl, rfl, ?_⟩
        refine ⟨p2, by omega, rfl, rfl, ?_⟩
        refine V.kn [6, 4, 3, 2, 0, 1] [(6, .int ((nI i) + zi 1)), (4, .long ((((10 : Int64) * R) + (nI p2).toInt64) + (Int64.ofNat 1))), (3, .int ((nI U) ||| ((nI 1) <<< ((nI p2) &&& 31)))), (2, .int ((nI T) ||| ((nI 1) <<< ((nI q) &&& 31)))), (0, .ref 0), (1, .int (nI j))] [] (pX c ((kdC (cwO c lo)), (moC (cwO c lo)), (kiC (cwO c lo)), (upd (loC (cwO c lo)) p2 ((loC c) q)), (haC (cwO c lo)), (wiC (cwO c lo)), (paC (cwO c lo))) k r tr kr rd ft tg tc lw kl ik ri3 s0 s1 s2 s3 (nt, n, cd, en, nm3, sk3)) rfl rfl rfl ?_
        rw [eT, eU]
        refine V.nm [(6, .int ((nI i) + zi 1)), (4, .long ((((10 : Int64) * R) + (nI p2).toInt64) + (Int64.ofNat 1))), (3, .int (nI (U ||| 2 ^ p2))), (2, .int (nI (T ||| 2 ^ q))), (0, .ref 0), (1, .int (nI j))] [] (pX c (cwO c (upd lo p2 ((loC c) q))) k r tr kr rd ft tg tc lw kl ik ri3 s0 s1 s2 s3 (nt, n, cd, en, nm3, sk3)) rfl rfl rfl ?_
        exact ih (i + 1) _ _ _ _ _ _ _ _ (by omega) (ninc rfl) (lyS_s hs hq hp2) nT nU (by omega) (by omega) (fun k hk hb => by obtain ⟨b1, b2⟩ := bt_n hU hp8 hk hb; rw [pk_un b2]; exact hz k hk b1)
    refine V.kn [6, 4, 3, 2, 0, 1] [(6, .int (nI 0)), (4, .long (Int64.ofNat 0)), (3, .int (nI 0)), (2, .int (nI 0)), (0, .ref 0), (1, .int (nI j))] [] (pX c (cwO c (fun _ => nI 0)) k r tr kr rd ft tg tc lw kl ik ri s0 s1 s2 s3 (nt, n, cd, en, nm, sk)) rfl rfl rfl ?_
    exact loop 8 0 _ _ 0 0 (fun _ => nI 0) _ _ _ rfl rfl rfl (by omega) (by omega) rfl rfl (fun _ _ _ => rfl)
