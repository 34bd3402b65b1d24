/-! ===== Ride: pullNow, bump, drawHands ===== -/
def plF (c : zCart) (ha dr : fI) (te : Nat) : Nat → Int32
  | 0 => nI 3 * (ha 1 - ha 0)
  | w + 1 => plF c ha dr te w + (if w % 2 = 0 then drF c w (dr w) te else - drF c w (dr w) te) + wiF c w te
theorem plF_cong {c : zCart} {ha dr dr' : fI} {te : Nat} : ∀ {n : Nat}, (∀ w, w < n → dr w = dr' w) → plF c ha dr te n = plF c ha dr' te n
  | 0, _ => rfl
  | n + 1, h => by
    simp only [plF]
    rw [plF_cong (fun w hw => h w (by omega)), h n (by omega)]
def T_pullNow : zT := fun args hs Q => ∃ (bl : Int32) (lt : Int64) (te : Nat) (ha dr : fI) (hd pu az co ho bu bb fa : Int32) (c : zCart) (nt : Int32) (n : Nat) (cd en nm sk : fI), te < 30 ∧ kOk c ∧ args = [.ref 0] ∧ hs = pRW bl lt (nI te) ha dr hd pu az co ho bu bb fa c nt n cd en nm sk ∧ Q (some (.int (plF c ha dr te 4))) hs
set_option maxHeartbeats 4000000 in
theorem ct_pullNow (l : Launch) : Ct l mX2_pullNow false 3 0 0 T_pullNow := by
  refine Ct.intro mX2_pullNow_ok ?_
  rintro args hs Q ⟨bl, lt, te, ha, dr, hd, pu, az, co, ho, bu, bb, fa, c, nt, n, cd, en, nm, sk, hte, hok, rfl, rfl, h⟩
  refine ⟨Nat.le_of_ble_eq_true rfl, ?_⟩
  generalize hS : pRW bl lt (nI te) ha dr hd pu az co ho bu bb fa c nt n cd en nm sk = S at h
  have loop : ∀ (k w : Nat) (x y : Int32), w + k = 4 → x = nI w → y = plF c ha dr te w → V l mX2_pullNow false S (zrm 3 0 0) (zFm false S Q 0 0) 0 0 18 [(2, .int x), (1, .int y), (0, .ref 0)] [] (pRW bl lt (nI te) ha dr hd pu az co ho bu bb fa c nt n cd en nm sk) := by
    intro k
    induction k with
    | zero =>
      intro w x y hw hx hy
      have : w = 4 := by omega
      subst this
      refine V.g 60 [18] mX2_pullNow_ok rfl ?_
      refine pk_le 4 4 (fun _ => ⟨_, zsim_rfl _, ?_⟩) (fun e => absurd e (by omega)) rfl hx
      rw [hy]
      rw [← hS] at h
      exact h
    | succ k ih =>
      intro w x y hw hx hy
      have ex := pk_cl w hx
      have er : x - x / nI 2 * nI 2 = nI (w % 2) := by rw [hx]; exact pk_rem (by omega) (by omega) (by omega)
      have t57 : ∀ z d : Int32, z = plF c ha dr te w + (if w % 2 = 0 then drF c w (dr w) te else - drF c w (dr w) te) → V l mX2_pullNow false S (zrm 3 0 0) (zFm false S Q 0 0) 0 0 57 [(2, .int x), (1, .int z), (0, .ref 0)] [] (pRW bl lt (nI te) ha dr hd pu az co ho bu bb fa c nt n cd en nm sk) := by
        intro z d hz
        refine V.g 60 [18] mX2_pullNow_ok rfl ?_
        refine V.cV1 mX2_pullNow_ok rfl lX2_135 (ct_wish l) rfl [3, 4, 5, 6, 7, 8, 9] (pCart 0 c) [.ref 0, .int x, .int (nI te)] [.int z] rfl 0 0 rfl rfl rfl rfl rfl rfl rfl rfl (some (.int (wiF c w te))) (pCart 0 c) ⟨c, w, te, by omega, hte, hok, by rw [hx], rfl, rfl, rfl⟩ rfl (pRW bl lt (nI te) ha dr hd pu az co ho bu bb fa c nt n cd en nm sk) (some (.int (wiF c w te))) [(2, .int x), (1, .int z), (0, .ref 0)] rfl rfl rfl ?_
        refine V.g 60 [18] mX2_pullNow_ok rfl ?_
        refine V.key [2, 1, 0] ?_
        refine ih (w + 1) _ _ (by omega) (by rw [hx]; exact nI_1 w) ?_
        rw [plF, ← hz]
      refine V.g 60 [18] mX2_pullNow_ok rfl ?_
      refine pk_le 4 w (fun e => absurd e (by omega)) (fun _ => ?_) rfl hx
      refine And.intro (pk_in w 4 (by omega) hx) ?_
      refine V.cV1 mX2_pullNow_ok rfl lX2_132 (ct_drag l) rfl [3, 4, 5, 6, 7, 8, 9] (pCart 0 c) [.ref 0, .int x, .int (dr (cl x)), .int (nI te)] [] rfl 0 0 rfl rfl rfl rfl rfl rfl rfl rfl (some (.int (drF c w (dr w) te))) (pCart 0 c) ⟨c, w, dr (cl x), te, by omega, hte, hok, by rw [hx], rfl, by rw [show cl x = w from ex], rfl⟩ rfl (pRW bl lt (nI te) ha dr hd pu az co ho bu bb fa c nt n cd en nm sk) (some (.int (drF c w (dr w) te))) [(2, .int x), (1, .int y), (0, .ref 0)] rfl rfl rfl ?_
      refine V.g 60 [57] mX2_pullNow_ok rfl ?_
      refine And.intro (show ¬ nI 2 = 0 by decide) ?_
      refine zp_ne (w % 2) 0 (fun e => ?_) (fun e => ?_) er
      · refine V.key [2, 1, 0] ?_
        refine t57 _ 0 ?_
        rw [if_neg e, hy]
      · refine V.key [2, 1, 0] ?_
        refine t57 _ 0 ?_
        rw [if_pos e, hy]
  subst hS
  refine V.g 60 [18] mX2_pullNow_ok rfl ?_
  refine And.intro (pk_in 1 2 (by omega)) (And.intro (pk_in 0 2 (by omega)) ?_)
  exact loop 4 0 _ _ rfl rfl rfl
def mn99 (x : Int32) : Int32 := if x < nI 99 then x else nI 99
def bpS (c : zCart) (P : zP) (te : Nat) (az bey : Int32) : Int32 := sayF P.2.2 (nmF (mn99 bey) 0 (paC c) (nI te) 0 (if 0 < az then nI 1 else nI 0))
def T_bump : zT := fun args hs Q => ∃ (bl : Int32) (lt : Int64) (te : Nat) (ha dr : fI) (hd pu az co ho bu bb fa bey : Int32) (c : zCart) (nt : Int32) (n : Nat) (cd en nm sk : fI) (P : zP), te < 30 ∧ tTx nt n cd en P ∧ args = [.ref 0, .int bey] ∧ hs = pRW bl lt (nI te) ha dr hd pu az co ho bu bb fa c nt n cd en nm sk ∧ ∀ nm' sk', Q none (pRW bl lt (nI te) ha dr hd pu (if 0 < az then wiC c te else - wiC c te) (co + bpS c P te az bey) ho (bu + bpS c P te az bey) (bb ||| (nI 1 <<< (nI te &&& 31))) fa c nt n cd en nm' sk')
set_option maxHeartbeats 4000000 in
theorem ct_bump (l : Launch) : Ct l mX2_bump false 4 0 0 T_bump := by
  refine Ct.intro mX2_bump_ok ?_
  rintro args hs Q ⟨bl, lt, te, ha, dr, hd, pu, az, co, ho, bu, bb, fa, bey, c, nt, n, cd, en, nm, sk, P, hte, hT, rfl, rfl, h⟩
  refine ⟨Nat.le_of_ble_eq_true rfl, ?_⟩
  obtain ⟨hn, hp0, hp1, hp2, -, -⟩ := id hT
  have ete := pk_cl (x := nI te) te
  generalize hS : pRW bl lt (nI te) ha dr hd pu az co ho bu bb fa c nt n cd en nm sk = S
  have t13 : ∀ (rt : Int32) (B : Bool), rt = bI B → (B = true ↔ 0 < az) → V l mX2_bump false S (zrm 4 0 0) (zFm false S Q 0 0) 0 0 13 [(2, .int rt), (0, .ref 0), (1, .int bey)] [] (pRW bl lt (nI te) ha dr hd pu az co ho bu bb fa c nt n cd en nm sk) := by
    intro rt B hrt hB
    refine V.g 60 [] mX2_bump_ok rfl ?_
    refine V.mmin mX2_bump_ok rfl lX2_138 rfl rfl ?_
    refine V.cV1 mX2_bump_ok rfl lX2_119 (ct_name l) rfl [10, 11, 12, 13, 14] (pText 0 nt n cd en nm sk) [.ref 0, .int (nI 0), .int (mn99 bey)] [] rfl 0 5 rfl rfl rfl rfl rfl rfl rfl rfl none _ ⟨nt, n, cd, en, nm, sk, 0, (mn99 bey), by omega, rfl, rfl, rfl, rfl⟩ rfl (pRW bl lt (nI te) ha dr hd pu az co ho bu bb fa c nt n cd en (upd nm 0 (mn99 bey)) sk) none [(2, .int rt), (0, .ref 0), (1, .int bey)] rfl rfl rfl ?_
    refine V.g 60 [] mX2_bump_ok rfl ?_
    refine V.cV1 mX2_bump_ok rfl lX2_119 (ct_name l) rfl [10, 11, 12, 13, 14] (pText 0 nt n cd en (upd nm 0 (mn99 bey)) sk) [.ref 0, .int (nI 1), .int (nI 0)] [] rfl 0 5 rfl rfl rfl rfl rfl rfl rfl rfl none _ ⟨nt, n, cd, en, (upd nm 0 (mn99 bey)), sk, 1, (nI 0), by omega, rfl, rfl, rfl, rfl⟩ rfl (pRW bl lt (nI te) ha dr hd pu az co ho bu bb fa c nt n cd en (upd (upd nm 0 (mn99 bey)) 1 (nI 0)) sk) none [(2, .int rt), (0, .ref 0), (1, .int bey)] rfl rfl rfl ?_
    refine V.g 60 [] mX2_bump_ok rfl ?_
    refine V.cV1 mX2_bump_ok rfl lX2_119 (ct_name l) rfl [10, 11, 12, 13, 14] (pText 0 nt n cd en (upd (upd nm 0 (mn99 bey)) 1 (nI 0)) sk) [.ref 0, .int (nI 2), .int (paC c)] [] rfl 0 5 rfl rfl rfl rfl rfl rfl rfl rfl none _ ⟨nt, n, cd, en, (upd (upd nm 0 (mn99 bey)) 1 (nI 0)), sk, 2, (paC c), by omega, rfl, rfl, rfl, rfl⟩ rfl (pRW bl lt (nI te) ha dr hd pu az co ho bu bb fa c nt n cd en (upd (upd (upd nm 0 (mn99 bey)) 1 (nI 0)) 2 (paC c)) sk) none [(2, .int rt), (0, .ref 0), (1, .int bey)] rfl rfl rfl ?_
    refine V.g 60 [] mX2_bump_ok rfl ?_
    refine V.cV1 mX2_bump_ok rfl lX2_119 (ct_name l) rfl [10, 11, 12, 13, 14] (pText 0 nt n cd en (upd (upd (upd nm 0 (mn99 bey)) 1 (nI 0)) 2 (paC c)) sk) [.ref 0, .int (nI 3), .int (nI te)] [] rfl 0 5 rfl rfl rfl rfl rfl rfl rfl rfl none _ ⟨nt, n, cd, en, (upd (upd (upd nm 0 (mn99 bey)) 1 (nI 0)) 2 (paC c)), sk, 3, (nI te), by omega, rfl, rfl, rfl, rfl⟩ rfl (pRW bl lt (nI te) ha dr hd pu az co ho bu bb fa c nt n cd en (upd (upd (upd (upd nm 0 (mn99 bey)) 1 (nI 0)) 2 (paC c)) 3 (nI te)) sk) none [(2, .int rt), (0, .ref 0), (1, .int bey)] rfl rfl rfl ?_
    refine V.g 60 [] mX2_bump_ok rfl ?_
    refine V.cV1 mX2_bump_ok rfl lX2_119 (ct_name l) rfl [10, 11, 12, 13, 14] (pText 0 nt n cd en (upd (upd (upd (upd nm 0 (mn99 bey)) 1 (nI 0)) 2 (paC c)) 3 (nI te)) sk) [.ref 0, .int (nI 4), .int (nI 0)] [] rfl 0 5 rfl rfl rfl rfl rfl rfl rfl rfl none _ ⟨nt, n, cd, en, (upd (upd (upd (upd nm 0 (mn99 bey)) 1 (nI 0)) 2 (paC c)) 3 (nI te)), sk, 4, (nI 0), by omega, rfl, rfl, rfl, rfl⟩ rfl (pRW bl lt (nI te) ha dr hd pu az co ho bu bb fa c nt n cd en (upd (upd (upd (upd (upd nm 0 (mn99 bey)) 1 (nI 0)) 2 (paC c)) 3 (nI te)) 4 (nI 0)) sk) none [(2, .int rt), (0, .ref 0), (1, .int bey)] rfl rfl rfl ?_
    refine V.g 60 [] mX2_bump_ok rfl ?_
    cases B with
    | true =>
      have hpos : 0 < az := hB.mp rfl
      refine And.intro (fun e => absurd (hrt.symm.trans e) (by decide)) (fun _ => ?_)
      refine V.cV1 mX2_bump_ok rfl lX2_119 (ct_name l) rfl [10, 11, 12, 13, 14] (pText 0 nt n cd en (upd (upd (upd (upd (upd nm 0 (mn99 bey)) 1 (nI 0)) 2 (paC c)) 3 (nI te)) 4 (nI 0)) sk) [.ref 0, .int (nI 5), .int (nI 1)] [] rfl 0 5 rfl rfl rfl rfl rfl rfl rfl rfl none _ ⟨nt, n, cd, en, (upd (upd (upd (upd (upd nm 0 (mn99 bey)) 1 (nI 0)) 2 (paC c)) 3 (nI te)) 4 (nI 0)), sk, 5, (nI 1), by omega, rfl, rfl, rfl, rfl⟩ rfl (pRW bl lt (nI te) ha dr hd pu az co ho bu bb fa c nt n cd en (upd (upd (upd (upd (upd (upd nm 0 (mn99 bey)) 1 (nI 0)) 2 (paC c)) 3 (nI te)) 4 (nI 0)) 5 (nI 1)) sk) none [(2, .int rt), (0, .ref 0), (1, .int bey)] rfl rfl rfl ?_
      refine V.g 60 [] mX2_bump_ok rfl ?_
      refine V.callV mX2_bump_ok rfl lX2_129 (ct_says l) rfl (fun k => k) (fun _ _ => rfl) [10, 11, 12, 13, 14] (pText 0 nt n cd en (upd (upd (upd (upd (upd (upd nm 0 (mn99 bey)) 1 (nI 0)) 2 (paC c)) 3 (nI te)) 4 (nI 0)) 5 (nI 1)) sk) [.ref 0, .int (nI 2)] [] (fun v wc' => ∃ sk2, v = some (.int (sayF P.2.2 (upd (upd (upd (upd (upd (upd nm 0 (mn99 bey)) 1 (nI 0)) 2 (paC c)) 3 (nI te)) 4 (nI 0)) 5 (nI 1)))) ∧ wc' = pText 0 nt n cd en (upd (upd (upd (upd (upd (upd nm 0 (mn99 bey)) 1 (nI 0)) 2 (paC c)) 3 (nI te)) 4 (nI 0)) 5 (nI 1)) sk2) rfl 0 5 rfl rfl rfl rfl rfl rfl rfl rfl ⟨nt, n, cd, en, _, sk, 2, P.2.2, hn, by omega, hp2, rfl, rfl, fun sk2 => ⟨sk2, rfl, rfl⟩⟩ (fun v wc' hq => ?_)
      obtain ⟨sk2, rfl, rfl⟩ := hq
      refine ⟨rfl, ?_⟩
      refine V.nm [(2, .int rt), (0, .ref 0), (1, .int bey)] [.int (sayF P.2.2 (upd (upd (upd (upd (upd (upd nm 0 (mn99 bey)) 1 (nI 0)) 2 (paC c)) 3 (nI te)) 4 (nI 0)) 5 (nI 1)))] (pRW bl lt (nI te) ha dr hd pu az co ho bu bb fa c nt n cd en (upd (upd (upd (upd (upd (upd nm 0 (mn99 bey)) 1 (nI 0)) 2 (paC c)) 3 (nI te)) 4 (nI 0)) 5 (nI 1)) sk2) rfl rfl rfl ?_
      have es : sayF P.2.2 (upd (upd (upd (upd (upd (upd nm 0 (mn99 bey)) 1 (nI 0)) 2 (paC c)) 3 (nI te)) 4 (nI 0)) 5 (nI 1)) = bpS c P te az bey := by
        rw [bpS, if_pos hpos]
        exact nm_all (nm := (upd (upd (upd (upd (upd (upd nm 0 (mn99 bey)) 1 (nI 0)) 2 (paC c)) 3 (nI te)) 4 (nI 0)) 5 (nI 1))) rfl rfl rfl rfl rfl rfl P.2.2
      refine V.g 60 [] mX2_bump_ok rfl ?_
      refine And.intro (fun e => absurd (hrt.symm.trans e) (by decide)) (fun _ => ?_)
      refine And.intro (pk_in te 30 hte) ⟨_, zsim_rfl _, ?_⟩
      have h1 := h (upd (upd (upd (upd (upd (upd nm 0 (mn99 bey)) 1 (nI 0)) 2 (paC c)) 3 (nI te)) 4 (nI 0)) 5 (nI 1)) sk2
      rw [if_pos hpos, ← es] at h1
      rw [ete]
      exact h1
    | false =>
      have hneg : ¬ 0 < az := fun q => by cases hB.mpr q
      refine And.intro (fun _ => ?_) (fun e => absurd hrt e)
      refine V.cV1 mX2_bump_ok rfl lX2_119 (ct_name l) rfl [10, 11, 12, 13, 14] (pText 0 nt n cd en (upd (upd (upd (upd (upd nm 0 (mn99 bey)) 1 (nI 0)) 2 (paC c)) 3 (nI te)) 4 (nI 0)) sk) [.ref 0, .int (nI 5), .int (nI 0)] [] rfl 0 5 rfl rfl rfl rfl rfl rfl rfl rfl none _ ⟨nt, n, cd, en, (upd (upd (upd (upd (upd nm 0 (mn99 bey)) 1 (nI 0)) 2 (paC c)) 3 (nI te)) 4 (nI 0)), sk, 5, (nI 0), by omega, rfl, rfl, rfl, rfl⟩ rfl (pRW bl lt (nI te) ha dr hd pu az co ho bu bb fa c nt n cd en (upd (upd (upd (upd (upd (upd nm 0 (mn99 bey)) 1 (nI 0)) 2 (paC c)) 3 (nI te)) 4 (nI 0)) 5 (nI 0)) sk) none [(2, .int rt), (0, .ref 0), (1, .int bey)] rfl rfl rfl ?_
      refine V.g 60 [] mX2_bump_ok rfl ?_
      refine V.callV mX2_bump_ok rfl lX2_129 (ct_says l) rfl (fun k => k) (fun _ _ => rfl) [10, 11, 12, 13, 14] (pText 0 nt n cd en (upd (upd (upd (upd (upd (upd nm 0 (mn99 bey)) 1 (nI 0)) 2 (paC c)) 3 (nI te)) 4 (nI 0)) 5 (nI 0)) sk) [.ref 0, .int (nI 2)] [] (fun v wc' => ∃ sk2, v = some (.int (sayF P.2.2 (upd (upd (upd (upd (upd (upd nm 0 (mn99 bey)) 1 (nI 0)) 2 (paC c)) 3 (nI te)) 4 (nI 0)) 5 (nI 0)))) ∧ wc' = pText 0 nt n cd en (upd (upd (upd (upd (upd (upd nm 0 (mn99 bey)) 1 (nI 0)) 2 (paC c)) 3 (nI te)) 4 (nI 0)) 5 (nI 0)) sk2) rfl 0 5 rfl rfl rfl rfl rfl rfl rfl rfl ⟨nt, n, cd, en, _, sk, 2, P.2.2, hn, by omega, hp2, rfl, rfl, fun sk2 => ⟨sk2, rfl, rfl⟩⟩ (fun v wc' hq => ?_)
      obtain ⟨sk2, rfl, rfl⟩ := hq
      refine ⟨rfl, ?_⟩
      refine V.nm [(2, .int rt), (0, .ref 0), (1, .int bey)] [.int (sayF P.2.2 (upd (upd (upd (upd (upd (upd nm 0 (mn99 bey)) 1 (nI 0)) 2 (paC c)) 3 (nI te)) 4 (nI 0)) 5 (nI 0)))] (pRW bl lt (nI te) ha dr hd pu az co ho bu bb fa c nt n cd en (upd (upd (upd (upd (upd (upd nm 0 (mn99 bey)) 1 (nI 0)) 2 (paC c)) 3 (nI te)) 4 (nI 0)) 5 (nI 0)) sk2) rfl rfl rfl ?_
      have es : sayF P.2.2 (upd (upd (upd (upd (upd (upd nm 0 (mn99 bey)) 1 (nI 0)) 2 (paC c)) 3 (nI te)) 4 (nI 0)) 5 (nI 0)) = bpS c P te az bey := by
        rw [bpS, if_neg hneg]
        exact nm_all (nm := (upd (upd (upd (upd (upd (upd nm 0 (mn99 bey)) 1 (nI 0)) 2 (paC c)) 3 (nI te)) 4 (nI 0)) 5 (nI 0))) rfl rfl rfl rfl rfl rfl P.2.2
      refine V.g 60 [] mX2_bump_ok rfl ?_
      refine And.intro (fun _ => ?_) (fun e => absurd hrt e)
      refine And.intro (pk_in te 30 hte) ⟨_, zsim_rfl _, ?_⟩
      have h1 := h (upd (upd (upd (upd (upd (upd nm 0 (mn99 bey)) 1 (nI 0)) 2 (paC c)) 3 (nI te)) 4 (nI 0)) 5 (nI 0)) sk2
      rw [if_neg hneg, ← es] at h1
      rw [ete]
      exact h1
  subst hS
  refine V.g 60 [13] mX2_bump_ok rfl ?_
  refine And.intro (fun c1 => ?_) (fun c1 => ?_)
  · refine V.key [2, 0, 1] ?_
    exact t13 _ false rfl ⟨fun q => (by cases q), fun q => absurd q (Int32.not_lt.mpr c1)⟩
  · refine V.key [2, 0, 1] ?_
    exact t13 _ true rfl ⟨fun _ => Int32.not_le.mp c1, fun _ => rfl⟩
def ltF (lt : Int64) : Int64 := lt * 48271 - lt * 48271 / 2147483647 * 2147483647
def dwF (c : zCart) (ha : fI) (lt : Int64) : fI := upd (upd ha 0 (bdF (haC c 0 + ((lt - lt / 3 * 3).toInt32 - nI 1)) (nI 0) (nI 9))) 1 (bdF (haC c 1 + ((lt / 3 - lt / 3 / 3 * 3).toInt32 - nI 1)) (nI 0) (nI 9))
def T_drawHands : zT := fun args hs Q => ∃ (bl : Int32) (lt : Int64) (te : Int32) (ha dr : fI) (hd pu az co ho bu bb fa : Int32) (c : zCart) (nt : Int32) (n : Nat) (cd en nm sk : fI), args = [.ref 0] ∧ hs = pRW bl lt te ha dr hd pu az co ho bu bb fa c nt n cd en nm sk ∧ Q none (pRW bl (ltF lt) te (dwF c ha (ltF lt)) dr hd pu az co ho bu bb fa c nt n cd en nm sk)
set_option maxHeartbeats 4000000 in
theorem ct_drawHands (l : Launch) : Ct l mX2_drawHands false 3 0 0 T_drawHands := by
  refine Ct.intro mX2_drawHands_ok ?_
  rintro args hs Q ⟨bl, lt, te, ha, dr, hd, pu, az, co, ho, bu, bb, fa, c, nt, n, cd, en, nm, sk, rfl, rfl, h⟩
  refine ⟨Nat.le_of_ble_eq_true rfl, ?_⟩
  refine V.g 80 [] mX2_drawHands_ok rfl ?_
  refine And.intro (by decide) (And.intro (by decide) (And.intro (by decide) (And.intro (by decide) (And.intro (pk_in 0 2 (by omega)) ?_))))
  refine V.nm [(2, .int ((ltF lt / 3 - ltF lt / 3 / 3 * 3).toInt32 - nI 1)), (1, .int ((ltF lt - ltF lt / 3 * 3).toInt32 - nI 1)), (0, .ref 0)] [.int (nI 9), .int (nI 0), .int (haC c 0 + ((ltF lt - ltF lt / 3 * 3).toInt32 - nI 1)), .int (nI 0), .ref 2] (pRW bl (ltF lt) te ha dr hd pu az co ho bu bb fa c nt n cd en nm sk) rfl rfl rfl ?_
  refine V.cSN0 mX2_drawHands_ok rfl lX2_115 (ct_bounded l) rfl [.int (haC c 0 + ((ltF lt - ltF lt / 3 * 3).toInt32 - nI 1)), .int (nI 0), .int (nI 9)] [.int (nI 0), .ref 2] rfl rfl rfl (some (.int (bdF (haC c 0 + ((ltF lt - ltF lt / 3 * 3).toInt32 - nI 1)) (nI 0) (nI 9)))) ⟨_, _, _, rfl, rfl, rfl⟩ ?_
  refine V.g 80 [] mX2_drawHands_ok rfl ?_
  refine And.intro (pk_in 0 2 (by omega)) (And.intro (pk_in 1 2 (by omega)) ?_)
  refine V.cSN0 mX2_drawHands_ok rfl lX2_115 (ct_bounded l) rfl [.int (haC c 1 + ((ltF lt / 3 - ltF lt / 3 / 3 * 3).toInt32 - nI 1)), .int (nI 0), .int (nI 9)] [.int (nI 1), .ref 2] rfl rfl rfl (some (.int (bdF (haC c 1 + ((ltF lt / 3 - ltF lt / 3 / 3 * 3).toInt32 - nI 1)) (nI 0) (nI 9)))) ⟨_, _, _, rfl, rfl, rfl⟩ ?_
  refine V.g 80 [] mX2_drawHands_ok rfl ?_
  refine And.intro (pk_in 1 2 (by omega)) ⟨_, zsim_rfl _, ?_⟩
  exact h
