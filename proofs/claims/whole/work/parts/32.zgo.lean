/-! ===== Ride: start, goAll, goByLot ===== -/
abbrev r0 : RT := (0, 0, 0, 0, 0, 0, 0)
def T_start : zT := fun args hs Q => ∃ (rc rl : Nat) (bl : Int32) (lt : Int64) (te : Int32) (ha dr : fI) (hd pu az co ho bu bb fa : Int32) (c : zCart) (nt : Int32) (n : Nat) (cd en nm sk : fI), args = [.ref 0, .ref 6, .ref 20] ∧ hs = pRide rc rl bl lt te ha dr hd pu az co ho bu bb fa ++ (pCart 3 c ++ pText 10 nt n cd en nm sk) ∧ Q none (pRX 0 lt (nI 0) (haC c) dr hd r0 c nt n cd en nm sk)
theorem zha2 {ha f : fI} : ∀ i, i < 2 → upd (upd ha (nI 0).toNatClampNeg (f (nI 0).toNatClampNeg)) (nI 1).toNatClampNeg (f (nI 1).toNatClampNeg) i = f i := by
  intro i hi
  rcases (show i = 0 ∨ i = 1 by omega) with rfl | rfl <;> rfl
theorem ct_start (l : Launch) : Ct l mX2_start false 1 0 0 T_start := by
  refine Ct.intro mX2_start_ok ?_
  rintro args hs Q ⟨rc, rl, bl, lt, te, ha, dr, hd, pu, az, co, ho, bu, bb, fa, c, nt, n, cd, en, nm, sk, rfl, rfl, h⟩
  refine ⟨Nat.le_of_ble_eq_true rfl, ?_⟩
  refine V.g 70 [] mX2_start_ok rfl ?_
  refine And.intro (Or.inl rfl) (And.intro (pk_in 0 2 (by omega)) (And.intro (pk_in 0 2 (by omega)) (And.intro (pk_in 1 2 (by omega)) (And.intro (pk_in 1 2 (by omega)) ⟨_, ?_, h⟩))))
  exact zsim_c (zsm_rfl _) (zsim_c (zsm_i zha2) (zsim_rfl _))
def rlF (c : zCart) (P : zP) (ha : fI) : Nat → RT
  | 0 => r0
  | k + 1 => stF c P ha k (rlF c P ha k)
def T_goAll : zT := fun args hs Q => ∃ (rc rl : Nat) (bl : Int32) (lt : Int64) (te : Int32) (ha dr : fI) (hd pu az co ho bu bb fa : Int32) (c : zCart) (nt : Int32) (n : Nat) (cd en nm sk : fI) (P : zP), kOk c ∧ tTx nt n cd en P ∧ args = [.ref 0, .ref 6, .ref 20] ∧ hs = pRide rc rl bl lt te ha dr hd pu az co ho bu bb fa ++ (pCart 3 c ++ pText 10 nt n cd en nm sk) ∧ ∀ dr' hd' nm' sk', Q none (pRX 0 lt (nI 30) (haC c) dr' hd' (rlF c P (haC c) 30) c nt n cd en nm' sk')
theorem ct_goAll (l : Launch) : Ct l mX2_goAll false 6 0 0 T_goAll := by
  refine Ct.intro mX2_goAll_ok ?_
  rintro args hs Q ⟨rc, rl, bl, lt, te, ha, dr, hd, pu, az, co, ho, bu, bb, fa, c, nt, n, cd, en, nm, sk, P, hok, hT, rfl, rfl, h⟩
  refine ⟨Nat.le_of_ble_eq_true rfl, ?_⟩
  generalize hS : pRide rc rl bl lt te ha dr hd pu az co ho bu bb fa ++ (pCart 3 c ++ pText 10 nt n cd en nm sk) = S
  have loop : ∀ (k t : Nat) (x : Int32) (dr' nm' sk' : fI) (hd' : Int32) (r : RT), t + k = 30 → x = nI t → (t = 0 ∨ dhO c P (haC c) dr' hd' (nI (t - 1))) → r = rlF c P (haC c) t → V l mX2_goAll false S (zrm 6 0 0) (zFm false S Q 0 0) 0 0 8 [(3, .int x), (0, .ref 0), (1, .ref 6), (2, .ref 20)] [] (pRX 0 lt (nI t) (haC c) dr' hd' r c nt n cd en nm' sk') := by
    intro k
    induction k with
    | zero =>
      intro t x dr' nm' sk' hd' r ht hx hd2 hr
      have : t = 30 := by omega
      subst this
      refine V.g 20 [8] mX2_goAll_ok rfl ?_
      refine pk_le 30 30 (fun _ => ⟨_, zsim_rfl _, ?_⟩) (fun e => absurd e (by omega)) rfl hx
      rw [hr]
      exact h dr' hd' nm' sk'
    | succ k ih =>
      intro t x dr' nm' sk' hd' r ht hx hd2 hr
      refine V.g 20 [8] mX2_goAll_ok rfl ?_
      refine pk_le 30 t (fun e => absurd e (by omega)) (fun _ => ?_) rfl hx
      refine V.callVW mX2_goAll_ok rfl lX2_64 (ct_step l) rfl [.ref 0] [] (fun v hs' => ∃ dr2 hd2 nm2 sk2, dhO c P (haC c) dr2 hd2 (nI t) ∧ v = none ∧ hs' = pRX 0 lt (nI (t + 1)) (haC c) dr2 hd2 (stF c P (haC c) t r) c nt n cd en nm2 sk2) rfl 0 2 rfl rfl rfl rfl rfl rfl ⟨0, lt, t, haC c, dr', hd', r, c, nt, n, cd, en, nm', sk', P, by omega, hok, hT, rfl, rfl, Or.inl ⟨rfl, hd2, fun dr2 hd2 nm2 sk2 hh => ⟨dr2, hd2, nm2, sk2, hh, rfl, rfl⟩⟩⟩ (fun v hs' hv => ?_)
      obtain ⟨dr2, hd2', nm2, sk2, hh, rfl, rfl⟩ := hv
      refine ⟨rfl, ?_⟩
      have hr2 : stF c P (haC c) t r = rlF c P (haC c) (t + 1) := by rw [rlF, hr]
      generalize stF c P (haC c) t r = r2 at hr2
      refine V.g 20 [8] mX2_goAll_ok rfl ?_
      refine V.key [3, 0, 1, 2] ?_
      exact ih (t + 1) _ dr2 nm2 sk2 hd2' r2 (by omega) (by rw [hx]; exact nI_1 t) (Or.inr hh) hr2
  subst hS
  refine V.g 20 [8] mX2_goAll_ok rfl ?_
  refine V.cVW mX2_goAll_ok rfl lX2_60 (ct_start l) rfl [.ref 0, .ref 6, .ref 20] [] rfl 0 2 rfl rfl rfl rfl rfl rfl none (pRX 0 lt (nI 0) (haC c) dr hd r0 c nt n cd en nm sk) ⟨rc, rl, bl, lt, te, ha, dr, hd, pu, az, co, ho, bu, bb, fa, c, nt, n, cd, en, nm, sk, rfl, rfl, rfl, rfl⟩ rfl ?_
  refine V.g 20 [8] mX2_goAll_ok rfl ?_
  refine V.key [3, 0, 1, 2] ?_
  exact loop 30 0 _ dr nm sk hd r0 rfl rfl (Or.inl rfl) rfl
/-! by lot -/
def dw2 (c : zCart) (lt : Int64) : fI := dwF c (fun _ => 0) lt
theorem dwF_01 (c : zCart) (ha : fI) (lt : Int64) : dwF c ha lt 0 = dw2 c lt 0 ∧ dwF c ha lt 1 = dw2 c lt 1 := ⟨rfl, rfl⟩
theorem drS_ha {c : zCart} {P : zP} {ha ha' : fI} {te : Int32} (h0 : ha 0 = ha' 0) (h1 : ha 1 = ha' 1) (w : Nat) : drS c P ha te w = drS c P ha' te w := by
  unfold drS
  rcases (show w % 2 = 0 ∨ w % 2 = 1 by omega) with e | e <;> rw [e]
  · rw [h0]
  · rw [h1]
theorem hoS_ha {c : zCart} {P : zP} {ha ha' : fI} {te : Int32} (h0 : ha 0 = ha' 0) (h1 : ha 1 = ha' 1) : hoS c P ha te = hoS c P ha' te := by
  unfold hoS
  rw [h0, h1]
theorem plF_ha {c : zCart} {ha ha' dr : fI} {te : Nat} (h0 : ha 0 = ha' 0) (h1 : ha 1 = ha' 1) : ∀ n, plF c ha dr te n = plF c ha' dr te n
  | 0 => by simp only [plF]; rw [h0, h1]
  | n + 1 => by simp only [plF]; rw [plF_ha h0 h1 n]
theorem stF_ha {c : zCart} {P : zP} {ha ha' : fI} {te : Nat} {r : RT} (h0 : ha 0 = ha' 0) (h1 : ha 1 = ha' 1) : stF c P ha te r = stF c P ha' te r := by
  have e1 : drS c P ha (nI te) = drS c P ha' (nI te) := funext (drS_ha h0 h1)
  unfold stF
  rw [e1, hoS_ha h0 h1, plF_ha h0 h1]
/-- lots: behind k tenths -/
def loN (lt : Int64) : Nat → Int64
  | 0 => lt
  | k + 1 => ltF (loN lt k)
def rlL (c : zCart) (P : zP) (lt : Int64) : Nat → RT
  | 0 => r0
  | k + 1 => stF c P (dw2 c (loN lt (k + 1))) k (rlL c P lt k)
def T_goByLot : zT := fun args hs Q => ∃ (rc rl : Nat) (bl : Int32) (lt : Int64) (te : Int32) (ha dr : fI) (hd pu az co ho bu bb fa sd : Int32) (c : zCart) (nt : Int32) (n : Nat) (cd en nm sk : fI) (P : zP), kOk c ∧ tTx nt n cd en P ∧ args = [.ref 0, .ref 6, .ref 20, .int sd] ∧ hs = pRide rc rl bl lt te ha dr hd pu az co ho bu bb fa ++ (pCart 3 c ++ pText 10 nt n cd en nm sk) ∧ ∀ lt' ha' dr' hd' nm' sk', Q none (pRX 1 lt' (nI 30) ha' dr' hd' (rlL c P (sd + nI 1).toInt64 30) c nt n cd en nm' sk')
theorem ct_goByLot (l : Launch) : Ct l mX2_goByLot false 6 0 0 T_goByLot := by
  refine Ct.intro mX2_goByLot_ok ?_
  rintro args hs Q ⟨rc, rl, bl, lt, te, ha, dr, hd, pu, az, co, ho, bu, bb, fa, sd, c, nt, n, cd, en, nm, sk, P, hok, hT, rfl, rfl, h⟩
  refine ⟨Nat.le_of_ble_eq_true rfl, ?_⟩
  generalize hS : pRide rc rl bl lt te ha dr hd pu az co ho bu bb fa ++ (pCart 3 c ++ pText 10 nt n cd en nm sk) = S
  have loop : ∀ (k t : Nat) (x : Int32) (lt' : Int64) (ha' dr' nm' sk' : fI) (hd' : Int32) (r : RT), t + k = 30 → x = nI t → lt' = loN (sd + nI 1).toInt64 t → r = rlL c P (sd + nI 1).toInt64 t → V l mX2_goByLot false S (zrm 6 0 0) (zFm false S Q 0 0) 0 0 22 [(4, .int x), (0, .ref 0), (1, .ref 6), (2, .ref 20), (3, .int sd)] [] (pRX 1 lt' (nI t) ha' dr' hd' r c nt n cd en nm' sk') := by
    intro k
    induction k with
    | zero =>
      intro t x lt' ha' dr' nm' sk' hd' r ht hx hl hr
      have : t = 30 := by omega
      subst this
      refine V.g 20 [22] mX2_goByLot_ok rfl ?_
      refine pk_le 30 30 (fun _ => ⟨_, zsim_rfl _, ?_⟩) (fun e => absurd e (by omega)) rfl hx
      rw [hr]
      exact h lt' ha' dr' hd' nm' sk'
    | succ k ih =>
      intro t x lt' ha' dr' nm' sk' hd' r ht hx hl hr
      refine V.g 20 [22] mX2_goByLot_ok rfl ?_
      refine pk_le 30 t (fun e => absurd e (by omega)) (fun _ => ?_) rfl hx
      refine V.callVW mX2_goByLot_ok rfl lX2_64 (ct_step l) rfl [.ref 0] [] (fun v hs' => ∃ lt2 ha2 r2 dr2 hd2 nm2 sk2, lt2 = ltF lt' ∧ r2 = stF c P (dwF c ha' (ltF lt')) t r ∧ v = none ∧ hs' = pRX 1 lt2 (nI (t + 1)) ha2 dr2 hd2 r2 c nt n cd en nm2 sk2) rfl 0 2 rfl rfl rfl rfl rfl rfl ⟨1, lt', t, ha', dr', hd', r, c, nt, n, cd, en, nm', sk', P, by omega, hok, hT, rfl, rfl, Or.inr ⟨rfl, fun dr2 hd2 nm2 sk2 hh => ⟨_, _, _, dr2, hd2, nm2, sk2, rfl, rfl, rfl, rfl⟩⟩⟩ (fun v hs' hv => ?_)
      obtain ⟨lt2, ha2, r2, dr2, hd2, nm2, sk2, hl2, hr2, rfl, rfl⟩ := hv
      refine ⟨rfl, ?_⟩
      refine V.g 20 [22] mX2_goByLot_ok rfl ?_
      refine V.key [4, 0, 1, 2, 3] ?_
      refine ih (t + 1) _ lt2 ha2 dr2 nm2 sk2 hd2 r2 (by omega) (by rw [hx]; exact nI_1 t) (by rw [hl2, hl]; rfl) ?_
      rw [hr2, rlL, ← hr]
      have e : ltF lt' = loN (sd + nI 1).toInt64 (t + 1) := by rw [hl]; rfl
      rw [e]
      exact stF_ha rfl rfl
  subst hS
  refine V.g 20 [22] mX2_goByLot_ok rfl ?_
  refine V.cVW mX2_goByLot_ok rfl lX2_60 (ct_start l) rfl [.ref 0, .ref 6, .ref 20] [] rfl 0 2 rfl rfl rfl rfl rfl rfl none (pRX 0 lt (nI 0) (haC c) dr hd r0 c nt n cd en nm sk) ⟨rc, rl, bl, lt, te, ha, dr, hd, pu, az, co, ho, bu, bb, fa, c, nt, n, cd, en, nm, sk, rfl, rfl, rfl, rfl⟩ rfl ?_
  have key : ∀ s1 : Int64, s1 = (sd + nI 1).toInt64 → V l mX2_goByLot false (pRide rc rl bl lt te ha dr hd pu az co ho bu bb fa ++ (pCart 3 c ++ pText 10 nt n cd en nm sk)) (zrm 6 0 0) (zFm false (pRide rc rl bl lt te ha dr hd pu az co ho bu bb fa ++ (pCart 3 c ++ pText 10 nt n cd en nm sk)) Q 0 0) 0 0 22 [(4, .int (nI 0)), (0, .ref 0), (1, .ref 6), (2, .ref 20), (3, .int sd)] [] (pRX 1 s1 (nI 0) (haC c) dr hd r0 c nt n cd en nm sk) := fun s1 h1 => loop 30 0 _ s1 (haC c) dr nm sk hd r0 rfl rfl h1 rfl
  refine V.g 20 [22] mX2_goByLot_ok rfl ?_
  refine And.intro (Or.inr rfl) ?_
  refine V.key [4, 0, 1, 2, 3] ?_
  exact key _ rfl
