/-! ===== Ride: step, start, goAll, goByLot ===== -/
/-- pull, aside, cost, holding, bumps, bits of bumps, farthest -/
abbrev RT : Type := Int32 × Int32 × Int32 × Int32 × Int32 × Int32 × Int32
def abF (x : Int32) : Int32 := if 0 ≤ x then x else 0 - x
def stF (c : zCart) (P : zP) (ha : fI) (te : Nat) (r : RT) : RT :=
  let pu := plF c ha (drS c P ha (nI te)) te 4
  let az := r.2.1 - pu * paC c / nI 8
  let hd := hoS c P ha (nI te)
  let bey := abF az - wiC c te
  if 0 < bey then
    (pu, (if 0 < az then wiC c te else - wiC c te), hd + bpS c P te az bey, r.2.2.2.1 + hd, r.2.2.2.2.1 + bpS c P te az bey, r.2.2.2.2.2.1 ||| (nI 1 <<< (nI te &&& 31)), mxF r.2.2.2.2.2.2 (abF (if 0 < az then wiC c te else - wiC c te)))
  else (pu, az, hd, r.2.2.2.1 + hd, r.2.2.2.2.1, r.2.2.2.2.2.1, mxF r.2.2.2.2.2.2 (abF az))
abbrev pRX (bl : Int32) (lt : Int64) (te : Int32) (ha dr : fI) (hd : Int32) (r : RT) (c : zCart) (nt : Int32) (n : Nat) (cd en nm sk : fI) : List zE := pRW bl lt te ha dr hd r.1 r.2.1 r.2.2.1 r.2.2.2.1 r.2.2.2.2.1 r.2.2.2.2.2.1 r.2.2.2.2.2.2 c nt n cd en nm sk
/-- what was said of the drags and hands in a tenth -/
def dhO (c : zCart) (P : zP) (ha dr : fI) (hd te : Int32) : Prop := (∀ w, w < 4 → dr w = drS c P ha te w) ∧ hd = hoS c P ha te
theorem drS_te {c : zCart} {P : zP} {ha : fI} {te te' : Int32} {w : Nat} (h : 3 ∉ P.1) : drS c P ha te w = drS c P ha te' w := by
  unfold drS
  refine sayF_cong (fun op hop h6 => ?_)
  have : op ≠ 3 := fun e => h (e ▸ hop)
  rcases (show op = 0 ∨ op = 1 ∨ op = 2 ∨ op = 4 ∨ op = 5 by omega) with rfl | rfl | rfl | rfl | rfl <;> rfl
theorem hoS_te {c : zCart} {P : zP} {ha : fI} {te te' : Int32} (h : 3 ∉ P.2.1) : hoS c P ha te = hoS c P ha te' := by
  unfold hoS
  have key : ∀ a b : Int32, sayF P.2.1 (nmF 0 a (paC c) te 0 b) = sayF P.2.1 (nmF 0 a (paC c) te' 0 b) := fun a b => by
    refine sayF_cong (fun op hop h6 => ?_)
    have : op ≠ 3 := fun e => h (e ▸ hop)
    rcases (show op = 0 ∨ op = 1 ∨ op = 2 ∨ op = 4 ∨ op = 5 by omega) with rfl | rfl | rfl | rfl | rfl <;> rfl
  rw [key, key]
def T_step : zT := fun args hs Q => ∃ (bl : Int32) (lt : Int64) (te : Nat) (ha dr : fI) (hd : Int32) (r : RT) (c : zCart) (nt : Int32) (n : Nat) (cd en nm sk : fI) (P : zP), te < 30 ∧ kOk c ∧ tTx nt n cd en P ∧ args = [.ref 0] ∧ hs = pRX bl lt (nI te) ha dr hd r c nt n cd en nm sk ∧
  ((bl = 0 ∧ (te = 0 ∨ dhO c P ha dr hd (nI (te - 1))) ∧ ∀ dr' hd' nm' sk', dhO c P ha dr' hd' (nI te) → Q none (pRX bl lt (nI (te + 1)) ha dr' hd' (stF c P ha te r) c nt n cd en nm' sk')) ∨
   (bl = 1 ∧ ∀ dr' hd' nm' sk', dhO c P (dwF c ha (ltF lt)) dr' hd' (nI te) → Q none (pRX bl (ltF lt) (nI (te + 1)) (dwF c ha (ltF lt)) dr' hd' (stF c P (dwF c ha (ltF lt)) te r) c nt n cd en nm' sk')))
section ZSTEP
variable {l : Launch} {S : List zE} {Q : Option Value → List zE → Prop} {bl : Int32} {te : Nat} {c : zCart} {nt : Int32} {n : Nat} {cd en : fI} {P : zP}
theorem stp_132 {lt' : Int64} {ha' dr' : fI} {hd' pu' az2 co2 ho2 bu2 bb2 fa : Int32} {nm2 sk2 : fI} {lv1 : Int32} (hq3 : Q none (pRX bl lt' (nI (te + 1)) ha' dr' hd' (pu', az2, co2, ho2, bu2, bb2, mxF fa (abF az2)) c nt n cd en nm2 sk2)) : V l mX2_step false S (zrm 5 0 0) (zFm false S Q 0 0) 0 0 132 [(1, .int lv1), (0, .ref 0)] [] (pRW bl lt' (nI te) ha' dr' hd' pu' az2 co2 ho2 bu2 bb2 fa c nt n cd en nm2 sk2) := by
  refine V.g 10 [] mX2_step_ok rfl ?_
  refine V.mabs mX2_step_ok rfl lX2_92 rfl rfl ?_
  refine V.mmax mX2_step_ok rfl lX2_105 rfl rfl ?_
  refine V.g 10 [] mX2_step_ok rfl ?_
  refine ⟨_, zsim_rfl _, ?_⟩
  rw [← nI_1] at hq3
  exact hq3
theorem stp_106 (hte : te < 30) (hT : tTx nt n cd en P) {lt' : Int64} {ha' dr' : fI} {hd' pu' az' ho2 bu bb fa : Int32} {nm' sk' : fI} (h1 : ¬ 0 < abF az' - wiC c te → Q none (pRX bl lt' (nI (te + 1)) ha' dr' hd' (pu', az', hd', ho2, bu, bb, mxF fa (abF az')) c nt n cd en nm' sk')) (h2 : 0 < abF az' - wiC c te → ∀ nm2 sk2, Q none (pRX bl lt' (nI (te + 1)) ha' dr' hd' (pu', (if 0 < az' then wiC c te else - wiC c te), hd' + bpS c P te az' (abF az' - wiC c te), ho2, bu + bpS c P te az' (abF az' - wiC c te), bb ||| (nI 1 <<< (nI te &&& 31)), mxF fa (abF (if 0 < az' then wiC c te else - wiC c te))) c nt n cd en nm2 sk2)) : V l mX2_step false S (zrm 5 0 0) (zFm false S Q 0 0) 0 0 106 [(0, .ref 0)] [.int az'] (pRW bl lt' (nI te) ha' dr' hd' pu' az' hd' ho2 bu bb fa c nt n cd en nm' sk') := by
  have ete := pk_cl (x := nI te) te
  refine V.mabs mX2_step_ok rfl lX2_92 rfl rfl ?_
  refine V.g 20 [123] mX2_step_ok rfl ?_
  refine And.intro (pk_in te 30 hte) ?_
  have ebey : (if 0 ≤ az' then az' else 0 - az') - wiC c (cl (nI te)) = abF az' - wiC c te := by rw [show cl (nI te) = te from ete]; rfl
  refine V.nm [(1, .int ((if 0 ≤ az' then az' else 0 - az') - wiC c (cl (nI te)))), (0, .ref 0)] [] (pRW bl lt' (nI te) ha' dr' hd' pu' az' hd' ho2 bu bb fa c nt n cd en nm' sk') rfl rfl rfl ?_
  rw [ebey]
  refine V.g 20 [132] mX2_step_ok rfl ?_
  refine And.intro (fun c1 => ?_) (fun c1 => ?_)
  · exact stp_132 (h1 (Int32.not_lt.mpr c1))
  · refine V.callVW mX2_step_ok rfl lX2_101 (ct_bump l) rfl [.ref 0, .int (abF az' - wiC c te)] [] (fun v hs' => ∃ nm2 sk2, v = none ∧ hs' = pRW bl lt' (nI te) ha' dr' hd' pu' (if 0 < az' then wiC c te else - wiC c te) (hd' + bpS c P te az' (abF az' - wiC c te)) ho2 (bu + bpS c P te az' (abF az' - wiC c te)) (bb ||| (nI 1 <<< (nI te &&& 31))) fa c nt n cd en nm2 sk2) rfl 0 2 rfl rfl rfl rfl rfl rfl ⟨bl, lt', te, ha', dr', hd', pu', az', hd', ho2, bu, bb, fa, abF az' - wiC c te, c, nt, n, cd, en, nm', sk', P, hte, hT, rfl, rfl, fun nm2 sk2 => ⟨nm2, sk2, rfl, rfl⟩⟩ (fun v hs' hv => ?_)
    obtain ⟨nm2, sk2, rfl, rfl⟩ := hv
    refine ⟨rfl, ?_⟩
    exact stp_132 (h2 (Int32.not_le.mp c1) nm2 sk2)
theorem stp_49 (hte : te < 30) (hok : kOk c) (hT : tTx nt n cd en P) {lt' : Int64} {ha' dr' nm' sk' : fI} {hd' pu az co ho bu bb fa : Int32} (hdh : dhO c P ha' dr' hd' (nI te)) (hq : ∀ dr' hd' nm' sk', dhO c P ha' dr' hd' (nI te) → Q none (pRX bl lt' (nI (te + 1)) ha' dr' hd' (stF c P ha' te (pu, az, co, ho, bu, bb, fa)) c nt n cd en nm' sk')) : V l mX2_step false S (zrm 5 0 0) (zFm false S Q 0 0) 0 0 49 [(0, .ref 0)] [] (pRW bl lt' (nI te) ha' dr' hd' pu az co ho bu bb fa c nt n cd en nm' sk') := by
  refine V.g 10 [] mX2_step_ok rfl ?_
  refine V.cVW mX2_step_ok rfl lX2_82 (ct_pullNow l) rfl [.ref 0] [.ref 0] rfl 0 2 rfl rfl rfl rfl rfl rfl (some (.int (plF c ha' dr' te 4))) _ ⟨bl, lt', te, ha', dr', hd', pu, az, co, ho, bu, bb, fa, c, nt, n, cd, en, nm', sk', hte, hok, rfl, rfl, rfl, rfl⟩ rfl ?_
  rw [plF_cong hdh.1]
  have hq2 := fun nm2 sk2 => hq dr' hd' nm2 sk2 hdh
  unfold stF at hq2
  revert hq2
  generalize plF c ha' (drS c P ha' (nI te)) te 4 = pu'
  intro hq2
  refine V.g 30 [106] mX2_step_ok rfl ?_
  refine And.intro (show ¬ nI 8 = 0 by decide) ?_
  refine V.nm [(0, .ref 0)] [.int (az - pu' * paC c / nI 8)] (pRW bl lt' (nI te) ha' dr' hd' pu' (az - pu' * paC c / nI 8) hd' (ho + hd') bu bb fa c nt n cd en nm' sk') rfl rfl rfl ?_
  revert hq2
  dsimp only
  generalize az - pu' * paC c / nI 8 = az'
  rw [← hdh.2]
  intro hq2
  refine stp_106 hte hT (fun e => ?_) (fun e nm2 sk2 => ?_)
  · have := hq2 nm' sk'
    rw [if_neg e] at this
    exact this
  · have := hq2 nm2 sk2
    rw [if_pos e] at this
    exact this
theorem stp_45 (hte : te < 30) (hok : kOk c) (hT : tTx nt n cd en P) {lt' : Int64} {ha' dr nm sk : fI} {hd pu az co ho bu bb fa : Int32} (hq : ∀ dr' hd' nm' sk', dhO c P ha' dr' hd' (nI te) → Q none (pRX bl lt' (nI (te + 1)) ha' dr' hd' (stF c P ha' te (pu, az, co, ho, bu, bb, fa)) c nt n cd en nm' sk')) : V l mX2_step false S (zrm 5 0 0) (zFm false S Q 0 0) 0 0 45 [(0, .ref 0)] [] (pRW bl lt' (nI te) ha' dr hd pu az co ho bu bb fa c nt n cd en nm sk) := by
  refine V.g 10 [] mX2_step_ok rfl ?_
  refine V.callVW mX2_step_ok rfl lX2_79 (ct_askLaw l) rfl [.ref 0] [] (fun v hs' => ∃ nm2 sk2, v = none ∧ hs' = pRW bl lt' (nI te) ha' (flF (drS c P ha' (nI te)) dr 4) (hoS c P ha' (nI te)) pu az co ho bu bb fa c nt n cd en nm2 sk2) rfl 0 2 rfl rfl rfl rfl rfl rfl ⟨bl, lt', nI te, ha', dr, hd, pu, az, co, ho, bu, bb, fa, c, nt, n, cd, en, nm, sk, P, hT, rfl, rfl, fun nm2 sk2 => ⟨nm2, sk2, rfl, rfl⟩⟩ (fun v hs' hv => ?_)
  obtain ⟨nm2, sk2, rfl, rfl⟩ := hv
  refine ⟨rfl, ?_⟩
  exact stp_49 hte hok hT ⟨fun w hw => flF_in hw, rfl⟩ hq
end ZSTEP
theorem stp_a {l : Launch} {Q : Option Value → List zE → Prop} {lt : Int64} {te : Nat} {ha dr : fI} {hd pu az co ho bu bb fa : Int32} {c : zCart} {nt : Int32} {n : Nat} {cd en nm sk : fI} {P : zP} {S : List zE} (hte : te < 30) (hok : kOk c) (hT : tTx nt n cd en P) (hcache : te = 0 ∨ dhO c P ha dr hd (nI (te - 1))) (hq : ∀ dr' hd' nm' sk', dhO c P ha dr' hd' (nI te) → Q none (pRX 0 lt (nI (te + 1)) ha dr' hd' (stF c P ha te (pu, az, co, ho, bu, bb, fa)) c nt n cd en nm' sk')) : V l mX2_step false S (zrm 5 0 0) (zFm false S Q 0 0) 0 0 0 [(0, .ref 0)] [] (pRW 0 lt (nI te) ha dr hd pu az co ho bu bb fa c nt n cd en nm sk) := by
  obtain ⟨hn, hp0, hp1, hp2, hnt, hnt0⟩ := id hT
  refine V.g 20 [45, 49] mX2_step_ok rfl ?_
  refine pk_lt te 30 (fun _ => ?_) (fun e => absurd e (by omega))
  refine And.intro (fun _ => ?_) (fun e => absurd rfl e)
  refine pk_eq te 0 (fun e => ?_) (fun e => ?_)
  · exact stp_45 hte hok hT hq
  · refine And.intro (fun e2 => absurd rfl e2) (fun _ => ?_)
    refine And.intro (fun e2 => ?_) (fun e2 => ?_)
    · obtain ⟨n1, n2, n3⟩ := hnt0 e2
      have hdh : dhO c P ha dr hd (nI te) := by
        rcases hcache with q | q
        · exact absurd q e
        · exact ⟨fun w hw => (q.1 w hw).trans (drS_te n1), q.2.trans (hoS_te n2)⟩
      exact stp_49 hte hok hT hdh hq
    · exact stp_45 hte hok hT hq
theorem stp_21 {l : Launch} {Q : Option Value → List zE → Prop} {lt' : Int64} {te : Nat} {ha' dr : fI} {hd pu az co ho bu bb fa : Int32} {c : zCart} {nt : Int32} {n : Nat} {cd en nm sk : fI} {P : zP} {S : List zE} (hte : te < 30) (hok : kOk c) (hT : tTx nt n cd en P) (hq : ∀ dr' hd' nm' sk', dhO c P ha' dr' hd' (nI te) → Q none (pRX 1 lt' (nI (te + 1)) ha' dr' hd' (stF c P ha' te (pu, az, co, ho, bu, bb, fa)) c nt n cd en nm' sk')) : V l mX2_step false S (zrm 5 0 0) (zFm false S Q 0 0) 0 0 21 [(0, .ref 0)] [] (pRW 1 lt' (nI te) ha' dr hd pu az co ho bu bb fa c nt n cd en nm sk) := by
  refine V.g 20 [45, 49] mX2_step_ok rfl ?_
  refine And.intro (fun _ => ?_) (fun _ => ?_)
  · exact stp_45 hte hok hT hq
  · refine And.intro (fun _ => ?_) (fun e => absurd e (by decide))
    exact stp_45 hte hok hT hq
theorem stp_17 {l : Launch} {Q : Option Value → List zE → Prop} {lt : Int64} {te : Nat} {ha dr : fI} {hd pu az co ho bu bb fa : Int32} {c : zCart} {nt : Int32} {n : Nat} {cd en nm sk : fI} {S : List zE} (h : ∀ (lt' : Int64) (ha' : fI), lt' = ltF lt → ha' = dwF c ha (ltF lt) → V l mX2_step false S (zrm 5 0 0) (zFm false S Q 0 0) 0 0 21 [(0, .ref 0)] [] (pRW 1 lt' (nI te) ha' dr hd pu az co ho bu bb fa c nt n cd en nm sk)) : V l mX2_step false S (zrm 5 0 0) (zFm false S Q 0 0) 0 0 18 [(0, .ref 0)] [.ref 0] (pRW 1 lt (nI te) ha dr hd pu az co ho bu bb fa c nt n cd en nm sk) := by
  refine V.callVW mX2_step_ok rfl lX2_71 (ct_drawHands l) rfl [.ref 0] [] (fun v hs' => ∃ (lt' : Int64) (ha' : fI), lt' = ltF lt ∧ ha' = dwF c ha (ltF lt) ∧ v = none ∧ hs' = pRW 1 lt' (nI te) ha' dr hd pu az co ho bu bb fa c nt n cd en nm sk) rfl 0 2 rfl rfl rfl rfl rfl rfl ⟨1, lt, nI te, ha, dr, hd, pu, az, co, ho, bu, bb, fa, c, nt, n, cd, en, nm, sk, rfl, rfl, _, _, rfl, rfl, rfl, rfl⟩ (fun v hs' hv => ?_)
  obtain ⟨lt', ha', h1, h2, rfl, rfl⟩ := hv
  exact ⟨rfl, h lt' ha' h1 h2⟩
theorem stp_b {l : Launch} {Q : Option Value → List zE → Prop} {lt : Int64} {te : Nat} {ha dr : fI} {hd pu az co ho bu bb fa : Int32} {c : zCart} {nt : Int32} {n : Nat} {cd en nm sk : fI} {P : zP} {S : List zE} (hte : te < 30) (hok : kOk c) (hT : tTx nt n cd en P) (hq : ∀ dr' hd' nm' sk', dhO c P (dwF c ha (ltF lt)) dr' hd' (nI te) → Q none (pRX 1 (ltF lt) (nI (te + 1)) (dwF c ha (ltF lt)) dr' hd' (stF c P (dwF c ha (ltF lt)) te (pu, az, co, ho, bu, bb, fa)) c nt n cd en nm' sk')) : V l mX2_step false S (zrm 5 0 0) (zFm false S Q 0 0) 0 0 0 [(0, .ref 0)] [] (pRW 1 lt (nI te) ha dr hd pu az co ho bu bb fa c nt n cd en nm sk) := by
  refine V.g 20 [18, 45, 49] mX2_step_ok rfl ?_
  refine pk_lt te 30 (fun _ => ?_) (fun e => absurd e (by omega))
  refine And.intro (fun e => absurd e (by decide)) (fun _ => ?_)
  refine stp_17 (fun lt' ha' h1 h2 => ?_)
  rw [← h1] at hq
  rw [h1, ← h2, ← h1] at hq
  exact stp_21 hte hok hT hq
theorem ct_step (l : Launch) : Ct l mX2_step false 5 0 0 T_step := by
  refine Ct.intro mX2_step_ok ?_
  rintro args hs Q ⟨bl, lt, te, ha, dr, hd, ⟨pu, az, co, ho, bu, bb, fa⟩, c, nt, n, cd, en, nm, sk, P, hte, hok, hT, rfl, rfl, ⟨rfl, hcache, hq⟩ | ⟨rfl, hq⟩⟩
  · exact ⟨Nat.le_of_ble_eq_true rfl, stp_a hte hok hT hcache hq⟩
  · exact ⟨Nat.le_of_ble_eq_true rfl, stp_b hte hok hT hq⟩
