/-! ===== the reference: a tenth, a roll ===== -/
theorem clamp_min : ∀ n, n < 100 → 1 ≤ n → ((0 < abF Int32.minValue - nI n) ∧ (if 0 < Int32.minValue then nI n else - nI n) = wnF Int32.minValue (- nI n) (nI n)) := by decide +kernel
theorem clampW {az wi : Int32} {n : Nat} (h : wi = nI n) (h1 : 1 ≤ n) (h2 : n ≤ 99) : (0 < abF az - wi → ¬ az = 0 ∧ (if 0 < az then wi else - wi) = wnF az (- wi) wi) ∧ (¬ 0 < abF az - wi → az = wnF az (- wi) wi) := by
  have hw : wi.toInt = n := by rw [h]; exact nI_toInt (by omega)
  have hnw : (- wi).toInt = - (n : Int) := by rw [Int32.toInt_neg, hw]; exact Int.bmod_eq_of_le (by omega) (by omega)
  have z1 := Int32.toInt_lt az
  have z2 := Int32.le_toInt az
  have h0 : (0 : Int32).toInt = 0 := rfl
  by_cases c : 0 ≤ az
  · have c' : 0 ≤ az.toInt := by have := Int32.le_iff_toInt_le.mp c; rwa [h0] at this
    have ea : abF az = az := by unfold abF; rw [if_pos c]
    rw [ea]
    have es : (az - wi).toInt = az.toInt - n := by rw [Int32.toInt_sub, hw]; exact Int.bmod_eq_of_le (by omega) (by omega)
    have nl : ¬ az < - wi := fun q => by have := Int32.lt_iff_toInt_lt.mp q; rw [hnw] at this; omega
    constructor
    · intro p
      have p' := Int32.lt_iff_toInt_lt.mp p
      rw [h0, es] at p'
      refine ⟨fun e => by rw [e, h0] at p'; omega, ?_⟩
      unfold wnF
      rw [if_pos (Int32.lt_iff_toInt_lt.mpr (by rw [h0]; omega)), if_neg nl, if_pos (Int32.lt_iff_toInt_lt.mpr (by rw [hw]; omega))]
    · intro p
      have p' : ¬ (0 : Int) < az.toInt - n := fun q => p (Int32.lt_iff_toInt_lt.mpr (by rw [h0, es]; exact q))
      unfold wnF
      rw [if_neg nl, if_neg (fun q => by have := Int32.lt_iff_toInt_lt.mp q; rw [hw] at this; omega)]
  · have c' : az.toInt < 0 := by
      rcases Int.lt_or_le az.toInt 0 with q | q
      · exact q
      · exact absurd (Int32.le_iff_toInt_le.mpr (by rw [h0]; exact q)) c
    by_cases m : az.toInt = -2147483648
    · have em : az = Int32.minValue := Int32.toInt_inj.mp (m.trans rfl)
      have := clamp_min n (by omega) h1
      rw [← h, ← em] at this
      exact ⟨fun _ => ⟨fun e => by rw [e, h0] at c'; omega, this.2⟩, fun p => absurd this.1 p⟩
    · have ea : abF az = 0 - az := by unfold abF; rw [if_neg c]
      have ei : (0 - az).toInt = - az.toInt := by rw [Int32.toInt_sub, h0, Int.zero_sub]; exact Int.bmod_eq_of_le (by omega) (by omega)
      have es : (abF az - wi).toInt = - az.toInt - n := by rw [ea, Int32.toInt_sub, hw, ei]; exact Int.bmod_eq_of_le (by omega) (by omega)
      constructor
      · intro p
        have p' := Int32.lt_iff_toInt_lt.mp p
        rw [h0, es] at p'
        refine ⟨fun e => by rw [e, h0] at c'; omega, ?_⟩
        unfold wnF
        rw [if_neg (fun q => by have := Int32.lt_iff_toInt_lt.mp q; rw [h0] at this; omega), if_pos (Int32.lt_iff_toInt_lt.mpr (by rw [hnw]; omega))]
      · intro p
        have p' : ¬ (0 : Int) < - az.toInt - n := fun q => p (Int32.lt_iff_toInt_lt.mpr (by rw [h0, es]; exact q))
        unfold wnF
        rw [if_neg (fun q => by have := Int32.lt_iff_toInt_lt.mp q; rw [hnw] at this; omega), if_neg (fun q => by have := Int32.lt_iff_toInt_lt.mp q; rw [hw] at this; omega)]
def wOk (c : zCart) : Prop := ∀ t, t < 30 → ∃ n, 1 ≤ n ∧ n ≤ 99 ∧ wiC c t = nI n
def mOk (fv : Nat → Int32) (ar : Nat → fI) (P : zP) : Prop := kOk (cM fv ar) ∧ wOk (cM fv ar) ∧ mL fv ar P
theorem stF_eq {c : zCart} {P : zP} {ha : fI} {te : Nat} {r : RT} {pu az hd bey : Int32} (h1 : pu = plF c ha (drS c P ha (nI te)) te 4) (h2 : az = r.2.1 - pu * paC c / nI 8) (h3 : hd = hoS c P ha (nI te)) (h4 : bey = abF az - wiC c te) : (0 < bey → stF c P ha te r = (pu, (if 0 < az then wiC c te else - wiC c te), hd + bpS c P te az bey, r.2.2.2.1 + hd, r.2.2.2.2.1 + bpS c P te az bey, r.2.2.2.2.2.1 ||| (nI 1 <<< (nI te &&& 31)), mxF r.2.2.2.2.2.2 (abF (if 0 < az then wiC c te else - wiC c te)))) ∧ (¬ 0 < bey → stF c P ha te r = (pu, az, hd, r.2.2.2.1 + hd, r.2.2.2.2.1, r.2.2.2.2.2.1, mxF r.2.2.2.2.2.2 (abF az))) := by
  subst h4
  subst h3
  subst h2
  subst h1
  exact ⟨fun h => if_pos h, fun h => if_neg h⟩
def T7_tenths : zT := fun args hs Q => ∃ (fv : Nat → Int32) (ar : Nat → fI) (x az0 : Int32) (t : Nat) (P : zP), t < 30 ∧ x = nI t ∧ mOk fv ar P ∧ az0 = (if t = 0 then 0 else ar 39 (t - 1)) ∧ args = [.ref 0, .int x] ∧ hs = pM fv ar ∧ ∀ q : RT, q = stF (cM fv ar) P (ar 4) t (0, az0, 0, fv 41, fv 42, fv 43, fv 44) → ∀ sk nm, Q none (pM (f4 fv q) (r5 ar sk nm (upd (ar 38) t q.1) (upd (ar 39) t q.2.1) (upd (ar 40) t q.2.2.1)))
set_option maxHeartbeats 4000000 in
theorem c7_tenths (l : Launch) : Ct l mX7_tenths false 6 0 0 T7_tenths := by
  refine Ct.intro mX7_tenths_ok ?_
  rintro args hs Q ⟨fv, ar, x, az0, t, P, ht, hx, hM, ha0, rfl, rfl, h⟩
  refine ⟨Nat.le_of_ble_eq_true rfl, ?_⟩
  subst hx
  obtain ⟨n, hn1, hn2, hwi⟩ := hM.2.1 t ht
  have hwi2 : ar 6 t = nI n := hwi
  refine V.g2 60 [27, 43, 109, 121] mX7_tenths_ok rfl ?_
  refine V.cw mX7_tenths_ok rfl lX7_241 (c7_pullIn l) rfl 0 7 rfl rfl rfl rfl rfl rfl ⟨fv, ar, _, t, P, ht, rfl, hM.1, hM.2.2, rfl, rfl, fun pu hpu sk nm => ⟨rfl, ?_⟩⟩
  have t43 : ∀ (az : Int32), az = az0 - pu * fv 5 / nI 8 → V l mX7_tenths false (pM fv ar) (zrm 6 0 0) (zFm false (pM fv ar) Q 0 0) 0 0 43 [(2, .int az), (0, .ref 0), (1, .int (nI t))] [] (pM fv (upa (upa (upa ar 36 sk) 37 nm) 38 (upd (ar 38) t pu))) := by
    intro az haz
    refine V.g2 60 [27, 43, 109, 121] mX7_tenths_ok rfl ?_
    refine ⟨0, by omega, rfl, rfl, ?_⟩
    refine V.cw mX7_tenths_ok rfl lX7_209 (c7_asksOf l) rfl 0 7 rfl rfl rfl rfl rfl rfl ⟨fv, (upa (upa (upa ar 36 sk) 37 nm) 38 (upd (ar 38) t pu)), _, _, _, _, _, _, 1, P, by omega, rfl, hM.2.2, rfl, rfl, fun o1 ho1 sk2 nm2 => ⟨rfl, ?_⟩⟩
    refine V.g2 60 [27, 43, 109, 121] mX7_tenths_ok rfl ?_
    refine ⟨1, by omega, rfl, rfl, ?_⟩
    refine V.cw mX7_tenths_ok rfl lX7_209 (c7_asksOf l) rfl 0 7 rfl rfl rfl rfl rfl rfl ⟨fv, (upa (upa (upa ar 38 (upd (ar 38) t pu)) 36 sk2) 37 nm2), _, _, _, _, _, _, 1, P, by omega, rfl, hM.2.2, rfl, rfl, fun o2 ho2 sk3 nm3 => ⟨rfl, ?_⟩⟩
    refine V.g2 60 [27, 43, 109, 121] mX7_tenths_ok rfl ?_
    refine V.cs mX7_tenths_ok rfl lX7_244 (c7_far l) rfl rfl rfl rfl ⟨_, rfl, fun ab hab => ⟨rfl, ?_⟩⟩
    have hhd : o1 + o2 = hoS (cM fv ar) P (ar 4) (nI t) := by rw [ho1, ho2, hoS, Int32.zero_add]; rfl
    obtain ⟨E1, E2⟩ := stF_eq (c := cM fv ar) (P := P) (ha := ar 4) (te := t) (r := (0, az0, 0, fv 41, fv 42, fv 43, fv 44)) (bey := ab - ar 6 t) hpu haz hhd (by rw [hab])
    have hcl := clampW (az := az) hwi hn1 hn2
    have habz : ab - ar 6 t = abF az - ar 6 t := by rw [hab]
    refine V.g2 60 [27, 43, 109, 121] mX7_tenths_ok rfl ?_
    refine ⟨t, by omega, rfl, rfl, ?_⟩
    refine And.intro (fun e => ?_) (fun e => ?_)
    · have hnb : ¬ 0 < ab - ar 6 t := Int32.not_lt.mpr e
      refine And.intro (fun e9 => ?_) (fun e9 => absurd e e9)
      refine ⟨t, by omega, rfl, rfl, ?_⟩
      refine ⟨t, by omega, rfl, rfl, ?_⟩
      refine ⟨t, by omega, rfl, rfl, ?_⟩
      refine V.cs mX7_tenths_ok rfl lX7_200 (c7_within l) rfl rfl rfl rfl ⟨_, _, _, rfl, fun a2 ha2 => ⟨rfl, ?_⟩⟩
      refine V.g2 60 [27, 43, 109, 121] mX7_tenths_ok rfl ?_
      refine ⟨t, by omega, rfl, rfl, ?_⟩
      refine ⟨t, by omega, rfl, rfl, ?_⟩
      refine V.cs mX7_tenths_ok rfl lX7_244 (c7_far l) rfl rfl rfl rfl ⟨_, rfl, fun f1 hf1 => ⟨rfl, ?_⟩⟩
      refine V.g2 60 [27, 43, 109, 121] mX7_tenths_ok rfl ?_
      refine And.intro (fun e4 => ?_) (fun e4 => ?_)
      · refine ⟨_, zsim_rfl _, ?_⟩
        have hf1b : f1 = abF a2 := by rw [hf1]; show abF (upd (ar 39) t a2 t) = _; rw [pk_us]
        have ha2b : a2 = az := by rw [ha2]; exact ((hcl.2 (by rw [← habz]; exact hnb))).symm
        have hm : mxF (fv 44) (abF az) = fv 44 := by rw [← ha2b]; rw [← hf1b, mxF, if_neg (Int32.not_lt.mpr e4)]
        refine h (pu, a2, o1 + o2 + nI 0, fv 41 + (o1 + o2), fv 42 + nI 0, fv 43 ||| nI 0, fv 44) ?_ sk3 nm3
        rw [E2 hnb, show o1 + o2 + nI 0 = o1 + o2 from Int32.add_zero _, show fv 42 + nI 0 = fv 42 from Int32.add_zero _, show fv 43 ||| nI 0 = fv 43 from Int32.or_zero, ha2b, hm]
      · refine ⟨t, by omega, rfl, rfl, ?_⟩
        refine V.cs mX7_tenths_ok rfl lX7_244 (c7_far l) rfl rfl rfl rfl ⟨_, rfl, fun f2 hf2 => ⟨rfl, ?_⟩⟩
        refine V.g2 60 [27, 43, 109, 121] mX7_tenths_ok rfl ?_
        refine ⟨_, zsim_rfl _, ?_⟩
        have hf1b : f1 = abF a2 := by rw [hf1]; show abF (upd (ar 39) t a2 t) = _; rw [pk_us]
        have hf2b : f2 = abF a2 := by rw [hf2]; show abF (upd (ar 39) t a2 t) = _; rw [pk_us]
        have ha2b : a2 = az := by rw [ha2]; exact ((hcl.2 (by rw [← habz]; exact hnb))).symm
        have hm : mxF (fv 44) (abF az) = f2 := by rw [← ha2b]; rw [← hf1b, mxF, if_pos (Int32.not_le.mp e4), hf1b, ← hf2b]
        refine h (pu, a2, o1 + o2 + nI 0, fv 41 + (o1 + o2), fv 42 + nI 0, fv 43 ||| nI 0, f2) ?_ sk3 nm3
        rw [E2 hnb, show o1 + o2 + nI 0 = o1 + o2 from Int32.add_zero _, show fv 42 + nI 0 = fv 42 from Int32.add_zero _, show fv 43 ||| nI 0 = fv 43 from Int32.or_zero, ha2b, hm]
    · have hnb : 0 < ab - ar 6 t := Int32.not_le.mp e
      have hz := (hcl.1 (by rw [← habz]; exact hnb)).1
      have t109 : ∀ (v : Int32), v = mn99 (ab - ar 6 t) → V l mX7_tenths false (pM fv ar) (zrm 6 0 0) (zFm false (pM fv ar) Q 0 0) 0 0 109 [(4, .int (ab - ((ar 6) t))), (3, .int (o1 + o2)), (2, .int az), (0, .ref 0), (1, .int (nI t))] [.int v, .int (nI 2), .ref 0] (pM fv (upa (upa (upa ar 38 (upd (ar 38) t pu)) 36 sk3) 37 nm3)) := by
        intro v hv
        refine V.g2 60 [27, 43, 109, 121] mX7_tenths_ok rfl ?_
        have t121 : ∀ (v2 : Int32), v2 = (if 0 < az then nI 1 else nI 0) → V l mX7_tenths false (pM fv ar) (zrm 6 0 0) (zFm false (pM fv ar) Q 0 0) 0 0 121 [(4, .int (ab - ((ar 6) t))), (3, .int (o1 + o2)), (2, .int az), (0, .ref 0), (1, .int (nI t))] [.int v2, .int (nI 0), .int (nI t), .int (nI 0), .int v, .int (nI 2), .ref 0] (pM fv (upa (upa (upa ar 38 (upd (ar 38) t pu)) 36 sk3) 37 nm3)) := by
          intro v2 hv2
          refine V.g2 60 [27, 43, 109, 121] mX7_tenths_ok rfl ?_
          refine V.cw mX7_tenths_ok rfl lX7_209 (c7_asksOf l) rfl 0 7 rfl rfl rfl rfl rfl rfl ⟨fv, (upa (upa (upa ar 38 (upd (ar 38) t pu)) 36 sk3) 37 nm3), _, _, _, _, _, _, 2, P, by omega, rfl, hM.2.2, rfl, rfl, fun bp hbp sk4 nm4 => ⟨rfl, ?_⟩⟩
          have hbp2 : bp = bpS (cM fv ar) P t az (ab - ar 6 t) := by rw [hbp, hv, hv2]; rfl
          refine V.g2 60 [27, 43, 109, 121] mX7_tenths_ok rfl ?_
          refine And.intro (fun e9 => absurd e9 e) (fun e9 => ?_)
          refine ⟨t, by omega, rfl, rfl, ?_⟩
          refine ⟨t, by omega, rfl, rfl, ?_⟩
          refine ⟨t, by omega, rfl, rfl, ?_⟩
          refine V.cs mX7_tenths_ok rfl lX7_200 (c7_within l) rfl rfl rfl rfl ⟨_, _, _, rfl, fun a2 ha2 => ⟨rfl, ?_⟩⟩
          refine V.g2 60 [27, 43, 109, 121] mX7_tenths_ok rfl ?_
          refine ⟨t, by omega, rfl, rfl, ?_⟩
          refine ⟨t, by omega, rfl, rfl, ?_⟩
          refine V.cs mX7_tenths_ok rfl lX7_244 (c7_far l) rfl rfl rfl rfl ⟨_, rfl, fun f1 hf1 => ⟨rfl, ?_⟩⟩
          refine V.g2 60 [27, 43, 109, 121] mX7_tenths_ok rfl ?_
          refine And.intro (fun e4 => ?_) (fun e4 => ?_)
          · refine ⟨_, zsim_rfl _, ?_⟩
            have hf1b : f1 = abF a2 := by rw [hf1]; show abF (upd (ar 39) t a2 t) = _; rw [pk_us]
            have ha2b : a2 = (if 0 < az then ar 6 t else - ar 6 t) := by rw [ha2]; exact ((hcl.1 (by rw [← habz]; exact hnb)).2).symm
            have hm : mxF (fv 44) (abF (if 0 < az then ar 6 t else - ar 6 t)) = fv 44 := by rw [← ha2b]; rw [← hf1b, mxF, if_neg (Int32.not_lt.mpr e4)]
            refine h (pu, a2, o1 + o2 + bp, fv 41 + (o1 + o2), fv 42 + bp, fv 43 ||| (nI 1 <<< (nI t &&& 31)), fv 44) ?_ sk4 nm4
            rw [E1 hnb, ← hbp2, ha2b]
            show _ = (_, _, _, _, _, _, mxF (fv 44) (abF (if 0 < az then ar 6 t else - ar 6 t)))
            rw [hm]
          · refine ⟨t, by omega, rfl, rfl, ?_⟩
            refine V.cs mX7_tenths_ok rfl lX7_244 (c7_far l) rfl rfl rfl rfl ⟨_, rfl, fun f2 hf2 => ⟨rfl, ?_⟩⟩
            refine V.g2 60 [27, 43, 109, 121] mX7_tenths_ok rfl ?_
            refine ⟨_, zsim_rfl _, ?_⟩
            have hf1b : f1 = abF a2 := by rw [hf1]; show abF (upd (ar 39) t a2 t) = _; rw [pk_us]
            have hf2b : f2 = abF a2 := by rw [hf2]; show abF (upd (ar 39) t a2 t) = _; rw [pk_us]
            have ha2b : a2 = (if 0 < az then ar 6 t else - ar 6 t) := by rw [ha2]; exact ((hcl.1 (by rw [← habz]; exact hnb)).2).symm
            have hm : mxF (fv 44) (abF (if 0 < az then ar 6 t else - ar 6 t)) = f2 := by rw [← ha2b]; rw [← hf1b, mxF, if_pos (Int32.not_le.mp e4), hf1b, ← hf2b]
            refine h (pu, a2, o1 + o2 + bp, fv 41 + (o1 + o2), fv 42 + bp, fv 43 ||| (nI 1 <<< (nI t &&& 31)), f2) ?_ sk4 nm4
            rw [E1 hnb, ← hbp2, ha2b]
            show _ = (_, _, _, _, _, _, mxF (fv 44) (abF (if 0 < az then ar 6 t else - ar 6 t)))
            rw [hm]
        refine And.intro (fun e3 => ?_) (fun e3 => ?_)
        · refine V.kn [4, 3, 2, 0, 1] [(4, .int (ab - ((ar 6) t))), (3, .int (o1 + o2)), (2, .int az), (0, .ref 0), (1, .int (nI t))] [.int (nI 1), .int (nI 0), .int (nI t), .int (nI 0), .int v, .int (nI 2), .ref 0] (pM fv (upa (upa (upa ar 38 (upd (ar 38) t pu)) 36 sk3) 37 nm3)) rfl rfl rfl ?_
          exact t121 _ (by rw [if_pos (Int32.lt_iff_le_and_ne.mpr ⟨e3, fun z => hz z.symm⟩)])
        · refine V.kn [4, 3, 2, 0, 1] [(4, .int (ab - ((ar 6) t))), (3, .int (o1 + o2)), (2, .int az), (0, .ref 0), (1, .int (nI t))] [.int (nI 0), .int (nI 0), .int (nI t), .int (nI 0), .int v, .int (nI 2), .ref 0] (pM fv (upa (upa (upa ar 38 (upd (ar 38) t pu)) 36 sk3) 37 nm3)) rfl rfl rfl ?_
          exact t121 _ (by rw [if_neg (fun z => e3 (Int32.le_of_lt z))])
      refine And.intro (fun e5 => ?_) (fun e5 => ?_)
      · refine V.kn [4, 3, 2, 0, 1] [(4, .int (ab - ((ar 6) t))), (3, .int (o1 + o2)), (2, .int az), (0, .ref 0), (1, .int (nI t))] [.int (ab - ((ar 6) t)), .int (nI 2), .ref 0] (pM fv (upa (upa (upa ar 38 (upd (ar 38) t pu)) 36 sk3) 37 nm3)) rfl rfl rfl ?_
        exact t109 _ (by unfold mn99; by_cases q : ab - ar 6 t < nI 99; rw [if_pos q]; rw [if_neg q]; exact Int32.le_antisymm e5 (Int32.not_lt.mp q))
      · refine V.kn [4, 3, 2, 0, 1] [(4, .int (ab - ((ar 6) t))), (3, .int (o1 + o2)), (2, .int az), (0, .ref 0), (1, .int (nI t))] [.int (nI 99), .int (nI 2), .ref 0] (pM fv (upa (upa (upa ar 38 (upd (ar 38) t pu)) 36 sk3) 37 nm3)) rfl rfl rfl ?_
        exact t109 _ (by have e6 : ¬ ab - ar 6 t ≤ nI 99 := e5; unfold mn99; rw [if_neg (fun q => e6 (Int32.le_of_lt q))]; try rfl)
  refine V.g2 60 [27, 43, 109, 121] mX7_tenths_ok rfl ?_
  refine ⟨t, by omega, rfl, rfl, ?_⟩
  refine zp_ne t 0 (fun e0 => ?_) (fun e0 => ?_) rfl rfl
  · refine ⟨(t - 1), by omega, (nsub (by omega) rfl rfl), rfl, ?_⟩
    refine V.g2 60 [27, 43, 109, 121] mX7_tenths_ok rfl ?_
    refine ⟨t, by omega, rfl, rfl, ?_⟩
    refine And.intro (show ¬ (nI 8) = 0 by decide) ?_
    have hpp : upd (ar 38) t pu t = pu := pk_us
    refine V.kn [2, 0, 1] [(2, .int (((ar 39) (t - 1)) - ((((upd (ar 38) t pu) t) * (fv 5)) / (nI 8)))), (0, .ref 0), (1, .int (nI t))] [] (pM fv (upa (upa (upa ar 36 sk) 37 nm) 38 (upd (ar 38) t pu))) rfl rfl rfl ?_
    exact t43 _ (by rw [ha0, if_neg e0]; show _ - upd (ar 38) t pu t * _ / _ = _; rw [hpp]; try rfl)
  · refine V.g2 60 [27, 43, 109, 121] mX7_tenths_ok rfl ?_
    refine ⟨t, by omega, rfl, rfl, ?_⟩
    refine And.intro (show ¬ (nI 8) = 0 by decide) ?_
    have hpp : upd (ar 38) t pu t = pu := pk_us
    refine V.kn [2, 0, 1] [(2, .int ((nI 0) - ((((upd (ar 38) t pu) t) * (fv 5)) / (nI 8)))), (0, .ref 0), (1, .int (nI t))] [] (pM fv (upa (upa (upa ar 36 sk) 37 nm) 38 (upd (ar 38) t pu))) rfl rfl rfl ?_
    exact t43 _ (by rw [ha0, if_pos e0]; show _ - upd (ar 38) t pu t * _ / _ = _; rw [hpp]; try rfl)
def T7_rolls : zT := fun args hs Q => ∃ (fv : Nat → Int32) (ar : Nat → fI) (P : zP), mOk fv ar P ∧ args = [.ref 0] ∧ hs = pM fv ar ∧ ∀ q : RT, q = rlF (cM fv ar) P (ar 4) 30 → ∀ sk nm pl az cs, (∀ k, k < 30 → pl k = (rlF (cM fv ar) P (ar 4) (k + 1)).1 ∧ az k = (rlF (cM fv ar) P (ar 4) (k + 1)).2.1 ∧ cs k = (rlF (cM fv ar) P (ar 4) (k + 1)).2.2.1) → Q none (pM (f4 fv q) (r5 ar sk nm pl az cs))
set_option maxHeartbeats 4000000 in
theorem c7_rolls (l : Launch) : Ct l mX7_rolls false 7 0 0 T7_rolls := by
  refine Ct.intro mX7_rolls_ok ?_
  rintro args hs Q ⟨fv, ar, P, hM, rfl, rfl, h⟩
  refine ⟨Nat.le_of_ble_eq_true rfl, ?_⟩
  generalize hS : pM fv ar = S
  have loop : ∀ (m t : Nat) (x : Int32) (q : RT) (sk nm pl az cs : fI), t + m = 30 → x = nI t → q = rlF (cM fv ar) P (ar 4) t → (∀ k, k < t → pl k = (rlF (cM fv ar) P (ar 4) (k + 1)).1 ∧ az k = (rlF (cM fv ar) P (ar 4) (k + 1)).2.1 ∧ cs k = (rlF (cM fv ar) P (ar 4) (k + 1)).2.2.1) → V l mX7_rolls false S (zrm 7 0 0) (zFm false S Q 0 0) 0 0 6 [(1, .int x), (0, .ref 0)] [] (pM (upf (upf (upf (upf fv 41 q.2.2.2.1) 42 q.2.2.2.2.1) 43 q.2.2.2.2.2.1) 44 q.2.2.2.2.2.2) (upa (upa (upa (upa (upa ar 36 sk) 37 nm) 38 pl) 39 az) 40 cs)) := by
    intro m
    induction m with
    | zero =>
      intro t x q sk nm pl az cs ht hx hq hr
      obtain rfl : t = 30 := by omega
      refine V.g2 60 [6] mX7_rolls_ok rfl ?_
      refine pk_le 30 30 (fun e0 => ?_) (fun e0 => absurd e0 (by omega)) rfl hx
      exact ⟨_, zsim_rfl _, h q hq sk nm pl az cs hr⟩
    | succ m ih =>
      intro t x q sk nm pl az cs ht hx hq hr
      refine V.g2 60 [6] mX7_rolls_ok rfl ?_
      refine pk_le 30 t (fun e => absurd e (by omega)) (fun e => ?_) rfl hx
      refine V.cw mX7_rolls_ok rfl lX7_250 (c7_tenths l) rfl 0 7 rfl rfl rfl rfl rfl rfl ⟨(upf (upf (upf (upf fv 41 q.2.2.2.1) 42 q.2.2.2.2.1) 43 q.2.2.2.2.2.1) 44 q.2.2.2.2.2.2), (upa (upa (upa (upa (upa ar 36 sk) 37 nm) 38 pl) 39 az) 40 cs), _, _, t, P, by omega, hx, hM, rfl, rfl, rfl, fun q2 hq2 sk2 nm2 => ⟨rfl, ?_⟩⟩
      have hq3 : q2 = rlF (cM fv ar) P (ar 4) (t + 1) := by
        rw [hq2, rlF, ← hq]
        refine congrArg (fun z => stF (cM fv ar) P (ar 4) t (0, z, 0, q.2.2.2.1, q.2.2.2.2.1, q.2.2.2.2.2.1, q.2.2.2.2.2.2)) ?_
        show (if t = 0 then 0 else az (t - 1)) = q.2.1
        rcases Nat.eq_zero_or_pos t with e | e
        · subst e
          rw [if_pos rfl, hq]; rfl
        · rw [if_neg (by omega), (hr (t - 1) (by omega)).2.1, hq, show t - 1 + 1 = t by omega]
      refine V.g2 60 [6] mX7_rolls_ok rfl ?_
      refine V.kn [1, 0] [(1, .int (x + zi 1)), (0, .ref 0)] [] (pM (upf (upf (upf (upf fv 41 q2.2.2.2.1) 42 q2.2.2.2.2.1) 43 q2.2.2.2.2.2.1) 44 q2.2.2.2.2.2.2) (upa (upa (upa (upa (upa ar 36 sk2) 37 nm2) 38 (upd pl t q2.1)) 39 (upd az t q2.2.1)) 40 (upd cs t q2.2.2.1))) rfl rfl rfl ?_
      refine ih (t + 1) _ q2 sk2 nm2 (upd pl t q2.1) (upd az t q2.2.1) (upd cs t q2.2.2.1) (by omega) (ninc hx) hq3 (fun k hk => ?_)
      by_cases e : k = t
      · subst e
        rw [pk_us, pk_us, pk_us, hq3]
        exact ⟨rfl, rfl, rfl⟩
      · rw [pk_un e, pk_un e, pk_un e]
        exact hr k (by omega)
  subst hS
  refine V.g2 60 [6] mX7_rolls_ok rfl ?_
  refine V.cw mX7_rolls_ok rfl lX7_247 (c7_begins l) rfl 0 7 rfl rfl rfl rfl rfl rfl ⟨fv, ar, rfl, rfl, rfl, ?_⟩
  refine V.g2 60 [6] mX7_rolls_ok rfl ?_
  refine V.kn [1, 0] [(1, .int (nI 0)), (0, .ref 0)] [] (pM (upf (upf (upf (upf fv 41 (0 : Int32)) 42 (0 : Int32)) 43 (0 : Int32)) 44 (0 : Int32)) ar) rfl rfl rfl ?_
  exact loop 30 0 _ r0 (ar 36) (ar 37) (ar 38) (ar 39) (ar 40) rfl rfl rfl (fun k hk => absurd hk (by omega))
def T7_farNow : zT := fun args hs Q => ∃ (fv : Nat → Int32) (ar : Nat → fI) (P : zP), mOk fv ar P ∧ args = [.ref 0] ∧ hs = pM fv ar ∧ ∀ r : Int32, r = faF (cM fv ar) P → ∀ (q : RT) (sk nm pl az cs : fI), Q (some (.int r)) (pM (f4 fv q) (r5 ar sk nm pl az cs))
theorem c7_farNow (l : Launch) : Ct l mX7_farNow false 8 0 0 T7_farNow := by
  refine Ct.intro mX7_farNow_ok ?_
  rintro args hs Q ⟨fv, ar, P, hM, rfl, rfl, h⟩
  refine ⟨Nat.le_of_ble_eq_true rfl, ?_⟩
  refine V.g2 60 [] mX7_farNow_ok rfl ?_
  refine V.cw mX7_farNow_ok rfl lX7_253 (c7_rolls l) rfl 0 7 rfl rfl rfl rfl rfl rfl ⟨fv, ar, P, hM, rfl, rfl, fun q hq sk nm pl az cs hr => ⟨rfl, ?_⟩⟩
  refine V.g2 60 [] mX7_farNow_ok rfl ?_
  exact ⟨_, zsim_rfl _, h _ (by show q.2.2.2.2.2.2 = faF (cM fv ar) P; rw [hq]; unfold faF; with_reducible rfl) q sk nm pl az cs⟩
def T7_costNow : zT := fun args hs Q => ∃ (fv : Nat → Int32) (ar : Nat → fI) (P : zP), mOk fv ar P ∧ args = [.ref 0] ∧ hs = pM fv ar ∧ ∀ r : Int32, r = coF (cM fv ar) P → ∀ (q : RT) (sk nm pl az cs : fI), Q (some (.int r)) (pM (f4 fv q) (r5 ar sk nm pl az cs))
theorem c7_costNow (l : Launch) : Ct l mX7_costNow false 8 0 0 T7_costNow := by
  refine Ct.intro mX7_costNow_ok ?_
  rintro args hs Q ⟨fv, ar, P, hM, rfl, rfl, h⟩
  refine ⟨Nat.le_of_ble_eq_true rfl, ?_⟩
  refine V.g2 60 [] mX7_costNow_ok rfl ?_
  refine V.cw mX7_costNow_ok rfl lX7_253 (c7_rolls l) rfl 0 7 rfl rfl rfl rfl rfl rfl ⟨fv, ar, P, hM, rfl, rfl, fun q hq sk nm pl az cs hr => ⟨rfl, ?_⟩⟩
  refine V.g2 60 [] mX7_costNow_ok rfl ?_
  exact ⟨_, zsim_rfl _, h _ (by show q.2.2.2.1 + q.2.2.2.2.1 = coF (cM fv ar) P; rw [hq]; unfold coF; with_reducible rfl) q sk nm pl az cs⟩
