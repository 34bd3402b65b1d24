theorem kOk_0 {mo ki lo ha wi : fI} {pa : Int32} : kOk ((fun _ => 0), mo, ki, lo, ha, wi, pa) := by
  intro u hu
  have q : kw ((fun _ => 0), mo, ki, lo, ha, wi, pa) u = 0 := by show (0 : Int32).toNatClampNeg = 0; decide
  rw [q]
  exact ⟨by omega, rfl⟩
def T7_which : zT := fun args hs Q => ∃ (fv : Nat → Int32) (ar : Nat → fI) (x : Int32) (P : zP), mOk fv ar P ∧ shOk ar ∧ args = [.ref 0, .int x] ∧ hs = pM fv ar ∧ (wiB x 3 = false → Q (some (.int (-2))) hs) ∧ (∀ s, s < 4 → x = nI s → ¬ flW (ar 23 s) (ar 24 s) = 0 → Q (some (.int (flW (ar 23 s) (ar 24 s)))) hs) ∧ (∀ s n, s < 4 → x = nI s → flW (ar 23 s) (ar 24 s) = 0 → n ≤ 30 → ar 24 s = nI n → ∀ r : Int32, r = btF (fun w => anB (fun k => foB (cwB (cM fv ar) w k) P (ceF (ar 25) s) n) 60) 4 → ∀ fv2 ar2, kM fv ar fv2 ar2 → Q (some (.int r)) (pM fv2 ar2))
set_option maxHeartbeats 500000 in
theorem c7_which (l : Launch) : Ct l mX7_which false 10 0 0 T7_which := by
  refine Ct.intro mX7_which_ok ?_
  rintro args hs Q ⟨fv, ar, x, P, hM, hsh, rfl, rfl, h0, h1, h2⟩
  refine ⟨Nat.le_of_ble_eq_true rfl, ?_⟩
  refine V.g2 60 [12, 14, 63, 68, 93, 94, 101, 104, 144] mX7_which_ok rfl ?_
  refine V.cw mX7_which_ok rfl lX7_308 (c7_sheetWrong l) rfl 0 7 rfl rfl rfl rfl rfl rfl ⟨fv, ar, _, rfl, rfl, fun hb => ⟨rfl, ?_⟩, fun s hs hx w hw => ⟨rfl, ?_⟩⟩
  · refine V.g2 60 [12, 14, 63, 68, 93, 94, 101, 104, 144] mX7_which_ok rfl ?_
    refine And.intro (fun (e0 : (-2 : Int32) = (0 : Int32)) => absurd e0 (show ¬ (-2 : Int32) = 0 by decide)) (fun (e0 : ¬ (-2 : Int32) = (0 : Int32)) => ?_)
    exact ⟨_, zsim_rfl _, h0 hb⟩
  · refine V.g2 60 [12, 14, 63, 68, 93, 94, 101, 104, 144] mX7_which_ok rfl ?_
    refine And.intro (fun (e : w = (0 : Int32)) => ?_) (fun (e : ¬ w = (0 : Int32)) => ?_)
    · obtain ⟨n, hn, hsz⟩ := flW_n hsh hs (hw.symm.trans e)
      replace hw := hw.symm.trans e
      have h := h2 s n hs hx hw hn hsz
      clear h0 h1 h2
      subst hx
      generalize hS : pM fv ar = S
      have loop3 : ∀ (m i : Nat) (x4 x3 : Int32) (kd mo kk km : fI) (q : RT) (sk nm pl az cs : fI), i + m = 4 → x4 = nI i → x3 = btF (fun w => anB (fun k => foB (cwB (cM fv ar) w k) P (ceF (ar 25) s) n) 60) 4 → (∀ u, u < 4 → kk u = ar 0 u ∧ km u = ar 1 u) → (∀ u, u < i → kd u = ar 0 u ∧ mo u = ar 1 u) → V l mX7_which false S (zrm 10 0 0) (zFm false S Q 0 0) 0 0 104 [(4, .int x4), (3, .int x3), (0, .ref 0), (1, .int (nI s))] [] (pM (upf (upf (upf (upf fv 41 q.2.2.2.1) 42 q.2.2.2.2.1) 43 q.2.2.2.2.2.1) 44 q.2.2.2.2.2.2) (upa (upa (upa (upa (upa (upa (upa (upa (upa ar 0 kd) 1 mo) 36 sk) 37 nm) 38 pl) 39 az) 40 cs) 50 kk) 51 km)) := by
        intro m
        induction m with
        | zero =>
          intro i x4 x3 kd mo kk km q sk nm pl az cs hi h4 h3 hkk hkd
          obtain rfl : i = 4 := by omega
          refine V.g2 60 [12, 14, 63, 68, 93, 94, 101, 104, 144] mX7_which_ok rfl ?_
          refine pk_le 4 4 (fun e0 => ?_) (fun e0 => absurd e0 (by omega)) rfl h4
          refine V.nm [(4, .int x4), (3, .int x3), (0, .ref 0), (1, .int (nI s))] [] (pM (upf (upf (upf (upf fv 41 q.2.2.2.1) 42 q.2.2.2.2.1) 43 q.2.2.2.2.2.1) 44 q.2.2.2.2.2.2) (upa (upa (upa (upa (upa (upa (upa (upa (upa ar 1 mo) 36 sk) 37 nm) 38 pl) 39 az) 40 cs) 50 kk) 51 km) 0 kd)) rfl rfl rfl ?_
          refine V.sim (zsm0 (y := (ar 0)) (fun u hu => (hkd u hu).1)) ?_
          refine V.nm [(4, .int x4), (3, .int x3), (0, .ref 0), (1, .int (nI s))] [] (pM (upf (upf (upf (upf fv 41 q.2.2.2.1) 42 q.2.2.2.2.1) 43 q.2.2.2.2.2.1) 44 q.2.2.2.2.2.2) (upa (upa (upa (upa (upa (upa (upa (upa (upa ar 0 (ar 0)) 36 sk) 37 nm) 38 pl) 39 az) 40 cs) 50 kk) 51 km) 1 mo)) rfl rfl rfl ?_
          refine V.sim (zsm1 (y := (ar 1)) (fun u hu => (hkd u hu).2)) ?_
          refine V.g2 60 [12, 14, 63, 68, 93, 94, 101, 104, 144] mX7_which_ok rfl ?_
          refine ⟨_, zsim_rfl _, ?_⟩
          exact h _ h3 (upf (upf (upf (upf fv 41 q.2.2.2.1) 42 q.2.2.2.2.1) 43 q.2.2.2.2.2.1) 44 q.2.2.2.2.2.2) (upa (upa (upa (upa (upa (upa (upa (upa (upa ar 0 (ar 0)) 36 sk) 37 nm) 38 pl) 39 az) 40 cs) 50 kk) 51 km) 1 (ar 1)) ⟨⟨rfl, rfl, rfl, rfl, rfl, rfl, rfl, rfl, rfl, rfl, rfl⟩, ⟨rfl, rfl, rfl, rfl, rfl, rfl, rfl, rfl, rfl, rfl, rfl, rfl, rfl, rfl, rfl, rfl⟩⟩
        | succ m ih =>
          intro i x4 x3 kd mo kk km q sk nm pl az cs hi h4 h3 hkk hkd
          refine V.g2 60 [12, 14, 63, 68, 93, 94, 101, 104, 144] mX7_which_ok rfl ?_
          refine pk_le 4 i (fun e => absurd e (by omega)) (fun e => ?_) rfl h4
          refine ⟨i, by omega, h4, rfl, ?_⟩
          refine ⟨i, by omega, h4, rfl, ?_⟩
          refine ⟨i, by omega, h4, rfl, ?_⟩
          refine ⟨i, by omega, h4, rfl, ?_⟩
          refine V.kn [4, 3, 0, 1] [(4, .int (x4 + zi 1)), (3, .int x3), (0, .ref 0), (1, .int (nI s))] [] (pM (upf (upf (upf (upf fv 41 q.2.2.2.1) 42 q.2.2.2.2.1) 43 q.2.2.2.2.2.1) 44 q.2.2.2.2.2.2) (upa (upa (upa (upa (upa (upa (upa (upa (upa ar 0 (upd kd i (kk i))) 1 (upd mo i (km i))) 36 sk) 37 nm) 38 pl) 39 az) 40 cs) 50 kk) 51 km)) rfl rfl rfl ?_
          refine ih (i + 1) _ _ _ _ _ _ q sk nm pl az cs (by omega) (ninc h4) h3 hkk (fun u hu => ?_)
          by_cases e : u = i
          · subst e
            rw [pk_us, pk_us]
            exact hkk u (by omega)
          · rw [pk_un e, pk_un e]
            exact hkd u (by omega)
      have loop2 : ∀ (m i : Nat) (x4 x3 : Int32) (kk km : fI) (q : RT) (sk nm pl az cs : fI), i + m = 4 → x4 = nI i → x3 = btF (fun w => anB (fun k => foB (cwB (cM fv ar) w k) P (ceF (ar 25) s) n) 60) i → (∀ u, u < 4 → kk u = ar 0 u ∧ km u = ar 1 u) → V l mX7_which false S (zrm 10 0 0) (zFm false S Q 0 0) 0 0 68 [(4, .int x4), (3, .int x3), (0, .ref 0), (1, .int (nI s))] [] (pM (upf (upf (upf (upf fv 41 q.2.2.2.1) 42 q.2.2.2.2.1) 43 q.2.2.2.2.2.1) 44 q.2.2.2.2.2.2) (upa (upa (upa (upa (upa (upa (upa (upa (upa ar 0 (fun _ => 0)) 1 (fun _ => 0)) 36 sk) 37 nm) 38 pl) 39 az) 40 cs) 50 kk) 51 km)) := by
        intro m
        induction m with
        | zero =>
          intro i x4 x3 kk km q sk nm pl az cs hi h4 h3 hkk
          obtain rfl : i = 4 := by omega
          refine V.g2 60 [12, 14, 63, 68, 93, 94, 101, 104, 144] mX7_which_ok rfl ?_
          refine pk_le 4 4 (fun e0 => ?_) (fun e0 => absurd e0 (by omega)) rfl h4
          refine V.g2 60 [12, 14, 63, 68, 93, 94, 101, 104, 144] mX7_which_ok rfl ?_
          refine V.kn [4, 3, 0, 1] [(4, .int (nI 0)), (3, .int x3), (0, .ref 0), (1, .int (nI s))] [] (pM (upf (upf (upf (upf fv 41 q.2.2.2.1) 42 q.2.2.2.2.1) 43 q.2.2.2.2.2.1) 44 q.2.2.2.2.2.2) (upa (upa (upa (upa (upa (upa (upa (upa (upa ar 0 (fun _ => 0)) 1 (fun _ => 0)) 36 sk) 37 nm) 38 pl) 39 az) 40 cs) 50 kk) 51 km)) rfl rfl rfl ?_
          exact loop3 4 0 _ _ _ _ kk km q sk nm pl az cs rfl rfl h3 hkk (fun u hu => absurd hu (by omega))
        | succ m ih =>
          intro i x4 x3 kk km q sk nm pl az cs hi h4 h3 hkk
          have e4 : x4 = nI i := h4
          subst e4
          refine V.g2 60 [12, 14, 63, 68, 93, 94, 101, 104, 144] mX7_which_ok rfl ?_
          refine pk_le 4 i (fun e => absurd e (by omega)) (fun e => ?_) rfl rfl
          refine V.cw mX7_which_ok rfl lX7_314 (c7_isAny l) rfl 0 7 rfl rfl rfl rfl rfl rfl ⟨(upf (upf (upf (upf fv 41 q.2.2.2.1) 42 q.2.2.2.2.1) 43 q.2.2.2.2.2.1) 44 q.2.2.2.2.2.2), (upa (upa (upa (upa (upa (upa (upa (upa (upa ar 0 (fun _ => 0)) 1 (fun _ => 0)) 36 sk) 37 nm) 38 pl) 39 az) 40 cs) 50 kk) 51 km), _, _, s, n, i, P, (fun _ => 0), (fun _ => 0), ⟨kOk_0, hM.2⟩, hs, rfl, by omega, rfl, hn, hsz, rfl, rfl, rfl, rfl, fun B hB q2 sk2 nm2 pl2 az2 cs2 => ⟨rfl, ?_⟩⟩
          have hz : upd (fun _ => (0 : Int32)) i 0 = fun _ => 0 := by funext u; unfold upd; split <;> rfl
          replace hB : B = anB (fun k => foB (cwB (cM fv ar) i k) P (ceF (ar 25) s) n) 60 := hB
          rcases B with _ | _
          · refine V.nm [(4, .int (nI i)), (3, .int x3), (0, .ref 0), (1, .int (nI s))] [.int (bI false), .int x3] (pM (upf (upf (upf (upf fv 41 q2.2.2.2.1) 42 q2.2.2.2.2.1) 43 q2.2.2.2.2.2.1) 44 q2.2.2.2.2.2.2) (upa (upa (upa (upa (upa (upa (upa (upa (upa ar 0 (upd (fun _ => 0) i 0)) 1 (upd (fun _ => 0) i 0)) 36 sk2) 37 nm2) 38 pl2) 39 az2) 40 cs2) 50 kk) 51 km)) rfl rfl rfl ?_
            rw [hz]
            refine V.g2 60 [12, 14, 63, 68, 93, 94, 101, 104, 144] mX7_which_ok rfl ?_
            refine And.intro (fun _ => ?_) (fun e => absurd rfl e)
            refine V.g2 60 [12, 14, 63, 68, 93, 94, 101, 104, 144] mX7_which_ok rfl ?_
            refine V.g2 60 [12, 14, 63, 68, 93, 94, 101, 104, 144] mX7_which_ok rfl ?_
            refine V.kn [4, 3, 0, 1] [(4, .int ((nI i) + zi 1)), (3, .int (x3 ||| (nI 0))), (0, .ref 0), (1, .int (nI s))] [] (pM (upf (upf (upf (upf fv 41 q2.2.2.2.1) 42 q2.2.2.2.2.1) 43 q2.2.2.2.2.2.1) 44 q2.2.2.2.2.2.2) (upa (upa (upa (upa (upa (upa (upa (upa (upa ar 0 (fun _ => 0)) 1 (fun _ => 0)) 36 sk2) 37 nm2) 38 pl2) 39 az2) 40 cs2) 50 kk) 51 km)) rfl rfl rfl ?_
            exact ih (i + 1) _ _ kk km q2 sk2 nm2 pl2 az2 cs2 (by omega) (ninc rfl) (by rw [h3]; exact Int32.or_zero.trans (btF_f (p := (fun w => anB (fun k => foB (cwB (cM fv ar) w k) P (ceF (ar 25) s) n) 60)) hB.symm).symm) hkk
          · refine V.nm [(4, .int (nI i)), (3, .int x3), (0, .ref 0), (1, .int (nI s))] [.int (bI true), .int x3] (pM (upf (upf (upf (upf fv 41 q2.2.2.2.1) 42 q2.2.2.2.2.1) 43 q2.2.2.2.2.2.1) 44 q2.2.2.2.2.2.2) (upa (upa (upa (upa (upa (upa (upa (upa (upa ar 0 (upd (fun _ => 0) i 0)) 1 (upd (fun _ => 0) i 0)) 36 sk2) 37 nm2) 38 pl2) 39 az2) 40 cs2) 50 kk) 51 km)) rfl rfl rfl ?_
            rw [hz]
            refine V.g2 60 [12, 14, 63, 68, 93, 94, 101, 104, 144] mX7_which_ok rfl ?_
            refine And.intro (fun e => absurd e (by decide)) (fun _ => ?_)
            refine V.g2 60 [12, 14, 63, 68, 93, 94, 101, 104, 144] mX7_which_ok rfl ?_
            refine V.g2 60 [12, 14, 63, 68, 93, 94, 101, 104, 144] mX7_which_ok rfl ?_
            refine V.kn [4, 3, 0, 1] [(4, .int ((nI i) + zi 1)), (3, .int (x3 ||| ((nI 1) <<< ((nI i) &&& 31)))), (0, .ref 0), (1, .int (nI s))] [] (pM (upf (upf (upf (upf fv 41 q2.2.2.2.1) 42 q2.2.2.2.2.1) 43 q2.2.2.2.2.2.1) 44 q2.2.2.2.2.2.2) (upa (upa (upa (upa (upa (upa (upa (upa (upa ar 0 (fun _ => 0)) 1 (fun _ => 0)) 36 sk2) 37 nm2) 38 pl2) 39 az2) 40 cs2) 50 kk) 51 km)) rfl rfl rfl ?_
            exact ih (i + 1) _ _ kk km q2 sk2 nm2 pl2 az2 cs2 (by omega) (ninc rfl) (by rw [h3]; exact (btF_t (p := (fun w => anB (fun k => foB (cwB (cM fv ar) w k) P (ceF (ar 25) s) n) 60)) hB.symm).symm) hkk
      have loop1 : ∀ (m i : Nat) (x3 : Int32) (kd mo kk km : fI), i + m = 4 → x3 = nI i → (∀ u, u < i → kk u = ar 0 u ∧ km u = ar 1 u) → (∀ u, u < i → kd u = 0 ∧ mo u = 0) → (∀ u, u < 4 → i ≤ u → kd u = ar 0 u ∧ mo u = ar 1 u) → V l mX7_which false S (zrm 10 0 0) (zFm false S Q 0 0) 0 0 14 [(3, .int x3), (0, .ref 0), (1, .int (nI s))] [] (pM fv (upa (upa (upa (upa ar 0 kd) 1 mo) 50 kk) 51 km)) := by
        intro m
        induction m with
        | zero =>
          intro i x3 kd mo kk km hi h3 hkk hkd hre
          obtain rfl : i = 4 := by omega
          refine V.g2 60 [12, 14, 63, 68, 93, 94, 101, 104, 144] mX7_which_ok rfl ?_
          refine pk_le 4 4 (fun e0 => ?_) (fun e0 => absurd e0 (by omega)) rfl h3
          refine V.nm [(3, .int x3), (0, .ref 0), (1, .int (nI s))] [] (pM fv (upa (upa (upa (upa ar 1 mo) 50 kk) 51 km) 0 kd)) rfl rfl rfl ?_
          refine V.sim (zsm0 (y := (fun _ => 0)) (fun u hu => (hkd u hu).1)) ?_
          refine V.nm [(3, .int x3), (0, .ref 0), (1, .int (nI s))] [] (pM fv (upa (upa (upa (upa ar 0 (fun _ => 0)) 50 kk) 51 km) 1 mo)) rfl rfl rfl ?_
          refine V.sim (zsm1 (y := (fun _ => 0)) (fun u hu => (hkd u hu).2)) ?_
          refine V.g2 60 [12, 14, 63, 68, 93, 94, 101, 104, 144] mX7_which_ok rfl ?_
          refine V.kn [4, 3, 0, 1] [(4, .int (nI 0)), (3, .int (nI 0)), (0, .ref 0), (1, .int (nI s))] [] (pM fv (upa (upa (upa (upa ar 0 (fun _ => 0)) 1 (fun _ => 0)) 50 kk) 51 km)) rfl rfl rfl ?_
          exact loop2 4 0 _ _ kk km (0, 0, 0, fv 41, fv 42, fv 43, fv 44) (ar 36) (ar 37) (ar 38) (ar 39) (ar 40) rfl rfl rfl hkk
        | succ m ih =>
          intro i x3 kd mo kk km hi h3 hkk hkd hre
          refine V.g2 60 [12, 14, 63, 68, 93, 94, 101, 104, 144] mX7_which_ok rfl ?_
          refine pk_le 4 i (fun e => absurd e (by omega)) (fun e => ?_) rfl h3
          refine ⟨i, by omega, h3, rfl, ?_⟩
          refine ⟨i, by omega, h3, rfl, ?_⟩
          refine ⟨i, by omega, h3, rfl, ?_⟩
          refine ⟨i, by omega, h3, rfl, ?_⟩
          refine ⟨i, by omega, h3, rfl, ?_⟩
          refine ⟨i, by omega, h3, rfl, ?_⟩
          refine V.kn [3, 0, 1] [(3, .int (x3 + zi 1)), (0, .ref 0), (1, .int (nI s))] [] (pM fv (upa (upa (upa (upa ar 0 (upd kd i (nI 0))) 1 (upd mo i (nI 0))) 50 (upd kk i (kd i))) 51 (upd km i (mo i)))) rfl rfl rfl ?_
          refine ih (i + 1) _ _ _ _ _ (by omega) (ninc h3) (fun u hu => ?_) (fun u hu => ?_) (fun u hu hu2 => ?_)
          · by_cases e : u = i
            · subst e
              rw [pk_us, pk_us]
              exact hre u (by omega) (Nat.le_refl _)
            · rw [pk_un e, pk_un e]
              exact hkk u (by omega)
          · by_cases e : u = i
            · subst e
              rw [pk_us, pk_us]
              exact ⟨rfl, rfl⟩
            · rw [pk_un e, pk_un e]
              exact hkd u (by omega)
          · rw [pk_un (by omega), pk_un (by omega)]
            exact hre u hu (by omega)
      subst hS
      refine V.g2 60 [12, 14, 63, 68, 93, 94, 101, 104, 144] mX7_which_ok rfl ?_
      refine V.kn [3, 0, 1] [(3, .int (nI 0)), (0, .ref 0), (1, .int (nI s))] [] (pM fv ar) rfl rfl rfl ?_
      exact loop1 4 0 _ (ar 0) (ar 1) (ar 50) (ar 51) rfl rfl (fun u hu => absurd hu (by omega)) (fun u hu => absurd hu (by omega)) (fun u hu hu2 => ⟨rfl, rfl⟩)
    · exact ⟨_, zsim_rfl _, (by have q := h1 s hs hx (fun z => e (hw.trans z)); rw [← hw] at q; exact q)⟩
