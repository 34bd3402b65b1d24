/-! ===== the reference: held, laws, film, the row's small words ===== -/
def T7_held : zT := fun args hs Q => ∃ (fv : Nat → Int32) (ar : Nat → fI) (x y : Int32) (P : zP), mOk fv ar P ∧ shOk ar ∧ args = [.ref 0, .int x, .int y] ∧ hs = pM fv ar ∧ (wiB x 3 = false → Q (some (.int (-2))) hs) ∧ (∀ s, s < 4 → x = nI s → ¬ flW (ar 23 s) (ar 24 s) = 0 → Q (some (.int (flW (ar 23 s) (ar 24 s)))) hs) ∧ (∀ s, s < 4 → x = nI s → flW (ar 23 s) (ar 24 s) = 0 → wiB y 1 = false → Q (some (.int (-7))) hs) ∧ (∀ s n j, s < 4 → x = nI s → flW (ar 23 s) (ar 24 s) = 0 → n ≤ 30 → ar 24 s = nI n → j < 2 → y = nI j → ∀ r : Int32, r = (if j = 0 then ctB (fun h => foB (cwH (cM fv ar) (haH h)) P (ceF (ar 25) s) n) 100 else oI (fsF (fun h => foB (cwH (cM fv ar) (haH h)) P (ceF (ar 25) s) n) 100)) → ∀ fv2 ar2, kM fv ar fv2 ar2 → Q (some (.int r)) (pM fv2 ar2))
set_option maxHeartbeats 500000 in
theorem c7_held (l : Launch) : Ct l mX7_held false 9 0 0 T7_held := by
  refine Ct.intro mX7_held_ok ?_
  rintro args hs Q ⟨fv, ar, x, y, P, hM, hsh, rfl, rfl, h0, h1, h2, h3⟩
  refine ⟨Nat.le_of_ble_eq_true rfl, ?_⟩
  refine V.g2 60 [12, 37, 66, 80, 94] mX7_held_ok rfl ?_
  refine V.cw mX7_held_ok rfl lX7_308 (c7_sheetWrong l) rfl 0 7 rfl rfl rfl rfl rfl rfl ⟨fv, ar, _, rfl, rfl, fun hb => ⟨rfl, ?_⟩, fun s hs hx w hw => ⟨rfl, ?_⟩⟩
  · refine V.g2 60 [12, 37, 66, 80, 94] mX7_held_ok rfl ?_
    refine And.intro (fun (e0 : (-2 : Int32) = (0 : Int32)) => absurd e0 (show ¬ (-2 : Int32) = 0 by decide)) (fun (e0 : ¬ (-2 : Int32) = (0 : Int32)) => ?_)
    exact ⟨_, zsim_rfl _, h0 hb⟩
  · refine V.g2 60 [12, 37, 66, 80, 94] mX7_held_ok rfl ?_
    refine And.intro (fun (e : w = (0 : Int32)) => ?_) (fun (e : ¬ w = (0 : Int32)) => ?_)
    · obtain ⟨n, hn, hsz⟩ := flW_n hsh hs (hw.symm.trans e)
      replace hw := hw.symm.trans e
      refine V.g2 60 [12, 37, 66, 80, 94] mX7_held_ok rfl ?_
      refine V.cs mX7_held_ok rfl lX7_117 (c7_in l) rfl rfl rfl rfl ⟨_, _, _, rfl, fun B2 hB2 => ⟨rfl, ?_⟩⟩
      rcases B2 with _ | _
      · refine V.g2 60 [12, 37, 66, 80, 94] mX7_held_ok rfl ?_
        refine And.intro (fun e => absurd rfl e) (fun _ => ?_)
        exact ⟨_, zsim_rfl _, h2 s hs hx hw hB2.symm⟩
      · obtain ⟨j, hj, hy⟩ := wiB_t (n := 1) hB2.symm (by omega)
        have h := h3 s n j hs hx hw hn hsz hj hy
        clear h0 h1 h2 h3
        subst hx
        subst hy
        generalize hS : pM fv ar = S
        have loop : ∀ (m k : Nat) (x6 x5 x4 : Int32) (ha : fI) (q : RT) (sk nm pl az cs : fI), k + m = 100 → x6 = nI k → x4 = ctB (fun h => foB (cwH (cM fv ar) (haH h)) P (ceF (ar 25) s) n) k → x5 = oI (fsF (fun h => foB (cwH (cM fv ar) (haH h)) P (ceF (ar 25) s) n) k) → V l mX7_held false S (zrm 9 0 0) (zFm false S Q 0 0) 0 0 37 [(6, .int x6), (5, .int x5), (4, .int x4), (0, .ref 0), (1, .int (nI s)), (2, .int (nI j))] [] (pM (upf (upf (upf (upf (upf (upf fv 41 q.2.2.2.1) 42 q.2.2.2.2.1) 43 q.2.2.2.2.2.1) 44 q.2.2.2.2.2.2) 45 (ar 4 0)) 46 (ar 4 1)) (upa (upa (upa (upa (upa (upa ar 4 ha) 36 sk) 37 nm) 38 pl) 39 az) 40 cs)) := by
          intro m
          induction m with
          | zero =>
            intro k x6 x5 x4 ha q sk nm pl az cs hk h6 h4 h5
            obtain rfl : k = 100 := by omega
            refine V.g2 60 [12, 37, 66, 80, 94] mX7_held_ok rfl ?_
            refine pk_le 100 100 (fun e0 => ?_) (fun e0 => absurd e0 (by omega)) rfl h6
            refine V.cw mX7_held_ok rfl lX7_278 (c7_laysHands l) rfl 0 7 rfl rfl rfl rfl rfl rfl ⟨(upf (upf (upf (upf (upf (upf fv 41 q.2.2.2.1) 42 q.2.2.2.2.1) 43 q.2.2.2.2.2.1) 44 q.2.2.2.2.2.2) 45 (ar 4 0)) 46 (ar 4 1)), (upa (upa (upa (upa (upa (upa ar 4 ha) 36 sk) 37 nm) 38 pl) 39 az) 40 cs), rfl, rfl, rfl, ?_⟩
            refine V.nm [(6, .int x6), (5, .int x5), (4, .int x4), (0, .ref 0), (1, .int (nI s)), (2, .int (nI j))] [] (pM (upf (upf (upf (upf (upf (upf fv 41 q.2.2.2.1) 42 q.2.2.2.2.1) 43 q.2.2.2.2.2.1) 44 q.2.2.2.2.2.2) 45 (ar 4 0)) 46 (ar 4 1)) (upa (upa (upa (upa (upa (upa ar 36 sk) 37 nm) 38 pl) 39 az) 40 cs) 4 (h2F (ar 4 0) (ar 4 1)))) rfl rfl rfl ?_
            refine V.sim (zsm4 (y := (ar 4)) h2F_k) ?_
            refine V.g2 60 [12, 37, 66, 80, 94] mX7_held_ok rfl ?_
            refine zp_ne j 0 (fun e => ?_) (fun e => ?_) rfl rfl
            · refine ⟨_, zsim_rfl _, ?_⟩
              exact h _ (by rw [if_neg e]; exact h5) (upf (upf (upf (upf (upf (upf fv 41 q.2.2.2.1) 42 q.2.2.2.2.1) 43 q.2.2.2.2.2.1) 44 q.2.2.2.2.2.2) 45 (ar 4 0)) 46 (ar 4 1)) (upa (upa (upa (upa (upa (upa ar 4 (ar 4)) 36 sk) 37 nm) 38 pl) 39 az) 40 cs) ⟨⟨rfl, rfl, rfl, rfl, rfl, rfl, rfl, rfl, rfl, rfl, rfl⟩, ⟨rfl, rfl, rfl, rfl, rfl, rfl, rfl, rfl, rfl, rfl, rfl, rfl, rfl, rfl, rfl, rfl⟩⟩
            · refine ⟨_, zsim_rfl _, ?_⟩
              exact h _ (by rw [if_pos e]; exact h4) (upf (upf (upf (upf (upf (upf fv 41 q.2.2.2.1) 42 q.2.2.2.2.1) 43 q.2.2.2.2.2.1) 44 q.2.2.2.2.2.2) 45 (ar 4 0)) 46 (ar 4 1)) (upa (upa (upa (upa (upa (upa ar 4 (ar 4)) 36 sk) 37 nm) 38 pl) 39 az) 40 cs) ⟨⟨rfl, rfl, rfl, rfl, rfl, rfl, rfl, rfl, rfl, rfl, rfl⟩, ⟨rfl, rfl, rfl, rfl, rfl, rfl, rfl, rfl, rfl, rfl, rfl, rfl, rfl, rfl, rfl, rfl⟩⟩
          | succ m ih =>
            intro k x6 x5 x4 ha q sk nm pl az cs hk h6 h4 h5
            have e6 : x6 = nI k := h6
            subst e6
            refine V.g2 60 [12, 37, 66, 80, 94] mX7_held_ok rfl ?_
            refine pk_le 100 k (fun e => absurd e (by omega)) (fun e => ?_) rfl rfl
            refine And.intro (show ¬ (nI 10) = 0 by decide) ?_
            refine ⟨0, by omega, rfl, rfl, ?_⟩
            refine And.intro (show ¬ (nI 10) = 0 by decide) ?_
            refine ⟨1, by omega, rfl, rfl, ?_⟩
            refine V.nm [(6, .int (nI k)), (5, .int x5), (4, .int x4), (0, .ref 0), (1, .int (nI s)), (2, .int (nI j))] [] (pM (upf (upf (upf (upf (upf (upf fv 41 q.2.2.2.1) 42 q.2.2.2.2.1) 43 q.2.2.2.2.2.1) 44 q.2.2.2.2.2.2) 45 (ar 4 0)) 46 (ar 4 1)) (upa (upa (upa (upa (upa (upa ar 36 sk) 37 nm) 38 pl) 39 az) 40 cs) 4 (upd (upd ha 0 ((nI k) / (nI 10))) 1 ((nI k) - (nI k) / (nI 10) * (nI 10))))) rfl rfl rfl ?_
            refine V.sim (zsm4 (y := (haH k)) (haH_s (ndiv rfl rfl (by omega) (by omega) (by omega)) (nrem rfl rfl (by omega) (by omega) (by omega)))) ?_
            refine V.g2 60 [12, 37, 66, 80, 94] mX7_held_ok rfl ?_
            refine V.cw mX7_held_ok rfl lX7_311 (c7_unlike l) rfl 0 7 rfl rfl rfl rfl rfl rfl ⟨(upf (upf (upf (upf (upf (upf fv 41 q.2.2.2.1) 42 q.2.2.2.2.1) 43 q.2.2.2.2.2.1) 44 q.2.2.2.2.2.2) 45 (ar 4 0)) 46 (ar 4 1)), (upa (upa (upa (upa (upa (upa ar 36 sk) 37 nm) 38 pl) 39 az) 40 cs) 4 (haH k)), _, s, n, P, hM, hs, rfl, hn, hsz, rfl, rfl, fun r hr q2 sk2 nm2 pl2 az2 cs2 => ⟨rfl, ?_⟩⟩
            have hfo : r = oI (foF (cwH (cM fv ar) (haH k)) P (ceF (ar 25) s) n) := hr
            cases hq : foF (cwH (cM fv ar) (haH k)) P (ceF (ar 25) s) n with
            | none =>
              rw [hq] at hfo
              have hb : foB (cwH (cM fv ar) (haH k)) P (ceF (ar 25) s) n = true := by unfold foB; rw [hq]; rfl
              refine V.g2 60 [12, 37, 66, 80, 94] mX7_held_ok rfl ?_
              refine And.intro (fun (e5 : ¬ r = (-1 : Int32)) => absurd hfo e5) (fun (e5 : r = (-1 : Int32)) => ?_)
              refine V.g2 60 [12, 37, 66, 80, 94] mX7_held_ok rfl ?_
              refine pk_eq 1 0 (fun e0 => absurd e0 (by omega)) (fun e0 => ?_) rfl rfl
              refine V.g2 60 [12, 37, 66, 80, 94] mX7_held_ok rfl ?_
              refine pk_eq 1 0 (fun e0 => absurd e0 (by omega)) (fun e0 => ?_) rfl rfl
              cases hf : fsF (fun h => foB (cwH (cM fv ar) (haH h)) P (ceF (ar 25) s) n) k with
              | none =>
                rw [hf] at h5
                refine And.intro (fun (e7 : ¬ x5 = (-1 : Int32)) => absurd (show x5 = -1 from h5) e7) (fun (e7 : x5 = (-1 : Int32)) => ?_)
                refine V.kn [6, 5, 4, 0, 1, 2] [(6, .int ((nI k) + zi 1)), (5, .int (nI k)), (4, .int (x4 + (nI 1))), (0, .ref 0), (1, .int (nI s)), (2, .int (nI j))] [] (pM (upf (upf (upf (upf (upf (upf fv 41 q2.2.2.2.1) 42 q2.2.2.2.2.1) 43 q2.2.2.2.2.2.1) 44 q2.2.2.2.2.2.2) 45 (ar 4 0)) 46 (ar 4 1)) (upa (upa (upa (upa (upa (upa ar 4 (haH k)) 36 sk2) 37 nm2) 38 pl2) 39 az2) 40 cs2)) rfl rfl rfl ?_
                exact ih (k + 1) _ _ _ (haH k) q2 sk2 nm2 pl2 az2 cs2 (by omega) (ninc rfl) (by rw [h4]; exact (ctB_t (p := (fun h => foB (cwH (cM fv ar) (haH h)) P (ceF (ar 25) s) n)) hb).symm) (by rw [fsF_hit hf hb (Nat.lt_succ_self k)]; rfl)
              | some i =>
                rw [hf] at h5
                have hi := fsF_lt hf
                refine And.intro (fun (e7 : ¬ x5 = (-1 : Int32)) => ?_) (fun (e7 : x5 = (-1 : Int32)) => absurd ((show x5 = nI i from h5).symm.trans e7) (nI_m1 (by omega)))
                refine V.kn [6, 5, 4, 0, 1, 2] [(6, .int ((nI k) + zi 1)), (5, .int x5), (4, .int (x4 + (nI 1))), (0, .ref 0), (1, .int (nI s)), (2, .int (nI j))] [] (pM (upf (upf (upf (upf (upf (upf fv 41 q2.2.2.2.1) 42 q2.2.2.2.2.1) 43 q2.2.2.2.2.2.1) 44 q2.2.2.2.2.2.2) 45 (ar 4 0)) 46 (ar 4 1)) (upa (upa (upa (upa (upa (upa ar 4 (haH k)) 36 sk2) 37 nm2) 38 pl2) 39 az2) 40 cs2)) rfl rfl rfl ?_
                exact ih (k + 1) _ _ _ (haH k) q2 sk2 nm2 pl2 az2 cs2 (by omega) (ninc rfl) (by rw [h4]; exact (ctB_t (p := (fun h => foB (cwH (cM fv ar) (haH h)) P (ceF (ar 25) s) n)) hb).symm) (by rw [fsF_up hf 1]; exact h5)
            | some i =>
              rw [hq] at hfo
              have hi := fsF_lt hq
              have hb : foB (cwH (cM fv ar) (haH k)) P (ceF (ar 25) s) n = false := by unfold foB; rw [hq]; rfl
              refine V.g2 60 [12, 37, 66, 80, 94] mX7_held_ok rfl ?_
              refine And.intro (fun (e5 : ¬ r = (-1 : Int32)) => ?_) (fun (e5 : r = (-1 : Int32)) => absurd ((show r = nI i from hfo).symm.trans e5) (nI_m1 (by omega)))
              refine V.g2 60 [12, 37, 66, 80, 94] mX7_held_ok rfl ?_
              refine pk_eq 0 0 (fun e0 => ?_) (fun e0 => absurd e0 (by omega)) rfl rfl
              refine V.g2 60 [12, 37, 66, 80, 94] mX7_held_ok rfl ?_
              refine pk_eq 0 0 (fun e0 => ?_) (fun e0 => absurd e0 (by omega)) rfl rfl
              refine V.kn [6, 5, 4, 0, 1, 2] [(6, .int ((nI k) + zi 1)), (5, .int x5), (4, .int (x4 + (nI 0))), (0, .ref 0), (1, .int (nI s)), (2, .int (nI j))] [] (pM (upf (upf (upf (upf (upf (upf fv 41 q2.2.2.2.1) 42 q2.2.2.2.2.1) 43 q2.2.2.2.2.2.1) 44 q2.2.2.2.2.2.2) 45 (ar 4 0)) 46 (ar 4 1)) (upa (upa (upa (upa (upa (upa ar 4 (haH k)) 36 sk2) 37 nm2) 38 pl2) 39 az2) 40 cs2)) rfl rfl rfl ?_
              refine ih (k + 1) _ _ _ (haH k) q2 sk2 nm2 pl2 az2 cs2 (by omega) (ninc rfl) (by rw [h4]; exact (Int32.add_zero _).trans (ctB_f (p := (fun h => foB (cwH (cM fv ar) (haH h)) P (ceF (ar 25) s) n)) hb).symm) ?_
              cases hf : fsF (fun h => foB (cwH (cM fv ar) (haH h)) P (ceF (ar 25) s) n) k with
              | none => rw [fsF_miss hf hb, h5, hf]
              | some i => rw [fsF_up hf 1, h5, hf]
        subst hS
        refine V.g2 60 [12, 37, 66, 80, 94] mX7_held_ok rfl ?_
        refine And.intro (fun _ => ?_) (fun e => absurd e (by decide))
        refine V.cw mX7_held_ok rfl lX7_263 (c7_keepsHands l) rfl 0 7 rfl rfl rfl rfl rfl rfl ⟨fv, ar, rfl, rfl, rfl, ?_⟩
        refine V.g2 60 [12, 37, 66, 80, 94] mX7_held_ok rfl ?_
        refine V.kn [6, 5, 4, 0, 1, 2] [(6, .int (nI 0)), (5, .int (-1 : Int32)), (4, .int (nI 0)), (0, .ref 0), (1, .int (nI s)), (2, .int (nI j))] [] (pM (upf (upf fv 45 (ar 4 0)) 46 (ar 4 1)) ar) rfl rfl rfl ?_
        exact loop 100 0 _ _ _ (ar 4) (0, 0, 0, fv 41, fv 42, fv 43, fv 44) (ar 36) (ar 37) (ar 38) (ar 39) (ar 40) rfl rfl rfl rfl
    · exact ⟨_, zsim_rfl _, (by have q := h1 s hs hx (fun z => e (hw.trans z)); rw [← hw] at q; exact q)⟩
def mTs (ar : Nat → fI) (Ps : Nat → zP) (tn : Nat) : Prop := ∀ t, t < tn → mTx (ar 15) (ar 16) t (Ps t)
def T7_laws : zT := fun args hs Q => ∃ (fv : Nat → Int32) (ar : Nat → fI) (x : Int32) (tn : Nat) (Ps : Nat → zP), kOk (cM fv ar) ∧ wOk (cM fv ar) ∧ mTs ar Ps tn ∧ tn ≤ 6 ∧ fv 17 = nI tn ∧ shOk ar ∧ args = [.ref 0, .int x] ∧ hs = pM fv ar ∧ (wiB x 3 = false → Q (some (.int (-2))) hs) ∧ (∀ s, s < 4 → x = nI s → ¬ flW (ar 23 s) (ar 24 s) = 0 → Q (some (.int (flW (ar 23 s) (ar 24 s)))) hs) ∧ (∀ s n, s < 4 → x = nI s → flW (ar 23 s) (ar 24 s) = 0 → n ≤ 30 → ar 24 s = nI n → ∀ r : Int32, r = btF (fun t => foB (cM fv ar) (Ps t) (ceF (ar 25) s) n) tn → ∀ fv2 ar2, kM fv ar fv2 ar2 → Q (some (.int r)) (pM fv2 ar2))
set_option maxHeartbeats 500000 in
theorem c7_laws (l : Launch) : Ct l mX7_laws false 9 0 0 T7_laws := by
  refine Ct.intro mX7_laws_ok ?_
  rintro args hs Q ⟨fv, ar, x, tn, Ps, hk6, hw6, hmt, htn, ht17, hsh, rfl, rfl, h0, h1, h2⟩
  refine ⟨Nat.le_of_ble_eq_true rfl, ?_⟩
  refine V.g2 60 [12, 23, 57] mX7_laws_ok rfl ?_
  refine V.cw mX7_laws_ok rfl lX7_308 (c7_sheetWrong l) rfl 0 7 rfl rfl rfl rfl rfl rfl ⟨fv, ar, _, rfl, rfl, fun hb => ⟨rfl, ?_⟩, fun s hs hx w hw => ⟨rfl, ?_⟩⟩
  · refine V.g2 60 [12, 23, 57] mX7_laws_ok rfl ?_
    refine And.intro (fun (e0 : (-2 : Int32) = (0 : Int32)) => absurd e0 (show ¬ (-2 : Int32) = 0 by decide)) (fun (e0 : ¬ (-2 : Int32) = (0 : Int32)) => ?_)
    exact ⟨_, zsim_rfl _, h0 hb⟩
  · refine V.g2 60 [12, 23, 57] mX7_laws_ok rfl ?_
    refine And.intro (fun (e : w = (0 : Int32)) => ?_) (fun (e : ¬ w = (0 : Int32)) => ?_)
    · obtain ⟨n, hn, hsz⟩ := flW_n hsh hs (hw.symm.trans e)
      replace hw := hw.symm.trans e
      have h := h2 s n hs hx hw hn hsz
      clear h0 h1 h2
      subst hx
      generalize hS : pM fv ar = S
      have loop : ∀ (m k : Nat) (x5 x4 ru : Int32) (q : RT) (sk nm pl az cs : fI), k + m = tn → x5 = nI k → x4 = btF (fun t => foB (cM fv ar) (Ps t) (ceF (ar 25) s) n) k → V l mX7_laws false S (zrm 9 0 0) (zFm false S Q 0 0) 0 0 23 [(5, .int x5), (4, .int x4), (3, .int (fv 18)), (0, .ref 0), (1, .int (nI s))] [] (pM (upf (upf (upf (upf (upf fv 18 ru) 41 q.2.2.2.1) 42 q.2.2.2.2.1) 43 q.2.2.2.2.2.1) 44 q.2.2.2.2.2.2) (upa (upa (upa (upa (upa ar 36 sk) 37 nm) 38 pl) 39 az) 40 cs)) := by
        intro m
        induction m with
        | zero =>
          intro k x5 x4 ru q sk nm pl az cs hk h5 h4
          have e9 : k = tn := by omega
          rw [e9] at h4
          refine V.g2 60 [12, 23, 57] mX7_laws_ok rfl ?_
          refine pk_le tn k (fun e => ?_) (fun e => absurd e (by omega)) ht17 h5
          refine ⟨_, zsim_rfl _, ?_⟩
          exact h _ h4 (upf (upf (upf (upf (upf fv 18 (fv 18)) 41 q.2.2.2.1) 42 q.2.2.2.2.1) 43 q.2.2.2.2.2.1) 44 q.2.2.2.2.2.2) (upa (upa (upa (upa (upa ar 36 sk) 37 nm) 38 pl) 39 az) 40 cs) ⟨⟨rfl, rfl, rfl, rfl, rfl, rfl, rfl, rfl, rfl, rfl, rfl⟩, ⟨rfl, rfl, rfl, rfl, rfl, rfl, rfl, rfl, rfl, rfl, rfl, rfl, rfl, rfl, rfl, rfl⟩⟩
        | succ m ih =>
          intro k x5 x4 ru q sk nm pl az cs hk h5 h4
          have e5 : x5 = nI k := h5
          subst e5
          refine V.g2 60 [12, 23, 57] mX7_laws_ok rfl ?_
          refine pk_le tn k (fun e => absurd e (by omega)) (fun e => ?_) ht17 rfl
          refine V.cw mX7_laws_ok rfl lX7_311 (c7_unlike l) rfl 0 7 rfl rfl rfl rfl rfl rfl ⟨(upf (upf (upf (upf (upf fv 18 (nI k)) 41 q.2.2.2.1) 42 q.2.2.2.2.1) 43 q.2.2.2.2.2.1) 44 q.2.2.2.2.2.2), (upa (upa (upa (upa (upa ar 36 sk) 37 nm) 38 pl) 39 az) 40 cs), _, s, n, Ps k, ⟨hk6, hw6, k, rfl, hmt k (by omega)⟩, hs, rfl, hn, hsz, rfl, rfl, fun r hr q2 sk2 nm2 pl2 az2 cs2 => ⟨rfl, ?_⟩⟩
          have hfo : r = oI (foF (cM fv ar) (Ps k) (ceF (ar 25) s) n) := hr
          cases hq : foF (cM fv ar) (Ps k) (ceF (ar 25) s) n with
          | none =>
            rw [hq] at hfo
            have hb : foB (cM fv ar) (Ps k) (ceF (ar 25) s) n = true := by unfold foB; rw [hq]; rfl
            refine V.g2 60 [12, 23, 57] mX7_laws_ok rfl ?_
            refine And.intro (fun (e5 : ¬ r = (-1 : Int32)) => absurd hfo e5) (fun (e5 : r = (-1 : Int32)) => ?_)
            refine V.g2 60 [12, 23, 57] mX7_laws_ok rfl ?_
            refine V.kn [5, 4, 3, 0, 1] [(5, .int ((nI k) + zi 1)), (4, .int (x4 ||| ((nI 1) <<< ((nI k) &&& 31)))), (3, .int (fv 18)), (0, .ref 0), (1, .int (nI s))] [] (pM (upf (upf (upf (upf (upf fv 18 (nI k)) 41 q2.2.2.2.1) 42 q2.2.2.2.2.1) 43 q2.2.2.2.2.2.1) 44 q2.2.2.2.2.2.2) (upa (upa (upa (upa (upa ar 36 sk2) 37 nm2) 38 pl2) 39 az2) 40 cs2)) rfl rfl rfl ?_
            exact ih (k + 1) _ _ _ q2 sk2 nm2 pl2 az2 cs2 (by omega) (ninc rfl) (by rw [h4]; exact (btF_t (p := (fun t => foB (cM fv ar) (Ps t) (ceF (ar 25) s) n)) hb).symm)
          | some i =>
            rw [hq] at hfo
            have hi := fsF_lt hq
            have hb : foB (cM fv ar) (Ps k) (ceF (ar 25) s) n = false := by unfold foB; rw [hq]; rfl
            refine V.g2 60 [12, 23, 57] mX7_laws_ok rfl ?_
            refine And.intro (fun (e5 : ¬ r = (-1 : Int32)) => ?_) (fun (e5 : r = (-1 : Int32)) => absurd ((show r = nI i from hfo).symm.trans e5) (nI_m1 (by omega)))
            refine V.g2 60 [12, 23, 57] mX7_laws_ok rfl ?_
            refine V.kn [5, 4, 3, 0, 1] [(5, .int ((nI k) + zi 1)), (4, .int (x4 ||| (nI 0))), (3, .int (fv 18)), (0, .ref 0), (1, .int (nI s))] [] (pM (upf (upf (upf (upf (upf fv 18 (nI k)) 41 q2.2.2.2.1) 42 q2.2.2.2.2.1) 43 q2.2.2.2.2.2.1) 44 q2.2.2.2.2.2.2) (upa (upa (upa (upa (upa ar 36 sk2) 37 nm2) 38 pl2) 39 az2) 40 cs2)) rfl rfl rfl ?_
            exact ih (k + 1) _ _ _ q2 sk2 nm2 pl2 az2 cs2 (by omega) (ninc rfl) (by rw [h4]; exact Int32.or_zero.trans (btF_f (p := (fun t => foB (cM fv ar) (Ps t) (ceF (ar 25) s) n)) hb).symm)
      subst hS
      refine V.g2 60 [12, 23, 57] mX7_laws_ok rfl ?_
      refine V.kn [5, 4, 3, 0, 1] [(5, .int (nI 0)), (4, .int (nI 0)), (3, .int (fv 18)), (0, .ref 0), (1, .int (nI s))] [] (pM fv ar) rfl rfl rfl ?_
      exact loop tn 0 _ _ (fv 18) (0, 0, 0, fv 41, fv 42, fv 43, fv 44) (ar 36) (ar 37) (ar 38) (ar 39) (ar 40) (by omega) rfl rfl
    · exact ⟨_, zsim_rfl _, (by have q := h1 s hs hx (fun z => e (hw.trans z)); rw [← hw] at q; exact q)⟩
def fiF (c : zCart) (P : zP) (n : Nat) : fI := fun t => if t < n then (rlF c P (haC c) (t + 1)).2.1 else 0
/-- from place 40 s on there stands f, 40 long -/
def seF (row : fI) (s : Nat) (f : fI) (k : Nat) : fI := fun i => if 40 * s ≤ i ∧ i < 40 * s + k then f (i - 40 * s) else row i
theorem seF_0 (row : fI) (s : Nat) (f : fI) : seF row s f 0 = row := by
  funext i
  unfold seF
  rw [if_neg (by omega)]
theorem seF_s (row : fI) (s : Nat) (f : fI) (k : Nat) : upd (seF row s f k) (40 * s + k) (f k) = seF row s f (k + 1) := by
  funext i
  by_cases e : i = 40 * s + k
  · subst e
    rw [pk_us]
    unfold seF
    rw [if_pos (by omega)]
    congr 1
    omega
  · rw [pk_un e]
    unfold seF
    by_cases h : 40 * s ≤ i ∧ i < 40 * s + k
    · rw [if_pos h, if_pos (by omega)]
    · rw [if_neg h, if_neg (by omega)]
theorem wn29 {k : Nat} (h : k < 30) : wnF (nI k) (nI 0) (nI 29) = nI k := by
  unfold wnF
  rw [if_neg (nI_nlt (Nat.zero_le k) (by omega)), if_neg (nI_nlt (by omega) (by omega))]
def T7_film : zT := fun args hs Q => ∃ (fv : Nat → Int32) (ar : Nat → fI) (x y : Int32) (P : zP), mOk fv ar P ∧ args = [.ref 0, .int x, .int y] ∧ hs = pM fv ar ∧ ((wiB x 3 && wiB y 30) = false → Q (some (.int (-2))) hs) ∧ (∀ s n, s < 4 → x = nI s → n ≤ 30 → y = nI n → ∀ fv2 ar2, kM fv (upa (upa (upa ar 23 (upd (ar 23) s (nI 2))) 24 (upd (ar 24) s (nI n))) 25 (seF (ar 25) s (fiF (cM fv ar) P n) 40)) fv2 ar2 → Q (some (.int (nI n))) (pM fv2 ar2))
set_option maxHeartbeats 500000 in
theorem c7_film (l : Launch) : Ct l mX7_film false 8 0 0 T7_film := by
  refine Ct.intro mX7_film_ok ?_
  rintro args hs Q ⟨fv, ar, x, y, P, hM, rfl, rfl, h0, h1⟩
  refine ⟨Nat.le_of_ble_eq_true rfl, ?_⟩
  refine V.g2 60 [42, 79] mX7_film_ok rfl ?_
  refine V.cs mX7_film_ok rfl lX7_117 (c7_in l) rfl rfl rfl rfl ⟨_, _, _, rfl, fun B hB => ⟨rfl, ?_⟩⟩
  rcases B with _ | _
  · refine V.g2 60 [42, 79] mX7_film_ok rfl ?_
    refine And.intro (fun _ => ?_) (fun e => absurd rfl e)
    exact ⟨_, zsim_rfl _, h0 (by rw [show wiB x 3 = false from hB.symm]; rfl)⟩
  · refine V.g2 60 [42, 79] mX7_film_ok rfl ?_
    refine And.intro (fun e => absurd e (by decide)) (fun _ => ?_)
    refine V.cs mX7_film_ok rfl lX7_117 (c7_in l) rfl rfl rfl rfl ⟨_, _, _, rfl, fun B2 hB2 => ⟨rfl, ?_⟩⟩
    rcases B2 with _ | _
    · refine V.g2 60 [42, 79] mX7_film_ok rfl ?_
      refine And.intro (fun e => absurd rfl e) (fun _ => ?_)
      exact ⟨_, zsim_rfl _, h0 (by rw [show wiB y 30 = false from hB2.symm, Bool.and_false])⟩
    · obtain ⟨s, hs, rfl⟩ := wiB_t (n := 3) hB.symm (by omega)
      obtain ⟨n, hn, rfl⟩ := wiB_t (n := 30) hB2.symm (by omega)
      have h := h1 s n hs rfl (by omega) rfl
      clear h0 h1
      refine V.g2 60 [42, 79] mX7_film_ok rfl ?_
      refine And.intro (fun _ => ?_) (fun e => absurd e (by decide))
      refine V.cw mX7_film_ok rfl lX7_253 (c7_rolls l) rfl 0 7 rfl rfl rfl rfl rfl rfl ⟨fv, ar, P, hM, rfl, rfl, fun q hq sk nm pl az cs hr => ⟨rfl, ?_⟩⟩
      have haz : ∀ k, k < n → az k = fiF (cM fv ar) P n k := fun k hk => by rw [(hr k (by omega)).2.1]; unfold fiF; rw [if_pos hk]
      have hfi : ∀ k, n ≤ k → fiF (cM fv ar) P n k = 0 := fun k hk => by unfold fiF; rw [if_neg (by omega)]
      generalize fiF (cM fv ar) P n = FI at h haz hfi
      generalize hS : pM fv ar = S
      have loop : ∀ (m k : Nat) (x3 : Int32) (ce : fI), k + m = 40 → x3 = nI k → ce = seF (ar 25) s FI k → V l mX7_film false S (zrm 8 0 0) (zFm false S Q 0 0) 0 0 42 [(3, .int x3), (0, .ref 0), (1, .int (nI s)), (2, .int (nI n))] [] (pM (upf (upf (upf (upf fv 41 q.2.2.2.1) 42 q.2.2.2.2.1) 43 q.2.2.2.2.2.1) 44 q.2.2.2.2.2.2) (upa (upa (upa (upa (upa (upa (upa (upa ar 23 (upd (ar 23) s (nI 2))) 24 (upd (ar 24) s (nI n))) 25 ce) 36 sk) 37 nm) 38 pl) 39 az) 40 cs)) := by
        intro m
        induction m with
        | zero =>
          intro k x3 ce hk h3 hce
          obtain rfl : k = 40 := by omega
          refine V.g2 60 [42, 79] mX7_film_ok rfl ?_
          refine pk_le 40 40 (fun e0 => ?_) (fun e0 => absurd e0 (by omega)) rfl h3
          refine ⟨_, zsim_rfl _, ?_⟩
          subst hce
          exact h (upf (upf (upf (upf fv 41 q.2.2.2.1) 42 q.2.2.2.2.1) 43 q.2.2.2.2.2.1) 44 q.2.2.2.2.2.2) (upa (upa (upa (upa (upa (upa (upa (upa ar 23 (upd (ar 23) s (nI 2))) 24 (upd (ar 24) s (nI n))) 25 (seF (ar 25) s FI 40)) 36 sk) 37 nm) 38 pl) 39 az) 40 cs) ⟨⟨rfl, rfl, rfl, rfl, rfl, rfl, rfl, rfl, rfl, rfl, rfl⟩, ⟨rfl, rfl, rfl, rfl, rfl, rfl, rfl, rfl, rfl, rfl, rfl, rfl, rfl, rfl, rfl, rfl⟩⟩
        | succ m ih =>
          intro k x3 ce hk h3 hce
          refine V.g2 60 [42, 79] mX7_film_ok rfl ?_
          refine pk_le 40 k (fun e => absurd e (by omega)) (fun e => ?_) rfl h3
          refine pk_le n k (fun e2 => ?_) (fun e2 => ?_) rfl h3
          · refine V.g2 60 [42, 79] mX7_film_ok rfl ?_
            refine ⟨((40 * s) + k), by omega, (nadd (nmul rfl rfl) h3), rfl, ?_⟩
            refine V.kn [3, 0, 1, 2] [(3, .int (x3 + zi 1)), (0, .ref 0), (1, .int (nI s)), (2, .int (nI n))] [] (pM (upf (upf (upf (upf fv 41 q.2.2.2.1) 42 q.2.2.2.2.1) 43 q.2.2.2.2.2.1) 44 q.2.2.2.2.2.2) (upa (upa (upa (upa (upa (upa (upa (upa ar 23 (upd (ar 23) s (nI 2))) 24 (upd (ar 24) s (nI n))) 25 (upd ce ((40 * s) + k) (nI 0))) 36 sk) 37 nm) 38 pl) 39 az) 40 cs)) rfl rfl rfl ?_
            exact ih (k + 1) _ _ (by omega) (ninc h3) (by rw [hce]; have q9 := seF_s (ar 25) s FI k; rw [hfi k e2] at q9; exact q9)
          · refine V.cs mX7_film_ok rfl lX7_200 (c7_within l) rfl rfl rfl rfl ⟨_, _, _, rfl, fun v hv => ⟨rfl, ?_⟩⟩
            replace hv : v = nI k := by rw [hv, h3]; exact wn29 (by omega)
            refine V.g2 60 [42, 79] mX7_film_ok rfl ?_
            refine ⟨k, by omega, hv, rfl, ?_⟩
            refine V.g2 60 [42, 79] mX7_film_ok rfl ?_
            refine ⟨((40 * s) + k), by omega, (nadd (nmul rfl rfl) h3), rfl, ?_⟩
            refine V.kn [3, 0, 1, 2] [(3, .int (x3 + zi 1)), (0, .ref 0), (1, .int (nI s)), (2, .int (nI n))] [] (pM (upf (upf (upf (upf fv 41 q.2.2.2.1) 42 q.2.2.2.2.1) 43 q.2.2.2.2.2.1) 44 q.2.2.2.2.2.2) (upa (upa (upa (upa (upa (upa (upa (upa ar 23 (upd (ar 23) s (nI 2))) 24 (upd (ar 24) s (nI n))) 25 (upd ce ((40 * s) + k) (az k))) 36 sk) 37 nm) 38 pl) 39 az) 40 cs)) rfl rfl rfl ?_
            exact ih (k + 1) _ _ (by omega) (ninc h3) (by rw [hce, haz k e2]; exact seF_s _ _ _ _)
      subst hS
      refine V.g2 60 [42, 79] mX7_film_ok rfl ?_
      refine ⟨s, by omega, rfl, rfl, ?_⟩
      refine ⟨s, by omega, rfl, rfl, ?_⟩
      refine V.kn [3, 0, 1, 2] [(3, .int (nI 0)), (0, .ref 0), (1, .int (nI s)), (2, .int (nI n))] [] (pM (upf (upf (upf (upf fv 41 q.2.2.2.1) 42 q.2.2.2.2.1) 43 q.2.2.2.2.2.1) 44 q.2.2.2.2.2.2) (upa (upa (upa (upa (upa (upa (upa ar 23 (upd (ar 23) s (nI 2))) 24 (upd (ar 24) s (nI n))) 36 sk) 37 nm) 38 pl) 39 az) 40 cs)) rfl rfl rfl ?_
      exact loop 40 0 _ _ rfl rfl (seF_0 _ _ _).symm
def T7_come : zT := fun args hs Q => ∃ (fv : Nat → Int32) (ar : Nat → fI) (x : Int32) (s : Nat), s ≤ 8 ∧ fv 7 = nI s ∧ args = [.ref 0, .int x] ∧ hs = pM fv ar ∧ (wiB x 99 = false → Q (some (.int (-2))) hs) ∧ (wiB x 99 = true → s = 8 → Q (some (.int (-4))) hs) ∧ (wiB x 99 = true → s < 8 → Q (some (.int (nI s))) (pM (upf fv 7 (nI (s + 1))) (upa (upa ar 8 (upd (ar 8) s x)) 9 (upd (ar 9) s (nI s)))))
theorem c7_come (l : Launch) : Ct l mX7_come false 2 0 0 T7_come := by
  refine Ct.intro mX7_come_ok ?_
  rintro args hs Q ⟨fv, ar, x, s, hs8, h7, rfl, rfl, h0, h1, h2⟩
  refine ⟨Nat.le_of_ble_eq_true rfl, ?_⟩
  refine V.g2 60 [] mX7_come_ok rfl ?_
  refine V.cs mX7_come_ok rfl lX7_117 (c7_in l) rfl rfl rfl rfl ⟨_, _, _, rfl, fun B hB => ⟨rfl, ?_⟩⟩
  rcases B with _ | _
  · refine V.g2 60 [] mX7_come_ok rfl ?_
    refine And.intro (fun e => absurd rfl e) (fun _ => ?_)
    exact ⟨_, zsim_rfl _, h0 hB.symm⟩
  · refine V.g2 60 [] mX7_come_ok rfl ?_
    refine And.intro (fun _ => ?_) (fun e => absurd e (by decide))
    refine zp_ne s 8 (fun e => ?_) (fun e => ?_) h7 rfl
    · refine ⟨s, by omega, h7, rfl, ?_⟩
      refine ⟨s, by omega, h7, rfl, ?_⟩
      refine ⟨_, zsim_rfl _, ?_⟩
      have h3 := h2 hB.symm (by omega)
      have e1 : fv 7 + nI 1 = nI (s + 1) := by rw [h7]; exact nI_1 s
      have e2 : fv 7 + nI 1 - nI 1 = nI s := by rw [e1]; exact nI_pred s
      rw [← e1, ← e2] at h3
      rw [e2] at h3
      show Q (some (.int (fv 7 + nI 1 - nI 1))) (pM (upf fv 7 (fv 7 + nI 1)) (upa (upa ar 8 (upd (ar 8) s x)) 9 (upd (ar 9) s (fv 7))))
      rw [e2, e1, h7]
      exact h2 hB.symm (by omega)
    · exact ⟨_, zsim_rfl _, h1 hB.symm e⟩
theorem below_of {x : Int32} {s : Nat} (h1 : nI 0 ≤ x) (h2 : x ≤ nI s - nI 1) (hs : s ≤ 8) : ∃ j, j < s ∧ x = nI j := by
  obtain ⟨j, hj, rfl⟩ := nI_of (Int32.not_lt.mpr h1)
  refine ⟨j, ?_, rfl⟩
  rcases Nat.eq_zero_or_pos s with e | e
  · subst e
    exact absurd h2 (fun z => nI_pos hj (Int32.lt_of_le_of_lt z (by decide)))
  · rw [pk_sub (by omega)] at h2
    have := (nI_leI hj (by omega)).mp h2
    omega
def ruM (j : Nat) : Nat := if j = 1 then 8 else if j = 3 then 5 else 99
def ruL (j : Nat) : Nat := if j = 1 then 1 else 0
def ruB (j : Nat) (v : Int32) : Bool := decide (nI (ruL j) ≤ v) && decide (v ≤ nI (ruM j))
def T7_stands : zT := fun args hs Q => ∃ (fv : Nat → Int32) (ar : Nat → fI) (x : Int32) (s : Nat), s ≤ 8 ∧ fv 7 = nI s ∧ args = [.ref 0, .int x] ∧ hs = pM fv ar ∧ (∀ j, j < s → x = nI j → Q (some (.int (ar 9 j))) hs) ∧ ((∀ j, j < s → ¬ x = nI j) → Q (some (.int (-5))) hs)
theorem c7_stands (l : Launch) : Ct l mX7_stands false 2 0 0 T7_stands := by
  refine Ct.intro mX7_stands_ok ?_
  rintro args hs Q ⟨fv, ar, x, s, hs8, h7, rfl, rfl, h1, h0⟩
  refine ⟨Nat.le_of_ble_eq_true rfl, ?_⟩

  refine V.g2 60 [] mX7_stands_ok rfl ?_
  refine V.cs mX7_stands_ok rfl lX7_117 (c7_in l) rfl rfl rfl rfl ⟨_, _, _, rfl, fun B hB => ⟨rfl, ?_⟩⟩
  rcases B with _ | _
  · refine V.g2 60 [] mX7_stands_ok rfl ?_
    refine And.intro (fun _ => ?_) (fun e => absurd rfl e)
    exact ⟨_, zsim_rfl _, h0 (fun j hj e => by have q : false = (decide (nI 0 ≤ x) && decide (x ≤ fv 7 - nI 1)) := hB; rw [e, h7, decide_eq_true (nI_le (Nat.zero_le j) (by omega)), pk_sub (by omega), decide_eq_true (nI_le (by omega) (by omega))] at q; cases q)⟩
  · have q := hB.symm
    simp only [Bool.and_eq_true, decide_eq_true_eq] at q
    obtain ⟨j, hj, hx⟩ := below_of (show nI 0 ≤ x from q.1) (show x ≤ nI s - nI 1 by rw [← h7]; exact q.2) hs8
    refine V.g2 60 [] mX7_stands_ok rfl ?_
    refine And.intro (fun e => absurd e (by decide)) (fun _ => ?_)
    refine ⟨j, by omega, hx, rfl, ?_⟩
    exact ⟨_, zsim_rfl _, h1 j hj hx⟩

def T7_rule : zT := fun args hs Q => ∃ (fv : Nat → Int32) (ar : Nat → fI) (x o v : Int32) (s : Nat), s ≤ 8 ∧ fv 7 = nI s ∧ args = [.ref 0, .int x, .int o, .int v] ∧ hs = pM fv ar ∧ (wiB x 3 = false → Q (some (.int (-5))) hs) ∧ (x = nI 0 → (∀ j, j < s → ¬ o = nI j) → Q (some (.int (-5))) hs) ∧ (∀ j, j < 4 → x = nI j → (j = 0 → ∃ i, i < s ∧ o = nI i) → (ruB j v = false → Q (some (.int (-7))) hs) ∧ (ruB j v = true → (∀ i, j = 0 → i < s → o = nI i → Q (some (.int (ar 8 i))) (pM fv (upa ar 8 (upd (ar 8) i v)))) ∧ (j = 1 → Q (some (.int (fv 10))) (pM (upf fv 10 v) ar)) ∧ (j = 2 → Q (some (.int (fv 11))) (pM (upf fv 11 v) ar)) ∧ (j = 3 → Q (some (.int (fv 12))) (pM (upf fv 12 v) ar))))
theorem c7_rule (l : Launch) : Ct l mX7_rule false 3 0 0 T7_rule := by
  refine Ct.intro mX7_rule_ok ?_
  rintro args hs Q ⟨fv, ar, x, o, v, s, hs8, h7, rfl, rfl, h0, h1, h2⟩
  refine ⟨Nat.le_of_ble_eq_true rfl, ?_⟩
  refine V.g2 60 [24] mX7_rule_ok rfl ?_
  refine V.cs mX7_rule_ok rfl lX7_117 (c7_in l) rfl rfl rfl rfl ⟨_, _, _, rfl, fun B hB => ⟨rfl, ?_⟩⟩
  rcases B with _ | _
  · refine V.g2 60 [24] mX7_rule_ok rfl ?_
    refine And.intro (fun _ => ?_) (fun e => absurd rfl e)
    exact ⟨_, zsim_rfl _, h0 hB.symm⟩
  · obtain ⟨j, hj, rfl⟩ := wiB_t (n := 3) hB.symm (by omega)
    have h3 := h2 j hj rfl
    rcases (show j = 0 ∨ j = 1 ∨ j = 2 ∨ j = 3 by omega) with rfl | rfl | rfl | rfl
    · refine V.g2 60 [24] mX7_rule_ok rfl ?_
      refine And.intro (fun e => absurd e (by decide)) (fun _ => ?_)
      refine zp_ne 0 0 (fun e0 => absurd e0 (by omega)) (fun e0 => ?_) rfl rfl
      refine V.cw mX7_rule_ok rfl lX7_317 (c7_isTrolley l) rfl 0 7 rfl rfl rfl rfl rfl rfl ⟨fv, ar, _, rfl, rfl, fun B3 hB3 => ⟨rfl, ?_⟩⟩
      rcases B3 with _ | _
      · refine V.g2 60 [24] mX7_rule_ok rfl ?_
        refine And.intro (fun e => absurd rfl e) (fun _ => ?_)
        exact ⟨_, zsim_rfl _, h1 rfl (fun i hi e => by rw [e, h7, decide_eq_true (nI_le (Nat.zero_le i) (by omega)), pk_sub (by omega), decide_eq_true (nI_le (by omega) (by omega))] at hB3; cases hB3)⟩
      · have q := hB3.symm
        simp only [Bool.and_eq_true, decide_eq_true_eq] at q
        obtain ⟨i, hi, ho⟩ := below_of (show nI 0 ≤ o from q.1) (show o ≤ nI s - nI 1 by rw [← h7]; exact q.2) hs8
        obtain ⟨h4, h5⟩ := h3 (fun _ => ⟨i, hi, ho⟩)
        refine V.g2 60 [24] mX7_rule_ok rfl ?_
        refine And.intro (fun _ => ?_) (fun e => absurd e (by decide))
        refine V.g2 60 [24] mX7_rule_ok rfl ?_
        refine zp_ne 0 1 (fun e0 => ?_) (fun e0 => absurd e0 (by omega)) rfl rfl
        refine zp_ne 0 1 (fun e0 => ?_) (fun e0 => absurd e0 (by omega)) rfl rfl
        refine zp_ne 0 3 (fun e0 => ?_) (fun e0 => absurd e0 (by omega)) rfl rfl
        refine V.cs mX7_rule_ok rfl lX7_117 (c7_in l) rfl rfl rfl rfl ⟨_, _, _, rfl, fun B2 hB2 => ⟨rfl, ?_⟩⟩
        rcases B2 with _ | _
        · refine V.g2 60 [24] mX7_rule_ok rfl ?_
          refine And.intro (fun e => absurd rfl e) (fun _ => ?_)
          exact ⟨_, zsim_rfl _, h4 hB2.symm⟩
        · obtain ⟨a0, a1, a2, a3⟩ := h5 hB2.symm
          refine V.g2 60 [24] mX7_rule_ok rfl ?_
          refine And.intro (fun _ => ?_) (fun e => absurd e (by decide))
          refine zp_ne 0 0 (fun e0 => absurd e0 (by omega)) (fun e0 => ?_) rfl rfl
          refine ⟨i, by omega, ho, rfl, ?_⟩
          refine V.tsI mX7_rule_ok rfl 0 (by decide) (by decide) (by decide) 27 rfl 136 rfl ?_
          refine V.g2 60 [24] mX7_rule_ok rfl ?_
          refine ⟨i, by omega, ho, rfl, ?_⟩
          exact ⟨_, zsim_rfl _, a0 i rfl hi ho⟩
    · obtain ⟨h4, h5⟩ := h3 (fun z => absurd z (by decide))
      refine V.g2 60 [24] mX7_rule_ok rfl ?_
      refine And.intro (fun e => absurd e (by decide)) (fun _ => ?_)
      refine zp_ne 1 0 (fun e0 => ?_) (fun e0 => absurd e0 (by omega)) rfl rfl
      refine V.g2 60 [24] mX7_rule_ok rfl ?_
      refine zp_ne 1 1 (fun e0 => absurd e0 (by omega)) (fun e0 => ?_) rfl rfl
      refine zp_ne 1 1 (fun e0 => absurd e0 (by omega)) (fun e0 => ?_) rfl rfl
      refine V.cs mX7_rule_ok rfl lX7_117 (c7_in l) rfl rfl rfl rfl ⟨_, _, _, rfl, fun B2 hB2 => ⟨rfl, ?_⟩⟩
      rcases B2 with _ | _
      · refine V.g2 60 [24] mX7_rule_ok rfl ?_
        refine And.intro (fun e => absurd rfl e) (fun _ => ?_)
        exact ⟨_, zsim_rfl _, h4 hB2.symm⟩
      · obtain ⟨a0, a1, a2, a3⟩ := h5 hB2.symm
        refine V.g2 60 [24] mX7_rule_ok rfl ?_
        refine And.intro (fun _ => ?_) (fun e => absurd e (by decide))
        refine zp_ne 1 0 (fun e0 => ?_) (fun e0 => absurd e0 (by omega)) rfl rfl
        refine zp_ne 1 1 (fun e0 => absurd e0 (by omega)) (fun e0 => ?_) rfl rfl
        refine V.tsI mX7_rule_ok rfl 1 (by decide) (by decide) (by decide) 37 rfl 146 rfl ?_
        refine V.g2 60 [24] mX7_rule_ok rfl ?_
        exact ⟨_, zsim_rfl _, a1 rfl⟩
    · obtain ⟨h4, h5⟩ := h3 (fun z => absurd z (by decide))
      refine V.g2 60 [24] mX7_rule_ok rfl ?_
      refine And.intro (fun e => absurd e (by decide)) (fun _ => ?_)
      refine zp_ne 2 0 (fun e0 => ?_) (fun e0 => absurd e0 (by omega)) rfl rfl
      refine V.g2 60 [24] mX7_rule_ok rfl ?_
      refine zp_ne 2 1 (fun e0 => ?_) (fun e0 => absurd e0 (by omega)) rfl rfl
      refine zp_ne 2 1 (fun e0 => ?_) (fun e0 => absurd e0 (by omega)) rfl rfl
      refine zp_ne 2 3 (fun e0 => ?_) (fun e0 => absurd e0 (by omega)) rfl rfl
      refine V.cs mX7_rule_ok rfl lX7_117 (c7_in l) rfl rfl rfl rfl ⟨_, _, _, rfl, fun B2 hB2 => ⟨rfl, ?_⟩⟩
      rcases B2 with _ | _
      · refine V.g2 60 [24] mX7_rule_ok rfl ?_
        refine And.intro (fun e => absurd rfl e) (fun _ => ?_)
        exact ⟨_, zsim_rfl _, h4 hB2.symm⟩
      · obtain ⟨a0, a1, a2, a3⟩ := h5 hB2.symm
        refine V.g2 60 [24] mX7_rule_ok rfl ?_
        refine And.intro (fun _ => ?_) (fun e => absurd e (by decide))
        refine zp_ne 2 0 (fun e0 => ?_) (fun e0 => absurd e0 (by omega)) rfl rfl
        refine zp_ne 2 1 (fun e0 => ?_) (fun e0 => absurd e0 (by omega)) rfl rfl
        refine zp_ne 2 2 (fun e0 => absurd e0 (by omega)) (fun e0 => ?_) rfl rfl
        refine V.tsI mX7_rule_ok rfl 2 (by decide) (by decide) (by decide) 45 rfl 154 rfl ?_
        refine V.g2 60 [24] mX7_rule_ok rfl ?_
        exact ⟨_, zsim_rfl _, a2 rfl⟩
    · obtain ⟨h4, h5⟩ := h3 (fun z => absurd z (by decide))
      refine V.g2 60 [24] mX7_rule_ok rfl ?_
      refine And.intro (fun e => absurd e (by decide)) (fun _ => ?_)
      refine zp_ne 3 0 (fun e0 => ?_) (fun e0 => absurd e0 (by omega)) rfl rfl
      refine V.g2 60 [24] mX7_rule_ok rfl ?_
      refine zp_ne 3 1 (fun e0 => ?_) (fun e0 => absurd e0 (by omega)) rfl rfl
      refine zp_ne 3 1 (fun e0 => ?_) (fun e0 => absurd e0 (by omega)) rfl rfl
      refine zp_ne 3 3 (fun e0 => absurd e0 (by omega)) (fun e0 => ?_) rfl rfl
      refine V.cs mX7_rule_ok rfl lX7_117 (c7_in l) rfl rfl rfl rfl ⟨_, _, _, rfl, fun B2 hB2 => ⟨rfl, ?_⟩⟩
      rcases B2 with _ | _
      · refine V.g2 60 [24] mX7_rule_ok rfl ?_
        refine And.intro (fun e => absurd rfl e) (fun _ => ?_)
        exact ⟨_, zsim_rfl _, h4 hB2.symm⟩
      · obtain ⟨a0, a1, a2, a3⟩ := h5 hB2.symm
        refine V.g2 60 [24] mX7_rule_ok rfl ?_
        refine And.intro (fun _ => ?_) (fun e => absurd e (by decide))
        refine zp_ne 3 0 (fun e0 => ?_) (fun e0 => absurd e0 (by omega)) rfl rfl
        refine zp_ne 3 1 (fun e0 => ?_) (fun e0 => absurd e0 (by omega)) rfl rfl
        refine zp_ne 3 2 (fun e0 => ?_) (fun e0 => absurd e0 (by omega)) rfl rfl
        refine V.tsO mX7_rule_ok rfl (Or.inr (by decide)) 162 rfl ?_
        refine V.g2 60 [24] mX7_rule_ok rfl ?_
        exact ⟨_, zsim_rfl _, a3 rfl⟩
