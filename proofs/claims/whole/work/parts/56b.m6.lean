theorem anB_s0 {p : Nat → Bool} {n : Nat} (h : anB p n = false) : anB p (n + 1) = p n := by rw [anB, h, Bool.false_or]
def T7_isAny : zT := fun args hs Q => ∃ (fv : Nat → Int32) (ar : Nat → fI) (x y : Int32) (s n w : Nat) (P : zP) (kd mo : fI), mOk fv (upa (upa ar 0 kd) 1 mo) P ∧ s < 4 ∧ x = nI s ∧ w < 4 ∧ y = nI w ∧ n ≤ 30 ∧ ar 24 s = nI n ∧ ar 0 = kd ∧ ar 1 = mo ∧ args = [.ref 0, .int x, .int y] ∧ hs = pM fv ar ∧ ∀ B : Bool, B = anB (fun k => foB (upd kd w (nI (k / 10)), upd mo w (nI (k % 10)), ar 2, ar 3, ar 4, ar 6, fv 5) P (ceF (ar 25) s) n) 60 → ∀ (q : RT) (sk nm pl az cs : fI), Q (some (.int (bI B))) (pM (f4 fv q) (upa (upa (r5 ar sk nm pl az cs) 0 (upd kd w 0)) 1 (upd mo w 0)))
set_option maxHeartbeats 500000 in
theorem c7_isAny (l : Launch) : Ct l mX7_isAny false 9 0 0 T7_isAny := by
  refine Ct.intro mX7_isAny_ok ?_
  rintro args hs Q ⟨fv, ar, x, y, s, n, w, P, kd, mo, hM, hs, hx, hw, hy, hn, hsz, ek, em, rfl, rfl, h⟩
  refine ⟨Nat.le_of_ble_eq_true rfl, ?_⟩
  subst hx
  subst hy
  generalize hS : pM fv ar = S
  have loop : ∀ (m k : Nat) (x4 : Int32) (B : Bool) (kd2 mo2 : fI) (q : RT) (sk nm pl az cs : fI), k + m = 60 → x4 = nI k → B = anB (fun k => foB (upd kd w (nI (k / 10)), upd mo w (nI (k % 10)), ar 2, ar 3, ar 4, ar 6, fv 5) P (ceF (ar 25) s) n) k → (∀ u, upd kd2 w u = upd kd w u) → (∀ u, upd mo2 w u = upd mo w u) → V l mX7_isAny false S (zrm 9 0 0) (zFm false S Q 0 0) 0 0 5 [(4, .int x4), (3, .int (bI B)), (0, .ref 0), (1, .int (nI s)), (2, .int (nI w))] [] (pM (upf (upf (upf (upf fv 41 q.2.2.2.1) 42 q.2.2.2.2.1) 43 q.2.2.2.2.2.1) 44 q.2.2.2.2.2.2) (upa (upa (upa (upa (upa (upa (upa ar 36 sk) 37 nm) 38 pl) 39 az) 40 cs) 0 kd2) 1 mo2)) := by
    intro m
    induction m with
    | zero =>
      intro k x4 B kd2 mo2 q sk nm pl az cs hk h4 hB hkd hmo
      obtain rfl : k = 60 := by omega
      refine V.g2 60 [5, 38, 52, 73] mX7_isAny_ok rfl ?_
      refine pk_le 60 60 (fun e0 => ?_) (fun e0 => absurd e0 (by omega)) rfl h4
      refine ⟨w, by omega, rfl, rfl, ?_⟩
      refine ⟨w, by omega, rfl, rfl, ?_⟩
      refine V.nm [(4, .int x4), (3, .int (bI B)), (0, .ref 0), (1, .int (nI s)), (2, .int (nI w))] [] (pM (upf (upf (upf (upf fv 41 q.2.2.2.1) 42 q.2.2.2.2.1) 43 q.2.2.2.2.2.1) 44 q.2.2.2.2.2.2) (upa (upa (upa (upa (upa (upa (upa ar 36 sk) 37 nm) 38 pl) 39 az) 40 cs) 0 (upd kd2 w (nI 0))) 1 (upd mo2 w (nI 0)))) rfl rfl rfl ?_
      rw [hkd, hmo]
      refine V.g2 60 [5, 38, 52, 73] mX7_isAny_ok rfl ?_
      refine And.intro (bI_01 _) ?_
      refine ⟨_, zsim_rfl _, ?_⟩
      exact h _ hB q sk nm pl az cs
    | succ m ih =>
      intro k x4 B kd2 mo2 q sk nm pl az cs hk h4 hB hkd hmo
      rcases B with _ | _
      · refine V.g2 60 [5, 38, 52, 73] mX7_isAny_ok rfl ?_
        refine pk_le 60 k (fun e => absurd e (by omega)) (fun e => ?_) rfl h4
        have e4 : x4 = nI k := h4
        subst e4
        refine And.intro (fun e => absurd rfl e) (fun _ => ?_)
        refine And.intro (show ¬ (nI 10) = 0 by decide) ?_
        refine ⟨w, by omega, rfl, rfl, ?_⟩
        refine And.intro (show ¬ (nI 10) = 0 by decide) ?_
        refine ⟨w, by omega, rfl, rfl, ?_⟩
        refine V.nm [(4, .int (nI k)), (3, .int (bI false)), (0, .ref 0), (1, .int (nI s)), (2, .int (nI w))] [] (pM (upf (upf (upf (upf fv 41 q.2.2.2.1) 42 q.2.2.2.2.1) 43 q.2.2.2.2.2.1) 44 q.2.2.2.2.2.2) (upa (upa (upa (upa (upa (upa (upa ar 36 sk) 37 nm) 38 pl) 39 az) 40 cs) 0 (upd kd2 w ((nI k) / (nI 10)))) 1 (upd mo2 w ((nI k) - (nI k) / (nI 10) * (nI 10))))) rfl rfl rfl ?_
        rw [hkd, hmo, show (nI k) / (nI 10) = nI (k / 10) from ndiv rfl rfl (by omega) (by omega) (by omega), show nI k - nI (k / 10) * nI 10 = nI (k % 10) from by rw [← show (nI k) / (nI 10) = nI (k / 10) from ndiv rfl rfl (by omega) (by omega) (by omega)]; exact nrem rfl rfl (by omega) (by omega) (by omega)]
        refine V.g2 60 [5, 38, 52, 73] mX7_isAny_ok rfl ?_
        refine V.cw mX7_isAny_ok rfl lX7_311 (c7_unlike l) rfl 0 7 rfl rfl rfl rfl rfl rfl ⟨(upf (upf (upf (upf fv 41 q.2.2.2.1) 42 q.2.2.2.2.1) 43 q.2.2.2.2.2.1) 44 q.2.2.2.2.2.2), (upa (upa (upa (upa (upa (upa (upa ar 36 sk) 37 nm) 38 pl) 39 az) 40 cs) 0 (upd kd w (nI (k / 10)))) 1 (upd mo w (nI (k % 10)))), _, s, n, P, ⟨kOk_up hM.1 (by omega), hM.2⟩, hs, rfl, hn, hsz, rfl, rfl, fun r hr q2 sk2 nm2 pl2 az2 cs2 => ⟨rfl, ?_⟩⟩
        have hfo : r = oI (foF (upd kd w (nI (k / 10)), upd mo w (nI (k % 10)), ar 2, ar 3, ar 4, ar 6, fv 5) P (ceF (ar 25) s) n) := hr
        cases hq : foF (upd kd w (nI (k / 10)), upd mo w (nI (k % 10)), ar 2, ar 3, ar 4, ar 6, fv 5) P (ceF (ar 25) s) n with
        | none =>
          rw [hq] at hfo
          have hb : foB (upd kd w (nI (k / 10)), upd mo w (nI (k % 10)), ar 2, ar 3, ar 4, ar 6, fv 5) P (ceF (ar 25) s) n = true := by unfold foB; rw [hq]; rfl
          refine V.g2 60 [5, 38, 52, 73] mX7_isAny_ok rfl ?_
          refine And.intro (fun (e5 : ¬ r = (-1 : Int32)) => absurd hfo e5) (fun (e5 : r = (-1 : Int32)) => ?_)
          refine V.g2 60 [5, 38, 52, 73] mX7_isAny_ok rfl ?_
          refine V.kn [4, 3, 0, 1, 2] [(4, .int ((nI k) + zi 1)), (3, .int (bI true)), (0, .ref 0), (1, .int (nI s)), (2, .int (nI w))] [] (pM (upf (upf (upf (upf fv 41 q2.2.2.2.1) 42 q2.2.2.2.2.1) 43 q2.2.2.2.2.2.1) 44 q2.2.2.2.2.2.2) (upa (upa (upa (upa (upa (upa (upa ar 0 (upd kd w (nI (k / 10)))) 1 (upd mo w (nI (k % 10)))) 36 sk2) 37 nm2) 38 pl2) 39 az2) 40 cs2)) rfl rfl rfl ?_
          exact ih (k + 1) _ true (upd kd w (nI (k / 10))) (upd mo w (nI (k % 10))) q2 sk2 nm2 pl2 az2 cs2 (by omega) (ninc rfl) (hb.symm.trans (anB_s0 (p := (fun k => foB (upd kd w (nI (k / 10)), upd mo w (nI (k % 10)), ar 2, ar 3, ar 4, ar 6, fv 5) P (ceF (ar 25) s) n)) hB.symm).symm) (fun u => upd2 kd w (nI (k / 10)) u) (fun u => upd2 mo w (nI (k % 10)) u)
        | some i =>
          rw [hq] at hfo
          have hi := fsF_lt hq
          have hb : foB (upd kd w (nI (k / 10)), upd mo w (nI (k % 10)), ar 2, ar 3, ar 4, ar 6, fv 5) P (ceF (ar 25) s) n = false := by unfold foB; rw [hq]; rfl
          refine V.g2 60 [5, 38, 52, 73] mX7_isAny_ok rfl ?_
          refine And.intro (fun (e5 : ¬ r = (-1 : Int32)) => ?_) (fun (e5 : r = (-1 : Int32)) => absurd ((show r = nI i from hfo).symm.trans e5) (nI_m1 (by omega)))
          refine V.g2 60 [5, 38, 52, 73] mX7_isAny_ok rfl ?_
          refine V.kn [4, 3, 0, 1, 2] [(4, .int ((nI k) + zi 1)), (3, .int (bI false)), (0, .ref 0), (1, .int (nI s)), (2, .int (nI w))] [] (pM (upf (upf (upf (upf fv 41 q2.2.2.2.1) 42 q2.2.2.2.2.1) 43 q2.2.2.2.2.2.1) 44 q2.2.2.2.2.2.2) (upa (upa (upa (upa (upa (upa (upa ar 0 (upd kd w (nI (k / 10)))) 1 (upd mo w (nI (k % 10)))) 36 sk2) 37 nm2) 38 pl2) 39 az2) 40 cs2)) rfl rfl rfl ?_
          exact ih (k + 1) _ false (upd kd w (nI (k / 10))) (upd mo w (nI (k % 10))) q2 sk2 nm2 pl2 az2 cs2 (by omega) (ninc rfl) (hb.symm.trans (anB_s0 (p := (fun k => foB (upd kd w (nI (k / 10)), upd mo w (nI (k % 10)), ar 2, ar 3, ar 4, ar 6, fv 5) P (ceF (ar 25) s) n)) hB.symm).symm) (fun u => upd2 kd w (nI (k / 10)) u) (fun u => upd2 mo w (nI (k % 10)) u)
      · have hall : anB (fun k => foB (upd kd w (nI (k / 10)), upd mo w (nI (k % 10)), ar 2, ar 3, ar 4, ar 6, fv 5) P (ceF (ar 25) s) n) 60 = true := by have q := anB_t hB.symm (60 - k); rwa [show k + (60 - k) = 60 by omega] at q
        refine V.g2 60 [5, 38, 52, 73] mX7_isAny_ok rfl ?_
        refine pk_le 60 k (fun e => absurd e (by omega)) (fun e => ?_) rfl h4
        refine And.intro (fun _ => ?_) (fun e => absurd e (by decide))
        refine ⟨w, by omega, rfl, rfl, ?_⟩
        refine ⟨w, by omega, rfl, rfl, ?_⟩
        refine V.nm [(4, .int x4), (3, .int (bI true)), (0, .ref 0), (1, .int (nI s)), (2, .int (nI w))] [] (pM (upf (upf (upf (upf fv 41 q.2.2.2.1) 42 q.2.2.2.2.1) 43 q.2.2.2.2.2.1) 44 q.2.2.2.2.2.2) (upa (upa (upa (upa (upa (upa (upa ar 36 sk) 37 nm) 38 pl) 39 az) 40 cs) 0 (upd kd2 w (nI 0))) 1 (upd mo2 w (nI 0)))) rfl rfl rfl ?_
        rw [hkd, hmo]
        refine V.g2 60 [5, 38, 52, 73] mX7_isAny_ok rfl ?_
        refine And.intro (bI_01 _) ?_
        refine ⟨_, zsim_rfl _, ?_⟩
        exact h _ hall.symm q sk nm pl az cs
  subst hS
  refine V.g2 60 [5, 38, 52, 73] mX7_isAny_ok rfl ?_
  refine V.kn [4, 3, 0, 1, 2] [(4, .int (nI 0)), (3, .int (bI false)), (0, .ref 0), (1, .int (nI s)), (2, .int (nI w))] [] (pM fv ar) rfl rfl rfl ?_
  exact loop 60 0 _ false (ar 0) (ar 1) (0, 0, 0, fv 41, fv 42, fv 43, fv 44) (ar 36) (ar 37) (ar 38) (ar 39) (ar 40) rfl rfl rfl (fun u => by rw [ek]) (fun u => by rw [em])
