/-! ===== the reference: copy ===== -/
theorem fdB_s {ce g : fI} {d k i : Nat} (h : i < k) : upd (fdF ce (d + (k - i)) (fun t => g (k - i + t)) i) (d + (k - 1 - i)) (g (k - 1 - i)) = fdF ce (d + (k - (i + 1))) (fun t => g (k - (i + 1) + t)) (i + 1) := by
  funext j
  by_cases e : j = d + (k - 1 - i)
  · subst e
    rw [pk_us]
    unfold fdF
    rw [if_pos (by omega)]
    congr 1
    omega
  · rw [pk_un e]
    unfold fdF
    by_cases h2 : d + (k - i) ≤ j ∧ j < d + (k - i) + i
    · rw [if_pos h2, if_pos (by omega)]
      show g (k - i + (j - (d + (k - i)))) = g (k - (i + 1) + (j - (d + (k - (i + 1)))))
      congr 1
      omega
    · rw [if_neg h2, if_neg (by omega)]
def cpR (ce : fI) (sr ds k : Nat) : fI := fdF ce ds (fun t => ce (sr + t)) k
def T7_copy : zT := fun args hs Q => ∃ (fv : Nat → Int32) (ar : Nat → fI) (x y z w v : Int32), shOk ar ∧ args = [.ref 0, .int x, .int y, .int z, .int w, .int v] ∧ hs = pM fv ar ∧ ((wiB x 3 && wiB z 3) = false → Q (some (.int (-2))) hs) ∧ (∀ s q n m, s < 4 → x = nI s → q < 4 → z = nI q → n ≤ 40 → ar 24 s = nI n → m ≤ 40 → ar 24 q = nI m → ((ar 23 s = -1 ∨ ar 23 q = -1) → Q (some (.int (-11))) hs) ∧ (¬ ar 23 s = -1 → ¬ ar 23 q = -1 → ¬ ar 23 s = ar 23 q → Q (some (.int (-13))) hs) ∧ (¬ ar 23 s = -1 → ¬ ar 23 q = -1 → ar 23 s = ar 23 q → ((v < 0 ∨ y < 0 ∨ w < 0) → Q (some (.int (-12))) hs) ∧ (∀ a b k, a < 2 ^ 31 → b < 2 ^ 31 → k < 2 ^ 31 → y = nI a → w = nI b → v = nI k → (¬ (a + k ≤ n ∧ b + k ≤ m) → Q (some (.int (-12))) hs) ∧ (a + k ≤ n → b + k ≤ m → Q (some (.int (nI k))) (pM fv (upa ar 25 (cpR (ar 25) (40 * s + a) (40 * q + b) k)))))))
set_option maxHeartbeats 500000 in
theorem c7_copy (l : Launch) : Ct l mX7_copy false 3 0 0 T7_copy := by
  refine Ct.intro mX7_copy_ok ?_
  rintro args hs Q ⟨fv, ar, x, y, z, w, v, hsh, rfl, rfl, h0, h1⟩
  refine ⟨Nat.le_of_ble_eq_true rfl, ?_⟩
  have t18 : Q (some (.int (-2))) (pM fv ar) → V l mX7_copy false (pM fv ar) (zrm 3 0 0) (zFm false (pM fv ar) Q 0 0) 0 0 18 [(0, .ref 0), (1, .int x), (2, .int y), (3, .int z), (4, .int w), (5, .int v)] [] (pM fv ar) := by
    intro  hq
    refine V.g2 60 [18, 41, 124, 127, 147, 173] mX7_copy_ok rfl ?_
    exact ⟨_, zsim_rfl _, hq⟩
  have t41 : Q (some (.int (-11))) (pM fv ar) → V l mX7_copy false (pM fv ar) (zrm 3 0 0) (zFm false (pM fv ar) Q 0 0) 0 0 41 [(0, .ref 0), (1, .int x), (2, .int y), (3, .int z), (4, .int w), (5, .int v)] [] (pM fv ar) := by
    intro  hq
    refine V.g2 60 [18, 41, 124, 127, 147, 173] mX7_copy_ok rfl ?_
    exact ⟨_, zsim_rfl _, hq⟩
  have t124 : Q (some (.int (-12))) (pM fv ar) → V l mX7_copy false (pM fv ar) (zrm 3 0 0) (zFm false (pM fv ar) Q 0 0) 0 0 124 [(0, .ref 0), (1, .int x), (2, .int y), (3, .int z), (4, .int w), (5, .int v)] [] (pM fv ar) := by
    intro  hq
    refine V.g2 60 [18, 41, 124, 127, 147, 173] mX7_copy_ok rfl ?_
    exact ⟨_, zsim_rfl _, hq⟩
  refine V.g2 60 [18, 41, 124, 127, 147, 173] mX7_copy_ok rfl ?_
  refine V.cs mX7_copy_ok rfl lX7_117 (c7_in l) rfl rfl rfl rfl ⟨_, _, _, rfl, fun B hB => ⟨rfl, ?_⟩⟩
  rcases B with _ | _
  · refine V.g2 60 [18, 41, 124, 127, 147, 173] mX7_copy_ok rfl ?_
    refine And.intro (fun _ => ?_) (fun e => absurd rfl e)
    refine V.kn [0, 1, 2, 3, 4, 5] [(0, .ref 0), (1, .int x), (2, .int y), (3, .int z), (4, .int w), (5, .int v)] [] (pM fv ar) rfl rfl rfl ?_
    exact t18 (h0 (by rw [show wiB x 3 = false from hB.symm]; rfl))
  · refine V.g2 60 [18, 41, 124, 127, 147, 173] mX7_copy_ok rfl ?_
    refine And.intro (fun e => absurd e (by decide)) (fun _ => ?_)
    refine V.cs mX7_copy_ok rfl lX7_117 (c7_in l) rfl rfl rfl rfl ⟨_, _, _, rfl, fun B2 hB2 => ⟨rfl, ?_⟩⟩
    rcases B2 with _ | _
    · refine V.g2 60 [18, 41, 124, 127, 147, 173] mX7_copy_ok rfl ?_
      refine And.intro (fun e => absurd rfl e) (fun _ => ?_)
      refine V.kn [0, 1, 2, 3, 4, 5] [(0, .ref 0), (1, .int x), (2, .int y), (3, .int z), (4, .int w), (5, .int v)] [] (pM fv ar) rfl rfl rfl ?_
      exact t18 (h0 (by rw [show wiB z 3 = false from hB2.symm, Bool.and_false]))
    · clear t18 h0
      obtain ⟨s, hs, rfl⟩ := wiB_t (n := 3) hB.symm (by omega)
      obtain ⟨q, hq, rfl⟩ := wiB_t (n := 3) hB2.symm (by omega)
      obtain ⟨-, n, hn, hsn⟩ := hsh s hs
      obtain ⟨-, m, hm, hqm⟩ := hsh q hq
      obtain ⟨a1, a2, a3⟩ := h1 s q n m hs rfl hq rfl hn hsn hm hqm
      clear h1
      refine V.g2 60 [18, 41, 124, 127, 147, 173] mX7_copy_ok rfl ?_
      refine And.intro (fun _ => ?_) (fun e => absurd e (by decide))
      refine ⟨s, by omega, rfl, rfl, ?_⟩
      refine And.intro (fun (e1 : ((ar 23) s) = (-1 : Int32)) => ?_) (fun (e1 : ¬ ((ar 23) s) = (-1 : Int32)) => ?_)
      · refine V.kn [0, 1, 2, 3, 4, 5] [(0, .ref 0), (1, .int (nI s)), (2, .int y), (3, .int (nI q)), (4, .int w), (5, .int v)] [] (pM fv ar) rfl rfl rfl ?_
        exact t41 (a1 (Or.inl e1))
      · refine ⟨q, by omega, rfl, rfl, ?_⟩
        refine And.intro (fun (e2 : ¬ ((ar 23) q) = (-1 : Int32)) => ?_) (fun (e2 : ((ar 23) q) = (-1 : Int32)) => ?_)
        · refine ⟨s, by omega, rfl, rfl, ?_⟩
          refine ⟨q, by omega, rfl, rfl, ?_⟩
          refine And.intro (fun (e3 : ((ar 23) s) = ((ar 23) q)) => ?_) (fun (e3 : ¬ ((ar 23) s) = ((ar 23) q)) => ?_)
          · obtain ⟨b1, b2⟩ := a3 e1 e2 e3
            clear a1 a2 a3
            refine And.intro (fun (e4 : v < (0 : Int32)) => ?_) (fun (e4 : ¬ v < (0 : Int32)) => ?_)
            · refine V.kn [0, 1, 2, 3, 4, 5] [(0, .ref 0), (1, .int (nI s)), (2, .int y), (3, .int (nI q)), (4, .int w), (5, .int v)] [] (pM fv ar) rfl rfl rfl ?_
              exact t124 (b1 (Or.inl e4))
            · refine And.intro (fun (e5 : y < (0 : Int32)) => ?_) (fun (e5 : ¬ y < (0 : Int32)) => ?_)
              · refine V.kn [0, 1, 2, 3, 4, 5] [(0, .ref 0), (1, .int (nI s)), (2, .int y), (3, .int (nI q)), (4, .int w), (5, .int v)] [] (pM fv ar) rfl rfl rfl ?_
                exact t124 (b1 (Or.inr (Or.inl e5)))
              · refine And.intro (fun (e6 : w < (0 : Int32)) => ?_) (fun (e6 : ¬ w < (0 : Int32)) => ?_)
                · refine V.kn [0, 1, 2, 3, 4, 5] [(0, .ref 0), (1, .int (nI s)), (2, .int y), (3, .int (nI q)), (4, .int w), (5, .int v)] [] (pM fv ar) rfl rfl rfl ?_
                  exact t124 (b1 (Or.inr (Or.inr e6)))
                · obtain ⟨k, hk, rfl⟩ := nI_of e4
                  obtain ⟨a, ha, rfl⟩ := nI_of e5
                  obtain ⟨b, hb, rfl⟩ := nI_of e6
                  obtain ⟨d1, d2⟩ := b2 a b k ha hb hk rfl rfl rfl
                  clear b1 b2
                  refine ⟨s, by omega, rfl, rfl, ?_⟩
                  refine pk_lt n a (fun g1 => ?_) (fun g1 => ?_) hsn rfl
                  · refine V.kn [0, 1, 2, 3, 4, 5] [(0, .ref 0), (1, .int (nI s)), (2, .int (nI a)), (3, .int (nI q)), (4, .int (nI b)), (5, .int (nI k))] [] (pM fv ar) rfl rfl rfl ?_
                    exact t124 (d1 (by omega))
                  · refine ⟨q, by omega, rfl, rfl, ?_⟩
                    refine pk_lt m b (fun g2 => ?_) (fun g2 => ?_) hqm rfl
                    · refine V.kn [0, 1, 2, 3, 4, 5] [(0, .ref 0), (1, .int (nI s)), (2, .int (nI a)), (3, .int (nI q)), (4, .int (nI b)), (5, .int (nI k))] [] (pM fv ar) rfl rfl rfl ?_
                      exact t124 (d1 (by omega))
                    · refine ⟨s, by omega, rfl, rfl, ?_⟩
                      refine pk_lt (n - a) k (fun g3 => ?_) (fun g3 => ?_) (nsub (by omega) hsn rfl) rfl
                      · refine V.kn [0, 1, 2, 3, 4, 5] [(0, .ref 0), (1, .int (nI s)), (2, .int (nI a)), (3, .int (nI q)), (4, .int (nI b)), (5, .int (nI k))] [] (pM fv ar) rfl rfl rfl ?_
                        exact t124 (d1 (by omega))
                      · refine ⟨q, by omega, rfl, rfl, ?_⟩
                        refine pk_le k (m - b) (fun g4 => ?_) (fun g4 => ?_) rfl (nsub (by omega) hqm rfl)
                        · refine V.g2 60 [18, 41, 124, 127, 147, 173] mX7_copy_ok rfl ?_
                          have h := d2 (by omega) (by omega)
                          clear d1 d2 t124 t41
                          rcases Nat.lt_or_ge (40 * s + a) (40 * q + b) with hd | hd
                          · generalize hS : pM fv ar = S
                            have loop : ∀ (u i : Nat) (x8 : Int32) (ce : fI), i + u = k → x8 = nI i → ce = fdF (ar 25) (40 * q + b + (k - i)) (fun t => (fun t => ar 25 (40 * s + a + t)) (k - i + t)) i → V l mX7_copy false S (zrm 3 0 0) (zFm false S Q 0 0) 0 0 147 [(8, .int x8), (7, .int (((nI 40) * (nI q)) + (nI b))), (6, .int (((nI 40) * (nI s)) + (nI a))), (0, .ref 0), (1, .int (nI s)), (2, .int (nI a)), (3, .int (nI q)), (4, .int (nI b)), (5, .int (nI k))] [] (pM fv (upa ar 25 ce)) := by
                              intro u
                              induction u with
                              | zero =>
                                intro i x8 ce hi h8 hce
                                have ei : i = k := by omega
                                rw [ei] at hce
                                refine V.g2 60 [18, 41, 124, 127, 147, 173] mX7_copy_ok rfl ?_
                                refine pk_le k i (fun e => ?_) (fun e => absurd e (by omega)) rfl h8
                                refine ⟨_, zsim_rfl _, ?_⟩
                                have h2 : ce = cpR (ar 25) (40 * s + a) (40 * q + b) k := by
                                  rw [hce, Nat.sub_self]
                                  unfold cpR
                                  refine congrArg (fun g => fdF (ar 25) (40 * q + b) g k) ?_
                                  funext t
                                  show ar 25 (40 * s + a + (0 + t)) = _
                                  rw [Nat.zero_add]
                                rw [h2]
                                exact h
                              | succ u ih =>
                                intro i x8 ce hi h8 hce
                                refine V.g2 60 [18, 41, 124, 127, 147, 173] mX7_copy_ok rfl ?_
                                refine pk_le k i (fun el => absurd el (by omega)) (fun el => ?_) rfl h8
                                refine pk_le ((40 * q) + b) ((40 * s) + a) (fun e9 => absurd e9 (by omega)) (fun e9 => ?_) (nadd (nmul rfl rfl) rfl) (nadd (nmul rfl rfl) rfl)
                                refine V.g2 60 [18, 41, 124, 127, 147, 173] mX7_copy_ok rfl ?_
                                refine ⟨(((40 * s) + a) + ((k - 1) - i)), by omega, (nadd (nadd (nmul rfl rfl) rfl) (nsub (by omega) (nsub (by omega) rfl rfl) h8)), rfl, ?_⟩
                                refine ⟨(((40 * q) + b) + ((k - 1) - i)), by omega, (nadd (nadd (nmul rfl rfl) rfl) (nsub (by omega) (nsub (by omega) rfl rfl) h8)), rfl, ?_⟩
                                refine V.kn [8, 7, 6, 0, 1, 2, 3, 4, 5] [(8, .int (x8 + zi 1)), (7, .int (((nI 40) * (nI q)) + (nI b))), (6, .int (((nI 40) * (nI s)) + (nI a))), (0, .ref 0), (1, .int (nI s)), (2, .int (nI a)), (3, .int (nI q)), (4, .int (nI b)), (5, .int (nI k))] [] (pM fv (upa ar 25 (upd ce (((40 * q) + b) + ((k - 1) - i)) (ce (((40 * s) + a) + ((k - 1) - i)))))) rfl rfl rfl ?_
                                refine ih (i + 1) _ _ (by omega) (ninc h8) ?_
                                have hr : ce (40 * s + a + (k - 1 - i)) = ar 25 (40 * s + a + (k - 1 - i)) := by rw [hce]; exact fdF_out (by omega)
                                rw [hr, hce]
                                exact fdB_s (g := fun t => ar 25 (40 * s + a + t)) el
                            subst hS
                            refine V.kn [8, 7, 6, 0, 1, 2, 3, 4, 5] [(8, .int (nI 0)), (7, .int (((nI 40) * (nI q)) + (nI b))), (6, .int (((nI 40) * (nI s)) + (nI a))), (0, .ref 0), (1, .int (nI s)), (2, .int (nI a)), (3, .int (nI q)), (4, .int (nI b)), (5, .int (nI k))] [] (pM fv ar) rfl rfl rfl ?_
                            exact loop k 0 _ (ar 25) (by omega) rfl (fdF_0 _ _ _).symm
                          · generalize hS : pM fv ar = S
                            have loop : ∀ (u i : Nat) (x8 : Int32) (ce : fI), i + u = k → x8 = nI i → ce = fdF (ar 25) (40 * q + b) (fun t => ar 25 (40 * s + a + t)) i → V l mX7_copy false S (zrm 3 0 0) (zFm false S Q 0 0) 0 0 147 [(8, .int x8), (7, .int (((nI 40) * (nI q)) + (nI b))), (6, .int (((nI 40) * (nI s)) + (nI a))), (0, .ref 0), (1, .int (nI s)), (2, .int (nI a)), (3, .int (nI q)), (4, .int (nI b)), (5, .int (nI k))] [] (pM fv (upa ar 25 ce)) := by
                              intro u
                              induction u with
                              | zero =>
                                intro i x8 ce hi h8 hce
                                have ei : i = k := by omega
                                rw [ei] at hce
                                refine V.g2 60 [18, 41, 124, 127, 147, 173] mX7_copy_ok rfl ?_
                                refine pk_le k i (fun e => ?_) (fun e => absurd e (by omega)) rfl h8
                                refine ⟨_, zsim_rfl _, ?_⟩
                                rw [hce]
                                exact h
                              | succ u ih =>
                                intro i x8 ce hi h8 hce
                                refine V.g2 60 [18, 41, 124, 127, 147, 173] mX7_copy_ok rfl ?_
                                refine pk_le k i (fun el => absurd el (by omega)) (fun el => ?_) rfl h8
                                refine pk_le ((40 * q) + b) ((40 * s) + a) (fun e9 => ?_) (fun e9 => absurd e9 (by omega)) (nadd (nmul rfl rfl) rfl) (nadd (nmul rfl rfl) rfl)
                                refine V.g2 60 [18, 41, 124, 127, 147, 173] mX7_copy_ok rfl ?_
                                refine ⟨(((40 * s) + a) + i), by omega, (nadd (nadd (nmul rfl rfl) rfl) h8), rfl, ?_⟩
                                refine ⟨(((40 * q) + b) + i), by omega, (nadd (nadd (nmul rfl rfl) rfl) h8), rfl, ?_⟩
                                refine V.kn [8, 7, 6, 0, 1, 2, 3, 4, 5] [(8, .int (x8 + zi 1)), (7, .int (((nI 40) * (nI q)) + (nI b))), (6, .int (((nI 40) * (nI s)) + (nI a))), (0, .ref 0), (1, .int (nI s)), (2, .int (nI a)), (3, .int (nI q)), (4, .int (nI b)), (5, .int (nI k))] [] (pM fv (upa ar 25 (upd ce (((40 * q) + b) + i) (ce (((40 * s) + a) + i))))) rfl rfl rfl ?_
                                refine ih (i + 1) _ _ (by omega) (ninc h8) ?_
                                have hr : ce (40 * s + a + i) = ar 25 (40 * s + a + i) := by rw [hce]; exact fdF_out (by omega)
                                rw [hr, hce]
                                exact fdF_s _ _ _ _
                            subst hS
                            refine V.kn [8, 7, 6, 0, 1, 2, 3, 4, 5] [(8, .int (nI 0)), (7, .int (((nI 40) * (nI q)) + (nI b))), (6, .int (((nI 40) * (nI s)) + (nI a))), (0, .ref 0), (1, .int (nI s)), (2, .int (nI a)), (3, .int (nI q)), (4, .int (nI b)), (5, .int (nI k))] [] (pM fv ar) rfl rfl rfl ?_
                            exact loop k 0 _ (ar 25) (by omega) rfl (fdF_0 _ _ _).symm
                        · refine V.kn [0, 1, 2, 3, 4, 5] [(0, .ref 0), (1, .int (nI s)), (2, .int (nI a)), (3, .int (nI q)), (4, .int (nI b)), (5, .int (nI k))] [] (pM fv ar) rfl rfl rfl ?_
                          exact t124 (d1 (by omega))
          · exact ⟨_, zsim_rfl _, a2 e1 e2 e3⟩
        · refine V.kn [0, 1, 2, 3, 4, 5] [(0, .ref 0), (1, .int (nI s)), (2, .int y), (3, .int (nI q)), (4, .int w), (5, .int v)] [] (pM fv ar) rfl rfl rfl ?_
          exact t41 (a1 (Or.inr e2))
