def cpS (f g : fI) (a b k : Nat) : fI := fdF g b (fun t => f (a + t)) k
theorem cp_eq {f g : fI} {a b k : Nat} : va_cpy f g a b k = cpS f g a b k := by
  funext j
  unfold cpS fdF
  by_cases h : b ≤ j ∧ j < b + k
  · rw [if_pos h, pk_cpy_in h.1 h.2]
  · rw [if_neg h, pk_cpy_out (by omega)]
theorem cp_out {n m : Nat} {y w v : Int32} {X : Prop} (hn : n ≤ 40) (hm : m ≤ 40) (h : hasF (nI n) y v = false ∨ hasF (nI m) w v = false) (h1 : (v < 0 ∨ y < 0 ∨ w < 0) → X) (h2 : ∀ a b k, a < 2 ^ 31 → b < 2 ^ 31 → k < 2 ^ 31 → y = nI a → w = nI b → v = nI k → ¬ (a + k ≤ n ∧ b + k ≤ m) → X) : X := by
  by_cases hv : v < 0
  · exact h1 (Or.inl hv)
  · by_cases hy : y < 0
    · exact h1 (Or.inr (Or.inl hy))
    · by_cases hw : w < 0
      · exact h1 (Or.inr (Or.inr hw))
      · obtain ⟨a, ha, ea⟩ := nn_ex hy
        obtain ⟨b, hb, eb⟩ := nn_ex hw
        obtain ⟨k, hk, ek⟩ := nn_ex hv
        refine h2 a b k ha hb hk ea eb ek (fun z => ?_)
        rw [ea, eb, ek, has_nn hn ha hk, has_nn hm hb hk, decide_eq_true z.1, decide_eq_true z.2] at h
        rcases h with h | h <;> cases h
theorem has_ex {n : Nat} {y v : Int32} (hn : n ≤ 40) (h : hasF (nI n) y v = true) : ∃ a k, a < 2 ^ 31 ∧ k < 2 ^ 31 ∧ y = nI a ∧ v = nI k ∧ a + k ≤ n := by
  obtain ⟨a, ha, ea⟩ := nn_ex (x := y) (fun z => by rw [has_neg (Or.inl z)] at h; cases h)
  obtain ⟨k, hk, ek⟩ := nn_ex (x := v) (fun z => by rw [has_neg (Or.inr z)] at h; cases h)
  rw [ea, ek, has_nn hn ha hk, decide_eq_true_eq] at h
  exact ⟨a, k, ha, hk, ea, ek, h⟩
def T6_copy : zT := fun args hs Q => ∃ (c d k : zCart) (r tr kr : zRow) (rd : zRd) (ft : Nat) (tg : Nat → Option Nat) (tc lw kl ik : Int32) (ri : zRi) (s0 s1 s2 s3 : zSh) (tx : zTx) (x y z w v : Int32), (∀ s, s < 4 → ∃ n, n ≤ 40 ∧ (shW s0 s1 s2 s3 s).2.1 = nI n) ∧ args = [.ref 0, .int x, .int y, .int z, .int w, .int v] ∧ hs = pX c d k r tr kr rd ft tg tc lw kl ik ri s0 s1 s2 s3 tx ∧ ((wiB x 3 && wiB z 3) = false → Q (some (.int (-2))) hs) ∧ (∀ s q n m, s < 4 → x = nI s → q < 4 → z = nI q → n ≤ 40 → (shW s0 s1 s2 s3 s).2.1 = nI n → m ≤ 40 → (shW s0 s1 s2 s3 q).2.1 = nI m → (((shW s0 s1 s2 s3 s).1 = -1 ∨ (shW s0 s1 s2 s3 q).1 = -1) → Q (some (.int (-11))) hs) ∧ (¬ (shW s0 s1 s2 s3 s).1 = -1 → ¬ (shW s0 s1 s2 s3 q).1 = -1 → ¬ (shW s0 s1 s2 s3 s).1 = (shW s0 s1 s2 s3 q).1 → Q (some (.int (-13))) hs) ∧ (¬ (shW s0 s1 s2 s3 s).1 = -1 → ¬ (shW s0 s1 s2 s3 q).1 = -1 → (shW s0 s1 s2 s3 s).1 = (shW s0 s1 s2 s3 q).1 → ((v < 0 ∨ y < 0 ∨ w < 0) → Q (some (.int (-12))) hs) ∧ (∀ a b k1, a < 2 ^ 31 → b < 2 ^ 31 → k1 < 2 ^ 31 → y = nI a → w = nI b → v = nI k1 → (¬ (a + k1 ≤ n ∧ b + k1 ≤ m) → Q (some (.int (-12))) hs) ∧ (a + k1 ≤ n → b + k1 ≤ m → Q (some (.int (nI k1))) (pX c d k r tr kr rd ft tg tc lw kl ik ri (shO 0 q ((shW s0 s1 s2 s3 q).1, (shW s0 s1 s2 s3 q).2.1, cpS (shW s0 s1 s2 s3 s).2.2 (shW s0 s1 s2 s3 q).2.2 a b k1) s0) (shO 1 q ((shW s0 s1 s2 s3 q).1, (shW s0 s1 s2 s3 q).2.1, cpS (shW s0 s1 s2 s3 s).2.2 (shW s0 s1 s2 s3 q).2.2 a b k1) s1) (shO 2 q ((shW s0 s1 s2 s3 q).1, (shW s0 s1 s2 s3 q).2.1, cpS (shW s0 s1 s2 s3 s).2.2 (shW s0 s1 s2 s3 q).2.2 a b k1) s2) (shO 3 q ((shW s0 s1 s2 s3 q).1, (shW s0 s1 s2 s3 q).2.1, cpS (shW s0 s1 s2 s3 s).2.2 (shW s0 s1 s2 s3 q).2.2 a b k1) s3) tx)))))
set_option maxHeartbeats 4000000 in
theorem c6_copy (l : Launch) : Ct l mX6_copy false 4 0 0 T6_copy := by
  refine Ct.intro mX6_copy_ok ?_
  rintro args hs Q ⟨c, d, k, r, tr, kr, rd, ft, tg, tc, lw, kl, ik, ri, s0, s1, s2, s3, tx, x, y, z, w, v, hsh, rfl, rfl, h0, h1⟩
  refine ⟨Nat.le_of_ble_eq_true rfl, ?_⟩
  refine V.g2 60 [14, 23, 31, 51, 93] mX6_copy_ok rfl ?_
  refine V.cS0 mX6_copy_ok rfl lX6_278 (ct_isSheet l) rfl [.int x] [] rfl rfl rfl (some (.int (bI (wiB x 3)))) ⟨_, rfl, rfl, rfl⟩ ?_
  cases hB : wiB x 3 with
  | false =>
    refine V.nm [(0, .ref 0), (1, .int x), (2, .int y), (3, .int z), (4, .int w), (5, .int v)] [.int (bI false)] (pX c d k r tr kr rd ft tg tc lw kl ik ri s0 s1 s2 s3 tx) rfl rfl rfl ?_
    refine V.g2 60 [14, 23, 31, 51, 93] mX6_copy_ok rfl ?_
    refine And.intro (fun _ => ?_) (fun e => absurd rfl e)
    refine V.g2 60 [14, 23, 31, 51, 93] mX6_copy_ok rfl ?_
    exact ⟨_, zsim_rfl _, h0 (by rw [hB]; rfl)⟩
  | true =>
    refine V.nm [(0, .ref 0), (1, .int x), (2, .int y), (3, .int z), (4, .int w), (5, .int v)] [.int (bI true)] (pX c d k r tr kr rd ft tg tc lw kl ik ri s0 s1 s2 s3 tx) rfl rfl rfl ?_
    refine V.g2 60 [14, 23, 31, 51, 93] mX6_copy_ok rfl ?_
    refine And.intro (fun e => absurd e (by decide)) (fun _ => ?_)
    refine V.cS0 mX6_copy_ok rfl lX6_278 (ct_isSheet l) rfl [.int z] [] rfl rfl rfl (some (.int (bI (wiB z 3)))) ⟨_, rfl, rfl, rfl⟩ ?_
    cases hC : wiB z 3 with
    | false =>
      refine V.nm [(0, .ref 0), (1, .int x), (2, .int y), (3, .int z), (4, .int w), (5, .int v)] [.int (bI false)] (pX c d k r tr kr rd ft tg tc lw kl ik ri s0 s1 s2 s3 tx) rfl rfl rfl ?_
      refine V.g2 60 [14, 23, 31, 51, 93] mX6_copy_ok rfl ?_
      refine And.intro (fun e => absurd rfl e) (fun _ => ?_)
      refine V.g2 60 [14, 23, 31, 51, 93] mX6_copy_ok rfl ?_
      exact ⟨_, zsim_rfl _, h0 (by rw [hB, hC]; rfl)⟩
    | true =>
      refine V.nm [(0, .ref 0), (1, .int x), (2, .int y), (3, .int z), (4, .int w), (5, .int v)] [.int (bI true)] (pX c d k r tr kr rd ft tg tc lw kl ik ri s0 s1 s2 s3 tx) rfl rfl rfl ?_
      obtain ⟨s, hs4, rfl⟩ := wiB_t hB (by omega)
      obtain ⟨q, hq4, rfl⟩ := wiB_t hC (by omega)
      obtain ⟨n, hn40, hsz⟩ := hsh s hs4
      obtain ⟨m, hm40, hqz⟩ := hsh q hq4
      obtain ⟨g1, g2, g3⟩ := h1 s q n m hs4 rfl hq4 rfl hn40 hsz hm40 hqz
      clear h0 h1 hB hC hsh
      refine V.nm [(0, .ref 0), (1, .int (nI s)), (2, .int y), (3, .int (nI q)), (4, .int w), (5, .int v)] [.int (bI true)] (pX c d k r tr kr rd ft tg tc lw kl ik ri s0 s1 s2 s3 tx) rfl rfl rfl ?_
      obtain ⟨S, hS⟩ : ∃ S, pX c d k r tr kr rd ft tg tc lw kl ik ri s0 s1 s2 s3 tx = S := ⟨_, rfl⟩
      refine V.s0 hS ?_
      rcases (show s = 0 ∨ s = 1 ∨ s = 2 ∨ s = 3 by omega) with rfl | rfl | rfl | rfl
      · rcases (show q = 0 ∨ q = 1 ∨ q = 2 ∨ q = 3 by omega) with rfl | rfl | rfl | rfl
        · refine V.nm [(0, .ref 0), (1, .int (nI 0)), (2, .int y), (3, .int (nI 0)), (4, .int w), (5, .int v)] [.int (bI true)] (pX c d k r tr kr rd ft tg tc lw kl ik ri s0 s1 s2 s3 tx) rfl rfl rfl ?_
          have hsz : s0.2.1 = nI n := hsz
          have hqz : s0.2.1 = nI m := hqz
          subst hS
          refine V.g2 60 [14, 23, 31, 51, 93] mX6_copy_ok rfl ?_
          refine And.intro (fun _ => ?_) (fun e => absurd e (by decide))
          have er : zrf (zsg (nI 0).toNatClampNeg) = .ref 86 := by rw [pk_cl 0 rfl]; rfl
          refine And.intro (pk_in 0 4 (by omega) rfl) ?_
          refine V.nm [(0, .ref 0), (1, .int (nI 0)), (2, .int y), (3, .int (nI 0)), (4, .int w), (5, .int v)] [.ref 86] (pX c d k r tr kr rd ft tg tc lw kl ik ri s0 s1 s2 s3 tx) rfl (by rw [← er] <;> rfl) rfl ?_
          refine V.g2 60 [14, 23, 31, 51, 93] mX6_copy_ok rfl ?_
          have er : zrf (zsg (nI 0).toNatClampNeg) = .ref 86 := by rw [pk_cl 0 rfl]; rfl
          refine And.intro (pk_in 0 4 (by omega) rfl) ?_
          refine V.nm [(6, .ref 86), (0, .ref 0), (1, .int (nI 0)), (2, .int y), (3, .int (nI 0)), (4, .int w), (5, .int v)] [.ref 86] (pX c d k r tr kr rd ft tg tc lw kl ik ri s0 s1 s2 s3 tx) rfl (by rw [← er] <;> rfl) rfl ?_
          refine V.g2 60 [14, 23, 31, 51, 93] mX6_copy_ok rfl ?_
          refine And.intro (fun (e1 : (s0.1) = (-1 : Int32)) => ?_) (fun (e1 : ¬ (s0.1) = (-1 : Int32)) => ?_)
          · refine V.g2 60 [14, 23, 31, 51, 93] mX6_copy_ok rfl ?_
            exact ⟨_, zsim_rfl _, g1 (Or.inl e1)⟩
          · refine And.intro (fun (e2 : ¬ (s0.1) = (-1 : Int32)) => ?_) (fun (e2 : (s0.1) = (-1 : Int32)) => ?_)
            · refine And.intro (fun (e3 : (s0.1) = (s0.1)) => ?_) (fun (e3 : ¬ (s0.1) = (s0.1)) => absurd rfl e3)
              obtain ⟨g4, g5⟩ := g3 e1 e2 rfl
              clear g1 g2 g3
              refine V.cV1P mX6_copy_ok rfl lX6_345 (ct_has l) rfl 56 rfl [43, 44] [none, none, none, none, none, none, none, none, none, none, none, none, none, none, none, none, none, none, none, none, none, none, none, none, none, none, none, none, none, none, none, none, none, none, none, none, none, none, none, none, none, none, none, some 0, some 1, none, none, none, none, none, none, none, none, none, none, none] (by decide +kernel) (pSheet 0 (s0.1) (s0.2.1) (s0.2.2)) [.ref 0, .int y, .int v] [] rfl 0 4 rfl rfl rfl rfl rfl rfl rfl rfl (some (.int (bI (hasF s0.2.1 y v)))) (pSheet 0 (s0.1) (s0.2.1) (s0.2.2)) ⟨s0.1, s0.2.1, y, v, s0.2.2, rfl, rfl, rfl, rfl⟩ rfl (pX c d k r tr kr rd ft tg tc lw kl ik ri s0 s1 s2 s3 tx) [.int (bI (hasF s0.2.1 y v))] rfl rfl ?_
              cases hH : (hasF s0.2.1 y v) with
              | false =>
                refine V.nm [(7, .ref 86), (6, .ref 86), (0, .ref 0), (1, .int (nI 0)), (2, .int y), (3, .int (nI 0)), (4, .int w), (5, .int v)] [.int (bI false)] (pX c d k r tr kr rd ft tg tc lw kl ik ri s0 s1 s2 s3 tx) rfl rfl rfl ?_
                rw [hsz] at hH
                refine V.g2 60 [14, 23, 31, 51, 93] mX6_copy_ok rfl ?_
                refine And.intro (fun _ => ?_) (fun e => absurd rfl e)
                refine V.g2 60 [14, 23, 31, 51, 93] mX6_copy_ok rfl ?_
                exact ⟨_, zsim_rfl _, cp_out hn40 hm40 (Or.inl hH) g4 (fun a b k z1 z2 z3 z4 z5 z6 z7 => (g5 a b k z1 z2 z3 z4 z5 z6).1 z7)⟩
              | true =>
                refine V.nm [(7, .ref 86), (6, .ref 86), (0, .ref 0), (1, .int (nI 0)), (2, .int y), (3, .int (nI 0)), (4, .int w), (5, .int v)] [.int (bI true)] (pX c d k r tr kr rd ft tg tc lw kl ik ri s0 s1 s2 s3 tx) rfl rfl rfl ?_
                rw [hsz] at hH
                refine V.g2 60 [14, 23, 31, 51, 93] mX6_copy_ok rfl ?_
                refine And.intro (fun e => absurd e (by decide)) (fun _ => ?_)
                refine V.cV1P mX6_copy_ok rfl lX6_345 (ct_has l) rfl 56 rfl [43, 44] [none, none, none, none, none, none, none, none, none, none, none, none, none, none, none, none, none, none, none, none, none, none, none, none, none, none, none, none, none, none, none, none, none, none, none, none, none, none, none, none, none, none, none, some 0, some 1, none, none, none, none, none, none, none, none, none, none, none] (by decide +kernel) (pSheet 0 (s0.1) (s0.2.1) (s0.2.2)) [.ref 0, .int w, .int v] [] rfl 0 4 rfl rfl rfl rfl rfl rfl rfl rfl (some (.int (bI (hasF s0.2.1 w v)))) (pSheet 0 (s0.1) (s0.2.1) (s0.2.2)) ⟨s0.1, s0.2.1, w, v, s0.2.2, rfl, rfl, rfl, rfl⟩ rfl (pX c d k r tr kr rd ft tg tc lw kl ik ri s0 s1 s2 s3 tx) [.int (bI (hasF s0.2.1 w v))] rfl rfl ?_
                cases hK : (hasF s0.2.1 w v) with
                | false =>
                  refine V.nm [(7, .ref 86), (6, .ref 86), (0, .ref 0), (1, .int (nI 0)), (2, .int y), (3, .int (nI 0)), (4, .int w), (5, .int v)] [.int (bI false)] (pX c d k r tr kr rd ft tg tc lw kl ik ri s0 s1 s2 s3 tx) rfl rfl rfl ?_
                  rw [hqz] at hK
                  refine V.g2 60 [14, 23, 31, 51, 93] mX6_copy_ok rfl ?_
                  refine And.intro (fun e => absurd rfl e) (fun _ => ?_)
                  refine V.g2 60 [14, 23, 31, 51, 93] mX6_copy_ok rfl ?_
                  exact ⟨_, zsim_rfl _, cp_out hn40 hm40 (Or.inr hK) g4 (fun a b k z1 z2 z3 z4 z5 z6 z7 => (g5 a b k z1 z2 z3 z4 z5 z6).1 z7)⟩
                | true =>
                  refine V.nm [(7, .ref 86), (6, .ref 86), (0, .ref 0), (1, .int (nI 0)), (2, .int y), (3, .int (nI 0)), (4, .int w), (5, .int v)] [.int (bI true)] (pX c d k r tr kr rd ft tg tc lw kl ik ri s0 s1 s2 s3 tx) rfl rfl rfl ?_
                  rw [hqz] at hK
                  obtain ⟨a, k1, ha, hk1, rfl, rfl, hak⟩ := has_ex hn40 hH
                  obtain ⟨b, k2, hb, hk2, rfl, e5, hbk⟩ := has_ex hm40 hK
                  obtain rfl : k1 = k2 := (nI_eq hk1 hk2).mp e5
                  have hfin := (g5 a b k1 ha hb hk1 rfl rfl rfl).2 hak hbk
                  refine V.nm [(7, .ref 86), (6, .ref 86), (0, .ref 0), (1, .int (nI 0)), (2, .int (nI a)), (3, .int (nI 0)), (4, .int (nI b)), (5, .int (nI k1))] [.int (bI true)] (pX c d k r tr kr rd ft tg tc lw kl ik ri s0 s1 s2 s3 tx) rfl rfl rfl ?_
                  refine V.g2 60 [14, 23, 31, 51, 93] mX6_copy_ok rfl ?_
                  refine And.intro (fun _ => ?_) (fun e => absurd e (by decide))
                  have ca : (nI a).toNatClampNeg = a := nI_clamp ha
                  have cb : (nI b).toNatClampNeg = b := nI_clamp hb
                  have ck : (nI k1).toNatClampNeg = k1 := nI_clamp hk1
                  refine V.acopy mX6_copy_ok rfl lX6_348 rfl rfl 44 44 rfl rfl (Int32.not_lt.mpr (nI_le (Nat.zero_le a) (by omega))) (Int32.not_lt.mpr (nI_le (Nat.zero_le b) (by omega))) (Int32.not_lt.mpr (nI_le (Nat.zero_le k1) (by omega))) (by rw [ca, ck]; omega) (by rw [cb, ck]; omega) ?_
                  rw [ca, cb, ck, cp_eq]
                  refine V.nm [(7, .ref 86), (6, .ref 86), (0, .ref 0), (1, .int (nI 0)), (2, .int (nI a)), (3, .int (nI 0)), (4, .int (nI b)), (5, .int (nI k1))] [] (pX c d k r tr kr rd ft tg tc lw kl ik ri ((s0.1), (s0.2.1), (cpS s0.2.2 s0.2.2 a b k1)) s1 s2 s3 tx) rfl rfl rfl ?_
                  refine V.g2 60 [14, 23, 31, 51, 93] mX6_copy_ok rfl ?_
                  exact ⟨_, zsim_rfl _, hfin⟩
            · refine V.g2 60 [14, 23, 31, 51, 93] mX6_copy_ok rfl ?_
              exact ⟨_, zsim_rfl _, g1 (Or.inr e2)⟩
        · refine V.nm [(0, .ref 0), (1, .int (nI 0)), (2, .int y), (3, .int (nI 1)), (4, .int w), (5, .int v)] [.int (bI true)] (pX c d k r tr kr rd ft tg tc lw kl ik ri s0 s1 s2 s3 tx) rfl rfl rfl ?_
          have hsz : s0.2.1 = nI n := hsz
          have hqz : s1.2.1 = nI m := hqz
          subst hS
          refine V.g2 60 [14, 23, 31, 51, 93] mX6_copy_ok rfl ?_
          refine And.intro (fun _ => ?_) (fun e => absurd e (by decide))
          have er : zrf (zsg (nI 0).toNatClampNeg) = .ref 86 := by rw [pk_cl 0 rfl]; rfl
          refine And.intro (pk_in 0 4 (by omega) rfl) ?_
          refine V.nm [(0, .ref 0), (1, .int (nI 0)), (2, .int y), (3, .int (nI 1)), (4, .int w), (5, .int v)] [.ref 86] (pX c d k r tr kr rd ft tg tc lw kl ik ri s0 s1 s2 s3 tx) rfl (by rw [← er] <;> rfl) rfl ?_
          refine V.g2 60 [14, 23, 31, 51, 93] mX6_copy_ok rfl ?_
          have er : zrf (zsg (nI 1).toNatClampNeg) = .ref 90 := by rw [pk_cl 1 rfl]; rfl
          refine And.intro (pk_in 1 4 (by omega) rfl) ?_
          refine V.nm [(6, .ref 86), (0, .ref 0), (1, .int (nI 0)), (2, .int y), (3, .int (nI 1)), (4, .int w), (5, .int v)] [.ref 90] (pX c d k r tr kr rd ft tg tc lw kl ik ri s0 s1 s2 s3 tx) rfl (by rw [← er] <;> rfl) rfl ?_
          refine V.g2 60 [14, 23, 31, 51, 93] mX6_copy_ok rfl ?_
          refine And.intro (fun (e1 : (s0.1) = (-1 : Int32)) => ?_) (fun (e1 : ¬ (s0.1) = (-1 : Int32)) => ?_)
          · refine V.g2 60 [14, 23, 31, 51, 93] mX6_copy_ok rfl ?_
            exact ⟨_, zsim_rfl _, g1 (Or.inl e1)⟩
          · refine And.intro (fun (e2 : ¬ (s1.1) = (-1 : Int32)) => ?_) (fun (e2 : (s1.1) = (-1 : Int32)) => ?_)
            · refine And.intro (fun (e3 : (s0.1) = (s1.1)) => ?_) (fun (e3 : ¬ (s0.1) = (s1.1)) => ?_)
              · obtain ⟨g4, g5⟩ := g3 e1 e2 e3
                clear g1 g2 g3
                refine V.cV1P mX6_copy_ok rfl lX6_345 (ct_has l) rfl 56 rfl [43, 44] [none, none, none, none, none, none, none, none, none, none, none, none, none, none, none, none, none, none, none, none, none, none, none, none, none, none, none, none, none, none, none, none, none, none, none, none, none, none, none, none, none, none, none, some 0, some 1, none, none, none, none, none, none, none, none, none, none, none] (by decide +kernel) (pSheet 0 (s0.1) (s0.2.1) (s0.2.2)) [.ref 0, .int y, .int v] [] rfl 0 4 rfl rfl rfl rfl rfl rfl rfl rfl (some (.int (bI (hasF s0.2.1 y v)))) (pSheet 0 (s0.1) (s0.2.1) (s0.2.2)) ⟨s0.1, s0.2.1, y, v, s0.2.2, rfl, rfl, rfl, rfl⟩ rfl (pX c d k r tr kr rd ft tg tc lw kl ik ri s0 s1 s2 s3 tx) [.int (bI (hasF s0.2.1 y v))] rfl rfl ?_
                cases hH : (hasF s0.2.1 y v) with
                | false =>
                  refine V.nm [(7, .ref 90), (6, .ref 86), (0, .ref 0), (1, .int (nI 0)), (2, .int y), (3, .int (nI 1)), (4, .int w), (5, .int v)] [.int (bI false)] (pX c d k r tr kr rd ft tg tc lw kl ik ri s0 s1 s2 s3 tx) rfl rfl rfl ?_
                  rw [hsz] at hH
                  refine V.g2 60 [14, 23, 31, 51, 93] mX6_copy_ok rfl ?_
                  refine And.intro (fun _ => ?_) (fun e => absurd rfl e)
                  refine V.g2 60 [14, 23, 31, 51, 93] mX6_copy_ok rfl ?_
                  exact ⟨_, zsim_rfl _, cp_out hn40 hm40 (Or.inl hH) g4 (fun a b k z1 z2 z3 z4 z5 z6 z7 => (g5 a b k z1 z2 z3 z4 z5 z6).1 z7)⟩
                | true =>
                  refine V.nm [(7, .ref 90), (6, .ref 86), (0, .ref 0), (1, .int (nI 0)), (2, .int y), (3, .int (nI 1)), (4, .int w), (5, .int v)] [.int (bI true)] (pX c d k r tr kr rd ft tg tc lw kl ik ri s0 s1 s2 s3 tx) rfl rfl rfl ?_
                  rw [hsz] at hH
                  refine V.g2 60 [14, 23, 31, 51, 93] mX6_copy_ok rfl ?_
                  refine And.intro (fun e => absurd e (by decide)) (fun _ => ?_)
                  refine V.cV1P mX6_copy_ok rfl lX6_345 (ct_has l) rfl 56 rfl [45, 46] [none, none, none, none, none, none, none, none, none, none, none, none, none, none, none, none, none, none, none, none, none, none, none, none, none, none, none, none, none, none, none, none, none, none, none, none, none, none, none, none, none, none, none, none, none, some 0, some 1, none, none, none, none, none, none, none, none, none] (by decide +kernel) (pSheet 0 (s1.1) (s1.2.1) (s1.2.2)) [.ref 0, .int w, .int v] [] rfl 0 4 rfl rfl rfl rfl rfl rfl rfl rfl (some (.int (bI (hasF s1.2.1 w v)))) (pSheet 0 (s1.1) (s1.2.1) (s1.2.2)) ⟨s1.1, s1.2.1, w, v, s1.2.2, rfl, rfl, rfl, rfl⟩ rfl (pX c d k r tr kr rd ft tg tc lw kl ik ri s0 s1 s2 s3 tx) [.int (bI (hasF s1.2.1 w v))] rfl rfl ?_
                  cases hK : (hasF s1.2.1 w v) with
                  | false =>
                    refine V.nm [(7, .ref 90), (6, .ref 86), (0, .ref 0), (1, .int (nI 0)), (2, .int y), (3, .int (nI 1)), (4, .int w), (5, .int v)] [.int (bI false)] (pX c d k r tr kr rd ft tg tc lw kl ik ri s0 s1 s2 s3 tx) rfl rfl rfl ?_
                    rw [hqz] at hK
                    refine V.g2 60 [14, 23, 31, 51, 93] mX6_copy_ok rfl ?_
                    refine And.intro (fun e => absurd rfl e) (fun _ => ?_)
                    refine V.g2 60 [14, 23, 31, 51, 93] mX6_copy_ok rfl ?_
                    exact ⟨_, zsim_rfl _, cp_out hn40 hm40 (Or.inr hK) g4 (fun a b k z1 z2 z3 z4 z5 z6 z7 => (g5 a b k z1 z2 z3 z4 z5 z6).1 z7)⟩
                  | true =>
                    refine V.nm [(7, .ref 90), (6, .ref 86), (0, .ref 0), (1, .int (nI 0)), (2, .int y), (3, .int (nI 1)), (4, .int w), (5, .int v)] [.int (bI true)] (pX c d k r tr kr rd ft tg tc lw kl ik ri s0 s1 s2 s3 tx) rfl rfl rfl ?_
                    rw [hqz] at hK
                    obtain ⟨a, k1, ha, hk1, rfl, rfl, hak⟩ := has_ex hn40 hH
                    obtain ⟨b, k2, hb, hk2, rfl, e5, hbk⟩ := has_ex hm40 hK
                    obtain rfl : k1 = k2 := (nI_eq hk1 hk2).mp e5
                    have hfin := (g5 a b k1 ha hb hk1 rfl rfl rfl).2 hak hbk
                    refine V.nm [(7, .ref 90), (6, .ref 86), (0, .ref 0), (1, .int (nI 0)), (2, .int (nI a)), (3, .int (nI 1)), (4, .int (nI b)), (5, .int (nI k1))] [.int (bI true)] (pX c d k r tr kr rd ft tg tc lw kl ik ri s0 s1 s2 s3 tx) rfl rfl rfl ?_
                    refine V.g2 60 [14, 23, 31, 51, 93] mX6_copy_ok rfl ?_
                    refine And.intro (fun _ => ?_) (fun e => absurd e (by decide))
                    have ca : (nI a).toNatClampNeg = a := nI_clamp ha
                    have cb : (nI b).toNatClampNeg = b := nI_clamp hb
                    have ck : (nI k1).toNatClampNeg = k1 := nI_clamp hk1
                    refine V.acopy mX6_copy_ok rfl lX6_348 rfl rfl 44 46 rfl rfl (Int32.not_lt.mpr (nI_le (Nat.zero_le a) (by omega))) (Int32.not_lt.mpr (nI_le (Nat.zero_le b) (by omega))) (Int32.not_lt.mpr (nI_le (Nat.zero_le k1) (by omega))) (by rw [ca, ck]; omega) (by rw [cb, ck]; omega) ?_
                    rw [ca, cb, ck, cp_eq]
                    refine V.nm [(7, .ref 90), (6, .ref 86), (0, .ref 0), (1, .int (nI 0)), (2, .int (nI a)), (3, .int (nI 1)), (4, .int (nI b)), (5, .int (nI k1))] [] (pX c d k r tr kr rd ft tg tc lw kl ik ri s0 ((s1.1), (s1.2.1), (cpS s0.2.2 s1.2.2 a b k1)) s2 s3 tx) rfl rfl rfl ?_
                    refine V.g2 60 [14, 23, 31, 51, 93] mX6_copy_ok rfl ?_
                    exact ⟨_, zsim_rfl _, hfin⟩
              · exact ⟨_, zsim_rfl _, g2 e1 e2 e3⟩
            · refine V.g2 60 [14, 23, 31, 51, 93] mX6_copy_ok rfl ?_
              exact ⟨_, zsim_rfl _, g1 (Or.inr e2)⟩
        · refine V.nm [(0, .ref 0), (1, .int (nI 0)), (2, .int y), (3, .int (nI 2)), (4, .int w), (5, .int v)] [.int (bI true)] (pX c d k r tr kr rd ft tg tc lw kl ik ri s0 s1 s2 s3 tx) rfl rfl rfl ?_
          have hsz : s0.2.1 = nI n := hsz
          have hqz : s2.2.1 = nI m := hqz
          subst hS
          refine V.g2 60 [14, 23, 31, 51, 93] mX6_copy_ok rfl ?_
          refine And.intro (fun _ => ?_) (fun e => absurd e (by decide))
          have er : zrf (zsg (nI 0).toNatClampNeg) = .ref 86 := by rw [pk_cl 0 rfl]; rfl
          refine And.intro (pk_in 0 4 (by omega) rfl) ?_
          refine V.nm [(0, .ref 0), (1, .int (nI 0)), (2, .int y), (3, .int (nI 2)), (4, .int w), (5, .int v)] [.ref 86] (pX c d k r tr kr rd ft tg tc lw kl ik ri s0 s1 s2 s3 tx) rfl (by rw [← er] <;> rfl) rfl ?_
          refine V.g2 60 [14, 23, 31, 51, 93] mX6_copy_ok rfl ?_
          have er : zrf (zsg (nI 2).toNatClampNeg) = .ref 94 := by rw [pk_cl 2 rfl]; rfl
          refine And.intro (pk_in 2 4 (by omega) rfl) ?_
          refine V.nm [(6, .ref 86), (0, .ref 0), (1, .int (nI 0)), (2, .int y), (3, .int (nI 2)), (4, .int w), (5, .int v)] [.ref 94] (pX c d k r tr kr rd ft tg tc lw kl ik ri s0 s1 s2 s3 tx) rfl (by rw [← er] <;> rfl) rfl ?_
          refine V.g2 60 [14, 23, 31, 51, 93] mX6_copy_ok rfl ?_
          refine And.intro (fun (e1 : (s0.1) = (-1 : Int32)) => ?_) (fun (e1 : ¬ (s0.1) = (-1 : Int32)) => ?_)
          · refine V.g2 60 [14, 23, 31, 51, 93] mX6_copy_ok rfl ?_
            exact ⟨_, zsim_rfl _, g1 (Or.inl e1)⟩
          · refine And.intro (fun (e2 : ¬ (s2.1) = (-1 : Int32)) => ?_) (fun (e2 : (s2.1) = (-1 : Int32)) => ?_)
            · refine And.intro (fun (e3 : (s0.1) = (s2.1)) => ?_) (fun (e3 : ¬ (s0.1) = (s2.1)) => ?_)
              · obtain ⟨g4, g5⟩ := g3 e1 e2 e3
                clear g1 g2 g3
                refine V.cV1P mX6_copy_ok rfl lX6_345 (ct_has l) rfl 56 rfl [43, 44] [none, none, none, none, none, none, none, none, none, none, none, none, none, none, none, none, none, none, none, none, none, none, none, none, none, none, none, none, none, none, none, none, none, none, none, none, none, none, none, none, none, none, none, some 0, some 1, none, none, none, none, none, none, none, none, none, none, none] (by decide +kernel) (pSheet 0 (s0.1) (s0.2.1) (s0.2.2)) [.ref 0, .int y, .int v] [] rfl 0 4 rfl rfl rfl rfl rfl rfl rfl rfl (some (.int (bI (hasF s0.2.1 y v)))) (pSheet 0 (s0.1) (s0.2.1) (s0.2.2)) ⟨s0.1, s0.2.1, y, v, s0.2.2, rfl, rfl, rfl, rfl⟩ rfl (pX c d k r tr kr rd ft tg tc lw kl ik ri s0 s1 s2 s3 tx) [.int (bI (hasF s0.2.1 y v))] rfl rfl ?_
                cases hH : (hasF s0.2.1 y v) with
                | false =>
                  refine V.nm [(7, .ref 94), (6, .ref 86), (0, .ref 0), (1, .int (nI 0)), (2, .int y), (3, .int (nI 2)), (4, .int w), (5, .int v)] [.int (bI false)] (pX c d k r tr kr rd ft tg tc lw kl ik ri s0 s1 s2 s3 tx) rfl rfl rfl ?_
                  rw [hsz] at hH
                  refine V.g2 60 [14, 23, 31, 51, 93] mX6_copy_ok rfl ?_
                  refine And.intro (fun _ => ?_) (fun e => absurd rfl e)
                  refine V.g2 60 [14, 23, 31, 51, 93] mX6_copy_ok rfl ?_
                  exact ⟨_, zsim_rfl _, cp_out hn40 hm40 (Or.inl hH) g4 (fun a b k z1 z2 z3 z4 z5 z6 z7 => (g5 a b k z1 z2 z3 z4 z5 z6).1 z7)⟩
                | true =>
                  refine V.nm [(7, .ref 94), (6, .ref 86), (0, .ref 0), (1, .int (nI 0)), (2, .int y), (3, .int (nI 2)), (4, .int w), (5, .int v)] [.int (bI true)] (pX c d k r tr kr rd ft tg tc lw kl ik ri s0 s1 s2 s3 tx) rfl rfl rfl ?_
                  rw [hsz] at hH
                  refine V.g2 60 [14, 23, 31, 51, 93] mX6_copy_ok rfl ?_
                  refine And.intro (fun e => absurd e (by decide)) (fun _ => ?_)
                  refine V.cV1P mX6_copy_ok rfl lX6_345 (ct_has l) rfl 56 rfl [47, 48] [none, none, none, none, none, none, none, none, none, none, none, none, none, none, none, none, none, none, none, none, none, none, none, none, none, none, none, none, none, none, none, none, none, none, none, none, none, none, none, none, none, none, none, none, none, none, none, some 0, some 1, none, none, none, none, none, none, none] (by decide +kernel) (pSheet 0 (s2.1) (s2.2.1) (s2.2.2)) [.ref 0, .int w, .int v] [] rfl 0 4 rfl rfl rfl rfl rfl rfl rfl rfl (some (.int (bI (hasF s2.2.1 w v)))) (pSheet 0 (s2.1) (s2.2.1) (s2.2.2)) ⟨s2.1, s2.2.1, w, v, s2.2.2, rfl, rfl, rfl, rfl⟩ rfl (pX c d k r tr kr rd ft tg tc lw kl ik ri s0 s1 s2 s3 tx) [.int (bI (hasF s2.2.1 w v))] rfl rfl ?_
                  cases hK : (hasF s2.2.1 w v) with
                  | false =>
                    refine V.nm [(7, .ref 94), (6, .ref 86), (0, .ref 0), (1, .int (nI 0)), (2, .int y), (3, .int (nI 2)), (4, .int w), (5, .int v)] [.int (bI false)] (pX c d k r tr kr rd ft tg tc lw kl ik ri s0 s1 s2 s3 tx) rfl rfl rfl ?_
                    rw [hqz] at hK
                    refine V.g2 60 [14, 23, 31, 51, 93] mX6_copy_ok rfl ?_
                    refine And.intro (fun e => absurd rfl e) (fun _ => ?_)
                    refine V.g2 60 [14, 23, 31, 51, 93] mX6_copy_ok rfl ?_
                    exact ⟨_, zsim_rfl _, cp_out hn40 hm40 (Or.inr hK) g4 (fun a b k z1 z2 z3 z4 z5 z6 z7 => (g5 a b k z1 z2 z3 z4 z5 z6).1 z7)⟩
                  | true =>
                    refine V.nm [(7, .ref 94), (6, .ref 86), (0, .ref 0), (1, .int (nI 0)), (2, .int y), (3, .int (nI 2)), (4, .int w), (5, .int v)] [.int (bI true)] (pX c d k r tr kr rd ft tg tc lw kl ik ri s0 s1 s2 s3 tx) rfl rfl rfl ?_
                    rw [hqz] at hK
                    obtain ⟨a, k1, ha, hk1, rfl, rfl, hak⟩ := has_ex hn40 hH
                    obtain ⟨b, k2, hb, hk2, rfl, e5, hbk⟩ := has_ex hm40 hK
                    obtain rfl : k1 = k2 := (nI_eq hk1 hk2).mp e5
                    have hfin := (g5 a b k1 ha hb hk1 rfl rfl rfl).2 hak hbk
                    refine V.nm [(7, .ref 94), (6, .ref 86), (0, .ref 0), (1, .int (nI 0)), (2, .int (nI a)), (3, .int (nI 2)), (4, .int (nI b)), (5, .int (nI k1))] [.int (bI true)] (pX c d k r tr kr rd ft tg tc lw kl ik ri s0 s1 s2 s3 tx) rfl rfl rfl ?_
                    refine V.g2 60 [14, 23, 31, 51, 93] mX6_copy_ok rfl ?_
                    refine And.intro (fun _ => ?_) (fun e => absurd e (by decide))
                    have ca : (nI a).toNatClampNeg = a := nI_clamp ha
                    have cb : (nI b).toNatClampNeg = b := nI_clamp hb
                    have ck : (nI k1).toNatClampNeg = k1 := nI_clamp hk1
                    refine V.acopy mX6_copy_ok rfl lX6_348 rfl rfl 44 48 rfl rfl (Int32.not_lt.mpr (nI_le (Nat.zero_le a) (by omega))) (Int32.not_lt.mpr (nI_le (Nat.zero_le b) (by omega))) (Int32.not_lt.mpr (nI_le (Nat.zero_le k1) (by omega))) (by rw [ca, ck]; omega) (by rw [cb, ck]; omega) ?_
                    rw [ca, cb, ck, cp_eq]
                    refine V.nm [(7, .ref 94), (6, .ref 86), (0, .ref 0), (1, .int (nI 0)), (2, .int (nI a)), (3, .int (nI 2)), (4, .int (nI b)), (5, .int (nI k1))] [] (pX c d k r tr kr rd ft tg tc lw kl ik ri s0 s1 ((s2.1), (s2.2.1), (cpS s0.2.2 s2.2.2 a b k1)) s3 tx) rfl rfl rfl ?_
                    refine V.g2 60 [14, 23, 31, 51, 93] mX6_copy_ok rfl ?_
                    exact ⟨_, zsim_rfl _, hfin⟩
              · exact ⟨_, zsim_rfl _, g2 e1 e2 e3⟩
            · refine V.g2 60 [14, 23, 31, 51, 93] mX6_copy_ok rfl ?_
              exact ⟨_, zsim_rfl _, g1 (Or.inr e2)⟩
        · refine V.nm [(0, .ref 0), (1, .int (nI 0)), (2, .int y), (3, .int (nI 3)), (4, .int w), (5, .int v)] [.int (bI true)] (pX c d k r tr kr rd ft tg tc lw kl ik ri s0 s1 s2 s3 tx) rfl rfl rfl ?_
          have hsz : s0.2.1 = nI n := hsz
          have hqz : s3.2.1 = nI m := hqz
          subst hS
          refine V.g2 60 [14, 23, 31, 51, 93] mX6_copy_ok rfl ?_
          refine And.intro (fun _ => ?_) (fun e => absurd e (by decide))
          have er : zrf (zsg (nI 0).toNatClampNeg) = .ref 86 := by rw [pk_cl 0 rfl]; rfl
          refine And.intro (pk_in 0 4 (by omega) rfl) ?_
          refine V.nm [(0, .ref 0), (1, .int (nI 0)), (2, .int y), (3, .int (nI 3)), (4, .int w), (5, .int v)] [.ref 86] (pX c d k r tr kr rd ft tg tc lw kl ik ri s0 s1 s2 s3 tx) rfl (by rw [← er] <;> rfl) rfl ?_
          refine V.g2 60 [14, 23, 31, 51, 93] mX6_copy_ok rfl ?_
          have er : zrf (zsg (nI 3).toNatClampNeg) = .ref 98 := by rw [pk_cl 3 rfl]; rfl
          refine And.intro (pk_in 3 4 (by omega) rfl) ?_
          refine V.nm [(6, .ref 86), (0, .ref 0), (1, .int (nI 0)), (2, .int y), (3, .int (nI 3)), (4, .int w), (5, .int v)] [.ref 98] (pX c d k r tr kr rd ft tg tc lw kl ik ri s0 s1 s2 s3 tx) rfl (by rw [← er] <;> rfl) rfl ?_
          refine V.g2 60 [14, 23, 31, 51, 93] mX6_copy_ok rfl ?_
          refine And.intro (fun (e1 : (s0.1) = (-1 : Int32)) => ?_) (fun (e1 : ¬ (s0.1) = (-1 : Int32)) => ?_)
          · refine V.g2 60 [14, 23, 31, 51, 93] mX6_copy_ok rfl ?_
            exact ⟨_, zsim_rfl _, g1 (Or.inl e1)⟩
          · refine And.intro (fun (e2 : ¬ (s3.1) = (-1 : Int32)) => ?_) (fun (e2 : (s3.1) = (-1 : Int32)) => ?_)
            · refine And.intro (fun (e3 : (s0.1) = (s3.1)) => ?_) (fun (e3 : ¬ (s0.1) = (s3.1)) => ?_)
              · obtain ⟨g4, g5⟩ := g3 e1 e2 e3
                clear g1 g2 g3
                refine V.cV1P mX6_copy_ok rfl lX6_345 (ct_has l) rfl 56 rfl [43, 44] [none, none, none, none, none, none, none, none, none, none, none, none, none, none, none, none, none, none, none, none, none, none, none, none, none, none, none, none, none, none, none, none, none, none, none, none, none, none, none, none, none, none, none, some 0, some 1, none, none, none, none, none, none, none, none, none, none, none] (by decide +kernel) (pSheet 0 (s0.1) (s0.2.1) (s0.2.2)) [.ref 0, .int y, .int v] [] rfl 0 4 rfl rfl rfl rfl rfl rfl rfl rfl (some (.int (bI (hasF s0.2.1 y v)))) (pSheet 0 (s0.1) (s0.2.1) (s0.2.2)) ⟨s0.1, s0.2.1, y, v, s0.2.2, rfl, rfl, rfl, rfl⟩ rfl (pX c d k r tr kr rd ft tg tc lw kl ik ri s0 s1 s2 s3 tx) [.int (bI (hasF s0.2.1 y v))] rfl rfl ?_
                cases hH : (hasF s0.2.1 y v) with
                | false =>
                  refine V.nm [(7, .ref 98), (6, .ref 86), (0, .ref 0), (1, .int (nI 0)), (2, .int y), (3, .int (nI 3)), (4, .int w), (5, .int v)] [.int (bI false)] (pX c d k r tr kr rd ft tg tc lw kl ik ri s0 s1 s2 s3 tx) rfl rfl rfl ?_
                  rw [hsz] at hH
                  refine V.g2 60 [14, 23, 31, 51, 93] mX6_copy_ok rfl ?_
                  refine And.intro (fun _ => ?_) (fun e => absurd rfl e)
                  refine V.g2 60 [14, 23, 31, 51, 93] mX6_copy_ok rfl ?_
                  exact ⟨_, zsim_rfl _, cp_out hn40 hm40 (Or.inl hH) g4 (fun a b k z1 z2 z3 z4 z5 z6 z7 => (g5 a b k z1 z2 z3 z4 z5 z6).1 z7)⟩
                | true =>
                  refine V.nm [(7, .ref 98), (6, .ref 86), (0, .ref 0), (1, .int (nI 0)), (2, .int y), (3, .int (nI 3)), (4, .int w), (5, .int v)] [.int (bI true)] (pX c d k r tr kr rd ft tg tc lw kl ik ri s0 s1 s2 s3 tx) rfl rfl rfl ?_
                  rw [hsz] at hH
                  refine V.g2 60 [14, 23, 31, 51, 93] mX6_copy_ok rfl ?_
                  refine And.intro (fun e => absurd e (by decide)) (fun _ => ?_)
                  refine V.cV1P mX6_copy_ok rfl lX6_345 (ct_has l) rfl 56 rfl [49, 50] [none, none, none, none, none, none, none, none, none, none, none, none, none, none, none, none, none, none, none, none, none, none, none, none, none, none, none, none, none, none, none, none, none, none, none, none, none, none, none, none, none, none, none, none, none, none, none, none, none, some 0, some 1, none, none, none, none, none] (by decide +kernel) (pSheet 0 (s3.1) (s3.2.1) (s3.2.2)) [.ref 0, .int w, .int v] [] rfl 0 4 rfl rfl rfl rfl rfl rfl rfl rfl (some (.int (bI (hasF s3.2.1 w v)))) (pSheet 0 (s3.1) (s3.2.1) (s3.2.2)) ⟨s3.1, s3.2.1, w, v, s3.2.2, rfl, rfl, rfl, rfl⟩ rfl (pX c d k r tr kr rd ft tg tc lw kl ik ri s0 s1 s2 s3 tx) [.int (bI (hasF s3.2.1 w v))] rfl rfl ?_
                  cases hK : (hasF s3.2.1 w v) with
                  | false =>
                    refine V.nm [(7, .ref 98), (6, .ref 86), (0, .ref 0), (1, .int (nI 0)), (2, .int y), (3, .int (nI 3)), (4, .int w), (5, .int v)] [.int (bI false)] (pX c d k r tr kr rd ft tg tc lw kl ik ri s0 s1 s2 s3 tx) rfl rfl rfl ?_
                    rw [hqz] at hK
                    refine V.g2 60 [14, 23, 31, 51, 93] mX6_copy_ok rfl ?_
                    refine And.intro (fun e => absurd rfl e) (fun _ => ?_)
                    refine V.g2 60 [14, 23, 31, 51, 93] mX6_copy_ok rfl ?_
                    exact ⟨_, zsim_rfl _, cp_out hn40 hm40 (Or.inr hK) g4 (fun a b k z1 z2 z3 z4 z5 z6 z7 => (g5 a b k z1 z2 z3 z4 z5 z6).1 z7)⟩
                  | true =>
                    refine V.nm [(7, .ref 98), (6, .ref 86), (0, .ref 0), (1, .int (nI 0)), (2, .int y), (3, .int (nI 3)), (4, .int w), (5, .int v)] [.int (bI true)] (pX c d k r tr kr rd ft tg tc lw kl ik ri s0 s1 s2 s3 tx) rfl rfl rfl ?_
                    rw [hqz] at hK
                    obtain ⟨a, k1, ha, hk1, rfl, rfl, hak⟩ := has_ex hn40 hH
                    obtain ⟨b, k2, hb, hk2, rfl, e5, hbk⟩ := has_ex hm40 hK
                    obtain rfl : k1 = k2 := (nI_eq hk1 hk2).mp e5
                    have hfin := (g5 a b k1 ha hb hk1 rfl rfl rfl).2 hak hbk
                    refine V.nm [(7, .ref 98), (6, .ref 86), (0, .ref 0), (1, .int (nI 0)), (2, .int (nI a)), (3, .int (nI 3)), (4, .int (nI b)), (5, .int (nI k1))] [.int (bI true)] (pX c d k r tr kr rd ft tg tc lw kl ik ri s0 s1 s2 s3 tx) rfl rfl rfl ?_
                    refine V.g2 60 [14, 23, 31, 51, 93] mX6_copy_ok rfl ?_
                    refine And.intro (fun _ => ?_) (fun e => absurd e (by decide))
                    have ca : (nI a).toNatClampNeg = a := nI_clamp ha
                    have cb : (nI b).toNatClampNeg = b := nI_clamp hb
                    have ck : (nI k1).toNatClampNeg = k1 := nI_clamp hk1
                    refine V.acopy mX6_copy_ok rfl lX6_348 rfl rfl 44 50 rfl rfl (Int32.not_lt.mpr (nI_le (Nat.zero_le a) (by omega))) (Int32.not_lt.mpr (nI_le (Nat.zero_le b) (by omega))) (Int32.not_lt.mpr (nI_le (Nat.zero_le k1) (by omega))) (by rw [ca, ck]; omega) (by rw [cb, ck]; omega) ?_
                    rw [ca, cb, ck, cp_eq]
                    refine V.nm [(7, .ref 98), (6, .ref 86), (0, .ref 0), (1, .int (nI 0)), (2, .int (nI a)), (3, .int (nI 3)), (4, .int (nI b)), (5, .int (nI k1))] [] (pX c d k r tr kr rd ft tg tc lw kl ik ri s0 s1 s2 ((s3.1), (s3.2.1), (cpS s0.2.2 s3.2.2 a b k1)) tx) rfl rfl rfl ?_
                    refine V.g2 60 [14, 23, 31, 51, 93] mX6_copy_ok rfl ?_
                    exact ⟨_, zsim_rfl _, hfin⟩
              · exact ⟨_, zsim_rfl _, g2 e1 e2 e3⟩
            · refine V.g2 60 [14, 23, 31, 51, 93] mX6_copy_ok rfl ?_
              exact ⟨_, zsim_rfl _, g1 (Or.inr e2)⟩
      · rcases (show q = 0 ∨ q = 1 ∨ q = 2 ∨ q = 3 by omega) with rfl | rfl | rfl | rfl
        · refine V.nm [(0, .ref 0), (1, .int (nI 1)), (2, .int y), (3, .int (nI 0)), (4, .int w), (5, .int v)] [.int (bI true)] (pX c d k r tr kr rd ft tg tc lw kl ik ri s0 s1 s2 s3 tx) rfl rfl rfl ?_
          have hsz : s1.2.1 = nI n := hsz
          have hqz : s0.2.1 = nI m := hqz
          subst hS
          refine V.g2 60 [14, 23, 31, 51, 93] mX6_copy_ok rfl ?_
          refine And.intro (fun _ => ?_) (fun e => absurd e (by decide))
          have er : zrf (zsg (nI 1).toNatClampNeg) = .ref 90 := by rw [pk_cl 1 rfl]; rfl
          refine And.intro (pk_in 1 4 (by omega) rfl) ?_
          refine V.nm [(0, .ref 0), (1, .int (nI 1)), (2, .int y), (3, .int (nI 0)), (4, .int w), (5, .int v)] [.ref 90] (pX c d k r tr kr rd ft tg tc lw kl ik ri s0 s1 s2 s3 tx) rfl (by rw [← er] <;> rfl) rfl ?_
          refine V.g2 60 [14, 23, 31, 51, 93] mX6_copy_ok rfl ?_
          have er : zrf (zsg (nI 0).toNatClampNeg) = .ref 86 := by rw [pk_cl 0 rfl]; rfl
          refine And.intro (pk_in 0 4 (by omega) rfl) ?_
          refine V.nm [(6, .ref 90), (0, .ref 0), (1, .int (nI 1)), (2, .int y), (3, .int (nI 0)), (4, .int w), (5, .int v)] [.ref 86] (pX c d k r tr kr rd ft tg tc lw kl ik ri s0 s1 s2 s3 tx) rfl (by rw [← er] <;> rfl) rfl ?_
          refine V.g2 60 [14, 23, 31, 51, 93] mX6_copy_ok rfl ?_
          refine And.intro (fun (e1 : (s1.1) = (-1 : Int32)) => ?_) (fun (e1 : ¬ (s1.1) = (-1 : Int32)) => ?_)
          · refine V.g2 60 [14, 23, 31, 51, 93] mX6_copy_ok rfl ?_
            exact ⟨_, zsim_rfl _, g1 (Or.inl e1)⟩
          · refine And.intro (fun (e2 : ¬ (s0.1) = (-1 : Int32)) => ?_) (fun (e2 : (s0.1) = (-1 : Int32)) => ?_)
            · refine And.intro (fun (e3 : (s1.1) = (s0.1)) => ?_) (fun (e3 : ¬ (s1.1) = (s0.1)) => ?_)
              · obtain ⟨g4, g5⟩ := g3 e1 e2 e3
                clear g1 g2 g3
                refine V.cV1P mX6_copy_ok rfl lX6_345 (ct_has l) rfl 56 rfl [45, 46] [none, none, none, none, none, none, none, none, none, none, none, none, none, none, none, none, none, none, none, none, none, none, none, none, none, none, none, none, none, none, none, none, none, none, none, none, none, none, none, none, none, none, none, none, none, some 0, some 1, none, none, none, none, none, none, none, none, none] (by decide +kernel) (pSheet 0 (s1.1) (s1.2.1) (s1.2.2)) [.ref 0, .int y, .int v] [] rfl 0 4 rfl rfl rfl rfl rfl rfl rfl rfl (some (.int (bI (hasF s1.2.1 y v)))) (pSheet 0 (s1.1) (s1.2.1) (s1.2.2)) ⟨s1.1, s1.2.1, y, v, s1.2.2, rfl, rfl, rfl, rfl⟩ rfl (pX c d k r tr kr rd ft tg tc lw kl ik ri s0 s1 s2 s3 tx) [.int (bI (hasF s1.2.1 y v))] rfl rfl ?_
                cases hH : (hasF s1.2.1 y v) with
                | false =>
                  refine V.nm [(7, .ref 86), (6, .ref 90), (0, .ref 0), (1, .int (nI 1)), (2, .int y), (3, .int (nI 0)), (4, .int w), (5, .int v)] [.int (bI false)] (pX c d k r tr kr rd ft tg tc lw kl ik ri s0 s1 s2 s3 tx) rfl rfl rfl ?_
                  rw [hsz] at hH
                  refine V.g2 60 [14, 23, 31, 51, 93] mX6_copy_ok rfl ?_
                  refine And.intro (fun _ => ?_) (fun e => absurd rfl e)
                  refine V.g2 60 [14, 23, 31, 51, 93] mX6_copy_ok rfl ?_
                  exact ⟨_, zsim_rfl _, cp_out hn40 hm40 (Or.inl hH) g4 (fun a b k z1 z2 z3 z4 z5 z6 z7 => (g5 a b k z1 z2 z3 z4 z5 z6).1 z7)⟩
                | true =>
                  refine V.nm [(7, .ref 86), (6, .ref 90), (0, .ref 0), (1, .int (nI 1)), (2, .int y), (3, .int (nI 0)), (4, .int w), (5, .int v)] [.int (bI true)] (pX c d k r tr kr rd ft tg tc lw kl ik ri s0 s1 s2 s3 tx) rfl rfl rfl ?_
                  rw [hsz] at hH
                  refine V.g2 60 [14, 23, 31, 51, 93] mX6_copy_ok rfl ?_
                  refine And.intro (fun e => absurd e (by decide)) (fun _ => ?_)
                  refine V.cV1P mX6_copy_ok rfl lX6_345 (ct_has l) rfl 56 rfl [43, 44] [none, none, none, none, none, none, none, none, none, none, none, none, none, none, none, none, none, none, none, none, none, none, none, none, none, none, none, none, none, none, none, none, none, none, none, none, none, none, none, none, none, none, none, some 0, some 1, none, none, none, none, none, none, none, none, none, none, none] (by decide +kernel) (pSheet 0 (s0.1) (s0.2.1) (s0.2.2)) [.ref 0, .int w, .int v] [] rfl 0 4 rfl rfl rfl rfl rfl rfl rfl rfl (some (.int (bI (hasF s0.2.1 w v)))) (pSheet 0 (s0.1) (s0.2.1) (s0.2.2)) ⟨s0.1, s0.2.1, w, v, s0.2.2, rfl, rfl, rfl, rfl⟩ rfl (pX c d k r tr kr rd ft tg tc lw kl ik ri s0 s1 s2 s3 tx) [.int (bI (hasF s0.2.1 w v))] rfl rfl ?_
                  cases hK : (hasF s0.2.1 w v) with
                  | false =>
                    refine V.nm [(7, .ref 86), (6, .ref 90), (0, .ref 0), (1, .int (nI 1)), (2, .int y), (3, .int (nI 0)), (4, .int w), (5, .int v)] [.int (bI false)] (pX c d k r tr kr rd ft tg tc lw kl ik ri s0 s1 s2 s3 tx) rfl rfl rfl ?_
                    rw [hqz] at hK
                    refine V.g2 60 [14, 23, 31, 51, 93] mX6_copy_ok rfl ?_
                    refine And.intro (fun e => absurd rfl e) (fun _ => ?_)
                    refine V.g2 60 [14, 23, 31, 51, 93] mX6_copy_ok rfl ?_
                    exact ⟨_, zsim_rfl _, cp_out hn40 hm40 (Or.inr hK) g4 (fun a b k z1 z2 z3 z4 z5 z6 z7 => (g5 a b k z1 z2 z3 z4 z5 z6).1 z7)⟩
                  | true =>
                    refine V.nm [(7, .ref 86), (6, .ref 90), (0, .ref 0), (1, .int (nI 1)), (2, .int y), (3, .int (nI 0)), (4, .int w), (5, .int v)] [.int (bI true)] (pX c d k r tr kr rd ft tg tc lw kl ik ri s0 s1 s2 s3 tx) rfl rfl rfl ?_
                    rw [hqz] at hK
                    obtain ⟨a, k1, ha, hk1, rfl, rfl, hak⟩ := has_ex hn40 hH
                    obtain ⟨b, k2, hb, hk2, rfl, e5, hbk⟩ := has_ex hm40 hK
                    obtain rfl : k1 = k2 := (nI_eq hk1 hk2).mp e5
                    have hfin := (g5 a b k1 ha hb hk1 rfl rfl rfl).2 hak hbk
                    refine V.nm [(7, .ref 86), (6, .ref 90), (0, .ref 0), (1, .int (nI 1)), (2, .int (nI a)), (3, .int (nI 0)), (4, .int (nI b)), (5, .int (nI k1))] [.int (bI true)] (pX c d k r tr kr rd ft tg tc lw kl ik ri s0 s1 s2 s3 tx) rfl rfl rfl ?_
                    refine V.g2 60 [14, 23, 31, 51, 93] mX6_copy_ok rfl ?_
                    refine And.intro (fun _ => ?_) (fun e => absurd e (by decide))
                    have ca : (nI a).toNatClampNeg = a := nI_clamp ha
                    have cb : (nI b).toNatClampNeg = b := nI_clamp hb
                    have ck : (nI k1).toNatClampNeg = k1 := nI_clamp hk1
                    refine V.acopy mX6_copy_ok rfl lX6_348 rfl rfl 46 44 rfl rfl (Int32.not_lt.mpr (nI_le (Nat.zero_le a) (by omega))) (Int32.not_lt.mpr (nI_le (Nat.zero_le b) (by omega))) (Int32.not_lt.mpr (nI_le (Nat.zero_le k1) (by omega))) (by rw [ca, ck]; omega) (by rw [cb, ck]; omega) ?_
                    rw [ca, cb, ck, cp_eq]
                    refine V.nm [(7, .ref 86), (6, .ref 90), (0, .ref 0), (1, .int (nI 1)), (2, .int (nI a)), (3, .int (nI 0)), (4, .int (nI b)), (5, .int (nI k1))] [] (pX c d k r tr kr rd ft tg tc lw kl ik ri ((s0.1), (s0.2.1), (cpS s1.2.2 s0.2.2 a b k1)) s1 s2 s3 tx) rfl rfl rfl ?_
                    refine V.g2 60 [14, 23, 31, 51, 93] mX6_copy_ok rfl ?_
                    exact ⟨_, zsim_rfl _, hfin⟩
              · exact ⟨_, zsim_rfl _, g2 e1 e2 e3⟩
            · refine V.g2 60 [14, 23, 31, 51, 93] mX6_copy_ok rfl ?_
              exact ⟨_, zsim_rfl _, g1 (Or.inr e2)⟩
        · refine V.nm [(0, .ref 0), (1, .int (nI 1)), (2, .int y), (3, .int (nI 1)), (4, .int w), (5, .int v)] [.int (bI true)] (pX c d k r tr kr rd ft tg tc lw kl ik ri s0 s1 s2 s3 tx) rfl rfl rfl ?_
          have hsz : s1.2.1 = nI n := hsz
          have hqz : s1.2.1 = nI m := hqz
          subst hS
          refine V.g2 60 [14, 23, 31, 51, 93] mX6_copy_ok rfl ?_
          refine And.intro (fun _ => ?_) (fun e => absurd e (by decide))
          have er : zrf (zsg (nI 1).toNatClampNeg) = .ref 90 := by rw [pk_cl 1 rfl]; rfl
          refine And.intro (pk_in 1 4 (by omega) rfl) ?_
          refine V.nm [(0, .ref 0), (1, .int (nI 1)), (2, .int y), (3, .int (nI 1)), (4, .int w), (5, .int v)] [.ref 90] (pX c d k r tr kr rd ft tg tc lw kl ik ri s0 s1 s2 s3 tx) rfl (by rw [← er] <;> rfl) rfl ?_
          refine V.g2 60 [14, 23, 31, 51, 93] mX6_copy_ok rfl ?_
          have er : zrf (zsg (nI 1).toNatClampNeg) = .ref 90 := by rw [pk_cl 1 rfl]; rfl
          refine And.intro (pk_in 1 4 (by omega) rfl) ?_
          refine V.nm [(6, .ref 90), (0, .ref 0), (1, .int (nI 1)), (2, .int y), (3, .int (nI 1)), (4, .int w), (5, .int v)] [.ref 90] (pX c d k r tr kr rd ft tg tc lw kl ik ri s0 s1 s2 s3 tx) rfl (by rw [← er] <;> rfl) rfl ?_
          refine V.g2 60 [14, 23, 31, 51, 93] mX6_copy_ok rfl ?_
          refine And.intro (fun (e1 : (s1.1) = (-1 : Int32)) => ?_) (fun (e1 : ¬ (s1.1) = (-1 : Int32)) => ?_)
          · refine V.g2 60 [14, 23, 31, 51, 93] mX6_copy_ok rfl ?_
            exact ⟨_, zsim_rfl _, g1 (Or.inl e1)⟩
          · refine And.intro (fun (e2 : ¬ (s1.1) = (-1 : Int32)) => ?_) (fun (e2 : (s1.1) = (-1 : Int32)) => ?_)
            · refine And.intro (fun (e3 : (s1.1) = (s1.1)) => ?_) (fun (e3 : ¬ (s1.1) = (s1.1)) => absurd rfl e3)
              obtain ⟨g4, g5⟩ := g3 e1 e2 rfl
              clear g1 g2 g3
              refine V.cV1P mX6_copy_ok rfl lX6_345 (ct_has l) rfl 56 rfl [45, 46] [none, none, none, none, none, none, none, none, none, none, none, none, none, none, none, none, none, none, none, none, none, none, none, none, none, none, none, none, none, none, none, none, none, none, none, none, none, none, none, none, none, none, none, none, none, some 0, some 1, none, none, none, none, none, none, none, none, none] (by decide +kernel) (pSheet 0 (s1.1) (s1.2.1) (s1.2.2)) [.ref 0, .int y, .int v] [] rfl 0 4 rfl rfl rfl rfl rfl rfl rfl rfl (some (.int (bI (hasF s1.2.1 y v)))) (pSheet 0 (s1.1) (s1.2.1) (s1.2.2)) ⟨s1.1, s1.2.1, y, v, s1.2.2, rfl, rfl, rfl, rfl⟩ rfl (pX c d k r tr kr rd ft tg tc lw kl ik ri s0 s1 s2 s3 tx) [.int (bI (hasF s1.2.1 y v))] rfl rfl ?_
              cases hH : (hasF s1.2.1 y v) with
              | false =>
                refine V.nm [(7, .ref 90), (6, .ref 90), (0, .ref 0), (1, .int (nI 1)), (2, .int y), (3, .int (nI 1)), (4, .int w), (5, .int v)] [.int (bI false)] (pX c d k r tr kr rd ft tg tc lw kl ik ri s0 s1 s2 s3 tx) rfl rfl rfl ?_
                rw [hsz] at hH
                refine V.g2 60 [14, 23, 31, 51, 93] mX6_copy_ok rfl ?_
                refine And.intro (fun _ => ?_) (fun e => absurd rfl e)
                refine V.g2 60 [14, 23, 31, 51, 93] mX6_copy_ok rfl ?_
                exact ⟨_, zsim_rfl _, cp_out hn40 hm40 (Or.inl hH) g4 (fun a b k z1 z2 z3 z4 z5 z6 z7 => (g5 a b k z1 z2 z3 z4 z5 z6).1 z7)⟩
              | true =>
                refine V.nm [(7, .ref 90), (6, .ref 90), (0, .ref 0), (1, .int (nI 1)), (2, .int y), (3, .int (nI 1)), (4, .int w), (5, .int v)] [.int (bI true)] (pX c d k r tr kr rd ft tg tc lw kl ik ri s0 s1 s2 s3 tx) rfl rfl rfl ?_
                rw [hsz] at hH
                refine V.g2 60 [14, 23, 31, 51, 93] mX6_copy_ok rfl ?_
                refine And.intro (fun e => absurd e (by decide)) (fun _ => ?_)
                refine V.cV1P mX6_copy_ok rfl lX6_345 (ct_has l) rfl 56 rfl [45, 46] [none, none, none, none, none, none, none, none, none, none, none, none, none, none, none, none, none, none, none, none, none, none, none, none, none, none, none, none, none, none, none, none, none, none, none, none, none, none, none, none, none, none, none, none, none, some 0, some 1, none, none, none, none, none, none, none, none, none] (by decide +kernel) (pSheet 0 (s1.1) (s1.2.1) (s1.2.2)) [.ref 0, .int w, .int v] [] rfl 0 4 rfl rfl rfl rfl rfl rfl rfl rfl (some (.int (bI (hasF s1.2.1 w v)))) (pSheet 0 (s1.1) (s1.2.1) (s1.2.2)) ⟨s1.1, s1.2.1, w, v, s1.2.2, rfl, rfl, rfl, rfl⟩ rfl (pX c d k r tr kr rd ft tg tc lw kl ik ri s0 s1 s2 s3 tx) [.int (bI (hasF s1.2.1 w v))] rfl rfl ?_
                cases hK : (hasF s1.2.1 w v) with
                | false =>
                  refine V.nm [(7, .ref 90), (6, .ref 90), (0, .ref 0), (1, .int (nI 1)), (2, .int y), (3, .int (nI 1)), (4, .int w), (5, .int v)] [.int (bI false)] (pX c d k r tr kr rd ft tg tc lw kl ik ri s0 s1 s2 s3 tx) rfl rfl rfl ?_
                  rw [hqz] at hK
                  refine V.g2 60 [14, 23, 31, 51, 93] mX6_copy_ok rfl ?_
                  refine And.intro (fun e => absurd rfl e) (fun _ => ?_)
                  refine V.g2 60 [14, 23, 31, 51, 93] mX6_copy_ok rfl ?_
                  exact ⟨_, zsim_rfl _, cp_out hn40 hm40 (Or.inr hK) g4 (fun a b k z1 z2 z3 z4 z5 z6 z7 => (g5 a b k z1 z2 z3 z4 z5 z6).1 z7)⟩
                | true =>
                  refine V.nm [(7, .ref 90), (6, .ref 90), (0, .ref 0), (1, .int (nI 1)), (2, .int y), (3, .int (nI 1)), (4, .int w), (5, .int v)] [.int (bI true)] (pX c d k r tr kr rd ft tg tc lw kl ik ri s0 s1 s2 s3 tx) rfl rfl rfl ?_
                  rw [hqz] at hK
                  obtain ⟨a, k1, ha, hk1, rfl, rfl, hak⟩ := has_ex hn40 hH
                  obtain ⟨b, k2, hb, hk2, rfl, e5, hbk⟩ := has_ex hm40 hK
                  obtain rfl : k1 = k2 := (nI_eq hk1 hk2).mp e5
                  have hfin := (g5 a b k1 ha hb hk1 rfl rfl rfl).2 hak hbk
                  refine V.nm [(7, .ref 90), (6, .ref 90), (0, .ref 0), (1, .int (nI 1)), (2, .int (nI a)), (3, .int (nI 1)), (4, .int (nI b)), (5, .int (nI k1))] [.int (bI true)] (pX c d k r tr kr rd ft tg tc lw kl ik ri s0 s1 s2 s3 tx) rfl rfl rfl ?_
                  refine V.g2 60 [14, 23, 31, 51, 93] mX6_copy_ok rfl ?_
                  refine And.intro (fun _ => ?_) (fun e => absurd e (by decide))
                  have ca : (nI a).toNatClampNeg = a := nI_clamp ha
                  have cb : (nI b).toNatClampNeg = b := nI_clamp hb
                  have ck : (nI k1).toNatClampNeg = k1 := nI_clamp hk1
                  refine V.acopy mX6_copy_ok rfl lX6_348 rfl rfl 46 46 rfl rfl (Int32.not_lt.mpr (nI_le (Nat.zero_le a) (by omega))) (Int32.not_lt.mpr (nI_le (Nat.zero_le b) (by omega))) (Int32.not_lt.mpr (nI_le (Nat.zero_le k1) (by omega))) (by rw [ca, ck]; omega) (by rw [cb, ck]; omega) ?_
                  rw [ca, cb, ck, cp_eq]
                  refine V.nm [(7, .ref 90), (6, .ref 90), (0, .ref 0), (1, .int (nI 1)), (2, .int (nI a)), (3, .int (nI 1)), (4, .int (nI b)), (5, .int (nI k1))] [] (pX c d k r tr kr rd ft tg tc lw kl ik ri s0 ((s1.1), (s1.2.1), (cpS s1.2.2 s1.2.2 a b k1)) s2 s3 tx) rfl rfl rfl ?_
                  refine V.g2 60 [14, 23, 31, 51, 93] mX6_copy_ok rfl ?_
                  exact ⟨_, zsim_rfl _, hfin⟩
            · refine V.g2 60 [14, 23, 31, 51, 93] mX6_copy_ok rfl ?_
              exact ⟨_, zsim_rfl _, g1 (Or.inr e2)⟩
        · refine V.nm [(0, .ref 0), (1, .int (nI 1)), (2, .int y), (3, .int (nI 2)), (4, .int w), (5, .int v)] [.int (bI true)] (pX c d k r tr kr rd ft tg tc lw kl ik ri s0 s1 s2 s3 tx) rfl rfl rfl ?_
          have hsz : s1.2.1 = nI n := hsz
          have hqz : s2.2.1 = nI m := hqz
          subst hS
          refine V.g2 60 [14, 23, 31, 51, 93] mX6_copy_ok rfl ?_
          refine And.intro (fun _ => ?_) (fun e => absurd e (by decide))
          have er : zrf (zsg (nI 1).toNatClampNeg) = .ref 90 := by rw [pk_cl 1 rfl]; rfl
          refine And.intro (pk_in 1 4 (by omega) rfl) ?_
          refine V.nm [(0, .ref 0), (1, .int (nI 1)), (2, .int y), (3, .int (nI 2)), (4, .int w), (5, .int v)] [.ref 90] (pX c d k r tr kr rd ft tg tc lw kl ik ri s0 s1 s2 s3 tx) rfl (by rw [← er] <;> rfl) rfl ?_
          refine V.g2 60 [14, 23, 31, 51, 93] mX6_copy_ok rfl ?_
          have er : zrf (zsg (nI 2).toNatClampNeg) = .ref 94 := by rw [pk_cl 2 rfl]; rfl
          refine And.intro (pk_in 2 4 (by omega) rfl) ?_
          refine V.nm [(6, .ref 90), (0, .ref 0), (1, .int (nI 1)), (2, .int y), (3, .int (nI 2)), (4, .int w), (5, .int v)] [.ref 94] (pX c d k r tr kr rd ft tg tc lw kl ik ri s0 s1 s2 s3 tx) rfl (by rw [← er] <;> rfl) rfl ?_
          refine V.g2 60 [14, 23, 31, 51, 93] mX6_copy_ok rfl ?_
          refine And.intro (fun (e1 : (s1.1) = (-1 : Int32)) => ?_) (fun (e1 : ¬ (s1.1) = (-1 : Int32)) => ?_)
          · refine V.g2 60 [14, 23, 31, 51, 93] mX6_copy_ok rfl ?_
            exact ⟨_, zsim_rfl _, g1 (Or.inl e1)⟩
          · refine And.intro (fun (e2 : ¬ (s2.1) = (-1 : Int32)) => ?_) (fun (e2 : (s2.1) = (-1 : Int32)) => ?_)
            · refine And.intro (fun (e3 : (s1.1) = (s2.1)) => ?_) (fun (e3 : ¬ (s1.1) = (s2.1)) => ?_)
              · obtain ⟨g4, g5⟩ := g3 e1 e2 e3
                clear g1 g2 g3
                refine V.cV1P mX6_copy_ok rfl lX6_345 (ct_has l) rfl 56 rfl [45, 46] [none, none, none, none, none, none, none, none, none, none, none, none, none, none, none, none, none, none, none, none, none, none, none, none, none, none, none, none, none, none, none, none, none, none, none, none, none, none, none, none, none, none, none, none, none, some 0, some 1, none, none, none, none, none, none, none, none, none] (by decide +kernel) (pSheet 0 (s1.1) (s1.2.1) (s1.2.2)) [.ref 0, .int y, .int v] [] rfl 0 4 rfl rfl rfl rfl rfl rfl rfl rfl (some (.int (bI (hasF s1.2.1 y v)))) (pSheet 0 (s1.1) (s1.2.1) (s1.2.2)) ⟨s1.1, s1.2.1, y, v, s1.2.2, rfl, rfl, rfl, rfl⟩ rfl (pX c d k r tr kr rd ft tg tc lw kl ik ri s0 s1 s2 s3 tx) [.int (bI (hasF s1.2.1 y v))] rfl rfl ?_
                cases hH : (hasF s1.2.1 y v) with
                | false =>
                  refine V.nm [(7, .ref 94), (6, .ref 90), (0, .ref 0), (1, .int (nI 1)), (2, .int y), (3, .int (nI 2)), (4, .int w), (5, .int v)] [.int (bI false)] (pX c d k r tr kr rd ft tg tc lw kl ik ri s0 s1 s2 s3 tx) rfl rfl rfl ?_
                  rw [hsz] at hH
                  refine V.g2 60 [14, 23, 31, 51, 93] mX6_copy_ok rfl ?_
                  refine And.intro (fun _ => ?_) (fun e => absurd rfl e)
                  refine V.g2 60 [14, 23, 31, 51, 93] mX6_copy_ok rfl ?_
                  exact ⟨_, zsim_rfl _, cp_out hn40 hm40 (Or.inl hH) g4 (fun a b k z1 z2 z3 z4 z5 z6 z7 => (g5 a b k z1 z2 z3 z4 z5 z6).1 z7)⟩
                | true =>
                  refine V.nm [(7, .ref 94), (6, .ref 90), (0, .ref 0), (1, .int (nI 1)), (2, .int y), (3, .int (nI 2)), (4, .int w), (5, .int v)] [.int (bI true)] (pX c d k r tr kr rd ft tg tc lw kl ik ri s0 s1 s2 s3 tx) rfl rfl rfl ?_
                  rw [hsz] at hH
                  refine V.g2 60 [14, 23, 31, 51, 93] mX6_copy_ok rfl ?_
                  refine And.intro (fun e => absurd e (by decide)) (fun _ => ?_)
                  refine V.cV1P mX6_copy_ok rfl lX6_345 (ct_has l) rfl 56 rfl [47, 48] [none, none, none, none, none, none, none, none, none, none, none, none, none, none, none, none, none, none, none, none, none, none, none, none, none, none, none, none, none, none, none, none, none, none, none, none, none, none, none, none, none, none, none, none, none, none, none, some 0, some 1, none, none, none, none, none, none, none] (by decide +kernel) (pSheet 0 (s2.1) (s2.2.1) (s2.2.2)) [.ref 0, .int w, .int v] [] rfl 0 4 rfl rfl rfl rfl rfl rfl rfl rfl (some (.int (bI (hasF s2.2.1 w v)))) (pSheet 0 (s2.1) (s2.2.1) (s2.2.2)) ⟨s2.1, s2.2.1, w, v, s2.2.2, rfl, rfl, rfl, rfl⟩ rfl (pX c d k r tr kr rd ft tg tc lw kl ik ri s0 s1 s2 s3 tx) [.int (bI (hasF s2.2.1 w v))] rfl rfl ?_
                  cases hK : (hasF s2.2.1 w v) with
                  | false =>
                    refine V.nm [(7, .ref 94), (6, .ref 90), (0, .ref 0), (1, .int (nI 1)), (2, .int y), (3, .int (nI 2)), (4, .int w), (5, .int v)] [.int (bI false)] (pX c d k r tr kr rd ft tg tc lw kl ik ri s0 s1 s2 s3 tx) rfl rfl rfl ?_
                    rw [hqz] at hK
                    refine V.g2 60 [14, 23, 31, 51, 93] mX6_copy_ok rfl ?_
                    refine And.intro (fun e => absurd rfl e) (fun _ => ?_)
                    refine V.g2 60 [14, 23, 31, 51, 93] mX6_copy_ok rfl ?_
                    exact ⟨_, zsim_rfl _, cp_out hn40 hm40 (Or.inr hK) g4 (fun a b k z1 z2 z3 z4 z5 z6 z7 => (g5 a b k z1 z2 z3 z4 z5 z6).1 z7)⟩
                  | true =>
                    refine V.nm [(7, .ref 94), (6, .ref 90), (0, .ref 0), (1, .int (nI 1)), (2, .int y), (3, .int (nI 2)), (4, .int w), (5, .int v)] [.int (bI true)] (pX c d k r tr kr rd ft tg tc lw kl ik ri s0 s1 s2 s3 tx) rfl rfl rfl ?_
                    rw [hqz] at hK
                    obtain ⟨a, k1, ha, hk1, rfl, rfl, hak⟩ := has_ex hn40 hH
                    obtain ⟨b, k2, hb, hk2, rfl, e5, hbk⟩ := has_ex hm40 hK
                    obtain rfl : k1 = k2 := (nI_eq hk1 hk2).mp e5
                    have hfin := (g5 a b k1 ha hb hk1 rfl rfl rfl).2 hak hbk
                    refine V.nm [(7, .ref 94), (6, .ref 90), (0, .ref 0), (1, .int (nI 1)), (2, .int (nI a)), (3, .int (nI 2)), (4, .int (nI b)), (5, .int (nI k1))] [.int (bI true)] (pX c d k r tr kr rd ft tg tc lw kl ik ri s0 s1 s2 s3 tx) rfl rfl rfl ?_
                    refine V.g2 60 [14, 23, 31, 51, 93] mX6_copy_ok rfl ?_
                    refine And.intro (fun _ => ?_) (fun e => absurd e (by decide))
                    have ca : (nI a).toNatClampNeg = a := nI_clamp ha
                    have cb : (nI b).toNatClampNeg = b := nI_clamp hb
                    have ck : (nI k1).toNatClampNeg = k1 := nI_clamp hk1
                    refine V.acopy mX6_copy_ok rfl lX6_348 rfl rfl 46 48 rfl rfl (Int32.not_lt.mpr (nI_le (Nat.zero_le a) (by omega))) (Int32.not_lt.mpr (nI_le (Nat.zero_le b) (by omega))) (Int32.not_lt.mpr (nI_le (Nat.zero_le k1) (by omega))) (by rw [ca, ck]; omega) (by rw [cb, ck]; omega) ?_
                    rw [ca, cb, ck, cp_eq]
                    refine V.nm [(7, .ref 94), (6, .ref 90), (0, .ref 0), (1, .int (nI 1)), (2, .int (nI a)), (3, .int (nI 2)), (4, .int (nI b)), (5, .int (nI k1))] [] (pX c d k r tr kr rd ft tg tc lw kl ik ri s0 s1 ((s2.1), (s2.2.1), (cpS s1.2.2 s2.2.2 a b k1)) s3 tx) rfl rfl rfl ?_
                    refine V.g2 60 [14, 23, 31, 51, 93] mX6_copy_ok rfl ?_
                    exact ⟨_, zsim_rfl _, hfin⟩
              · exact ⟨_, zsim_rfl _, g2 e1 e2 e3⟩
            · refine V.g2 60 [14, 23, 31, 51, 93] mX6_copy_ok rfl ?_
              exact ⟨_, zsim_rfl _, g1 (Or.inr e2)⟩
        · refine V.nm [(0, .ref 0), (1, .int (nI 1)), (2, .int y), (3, .int (nI 3)), (4, .int w), (5, .int v)] [.int (bI true)] (pX c d k r tr kr rd ft tg tc lw kl ik ri s0 s1 s2 s3 tx) rfl rfl rfl ?_
          have hsz : s1.2.1 = nI n := hsz
          have hqz : s3.2.1 = nI m := hqz
          subst hS
          refine V.g2 60 [14, 23, 31, 51, 93] mX6_copy_ok rfl ?_
          refine And.intro (fun _ => ?_) (fun e => absurd e (by decide))
          have er : zrf (zsg (nI 1).toNatClampNeg) = .ref 90 := by rw [pk_cl 1 rfl]; rfl
          refine And.intro (pk_in 1 4 (by omega) rfl) ?_
          refine V.nm [(0, .ref 0), (1, .int (nI 1)), (2, .int y), (3, .int (nI 3)), (4, .int w), (5, .int v)] [.ref 90] (pX c d k r tr kr rd ft tg tc lw kl ik ri s0 s1 s2 s3 tx) rfl (by rw [← er] <;> rfl) rfl ?_
          refine V.g2 60 [14, 23, 31, 51, 93] mX6_copy_ok rfl ?_
          have er : zrf (zsg (nI 3).toNatClampNeg) = .ref 98 := by rw [pk_cl 3 rfl]; rfl
          refine And.intro (pk_in 3 4 (by omega) rfl) ?_
          refine V.nm [(6, .ref 90), (0, .ref 0), (1, .int (nI 1)), (2, .int y), (3, .int (nI 3)), (4, .int w), (5, .int v)] [.ref 98] (pX c d k r tr kr rd ft tg tc lw kl ik ri s0 s1 s2 s3 tx) rfl (by rw [← er] <;> rfl) rfl ?_
          refine V.g2 60 [14, 23, 31, 51, 93] mX6_copy_ok rfl ?_
          refine And.intro (fun (e1 : (s1.1) = (-1 : Int32)) => ?_) (fun (e1 : ¬ (s1.1) = (-1 : Int32)) => ?_)
          · refine V.g2 60 [14, 23, 31, 51, 93] mX6_copy_ok rfl ?_
            exact ⟨_, zsim_rfl _, g1 (Or.inl e1)⟩
          · refine And.intro (fun (e2 : ¬ (s3.1) = (-1 : Int32)) => ?_) (fun (e2 : (s3.1) = (-1 : Int32)) => ?_)
            · refine And.intro (fun (e3 : (s1.1) = (s3.1)) => ?_) (fun (e3 : ¬ (s1.1) = (s3.1)) => ?_)
              · obtain ⟨g4, g5⟩ := g3 e1 e2 e3
                clear g1 g2 g3
                refine V.cV1P mX6_copy_ok rfl lX6_345 (ct_has l) rfl 56 rfl [45, 46] [none, none, none, none, none, none, none, none, none, none, none, none, none, none, none, none, none, none, none, none, none, none, none, none, none, none, none, none, none, none, none, none, none, none, none, none, none, none, none, none, none, none, none, none, none, some 0, some 1, none, none, none, none, none, none, none, none, none] (by decide +kernel) (pSheet 0 (s1.1) (s1.2.1) (s1.2.2)) [.ref 0, .int y, .int v] [] rfl 0 4 rfl rfl rfl rfl rfl rfl rfl rfl (some (.int (bI (hasF s1.2.1 y v)))) (pSheet 0 (s1.1) (s1.2.1) (s1.2.2)) ⟨s1.1, s1.2.1, y, v, s1.2.2, rfl, rfl, rfl, rfl⟩ rfl (pX c d k r tr kr rd ft tg tc lw kl ik ri s0 s1 s2 s3 tx) [.int (bI (hasF s1.2.1 y v))] rfl rfl ?_
                cases hH : (hasF s1.2.1 y v) with
                | false =>
                  refine V.nm [(7, .ref 98), (6, .ref 90), (0, .ref 0), (1, .int (nI 1)), (2, .int y), (3, .int (nI 3)), (4, .int w), (5, .int v)] [.int (bI false)] (pX c d k r tr kr rd ft tg tc lw kl ik ri s0 s1 s2 s3 tx) rfl rfl rfl ?_
                  rw [hsz] at hH
                  refine V.g2 60 [14, 23, 31, 51, 93] mX6_copy_ok rfl ?_
                  refine And.intro (fun _ => ?_) (fun e => absurd rfl e)
                  refine V.g2 60 [14, 23, 31, 51, 93] mX6_copy_ok rfl ?_
                  exact ⟨_, zsim_rfl _, cp_out hn40 hm40 (Or.inl hH) g4 (fun a b k z1 z2 z3 z4 z5 z6 z7 => (g5 a b k z1 z2 z3 z4 z5 z6).1 z7)⟩
                | true =>
                  refine V.nm [(7, .ref 98), (6, .ref 90), (0, .ref 0), (1, .int (nI 1)), (2, .int y), (3, .int (nI 3)), (4, .int w), (5, .int v)] [.int (bI true)] (pX c d k r tr kr rd ft tg tc lw kl ik ri s0 s1 s2 s3 tx) rfl rfl rfl ?_
                  rw [hsz] at hH
                  refine V.g2 60 [14, 23, 31, 51, 93] mX6_copy_ok rfl ?_
                  refine And.intro (fun e => absurd e (by decide)) (fun _ => ?_)
                  refine V.cV1P mX6_copy_ok rfl lX6_345 (ct_has l) rfl 56 rfl [49, 50] [none, none, none, none, none, none, none, none, none, none, none, none, none, none, none, none, none, none, none, none, none, none, none, none, none, none, none, none, none, none, none, none, none, none, none, none, none, none, none, none, none, none, none, none, none, none, none, none, none, some 0, some 1, none, none, none, none, none] (by decide +kernel) (pSheet 0 (s3.1) (s3.2.1) (s3.2.2)) [.ref 0, .int w, .int v] [] rfl 0 4 rfl rfl rfl rfl rfl rfl rfl rfl (some (.int (bI (hasF s3.2.1 w v)))) (pSheet 0 (s3.1) (s3.2.1) (s3.2.2)) ⟨s3.1, s3.2.1, w, v, s3.2.2, rfl, rfl, rfl, rfl⟩ rfl (pX c d k r tr kr rd ft tg tc lw kl ik ri s0 s1 s2 s3 tx) [.int (bI (hasF s3.2.1 w v))] rfl rfl ?_
                  cases hK : (hasF s3.2.1 w v) with
                  | false =>
                    refine V.nm [(7, .ref 98), (6, .ref 90), (0, .ref 0), (1, .int (nI 1)), (2, .int y), (3, .int (nI 3)), (4, .int w), (5, .int v)] [.int (bI false)] (pX c d k r tr kr rd ft tg tc lw kl ik ri s0 s1 s2 s3 tx) rfl rfl rfl ?_
                    rw [hqz] at hK
                    refine V.g2 60 [14, 23, 31, 51, 93] mX6_copy_ok rfl ?_
                    refine And.intro (fun e => absurd rfl e) (fun _ => ?_)
                    refine V.g2 60 [14, 23, 31, 51, 93] mX6_copy_ok rfl ?_
                    exact ⟨_, zsim_rfl _, cp_out hn40 hm40 (Or.inr hK) g4 (fun a b k z1 z2 z3 z4 z5 z6 z7 => (g5 a b k z1 z2 z3 z4 z5 z6).1 z7)⟩
                  | true =>
                    refine V.nm [(7, .ref 98), (6, .ref 90), (0, .ref 0), (1, .int (nI 1)), (2, .int y), (3, .int (nI 3)), (4, .int w), (5, .int v)] [.int (bI true)] (pX c d k r tr kr rd ft tg tc lw kl ik ri s0 s1 s2 s3 tx) rfl rfl rfl ?_
                    rw [hqz] at hK
                    obtain ⟨a, k1, ha, hk1, rfl, rfl, hak⟩ := has_ex hn40 hH
                    obtain ⟨b, k2, hb, hk2, rfl, e5, hbk⟩ := has_ex hm40 hK
                    obtain rfl : k1 = k2 := (nI_eq hk1 hk2).mp e5
                    have hfin := (g5 a b k1 ha hb hk1 rfl rfl rfl).2 hak hbk
                    refine V.nm [(7, .ref 98), (6, .ref 90), (0, .ref 0), (1, .int (nI 1)), (2, .int (nI a)), (3, .int (nI 3)), (4, .int (nI b)), (5, .int (nI k1))] [.int (bI true)] (pX c d k r tr kr rd ft tg tc lw kl ik ri s0 s1 s2 s3 tx) rfl rfl rfl ?_
                    refine V.g2 60 [14, 23, 31, 51, 93] mX6_copy_ok rfl ?_
                    refine And.intro (fun _ => ?_) (fun e => absurd e (by decide))
                    have ca : (nI a).toNatClampNeg = a := nI_clamp ha
                    have cb : (nI b).toNatClampNeg = b := nI_clamp hb
                    have ck : (nI k1).toNatClampNeg = k1 := nI_clamp hk1
                    refine V.acopy mX6_copy_ok rfl lX6_348 rfl rfl 46 50 rfl rfl (Int32.not_lt.mpr (nI_le (Nat.zero_le a) (by omega))) (Int32.not_lt.mpr (nI_le (Nat.zero_le b) (by omega))) (Int32.not_lt.mpr (nI_le (Nat.zero_le k1) (by omega))) (by rw [ca, ck]; omega) (by rw [cb, ck]; omega) ?_
                    rw [ca, cb, ck, cp_eq]
                    refine V.nm [(7, .ref 98), (6, .ref 90), (0, .ref 0), (1, .int (nI 1)), (2, .int (nI a)), (3, .int (nI 3)), (4, .int (nI b)), (5, .int (nI k1))] [] (pX c d k r tr kr rd ft tg tc lw kl ik ri s0 s1 s2 ((s3.1), (s3.2.1), (cpS s1.2.2 s3.2.2 a b k1)) tx) rfl rfl rfl ?_
                    refine V.g2 60 [14, 23, 31, 51, 93] mX6_copy_ok rfl ?_
                    exact ⟨_, zsim_rfl _, hfin⟩
              · exact ⟨_, zsim_rfl _, g2 e1 e2 e3⟩
            · refine V.g2 60 [14, 23, 31, 51, 93] mX6_copy_ok rfl ?_
              exact ⟨_, zsim_rfl _, g1 (Or.inr e2)⟩
      · rcases (show q = 0 ∨ q = 1 ∨ q = 2 ∨ q = 3 by omega) with rfl | rfl | rfl | rfl
        · refine V.nm [(0, .ref 0), (1, .int (nI 2)), (2, .int y), (3, .int (nI 0)), (4, .int w), (5, .int v)] [.int (bI true)] (pX c d k r tr kr rd ft tg tc lw kl ik ri s0 s1 s2 s3 tx) rfl rfl rfl ?_
          have hsz : s2.2.1 = nI n := hsz
          have hqz : s0.2.1 = nI m := hqz
          subst hS
          refine V.g2 60 [14, 23, 31, 51, 93] mX6_copy_ok rfl ?_
          refine And.intro (fun _ => ?_) (fun e => absurd e (by decide))
          have er : zrf (zsg (nI 2).toNatClampNeg) = .ref 94 := by rw [pk_cl 2 rfl]; rfl
          refine And.intro (pk_in 2 4 (by omega) rfl) ?_
          refine V.nm [(0, .ref 0), (1, .int (nI 2)), (2, .int y), (3, .int (nI 0)), (4, .int w), (5, .int v)] [.ref 94] (pX c d k r tr kr rd ft tg tc lw kl ik ri s0 s1 s2 s3 tx) rfl (by rw [← er] <;> rfl) rfl ?_
          refine V.g2 60 [14, 23, 31, 51, 93] mX6_copy_ok rfl ?_
          have er : zrf (zsg (nI 0).toNatClampNeg) = .ref 86 := by rw [pk_cl 0 rfl]; rfl
          refine And.intro (pk_in 0 4 (by omega) rfl) ?_
          refine V.nm [(6, .ref 94), (0, .ref 0), (1, .int (nI 2)), (2, .int y), (3, .int (nI 0)), (4, .int w), (5, .int v)] [.ref 86] (pX c d k r tr kr rd ft tg tc lw kl ik ri s0 s1 s2 s3 tx) rfl (by rw [← er] <;> rfl) rfl ?_
          refine V.g2 60 [14, 23, 31, 51, 93] mX6_copy_ok rfl ?_
          refine And.intro (fun (e1 : (s2.1) = (-1 : Int32)) => ?_) (fun (e1 : ¬ (s2.1) = (-1 : Int32)) => ?_)
          · refine V.g2 60 [14, 23, 31, 51, 93] mX6_copy_ok rfl ?_
            exact ⟨_, zsim_rfl _, g1 (Or.inl e1)⟩
          · refine And.intro (fun (e2 : ¬ (s0.1) = (-1 : Int32)) => ?_) (fun (e2 : (s0.1) = (-1 : Int32)) => ?_)
            · refine And.intro (fun (e3 : (s2.1) = (s0.1)) => ?_) (fun (e3 : ¬ (s2.1) = (s0.1)) => ?_)
              · obtain ⟨g4, g5⟩ := g3 e1 e2 e3
                clear g1 g2 g3
                refine V.cV1P mX6_copy_ok rfl lX6_345 (ct_has l) rfl 56 rfl [47, 48] [none, none, none, none, none, none, none, none, none, none, none, none, none, none, none, none, none, none, none, none, none, none, none, none, none, none, none, none, none, none, none, none, none, none, none, none, none, none, none, none, none, none, none, none, none, none, none, some 0, some 1, none, none, none, none, none, none, none] (by decide +kernel) (pSheet 0 (s2.1) (s2.2.1) (s2.2.2)) [.ref 0, .int y, .int v] [] rfl 0 4 rfl rfl rfl rfl rfl rfl rfl rfl (some (.int (bI (hasF s2.2.1 y v)))) (pSheet 0 (s2.1) (s2.2.1) (s2.2.2)) ⟨s2.1, s2.2.1, y, v, s2.2.2, rfl, rfl, rfl, rfl⟩ rfl (pX c d k r tr kr rd ft tg tc lw kl ik ri s0 s1 s2 s3 tx) [.int (bI (hasF s2.2.1 y v))] rfl rfl ?_
                cases hH : (hasF s2.2.1 y v) with
                | false =>
                  refine V.nm [(7, .ref 86), (6, .ref 94), (0, .ref 0), (1, .int (nI 2)), (2, .int y), (3, .int (nI 0)), (4, .int w), (5, .int v)] [.int (bI false)] (pX c d k r tr kr rd ft tg tc lw kl ik ri s0 s1 s2 s3 tx) rfl rfl rfl ?_
                  rw [hsz] at hH
                  refine V.g2 60 [14, 23, 31, 51, 93] mX6_copy_ok rfl ?_
                  refine And.intro (fun _ => ?_) (fun e => absurd rfl e)
                  refine V.g2 60 [14, 23, 31, 51, 93] mX6_copy_ok rfl ?_
                  exact ⟨_, zsim_rfl _, cp_out hn40 hm40 (Or.inl hH) g4 (fun a b k z1 z2 z3 z4 z5 z6 z7 => (g5 a b k z1 z2 z3 z4 z5 z6).1 z7)⟩
                | true =>
                  refine V.nm [(7, .ref 86), (6, .ref 94), (0, .ref 0), (1, .int (nI 2)), (2, .int y), (3, .int (nI 0)), (4, .int w), (5, .int v)] [.int (bI true)] (pX c d k r tr kr rd ft tg tc lw kl ik ri s0 s1 s2 s3 tx) rfl rfl rfl ?_
                  rw [hsz] at hH
                  refine V.g2 60 [14, 23, 31, 51, 93] mX6_copy_ok rfl ?_
                  refine And.intro (fun e => absurd e (by decide)) (fun _ => ?_)
                  refine V.cV1P mX6_copy_ok rfl lX6_345 (ct_has l) rfl 56 rfl [43, 44] [none, none, none, none, none, none, none, none, none, none, none, none, none, none, none, none, none, none, none, none, none, none, none, none, none, none, none, none, none, none, none, none, none, none, none, none, none, none, none, none, none, none, none, some 0, some 1, none, none, none, none, none, none, none, none, none, none, none] (by decide +kernel) (pSheet 0 (s0.1) (s0.2.1) (s0.2.2)) [.ref 0, .int w, .int v] [] rfl 0 4 rfl rfl rfl rfl rfl rfl rfl rfl (some (.int (bI (hasF s0.2.1 w v)))) (pSheet 0 (s0.1) (s0.2.1) (s0.2.2)) ⟨s0.1, s0.2.1, w, v, s0.2.2, rfl, rfl, rfl, rfl⟩ rfl (pX c d k r tr kr rd ft tg tc lw kl ik ri s0 s1 s2 s3 tx) [.int (bI (hasF s0.2.1 w v))] rfl rfl ?_
                  cases hK : (hasF s0.2.1 w v) with
                  | false =>
                    refine V.nm [(7, .ref 86), (6, .ref 94), (0, .ref 0), (1, .int (nI 2)), (2, .int y), (3, .int (nI 0)), (4, .int w), (5, .int v)] [.int (bI false)] (pX c d k r tr kr rd ft tg tc lw kl ik ri s0 s1 s2 s3 tx) rfl rfl rfl ?_
                    rw [hqz] at hK
                    refine V.g2 60 [14, 23, 31, 51, 93] mX6_copy_ok rfl ?_
                    refine And.intro (fun e => absurd rfl e) (fun _ => ?_)
                    refine V.g2 60 [14, 23, 31, 51, 93] mX6_copy_ok rfl ?_
                    exact ⟨_, zsim_rfl _, cp_out hn40 hm40 (Or.inr hK) g4 (fun a b k z1 z2 z3 z4 z5 z6 z7 => (g5 a b k z1 z2 z3 z4 z5 z6).1 z7)⟩
                  | true =>
                    refine V.nm [(7, .ref 86), (6, .ref 94), (0, .ref 0), (1, .int (nI 2)), (2, .int y), (3, .int (nI 0)), (4, .int w), (5, .int v)] [.int (bI true)] (pX c d k r tr kr rd ft tg tc lw kl ik ri s0 s1 s2 s3 tx) rfl rfl rfl ?_
                    rw [hqz] at hK
                    obtain ⟨a, k1, ha, hk1, rfl, rfl, hak⟩ := has_ex hn40 hH
                    obtain ⟨b, k2, hb, hk2, rfl, e5, hbk⟩ := has_ex hm40 hK
                    obtain rfl : k1 = k2 := (nI_eq hk1 hk2).mp e5
                    have hfin := (g5 a b k1 ha hb hk1 rfl rfl rfl).2 hak hbk
                    refine V.nm [(7, .ref 86), (6, .ref 94), (0, .ref 0), (1, .int (nI 2)), (2, .int (nI a)), (3, .int (nI 0)), (4, .int (nI b)), (5, .int (nI k1))] [.int (bI true)] (pX c d k r tr kr rd ft tg tc lw kl ik ri s0 s1 s2 s3 tx) rfl rfl rfl ?_
                    refine V.g2 60 [14, 23, 31, 51, 93] mX6_copy_ok rfl ?_
                    refine And.intro (fun _ => ?_) (fun e => absurd e (by decide))
                    have ca : (nI a).toNatClampNeg = a := nI_clamp ha
                    have cb : (nI b).toNatClampNeg = b := nI_clamp hb
                    have ck : (nI k1).toNatClampNeg = k1 := nI_clamp hk1
                    refine V.acopy mX6_copy_ok rfl lX6_348 rfl rfl 48 44 rfl rfl (Int32.not_lt.mpr (nI_le (Nat.zero_le a) (by omega))) (Int32.not_lt.mpr (nI_le (Nat.zero_le b) (by omega))) (Int32.not_lt.mpr (nI_le (Nat.zero_le k1) (by omega))) (by rw [ca, ck]; omega) (by rw [cb, ck]; omega) ?_
                    rw [ca, cb, ck, cp_eq]
                    refine V.nm [(7, .ref 86), (6, .ref 94), (0, .ref 0), (1, .int (nI 2)), (2, .int (nI a)), (3, .int (nI 0)), (4, .int (nI b)), (5, .int (nI k1))] [] (pX c d k r tr kr rd ft tg tc lw kl ik ri ((s0.1), (s0.2.1), (cpS s2.2.2 s0.2.2 a b k1)) s1 s2 s3 tx) rfl rfl rfl ?_
                    refine V.g2 60 [14, 23, 31, 51, 93] mX6_copy_ok rfl ?_
                    exact ⟨_, zsim_rfl _, hfin⟩
              · exact ⟨_, zsim_rfl _, g2 e1 e2 e3⟩
            · refine V.g2 60 [14, 23, 31, 51, 93] mX6_copy_ok rfl ?_
              exact ⟨_, zsim_rfl _, g1 (Or.inr e2)⟩
        · refine V.nm [(0, .ref 0), (1, .int (nI 2)), (2, .int y), (3, .int (nI 1)), (4, .int w), (5, .int v)] [.int (bI true)] (pX c d k r tr kr rd ft tg tc lw kl ik ri s0 s1 s2 s3 tx) rfl rfl rfl ?_
          have hsz : s2.2.1 = nI n := hsz
          have hqz : s1.2.1 = nI m := hqz
          subst hS
          refine V.g2 60 [14, 23, 31, 51, 93] mX6_copy_ok rfl ?_
          refine And.intro (fun _ => ?_) (fun e => absurd e (by decide))
          have er : zrf (zsg (nI 2).toNatClampNeg) = .ref 94 := by rw [pk_cl 2 rfl]; rfl
          refine And.intro (pk_in 2 4 (by omega) rfl) ?_
          refine V.nm [(0, .ref 0), (1, .int (nI 2)), (2, .int y), (3, .int (nI 1)), (4, .int w), (5, .int v)] [.ref 94] (pX c d k r tr kr rd ft tg tc lw kl ik ri s0 s1 s2 s3 tx) rfl (by rw [← er] <;> rfl) rfl ?_
          refine V.g2 60 [14, 23, 31, 51, 93] mX6_copy_ok rfl ?_
          have er : zrf (zsg (nI 1).toNatClampNeg) = .ref 90 := by rw [pk_cl 1 rfl]; rfl
          refine And.intro (pk_in 1 4 (by omega) rfl) ?_
          refine V.nm [(6, .ref 94), (0, .ref 0), (1, .int (nI 2)), (2, .int y), (3, .int (nI 1)), (4, .int w), (5, .int v)] [.ref 90] (pX c d k r tr kr rd ft tg tc lw kl ik ri s0 s1 s2 s3 tx) rfl (by rw [← er] <;> rfl) rfl ?_
          refine V.g2 60 [14, 23, 31, 51, 93] mX6_copy_ok rfl ?_
          refine And.intro (fun (e1 : (s2.1) = (-1 : Int32)) => ?_) (fun (e1 : ¬ (s2.1) = (-1 : Int32)) => ?_)
          · refine V.g2 60 [14, 23, 31, 51, 93] mX6_copy_ok rfl ?_
            exact ⟨_, zsim_rfl _, g1 (Or.inl e1)⟩
          · refine And.intro (fun (e2 : ¬ (s1.1) = (-1 : Int32)) => ?_) (fun (e2 : (s1.1) = (-1 : Int32)) => ?_)
            · refine And.intro (fun (e3 : (s2.1) = (s1.1)) => ?_) (fun (e3 : ¬ (s2.1) = (s1.1)) => ?_)
              · obtain ⟨g4, g5⟩ := g3 e1 e2 e3
                clear g1 g2 g3
                refine V.cV1P mX6_copy_ok rfl lX6_345 (ct_has l) rfl 56 rfl [47, 48] [none, none, none, none, none, none, none, none, none, none, none, none, none, none, none, none, none, none, none, none, none, none, none, none, none, none, none, none, none, none, none, none, none, none, none, none, none, none, none, none, none, none, none, none, none, none, none, some 0, some 1, none, none, none, none, none, none, none] (by decide +kernel) (pSheet 0 (s2.1) (s2.2.1) (s2.2.2)) [.ref 0, .int y, .int v] [] rfl 0 4 rfl rfl rfl rfl rfl rfl rfl rfl (some (.int (bI (hasF s2.2.1 y v)))) (pSheet 0 (s2.1) (s2.2.1) (s2.2.2)) ⟨s2.1, s2.2.1, y, v, s2.2.2, rfl, rfl, rfl, rfl⟩ rfl (pX c d k r tr kr rd ft tg tc lw kl ik ri s0 s1 s2 s3 tx) [.int (bI (hasF s2.2.1 y v))] rfl rfl ?_
                cases hH : (hasF s2.2.1 y v) with
                | false =>
                  refine V.nm [(7, .ref 90), (6, .ref 94), (0, .ref 0), (1, .int (nI 2)), (2, .int y), (3, .int (nI 1)), (4, .int w), (5, .int v)] [.int (bI false)] (pX c d k r tr kr rd ft tg tc lw kl ik ri s0 s1 s2 s3 tx) rfl rfl rfl ?_
                  rw [hsz] at hH
                  refine V.g2 60 [14, 23, 31, 51, 93] mX6_copy_ok rfl ?_
                  refine And.intro (fun _ => ?_) (fun e => absurd rfl e)
                  refine V.g2 60 [14, 23, 31, 51, 93] mX6_copy_ok rfl ?_
                  exact ⟨_, zsim_rfl _, cp_out hn40 hm40 (Or.inl hH) g4 (fun a b k z1 z2 z3 z4 z5 z6 z7 => (g5 a b k z1 z2 z3 z4 z5 z6).1 z7)⟩
                | true =>
                  refine V.nm [(7, .ref 90), (6, .ref 94), (0, .ref 0), (1, .int (nI 2)), (2, .int y), (3, .int (nI 1)), (4, .int w), (5, .int v)] [.int (bI true)] (pX c d k r tr kr rd ft tg tc lw kl ik ri s0 s1 s2 s3 tx) rfl rfl rfl ?_
                  rw [hsz] at hH
                  refine V.g2 60 [14, 23, 31, 51, 93] mX6_copy_ok rfl ?_
                  refine And.intro (fun e => absurd e (by decide)) (fun _ => ?_)
                  refine V.cV1P mX6_copy_ok rfl lX6_345 (ct_has l) rfl 56 rfl [45, 46] [none, none, none, none, none, none, none, none, none, none, none, none, none, none, none, none, none, none, none, none, none, none, none, none, none, none, none, none, none, none, none, none, none, none, none, none, none, none, none, none, none, none, none, none, none, some 0, some 1, none, none, none, none, none, none, none, none, none] (by decide +kernel) (pSheet 0 (s1.1) (s1.2.1) (s1.2.2)) [.ref 0, .int w, .int v] [] rfl 0 4 rfl rfl rfl rfl rfl rfl rfl rfl (some (.int (bI (hasF s1.2.1 w v)))) (pSheet 0 (s1.1) (s1.2.1) (s1.2.2)) ⟨s1.1, s1.2.1, w, v, s1.2.2, rfl, rfl, rfl, rfl⟩ rfl (pX c d k r tr kr rd ft tg tc lw kl ik ri s0 s1 s2 s3 tx) [.int (bI (hasF s1.2.1 w v))] rfl rfl ?_
                  cases hK : (hasF s1.2.1 w v) with
                  | false =>
                    refine V.nm [(7, .ref 90), (6, .ref 94), (0, .ref 0), (1, .int (nI 2)), (2, .int y), (3, .int (nI 1)), (4, .int w), (5, .int v)] [.int (bI false)] (pX c d k r tr kr rd ft tg tc lw kl ik ri s0 s1 s2 s3 tx) rfl rfl rfl ?_
                    rw [hqz] at hK
                    refine V.g2 60 [14, 23, 31, 51, 93] mX6_copy_ok rfl ?_
                    refine And.intro (fun e => absurd rfl e) (fun _ => ?_)
                    refine V.g2 60 [14, 23, 31, 51, 93] mX6_copy_ok rfl ?_
                    exact ⟨_, zsim_rfl _, cp_out hn40 hm40 (Or.inr hK) g4 (fun a b k z1 z2 z3 z4 z5 z6 z7 => (g5 a b k z1 z2 z3 z4 z5 z6).1 z7)⟩
                  | true =>
                    refine V.nm [(7, .ref 90), (6, .ref 94), (0, .ref 0), (1, .int (nI 2)), (2, .int y), (3, .int (nI 1)), (4, .int w), (5, .int v)] [.int (bI true)] (pX c d k r tr kr rd ft tg tc lw kl ik ri s0 s1 s2 s3 tx) rfl rfl rfl ?_
                    rw [hqz] at hK
                    obtain ⟨a, k1, ha, hk1, rfl, rfl, hak⟩ := has_ex hn40 hH
                    obtain ⟨b, k2, hb, hk2, rfl, e5, hbk⟩ := has_ex hm40 hK
                    obtain rfl : k1 = k2 := (nI_eq hk1 hk2).mp e5
                    have hfin := (g5 a b k1 ha hb hk1 rfl rfl rfl).2 hak hbk
                    refine V.nm [(7, .ref 90), (6, .ref 94), (0, .ref 0), (1, .int (nI 2)), (2, .int (nI a)), (3, .int (nI 1)), (4, .int (nI b)), (5, .int (nI k1))] [.int (bI true)] (pX c d k r tr kr rd ft tg tc lw kl ik ri s0 s1 s2 s3 tx) rfl rfl rfl ?_
                    refine V.g2 60 [14, 23, 31, 51, 93] mX6_copy_ok rfl ?_
                    refine And.intro (fun _ => ?_) (fun e => absurd e (by decide))
                    have ca : (nI a).toNatClampNeg = a := nI_clamp ha
                    have cb : (nI b).toNatClampNeg = b := nI_clamp hb
                    have ck : (nI k1).toNatClampNeg = k1 := nI_clamp hk1
                    refine V.acopy mX6_copy_ok rfl lX6_348 rfl rfl 48 46 rfl rfl (Int32.not_lt.mpr (nI_le (Nat.zero_le a) (by omega))) (Int32.not_lt.mpr (nI_le (Nat.zero_le b) (by omega))) (Int32.not_lt.mpr (nI_le (Nat.zero_le k1) (by omega))) (by rw [ca, ck]; omega) (by rw [cb, ck]; omega) ?_
                    rw [ca, cb, ck, cp_eq]
                    refine V.nm [(7, .ref 90), (6, .ref 94), (0, .ref 0), (1, .int (nI 2)), (2, .int (nI a)), (3, .int (nI 1)), (4, .int (nI b)), (5, .int (nI k1))] [] (pX c d k r tr kr rd ft tg tc lw kl ik ri s0 ((s1.1), (s1.2.1), (cpS s2.2.2 s1.2.2 a b k1)) s2 s3 tx) rfl rfl rfl ?_
                    refine V.g2 60 [14, 23, 31, 51, 93] mX6_copy_ok rfl ?_
                    exact ⟨_, zsim_rfl _, hfin⟩
              · exact ⟨_, zsim_rfl _, g2 e1 e2 e3⟩
            · refine V.g2 60 [14, 23, 31, 51, 93] mX6_copy_ok rfl ?_
              exact ⟨_, zsim_rfl _, g1 (Or.inr e2)⟩
        · refine V.nm [(0, .ref 0), (1, .int (nI 2)), (2, .int y), (3, .int (nI 2)), (4, .int w), (5, .int v)] [.int (bI true)] (pX c d k r tr kr rd ft tg tc lw kl ik ri s0 s1 s2 s3 tx) rfl rfl rfl ?_
          have hsz : s2.2.1 = nI n := hsz
          have hqz : s2.2.1 = nI m := hqz
          subst hS
          refine V.g2 60 [14, 23, 31, 51, 93] mX6_copy_ok rfl ?_
          refine And.intro (fun _ => ?_) (fun e => absurd e (by decide))
          have er : zrf (zsg (nI 2).toNatClampNeg) = .ref 94 := by rw [pk_cl 2 rfl]; rfl
          refine And.intro (pk_in 2 4 (by omega) rfl) ?_
          refine V.nm [(0, .ref 0), (1, .int (nI 2)), (2, .int y), (3, .int (nI 2)), (4, .int w), (5, .int v)] [.ref 94] (pX c d k r tr kr rd ft tg tc lw kl ik ri s0 s1 s2 s3 tx) rfl (by rw [← er] <;> rfl) rfl ?_
          refine V.g2 60 [14, 23, 31, 51, 93] mX6_copy_ok rfl ?_
          have er : zrf (zsg (nI 2).toNatClampNeg) = .ref 94 := by rw [pk_cl 2 rfl]; rfl
          refine And.intro (pk_in 2 4 (by omega) rfl) ?_
          refine V.nm [(6, .ref 94), (0, .ref 0), (1, .int (nI 2)), (2, .int y), (3, .int (nI 2)), (4, .int w), (5, .int v)] [.ref 94] (pX c d k r tr kr rd ft tg tc lw kl ik ri s0 s1 s2 s3 tx) rfl (by rw [← er] <;> rfl) rfl ?_
          refine V.g2 60 [14, 23, 31, 51, 93] mX6_copy_ok rfl ?_
          refine And.intro (fun (e1 : (s2.1) = (-1 : Int32)) => ?_) (fun (e1 : ¬ (s2.1) = (-1 : Int32)) => ?_)
          · refine V.g2 60 [14, 23, 31, 51, 93] mX6_copy_ok rfl ?_
            exact ⟨_, zsim_rfl _, g1 (Or.inl e1)⟩
          · refine And.intro (fun (e2 : ¬ (s2.1) = (-1 : Int32)) => ?_) (fun (e2 : (s2.1) = (-1 : Int32)) => ?_)
            · refine And.intro (fun (e3 : (s2.1) = (s2.1)) => ?_) (fun (e3 : ¬ (s2.1) = (s2.1)) => absurd rfl e3)
              obtain ⟨g4, g5⟩ := g3 e1 e2 rfl
              clear g1 g2 g3
              refine V.cV1P mX6_copy_ok rfl lX6_345 (ct_has l) rfl 56 rfl [47, 48] [none, none, none, none, none, none, none, none, none, none, none, none, none, none, none, none, none, none, none, none, none, none, none, none, none, none, none, none, none, none, none, none, none, none, none, none, none, none, none, none, none, none, none, none, none, none, none, some 0, some 1, none, none, none, none, none, none, none] (by decide +kernel) (pSheet 0 (s2.1) (s2.2.1) (s2.2.2)) [.ref 0, .int y, .int v] [] rfl 0 4 rfl rfl rfl rfl rfl rfl rfl rfl (some (.int (bI (hasF s2.2.1 y v)))) (pSheet 0 (s2.1) (s2.2.1) (s2.2.2)) ⟨s2.1, s2.2.1, y, v, s2.2.2, rfl, rfl, rfl, rfl⟩ rfl (pX c d k r tr kr rd ft tg tc lw kl ik ri s0 s1 s2 s3 tx) [.int (bI (hasF s2.2.1 y v))] rfl rfl ?_
              cases hH : (hasF s2.2.1 y v) with
              | false =>
                refine V.nm [(7, .ref 94), (6, .ref 94), (0, .ref 0), (1, .int (nI 2)), (2, .int y), (3, .int (nI 2)), (4, .int w), (5, .int v)] [.int (bI false)] (pX c d k r tr kr rd ft tg tc lw kl ik ri s0 s1 s2 s3 tx) rfl rfl rfl ?_
                rw [hsz] at hH
                refine V.g2 60 [14, 23, 31, 51, 93] mX6_copy_ok rfl ?_
                refine And.intro (fun _ => ?_) (fun e => absurd rfl e)
                refine V.g2 60 [14, 23, 31, 51, 93] mX6_copy_ok rfl ?_
                exact ⟨_, zsim_rfl _, cp_out hn40 hm40 (Or.inl hH) g4 (fun a b k z1 z2 z3 z4 z5 z6 z7 => (g5 a b k z1 z2 z3 z4 z5 z6).1 z7)⟩
              | true =>
                refine V.nm [(7, .ref 94), (6, .ref 94), (0, .ref 0), (1, .int (nI 2)), (2, .int y), (3, .int (nI 2)), (4, .int w), (5, .int v)] [.int (bI true)] (pX c d k r tr kr rd ft tg tc lw kl ik ri s0 s1 s2 s3 tx) rfl rfl rfl ?_
                rw [hsz] at hH
                refine V.g2 60 [14, 23, 31, 51, 93] mX6_copy_ok rfl ?_
                refine And.intro (fun e => absurd e (by decide)) (fun _ => ?_)
                refine V.cV1P mX6_copy_ok rfl lX6_345 (ct_has l) rfl 56 rfl [47, 48] [none, none, none, none, none, none, none, none, none, none, none, none, none, none, none, none, none, none, none, none, none, none, none, none, none, none, none, none, none, none, none, none, none, none, none, none, none, none, none, none, none, none, none, none, none, none, none, some 0, some 1, none, none, none, none, none, none, none] (by decide +kernel) (pSheet 0 (s2.1) (s2.2.1) (s2.2.2)) [.ref 0, .int w, .int v] [] rfl 0 4 rfl rfl rfl rfl rfl rfl rfl rfl (some (.int (bI (hasF s2.2.1 w v)))) (pSheet 0 (s2.1) (s2.2.1) (s2.2.2)) ⟨s2.1, s2.2.1, w, v, s2.2.2, rfl, rfl, rfl, rfl⟩ rfl (pX c d k r tr kr rd ft tg tc lw kl ik ri s0 s1 s2 s3 tx) [.int (bI (hasF s2.2.1 w v))] rfl rfl ?_
                cases hK : (hasF s2.2.1 w v) with
                | false =>
                  refine V.nm [(7, .ref 94), (6, .ref 94), (0, .ref 0), (1, .int (nI 2)), (2, .int y), (3, .int (nI 2)), (4, .int w), (5, .int v)] [.int (bI false)] (pX c d k r tr kr rd ft tg tc lw kl ik ri s0 s1 s2 s3 tx) rfl rfl rfl ?_
                  rw [hqz] at hK
                  refine V.g2 60 [14, 23, 31, 51, 93] mX6_copy_ok rfl ?_
                  refine And.intro (fun e => absurd rfl e) (fun _ => ?_)
                  refine V.g2 60 [14, 23, 31, 51, 93] mX6_copy_ok rfl ?_
                  exact ⟨_, zsim_rfl _, cp_out hn40 hm40 (Or.inr hK) g4 (fun a b k z1 z2 z3 z4 z5 z6 z7 => (g5 a b k z1 z2 z3 z4 z5 z6).1 z7)⟩
                | true =>
                  refine V.nm [(7, .ref 94), (6, .ref 94), (0, .ref 0), (1, .int (nI 2)), (2, .int y), (3, .int (nI 2)), (4, .int w), (5, .int v)] [.int (bI true)] (pX c d k r tr kr rd ft tg tc lw kl ik ri s0 s1 s2 s3 tx) rfl rfl rfl ?_
                  rw [hqz] at hK
                  obtain ⟨a, k1, ha, hk1, rfl, rfl, hak⟩ := has_ex hn40 hH
                  obtain ⟨b, k2, hb, hk2, rfl, e5, hbk⟩ := has_ex hm40 hK
                  obtain rfl : k1 = k2 := (nI_eq hk1 hk2).mp e5
                  have hfin := (g5 a b k1 ha hb hk1 rfl rfl rfl).2 hak hbk
                  refine V.nm [(7, .ref 94), (6, .ref 94), (0, .ref 0), (1, .int (nI 2)), (2, .int (nI a)), (3, .int (nI 2)), (4, .int (nI b)), (5, .int (nI k1))] [.int (bI true)] (pX c d k r tr kr rd ft tg tc lw kl ik ri s0 s1 s2 s3 tx) rfl rfl rfl ?_
                  refine V.g2 60 [14, 23, 31, 51, 93] mX6_copy_ok rfl ?_
                  refine And.intro (fun _ => ?_) (fun e => absurd e (by decide))
                  have ca : (nI a).toNatClampNeg = a := nI_clamp ha
                  have cb : (nI b).toNatClampNeg = b := nI_clamp hb
                  have ck : (nI k1).toNatClampNeg = k1 := nI_clamp hk1
                  refine V.acopy mX6_copy_ok rfl lX6_348 rfl rfl 48 48 rfl rfl (Int32.not_lt.mpr (nI_le (Nat.zero_le a) (by omega))) (Int32.not_lt.mpr (nI_le (Nat.zero_le b) (by omega))) (Int32.not_lt.mpr (nI_le (Nat.zero_le k1) (by omega))) (by rw [ca, ck]; omega) (by rw [cb, ck]; omega) ?_
                  rw [ca, cb, ck, cp_eq]
                  refine V.nm [(7, .ref 94), (6, .ref 94), (0, .ref 0), (1, .int (nI 2)), (2, .int (nI a)), (3, .int (nI 2)), (4, .int (nI b)), (5, .int (nI k1))] [] (pX c d k r tr kr rd ft tg tc lw kl ik ri s0 s1 ((s2.1), (s2.2.1), (cpS s2.2.2 s2.2.2 a b k1)) s3 tx) rfl rfl rfl ?_
                  refine V.g2 60 [14, 23, 31, 51, 93] mX6_copy_ok rfl ?_
                  exact ⟨_, zsim_rfl _, hfin⟩
            · refine V.g2 60 [14, 23, 31, 51, 93] mX6_copy_ok rfl ?_
              exact ⟨_, zsim_rfl _, g1 (Or.inr e2)⟩
        · refine V.nm [(0, .ref 0), (1, .int (nI 2)), (2, .int y), (3, .int (nI 3)), (4, .int w), (5, .int v)] [.int (bI true)] (pX c d k r tr kr rd ft tg tc lw kl ik ri s0 s1 s2 s3 tx) rfl rfl rfl ?_
          have hsz : s2.2.1 = nI n := hsz
          have hqz : s3.2.1 = nI m := hqz
          subst hS
          refine V.g2 60 [14, 23, 31, 51, 93] mX6_copy_ok rfl ?_
          refine And.intro (fun _ => ?_) (fun e => absurd e (by decide))
          have er : zrf (zsg (nI 2).toNatClampNeg) = .ref 94 := by rw [pk_cl 2 rfl]; rfl
          refine And.intro (pk_in 2 4 (by omega) rfl) ?_
          refine V.nm [(0, .ref 0), (1, .int (nI 2)), (2, .int y), (3, .int (nI 3)), (4, .int w), (5, .int v)] [.ref 94] (pX c d k r tr kr rd ft tg tc lw kl ik ri s0 s1 s2 s3 tx) rfl (by rw [← er] <;> rfl) rfl ?_
          refine V.g2 60 [14, 23, 31, 51, 93] mX6_copy_ok rfl ?_
          have er : zrf (zsg (nI 3).toNatClampNeg) = .ref 98 := by rw [pk_cl 3 rfl]; rfl
          refine And.intro (pk_in 3 4 (by omega) rfl) ?_
          refine V.nm [(6, .ref 94), (0, .ref 0), (1, .int (nI 2)), (2, .int y), (3, .int (nI 3)), (4, .int w), (5, .int v)] [.ref 98] (pX c d k r tr kr rd ft tg tc lw kl ik ri s0 s1 s2 s3 tx) rfl (by rw [← er] <;> rfl) rfl ?_
          refine V.g2 60 [14, 23, 31, 51, 93] mX6_copy_ok rfl ?_
          refine And.intro (fun (e1 : (s2.1) = (-1 : Int32)) => ?_) (fun (e1 : ¬ (s2.1) = (-1 : Int32)) => ?_)
          · refine V.g2 60 [14, 23, 31, 51, 93] mX6_copy_ok rfl ?_
            exact ⟨_, zsim_rfl _, g1 (Or.inl e1)⟩
          · refine And.intro (fun (e2 : ¬ (s3.1) = (-1 : Int32)) => ?_) (fun (e2 : (s3.1) = (-1 : Int32)) => ?_)
            · refine And.intro (fun (e3 : (s2.1) = (s3.1)) => ?_) (fun (e3 : ¬ (s2.1) = (s3.1)) => ?_)
              · obtain ⟨g4, g5⟩ := g3 e1 e2 e3
                clear g1 g2 g3
                refine V.cV1P mX6_copy_ok rfl lX6_345 (ct_has l) rfl 56 rfl [47, 48] [none, none, none, none, none, none, none, none, none, none, none, none, none, none, none, none, none, none, none, none, none, none, none, none, none, none, none, none, none, none, none, none, none, none, none, none, none, none, none, none, none, none, none, none, none, none, none, some 0, some 1, none, none, none, none, none, none, none] (by decide +kernel) (pSheet 0 (s2.1) (s2.2.1) (s2.2.2)) [.ref 0, .int y, .int v] [] rfl 0 4 rfl rfl rfl rfl rfl rfl rfl rfl (some (.int (bI (hasF s2.2.1 y v)))) (pSheet 0 (s2.1) (s2.2.1) (s2.2.2)) ⟨s2.1, s2.2.1, y, v, s2.2.2, rfl, rfl, rfl, rfl⟩ rfl (pX c d k r tr kr rd ft tg tc lw kl ik ri s0 s1 s2 s3 tx) [.int (bI (hasF s2.2.1 y v))] rfl rfl ?_
                cases hH : (hasF s2.2.1 y v) with
                | false =>
                  refine V.nm [(7, .ref 98), (6, .ref 94), (0, .ref 0), (1, .int (nI 2)), (2, .int y), (3, .int (nI 3)), (4, .int w), (5, .int v)] [.int (bI false)] (pX c d k r tr kr rd ft tg tc lw kl ik ri s0 s1 s2 s3 tx) rfl rfl rfl ?_
                  rw [hsz] at hH
                  refine V.g2 60 [14, 23, 31, 51, 93] mX6_copy_ok rfl ?_
                  refine And.intro (fun _ => ?_) (fun e => absurd rfl e)
                  refine V.g2 60 [14, 23, 31, 51, 93] mX6_copy_ok rfl ?_
                  exact ⟨_, zsim_rfl _, cp_out hn40 hm40 (Or.inl hH) g4 (fun a b k z1 z2 z3 z4 z5 z6 z7 => (g5 a b k z1 z2 z3 z4 z5 z6).1 z7)⟩
                | true =>
                  refine V.nm [(7, .ref 98), (6, .ref 94), (0, .ref 0), (1, .int (nI 2)), (2, .int y), (3, .int (nI 3)), (4, .int w), (5, .int v)] [.int (bI true)] (pX c d k r tr kr rd ft tg tc lw kl ik ri s0 s1 s2 s3 tx) rfl rfl rfl ?_
                  rw [hsz] at hH
                  refine V.g2 60 [14, 23, 31, 51, 93] mX6_copy_ok rfl ?_
                  refine And.intro (fun e => absurd e (by decide)) (fun _ => ?_)
                  refine V.cV1P mX6_copy_ok rfl lX6_345 (ct_has l) rfl 56 rfl [49, 50] [none, none, none, none, none, none, none, none, none, none, none, none, none, none, none, none, none, none, none, none, none, none, none, none, none, none, none, none, none, none, none, none, none, none, none, none, none, none, none, none, none, none, none, none, none, none, none, none, none, some 0, some 1, none, none, none, none, none] (by decide +kernel) (pSheet 0 (s3.1) (s3.2.1) (s3.2.2)) [.ref 0, .int w, .int v] [] rfl 0 4 rfl rfl rfl rfl rfl rfl rfl rfl (some (.int (bI (hasF s3.2.1 w v)))) (pSheet 0 (s3.1) (s3.2.1) (s3.2.2)) ⟨s3.1, s3.2.1, w, v, s3.2.2, rfl, rfl, rfl, rfl⟩ rfl (pX c d k r tr kr rd ft tg tc lw kl ik ri s0 s1 s2 s3 tx) [.int (bI (hasF s3.2.1 w v))] rfl rfl ?_
                  cases hK : (hasF s3.2.1 w v) with
                  | false =>
                    refine V.nm [(7, .ref 98), (6, .ref 94), (0, .ref 0), (1, .int (nI 2)), (2, .int y), (3, .int (nI 3)), (4, .int w), (5, .int v)] [.int (bI false)] (pX c d k r tr kr rd ft tg tc lw kl ik ri s0 s1 s2 s3 tx) rfl rfl rfl ?_
                    rw [hqz] at hK
                    refine V.g2 60 [14, 23, 31, 51, 93] mX6_copy_ok rfl ?_
                    refine And.intro (fun e => absurd rfl e) (fun _ => ?_)
                    refine V.g2 60 [14, 23, 31, 51, 93] mX6_copy_ok rfl ?_
                    exact ⟨_, zsim_rfl _, cp_out hn40 hm40 (Or.inr hK) g4 (fun a b k z1 z2 z3 z4 z5 z6 z7 => (g5 a b k z1 z2 z3 z4 z5 z6).1 z7)⟩
                  | true =>
                    refine V.nm [(7, .ref 98), (6, .ref 94), (0, .ref 0), (1, .int (nI 2)), (2, .int y), (3, .int (nI 3)), (4, .int w), (5, .int v)] [.int (bI true)] (pX c d k r tr kr rd ft tg tc lw kl ik ri s0 s1 s2 s3 tx) rfl rfl rfl ?_
                    rw [hqz] at hK
                    obtain ⟨a, k1, ha, hk1, rfl, rfl, hak⟩ := has_ex hn40 hH
                    obtain ⟨b, k2, hb, hk2, rfl, e5, hbk⟩ := has_ex hm40 hK
                    obtain rfl : k1 = k2 := (nI_eq hk1 hk2).mp e5
                    have hfin := (g5 a b k1 ha hb hk1 rfl rfl rfl).2 hak hbk
                    refine V.nm [(7, .ref 98), (6, .ref 94), (0, .ref 0), (1, .int (nI 2)), (2, .int (nI a)), (3, .int (nI 3)), (4, .int (nI b)), (5, .int (nI k1))] [.int (bI true)] (pX c d k r tr kr rd ft tg tc lw kl ik ri s0 s1 s2 s3 tx) rfl rfl rfl ?_
                    refine V.g2 60 [14, 23, 31, 51, 93] mX6_copy_ok rfl ?_
                    refine And.intro (fun _ => ?_) (fun e => absurd e (by decide))
                    have ca : (nI a).toNatClampNeg = a := nI_clamp ha
                    have cb : (nI b).toNatClampNeg = b := nI_clamp hb
                    have ck : (nI k1).toNatClampNeg = k1 := nI_clamp hk1
                    refine V.acopy mX6_copy_ok rfl lX6_348 rfl rfl 48 50 rfl rfl (Int32.not_lt.mpr (nI_le (Nat.zero_le a) (by omega))) (Int32.not_lt.mpr (nI_le (Nat.zero_le b) (by omega))) (Int32.not_lt.mpr (nI_le (Nat.zero_le k1) (by omega))) (by rw [ca, ck]; omega) (by rw [cb, ck]; omega) ?_
                    rw [ca, cb, ck, cp_eq]
                    refine V.nm [(7, .ref 98), (6, .ref 94), (0, .ref 0), (1, .int (nI 2)), (2, .int (nI a)), (3, .int (nI 3)), (4, .int (nI b)), (5, .int (nI k1))] [] (pX c d k r tr kr rd ft tg tc lw kl ik ri s0 s1 s2 ((s3.1), (s3.2.1), (cpS s2.2.2 s3.2.2 a b k1)) tx) rfl rfl rfl ?_
                    refine V.g2 60 [14, 23, 31, 51, 93] mX6_copy_ok rfl ?_
                    exact ⟨_, zsim_rfl _, hfin⟩
              · exact ⟨_, zsim_rfl _, g2 e1 e2 e3⟩
            · refine V.g2 60 [14, 23, 31, 51, 93] mX6_copy_ok rfl ?_
              exact ⟨_, zsim_rfl _, g1 (Or.inr e2)⟩
      · rcases (show q = 0 ∨ q = 1 ∨ q = 2 ∨ q = 3 by omega) with rfl | rfl | rfl | rfl
        · refine V.nm [(0, .ref 0), (1, .int (nI 3)), (2, .int y), (3, .int (nI 0)), (4, .int w), (5, .int v)] [.int (bI true)] (pX c d k r tr kr rd ft tg tc lw kl ik ri s0 s1 s2 s3 tx) rfl rfl rfl ?_
          have hsz : s3.2.1 = nI n := hsz
          have hqz : s0.2.1 = nI m := hqz
          subst hS
          refine V.g2 60 [14, 23, 31, 51, 93] mX6_copy_ok rfl ?_
          refine And.intro (fun _ => ?_) (fun e => absurd e (by decide))
          have er : zrf (zsg (nI 3).toNatClampNeg) = .ref 98 := by rw [pk_cl 3 rfl]; rfl
          refine And.intro (pk_in 3 4 (by omega) rfl) ?_
          refine V.nm [(0, .ref 0), (1, .int (nI 3)), (2, .int y), (3, .int (nI 0)), (4, .int w), (5, .int v)] [.ref 98] (pX c d k r tr kr rd ft tg tc lw kl ik ri s0 s1 s2 s3 tx) rfl (by rw [← er] <;> rfl) rfl ?_
          refine V.g2 60 [14, 23, 31, 51, 93] mX6_copy_ok rfl ?_
          have er : zrf (zsg (nI 0).toNatClampNeg) = .ref 86 := by rw [pk_cl 0 rfl]; rfl
          refine And.intro (pk_in 0 4 (by omega) rfl) ?_
          refine V.nm [(6, .ref 98), (0, .ref 0), (1, .int (nI 3)), (2, .int y), (3, .int (nI 0)), (4, .int w), (5, .int v)] [.ref 86] (pX c d k r tr kr rd ft tg tc lw kl ik ri s0 s1 s2 s3 tx) rfl (by rw [← er] <;> rfl) rfl ?_
          refine V.g2 60 [14, 23, 31, 51, 93] mX6_copy_ok rfl ?_
          refine And.intro (fun (e1 : (s3.1) = (-1 : Int32)) => ?_) (fun (e1 : ¬ (s3.1) = (-1 : Int32)) => ?_)
          · refine V.g2 60 [14, 23, 31, 51, 93] mX6_copy_ok rfl ?_
            exact ⟨_, zsim_rfl _, g1 (Or.inl e1)⟩
          · refine And.intro (fun (e2 : ¬ (s0.1) = (-1 : Int32)) => ?_) (fun (e2 : (s0.1) = (-1 : Int32)) => ?_)
            · refine And.intro (fun (e3 : (s3.1) = (s0.1)) => ?_) (fun (e3 : ¬ (s3.1) = (s0.1)) => ?_)
              · obtain ⟨g4, g5⟩ := g3 e1 e2 e3
                clear g1 g2 g3
                refine V.cV1P mX6_copy_ok rfl lX6_345 (ct_has l) rfl 56 rfl [49, 50] [none, none, none, none, none, none, none, none, none, none, none, none, none, none, none, none, none, none, none, none, none, none, none, none, none, none, none, none, none, none, none, none, none, none, none, none, none, none, none, none, none, none, none, none, none, none, none, none, none, some 0, some 1, none, none, none, none, none] (by decide +kernel) (pSheet 0 (s3.1) (s3.2.1) (s3.2.2)) [.ref 0, .int y, .int v] [] rfl 0 4 rfl rfl rfl rfl rfl rfl rfl rfl (some (.int (bI (hasF s3.2.1 y v)))) (pSheet 0 (s3.1) (s3.2.1) (s3.2.2)) ⟨s3.1, s3.2.1, y, v, s3.2.2, rfl, rfl, rfl, rfl⟩ rfl (pX c d k r tr kr rd ft tg tc lw kl ik ri s0 s1 s2 s3 tx) [.int (bI (hasF s3.2.1 y v))] rfl rfl ?_
                cases hH : (hasF s3.2.1 y v) with
                | false =>
                  refine V.nm [(7, .ref 86), (6, .ref 98), (0, .ref 0), (1, .int (nI 3)), (2, .int y), (3, .int (nI 0)), (4, .int w), (5, .int v)] [.int (bI false)] (pX c d k r tr kr rd ft tg tc lw kl ik ri s0 s1 s2 s3 tx) rfl rfl rfl ?_
                  rw [hsz] at hH
                  refine V.g2 60 [14, 23, 31, 51, 93] mX6_copy_ok rfl ?_
                  refine And.intro (fun _ => ?_) (fun e => absurd rfl e)
                  refine V.g2 60 [14, 23, 31, 51, 93] mX6_copy_ok rfl ?_
                  exact ⟨_, zsim_rfl _, cp_out hn40 hm40 (Or.inl hH) g4 (fun a b k z1 z2 z3 z4 z5 z6 z7 => (g5 a b k z1 z2 z3 z4 z5 z6).1 z7)⟩
                | true =>
                  refine V.nm [(7, .ref 86), (6, .ref 98), (0, .ref 0), (1, .int (nI 3)), (2, .int y), (3, .int (nI 0)), (4, .int w), (5, .int v)] [.int (bI true)] (pX c d k r tr kr rd ft tg tc lw kl ik ri s0 s1 s2 s3 tx) rfl rfl rfl ?_
                  rw [hsz] at hH
                  refine V.g2 60 [14, 23, 31, 51, 93] mX6_copy_ok rfl ?_
                  refine And.intro (fun e => absurd e (by decide)) (fun _ => ?_)
                  refine V.cV1P mX6_copy_ok rfl lX6_345 (ct_has l) rfl 56 rfl [43, 44] [none, none, none, none, none, none, none, none, none, none, none, none, none, none, none, none, none, none, none, none, none, none, none, none, none, none, none, none, none, none, none, none, none, none, none, none, none, none, none, none, none, none, none, some 0, some 1, none, none, none, none, none, none, none, none, none, none, none] (by decide +kernel) (pSheet 0 (s0.1) (s0.2.1) (s0.2.2)) [.ref 0, .int w, .int v] [] rfl 0 4 rfl rfl rfl rfl rfl rfl rfl rfl (some (.int (bI (hasF s0.2.1 w v)))) (pSheet 0 (s0.1) (s0.2.1) (s0.2.2)) ⟨s0.1, s0.2.1, w, v, s0.2.2, rfl, rfl, rfl, rfl⟩ rfl (pX c d k r tr kr rd ft tg tc lw kl ik ri s0 s1 s2 s3 tx) [.int (bI (hasF s0.2.1 w v))] rfl rfl ?_
                  cases hK : (hasF s0.2.1 w v) with
                  | false =>
                    refine V.nm [(7, .ref 86), (6, .ref 98), (0, .ref 0), (1, .int (nI 3)), (2, .int y), (3, .int (nI 0)), (4, .int w), (5, .int v)] [.int (bI false)] (pX c d k r tr kr rd ft tg tc lw kl ik ri s0 s1 s2 s3 tx) rfl rfl rfl ?_
                    rw [hqz] at hK
                    refine V.g2 60 [14, 23, 31, 51, 93] mX6_copy_ok rfl ?_
                    refine And.intro (fun e => absurd rfl e) (fun _ => ?_)
                    refine V.g2 60 [14, 23, 31, 51, 93] mX6_copy_ok rfl ?_
                    exact ⟨_, zsim_rfl _, cp_out hn40 hm40 (Or.inr hK) g4 (fun a b k z1 z2 z3 z4 z5 z6 z7 => (g5 a b k z1 z2 z3 z4 z5 z6).1 z7)⟩
                  | true =>
                    refine V.nm [(7, .ref 86), (6, .ref 98), (0, .ref 0), (1, .int (nI 3)), (2, .int y), (3, .int (nI 0)), (4, .int w), (5, .int v)] [.int (bI true)] (pX c d k r tr kr rd ft tg tc lw kl ik ri s0 s1 s2 s3 tx) rfl rfl rfl ?_
                    rw [hqz] at hK
                    obtain ⟨a, k1, ha, hk1, rfl, rfl, hak⟩ := has_ex hn40 hH
                    obtain ⟨b, k2, hb, hk2, rfl, e5, hbk⟩ := has_ex hm40 hK
                    obtain rfl : k1 = k2 := (nI_eq hk1 hk2).mp e5
                    have hfin := (g5 a b k1 ha hb hk1 rfl rfl rfl).2 hak hbk
                    refine V.nm [(7, .ref 86), (6, .ref 98), (0, .ref 0), (1, .int (nI 3)), (2, .int (nI a)), (3, .int (nI 0)), (4, .int (nI b)), (5, .int (nI k1))] [.int (bI true)] (pX c d k r tr kr rd ft tg tc lw kl ik ri s0 s1 s2 s3 tx) rfl rfl rfl ?_
                    refine V.g2 60 [14, 23, 31, 51, 93] mX6_copy_ok rfl ?_
                    refine And.intro (fun _ => ?_) (fun e => absurd e (by decide))
                    have ca : (nI a).toNatClampNeg = a := nI_clamp ha
                    have cb : (nI b).toNatClampNeg = b := nI_clamp hb
                    have ck : (nI k1).toNatClampNeg = k1 := nI_clamp hk1
                    refine V.acopy mX6_copy_ok rfl lX6_348 rfl rfl 50 44 rfl rfl (Int32.not_lt.mpr (nI_le (Nat.zero_le a) (by omega))) (Int32.not_lt.mpr (nI_le (Nat.zero_le b) (by omega))) (Int32.not_lt.mpr (nI_le (Nat.zero_le k1) (by omega))) (by rw [ca, ck]; omega) (by rw [cb, ck]; omega) ?_
                    rw [ca, cb, ck, cp_eq]
                    refine V.nm [(7, .ref 86), (6, .ref 98), (0, .ref 0), (1, .int (nI 3)), (2, .int (nI a)), (3, .int (nI 0)), (4, .int (nI b)), (5, .int (nI k1))] [] (pX c d k r tr kr rd ft tg tc lw kl ik ri ((s0.1), (s0.2.1), (cpS s3.2.2 s0.2.2 a b k1)) s1 s2 s3 tx) rfl rfl rfl ?_
                    refine V.g2 60 [14, 23, 31, 51, 93] mX6_copy_ok rfl ?_
                    exact ⟨_, zsim_rfl _, hfin⟩
              · exact ⟨_, zsim_rfl _, g2 e1 e2 e3⟩
            · refine V.g2 60 [14, 23, 31, 51, 93] mX6_copy_ok rfl ?_
              exact ⟨_, zsim_rfl _, g1 (Or.inr e2)⟩
        · refine V.nm [(0, .ref 0), (1, .int (nI 3)), (2, .int y), (3, .int (nI 1)), (4, .int w), (5, .int v)] [.int (bI true)] (pX c d k r tr kr rd ft tg tc lw kl ik ri s0 s1 s2 s3 tx) rfl rfl rfl ?_
          have hsz : s3.2.1 = nI n := hsz
          have hqz : s1.2.1 = nI m := hqz
          subst hS
          refine V.g2 60 [14, 23, 31, 51, 93] mX6_copy_ok rfl ?_
          refine And.intro (fun _ => ?_) (fun e => absurd e (by decide))
          have er : zrf (zsg (nI 3).toNatClampNeg) = .ref 98 := by rw [pk_cl 3 rfl]; rfl
          refine And.intro (pk_in 3 4 (by omega) rfl) ?_
          refine V.nm [(0, .ref 0), (1, .int (nI 3)), (2, .int y), (3, .int (nI 1)), (4, .int w), (5, .int v)] [.ref 98] (pX c d k r tr kr rd ft tg tc lw kl ik ri s0 s1 s2 s3 tx) rfl (by rw [← er] <;> rfl) rfl ?_
          refine V.g2 60 [14, 23, 31, 51, 93] mX6_copy_ok rfl ?_
          have er : zrf (zsg (nI 1).toNatClampNeg) = .ref 90 := by rw [pk_cl 1 rfl]; rfl
          refine And.intro (pk_in 1 4 (by omega) rfl) ?_
          refine V.nm [(6, .ref 98), (0, .ref 0), (1, .int (nI 3)), (2, .int y), (3, .int (nI 1)), (4, .int w), (5, .int v)] [.ref 90] (pX c d k r tr kr rd ft tg tc lw kl ik ri s0 s1 s2 s3 tx) rfl (by rw [← er] <;> rfl) rfl ?_
          refine V.g2 60 [14, 23, 31, 51, 93] mX6_copy_ok rfl ?_
          refine And.intro (fun (e1 : (s3.1) = (-1 : Int32)) => ?_) (fun (e1 : ¬ (s3.1) = (-1 : Int32)) => ?_)
          · refine V.g2 60 [14, 23, 31, 51, 93] mX6_copy_ok rfl ?_
            exact ⟨_, zsim_rfl _, g1 (Or.inl e1)⟩
          · refine And.intro (fun (e2 : ¬ (s1.1) = (-1 : Int32)) => ?_) (fun (e2 : (s1.1) = (-1 : Int32)) => ?_)
            · refine And.intro (fun (e3 : (s3.1) = (s1.1)) => ?_) (fun (e3 : ¬ (s3.1) = (s1.1)) => ?_)
              · obtain ⟨g4, g5⟩ := g3 e1 e2 e3
                clear g1 g2 g3
                refine V.cV1P mX6_copy_ok rfl lX6_345 (ct_has l) rfl 56 rfl [49, 50] [none, none, none, none, none, none, none, none, none, none, none, none, none, none, none, none, none, none, none, none, none, none, none, none, none, none, none, none, none, none, none, none, none, none, none, none, none, none, none, none, none, none, none, none, none, none, none, none, none, some 0, some 1, none, none, none, none, none] (by decide +kernel) (pSheet 0 (s3.1) (s3.2.1) (s3.2.2)) [.ref 0, .int y, .int v] [] rfl 0 4 rfl rfl rfl rfl rfl rfl rfl rfl (some (.int (bI (hasF s3.2.1 y v)))) (pSheet 0 (s3.1) (s3.2.1) (s3.2.2)) ⟨s3.1, s3.2.1, y, v, s3.2.2, rfl, rfl, rfl, rfl⟩ rfl (pX c d k r tr kr rd ft tg tc lw kl ik ri s0 s1 s2 s3 tx) [.int (bI (hasF s3.2.1 y v))] rfl rfl ?_
                cases hH : (hasF s3.2.1 y v) with
                | false =>
                  refine V.nm [(7, .ref 90), (6, .ref 98), (0, .ref 0), (1, .int (nI 3)), (2, .int y), (3, .int (nI 1)), (4, .int w), (5, .int v)] [.int (bI false)] (pX c d k r tr kr rd ft tg tc lw kl ik ri s0 s1 s2 s3 tx) rfl rfl rfl ?_
                  rw [hsz] at hH
                  refine V.g2 60 [14, 23, 31, 51, 93] mX6_copy_ok rfl ?_
                  refine And.intro (fun _ => ?_) (fun e => absurd rfl e)
                  refine V.g2 60 [14, 23, 31, 51, 93] mX6_copy_ok rfl ?_
                  exact ⟨_, zsim_rfl _, cp_out hn40 hm40 (Or.inl hH) g4 (fun a b k z1 z2 z3 z4 z5 z6 z7 => (g5 a b k z1 z2 z3 z4 z5 z6).1 z7)⟩
                | true =>
                  refine V.nm [(7, .ref 90), (6, .ref 98), (0, .ref 0), (1, .int (nI 3)), (2, .int y), (3, .int (nI 1)), (4, .int w), (5, .int v)] [.int (bI true)] (pX c d k r tr kr rd ft tg tc lw kl ik ri s0 s1 s2 s3 tx) rfl rfl rfl ?_
                  rw [hsz] at hH
                  refine V.g2 60 [14, 23, 31, 51, 93] mX6_copy_ok rfl ?_
                  refine And.intro (fun e => absurd e (by decide)) (fun _ => ?_)
                  refine V.cV1P mX6_copy_ok rfl lX6_345 (ct_has l) rfl 56 rfl [45, 46] [none, none, none, none, none, none, none, none, none, none, none, none, none, none, none, none, none, none, none, none, none, none, none, none, none, none, none, none, none, none, none, none, none, none, none, none, none, none, none, none, none, none, none, none, none, some 0, some 1, none, none, none, none, none, none, none, none, none] (by decide +kernel) (pSheet 0 (s1.1) (s1.2.1) (s1.2.2)) [.ref 0, .int w, .int v] [] rfl 0 4 rfl rfl rfl rfl rfl rfl rfl rfl (some (.int (bI (hasF s1.2.1 w v)))) (pSheet 0 (s1.1) (s1.2.1) (s1.2.2)) ⟨s1.1, s1.2.1, w, v, s1.2.2, rfl, rfl, rfl, rfl⟩ rfl (pX c d k r tr kr rd ft tg tc lw kl ik ri s0 s1 s2 s3 tx) [.int (bI (hasF s1.2.1 w v))] rfl rfl ?_
                  cases hK : (hasF s1.2.1 w v) with
                  | false =>
                    refine V.nm [(7, .ref 90), (6, .ref 98), (0, .ref 0), (1, .int (nI 3)), (2, .int y), (3, .int (nI 1)), (4, .int w), (5, .int v)] [.int (bI false)] (pX c d k r tr kr rd ft tg tc lw kl ik ri s0 s1 s2 s3 tx) rfl rfl rfl ?_
                    rw [hqz] at hK
                    refine V.g2 60 [14, 23, 31, 51, 93] mX6_copy_ok rfl ?_
                    refine And.intro (fun e => absurd rfl e) (fun _ => ?_)
                    refine V.g2 60 [14, 23, 31, 51, 93] mX6_copy_ok rfl ?_
                    exact ⟨_, zsim_rfl _, cp_out hn40 hm40 (Or.inr hK) g4 (fun a b k z1 z2 z3 z4 z5 z6 z7 => (g5 a b k z1 z2 z3 z4 z5 z6).1 z7)⟩
                  | true =>
                    refine V.nm [(7, .ref 90), (6, .ref 98), (0, .ref 0), (1, .int (nI 3)), (2, .int y), (3, .int (nI 1)), (4, .int w), (5, .int v)] [.int (bI true)] (pX c d k r tr kr rd ft tg tc lw kl ik ri s0 s1 s2 s3 tx) rfl rfl rfl ?_
                    rw [hqz] at hK
                    obtain ⟨a, k1, ha, hk1, rfl, rfl, hak⟩ := has_ex hn40 hH
                    obtain ⟨b, k2, hb, hk2, rfl, e5, hbk⟩ := has_ex hm40 hK
                    obtain rfl : k1 = k2 := (nI_eq hk1 hk2).mp e5
                    have hfin := (g5 a b k1 ha hb hk1 rfl rfl rfl).2 hak hbk
                    refine V.nm [(7, .ref 90), (6, .ref 98), (0, .ref 0), (1, .int (nI 3)), (2, .int (nI a)), (3, .int (nI 1)), (4, .int (nI b)), (5, .int (nI k1))] [.int (bI true)] (pX c d k r tr kr rd ft tg tc lw kl ik ri s0 s1 s2 s3 tx) rfl rfl rfl ?_
                    refine V.g2 60 [14, 23, 31, 51, 93] mX6_copy_ok rfl ?_
                    refine And.intro (fun _ => ?_) (fun e => absurd e (by decide))
                    have ca : (nI a).toNatClampNeg = a := nI_clamp ha
                    have cb : (nI b).toNatClampNeg = b := nI_clamp hb
                    have ck : (nI k1).toNatClampNeg = k1 := nI_clamp hk1
                    refine V.acopy mX6_copy_ok rfl lX6_348 rfl rfl 50 46 rfl rfl (Int32.not_lt.mpr (nI_le (Nat.zero_le a) (by omega))) (Int32.not_lt.mpr (nI_le (Nat.zero_le b) (by omega))) (Int32.not_lt.mpr (nI_le (Nat.zero_le k1) (by omega))) (by rw [ca, ck]; omega) (by rw [cb, ck]; omega) ?_
                    rw [ca, cb, ck, cp_eq]
                    refine V.nm [(7, .ref 90), (6, .ref 98), (0, .ref 0), (1, .int (nI 3)), (2, .int (nI a)), (3, .int (nI 1)), (4, .int (nI b)), (5, .int (nI k1))] [] (pX c d k r tr kr rd ft tg tc lw kl ik ri s0 ((s1.1), (s1.2.1), (cpS s3.2.2 s1.2.2 a b k1)) s2 s3 tx) rfl rfl rfl ?_
                    refine V.g2 60 [14, 23, 31, 51, 93] mX6_copy_ok rfl ?_
                    exact ⟨_, zsim_rfl _, hfin⟩
              · exact ⟨_, zsim_rfl _, g2 e1 e2 e3⟩
            · refine V.g2 60 [14, 23, 31, 51, 93] mX6_copy_ok rfl ?_
              exact ⟨_, zsim_rfl _, g1 (Or.inr e2)⟩
        · refine V.nm [(0, .ref 0), (1, .int (nI 3)), (2, .int y), (3, .int (nI 2)), (4, .int w), (5, .int v)] [.int (bI true)] (pX c d k r tr kr rd ft tg tc lw kl ik ri s0 s1 s2 s3 tx) rfl rfl rfl ?_
          have hsz : s3.2.1 = nI n := hsz
          have hqz : s2.2.1 = nI m := hqz
          subst hS
          refine V.g2 60 [14, 23, 31, 51, 93] mX6_copy_ok rfl ?_
          refine And.intro (fun _ => ?_) (fun e => absurd e (by decide))
          have er : zrf (zsg (nI 3).toNatClampNeg) = .ref 98 := by rw [pk_cl 3 rfl]; rfl
          refine And.intro (pk_in 3 4 (by omega) rfl) ?_
          refine V.nm [(0, .ref 0), (1, .int (nI 3)), (2, .int y), (3, .int (nI 2)), (4, .int w), (5, .int v)] [.ref 98] (pX c d k r tr kr rd ft tg tc lw kl ik ri s0 s1 s2 s3 tx) rfl (by rw [← er] <;> rfl) rfl ?_
          refine V.g2 60 [14, 23, 31, 51, 93] mX6_copy_ok rfl ?_
          have er : zrf (zsg (nI 2).toNatClampNeg) = .ref 94 := by rw [pk_cl 2 rfl]; rfl
          refine And.intro (pk_in 2 4 (by omega) rfl) ?_
          refine V.nm [(6, .ref 98), (0, .ref 0), (1, .int (nI 3)), (2, .int y), (3, .int (nI 2)), (4, .int w), (5, .int v)] [.ref 94] (pX c d k r tr kr rd ft tg tc lw kl ik ri s0 s1 s2 s3 tx) rfl (by rw [← er] <;> rfl) rfl ?_
          refine V.g2 60 [14, 23, 31, 51, 93] mX6_copy_ok rfl ?_
          refine And.intro (fun (e1 : (s3.1) = (-1 : Int32)) => ?_) (fun (e1 : ¬ (s3.1) = (-1 : Int32)) => ?_)
          · refine V.g2 60 [14, 23, 31, 51, 93] mX6_copy_ok rfl ?_
            exact ⟨_, zsim_rfl _, g1 (Or.inl e1)⟩
          · refine And.intro (fun (e2 : ¬ (s2.1) = (-1 : Int32)) => ?_) (fun (e2 : (s2.1) = (-1 : Int32)) => ?_)
            · refine And.intro (fun (e3 : (s3.1) = (s2.1)) => ?_) (fun (e3 : ¬ (s3.1) = (s2.1)) => ?_)
              · obtain ⟨g4, g5⟩ := g3 e1 e2 e3
                clear g1 g2 g3
                refine V.cV1P mX6_copy_ok rfl lX6_345 (ct_has l) rfl 56 rfl [49, 50] [none, none, none, none, none, none, none, none, none, none, none, none, none, none, none, none, none, none, none, none, none, none, none, none, none, none, none, none, none, none, none, none, none, none, none, none, none, none, none, none, none, none, none, none, none, none, none, none, none, some 0, some 1, none, none, none, none, none] (by decide +kernel) (pSheet 0 (s3.1) (s3.2.1) (s3.2.2)) [.ref 0, .int y, .int v] [] rfl 0 4 rfl rfl rfl rfl rfl rfl rfl rfl (some (.int (bI (hasF s3.2.1 y v)))) (pSheet 0 (s3.1) (s3.2.1) (s3.2.2)) ⟨s3.1, s3.2.1, y, v, s3.2.2, rfl, rfl, rfl, rfl⟩ rfl (pX c d k r tr kr rd ft tg tc lw kl ik ri s0 s1 s2 s3 tx) [.int (bI (hasF s3.2.1 y v))] rfl rfl ?_
                cases hH : (hasF s3.2.1 y v) with
                | false =>
                  refine V.nm [(7, .ref 94), (6, .ref 98), (0, .ref 0), (1, .int (nI 3)), (2, .int y), (3, .int (nI 2)), (4, .int w), (5, .int v)] [.int (bI false)] (pX c d k r tr kr rd ft tg tc lw kl ik ri s0 s1 s2 s3 tx) rfl rfl rfl ?_
                  rw [hsz] at hH
                  refine V.g2 60 [14, 23, 31, 51, 93] mX6_copy_ok rfl ?_
                  refine And.intro (fun _ => ?_) (fun e => absurd rfl e)
                  refine V.g2 60 [14, 23, 31, 51, 93] mX6_copy_ok rfl ?_
                  exact ⟨_, zsim_rfl _, cp_out hn40 hm40 (Or.inl hH) g4 (fun a b k z1 z2 z3 z4 z5 z6 z7 => (g5 a b k z1 z2 z3 z4 z5 z6).1 z7)⟩
                | true =>
                  refine V.nm [(7, .ref 94), (6, .ref 98), (0, .ref 0), (1, .int (nI 3)), (2, .int y), (3, .int (nI 2)), (4, .int w), (5, .int v)] [.int (bI true)] (pX c d k r tr kr rd ft tg tc lw kl ik ri s0 s1 s2 s3 tx) rfl rfl rfl ?_
                  rw [hsz] at hH
                  refine V.g2 60 [14, 23, 31, 51, 93] mX6_copy_ok rfl ?_
                  refine And.intro (fun e => absurd e (by decide)) (fun _ => ?_)
                  refine V.cV1P mX6_copy_ok rfl lX6_345 (ct_has l) rfl 56 rfl [47, 48] [none, none, none, none, none, none, none, none, none, none, none, none, none, none, none, none, none, none, none, none, none, none, none, none, none, none, none, none, none, none, none, none, none, none, none, none, none, none, none, none, none, none, none, none, none, none, none, some 0, some 1, none, none, none, none, none, none, none] (by decide +kernel) (pSheet 0 (s2.1) (s2.2.1) (s2.2.2)) [.ref 0, .int w, .int v] [] rfl 0 4 rfl rfl rfl rfl rfl rfl rfl rfl (some (.int (bI (hasF s2.2.1 w v)))) (pSheet 0 (s2.1) (s2.2.1) (s2.2.2)) ⟨s2.1, s2.2.1, w, v, s2.2.2, rfl, rfl, rfl, rfl⟩ rfl (pX c d k r tr kr rd ft tg tc lw kl ik ri s0 s1 s2 s3 tx) [.int (bI (hasF s2.2.1 w v))] rfl rfl ?_
                  cases hK : (hasF s2.2.1 w v) with
                  | false =>
                    refine V.nm [(7, .ref 94), (6, .ref 98), (0, .ref 0), (1, .int (nI 3)), (2, .int y), (3, .int (nI 2)), (4, .int w), (5, .int v)] [.int (bI false)] (pX c d k r tr kr rd ft tg tc lw kl ik ri s0 s1 s2 s3 tx) rfl rfl rfl ?_
                    rw [hqz] at hK
                    refine V.g2 60 [14, 23, 31, 51, 93] mX6_copy_ok rfl ?_
                    refine And.intro (fun e => absurd rfl e) (fun _ => ?_)
                    refine V.g2 60 [14, 23, 31, 51, 93] mX6_copy_ok rfl ?_
                    exact ⟨_, zsim_rfl _, cp_out hn40 hm40 (Or.inr hK) g4 (fun a b k z1 z2 z3 z4 z5 z6 z7 => (g5 a b k z1 z2 z3 z4 z5 z6).1 z7)⟩
                  | true =>
                    refine V.nm [(7, .ref 94), (6, .ref 98), (0, .ref 0), (1, .int (nI 3)), (2, .int y), (3, .int (nI 2)), (4, .int w), (5, .int v)] [.int (bI true)] (pX c d k r tr kr rd ft tg tc lw kl ik ri s0 s1 s2 s3 tx) rfl rfl rfl ?_
                    rw [hqz] at hK
                    obtain ⟨a, k1, ha, hk1, rfl, rfl, hak⟩ := has_ex hn40 hH
                    obtain ⟨b, k2, hb, hk2, rfl, e5, hbk⟩ := has_ex hm40 hK
                    obtain rfl : k1 = k2 := (nI_eq hk1 hk2).mp e5
                    have hfin := (g5 a b k1 ha hb hk1 rfl rfl rfl).2 hak hbk
                    refine V.nm [(7, .ref 94), (6, .ref 98), (0, .ref 0), (1, .int (nI 3)), (2, .int (nI a)), (3, .int (nI 2)), (4, .int (nI b)), (5, .int (nI k1))] [.int (bI true)] (pX c d k r tr kr rd ft tg tc lw kl ik ri s0 s1 s2 s3 tx) rfl rfl rfl ?_
                    refine V.g2 60 [14, 23, 31, 51, 93] mX6_copy_ok rfl ?_
                    refine And.intro (fun _ => ?_) (fun e => absurd e (by decide))
                    have ca : (nI a).toNatClampNeg = a := nI_clamp ha
                    have cb : (nI b).toNatClampNeg = b := nI_clamp hb
                    have ck : (nI k1).toNatClampNeg = k1 := nI_clamp hk1
                    refine V.acopy mX6_copy_ok rfl lX6_348 rfl rfl 50 48 rfl rfl (Int32.not_lt.mpr (nI_le (Nat.zero_le a) (by omega))) (Int32.not_lt.mpr (nI_le (Nat.zero_le b) (by omega))) (Int32.not_lt.mpr (nI_le (Nat.zero_le k1) (by omega))) (by rw [ca, ck]; omega) (by rw [cb, ck]; omega) ?_
                    rw [ca, cb, ck, cp_eq]
                    refine V.nm [(7, .ref 94), (6, .ref 98), (0, .ref 0), (1, .int (nI 3)), (2, .int (nI a)), (3, .int (nI 2)), (4, .int (nI b)), (5, .int (nI k1))] [] (pX c d k r tr kr rd ft tg tc lw kl ik ri s0 s1 ((s2.1), (s2.2.1), (cpS s3.2.2 s2.2.2 a b k1)) s3 tx) rfl rfl rfl ?_
                    refine V.g2 60 [14, 23, 31, 51, 93] mX6_copy_ok rfl ?_
                    exact ⟨_, zsim_rfl _, hfin⟩
              · exact ⟨_, zsim_rfl _, g2 e1 e2 e3⟩
            · refine V.g2 60 [14, 23, 31, 51, 93] mX6_copy_ok rfl ?_
              exact ⟨_, zsim_rfl _, g1 (Or.inr e2)⟩
        · refine V.nm [(0, .ref 0), (1, .int (nI 3)), (2, .int y), (3, .int (nI 3)), (4, .int w), (5, .int v)] [.int (bI true)] (pX c d k r tr kr rd ft tg tc lw kl ik ri s0 s1 s2 s3 tx) rfl rfl rfl ?_
          have hsz : s3.2.1 = nI n := hsz
          have hqz : s3.2.1 = nI m := hqz
          subst hS
          refine V.g2 60 [14, 23, 31, 51, 93] mX6_copy_ok rfl ?_
          refine And.intro (fun _ => ?_) (fun e => absurd e (by decide))
          have er : zrf (zsg (nI 3).toNatClampNeg) = .ref 98 := by rw [pk_cl 3 rfl]; rfl
          refine And.intro (pk_in 3 4 (by omega) rfl) ?_
          refine V.nm [(0, .ref 0), (1, .int (nI 3)), (2, .int y), (3, .int (nI 3)), (4, .int w), (5, .int v)] [.ref 98] (pX c d k r tr kr rd ft tg tc lw kl ik ri s0 s1 s2 s3 tx) rfl (by rw [← er] <;> rfl) rfl ?_
          refine V.g2 60 [14, 23, 31, 51, 93] mX6_copy_ok rfl ?_
          have er : zrf (zsg (nI 3).toNatClampNeg) = .ref 98 := by rw [pk_cl 3 rfl]; rfl
          refine And.intro (pk_in 3 4 (by omega) rfl) ?_
          refine V.nm [(6, .ref 98), (0, .ref 0), (1, .int (nI 3)), (2, .int y), (3, .int (nI 3)), (4, .int w), (5, .int v)] [.ref 98] (pX c d k r tr kr rd ft tg tc lw kl ik ri s0 s1 s2 s3 tx) rfl (by rw [← er] <;> rfl) rfl ?_
          refine V.g2 60 [14, 23, 31, 51, 93] mX6_copy_ok rfl ?_
          refine And.intro (fun (e1 : (s3.1) = (-1 : Int32)) => ?_) (fun (e1 : ¬ (s3.1) = (-1 : Int32)) => ?_)
          · refine V.g2 60 [14, 23, 31, 51, 93] mX6_copy_ok rfl ?_
            exact ⟨_, zsim_rfl _, g1 (Or.inl e1)⟩
          · refine And.intro (fun (e2 : ¬ (s3.1) = (-1 : Int32)) => ?_) (fun (e2 : (s3.1) = (-1 : Int32)) => ?_)
            · refine And.intro (fun (e3 : (s3.1) = (s3.1)) => ?_) (fun (e3 : ¬ (s3.1) = (s3.1)) => absurd rfl e3)
              obtain ⟨g4, g5⟩ := g3 e1 e2 rfl
              clear g1 g2 g3
              refine V.cV1P mX6_copy_ok rfl lX6_345 (ct_has l) rfl 56 rfl [49, 50] [none, none, none, none, none, none, none, none, none, none, none, none, none, none, none, none, none, none, none, none, none, none, none, none, none, none, none, none, none, none, none, none, none, none, none, none, none, none, none, none, none, none, none, none, none, none, none, none, none, some 0, some 1, none, none, none, none, none] (by decide +kernel) (pSheet 0 (s3.1) (s3.2.1) (s3.2.2)) [.ref 0, .int y, .int v] [] rfl 0 4 rfl rfl rfl rfl rfl rfl rfl rfl (some (.int (bI (hasF s3.2.1 y v)))) (pSheet 0 (s3.1) (s3.2.1) (s3.2.2)) ⟨s3.1, s3.2.1, y, v, s3.2.2, rfl, rfl, rfl, rfl⟩ rfl (pX c d k r tr kr rd ft tg tc lw kl ik ri s0 s1 s2 s3 tx) [.int (bI (hasF s3.2.1 y v))] rfl rfl ?_
              cases hH : (hasF s3.2.1 y v) with
              | false =>
                refine V.nm [(7, .ref 98), (6, .ref 98), (0, .ref 0), (1, .int (nI 3)), (2, .int y), (3, .int (nI 3)), (4, .int w), (5, .int v)] [.int (bI false)] (pX c d k r tr kr rd ft tg tc lw kl ik ri s0 s1 s2 s3 tx) rfl rfl rfl ?_
                rw [hsz] at hH
                refine V.g2 60 [14, 23, 31, 51, 93] mX6_copy_ok rfl ?_
                refine And.intro (fun _ => ?_) (fun e => absurd rfl e)
                refine V.g2 60 [14, 23, 31, 51, 93] mX6_copy_ok rfl ?_
                exact ⟨_, zsim_rfl _, cp_out hn40 hm40 (Or.inl hH) g4 (fun a b k z1 z2 z3 z4 z5 z6 z7 => (g5 a b k z1 z2 z3 z4 z5 z6).1 z7)⟩
              | true =>
                refine V.nm [(7, .ref 98), (6, .ref 98), (0, .ref 0), (1, .int (nI 3)), (2, .int y), (3, .int (nI 3)), (4, .int w), (5, .int v)] [.int (bI true)] (pX c d k r tr kr rd ft tg tc lw kl ik ri s0 s1 s2 s3 tx) rfl rfl rfl ?_
                rw [hsz] at hH
                refine V.g2 60 [14, 23, 31, 51, 93] mX6_copy_ok rfl ?_
                refine And.intro (fun e => absurd e (by decide)) (fun _ => ?_)
                refine V.cV1P mX6_copy_ok rfl lX6_345 (ct_has l) rfl 56 rfl [49, 50] [none, none, none, none, none, none, none, none, none, none, none, none, none, none, none, none, none, none, none, none, none, none, none, none, none, none, none, none, none, none, none, none, none, none, none, none, none, none, none, none, none, none, none, none, none, none, none, none, none, some 0, some 1, none, none, none, none, none] (by decide +kernel) (pSheet 0 (s3.1) (s3.2.1) (s3.2.2)) [.ref 0, .int w, .int v] [] rfl 0 4 rfl rfl rfl rfl rfl rfl rfl rfl (some (.int (bI (hasF s3.2.1 w v)))) (pSheet 0 (s3.1) (s3.2.1) (s3.2.2)) ⟨s3.1, s3.2.1, w, v, s3.2.2, rfl, rfl, rfl, rfl⟩ rfl (pX c d k r tr kr rd ft tg tc lw kl ik ri s0 s1 s2 s3 tx) [.int (bI (hasF s3.2.1 w v))] rfl rfl ?_
                cases hK : (hasF s3.2.1 w v) with
                | false =>
                  refine V.nm [(7, .ref 98), (6, .ref 98), (0, .ref 0), (1, .int (nI 3)), (2, .int y), (3, .int (nI 3)), (4, .int w), (5, .int v)] [.int (bI false)] (pX c d k r tr kr rd ft tg tc lw kl ik ri s0 s1 s2 s3 tx) rfl rfl rfl ?_
                  rw [hqz] at hK
                  refine V.g2 60 [14, 23, 31, 51, 93] mX6_copy_ok rfl ?_
                  refine And.intro (fun e => absurd rfl e) (fun _ => ?_)
                  refine V.g2 60 [14, 23, 31, 51, 93] mX6_copy_ok rfl ?_
                  exact ⟨_, zsim_rfl _, cp_out hn40 hm40 (Or.inr hK) g4 (fun a b k z1 z2 z3 z4 z5 z6 z7 => (g5 a b k z1 z2 z3 z4 z5 z6).1 z7)⟩
                | true =>
                  refine V.nm [(7, .ref 98), (6, .ref 98), (0, .ref 0), (1, .int (nI 3)), (2, .int y), (3, .int (nI 3)), (4, .int w), (5, .int v)] [.int (bI true)] (pX c d k r tr kr rd ft tg tc lw kl ik ri s0 s1 s2 s3 tx) rfl rfl rfl ?_
                  rw [hqz] at hK
                  obtain ⟨a, k1, ha, hk1, rfl, rfl, hak⟩ := has_ex hn40 hH
                  obtain ⟨b, k2, hb, hk2, rfl, e5, hbk⟩ := has_ex hm40 hK
                  obtain rfl : k1 = k2 := (nI_eq hk1 hk2).mp e5
                  have hfin := (g5 a b k1 ha hb hk1 rfl rfl rfl).2 hak hbk
                  refine V.nm [(7, .ref 98), (6, .ref 98), (0, .ref 0), (1, .int (nI 3)), (2, .int (nI a)), (3, .int (nI 3)), (4, .int (nI b)), (5, .int (nI k1))] [.int (bI true)] (pX c d k r tr kr rd ft tg tc lw kl ik ri s0 s1 s2 s3 tx) rfl rfl rfl ?_
                  refine V.g2 60 [14, 23, 31, 51, 93] mX6_copy_ok rfl ?_
                  refine And.intro (fun _ => ?_) (fun e => absurd e (by decide))
                  have ca : (nI a).toNatClampNeg = a := nI_clamp ha
                  have cb : (nI b).toNatClampNeg = b := nI_clamp hb
                  have ck : (nI k1).toNatClampNeg = k1 := nI_clamp hk1
                  refine V.acopy mX6_copy_ok rfl lX6_348 rfl rfl 50 50 rfl rfl (Int32.not_lt.mpr (nI_le (Nat.zero_le a) (by omega))) (Int32.not_lt.mpr (nI_le (Nat.zero_le b) (by omega))) (Int32.not_lt.mpr (nI_le (Nat.zero_le k1) (by omega))) (by rw [ca, ck]; omega) (by rw [cb, ck]; omega) ?_
                  rw [ca, cb, ck, cp_eq]
                  refine V.nm [(7, .ref 98), (6, .ref 98), (0, .ref 0), (1, .int (nI 3)), (2, .int (nI a)), (3, .int (nI 3)), (4, .int (nI b)), (5, .int (nI k1))] [] (pX c d k r tr kr rd ft tg tc lw kl ik ri s0 s1 s2 ((s3.1), (s3.2.1), (cpS s3.2.2 s3.2.2 a b k1)) tx) rfl rfl rfl ?_
                  refine V.g2 60 [14, 23, 31, 51, 93] mX6_copy_ok rfl ?_
                  exact ⟨_, zsim_rfl _, hfin⟩
            · refine V.g2 60 [14, 23, 31, 51, 93] mX6_copy_ok rfl ?_
              exact ⟨_, zsim_rfl _, g1 (Or.inr e2)⟩
