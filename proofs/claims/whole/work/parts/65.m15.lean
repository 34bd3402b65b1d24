/-! ===== the reference: loads by a sheet, copy ===== -/
def liA (ce : fI) (f : Nat) : Nat → fI × Nat → fI × Nat
  | 0, s => s
  | m + 1, s => if wiB (ce (f + 2 * m)) 7 && wiB (ce (f + 2 * m + 1)) 40 then (upd (liA ce f m s).1 (cl (ce (f + 2 * m))) (ce (f + 2 * m + 1)), (liA ce f m s).2 + 1) else liA ce f m s
theorem liA_t {ce : fI} {f m : Nat} {s : fI × Nat} (h1 : wiB (ce (f + 2 * m)) 7 = true) (h2 : wiB (ce (f + 2 * m + 1)) 40 = true) : liA ce f (m + 1) s = (upd (liA ce f m s).1 (cl (ce (f + 2 * m))) (ce (f + 2 * m + 1)), (liA ce f m s).2 + 1) := by
  rw [liA, h1, h2]
  rfl
theorem liA_f {ce : fI} {f m : Nat} {s : fI × Nat} (h : wiB (ce (f + 2 * m)) 7 = false ∨ wiB (ce (f + 2 * m + 1)) 40 = false) : liA ce f (m + 1) s = liA ce f m s := by
  rw [liA]
  rcases h with h | h
  · rw [h]; rfl
  · rw [h, Bool.and_false]; rfl
theorem sz_le {a n : Nat} (ha : a < 2 ^ 31) (hn : n ≤ 40) : nI a ≤ nI n - nI 2 ↔ a + 2 ≤ n := by
  rcases Nat.lt_or_ge n 2 with h | h
  · constructor
    · intro e
      have e0 : ¬ nI a < 0 := nI_pos ha
      rcases (show n = 0 ∨ n = 1 by omega) with rfl | rfl
      · exact absurd (Int32.lt_of_le_of_lt e (by decide)) e0
      · exact absurd (Int32.lt_of_le_of_lt e (by decide)) e0
    · intro e; omega
  · rw [pk_sub h, nI_leI ha (by omega)]
    omega
def loN0 (lo : fI) : Prop := ∀ i, i < 8 → ¬ lo i < 0
theorem set_w {fv fv2 : Nat → Int32} {ar ar2 : Nat → fI} {o v : Int32} (g1 : ∀ k, k ≠ 5 → fv2 k = fv k) (g2 : ∀ k, k ≠ 3 → k ≠ 4 → k ≠ 6 → ar2 k = ar k) (g3 : cM fv2 ar2 = stS (cM fv ar) 0 o v) : pM fv2 ar2 = pM fv (upa ar 3 (upd (ar 3) (cl o) v)) := by
  have g4 : (ar2 0, ar2 1, ar2 2, ar2 3, ar2 4, ar2 6, fv2 5) = (ar 0, ar 1, ar 2, upd (ar 3) (cl o) v, ar 4, ar 6, fv 5) := g3
  simp only [Prod.mk.injEq] at g4
  obtain ⟨-, -, -, e3, e4, e6, e5⟩ := g4
  have ef : fv2 = fv := by
    funext k
    by_cases h : k = 5
    · rw [h]; exact e5
    · exact g1 k h
  have ea : ar2 = upa ar 3 (upd (ar 3) (cl o) v) := by
    funext k
    by_cases h : k = 3
    · rw [h]; exact e3
    · rw [show upa ar 3 (upd (ar 3) (cl o) v) k = ar k by unfold upa; cases hb : Nat.beq k 3 with | false => rfl | true => exact absurd (Nat.eq_of_beq_eq_true hb) h]
      by_cases h4 : k = 4
      · rw [h4]; exact e4
      · by_cases h6 : k = 6
        · rw [h6]; exact e6
        · exact g2 k h h4 h6
  rw [ef, ea]
theorem anB3f {a b c : Bool} (h : a = false ∨ b = false ∨ c = false) : (a && b && c) = false := by cases a <;> cases b <;> cases c <;> simp_all
def T7_loadsBy : zT := fun args hs Q => ∃ (fv : Nat → Int32) (ar : Nat → fI) (x y w z : Int32), shOk ar ∧ loN0 (ar 3) ∧ args = [.ref 0, .int x, .int y, .int w, .int z] ∧ hs = pM fv ar ∧ ((wiB x 3 && wiB y 2 && wiB z 20) = false → Q (some (.int (-2))) hs) ∧ (∀ s n N, s < 4 → x = nI s → n ≤ 40 → ar 24 s = nI n → N ≤ 20 → z = nI N → wiB y 2 = true → (ar 23 s = -1 → Q (some (.int (-11))) hs) ∧ (¬ ar 23 s = -1 → ¬ ar 23 s = y → Q (some (.int (-13))) hs) ∧ (¬ ar 23 s = -1 → ar 23 s = y → (N = 0 → Q (some (.int (nI 0))) hs) ∧ (0 < N → w < 0 → Q (some (.int (-12))) hs) ∧ (∀ f, f < 2 ^ 31 → w = nI f → (∀ i, i < N → (i = 0 ∨ f + 2 * i ≤ n) → ¬ f + 2 * i + 2 ≤ n → Q (some (.int (-12))) (pM fv (upa ar 3 (liA (ceF (ar 25) s) f i (ar 3, 0)).1))) ∧ (f + 2 * N ≤ n → Q (some (.int (nI (liA (ceF (ar 25) s) f N (ar 3, 0)).2))) (pM fv (upa ar 3 (liA (ceF (ar 25) s) f N (ar 3, 0)).1))))))
set_option maxHeartbeats 500000 in
theorem c7_loadsBy (l : Launch) : Ct l mX7_loadsBy false 5 0 0 T7_loadsBy := by
  refine Ct.intro mX7_loadsBy_ok ?_
  rintro args hs Q ⟨fv, ar, x, y, w, z, hsh, hlo, rfl, rfl, h0, h1⟩
  refine ⟨Nat.le_of_ble_eq_true rfl, ?_⟩
  have t29 : (wiB x 3 && wiB y 2 && wiB z 20) = false → V l mX7_loadsBy false (pM fv ar) (zrm 5 0 0) (zFm false (pM fv ar) Q 0 0) 0 0 29 [(0, .ref 0), (1, .int x), (2, .int y), (3, .int w), (4, .int z)] [] (pM fv ar) := by
    intro  hf
    refine V.g2 60 [29, 32, 64, 102, 105, 145] mX7_loadsBy_ok rfl ?_
    exact ⟨_, zsim_rfl _, h0 hf⟩
  refine V.g2 60 [29, 32, 64, 102, 105, 145] mX7_loadsBy_ok rfl ?_
  refine V.cs mX7_loadsBy_ok rfl lX7_117 (c7_in l) rfl rfl rfl rfl ⟨_, _, _, rfl, fun B hB => ⟨rfl, ?_⟩⟩
  rcases B with _ | _
  · refine V.g2 60 [29, 32, 64, 102, 105, 145] mX7_loadsBy_ok rfl ?_
    refine And.intro (fun _ => ?_) (fun e => absurd rfl e)
    refine V.kn [0, 1, 2, 3, 4] [(0, .ref 0), (1, .int x), (2, .int y), (3, .int w), (4, .int z)] [] (pM fv ar) rfl rfl rfl ?_
    exact t29 (anB3f (Or.inl hB.symm))
  · refine V.g2 60 [29, 32, 64, 102, 105, 145] mX7_loadsBy_ok rfl ?_
    refine And.intro (fun e => absurd e (by decide)) (fun _ => ?_)
    refine V.cs mX7_loadsBy_ok rfl lX7_117 (c7_in l) rfl rfl rfl rfl ⟨_, _, _, rfl, fun B2 hB2 => ⟨rfl, ?_⟩⟩
    rcases B2 with _ | _
    · refine V.g2 60 [29, 32, 64, 102, 105, 145] mX7_loadsBy_ok rfl ?_
      refine And.intro (fun _ => ?_) (fun e => absurd rfl e)
      refine V.kn [0, 1, 2, 3, 4] [(0, .ref 0), (1, .int x), (2, .int y), (3, .int w), (4, .int z)] [] (pM fv ar) rfl rfl rfl ?_
      exact t29 (anB3f (Or.inr (Or.inl hB2.symm)))
    · refine V.g2 60 [29, 32, 64, 102, 105, 145] mX7_loadsBy_ok rfl ?_
      refine And.intro (fun e => absurd e (by decide)) (fun _ => ?_)
      refine V.cs mX7_loadsBy_ok rfl lX7_117 (c7_in l) rfl rfl rfl rfl ⟨_, _, _, rfl, fun B3 hB3 => ⟨rfl, ?_⟩⟩
      rcases B3 with _ | _
      · refine V.g2 60 [29, 32, 64, 102, 105, 145] mX7_loadsBy_ok rfl ?_
        refine And.intro (fun e => absurd rfl e) (fun _ => ?_)
        refine V.kn [0, 1, 2, 3, 4] [(0, .ref 0), (1, .int x), (2, .int y), (3, .int w), (4, .int z)] [] (pM fv ar) rfl rfl rfl ?_
        exact t29 (anB3f (Or.inr (Or.inr hB3.symm)))
      · refine V.g2 60 [29, 32, 64, 102, 105, 145] mX7_loadsBy_ok rfl ?_
        refine And.intro (fun _ => ?_) (fun e => absurd e (by decide))
        clear t29 h0
        obtain ⟨s, hs, rfl⟩ := wiB_t (n := 3) hB.symm (by omega)
        obtain ⟨N, hN, rfl⟩ := wiB_t (n := 20) hB3.symm (by omega)
        obtain ⟨-, n, hn, hsz⟩ := hsh s hs
        obtain ⟨a1, a2, a3⟩ := h1 s n N hs rfl hn hsz (by omega) rfl hB2.symm
        clear h1
        refine V.g2 60 [29, 32, 64, 102, 105, 145] mX7_loadsBy_ok rfl ?_
        refine ⟨s, by omega, rfl, rfl, ?_⟩
        refine And.intro (fun (e1 : ¬ ((ar 23) s) = (-1 : Int32)) => ?_) (fun (e1 : ((ar 23) s) = (-1 : Int32)) => ?_)
        · refine ⟨s, by omega, rfl, rfl, ?_⟩
          refine And.intro (fun (e2 : ((ar 23) s) = y) => ?_) (fun (e2 : ¬ ((ar 23) s) = y) => ?_)
          · obtain ⟨b0, b1, b2⟩ := a3 e1 e2
            clear a1 a2 a3
            rcases Nat.eq_zero_or_pos N with eN | eN
            · subst eN
              refine V.g2 60 [29, 32, 64, 102, 105, 145] mX7_loadsBy_ok rfl ?_
              refine pk_le 0 0 (fun e0 => ?_) (fun e0 => absurd e0 (by omega)) rfl rfl
              exact ⟨_, zsim_rfl _, b0 rfl⟩
            · by_cases ew : w < 0
              · refine V.g2 60 [29, 32, 64, 102, 105, 145] mX7_loadsBy_ok rfl ?_
                refine pk_le N 0 (fun e3 => absurd e3 (by omega)) (fun e3 => ?_) rfl rfl
                refine And.intro (fun (e4 : w < (0 : Int32)) => ?_) (fun (e4 : ¬ w < (0 : Int32)) => absurd ew e4)
                refine V.g2 60 [29, 32, 64, 102, 105, 145] mX7_loadsBy_ok rfl ?_
                exact ⟨_, zsim_rfl _, b1 eN ew⟩
              · obtain ⟨f, hf, rfl⟩ := nI_of ew
                obtain ⟨d1, d2⟩ := b2 f hf rfl
                clear b0 b1 b2
                generalize hS : pM fv ar = S
                have loop : ∀ (m i c : Nat) (x6 x5 : Int32) (ro : fI), i + m = N → x6 = nI i → x5 = nI c → (ro, c) = liA (ceF (ar 25) s) f i (ar 3, 0) → (i = 0 ∨ f + 2 * i ≤ n) → loN0 ro → V l mX7_loadsBy false S (zrm 5 0 0) (zFm false S Q 0 0) 0 0 64 [(6, .int x6), (5, .int x5), (0, .ref 0), (1, .int (nI s)), (2, .int y), (3, .int (nI f)), (4, .int (nI N))] [] (pM fv (upa ar 3 ro)) := by
                  intro m
                  induction m with
                  | zero =>
                    intro i c x6 x5 ro hi h6 h5 hq hfi hro
                    have ei : i = N := by omega
                    rw [ei] at hq hfi
                    refine V.g2 60 [29, 32, 64, 102, 105, 145] mX7_loadsBy_ok rfl ?_
                    refine pk_le N i (fun e3 => ?_) (fun e3 => absurd e3 (by omega)) rfl h6
                    refine ⟨_, zsim_rfl _, ?_⟩
                    have h := d2 (by omega)
                    rw [← hq] at h
                    rw [h5]
                    exact h
                  | succ m ih =>
                    intro i c x6 x5 ro hi h6 h5 hq hfi hro
                    refine V.g2 60 [29, 32, 64, 102, 105, 145] mX7_loadsBy_ok rfl ?_
                    refine pk_le N i (fun e3 => absurd e3 (by omega)) (fun e3 => ?_) rfl h6
                    refine pk_lt f 0 (fun e4 => absurd e4 (by omega)) (fun e4 => ?_) rfl rfl
                    refine pk_lt (f + (2 * i)) f (fun e5 => absurd e5 (by omega)) (fun e5 => ?_) (nadd rfl (nmul rfl h6)) rfl
                    have eat : nI f + nI 2 * x6 = nI (f + 2 * i) := nadd rfl (nmul rfl h6)
                    refine ⟨s, by omega, rfl, rfl, ?_⟩
                    refine And.intro (fun (e6 : ((nI f) + ((nI 2) * x6)) ≤ (((ar 24) s) - (nI 2))) => ?_) (fun (e6 : ¬ ((nI f) + ((nI 2) * x6)) ≤ (((ar 24) s) - (nI 2))) => ?_)
                    · have hin : f + 2 * i + 2 ≤ n := by rw [eat, hsz] at e6; exact (sz_le (by omega) hn).mp e6
                      have hVe : ceF (ar 25) s (f + 2 * i + 1) = ar 25 (40 * s + (f + 2 * i) + 1) := by unfold ceF; rw [show 40 * s + (f + 2 * i + 1) = 40 * s + (f + 2 * i) + 1 by omega]
                      refine V.g2 60 [29, 32, 64, 102, 105, 145] mX7_loadsBy_ok rfl ?_
                      refine ⟨((40 * s) + (f + (2 * i))), by omega, (nadd (nmul rfl rfl) (nadd rfl (nmul rfl h6))), rfl, ?_⟩
                      refine ⟨(((40 * s) + (f + (2 * i))) + 1), by omega, (nadd (nadd (nmul rfl rfl) (nadd rfl (nmul rfl h6))) rfl), rfl, ?_⟩
                      refine V.cw mX7_loadsBy_ok rfl lX7_381 (c7_set l) rfl 0 7 rfl rfl rfl rfl rfl rfl ⟨fv, (upa ar 3 ro), (nI 0), (ar 25 (40 * s + (f + 2 * i))), (ar 25 (40 * s + (f + 2 * i) + 1)), fun j hj hx hb => ?_, rfl, rfl, fun hl => ⟨rfl, ?_⟩, fun j hj hx hl => ⟨fun hv => ⟨rfl, ?_⟩, fun hv fv2 ar2 g1 g2 g3 => ⟨rfl, ?_⟩⟩⟩
                      · obtain rfl : j = 0 := by have := (nI_eq (by omega) (by omega)).mp hx; omega
                        have hb2 : wiB (ar 25 (40 * s + (f + 2 * i))) 7 = true := hb
                        obtain ⟨u, hu, eu⟩ := wiB_t hb2 (by omega)
                        show ¬ (if nI 0 = nI 0 then (bif wiB (ar 25 (40 * s + (f + 2 * i))) 7 then ro (cl (ar 25 (40 * s + (f + 2 * i)))) else -6) else _) < 0
                        rw [if_pos rfl, hb2, eu, nI_cl (by omega)]
                        exact hro u (by omega)
                      · have h7 : wiB (ar 25 (40 * s + (f + 2 * i))) 7 = false := by
                          cases hb7 : wiB (ar 25 (40 * s + (f + 2 * i))) 7 with
                          | false => rfl
                          | true =>
                            obtain ⟨u, hu, eu⟩ := wiB_t hb7 (by omega)
                            have hl2 : (if nI 0 = nI 0 then (bif wiB (ar 25 (40 * s + (f + 2 * i))) 7 then ro (cl (ar 25 (40 * s + (f + 2 * i)))) else -6) else _) < 0 := hl
                            rw [if_pos rfl, hb7, eu, nI_cl (by omega)] at hl2
                            exact absurd hl2 (hro u (by omega))
                        have hq2 : (ro, c) = liA (ceF (ar 25) s) f (i + 1) (ar 3, 0) := by rw [liA_f (ce := ceF (ar 25) s) (f := f) (m := i) (s := (ar 3, 0)) (Or.inl h7)]; exact hq
                        refine V.g2 60 [29, 32, 64, 102, 105, 145] mX7_loadsBy_ok rfl ?_
                        refine And.intro (fun (e7 : (lkF (cM fv (upa ar 3 ro)) (nI 0) (ar 25 (40 * s + (f + 2 * i)))) < (0 : Int32)) => ?_) (fun (e7 : ¬ (lkF (cM fv (upa ar 3 ro)) (nI 0) (ar 25 (40 * s + (f + 2 * i)))) < (0 : Int32)) => absurd hl e7)
                        refine V.g2 60 [29, 32, 64, 102, 105, 145] mX7_loadsBy_ok rfl ?_
                        refine V.kn [6, 5, 0, 1, 2, 3, 4] [(6, .int (x6 + zi 1)), (5, .int (x5 + (nI 0))), (0, .ref 0), (1, .int (nI s)), (2, .int y), (3, .int (nI f)), (4, .int (nI N))] [] (pM fv (upa ar 3 ro)) rfl rfl rfl ?_
                        exact ih (i + 1) c _ _ ro (by omega) (ninc h6) (by rw [h5]; exact nadd rfl rfl) hq2 (Or.inr (by omega)) hro
                      · obtain rfl : j = 0 := by have := (nI_eq (by omega) (by omega)).mp hx; omega
                        have hv2 : wiB (ar 25 (40 * s + (f + 2 * i) + 1)) 40 = false := hv
                        have hq2 : (ro, c) = liA (ceF (ar 25) s) f (i + 1) (ar 3, 0) := by rw [liA_f (ce := ceF (ar 25) s) (f := f) (m := i) (s := (ar 3, 0)) (Or.inr (by rw [hVe]; exact hv2))]; exact hq
                        refine V.g2 60 [29, 32, 64, 102, 105, 145] mX7_loadsBy_ok rfl ?_
                        refine And.intro (fun (e0 : (-7 : Int32) < (0 : Int32)) => ?_) (fun (e0 : ¬ (-7 : Int32) < (0 : Int32)) => absurd (show (-7 : Int32) < 0 by decide) e0)
                        refine V.g2 60 [29, 32, 64, 102, 105, 145] mX7_loadsBy_ok rfl ?_
                        refine V.kn [6, 5, 0, 1, 2, 3, 4] [(6, .int (x6 + zi 1)), (5, .int (x5 + (nI 0))), (0, .ref 0), (1, .int (nI s)), (2, .int y), (3, .int (nI f)), (4, .int (nI N))] [] (pM fv (upa ar 3 ro)) rfl rfl rfl ?_
                        exact ih (i + 1) c _ _ ro (by omega) (ninc h6) (by rw [h5]; exact nadd rfl rfl) hq2 (Or.inr (by omega)) hro
                      · obtain rfl : j = 0 := by have := (nI_eq (by omega) (by omega)).mp hx; omega
                        have hv2 : wiB (ar 25 (40 * s + (f + 2 * i) + 1)) 40 = true := hv
                        have h7 : wiB (ar 25 (40 * s + (f + 2 * i))) 7 = true := by
                          cases hb7 : wiB (ar 25 (40 * s + (f + 2 * i))) 7 with
                          | true => rfl
                          | false =>
                            exfalso
                            refine hl ?_
                            show (if nI 0 = nI 0 then (bif wiB (ar 25 (40 * s + (f + 2 * i))) 7 then ro (cl (ar 25 (40 * s + (f + 2 * i)))) else -6) else _) < 0
                            rw [if_pos rfl, hb7]
                            exact (by decide : (-6 : Int32) < 0)
                        have hw := set_w g1 g2 g3
                        have hq2 : (upd ro (cl (ar 25 (40 * s + (f + 2 * i)))) (ar 25 (40 * s + (f + 2 * i) + 1)), c + 1) = liA (ceF (ar 25) s) f (i + 1) (ar 3, 0) := by rw [liA_t (ce := ceF (ar 25) s) (f := f) (m := i) (s := (ar 3, 0)) h7 (by rw [hVe]; exact hv2), ← hq, hVe]; rfl
                        have hro2 : loN0 (upd ro (cl (ar 25 (40 * s + (f + 2 * i)))) (ar 25 (40 * s + (f + 2 * i) + 1))) := by
                          intro u hu
                          obtain ⟨v9, hv9, ev9⟩ := wiB_t hv2 (by omega)
                          by_cases e : u = cl (ar 25 (40 * s + (f + 2 * i)))
                          · rw [e, pk_us, ev9]; exact nI_pos (by omega)
                          · rw [pk_un e]; exact hro u hu
                        rw [hw]
                        refine V.g2 60 [29, 32, 64, 102, 105, 145] mX7_loadsBy_ok rfl ?_
                        refine And.intro (fun (e7 : (lkF (cM fv (upa ar 3 ro)) (nI 0) (ar 25 (40 * s + (f + 2 * i)))) < (0 : Int32)) => absurd e7 hl) (fun (e7 : ¬ (lkF (cM fv (upa ar 3 ro)) (nI 0) (ar 25 (40 * s + (f + 2 * i)))) < (0 : Int32)) => ?_)
                        refine V.g2 60 [29, 32, 64, 102, 105, 145] mX7_loadsBy_ok rfl ?_
                        refine V.kn [6, 5, 0, 1, 2, 3, 4] [(6, .int (x6 + zi 1)), (5, .int (x5 + (nI 1))), (0, .ref 0), (1, .int (nI s)), (2, .int y), (3, .int (nI f)), (4, .int (nI N))] [] (pM fv (upa ar 3 (upd ro (cl (ar 25 (40 * s + (f + 2 * i)))) (ar 25 (40 * s + (f + 2 * i) + 1))))) rfl rfl rfl ?_
                        exact ih (i + 1) (c + 1) _ _ (upd ro (cl (ar 25 (40 * s + (f + 2 * i)))) (ar 25 (40 * s + (f + 2 * i) + 1))) (by omega) (ninc h6) (by rw [h5]; exact nadd rfl rfl) hq2 (Or.inr (by omega)) hro2
                    · refine V.g2 60 [29, 32, 64, 102, 105, 145] mX7_loadsBy_ok rfl ?_
                      refine ⟨_, zsim_rfl _, ?_⟩
                      have h := d1 i (by omega) hfi (fun z => e6 (by rw [eat, hsz]; exact (sz_le (by omega) hn).mpr z))
                      rw [← hq] at h
                      exact h
                subst hS
                refine V.kn [6, 5, 0, 1, 2, 3, 4] [(6, .int (nI 0)), (5, .int (nI 0)), (0, .ref 0), (1, .int (nI s)), (2, .int y), (3, .int (nI f)), (4, .int (nI N))] [] (pM fv ar) rfl rfl rfl ?_
                exact loop N 0 0 _ _ (ar 3) (by omega) rfl rfl rfl (Or.inl rfl) hlo
          · exact ⟨_, zsim_rfl _, a2 e1 e2⟩
        · exact ⟨_, zsim_rfl _, a1 e1⟩
