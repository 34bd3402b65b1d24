/-! ===== the reference: lay, whole ===== -/
def lyS (c : zCart) (P : zP) : Nat → Nat × Nat × Int64 × fI
  | 0 => (0, 0, Int64.ofNat 0, fun _ => nI 0)
  | i + 1 => match lyS c P i with
    | (T, U, R, lo) => match hvF (loC c) T 8 with
      | none => (T, U, R, lo)
      | some h => match lyF (fun j => faF (cwO c (upd lo j (loC c h))) P) U 8 with
        | none => (T, U, R, lo)
        | some (p, _) => (T ||| 2 ^ h, U ||| 2 ^ p, (10 : Int64) * R + (nI p).toInt64 + Int64.ofNat 1, upd lo p (loC c h))
theorem lyS_s {c : zCart} {P : zP} {i T U h p : Nat} {R : Int64} {lo : fI} {v : Int32} (hs : (T, U, R, lo) = lyS c P i) (h1 : hvF (loC c) T 8 = some h) (h2 : lyF (fun j => faF (cwO c (upd lo j (loC c h))) P) U 8 = some (p, v)) : (T ||| 2 ^ h, U ||| 2 ^ p, (10 : Int64) * R + (nI p).toInt64 + Int64.ofNat 1, upd lo p (loC c h)) = lyS c P (i + 1) := by
  rw [lyS, ← hs]
  simp only [h1, h2]
def lyR (c : zCart) (P : zP) (j : Nat) : Int64 := if j = 0 then (lyS c P 8).2.2.1 else (faF (cwO c (lyS c P 8).2.2.2) P).toInt64
theorem kM_3 {f g : Nat → Int32} {a b : Nat → fI} {l : fI} (X : fI) (h : kM f (upa a 3 l) g b) : kM f (upa a 3 X) g (upa b 3 X) := by
  obtain ⟨h1, ⟨d1, d2, d3, d4, d5, d6, d7, d8, d9, d10, d11, d12, d13, d14, d15, d16⟩⟩ := h
  exact ⟨h1, ⟨d1, d2, d3, rfl, d5, d6, d7, d8, d9, d10, d11, d12, d13, d14, d15, d16⟩⟩
theorem kM_30 {f g : Nat → Int32} {a b : Nat → fI} {l : fI} (h : kM f (upa a 3 l) g b) : kM f a g (upa b 3 (a 3)) := by
  obtain ⟨h1, ⟨d1, d2, d3, d4, d5, d6, d7, d8, d9, d10, d11, d12, d13, d14, d15, d16⟩⟩ := h
  exact ⟨h1, ⟨d1, d2, d3, rfl, d5, d6, d7, d8, d9, d10, d11, d12, d13, d14, d15, d16⟩⟩
theorem kM_r3 {f g : Nat → Int32} {a b : Nat → fI} (h : kM f a g b) : b 3 = a 3 := h.2.2.2.2.1
theorem cwO_3 {fv : Nat → Int32} {ar : Nat → fI} {l : fI} (X : fI) : cwO (cM fv (upa ar 3 l)) X = cwO (cM fv ar) X := rfl
def T7_lay : zT := fun args hs Q => ∃ (fv : Nat → Int32) (ar : Nat → fI) (x : Int32) (P : zP), mOk fv ar P ∧ args = [.ref 0, .int x] ∧ hs = pM fv ar ∧ (wiB x 1 = false → Q (some (.long (-4611686018427387904))) hs) ∧ (∀ j, j < 2 → x = nI j → ∀ r : Int64, r = lyR (cM fv ar) P j → ∀ fv2 ar2, kM fv ar fv2 ar2 → Q (some (.long r)) (pM fv2 ar2))
set_option maxHeartbeats 500000 in
theorem c7_lay (l : Launch) : Ct l mX7_lay false 10 0 0 T7_lay := by
  refine Ct.intro mX7_lay_ok ?_
  rintro args hs Q ⟨fv, ar, x, P, hM, rfl, rfl, h0, h1⟩
  refine ⟨Nat.le_of_ble_eq_true rfl, ?_⟩
  refine V.g2 60 [13, 15, 56, 127, 154, 166] mX7_lay_ok rfl ?_
  refine V.cs mX7_lay_ok rfl lX7_117 (c7_in l) rfl rfl rfl rfl ⟨_, _, _, rfl, fun B hB => ⟨rfl, ?_⟩⟩
  rcases B with _ | _
  · refine V.g2 60 [13, 15, 56, 127, 154, 166] mX7_lay_ok rfl ?_
    refine And.intro (fun e => absurd rfl e) (fun _ => ?_)
    exact ⟨_, zsim_rfl _, h0 hB.symm⟩
  · obtain ⟨j, hj, rfl⟩ := wiB_t (n := 1) hB.symm (by omega)
    have h := h1 j (by omega) rfl
    clear h0 h1
    refine V.g2 60 [13, 15, 56, 127, 154, 166] mX7_lay_ok rfl ?_
    refine And.intro (fun _ => ?_) (fun e => absurd e (by decide))
    generalize hS : pM fv ar = S
    have loop2 : ∀ (m i : Nat) (x6 x3 x2 : Int32) (x4 : Int64) (T U : Nat) (lo : fI) (fv2 : Nat → Int32) (ar2 : Nat → fI), i + m = 8 → x6 = nI i → x2 = nI T → x3 = nI U → (T, U, x4, lo) = lyS (cM fv ar) P i → T < 256 → U < 256 → pc8 T = i → pc8 U = i → (∀ k, k < 8 → U / 2 ^ k % 2 = 0 → lo k = 0) → kM fv (upa ar 3 lo) fv2 ar2 → ar2 49 = ar 3 → V l mX7_lay false S (zrm 10 0 0) (zFm false S Q 0 0) 0 0 56 [(6, .int x6), (4, .long x4), (3, .int x3), (2, .int x2), (0, .ref 0), (1, .int (nI j))] [] (pM fv2 ar2) := by
      intro m
      induction m with
      | zero =>
        intro i x6 x3 x2 x4 T U lo fv2 ar2 hi h6 h2 h3 hS hT hU hpT hpU hz hk hkl
        have hM2 : mOk fv2 ar2 P := kM_m hk (show mOk fv (upa ar 3 lo) P from hM)
        have e3 : ar2 3 = lo := kM_r3 hk
        have ei : i = 8 := by omega
        rw [ei] at hS
        refine V.g2 60 [13, 15, 56, 127, 154, 166] mX7_lay_ok rfl ?_
        refine pk_le 8 i (fun e1 => ?_) (fun e1 => absurd e1 (by omega)) rfl h6
        refine V.cw mX7_lay_ok rfl lX7_272 (c7_farNow l) rfl 0 7 rfl rfl rfl rfl rfl rfl ⟨fv2, ar2, P, hM2, rfl, rfl, fun v hv q sk nm pl az cs => ⟨rfl, ?_⟩⟩
        refine V.g2 60 [13, 15, 56, 127, 154, 166] mX7_lay_ok rfl ?_
        have hv2 : v = faF (cwO (cM fv ar) lo) P := by rw [kM_c hk] at hv; exact hv
        have loop3 : ∀ (m u : Nat) (x7 : Int32) (la : fI), u + m = 8 → x7 = nI u → la = fdF (ar2 3) 0 (ar 3) u → V l mX7_lay false S (zrm 10 0 0) (zFm false S Q 0 0) 0 0 127 [(7, .int x7), (6, .int v), (4, .long x4), (3, .int x3), (2, .int x2), (0, .ref 0), (1, .int (nI j))] [] (pM (upf (upf (upf (upf fv2 41 q.2.2.2.1) 42 q.2.2.2.2.1) 43 q.2.2.2.2.2.1) 44 q.2.2.2.2.2.2) (upa (upa (upa (upa (upa (upa ar2 3 la) 36 sk) 37 nm) 38 pl) 39 az) 40 cs)) := by
          intro m
          induction m with
          | zero =>
            intro u x7 la hu h7 hla
            have eu : u = 8 := by omega
            rw [eu] at hla
            refine V.g2 60 [13, 15, 56, 127, 154, 166] mX7_lay_ok rfl ?_
            refine pk_le 8 u (fun e2 => ?_) (fun e2 => absurd e2 (by omega)) rfl h7
            refine V.nm [(7, .int x7), (6, .int v), (4, .long x4), (3, .int x3), (2, .int x2), (0, .ref 0), (1, .int (nI j))] [] (pM (upf (upf (upf (upf fv2 41 q.2.2.2.1) 42 q.2.2.2.2.1) 43 q.2.2.2.2.2.1) 44 q.2.2.2.2.2.2) (upa (upa (upa (upa (upa (upa ar2 36 sk) 37 nm) 38 pl) 39 az) 40 cs) 3 la)) rfl rfl rfl ?_
            refine V.sim (zsm3 (y := (ar 3)) (fun i hi => by rw [hla]; exact fdF_all i hi)) ?_
            refine V.g2 60 [13, 15, 56, 127, 154, 166] mX7_lay_ok rfl ?_
            refine zp_ne j 0 (fun e3j => ?_) (fun e3j => ?_) rfl rfl
            · refine V.g2 60 [13, 15, 56, 127, 154, 166] mX7_lay_ok rfl ?_
              refine ⟨_, zsim_rfl _, ?_⟩
              exact h _ (by rw [lyR, if_neg e3j, ← hS, hv2]) (upf (upf (upf (upf fv2 41 q.2.2.2.1) 42 q.2.2.2.2.1) 43 q.2.2.2.2.2.1) 44 q.2.2.2.2.2.2) (upa (upa (upa (upa (upa (upa ar2 3 (ar 3)) 36 sk) 37 nm) 38 pl) 39 az) 40 cs) (kM_tr (kM_30 hk) ⟨⟨rfl, rfl, rfl, rfl, rfl, rfl, rfl, rfl, rfl, rfl, rfl⟩, ⟨rfl, rfl, rfl, rfl, rfl, rfl, rfl, rfl, rfl, rfl, rfl, rfl, rfl, rfl, rfl, rfl⟩⟩)
            · refine V.g2 60 [13, 15, 56, 127, 154, 166] mX7_lay_ok rfl ?_
              refine ⟨_, zsim_rfl _, ?_⟩
              exact h _ (by rw [lyR, if_pos e3j, ← hS]) (upf (upf (upf (upf fv2 41 q.2.2.2.1) 42 q.2.2.2.2.1) 43 q.2.2.2.2.2.1) 44 q.2.2.2.2.2.2) (upa (upa (upa (upa (upa (upa ar2 3 (ar 3)) 36 sk) 37 nm) 38 pl) 39 az) 40 cs) (kM_tr (kM_30 hk) ⟨⟨rfl, rfl, rfl, rfl, rfl, rfl, rfl, rfl, rfl, rfl, rfl⟩, ⟨rfl, rfl, rfl, rfl, rfl, rfl, rfl, rfl, rfl, rfl, rfl, rfl, rfl, rfl, rfl, rfl⟩⟩)
          | succ m ih =>
            intro u x7 la hu h7 hla
            refine V.g2 60 [13, 15, 56, 127, 154, 166] mX7_lay_ok rfl ?_
            refine pk_le 8 u (fun e2 => absurd e2 (by omega)) (fun e2 => ?_) rfl h7
            refine ⟨u, by omega, h7, rfl, ?_⟩
            refine ⟨u, by omega, h7, rfl, ?_⟩
            refine V.kn [7, 6, 4, 3, 2, 0, 1] [(7, .int (x7 + zi 1)), (6, .int v), (4, .long x4), (3, .int x3), (2, .int x2), (0, .ref 0), (1, .int (nI j))] [] (pM (upf (upf (upf (upf fv2 41 q.2.2.2.1) 42 q.2.2.2.2.1) 43 q.2.2.2.2.2.1) 44 q.2.2.2.2.2.2) (upa (upa (upa (upa (upa (upa ar2 3 (upd la u ((ar2 49) u))) 36 sk) 37 nm) 38 pl) 39 az) 40 cs)) rfl rfl rfl ?_
            exact ih (u + 1) _ _ (by omega) (ninc h7) (by rw [hla, hkl]; exact fdF_s0)
        refine V.kn [7, 6, 4, 3, 2, 0, 1] [(7, .int (nI 0)), (6, .int v), (4, .long x4), (3, .int x3), (2, .int x2), (0, .ref 0), (1, .int (nI j))] [] (pM (upf (upf (upf (upf fv2 41 q.2.2.2.1) 42 q.2.2.2.2.1) 43 q.2.2.2.2.2.1) 44 q.2.2.2.2.2.2) (upa (upa (upa (upa (upa (upa ar2 3 (ar2 3)) 36 sk) 37 nm) 38 pl) 39 az) 40 cs)) rfl rfl rfl ?_
        exact loop3 8 0 _ (ar2 3) rfl rfl (fdF_0 _ _ _).symm
      | succ m ih =>
        intro i x6 x3 x2 x4 T U lo fv2 ar2 hi h6 h2 h3 hS hT hU hpT hpU hz hk hkl
        have hM2 : mOk fv2 ar2 P := kM_m hk (show mOk fv (upa ar 3 lo) P from hM)
        have e3 : ar2 3 = lo := kM_r3 hk
        refine V.g2 60 [13, 15, 56, 127, 154, 166] mX7_lay_ok rfl ?_
        refine pk_le 8 i (fun e1 => absurd e1 (by omega)) (fun e1 => ?_) rfl h6
        refine V.cw mX7_lay_ok rfl lX7_294 (c7_heaviest l) rfl 0 7 rfl rfl rfl rfl rfl rfl ⟨fv2, ar2, _, T, hT, h2, rfl, rfl, fun r hr => ⟨rfl, ?_⟩⟩
        obtain ⟨h, hh⟩ := hvF_ex (lo := ar 3) (pc8_f T hT (by omega))
        obtain ⟨hh8, hhf⟩ := hvF_lt hh
        have er : r = nI h := by rw [hr, hkl, hh]; rfl
        refine V.g2 60 [13, 15, 56, 127, 154, 166] mX7_lay_ok rfl ?_
        refine ⟨h, by omega, er, rfl, ?_⟩
        refine V.cw mX7_lay_ok rfl lX7_297 (c7_layOne l) rfl 0 7 rfl rfl rfl rfl rfl rfl ⟨fv2, ar2, _, _, U, P, hM2, hU, h3, pc8_f U hU (by omega), fun k hk8 hf => by rw [e3]; exact hz k hk8 hf, rfl, rfl, fun p v hp fv3 ar3 hk3 hkl3 => ⟨rfl, ?_⟩⟩
        rw [kM_c hk, e3, hkl] at hp
        simp only [cwO_3] at hp
        obtain ⟨hp8, hpf⟩ := lyF_lt hp
        rw [e3, hkl] at hk3
        obtain ⟨t1, t2⟩ := pc8_o T hT h (by omega) hhf
        obtain ⟨u1, u2⟩ := pc8_o U hU p (by omega) hpf
        refine V.g2 60 [13, 15, 56, 127, 154, 166] mX7_lay_ok rfl ?_
        refine V.kn [6, 4, 3, 2, 0, 1] [(6, .int (x6 + zi 1)), (4, .long ((((10 : Int64) * x4) + (nI p).toInt64) + (Int64.ofNat 1))), (3, .int (x3 ||| ((nI 1) <<< ((nI p) &&& 31)))), (2, .int (x2 ||| ((nI 1) <<< (r &&& 31)))), (0, .ref 0), (1, .int (nI j))] [] (pM fv3 ar3) rfl rfl rfl ?_
        exact ih (i + 1) _ _ _ _ (T ||| 2 ^ h) (U ||| 2 ^ p) (upd lo p (ar 3 h)) fv3 ar3 (by omega) (ninc h6) (by rw [h2, er]; exact bt_o T hT h (by omega)) (by rw [h3]; exact bt_o U hU p (by omega)) (lyS_s hS hh hp) t1 u1 (by omega) (by omega) (fun k hk8 hf => by
          obtain ⟨n1, n2⟩ := bt_n hU (by omega) hk8 hf
          rw [pk_un n2]
          exact hz k hk8 n1) (kM_tr (kM_3 (upd lo p (ar 3 h)) hk) hk3) (hkl3.trans hkl)
    have loop1 : ∀ (m i : Nat) (x2 : Int32) (la ka : fI), i + m = 8 → x2 = nI i → la = fdF (ar 3) 0 (fun _ => nI 0) i → ka = fdF (ar 49) 0 (ar 3) i → V l mX7_lay false S (zrm 10 0 0) (zFm false S Q 0 0) 0 0 15 [(2, .int x2), (0, .ref 0), (1, .int (nI j))] [] (pM fv (upa (upa ar 3 la) 49 ka)) := by
      intro m
      induction m with
      | zero =>
        intro i x2 la ka hi h2 hla hka
        have ei : i = 8 := by omega
        rw [ei] at hla hka
        refine V.g2 60 [13, 15, 56, 127, 154, 166] mX7_lay_ok rfl ?_
        refine pk_le 8 i (fun e1 => ?_) (fun e1 => absurd e1 (by omega)) rfl h2
        refine V.nm [(6, .int (nI 0)), (4, .long (Int64.ofNat 0)), (3, .int (nI 0)), (2, .int (nI 0)), (0, .ref 0), (1, .int (nI j))] [] (pM fv (upa (upa ar 49 ka) 3 la)) rfl rfl rfl ?_
        refine V.sim (zsm3 (y := (fun _ => nI 0)) (fun i hi => by rw [hla]; exact fdF_all (f := fun _ => nI 0) i hi)) ?_
        refine V.nm [(6, .int (nI 0)), (4, .long (Int64.ofNat 0)), (3, .int (nI 0)), (2, .int (nI 0)), (0, .ref 0), (1, .int (nI j))] [] (pM fv (upa (upa ar 3 (fun _ => nI 0)) 49 ka)) rfl rfl rfl ?_
        refine V.sim (zsm49 (y := (ar 3)) (fun i hi => by rw [hka]; exact fdF_all i hi)) ?_
        refine V.kn [6, 4, 3, 2, 0, 1] [(6, .int (nI 0)), (4, .long (Int64.ofNat 0)), (3, .int (nI 0)), (2, .int (nI 0)), (0, .ref 0), (1, .int (nI j))] [] (pM fv (upa (upa ar 3 (fun _ => nI 0)) 49 (ar 3))) rfl rfl rfl ?_
        exact loop2 8 0 _ _ _ _ 0 0 (fun _ => nI 0) fv (upa (upa ar 3 (fun _ => nI 0)) 49 (ar 3)) rfl rfl rfl rfl rfl (by omega) (by omega) rfl rfl (fun k hk8 hf => rfl) ⟨⟨rfl, rfl, rfl, rfl, rfl, rfl, rfl, rfl, rfl, rfl, rfl⟩, ⟨rfl, rfl, rfl, rfl, rfl, rfl, rfl, rfl, rfl, rfl, rfl, rfl, rfl, rfl, rfl, rfl⟩⟩ rfl
      | succ m ih =>
        intro i x2 la ka hi h2 hla hka
        refine V.g2 60 [13, 15, 56, 127, 154, 166] mX7_lay_ok rfl ?_
        refine pk_le 8 i (fun e1 => absurd e1 (by omega)) (fun e1 => ?_) rfl h2
        refine ⟨i, by omega, h2, rfl, ?_⟩
        refine ⟨i, by omega, h2, rfl, ?_⟩
        refine ⟨i, by omega, h2, rfl, ?_⟩
        refine V.kn [2, 0, 1] [(2, .int (x2 + zi 1)), (0, .ref 0), (1, .int (nI j))] [] (pM fv (upa (upa ar 3 (upd la i (nI 0))) 49 (upd ka i (la i)))) rfl rfl rfl ?_
        exact ih (i + 1) _ _ _ (by omega) (ninc h2) (by rw [hla]; exact fdF_s0 (f := fun _ => nI 0)) (by rw [show la i = ar 3 i by rw [hla]; exact fdF_out (by omega), hka]; exact fdF_s0)
    subst hS
    refine V.g2 60 [13, 15, 56, 127, 154, 166] mX7_lay_ok rfl ?_
    refine V.kn [2, 0, 1] [(2, .int (nI 0)), (0, .ref 0), (1, .int (nI j))] [] (pM fv (upa (upa ar 3 (ar 3)) 49 (ar 49))) rfl rfl rfl ?_
    exact loop1 8 0 _ (ar 3) (ar 49) rfl rfl (fdF_0 _ _ _).symm (fdF_0 _ _ _).symm
