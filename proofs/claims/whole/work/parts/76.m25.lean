/-! ===== the reference: text ===== -/
def txV (wo tp : fI) (n k a : Nat) (ou : List Nat) : zRR := if (nxF wo tp n a).2.2.1 = nI 3 ∧ (nxF wo tp n a).2.2.2 = nI k then rdF wo tp n (n - (nxF wo tp n a).1 + 1) (nxF wo tp n a).1 true true ([], ou) else .inl (nxF wo tp n a).2.1
abbrev zRT : Type := Nat ⊕ (List Nat × List Nat × List Nat)
def tx3 (wo tp : fI) (n a : Nat) (o1 o2 o3 : List Nat) : zRT := if (nxF wo tp n a).2.2.1 = nI 0 then .inr (o1, o2, o3) else .inl (nxF wo tp n a).2.1
def tx2 (wo tp : fI) (n a : Nat) (o1 o2 : List Nat) : zRT := match txV wo tp n 2 a o2 with
  | .inl b => .inl b
  | .inr q => tx3 wo tp n q.1 o1 o2 q.2
def tx1 (wo tp : fI) (n a : Nat) (o1 : List Nat) : zRT := match txV wo tp n 1 a o1 with
  | .inl b => .inl b
  | .inr q => tx2 wo tp n q.1 o1 q.2
def tx0 (wo tp : fI) (n a : Nat) (o0 : List Nat) : zRT := match txV wo tp n 0 a o0 with
  | .inl b => .inl b
  | .inr q => tx1 wo tp n q.1 q.2
def txF (wo tp : fI) (n : Nat) : zRT := tx0 wo tp n 0 []
/-- what a reading leaves alone -/
def tK (li : Nat) (f : Nat → Int32) (a : Nat → fI) (g : Nat → Int32) (b : Nat → fI) : Prop := (∀ k, k ≠ 14 → k ≠ 17 → k ≠ 27 → k ≠ 28 → k ≠ 29 → k ≠ 30 → k ≠ 33 → k ≠ 34 → k ≠ 35 → g k = f k) ∧ (∀ k, k ≠ 15 → k ≠ 16 → k ≠ 32 → b k = a k) ∧ (∀ i, (i < 200 * li ∨ 200 * li + 200 ≤ i) → b 15 i = a 15 i) ∧ ∀ i, (i < 4 * li ∨ 4 * li + 4 ≤ i) → b 16 i = a 16 i
theorem tK_rfl (li : Nat) (f : Nat → Int32) (a : Nat → fI) : tK li f a f a := ⟨fun _ _ _ _ _ _ _ _ _ _ => rfl, fun _ _ _ _ => rfl, fun _ _ => rfl, fun _ _ => rfl⟩
theorem tK_tr {li : Nat} {f g h : Nat → Int32} {a b c : Nat → fI} (h1 : tK li f a g b) (h2 : tK li g b h c) : tK li f a h c := ⟨fun k e1 e2 e3 e4 e5 e6 e7 e8 e9 => (h2.1 k e1 e2 e3 e4 e5 e6 e7 e8 e9).trans (h1.1 k e1 e2 e3 e4 e5 e6 e7 e8 e9), fun k e1 e2 e3 => (h2.2.1 k e1 e2 e3).trans (h1.2.1 k e1 e2 e3), fun i hi => (h2.2.2.1 i hi).trans (h1.2.2.1 i hi), fun i hi => (h2.2.2.2 i hi).trans (h1.2.2.2 i hi)⟩
theorem kR.K {li : Nat} {f g : Nat → Int32} {a b : Nat → fI} (h : kR li f a g b) : tK li f a g b := ⟨fun k _ _ e1 e2 e3 e4 e5 e6 e7 => h.1 k e1 e2 e3 e4 e5 e6 e7, fun k e1 _ e3 => h.2.1 k e1 e3, h.2.2, fun i _ => by rw [h.2.1 16 (by decide) (by decide)]⟩
theorem tK_16 {li k : Nat} (f : Nat → Int32) (a : Nat → fI) (x : Int32) (hk : k < 4) : tK li f a f (upa a 16 (upd (a 16) (4 * li + k) x)) := ⟨fun _ _ _ _ _ _ _ _ _ _ => rfl, fun _ _ e _ => upa_n e, fun _ _ => rfl, fun i hi => pk_un (by omega)⟩
theorem tK_14 (li : Nat) (f : Nat → Int32) (a : Nat → fI) (x y : Int32) : tK li f a (upf (upf f 14 x) 17 y) a := ⟨fun k e1 e2 _ _ _ _ _ _ _ => by rw [upf_n e2, upf_n e1], fun _ _ _ _ => rfl, fun _ _ => rfl, fun _ _ => rfl⟩
theorem tK_e (li : Nat) (f : Nat → Int32) (a : Nat → fI) (x : Int32) : tK li f a (upf f 14 x) a := ⟨fun k e1 _ _ _ _ _ _ _ _ => upf_n e1, fun _ _ _ _ => rfl, fun _ _ => rfl, fun _ _ => rfl⟩
theorem tK_b (li : Nat) (f : Nat → Int32) (a : Nat → fI) (x y : Int32) : tK li f a (upf (upf f 27 x) 35 y) a := ⟨fun k _ _ e1 _ _ _ _ _ e2 => by rw [upf_n e2, upf_n e1], fun _ _ _ _ => rfl, fun _ _ => rfl, fun _ _ => rfl⟩
def T7_text : zT := fun args hs Q => ∃ (fv : Nat → Int32) (ar : Nat → fI) (li n : Nat), fv 17 = nI li ∧ li ≤ 6 ∧ fv 14 = nI n ∧ n ≤ 160 ∧ args = [.ref 0] ∧ hs = pM fv ar ∧ (li = 6 → Q (some (.int (-4))) hs) ∧ (∀ b, li < 6 → txF (ar 31) (ar 13) n = .inl b → ∀ fv2 ar2, tK li fv ar fv2 ar2 → fv2 17 = nI li → fv2 14 = nI 0 → Q (some (.int (-100 - nI b))) (pM fv2 ar2)) ∧ (∀ o1 o2 o3, li < 6 → txF (ar 31) (ar 13) n = .inr (o1, o2, o3) → ∀ fv2 ar2, tK li fv ar fv2 ar2 → fv2 17 = nI (li + 1) → fv2 14 = nI 0 → ar2 16 (4 * li + 0) = nI 0 → ar2 16 (4 * li + 1) = nI o1.length → ar2 16 (4 * li + 2) = nI o2.length → ar2 16 (4 * li + 3) = nI o3.length → stk (ar2 15) (200 * li) o3 → o3.length ≤ 160 → Q (some (.int (nI li))) (pM fv2 ar2))
set_option maxHeartbeats 500000 in
theorem c7_text (l : Launch) : Ct l mX7_text false 6 0 0 T7_text := by
  refine Ct.intro mX7_text_ok ?_
  rintro args hs Q ⟨fv, ar, li, n, h17, hli6, h14, hn, rfl, rfl, hA, hB, hC⟩
  refine ⟨Nat.le_of_ble_eq_true rfl, ?_⟩
  refine V.g2 60 [26, 59, 60, 93, 94, 101, 120, 121, 122, 156] mX7_text_ok rfl ?_
  refine zp_ne li 6 (fun e0 => ?_) (fun e0 => ?_) h17 rfl
  · have hli : li < 6 := by omega
    obtain ⟨R, hR0⟩ : ∃ R, txF (ar 31) (ar 13) n = R := ⟨_, rfl⟩
    have hB := fun b => hB b hli
    have hC := fun o1 o2 o3 => hC o1 o2 o3 hli
    rw [hR0] at hB hC
    clear hA
    refine V.nm [(2, .int (nI 0)), (1, .int (nI 1)), (0, .ref 0)] [] (pM (upf (upf fv 27 (nI 0)) 35 (nI 0)) ar) rfl rfl rfl ?_
    generalize hS : pM fv ar = S
    have t101 : ∀ (b : Nat) (fv2 : Nat → Int32) (ar2 : Nat → fI), R = .inl b → tK li fv ar fv2 ar2 → fv2 17 = nI li → fv2 28 = nI b → V l mX7_text false S (zrm 6 0 0) (zFm false S Q 0 0) 0 0 101 [(1, .int (nI 0)), (0, .ref 0)] [] (pM fv2 ar2) := by
      intro b fv2 ar2 hR hk f17 f28
      refine V.g2 60 [26, 59, 60, 93, 94, 101, 120, 121, 122, 156] mX7_text_ok rfl ?_
      refine pk_eq 0 0 (fun e0 => ?_) (fun e0 => absurd e0 (by omega)) rfl rfl
      refine V.g2 60 [26, 59, 60, 93, 94, 101, 120, 121, 122, 156] mX7_text_ok rfl ?_
      refine ⟨((4 * li) + 3), by omega, (nadd (nmul rfl f17) rfl), rfl, ?_⟩
      refine zp_ne 0 0 (fun e0 => absurd e0 (by omega)) (fun e0 => ?_) rfl rfl
      refine ⟨_, zsim_rfl _, ?_⟩
      subst hS
      have h := hB b hR (upf fv2 14 (nI 0)) (upa ar2 16 (upd (ar2 16) ((4 * li) + 3) (fv2 35))) (tK_tr hk (tK_tr (tK_16 fv2 ar2 (fv2 35) (show 3 < 4 by omega)) (tK_e li fv2 _ (nI 0)))) f17 rfl
      rw [← f28] at h
      exact h
    obtain ⟨o0, ho0⟩ : ∃ o0 : List Nat, o0 = [] := ⟨_, rfl⟩
    obtain ⟨a0, ha0e⟩ : ∃ a0 : Nat, a0 = 0 := ⟨_, rfl⟩
    obtain ⟨fv0z, hf0z⟩ : ∃ x, x = upf (upf fv 27 (nI 0)) 35 (nI 0) := ⟨_, rfl⟩
    have ha0 : a0 ≤ n := by omega
    have f140 : fv0z 14 = nI n := by rw [hf0z]; exact h14
    have f270 : fv0z 27 = nI a0 := by rw [hf0z, ha0e]; rfl
    have f170 : fv0z 17 = nI li := by rw [hf0z]; exact h17
    have f350 : fv0z 35 = nI o0.length := by rw [hf0z, ho0]; rfl
    have s150 : stk (ar 15) (200 * li) o0 := by rw [ho0]; exact trivial
    have hl0 : o0.length ≤ a0 := by rw [ho0, ha0e]; exact Nat.le_refl _
    have w310 : ar 31 = ar 31 := rfl
    have w130 : ar 13 = ar 13 := rfl
    have hk0 : tK li fv ar fv0z ar := by rw [hf0z]; exact tK_b li fv ar _ _
    have hR0z : R = tx0 (ar 31) (ar 13) n a0 o0 := by rw [← hR0, ho0, ha0e]; rfl
    clear hR0
    have hR0 := hR0z
    refine V.nm [(2, .int (nI 0)), (1, .int (nI 1)), (0, .ref 0)] [] (pM fv0z ar) rfl rfl (by rw [hf0z]) ?_
    refine V.g2 60 [26, 59, 60, 93, 94, 101, 120, 121, 122, 156] mX7_text_ok rfl ?_
    refine pk_le 3 0 (fun e0 => absurd e0 (by omega)) (fun e0 => ?_) rfl rfl
    refine pk_eq 1 0 (fun e0 => absurd e0 (by omega)) (fun e0 => ?_) rfl rfl
    obtain ⟨t0z, ht0z⟩ : ∃ t0z, t0z = nxF (ar 31) (ar 13) n a0 := ⟨_, rfl⟩
    obtain ⟨j1, jb, jz, jn, jm⟩ := nx_ok ht0z ha0
    refine V.cw mX7_text_ok rfl lX7_176 (c7_next l) rfl 0 7 rfl rfl rfl rfl rfl rfl ⟨fv0z, ar, n, a0, f140, f270, ha0, hn, rfl, rfl, fun u hu => ⟨rfl, ?_⟩⟩
    have eu : u = t0z := by rw [hu, ht0z, w310, w130]
    clear hu
    subst eu
    have hR0b : R = tx0 (ar 31) (ar 13) n a0 o0 := hR0
    rw [tx0, txV, ← ht0z] at hR0b
    have t60_0 : ¬ (u.2.2.1 = nI 3 ∧ u.2.2.2 = nI 0) → V l mX7_text false S (zrm 6 0 0) (zFm false S Q 0 0) 0 0 60 [(2, .int (nI 0)), (1, .int (nI 1)), (0, .ref 0)] [.int (nI 0)] (pM (upf (upf (upf (upf fv0z 27 (nI u.1)) 28 (nI u.2.1)) 29 u.2.2.1) 30 u.2.2.2) ar) := by
      intro  hno
      rw [if_neg hno] at hR0b
      refine V.g2 60 [26, 59, 60, 93, 94, 101, 120, 121, 122, 156] mX7_text_ok rfl ?_
      refine ⟨((4 * li) + 0), by omega, (nadd (nmul rfl f170) rfl), rfl, ?_⟩
      refine pk_eq 0 0 (fun e0 => ?_) (fun e0 => absurd e0 (by omega)) rfl rfl
      refine V.g2 60 [26, 59, 60, 93, 94, 101, 120, 121, 122, 156] mX7_text_ok rfl ?_
      refine V.g2 60 [26, 59, 60, 93, 94, 101, 120, 121, 122, 156] mX7_text_ok rfl ?_
      refine V.nm [(2, .int (nI 1)), (1, .int (nI 0)), (0, .ref 0)] [] (pM (upf (upf (upf (upf fv0z 27 (nI u.1)) 28 (nI u.2.1)) 29 u.2.2.1) 30 u.2.2.2) (upa ar 16 (upd (ar 16) ((4 * li) + 0) (fv0z 35)))) rfl rfl rfl ?_
      refine V.g2 60 [26, 59, 60, 93, 94, 101, 120, 121, 122, 156] mX7_text_ok rfl ?_
      refine pk_le 3 1 (fun e0 => absurd e0 (by omega)) (fun e0 => ?_) rfl rfl
      refine pk_eq 0 0 (fun e0 => ?_) (fun e0 => absurd e0 (by omega)) rfl rfl
      refine V.kn [1, 0] [(1, .int (nI 0)), (0, .ref 0)] [] (pM (upf (upf (upf (upf fv0z 27 (nI u.1)) 28 (nI u.2.1)) 29 u.2.2.1) 30 u.2.2.2) (upa ar 16 (upd (ar 16) ((4 * li) + 0) (fv0z 35)))) rfl rfl rfl ?_
      exact t101 u.2.1 (upf (upf (upf (upf fv0z 27 (nI u.1)) 28 (nI u.2.1)) 29 u.2.2.1) 30 u.2.2.2) (upa ar 16 (upd (ar 16) ((4 * li) + 0) (fv0z 35))) hR0b (tK_tr (tK_tr hk0 (kR_lx li fv0z ar u).K) (tK_16 (lx4 fv0z u) ar (fv0z 35) (show 0 < 4 by omega))) f170 rfl
    refine V.g2 60 [26, 59, 60, 93, 94, 101, 120, 121, 122, 156] mX7_text_ok rfl ?_
    refine And.intro (fun (e3 : ¬ u.2.2.1 = (nI 3)) => ?_) (fun (e3 : u.2.2.1 = (nI 3)) => ?_)
    · refine V.g2 60 [26, 59, 60, 93, 94, 101, 120, 121, 122, 156] mX7_text_ok rfl ?_
      refine V.nm [(2, .int (nI 0)), (1, .int (nI 1)), (0, .ref 0)] [.int (nI 0)] (pM (upf (upf (upf (upf fv0z 27 (nI u.1)) 28 (nI u.2.1)) 29 u.2.2.1) 30 u.2.2.2) ar) rfl rfl rfl ?_
      exact t60_0 (fun z => e3 z.1)
    · refine And.intro (fun (e4 : ¬ u.2.2.2 = (nI 0)) => ?_) (fun (e4 : u.2.2.2 = (nI 0)) => ?_)
      · refine V.g2 60 [26, 59, 60, 93, 94, 101, 120, 121, 122, 156] mX7_text_ok rfl ?_
        refine V.nm [(2, .int (nI 0)), (1, .int (nI 1)), (0, .ref 0)] [.int (nI 0)] (pM (upf (upf (upf (upf fv0z 27 (nI u.1)) 28 (nI u.2.1)) 29 u.2.2.1) 30 u.2.2.2) ar) rfl rfl rfl ?_
        exact t60_0 (fun z => e4 z.2)
      · rw [if_pos ⟨e3, e4⟩] at hR0b
        have hadv := jz (by rw [e3]; decide)
        refine V.g2 60 [26, 59, 60, 93, 94, 101, 120, 121, 122, 156] mX7_text_ok rfl ?_
        refine ⟨((4 * li) + 0), by omega, (nadd (nmul rfl f170) rfl), rfl, ?_⟩
        refine pk_eq 1 0 (fun e0 => absurd e0 (by omega)) (fun e0 => ?_) rfl rfl
        obtain ⟨RR, hRR⟩ : ∃ RR, rdF (ar 31) (ar 13) n (n - u.1 + 1) u.1 true true ([], o0) = RR := ⟨_, rfl⟩
        rw [hRR] at hR0b
        cases RR with
        | inl b =>
          refine V.cw mX7_text_ok rfl lX7_189 (c7_eRead l) rfl 0 7 rfl rfl rfl rfl rfl rfl ⟨(upf (upf (upf (upf fv0z 27 (nI u.1)) 28 (nI u.2.1)) 29 u.2.2.1) 30 u.2.2.2), (upa ar 16 (upd (ar 16) ((4 * li) + 0) (fv0z 35))), n, u.1, li, o0, f140, rfl, j1, hn, hli, f170, f350, s150, by omega, rfl, rfl, ⟨fun b2 z fv3 ar3 hkE h28 => ⟨rfl, ?_⟩, fun q2 z => ?_⟩⟩
          · have z2 := z
            rw [show (upa ar 16 (upd (ar 16) ((4 * li) + 0) (fv0z 35))) 31 = ar 31 from w310, show (upa ar 16 (upd (ar 16) ((4 * li) + 0) (fv0z 35))) 13 = ar 13 from w130, hRR] at z2
            cases z2
            refine V.g2 60 [26, 59, 60, 93, 94, 101, 120, 121, 122, 156] mX7_text_ok rfl ?_
            refine pk_eq 0 0 (fun e0 => ?_) (fun e0 => absurd e0 (by omega)) rfl rfl
            refine V.g2 60 [26, 59, 60, 93, 94, 101, 120, 121, 122, 156] mX7_text_ok rfl ?_
            refine V.g2 60 [26, 59, 60, 93, 94, 101, 120, 121, 122, 156] mX7_text_ok rfl ?_
            refine V.nm [(2, .int (nI 1)), (1, .int (nI 0)), (0, .ref 0)] [] (pM fv3 ar3) rfl rfl rfl ?_
            refine V.g2 60 [26, 59, 60, 93, 94, 101, 120, 121, 122, 156] mX7_text_ok rfl ?_
            refine pk_le 3 1 (fun e0 => absurd e0 (by omega)) (fun e0 => ?_) rfl rfl
            refine pk_eq 0 0 (fun e0 => ?_) (fun e0 => absurd e0 (by omega)) rfl rfl
            refine V.kn [1, 0] [(1, .int (nI 0)), (0, .ref 0)] [] (pM fv3 ar3) rfl rfl rfl ?_
            exact t101 b fv3 ar3 hR0b (tK_tr (tK_tr (tK_tr hk0 (kR_lx li fv0z ar u).K) (tK_16 (lx4 fv0z u) ar (fv0z 35) (show 0 < 4 by omega))) hkE.K) ((hkE.1 17 (by decide) (by decide) (by decide) (by decide) (by decide) (by decide) (by decide)).trans f170) h28
          · have z2 := z
            rw [show (upa ar 16 (upd (ar 16) ((4 * li) + 0) (fv0z 35))) 31 = ar 31 from w310, show (upa ar 16 (upd (ar 16) ((4 * li) + 0) (fv0z 35))) 13 = ar 13 from w130, hRR] at z2
            cases z2
        | inr qq =>
          refine V.cw mX7_text_ok rfl lX7_189 (c7_eRead l) rfl 0 7 rfl rfl rfl rfl rfl rfl ⟨(upf (upf (upf (upf fv0z 27 (nI u.1)) 28 (nI u.2.1)) 29 u.2.2.1) 30 u.2.2.2), (upa ar 16 (upd (ar 16) ((4 * li) + 0) (fv0z 35))), n, u.1, li, o0, f140, rfl, j1, hn, hli, f170, f350, s150, by omega, rfl, rfl, ⟨fun b2 z => ?_, fun q2 z fv3 ar3 hkE h27 hq1 hq2 h35 hs15 => ⟨rfl, ?_⟩⟩⟩
          · have z2 := z
            rw [show (upa ar 16 (upd (ar 16) ((4 * li) + 0) (fv0z 35))) 31 = ar 31 from w310, show (upa ar 16 (upd (ar 16) ((4 * li) + 0) (fv0z 35))) 13 = ar 13 from w130, hRR] at z2
            cases z2
          · have z2 := z
            rw [show (upa ar 16 (upd (ar 16) ((4 * li) + 0) (fv0z 35))) 31 = ar 31 from w310, show (upa ar 16 (upd (ar 16) ((4 * li) + 0) (fv0z 35))) 13 = ar 13 from w130, hRR] at z2
            cases z2
            obtain ⟨a1, o1⟩ := qq
            have hR1 : R = tx1 (ar 31) (ar 13) n a1 o1 := hR0b
            have ha1 : a1 ≤ n := hq1
            have hl1 : o1.length ≤ a1 := hq2
            have f271 : fv3 27 = nI a1 := h27
            have f351 : fv3 35 = nI o1.length := h35
            have s151 : stk (ar3 15) (200 * li) o1 := hs15
            have hk1 := (tK_tr (tK_tr (tK_tr hk0 (kR_lx li fv0z ar u).K) (tK_16 (lx4 fv0z u) ar (fv0z 35) (show 0 < 4 by omega))) hkE.K)
            have f171 : fv3 17 = nI li := ((hkE.1 17 (by decide) (by decide) (by decide) (by decide) (by decide) (by decide) (by decide)).trans f170)
            have f141 : fv3 14 = nI n := (hkE.1 14 (by decide) (by decide) (by decide) (by decide) (by decide) (by decide) (by decide)).trans f140
            have w311 : ar3 31 = ar 31 := (hkE.2.1 31 (by decide) (by decide)).trans w310
            have w131 : ar3 13 = ar 13 := (hkE.2.1 13 (by decide) (by decide)).trans w130
            have r161 : ar3 16 = upd (ar 16) (4 * li + 0) (nI o0.length) := by
              have := hkE.2.1 16 (by decide) (by decide)
              rw [this, ← f350]
              rfl
            obtain ⟨fv1z, hfz1⟩ : ∃ x, x = fv3 := ⟨_, rfl⟩
            obtain ⟨ar1z, haz1⟩ : ∃ x, x = ar3 := ⟨_, rfl⟩
            rw [← hfz1] at f271 f351 hk1 f171 f141 ⊢
            rw [← haz1] at s151 hk1 w311 w131 r161 ⊢
            clear hRR hkE h27 hq1 hq2 h35 hs15 hfz1 haz1 hR0b t60_0
            refine V.g2 60 [26, 59, 60, 93, 94, 101, 120, 121, 122, 156] mX7_text_ok rfl ?_
            refine pk_eq 1 0 (fun e0 => absurd e0 (by omega)) (fun e0 => ?_) rfl rfl
            refine V.g2 60 [26, 59, 60, 93, 94, 101, 120, 121, 122, 156] mX7_text_ok rfl ?_
            refine V.nm [(2, .int (nI 1)), (1, .int (nI 1)), (0, .ref 0)] [] (pM fv1z ar1z) rfl rfl rfl ?_
            refine V.g2 60 [26, 59, 60, 93, 94, 101, 120, 121, 122, 156] mX7_text_ok rfl ?_
            refine pk_le 3 1 (fun e0 => absurd e0 (by omega)) (fun e0 => ?_) rfl rfl
            refine pk_eq 1 0 (fun e0 => absurd e0 (by omega)) (fun e0 => ?_) rfl rfl
            obtain ⟨t1z, ht1z⟩ : ∃ t1z, t1z = nxF (ar 31) (ar 13) n a1 := ⟨_, rfl⟩
            obtain ⟨j1, jb, jz, jn, jm⟩ := nx_ok ht1z ha1
            refine V.cw mX7_text_ok rfl lX7_176 (c7_next l) rfl 0 7 rfl rfl rfl rfl rfl rfl ⟨fv1z, ar1z, n, a1, f141, f271, ha1, hn, rfl, rfl, fun u hu => ⟨rfl, ?_⟩⟩
            have eu : u = t1z := by rw [hu, ht1z, w311, w131]
            clear hu
            subst eu
            have hR1b : R = tx1 (ar 31) (ar 13) n a1 o1 := hR1
            rw [tx1, txV, ← ht1z] at hR1b
            have t60_1 : ¬ (u.2.2.1 = nI 3 ∧ u.2.2.2 = nI 1) → V l mX7_text false S (zrm 6 0 0) (zFm false S Q 0 0) 0 0 60 [(2, .int (nI 1)), (1, .int (nI 1)), (0, .ref 0)] [.int (nI 0)] (pM (upf (upf (upf (upf fv1z 27 (nI u.1)) 28 (nI u.2.1)) 29 u.2.2.1) 30 u.2.2.2) ar1z) := by
              intro  hno
              rw [if_neg hno] at hR1b
              refine V.g2 60 [26, 59, 60, 93, 94, 101, 120, 121, 122, 156] mX7_text_ok rfl ?_
              refine ⟨((4 * li) + 1), by omega, (nadd (nmul rfl f171) rfl), rfl, ?_⟩
              refine pk_eq 0 0 (fun e0 => ?_) (fun e0 => absurd e0 (by omega)) rfl rfl
              refine V.g2 60 [26, 59, 60, 93, 94, 101, 120, 121, 122, 156] mX7_text_ok rfl ?_
              refine V.g2 60 [26, 59, 60, 93, 94, 101, 120, 121, 122, 156] mX7_text_ok rfl ?_
              refine V.nm [(2, .int (nI 2)), (1, .int (nI 0)), (0, .ref 0)] [] (pM (upf (upf (upf (upf fv1z 27 (nI u.1)) 28 (nI u.2.1)) 29 u.2.2.1) 30 u.2.2.2) (upa ar1z 16 (upd (ar1z 16) ((4 * li) + 1) (fv1z 35)))) rfl rfl rfl ?_
              refine V.g2 60 [26, 59, 60, 93, 94, 101, 120, 121, 122, 156] mX7_text_ok rfl ?_
              refine pk_le 3 2 (fun e0 => absurd e0 (by omega)) (fun e0 => ?_) rfl rfl
              refine pk_eq 0 0 (fun e0 => ?_) (fun e0 => absurd e0 (by omega)) rfl rfl
              refine V.kn [1, 0] [(1, .int (nI 0)), (0, .ref 0)] [] (pM (upf (upf (upf (upf fv1z 27 (nI u.1)) 28 (nI u.2.1)) 29 u.2.2.1) 30 u.2.2.2) (upa ar1z 16 (upd (ar1z 16) ((4 * li) + 1) (fv1z 35)))) rfl rfl rfl ?_
              exact t101 u.2.1 (upf (upf (upf (upf fv1z 27 (nI u.1)) 28 (nI u.2.1)) 29 u.2.2.1) 30 u.2.2.2) (upa ar1z 16 (upd (ar1z 16) ((4 * li) + 1) (fv1z 35))) hR1b (tK_tr (tK_tr hk1 (kR_lx li fv1z ar1z u).K) (tK_16 (lx4 fv1z u) ar1z (fv1z 35) (show 1 < 4 by omega))) f171 rfl
            refine V.g2 60 [26, 59, 60, 93, 94, 101, 120, 121, 122, 156] mX7_text_ok rfl ?_
            refine And.intro (fun (e3 : ¬ u.2.2.1 = (nI 3)) => ?_) (fun (e3 : u.2.2.1 = (nI 3)) => ?_)
            · refine V.g2 60 [26, 59, 60, 93, 94, 101, 120, 121, 122, 156] mX7_text_ok rfl ?_
              refine V.nm [(2, .int (nI 1)), (1, .int (nI 1)), (0, .ref 0)] [.int (nI 0)] (pM (upf (upf (upf (upf fv1z 27 (nI u.1)) 28 (nI u.2.1)) 29 u.2.2.1) 30 u.2.2.2) ar1z) rfl rfl rfl ?_
              exact t60_1 (fun z => e3 z.1)
            · refine And.intro (fun (e4 : ¬ u.2.2.2 = (nI 1)) => ?_) (fun (e4 : u.2.2.2 = (nI 1)) => ?_)
              · refine V.g2 60 [26, 59, 60, 93, 94, 101, 120, 121, 122, 156] mX7_text_ok rfl ?_
                refine V.nm [(2, .int (nI 1)), (1, .int (nI 1)), (0, .ref 0)] [.int (nI 0)] (pM (upf (upf (upf (upf fv1z 27 (nI u.1)) 28 (nI u.2.1)) 29 u.2.2.1) 30 u.2.2.2) ar1z) rfl rfl rfl ?_
                exact t60_1 (fun z => e4 z.2)
              · rw [if_pos ⟨e3, e4⟩] at hR1b
                have hadv := jz (by rw [e3]; decide)
                refine V.g2 60 [26, 59, 60, 93, 94, 101, 120, 121, 122, 156] mX7_text_ok rfl ?_
                refine ⟨((4 * li) + 1), by omega, (nadd (nmul rfl f171) rfl), rfl, ?_⟩
                refine pk_eq 1 0 (fun e0 => absurd e0 (by omega)) (fun e0 => ?_) rfl rfl
                obtain ⟨RR, hRR⟩ : ∃ RR, rdF (ar 31) (ar 13) n (n - u.1 + 1) u.1 true true ([], o1) = RR := ⟨_, rfl⟩
                rw [hRR] at hR1b
                cases RR with
                | inl b =>
                  refine V.cw mX7_text_ok rfl lX7_189 (c7_eRead l) rfl 0 7 rfl rfl rfl rfl rfl rfl ⟨(upf (upf (upf (upf fv1z 27 (nI u.1)) 28 (nI u.2.1)) 29 u.2.2.1) 30 u.2.2.2), (upa ar1z 16 (upd (ar1z 16) ((4 * li) + 1) (fv1z 35))), n, u.1, li, o1, f141, rfl, j1, hn, hli, f171, f351, s151, by omega, rfl, rfl, ⟨fun b2 z fv3 ar3 hkE h28 => ⟨rfl, ?_⟩, fun q2 z => ?_⟩⟩
                  · have z2 := z
                    rw [show (upa ar1z 16 (upd (ar1z 16) ((4 * li) + 1) (fv1z 35))) 31 = ar 31 from w311, show (upa ar1z 16 (upd (ar1z 16) ((4 * li) + 1) (fv1z 35))) 13 = ar 13 from w131, hRR] at z2
                    cases z2
                    refine V.g2 60 [26, 59, 60, 93, 94, 101, 120, 121, 122, 156] mX7_text_ok rfl ?_
                    refine pk_eq 0 0 (fun e0 => ?_) (fun e0 => absurd e0 (by omega)) rfl rfl
                    refine V.g2 60 [26, 59, 60, 93, 94, 101, 120, 121, 122, 156] mX7_text_ok rfl ?_
                    refine V.g2 60 [26, 59, 60, 93, 94, 101, 120, 121, 122, 156] mX7_text_ok rfl ?_
                    refine V.nm [(2, .int (nI 2)), (1, .int (nI 0)), (0, .ref 0)] [] (pM fv3 ar3) rfl rfl rfl ?_
                    refine V.g2 60 [26, 59, 60, 93, 94, 101, 120, 121, 122, 156] mX7_text_ok rfl ?_
                    refine pk_le 3 2 (fun e0 => absurd e0 (by omega)) (fun e0 => ?_) rfl rfl
                    refine pk_eq 0 0 (fun e0 => ?_) (fun e0 => absurd e0 (by omega)) rfl rfl
                    refine V.kn [1, 0] [(1, .int (nI 0)), (0, .ref 0)] [] (pM fv3 ar3) rfl rfl rfl ?_
                    exact t101 b fv3 ar3 hR1b (tK_tr (tK_tr (tK_tr hk1 (kR_lx li fv1z ar1z u).K) (tK_16 (lx4 fv1z u) ar1z (fv1z 35) (show 1 < 4 by omega))) hkE.K) ((hkE.1 17 (by decide) (by decide) (by decide) (by decide) (by decide) (by decide) (by decide)).trans f171) h28
                  · have z2 := z
                    rw [show (upa ar1z 16 (upd (ar1z 16) ((4 * li) + 1) (fv1z 35))) 31 = ar 31 from w311, show (upa ar1z 16 (upd (ar1z 16) ((4 * li) + 1) (fv1z 35))) 13 = ar 13 from w131, hRR] at z2
                    cases z2
                | inr qq =>
                  refine V.cw mX7_text_ok rfl lX7_189 (c7_eRead l) rfl 0 7 rfl rfl rfl rfl rfl rfl ⟨(upf (upf (upf (upf fv1z 27 (nI u.1)) 28 (nI u.2.1)) 29 u.2.2.1) 30 u.2.2.2), (upa ar1z 16 (upd (ar1z 16) ((4 * li) + 1) (fv1z 35))), n, u.1, li, o1, f141, rfl, j1, hn, hli, f171, f351, s151, by omega, rfl, rfl, ⟨fun b2 z => ?_, fun q2 z fv3 ar3 hkE h27 hq1 hq2 h35 hs15 => ⟨rfl, ?_⟩⟩⟩
                  · have z2 := z
                    rw [show (upa ar1z 16 (upd (ar1z 16) ((4 * li) + 1) (fv1z 35))) 31 = ar 31 from w311, show (upa ar1z 16 (upd (ar1z 16) ((4 * li) + 1) (fv1z 35))) 13 = ar 13 from w131, hRR] at z2
                    cases z2
                  · have z2 := z
                    rw [show (upa ar1z 16 (upd (ar1z 16) ((4 * li) + 1) (fv1z 35))) 31 = ar 31 from w311, show (upa ar1z 16 (upd (ar1z 16) ((4 * li) + 1) (fv1z 35))) 13 = ar 13 from w131, hRR] at z2
                    cases z2
                    obtain ⟨a2, o2⟩ := qq
                    have hR2 : R = tx2 (ar 31) (ar 13) n a2 o1 o2 := hR1b
                    have ha2 : a2 ≤ n := hq1
                    have hl2 : o2.length ≤ a2 := hq2
                    have f272 : fv3 27 = nI a2 := h27
                    have f352 : fv3 35 = nI o2.length := h35
                    have s152 : stk (ar3 15) (200 * li) o2 := hs15
                    have hk2 := (tK_tr (tK_tr (tK_tr hk1 (kR_lx li fv1z ar1z u).K) (tK_16 (lx4 fv1z u) ar1z (fv1z 35) (show 1 < 4 by omega))) hkE.K)
                    have f172 : fv3 17 = nI li := ((hkE.1 17 (by decide) (by decide) (by decide) (by decide) (by decide) (by decide) (by decide)).trans f171)
                    have f142 : fv3 14 = nI n := (hkE.1 14 (by decide) (by decide) (by decide) (by decide) (by decide) (by decide) (by decide)).trans f141
                    have w312 : ar3 31 = ar 31 := (hkE.2.1 31 (by decide) (by decide)).trans w311
                    have w132 : ar3 13 = ar 13 := (hkE.2.1 13 (by decide) (by decide)).trans w131
                    have r162 : ar3 16 = upd (ar1z 16) (4 * li + 1) (nI o1.length) := by
                      have := hkE.2.1 16 (by decide) (by decide)
                      rw [this, ← f351]
                      rfl
                    obtain ⟨fv2z, hfz2⟩ : ∃ x, x = fv3 := ⟨_, rfl⟩
                    obtain ⟨ar2z, haz2⟩ : ∃ x, x = ar3 := ⟨_, rfl⟩
                    rw [← hfz2] at f272 f352 hk2 f172 f142 ⊢
                    rw [← haz2] at s152 hk2 w312 w132 r162 ⊢
                    clear hRR hkE h27 hq1 hq2 h35 hs15 hfz2 haz2 hR1b t60_1
                    refine V.g2 60 [26, 59, 60, 93, 94, 101, 120, 121, 122, 156] mX7_text_ok rfl ?_
                    refine pk_eq 1 0 (fun e0 => absurd e0 (by omega)) (fun e0 => ?_) rfl rfl
                    refine V.g2 60 [26, 59, 60, 93, 94, 101, 120, 121, 122, 156] mX7_text_ok rfl ?_
                    refine V.nm [(2, .int (nI 2)), (1, .int (nI 1)), (0, .ref 0)] [] (pM fv2z ar2z) rfl rfl rfl ?_
                    refine V.g2 60 [26, 59, 60, 93, 94, 101, 120, 121, 122, 156] mX7_text_ok rfl ?_
                    refine pk_le 3 2 (fun e0 => absurd e0 (by omega)) (fun e0 => ?_) rfl rfl
                    refine pk_eq 1 0 (fun e0 => absurd e0 (by omega)) (fun e0 => ?_) rfl rfl
                    obtain ⟨t2z, ht2z⟩ : ∃ t2z, t2z = nxF (ar 31) (ar 13) n a2 := ⟨_, rfl⟩
                    obtain ⟨j1, jb, jz, jn, jm⟩ := nx_ok ht2z ha2
                    refine V.cw mX7_text_ok rfl lX7_176 (c7_next l) rfl 0 7 rfl rfl rfl rfl rfl rfl ⟨fv2z, ar2z, n, a2, f142, f272, ha2, hn, rfl, rfl, fun u hu => ⟨rfl, ?_⟩⟩
                    have eu : u = t2z := by rw [hu, ht2z, w312, w132]
                    clear hu
                    subst eu
                    have hR2b : R = tx2 (ar 31) (ar 13) n a2 o1 o2 := hR2
                    rw [tx2, txV, ← ht2z] at hR2b
                    have t60_2 : ¬ (u.2.2.1 = nI 3 ∧ u.2.2.2 = nI 2) → V l mX7_text false S (zrm 6 0 0) (zFm false S Q 0 0) 0 0 60 [(2, .int (nI 2)), (1, .int (nI 1)), (0, .ref 0)] [.int (nI 0)] (pM (upf (upf (upf (upf fv2z 27 (nI u.1)) 28 (nI u.2.1)) 29 u.2.2.1) 30 u.2.2.2) ar2z) := by
                      intro  hno
                      rw [if_neg hno] at hR2b
                      refine V.g2 60 [26, 59, 60, 93, 94, 101, 120, 121, 122, 156] mX7_text_ok rfl ?_
                      refine ⟨((4 * li) + 2), by omega, (nadd (nmul rfl f172) rfl), rfl, ?_⟩
                      refine pk_eq 0 0 (fun e0 => ?_) (fun e0 => absurd e0 (by omega)) rfl rfl
                      refine V.g2 60 [26, 59, 60, 93, 94, 101, 120, 121, 122, 156] mX7_text_ok rfl ?_
                      refine V.g2 60 [26, 59, 60, 93, 94, 101, 120, 121, 122, 156] mX7_text_ok rfl ?_
                      refine V.nm [(2, .int (nI 3)), (1, .int (nI 0)), (0, .ref 0)] [] (pM (upf (upf (upf (upf fv2z 27 (nI u.1)) 28 (nI u.2.1)) 29 u.2.2.1) 30 u.2.2.2) (upa ar2z 16 (upd (ar2z 16) ((4 * li) + 2) (fv2z 35)))) rfl rfl rfl ?_
                      refine V.g2 60 [26, 59, 60, 93, 94, 101, 120, 121, 122, 156] mX7_text_ok rfl ?_
                      refine pk_le 3 3 (fun e0 => ?_) (fun e0 => absurd e0 (by omega)) rfl rfl
                      refine V.kn [1, 0] [(1, .int (nI 0)), (0, .ref 0)] [] (pM (upf (upf (upf (upf fv2z 27 (nI u.1)) 28 (nI u.2.1)) 29 u.2.2.1) 30 u.2.2.2) (upa ar2z 16 (upd (ar2z 16) ((4 * li) + 2) (fv2z 35)))) rfl rfl rfl ?_
                      exact t101 u.2.1 (upf (upf (upf (upf fv2z 27 (nI u.1)) 28 (nI u.2.1)) 29 u.2.2.1) 30 u.2.2.2) (upa ar2z 16 (upd (ar2z 16) ((4 * li) + 2) (fv2z 35))) hR2b (tK_tr (tK_tr hk2 (kR_lx li fv2z ar2z u).K) (tK_16 (lx4 fv2z u) ar2z (fv2z 35) (show 2 < 4 by omega))) f172 rfl
                    refine V.g2 60 [26, 59, 60, 93, 94, 101, 120, 121, 122, 156] mX7_text_ok rfl ?_
                    refine And.intro (fun (e3 : ¬ u.2.2.1 = (nI 3)) => ?_) (fun (e3 : u.2.2.1 = (nI 3)) => ?_)
                    · refine V.g2 60 [26, 59, 60, 93, 94, 101, 120, 121, 122, 156] mX7_text_ok rfl ?_
                      refine V.nm [(2, .int (nI 2)), (1, .int (nI 1)), (0, .ref 0)] [.int (nI 0)] (pM (upf (upf (upf (upf fv2z 27 (nI u.1)) 28 (nI u.2.1)) 29 u.2.2.1) 30 u.2.2.2) ar2z) rfl rfl rfl ?_
                      exact t60_2 (fun z => e3 z.1)
                    · refine And.intro (fun (e4 : ¬ u.2.2.2 = (nI 2)) => ?_) (fun (e4 : u.2.2.2 = (nI 2)) => ?_)
                      · refine V.g2 60 [26, 59, 60, 93, 94, 101, 120, 121, 122, 156] mX7_text_ok rfl ?_
                        refine V.nm [(2, .int (nI 2)), (1, .int (nI 1)), (0, .ref 0)] [.int (nI 0)] (pM (upf (upf (upf (upf fv2z 27 (nI u.1)) 28 (nI u.2.1)) 29 u.2.2.1) 30 u.2.2.2) ar2z) rfl rfl rfl ?_
                        exact t60_2 (fun z => e4 z.2)
                      · rw [if_pos ⟨e3, e4⟩] at hR2b
                        have hadv := jz (by rw [e3]; decide)
                        refine V.g2 60 [26, 59, 60, 93, 94, 101, 120, 121, 122, 156] mX7_text_ok rfl ?_
                        refine ⟨((4 * li) + 2), by omega, (nadd (nmul rfl f172) rfl), rfl, ?_⟩
                        refine pk_eq 1 0 (fun e0 => absurd e0 (by omega)) (fun e0 => ?_) rfl rfl
                        obtain ⟨RR, hRR⟩ : ∃ RR, rdF (ar 31) (ar 13) n (n - u.1 + 1) u.1 true true ([], o2) = RR := ⟨_, rfl⟩
                        rw [hRR] at hR2b
                        cases RR with
                        | inl b =>
                          refine V.cw mX7_text_ok rfl lX7_189 (c7_eRead l) rfl 0 7 rfl rfl rfl rfl rfl rfl ⟨(upf (upf (upf (upf fv2z 27 (nI u.1)) 28 (nI u.2.1)) 29 u.2.2.1) 30 u.2.2.2), (upa ar2z 16 (upd (ar2z 16) ((4 * li) + 2) (fv2z 35))), n, u.1, li, o2, f142, rfl, j1, hn, hli, f172, f352, s152, by omega, rfl, rfl, ⟨fun b2 z fv3 ar3 hkE h28 => ⟨rfl, ?_⟩, fun q2 z => ?_⟩⟩
                          · have z2 := z
                            rw [show (upa ar2z 16 (upd (ar2z 16) ((4 * li) + 2) (fv2z 35))) 31 = ar 31 from w312, show (upa ar2z 16 (upd (ar2z 16) ((4 * li) + 2) (fv2z 35))) 13 = ar 13 from w132, hRR] at z2
                            cases z2
                            refine V.g2 60 [26, 59, 60, 93, 94, 101, 120, 121, 122, 156] mX7_text_ok rfl ?_
                            refine pk_eq 0 0 (fun e0 => ?_) (fun e0 => absurd e0 (by omega)) rfl rfl
                            refine V.g2 60 [26, 59, 60, 93, 94, 101, 120, 121, 122, 156] mX7_text_ok rfl ?_
                            refine V.g2 60 [26, 59, 60, 93, 94, 101, 120, 121, 122, 156] mX7_text_ok rfl ?_
                            refine V.nm [(2, .int (nI 3)), (1, .int (nI 0)), (0, .ref 0)] [] (pM fv3 ar3) rfl rfl rfl ?_
                            refine V.g2 60 [26, 59, 60, 93, 94, 101, 120, 121, 122, 156] mX7_text_ok rfl ?_
                            refine pk_le 3 3 (fun e0 => ?_) (fun e0 => absurd e0 (by omega)) rfl rfl
                            refine V.kn [1, 0] [(1, .int (nI 0)), (0, .ref 0)] [] (pM fv3 ar3) rfl rfl rfl ?_
                            exact t101 b fv3 ar3 hR2b (tK_tr (tK_tr (tK_tr hk2 (kR_lx li fv2z ar2z u).K) (tK_16 (lx4 fv2z u) ar2z (fv2z 35) (show 2 < 4 by omega))) hkE.K) ((hkE.1 17 (by decide) (by decide) (by decide) (by decide) (by decide) (by decide) (by decide)).trans f172) h28
                          · have z2 := z
                            rw [show (upa ar2z 16 (upd (ar2z 16) ((4 * li) + 2) (fv2z 35))) 31 = ar 31 from w312, show (upa ar2z 16 (upd (ar2z 16) ((4 * li) + 2) (fv2z 35))) 13 = ar 13 from w132, hRR] at z2
                            cases z2
                        | inr qq =>
                          refine V.cw mX7_text_ok rfl lX7_189 (c7_eRead l) rfl 0 7 rfl rfl rfl rfl rfl rfl ⟨(upf (upf (upf (upf fv2z 27 (nI u.1)) 28 (nI u.2.1)) 29 u.2.2.1) 30 u.2.2.2), (upa ar2z 16 (upd (ar2z 16) ((4 * li) + 2) (fv2z 35))), n, u.1, li, o2, f142, rfl, j1, hn, hli, f172, f352, s152, by omega, rfl, rfl, ⟨fun b2 z => ?_, fun q2 z fv3 ar3 hkE h27 hq1 hq2 h35 hs15 => ⟨rfl, ?_⟩⟩⟩
                          · have z2 := z
                            rw [show (upa ar2z 16 (upd (ar2z 16) ((4 * li) + 2) (fv2z 35))) 31 = ar 31 from w312, show (upa ar2z 16 (upd (ar2z 16) ((4 * li) + 2) (fv2z 35))) 13 = ar 13 from w132, hRR] at z2
                            cases z2
                          · have z2 := z
                            rw [show (upa ar2z 16 (upd (ar2z 16) ((4 * li) + 2) (fv2z 35))) 31 = ar 31 from w312, show (upa ar2z 16 (upd (ar2z 16) ((4 * li) + 2) (fv2z 35))) 13 = ar 13 from w132, hRR] at z2
                            cases z2
                            obtain ⟨a3, o3⟩ := qq
                            have hR3 : R = tx3 (ar 31) (ar 13) n a3 o1 o2 o3 := hR2b
                            have ha3 : a3 ≤ n := hq1
                            have hl3 : o3.length ≤ a3 := hq2
                            have f273 : fv3 27 = nI a3 := h27
                            have f353 : fv3 35 = nI o3.length := h35
                            have s153 : stk (ar3 15) (200 * li) o3 := hs15
                            have hk3 := (tK_tr (tK_tr (tK_tr hk2 (kR_lx li fv2z ar2z u).K) (tK_16 (lx4 fv2z u) ar2z (fv2z 35) (show 2 < 4 by omega))) hkE.K)
                            have f173 : fv3 17 = nI li := ((hkE.1 17 (by decide) (by decide) (by decide) (by decide) (by decide) (by decide) (by decide)).trans f172)
                            have f143 : fv3 14 = nI n := (hkE.1 14 (by decide) (by decide) (by decide) (by decide) (by decide) (by decide) (by decide)).trans f142
                            have w313 : ar3 31 = ar 31 := (hkE.2.1 31 (by decide) (by decide)).trans w312
                            have w133 : ar3 13 = ar 13 := (hkE.2.1 13 (by decide) (by decide)).trans w132
                            have r163 : ar3 16 = upd (ar2z 16) (4 * li + 2) (nI o2.length) := by
                              have := hkE.2.1 16 (by decide) (by decide)
                              rw [this, ← f352]
                              rfl
                            obtain ⟨fv3z, hfz3⟩ : ∃ x, x = fv3 := ⟨_, rfl⟩
                            obtain ⟨ar3z, haz3⟩ : ∃ x, x = ar3 := ⟨_, rfl⟩
                            rw [← hfz3] at f273 f353 hk3 f173 f143 ⊢
                            rw [← haz3] at s153 hk3 w313 w133 r163 ⊢
                            clear hRR hkE h27 hq1 hq2 h35 hs15 hfz3 haz3 hR2b t60_2
                            refine V.g2 60 [26, 59, 60, 93, 94, 101, 120, 121, 122, 156] mX7_text_ok rfl ?_
                            refine pk_eq 1 0 (fun e0 => absurd e0 (by omega)) (fun e0 => ?_) rfl rfl
                            refine V.g2 60 [26, 59, 60, 93, 94, 101, 120, 121, 122, 156] mX7_text_ok rfl ?_
                            refine V.nm [(2, .int (nI 3)), (1, .int (nI 1)), (0, .ref 0)] [] (pM fv3z ar3z) rfl rfl rfl ?_
                            refine V.g2 60 [26, 59, 60, 93, 94, 101, 120, 121, 122, 156] mX7_text_ok rfl ?_
                            refine pk_le 3 3 (fun e0 => ?_) (fun e0 => absurd e0 (by omega)) rfl rfl
                            refine V.g2 60 [26, 59, 60, 93, 94, 101, 120, 121, 122, 156] mX7_text_ok rfl ?_
                            refine pk_eq 1 0 (fun e0 => absurd e0 (by omega)) (fun e0 => ?_) rfl rfl
                            obtain ⟨u, hu⟩ : ∃ u, u = nxF (ar 31) (ar 13) n a3 := ⟨_, rfl⟩
                            refine V.cw mX7_text_ok rfl lX7_176 (c7_next l) rfl 0 7 rfl rfl rfl rfl rfl rfl ⟨fv3z, ar3z, n, a3, f143, f273, ha3, hn, rfl, rfl, fun u2 hu2 => ⟨rfl, ?_⟩⟩
                            have eu : u2 = u := by rw [hu2, hu, w313, w133]
                            clear hu2
                            subst eu
                            rw [tx3, ← hu, show nI 0 = (0 : Int32) from rfl] at hR3
                            refine V.g2 60 [26, 59, 60, 93, 94, 101, 120, 121, 122, 156] mX7_text_ok rfl ?_
                            refine And.intro (fun (e5 : ¬ u2.2.2.1 = (0 : Int32)) => ?_) (fun (e5 : u2.2.2.1 = (0 : Int32)) => ?_)
                            · refine V.g2 60 [26, 59, 60, 93, 94, 101, 120, 121, 122, 156] mX7_text_ok rfl ?_
                              refine V.g2 60 [26, 59, 60, 93, 94, 101, 120, 121, 122, 156] mX7_text_ok rfl ?_
                              rw [if_neg e5] at hR3
                              refine V.g2 60 [26, 59, 60, 93, 94, 101, 120, 121, 122, 156] mX7_text_ok rfl ?_
                              refine ⟨((4 * li) + 3), by omega, (nadd (nmul rfl f173) rfl), rfl, ?_⟩
                              refine zp_ne 0 0 (fun e0 => absurd e0 (by omega)) (fun e0 => ?_) rfl rfl
                              refine ⟨_, zsim_rfl _, ?_⟩
                              subst hS
                              exact hB u2.2.1 hR3 (upf (upf (upf (upf (upf fv3z 14 (nI 0)) 27 (nI u2.1)) 28 (nI u2.2.1)) 29 u2.2.2.1) 30 u2.2.2.2) (upa ar3z 16 (upd (ar3z 16) ((4 * li) + 3) (fv3z 35))) (tK_tr hk3 (tK_tr (tK_tr (tK_16 fv3z ar3z (fv3z 35) (show 3 < 4 by omega)) (tK_e li fv3z _ (nI 0))) (kR_lx li _ _ u2).K)) f173 rfl
                            · rw [if_pos e5] at hR3
                              refine V.g2 60 [26, 59, 60, 93, 94, 101, 120, 121, 122, 156] mX7_text_ok rfl ?_
                              refine V.g2 60 [26, 59, 60, 93, 94, 101, 120, 121, 122, 156] mX7_text_ok rfl ?_
                              refine ⟨((4 * li) + 3), by omega, (nadd (nmul rfl f173) rfl), rfl, ?_⟩
                              refine zp_ne 1 0 (fun e0 => ?_) (fun e0 => absurd e0 (by omega)) rfl rfl
                              refine V.g2 60 [26, 59, 60, 93, 94, 101, 120, 121, 122, 156] mX7_text_ok rfl ?_
                              refine ⟨_, zsim_rfl _, ?_⟩
                              subst hS
                              have e17 : fv3z 17 + nI 1 = nI (li + 1) := by rw [f173]; exact nI_1 li
                              have eli : fv3z 17 + nI 1 - nI 1 = nI li := by rw [e17, pk_sub (by omega)]; rfl
                              have r16 : (upd (ar3z 16) (4 * li + 3) (fv3z 35)) = upd (upd (upd (upd (ar 16) (4 * li + 0) (nI 0)) (4 * li + 1) (nI o1.length)) (4 * li + 2) (nI o2.length)) (4 * li + 3) (nI o3.length) := by rw [r163, r162, r161, f353, ho0]; rfl
                              have h := hC o1 o2 o3 hR3 (upf (upf (upf (upf (upf (upf fv3z 14 (nI 0)) 17 ((fv3z 17) + (nI 1))) 27 (nI u2.1)) 28 (nI u2.2.1)) 29 u2.2.2.1) 30 u2.2.2.2) (upa ar3z 16 (upd (ar3z 16) ((4 * li) + 3) (fv3z 35))) (tK_tr hk3 (tK_tr (tK_tr (tK_16 fv3z ar3z (fv3z 35) (show 3 < 4 by omega)) (tK_14 li fv3z _ (nI 0) (fv3z 17 + nI 1))) (kR_lx li _ _ u2).K)) e17 rfl
                              rw [← eli] at h
                              refine h ?_ ?_ ?_ ?_ s153 (by omega)
                              · show (upd (ar3z 16) (4 * li + 3) (fv3z 35)) (4 * li + 0) = _
                                rw [r16, pk_un (by omega), pk_un (by omega), pk_un (by omega), pk_us]
                              · show (upd (ar3z 16) (4 * li + 3) (fv3z 35)) (4 * li + 1) = _
                                rw [r16, pk_un (by omega), pk_un (by omega), pk_us]
                              · show (upd (ar3z 16) (4 * li + 3) (fv3z 35)) (4 * li + 2) = _
                                rw [r16, pk_un (by omega), pk_us]
                              · show (upd (ar3z 16) (4 * li + 3) (fv3z 35)) (4 * li + 3) = _
                                rw [r16, pk_us]
  · exact ⟨_, zsim_rfl _, hA e0⟩
