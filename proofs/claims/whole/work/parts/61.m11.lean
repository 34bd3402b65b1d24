/-! ===== the reference: the host, the tape, images ===== -/
def T7_isUnder : zT := fun args hs Q => ∃ (x y : Int32) (k o : Nat), k < 6 ∧ o < 6 ∧ x = nI k ∧ y = nI o ∧ args = [.int x, .int y] ∧ ∀ B : Bool, B = isU k o → Q (some (.int (bI B))) hs
theorem c7_isUnder (l : Launch) : Ct l mX7_isUnder false 1 0 0 T7_isUnder := by
  refine Ct.intro mX7_isUnder_ok ?_
  rintro args hs Q ⟨x, y, k, o, hk, ho, hx, hy, rfl, h⟩
  refine ⟨Nat.le_of_ble_eq_true rfl, ?_⟩
  subst hx
  subst hy
  have t29 : isU k o = true → V l mX7_isUnder false hs (zrm 1 0 0) (zFm false hs Q 0 0) 0 0 29 [(0, .int (nI k)), (1, .int (nI o))] [] (hs) := by
    intro  hB
    refine V.g2 60 [34, 29, 33] mX7_isUnder_ok rfl ?_
    refine V.g2 60 [34, 29, 33] mX7_isUnder_ok rfl ?_
    refine And.intro (Or.inr rfl) ?_
    exact ⟨_, zsim_rfl _, h true hB.symm⟩
  have t33 : isU k o = false → V l mX7_isUnder false hs (zrm 1 0 0) (zFm false hs Q 0 0) 0 0 33 [(0, .int (nI k)), (1, .int (nI o))] [] (hs) := by
    intro  hB
    refine V.g2 60 [34, 29, 33] mX7_isUnder_ok rfl ?_
    refine V.g2 60 [34, 29, 33] mX7_isUnder_ok rfl ?_
    refine And.intro (Or.inl rfl) ?_
    exact ⟨_, zsim_rfl _, h false hB.symm⟩
  have hU : isU k o = (Nat.beq o 0 || Nat.beq k o || (Nat.beq o 1 && Nat.beq k 3) || (Nat.beq o 2 && Nat.beq k 4)) := rfl
  have hT : (o = 0 ∨ k = o ∨ (o = 1 ∧ k = 3) ∨ (o = 2 ∧ k = 4)) → isU k o = true := fun z => by rw [hU]; rcases z with rfl | rfl | ⟨rfl, rfl⟩ | ⟨rfl, rfl⟩ <;> simp
  have hF : ¬ (o = 0 ∨ k = o ∨ (o = 1 ∧ k = 3) ∨ (o = 2 ∧ k = 4)) → isU k o = false := fun z => by cases hb : isU k o with | false => rfl | true => exfalso; rw [hU] at hb; simp only [Bool.or_eq_true, Bool.and_eq_true, Nat.beq_eq] at hb; omega
  refine V.g2 60 [34, 29, 33] mX7_isUnder_ok rfl ?_
  refine pk_eq o 0 (fun e1 => ?_) (fun e1 => ?_) rfl rfl
  · refine V.kn [0, 1] [(0, .int (nI k)), (1, .int (nI o))] [] (hs) rfl rfl rfl ?_
    exact t29 (hT (Or.inl e1))
  · refine pk_eq k o (fun e2 => ?_) (fun e2 => ?_) rfl rfl
    · refine V.kn [0, 1] [(0, .int (nI k)), (1, .int (nI o))] [] (hs) rfl rfl rfl ?_
      exact t29 (hT (Or.inr (Or.inl e2)))
    · refine zp_ne o 1 (fun e3 => ?_) (fun e3 => ?_) rfl rfl
      · refine zp_ne o 2 (fun e5 => ?_) (fun e5 => ?_) rfl rfl
        · refine V.kn [0, 1] [(0, .int (nI k)), (1, .int (nI o))] [] (hs) rfl rfl rfl ?_
          exact t33 (hF (by omega))
        · refine zp_ne k 4 (fun e6 => ?_) (fun e6 => ?_) rfl rfl
          · refine V.kn [0, 1] [(0, .int (nI k)), (1, .int (nI o))] [] (hs) rfl rfl rfl ?_
            exact t33 (hF (by omega))
          · refine V.kn [0, 1] [(0, .int (nI k)), (1, .int (nI o))] [] (hs) rfl rfl rfl ?_
            exact t29 (hT (by omega))
      · refine pk_eq k 3 (fun e4 => ?_) (fun e4 => ?_) rfl rfl
        · refine V.kn [0, 1] [(0, .int (nI k)), (1, .int (nI o))] [] (hs) rfl rfl rfl ?_
          exact t29 (hT (by omega))
        · refine zp_ne o 2 (fun e5 => ?_) (fun e5 => ?_) rfl rfl
          · refine V.kn [0, 1] [(0, .int (nI k)), (1, .int (nI o))] [] (hs) rfl rfl rfl ?_
            exact t33 (hF (by omega))
          · refine zp_ne k 4 (fun e6 => ?_) (fun e6 => ?_) rfl rfl
            · refine V.kn [0, 1] [(0, .int (nI k)), (1, .int (nI o))] [] (hs) rfl rfl rfl ?_
              exact t33 (hF (by omega))
            · refine V.kn [0, 1] [(0, .int (nI k)), (1, .int (nI o))] [] (hs) rfl rfl rfl ?_
              exact t29 (hT (by omega))
def tkB (x y : Int32) : Bool := wiB y 6 && wiB x 11
def T7_taken : zT := fun args hs Q => ∃ (fv : Nat → Int32) (ar : Nat → fI) (x y : Int32), kOk (cM fv ar) ∧ args = [.ref 0, .int x, .int y] ∧ hs = pM fv ar ∧ (wiB y 6 = false → Q (some (.int (-2))) hs) ∧ (wiB y 6 = true → wiB x 11 = false → Q (some (.int (-12))) hs) ∧ (∀ i k, i < 12 → k < 7 → x = nI i → y = nI k → (i < 8 → ar 3 i = 0 → Q (some (.int (-11))) hs) ∧ (i < 8 → ¬ ar 3 i = 0 → k = 6 → Q (some (.int (ar 3 i))) hs) ∧ (i < 8 → ¬ ar 3 i = 0 → ¬ k = 6 → Q (some (.int (-13))) hs) ∧ (8 ≤ i → k < 6 → isU (kw (cM fv ar) (i - 8)) k = true → Q (some (.int (nI (i - 8)))) hs) ∧ (8 ≤ i → (k = 6 ∨ (k < 6 ∧ isU (kw (cM fv ar) (i - 8)) k = false)) → Q (some (.int (-13))) hs))
theorem c7_taken (l : Launch) : Ct l mX7_taken false 3 0 0 T7_taken := by
  refine Ct.intro mX7_taken_ok ?_
  rintro args hs Q ⟨fv, ar, x, y, hok, rfl, rfl, h0, h1, h2⟩
  refine ⟨Nat.le_of_ble_eq_true rfl, ?_⟩
  refine V.g2 60 [63, 95, 93] mX7_taken_ok rfl ?_
  refine V.cs mX7_taken_ok rfl lX7_117 (c7_in l) rfl rfl rfl rfl ⟨_, _, _, rfl, fun B hB => ⟨rfl, ?_⟩⟩
  rcases B with _ | _
  · refine V.g2 60 [63, 95, 93] mX7_taken_ok rfl ?_
    refine And.intro (fun e => absurd rfl e) (fun _ => ?_)
    exact ⟨_, zsim_rfl _, h0 hB.symm⟩
  · refine V.g2 60 [63, 95, 93] mX7_taken_ok rfl ?_
    refine And.intro (fun _ => ?_) (fun e => absurd e (by decide))
    refine V.cs mX7_taken_ok rfl lX7_117 (c7_in l) rfl rfl rfl rfl ⟨_, _, _, rfl, fun B2 hB2 => ⟨rfl, ?_⟩⟩
    rcases B2 with _ | _
    · refine V.g2 60 [63, 95, 93] mX7_taken_ok rfl ?_
      refine And.intro (fun e => absurd rfl e) (fun _ => ?_)
      exact ⟨_, zsim_rfl _, h1 hB.symm hB2.symm⟩
    · obtain ⟨k, hk, rfl⟩ := wiB_t (n := 6) hB.symm (by omega)
      obtain ⟨i, hi, rfl⟩ := wiB_t (n := 11) hB2.symm (by omega)
      obtain ⟨a1, a2, a3, a4, a5⟩ := h2 i k hi hk rfl rfl
      refine V.g2 60 [63, 95, 93] mX7_taken_ok rfl ?_
      refine And.intro (fun _ => ?_) (fun e => absurd e (by decide))
      refine pk_le 8 i (fun e1 => ?_) (fun e1 => ?_) rfl rfl
      · have t93 : k = 6 ∨ (k < 6 ∧ isU (kw (cM fv ar) (i - 8)) k = false) → V l mX7_taken false (pM fv ar) (zrm 3 0 0) (zFm false (pM fv ar) Q 0 0) 0 0 93 [(0, .ref 0), (1, .int (nI i)), (2, .int (nI k))] [] (pM fv ar) := by
          intro  hz
          refine V.g2 60 [63, 95, 93] mX7_taken_ok rfl ?_
          refine V.g2 60 [63, 95, 93] mX7_taken_ok rfl ?_
          exact ⟨_, zsim_rfl _, a5 e1 hz⟩
        refine pk_le 6 k (fun e4 => ?_) (fun e4 => ?_) rfl rfl
        · refine V.kn [0, 1, 2] [(0, .ref 0), (1, .int (nI i)), (2, .int (nI k))] [] (pM fv ar) rfl rfl rfl ?_
          exact t93 (Or.inl (by omega))
        · obtain ⟨b1, b2⟩ := hok (i - 8) (by omega)
          refine ⟨(i - 8), by omega, (nsub (by omega) rfl rfl), rfl, ?_⟩
          refine V.cs mX7_taken_ok rfl lX7_384 (c7_isUnder l) rfl rfl rfl rfl ⟨_, _, kw (cM fv ar) (i - 8), k, b1, e4, b2, rfl, rfl, fun B3 hB3 => ⟨rfl, ?_⟩⟩
          rcases B3 with _ | _
          · refine V.g2 60 [63, 95, 93] mX7_taken_ok rfl ?_
            refine And.intro (fun _ => ?_) (fun e => absurd rfl e)
            refine V.kn [0, 1, 2] [(0, .ref 0), (1, .int (nI i)), (2, .int (nI k))] [] (pM fv ar) rfl rfl rfl ?_
            exact t93 (Or.inr ⟨e4, hB3.symm⟩)
          · refine V.g2 60 [63, 95, 93] mX7_taken_ok rfl ?_
            refine And.intro (fun e => absurd e (by decide)) (fun _ => ?_)
            have e9 : nI i - nI 8 = nI (i - 8) := pk_sub e1
            refine V.g2 60 [63, 95, 93] mX7_taken_ok rfl ?_
            refine ⟨_, zsim_rfl _, ?_⟩
            have h9 := a4 e1 e4 hB3.symm
            rw [← e9] at h9
            exact h9
      · refine ⟨i, by omega, rfl, rfl, ?_⟩
        refine And.intro (fun (e2 : ¬ ((ar 3) i) = (0 : Int32)) => ?_) (fun (e2 : ((ar 3) i) = (0 : Int32)) => ?_)
        · refine zp_ne k 6 (fun e3 => ?_) (fun e3 => ?_) rfl rfl
          · refine V.g2 60 [63, 95, 93] mX7_taken_ok rfl ?_
            exact ⟨_, zsim_rfl _, a3 e1 e2 e3⟩
          · refine ⟨i, by omega, rfl, rfl, ?_⟩
            refine V.g2 60 [63, 95, 93] mX7_taken_ok rfl ?_
            exact ⟨_, zsim_rfl _, a2 e1 e2 e3⟩
        · refine V.g2 60 [63, 95, 93] mX7_taken_ok rfl ?_
          exact ⟨_, zsim_rfl _, a1 e1 e2⟩
def T7_sheet : zT := fun args hs Q => ∃ (fv : Nat → Int32) (ar : Nat → fI) (x y z : Int32), args = [.ref 0, .int x, .int y, .int z] ∧ hs = pM fv ar ∧ ((wiB x 3 && (decide ((-1 : Int32) ≤ y) && decide (y ≤ nI 2))) = false → Q (some (.int (-2))) hs) ∧ (∀ s, s < 4 → x = nI s → (-1 : Int32) ≤ y → y ≤ nI 2 → (¬ y = -1 → nI 40 < z → Q (some (.int (-2))) hs) ∧ (¬ y = -1 → z < 0 → Q (some (.int (-14))) hs) ∧ ((y = -1 ∨ (¬ nI 40 < z ∧ ¬ z < 0)) → Q (some (.int 1)) (pM fv (upa (upa (upa ar 23 (upd (ar 23) s y)) 24 (upd (ar 24) s (if y = -1 then 0 else z))) 25 (seF (ar 25) s (fun _ => 0) 40)))))
set_option maxHeartbeats 500000 in
theorem c7_sheet (l : Launch) : Ct l mX7_sheet false 2 0 0 T7_sheet := by
  refine Ct.intro mX7_sheet_ok ?_
  rintro args hs Q ⟨fv, ar, x, y, z, rfl, rfl, h0, h1⟩
  refine ⟨Nat.le_of_ble_eq_true rfl, ?_⟩
  refine V.g2 60 [29, 32, 44, 66, 70] mX7_sheet_ok rfl ?_
  refine V.cs mX7_sheet_ok rfl lX7_117 (c7_in l) rfl rfl rfl rfl ⟨_, _, _, rfl, fun B hB => ⟨rfl, ?_⟩⟩
  rcases B with _ | _
  · refine V.g2 60 [29, 32, 44, 66, 70] mX7_sheet_ok rfl ?_
    refine And.intro (fun _ => ?_) (fun e => absurd rfl e)
    refine V.g2 60 [29, 32, 44, 66, 70] mX7_sheet_ok rfl ?_
    exact ⟨_, zsim_rfl _, h0 (by rw [show wiB x 3 = false from hB.symm]; rfl)⟩
  · refine V.g2 60 [29, 32, 44, 66, 70] mX7_sheet_ok rfl ?_
    refine And.intro (fun e => absurd e (by decide)) (fun _ => ?_)
    refine V.cs mX7_sheet_ok rfl lX7_117 (c7_in l) rfl rfl rfl rfl ⟨_, _, _, rfl, fun B2 hB2 => ⟨rfl, ?_⟩⟩
    rcases B2 with _ | _
    · refine V.g2 60 [29, 32, 44, 66, 70] mX7_sheet_ok rfl ?_
      refine And.intro (fun _ => ?_) (fun e => absurd rfl e)
      refine V.g2 60 [29, 32, 44, 66, 70] mX7_sheet_ok rfl ?_
      exact ⟨_, zsim_rfl _, h0 (by rw [show (decide ((-1 : Int32) ≤ y) && decide (y ≤ nI 2)) = false from hB2.symm, Bool.and_false])⟩
    · obtain ⟨s, hs, rfl⟩ := wiB_t (n := 3) hB.symm (by omega)
      have q := hB2.symm
      simp only [Bool.and_eq_true, decide_eq_true_eq] at q
      obtain ⟨a1, a2, a3⟩ := h1 s hs rfl q.1 q.2
      have t70 : ∀ (sz : Int32), sz = (if y = -1 then 0 else z) → y = -1 ∨ (¬ nI 40 < z ∧ ¬ z < 0) → V l mX7_sheet false (pM fv ar) (zrm 2 0 0) (zFm false (pM fv ar) Q 0 0) 0 0 70 [(4, .int (nI 0)), (0, .ref 0), (1, .int (nI s)), (2, .int y), (3, .int z)] [] (pM fv (upa (upa (upa ar 23 (upd (ar 23) s y)) 24 (upd (ar 24) s sz)) 25 (ar 25))) := by
        intro sz hsz hfin
        have a4 := a3 hfin
        rw [← hsz] at a4
        clear a1 a2 a3 h0 h1
        generalize hS : pM fv ar = S
        have loop : ∀ (m k : Nat) (x4 : Int32) (ce : fI), k + m = 40 → x4 = nI k → ce = seF (ar 25) s (fun _ => 0) k → V l mX7_sheet false S (zrm 2 0 0) (zFm false S Q 0 0) 0 0 70 [(4, .int x4), (0, .ref 0), (1, .int (nI s)), (2, .int y), (3, .int z)] [] (pM fv (upa (upa (upa ar 23 (upd (ar 23) s y)) 24 (upd (ar 24) s sz)) 25 ce)) := by
          intro m
          induction m with
          | zero =>
            intro k x4 ce hk h4 hce
            have ek : k = 40 := by omega
            subst ek
            refine V.g2 60 [29, 32, 44, 66, 70] mX7_sheet_ok rfl ?_
            refine pk_le 40 40 (fun e0 => ?_) (fun e0 => absurd e0 (by omega)) rfl h4
            refine ⟨_, zsim_rfl _, ?_⟩
            rw [hce]
            exact a4
          | succ m ih =>
            intro k x4 ce hk h4 hce
            refine V.g2 60 [29, 32, 44, 66, 70] mX7_sheet_ok rfl ?_
            refine pk_le 40 k (fun e => absurd e (by omega)) (fun e => ?_) rfl h4
            refine ⟨((40 * s) + k), by omega, (nadd (nmul rfl rfl) h4), rfl, ?_⟩
            refine V.kn [4, 0, 1, 2, 3] [(4, .int (x4 + zi 1)), (0, .ref 0), (1, .int (nI s)), (2, .int y), (3, .int z)] [] (pM fv (upa (upa (upa ar 23 (upd (ar 23) s y)) 24 (upd (ar 24) s sz)) 25 (upd ce ((40 * s) + k) (nI 0)))) rfl rfl rfl ?_
            exact ih (k + 1) _ _ (by omega) (ninc h4) (by rw [hce]; exact seF_s (ar 25) s (fun _ => 0) k)
        exact loop 40 0 _ _ rfl rfl (seF_0 _ _ _).symm
      refine V.g2 60 [29, 32, 44, 66, 70] mX7_sheet_ok rfl ?_
      refine And.intro (fun e => absurd e (by decide)) (fun _ => ?_)
      refine And.intro (fun (ey : y = (-1 : Int32)) => ?_) (fun (ey : ¬ y = (-1 : Int32)) => ?_)
      · refine V.g2 60 [29, 32, 44, 66, 70] mX7_sheet_ok rfl ?_
        refine And.intro (fun (e3 : y = (-1 : Int32)) => ?_) (fun (e3 : ¬ y = (-1 : Int32)) => absurd ey e3)
        refine V.g2 60 [29, 32, 66, 70] mX7_sheet_ok rfl ?_
        refine ⟨s, by omega, rfl, rfl, ?_⟩
        refine And.intro (fun (e8 : ¬ y = (-1 : Int32)) => absurd ey e8) (fun (e8 : y = (-1 : Int32)) => ?_)
        refine V.g2 60 [29, 32, 66, 70] mX7_sheet_ok rfl ?_
        refine ⟨s, by omega, rfl, rfl, ?_⟩
        refine V.kn [4, 0, 1, 2, 3] [(4, .int (nI 0)), (0, .ref 0), (1, .int (nI s)), (2, .int y), (3, .int z)] [] (pM fv (upa (upa ar 23 (upd (ar 23) s y)) 24 (upd (ar 24) s (nI 0)))) rfl rfl rfl ?_
        exact t70 _ (by rw [if_pos ey]; rfl) (Or.inl ey)
      · refine And.intro (fun (e1b : z ≤ (nI 40)) => ?_) (fun (e1b : ¬ z ≤ (nI 40)) => ?_)
        · have e1 : ¬ nI 40 < z := Int32.not_lt.mpr e1b
          refine V.g2 60 [29, 32, 44, 66, 70] mX7_sheet_ok rfl ?_
          refine And.intro (fun (e3 : y = (-1 : Int32)) => absurd e3 ey) (fun (e3 : ¬ y = (-1 : Int32)) => ?_)
          refine And.intro (fun (e2b : (0 : Int32) ≤ z) => ?_) (fun (e2b : ¬ (0 : Int32) ≤ z) => ?_)
          · have e2 : ¬ z < 0 := Int32.not_lt.mpr e2b
            refine V.g2 60 [29, 32, 66, 70] mX7_sheet_ok rfl ?_
            refine ⟨s, by omega, rfl, rfl, ?_⟩
            refine And.intro (fun (e8 : ¬ y = (-1 : Int32)) => ?_) (fun (e8 : y = (-1 : Int32)) => absurd e8 ey)
            refine V.g2 60 [29, 32, 66, 70] mX7_sheet_ok rfl ?_
            refine ⟨s, by omega, rfl, rfl, ?_⟩
            refine V.kn [4, 0, 1, 2, 3] [(4, .int (nI 0)), (0, .ref 0), (1, .int (nI s)), (2, .int y), (3, .int z)] [] (pM fv (upa (upa ar 23 (upd (ar 23) s y)) 24 (upd (ar 24) s z))) rfl rfl rfl ?_
            exact t70 _ (by rw [if_neg ey]) (Or.inr ⟨e1, e2⟩)
          · exact ⟨_, zsim_rfl _, a2 ey (Int32.not_le.mp e2b)⟩
        · refine V.g2 60 [29, 32, 44, 66, 70] mX7_sheet_ok rfl ?_
          exact ⟨_, zsim_rfl _, a1 ey (Int32.not_le.mp e1b)⟩
theorem below_40 {x : Int32} {s : Nat} (h1 : nI 0 ≤ x) (h2 : x ≤ nI s - nI 1) (hs : s ≤ 40) : ∃ j, j < s ∧ x = nI j := by
  obtain ⟨j, hj, rfl⟩ := nI_of (Int32.not_lt.mpr h1)
  refine ⟨j, ?_, rfl⟩
  rcases Nat.eq_zero_or_pos s with e | e
  · subst e
    exact absurd h2 (fun z => nI_pos hj (Int32.lt_of_le_of_lt z (by decide)))
  · rw [pk_sub (by omega)] at h2
    have := (nI_leI hj (by omega)).mp h2
    omega
def T7_cell : zT := fun args hs Q => ∃ (fv : Nat → Int32) (ar : Nat → fI) (x y z : Int32), shOk ar ∧ args = [.ref 0, .int x, .int y, .int z] ∧ hs = pM fv ar ∧ (wiB x 3 = false → Q (some (.int (-2))) hs) ∧ (∀ s n, s < 4 → x = nI s → n ≤ 40 → ar 24 s = nI n → (ar 23 s = -1 → Q (some (.int (-11))) hs) ∧ (¬ ar 23 s = -1 → (∀ i, i < n → ¬ y = nI i) → Q (some (.int (-12))) hs) ∧ (∀ i, ¬ ar 23 s = -1 → i < n → y = nI i → Q (some (.int 1)) (pM fv (upa ar 25 (upd (ar 25) (40 * s + i) (cutF (ar 23 s) z))))))
theorem c7_cell (l : Launch) : Ct l mX7_cell false 2 0 0 T7_cell := by
  refine Ct.intro mX7_cell_ok ?_
  rintro args hs Q ⟨fv, ar, x, y, z, hsh, rfl, rfl, h0, h1⟩
  refine ⟨Nat.le_of_ble_eq_true rfl, ?_⟩
  refine V.g2 60 [84] mX7_cell_ok rfl ?_
  refine V.cs mX7_cell_ok rfl lX7_117 (c7_in l) rfl rfl rfl rfl ⟨_, _, _, rfl, fun B hB => ⟨rfl, ?_⟩⟩
  rcases B with _ | _
  · refine V.g2 60 [84] mX7_cell_ok rfl ?_
    refine And.intro (fun e => absurd rfl e) (fun _ => ?_)
    exact ⟨_, zsim_rfl _, h0 hB.symm⟩
  · obtain ⟨s, hs, rfl⟩ := wiB_t (n := 3) hB.symm (by omega)
    obtain ⟨-, n, hn, hsz⟩ := hsh s hs
    obtain ⟨a1, a2, a3⟩ := h1 s n hs rfl hn hsz
    refine V.g2 60 [84] mX7_cell_ok rfl ?_
    refine And.intro (fun _ => ?_) (fun e => absurd e (by decide))
    refine ⟨s, by omega, rfl, rfl, ?_⟩
    refine And.intro (fun (e : ¬ ((ar 23) s) = (-1 : Int32)) => ?_) (fun (e : ((ar 23) s) = (-1 : Int32)) => ?_)
    · refine ⟨s, by omega, rfl, rfl, ?_⟩
      refine V.cs mX7_cell_ok rfl lX7_117 (c7_in l) rfl rfl rfl rfl ⟨_, _, _, rfl, fun B2 hB2 => ⟨rfl, ?_⟩⟩
      rcases B2 with _ | _
      · refine V.g2 60 [84] mX7_cell_ok rfl ?_
        refine And.intro (fun e => absurd rfl e) (fun _ => ?_)
        exact ⟨_, zsim_rfl _, a2 e (fun i hi e9 => by have q : false = (decide (nI 0 ≤ y) && decide (y ≤ ar 24 s - nI 1)) := hB2; rw [e9, hsz, decide_eq_true (nI_le (Nat.zero_le i) (by omega)), pk_sub (by omega), decide_eq_true (nI_le (by omega) (by omega))] at q; cases q)⟩
      · have q := hB2.symm
        simp only [Bool.and_eq_true, decide_eq_true_eq] at q
        obtain ⟨i, hi, hy⟩ := below_40 (show nI 0 ≤ y from q.1) (show y ≤ nI n - nI 1 by rw [← hsz]; exact q.2) hn
        have a4 := a3 i e hi hy
        unfold cutF at a4
        refine V.g2 60 [84] mX7_cell_ok rfl ?_
        refine And.intro (fun _ => ?_) (fun e => absurd e (by decide))
        refine ⟨s, by omega, rfl, rfl, ?_⟩
        refine And.intro (fun (e1 : ¬ ((ar 23) s) = (0 : Int32)) => ?_) (fun (e1 : ((ar 23) s) = (0 : Int32)) => ?_)
        · refine ⟨s, by omega, rfl, rfl, ?_⟩
          refine And.intro (fun (e2 : ¬ ((ar 23) s) = (nI 1)) => ?_) (fun (e2 : ((ar 23) s) = (nI 1)) => ?_)
          · refine V.g2 60 [84] mX7_cell_ok rfl ?_
            refine ⟨((40 * s) + i), by omega, (nadd (nmul rfl rfl) hy), rfl, ?_⟩
            exact ⟨_, zsim_rfl _, (by rw [if_neg e1, if_neg e2] at a4; exact a4)⟩
          · refine V.g2 60 [84] mX7_cell_ok rfl ?_
            refine ⟨((40 * s) + i), by omega, (nadd (nmul rfl rfl) hy), rfl, ?_⟩
            exact ⟨_, zsim_rfl _, (by rw [if_neg e1, if_pos e2] at a4; exact a4)⟩
        · refine V.g2 60 [84] mX7_cell_ok rfl ?_
          refine ⟨((40 * s) + i), by omega, (nadd (nmul rfl rfl) hy), rfl, ?_⟩
          exact ⟨_, zsim_rfl _, (by rw [if_pos e1] at a4; exact a4)⟩
    · exact ⟨_, zsim_rfl _, a1 e⟩
def feV (a b c d e : Int32) (k : Nat) : Int32 := if k = 0 then a else if k = 1 then b else if k = 2 then c else if k = 3 then d else e
def fdF (tp : fI) (t : Nat) (f : Nat → Int32) (n : Nat) : fI := fun i => if t ≤ i ∧ i < t + n then f (i - t) else tp i
theorem fdF_0 (tp : fI) (t : Nat) (f : Nat → Int32) : fdF tp t f 0 = tp := by
  funext i
  unfold fdF
  rw [if_neg (by omega)]
theorem fdF_s (tp : fI) (t : Nat) (f : Nat → Int32) (n : Nat) : upd (fdF tp t f n) (t + n) (f n) = fdF tp t f (n + 1) := by
  funext i
  by_cases e : i = t + n
  · subst e
    rw [pk_us]
    unfold fdF
    rw [if_pos (by omega)]
    congr 1
    omega
  · rw [pk_un e]
    unfold fdF
    by_cases h : t ≤ i ∧ i < t + n
    · rw [if_pos h, if_pos (by omega)]
    · rw [if_neg h, if_neg (by omega)]
def feB (n a b c d e : Int32) : Bool := (decide (nI 1 ≤ n) && decide (n ≤ nI 5)) && wiB a 255 && wiB b 255 && wiB c 255 && wiB d 255 && wiB e 255
def T7_feed : zT := fun args hs Q => ∃ (fv : Nat → Int32) (ar : Nat → fI) (x a b c d e : Int32) (t : Nat), t ≤ 160 ∧ fv 14 = nI t ∧ args = [.ref 0, .int x, .int a, .int b, .int c, .int d, .int e] ∧ hs = pM fv ar ∧ (feB x a b c d e = false → Q (some (.int (-2))) hs) ∧ (∀ n, 1 ≤ n → n ≤ 5 → x = nI n → feB x a b c d e = true → (160 < t + n → Q (some (.int (-4))) hs) ∧ (t + n ≤ 160 → Q (some (.int (nI (t + n)))) (pM (upf fv 14 (nI (t + n))) (upa ar 13 (fdF (ar 13) t (feV a b c d e) n)))))
set_option maxHeartbeats 500000 in
theorem c7_feed (l : Launch) : Ct l mX7_feed false 3 0 0 T7_feed := by
  refine Ct.intro mX7_feed_ok ?_
  rintro args hs Q ⟨fv, ar, x, a, b, c, d, e, t, ht, h14, rfl, rfl, h0, h1⟩
  refine ⟨Nat.le_of_ble_eq_true rfl, ?_⟩
  have t47 : feB x a b c d e = false → V l mX7_feed false (pM fv ar) (zrm 3 0 0) (zFm false (pM fv ar) Q 0 0) 0 0 47 [(0, .ref 0), (1, .int x), (2, .int a), (3, .int b), (4, .int c), (5, .int d), (6, .int e)] [] (pM fv ar) := by
    intro  hf
    refine V.g2 60 [47, 68, 125] mX7_feed_ok rfl ?_
    exact ⟨_, zsim_rfl _, h0 hf⟩
  refine V.g2 60 [47, 68, 125] mX7_feed_ok rfl ?_
  refine V.cs mX7_feed_ok rfl lX7_117 (c7_in l) rfl rfl rfl rfl ⟨_, _, _, rfl, fun B hB => ⟨rfl, ?_⟩⟩
  rcases B with _ | _
  · refine V.g2 60 [47, 68, 125] mX7_feed_ok rfl ?_
    refine And.intro (fun _ => ?_) (fun e => absurd rfl e)
    refine V.kn [0, 1, 2, 3, 4, 5, 6] [(0, .ref 0), (1, .int x), (2, .int a), (3, .int b), (4, .int c), (5, .int d), (6, .int e)] [] (pM fv ar) rfl rfl rfl ?_
    exact t47 (by unfold feB; rw [show (decide (nI 1 ≤ x) && decide (x ≤ nI 5)) = false from hB.symm]; rfl)
  · refine V.g2 60 [47, 68, 125] mX7_feed_ok rfl ?_
    refine And.intro (fun e => absurd e (by decide)) (fun _ => ?_)
    refine V.cs mX7_feed_ok rfl lX7_134 (c7_isByte l) rfl rfl rfl rfl ⟨_, rfl, fun Ba hBa => ⟨rfl, ?_⟩⟩
    rcases Ba with _ | _
    · refine V.g2 60 [47, 68, 125] mX7_feed_ok rfl ?_
      refine And.intro (fun _ => ?_) (fun e => absurd rfl e)
      refine V.kn [0, 1, 2, 3, 4, 5, 6] [(0, .ref 0), (1, .int x), (2, .int a), (3, .int b), (4, .int c), (5, .int d), (6, .int e)] [] (pM fv ar) rfl rfl rfl ?_
      exact t47 (by unfold feB; rw [show wiB a 255 = false from hBa.symm]; simp)
    · refine V.g2 60 [47, 68, 125] mX7_feed_ok rfl ?_
      refine And.intro (fun e => absurd e (by decide)) (fun _ => ?_)
      refine V.cs mX7_feed_ok rfl lX7_134 (c7_isByte l) rfl rfl rfl rfl ⟨_, rfl, fun Bb hBb => ⟨rfl, ?_⟩⟩
      rcases Bb with _ | _
      · refine V.g2 60 [47, 68, 125] mX7_feed_ok rfl ?_
        refine And.intro (fun _ => ?_) (fun e => absurd rfl e)
        refine V.kn [0, 1, 2, 3, 4, 5, 6] [(0, .ref 0), (1, .int x), (2, .int a), (3, .int b), (4, .int c), (5, .int d), (6, .int e)] [] (pM fv ar) rfl rfl rfl ?_
        exact t47 (by unfold feB; rw [show wiB b 255 = false from hBb.symm]; simp)
      · refine V.g2 60 [47, 68, 125] mX7_feed_ok rfl ?_
        refine And.intro (fun e => absurd e (by decide)) (fun _ => ?_)
        refine V.cs mX7_feed_ok rfl lX7_134 (c7_isByte l) rfl rfl rfl rfl ⟨_, rfl, fun Bc hBc => ⟨rfl, ?_⟩⟩
        rcases Bc with _ | _
        · refine V.g2 60 [47, 68, 125] mX7_feed_ok rfl ?_
          refine And.intro (fun _ => ?_) (fun e => absurd rfl e)
          refine V.kn [0, 1, 2, 3, 4, 5, 6] [(0, .ref 0), (1, .int x), (2, .int a), (3, .int b), (4, .int c), (5, .int d), (6, .int e)] [] (pM fv ar) rfl rfl rfl ?_
          exact t47 (by unfold feB; rw [show wiB c 255 = false from hBc.symm]; simp)
        · refine V.g2 60 [47, 68, 125] mX7_feed_ok rfl ?_
          refine And.intro (fun e => absurd e (by decide)) (fun _ => ?_)
          refine V.cs mX7_feed_ok rfl lX7_134 (c7_isByte l) rfl rfl rfl rfl ⟨_, rfl, fun Bd hBd => ⟨rfl, ?_⟩⟩
          rcases Bd with _ | _
          · refine V.g2 60 [47, 68, 125] mX7_feed_ok rfl ?_
            refine And.intro (fun _ => ?_) (fun e => absurd rfl e)
            refine V.kn [0, 1, 2, 3, 4, 5, 6] [(0, .ref 0), (1, .int x), (2, .int a), (3, .int b), (4, .int c), (5, .int d), (6, .int e)] [] (pM fv ar) rfl rfl rfl ?_
            exact t47 (by unfold feB; rw [show wiB d 255 = false from hBd.symm]; simp)
          · refine V.g2 60 [47, 68, 125] mX7_feed_ok rfl ?_
            refine And.intro (fun e => absurd e (by decide)) (fun _ => ?_)
            refine V.cs mX7_feed_ok rfl lX7_134 (c7_isByte l) rfl rfl rfl rfl ⟨_, rfl, fun Be hBe => ⟨rfl, ?_⟩⟩
            rcases Be with _ | _
            · refine V.g2 60 [47, 68, 125] mX7_feed_ok rfl ?_
              refine And.intro (fun e => absurd rfl e) (fun _ => ?_)
              refine V.kn [0, 1, 2, 3, 4, 5, 6] [(0, .ref 0), (1, .int x), (2, .int a), (3, .int b), (4, .int c), (5, .int d), (6, .int e)] [] (pM fv ar) rfl rfl rfl ?_
              exact t47 (by unfold feB; rw [show wiB e 255 = false from hBe.symm]; simp)
            · have hall : feB x a b c d e = true := by unfold feB; rw [show (decide (nI 1 ≤ x) && decide (x ≤ nI 5)) = true from hB.symm, show wiB a 255 = true from hBa.symm, show wiB b 255 = true from hBb.symm, show wiB c 255 = true from hBc.symm, show wiB d 255 = true from hBd.symm, show wiB e 255 = true from hBe.symm]; rfl
              have q := hB.symm
              simp only [Bool.and_eq_true, decide_eq_true_eq] at q
              obtain ⟨n, hn, rfl⟩ := nI_of (Int32.not_lt.mpr (Int32.le_trans (show (0 : Int32) ≤ nI 1 by decide) (show nI 1 ≤ x from q.1)))
              have hn1 : 1 ≤ n := (nI_leI (by omega) hn).mp (show nI 1 ≤ nI n from q.1)
              have hn5 : n ≤ 5 := (nI_leI hn (by omega)).mp (show nI n ≤ nI 5 from q.2)
              obtain ⟨a1, a2⟩ := h1 n hn1 hn5 rfl hall
              refine V.g2 60 [47, 68, 125] mX7_feed_ok rfl ?_
              refine And.intro (fun _ => ?_) (fun e => absurd e (by decide))
              refine pk_le (t + n) 160 (fun e1 => ?_) (fun e1 => ?_) (nadd h14 rfl) rfl
              · have a3 := a2 e1
                clear a1 a2 h0 h1
                generalize hS : pM fv ar = S
                have loop : ∀ (m k : Nat) (x7 tp : Int32) (row : fI), k + m = n → x7 = nI k → tp = nI (t + k) → row = fdF (ar 13) t (feV a b c d e) k → V l mX7_feed false S (zrm 3 0 0) (zFm false S Q 0 0) 0 0 68 [(7, .int x7), (0, .ref 0), (1, .int (nI n)), (2, .int a), (3, .int b), (4, .int c), (5, .int d), (6, .int e)] [] (pM (upf fv 14 tp) (upa ar 13 row)) := by
                  intro m
                  induction m with
                  | zero =>
                    intro k x7 tp row hk h7 htp hrow
                    have ek : k = n := by omega
                    rw [ek] at htp hrow
                    refine V.g2 60 [47, 68, 125] mX7_feed_ok rfl ?_
                    refine pk_le n k (fun e => ?_) (fun e => absurd e (by omega)) rfl h7
                    refine ⟨_, zsim_rfl _, ?_⟩
                    rw [htp, hrow]
                    exact a3
                  | succ m ih =>
                    intro k x7 tp row hk h7 htp hrow
                    refine V.g2 60 [47, 68, 125] mX7_feed_ok rfl ?_
                    refine pk_le n k (fun el => absurd el (by omega)) (fun el => ?_) rfl h7
                    have t125 : ∀ (v : Int32), v = feV a b c d e k → V l mX7_feed false S (zrm 3 0 0) (zFm false S Q 0 0) 0 0 125 [(7, .int x7), (0, .ref 0), (1, .int (nI n)), (2, .int a), (3, .int b), (4, .int c), (5, .int d), (6, .int e)] [.int v, .int tp, .ref 18] (pM (upf fv 14 tp) (upa ar 13 row)) := by
                      intro v hv
                      refine V.g2 60 [47, 68, 125] mX7_feed_ok rfl ?_
                      refine ⟨(t + k), by omega, htp, rfl, ?_⟩
                      refine V.kn [7, 0, 1, 2, 3, 4, 5, 6] [(7, .int (x7 + zi 1)), (0, .ref 0), (1, .int (nI n)), (2, .int a), (3, .int b), (4, .int c), (5, .int d), (6, .int e)] [] (pM (upf fv 14 (tp + (nI 1))) (upa ar 13 (upd row (t + k) v))) rfl rfl rfl ?_
                      exact ih (k + 1) _ _ _ (by omega) (ninc h7) (by rw [htp]; exact nI_1 _) (by rw [hrow, hv]; exact fdF_s _ _ _ _)
                    refine zp_ne k 0 (fun g0 => ?_) (fun g0 => ?_) h7 rfl
                    · refine zp_ne k 1 (fun g1 => ?_) (fun g1 => ?_) h7 rfl
                      · refine zp_ne k 2 (fun g2 => ?_) (fun g2 => ?_) h7 rfl
                        · refine zp_ne k 3 (fun g3 => ?_) (fun g3 => ?_) h7 rfl
                          · refine V.kn [7, 0, 1, 2, 3, 4, 5, 6] [(7, .int x7), (0, .ref 0), (1, .int (nI n)), (2, .int a), (3, .int b), (4, .int c), (5, .int d), (6, .int e)] [.int e, .int tp, .ref 18] (pM (upf fv 14 tp) (upa ar 13 row)) rfl rfl rfl ?_
                            exact t125 _ (by unfold feV; rw [if_neg g0]; rw [if_neg g1]; rw [if_neg g2]; rw [if_neg g3])
                          · refine V.kn [7, 0, 1, 2, 3, 4, 5, 6] [(7, .int x7), (0, .ref 0), (1, .int (nI n)), (2, .int a), (3, .int b), (4, .int c), (5, .int d), (6, .int e)] [.int d, .int tp, .ref 18] (pM (upf fv 14 tp) (upa ar 13 row)) rfl rfl rfl ?_
                            exact t125 _ (by unfold feV; rw [if_neg g0]; rw [if_neg g1]; rw [if_neg g2]; rw [if_pos g3])
                        · refine V.kn [7, 0, 1, 2, 3, 4, 5, 6] [(7, .int x7), (0, .ref 0), (1, .int (nI n)), (2, .int a), (3, .int b), (4, .int c), (5, .int d), (6, .int e)] [.int c, .int tp, .ref 18] (pM (upf fv 14 tp) (upa ar 13 row)) rfl rfl rfl ?_
                          exact t125 _ (by unfold feV; rw [if_neg g0]; rw [if_neg g1]; rw [if_pos g2])
                      · refine V.kn [7, 0, 1, 2, 3, 4, 5, 6] [(7, .int x7), (0, .ref 0), (1, .int (nI n)), (2, .int a), (3, .int b), (4, .int c), (5, .int d), (6, .int e)] [.int b, .int tp, .ref 18] (pM (upf fv 14 tp) (upa ar 13 row)) rfl rfl rfl ?_
                        exact t125 _ (by unfold feV; rw [if_neg g0]; rw [if_pos g1])
                    · refine V.kn [7, 0, 1, 2, 3, 4, 5, 6] [(7, .int x7), (0, .ref 0), (1, .int (nI n)), (2, .int a), (3, .int b), (4, .int c), (5, .int d), (6, .int e)] [.int a, .int tp, .ref 18] (pM (upf fv 14 tp) (upa ar 13 row)) rfl rfl rfl ?_
                      exact t125 _ (by unfold feV; rw [if_pos g0])
                subst hS
                refine V.kn [7, 0, 1, 2, 3, 4, 5, 6] [(7, .int (nI 0)), (0, .ref 0), (1, .int (nI n)), (2, .int a), (3, .int b), (4, .int c), (5, .int d), (6, .int e)] [] (pM fv ar) rfl rfl rfl ?_
                exact loop n 0 _ _ (ar 13) (by omega) rfl h14 (fdF_0 _ _ _).symm
              · exact ⟨_, zsim_rfl _, a1 e1⟩
