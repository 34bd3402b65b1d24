/-! ===== Cart: pictures, pure words, contracts ===== -/
abbrev fI : Type := Nat → Int32
/-- kind, more, kicked, load, hand, wide, pace -/
abbrev zCart : Type := fI × fI × fI × fI × fI × fI × Int32
abbrev kdC (c : zCart) : fI := c.1
abbrev moC (c : zCart) : fI := c.2.1
abbrev kiC (c : zCart) : fI := c.2.2.1
abbrev loC (c : zCart) : fI := c.2.2.2.1
abbrev haC (c : zCart) : fI := c.2.2.2.2.1
abbrev wiC (c : zCart) : fI := c.2.2.2.2.2.1
abbrev paC (c : zCart) : Int32 := c.2.2.2.2.2.2
/-- a Cart whose first cell is at place o -/
abbrev pCart (o : Nat) (c : zCart) : List zE := [.inr (0, [.ref (2 * (o + 1)), .ref (2 * (o + 2)), .ref (2 * (o + 3)), .ref (2 * (o + 4)), .ref (2 * (o + 5)), .ref (2 * (o + 6)), .int (paC c)]), .inl (0, 4, .inl (kdC c)), .inl (0, 4, .inl (moC c)), .inl (0, 4, .inl (kiC c)), .inl (0, 8, .inl (loC c)), .inl (0, 2, .inl (haC c)), .inl (0, 30, .inl (wiC c))]
theorem zp_ne {x y : Int32} {A B : Prop} (a b : Nat) (f : a ≠ b → A) (g : a = b → B) (hx : x = nI a := by rfl) (hy : y = nI b := by rfl) (ha : a < 2 ^ 31 := by omega) (hb : b < 2 ^ 31 := by omega) : (¬ x = y → A) ∧ (x = y → B) := And.comm.mp (pk_eq a b g f hx hy ha hb)
theorem zi_lit (n : Nat) : zi (OfNat.ofNat n) = nI n := rfl
def ldO (c : zCart) (w : Nat) : Int32 := loC c (2 * w) + loC c (2 * w + 1)
def T_loadOver : zT := fun args hs Q => ∃ (c : zCart) (w : Nat), w < 4 ∧ args = [.ref 0, .int (nI w)] ∧ hs = pCart 0 c ∧ Q (some (.int (ldO c w))) hs
theorem ct_loadOver (l : Launch) : Ct l mX0_loadOver false 1 0 0 T_loadOver := by
  refine Ct.intro mX0_loadOver_ok ?_
  rintro args hs Q ⟨c, w, hw, rfl, rfl, hq⟩
  refine ⟨Nat.le_of_ble_eq_true rfl, ?_⟩
  refine V.g 20 [] mX0_loadOver_ok rfl ?_
  have e1 : nI 2 * nI w = nI (2 * w) := pk_mul 2 w
  have e2 : nI 2 * nI w + nI 1 = nI (2 * w + 1) := by rw [e1, nI_add]
  refine And.intro (pk_in (2 * w) 8 (by omega) e1) (And.intro (pk_in (2 * w + 1) 8 (by omega) e2) ⟨_, zsim_rfl _, ?_⟩)
  have h1 := pk_cl (2 * w) e1
  have h2 := pk_cl (2 * w + 1) e2
  show Q (some (.int (loC c (nI 2 * nI w).toNatClampNeg + loC c (nI 2 * nI w + nI 1).toNatClampNeg))) _
  rw [h1, h2]
  exact hq
def T_takeHands : zT := fun args hs Q => ∃ (c : zCart) (h : Nat), h < 100 ∧ args = [.ref 0, .int (nI h)] ∧ hs = pCart 0 c ∧ Q none (pCart 0 (kdC c, moC c, kiC c, loC c, upd (upd (haC c) 0 (nI (h / 10))) 1 (nI (h % 10)), wiC c, paC c))
theorem ct_takeHands (l : Launch) : Ct l mX0_takeHands false 1 0 0 T_takeHands := by
  refine Ct.intro mX0_takeHands_ok ?_
  rintro args hs Q ⟨c, h, hh, rfl, rfl, hq⟩
  refine ⟨Nat.le_of_ble_eq_true rfl, ?_⟩
  refine V.g 30 [] mX0_takeHands_ok rfl ?_
  refine And.intro (show ¬ nI 10 = 0 by decide) (And.intro (pk_in 0 2 (by omega)) (And.intro (show ¬ nI 10 = 0 by decide) (And.intro (pk_in 1 2 (by omega)) ⟨_, zsim_rfl _, ?_⟩)))
  have e1 : nI h / nI 10 = nI (h / 10) := pk_div (by omega) (by omega) (by omega)
  have e2 : nI h - nI h / nI 10 * nI 10 = nI (h % 10) := pk_rem (by omega) (by omega) (by omega)
  rw [← e1, ← e2] at hq
  exact hq
def smT (f : fI) : Nat → Int32
  | 0 => 0
  | n + 1 => smT f n + f n
def T_wholeLoad : zT := fun args hs Q => ∃ c : zCart, args = [.ref 0] ∧ hs = pCart 0 c ∧ Q (some (.int (smT (loC c) 8))) hs
theorem ct_wholeLoad (l : Launch) : Ct l mX0_wholeLoad false 1 0 0 T_wholeLoad := by
  refine Ct.intro mX0_wholeLoad_ok ?_
  rintro args hs Q ⟨c, rfl, rfl, hq⟩
  refine ⟨Nat.le_of_ble_eq_true rfl, ?_⟩
  have loop : ∀ (n i : Nat) (x y : Int32), i + n = 8 → x = nI i → y = smT (loC c) i → V l mX0_wholeLoad false (pCart 0 c) (zrm 1 0 0) (zFm false (pCart 0 c) Q 0 0) 0 0 4 [(2, .int x), (1, .int y), (0, .ref 0)] [] (pCart 0 c) := by
    intro n
    induction n with
    | zero =>
      intro i x y hi hx hy
      refine V.g 20 [4] mX0_wholeLoad_ok rfl ?_
      refine pk_le 8 i (fun _ => ?_) (fun q => absurd q (by omega)) rfl hx
      refine ⟨_, zsim_rfl _, ?_⟩
      have : i = 8 := by omega
      subst this
      rw [← hy] at hq
      exact hq
    | succ n ih =>
      intro i x y hi hx hy
      refine V.g 20 [4] mX0_wholeLoad_ok rfl ?_
      refine pk_le 8 i (fun q => absurd q (by omega)) (fun _ => ?_) rfl hx
      refine And.intro (pk_in i 8 (by omega) hx) ?_
      refine ih (i + 1) _ _ (by omega) (by rw [hx]; exact nI_1 i) ?_
      rw [pk_cl i hx, hy]
      rfl
  exact V.g 20 [4] mX0_wholeLoad_ok rfl (loop 8 0 _ _ rfl rfl rfl)
