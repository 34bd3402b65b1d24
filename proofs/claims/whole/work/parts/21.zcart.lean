/-! ===== Cart: pictures, pure words, contracts ===== -/
abbrev fI : Type := Nat → Int32
/-- kind, more, kicked, load, hand, wide, pace -/
abbrev zCart : Type := fI × fI × fI × fI × fI × fI × Int32
abbrev kdC (c : zCart) : fI := c.1
abbrev moC (c : zCart) : fI := c.2.1
abbrev kiC (c : zCart) : fI := c.2.2.1
abbrev loC (c : zCart) : fI := c.2.2.2.1
abbrev haC (c : zCart) : fI := c.2.2.2.2.1
abbrev wiC (c : zCart) : fI := c.2.2.2.2.2.1
abbrev paC (c : zCart) : Int32 := c.2.2.2.2.2.2
/-- a Cart whose first cell is at place o -/
abbrev pCart (o : Nat) (c : zCart) : List zE := [.inr (0, [.ref (2 * (o + 1)), .ref (2 * (o + 2)), .ref (2 * (o + 3)), .ref (2 * (o + 4)), .ref (2 * (o + 5)), .ref (2 * (o + 6)), .int (paC c)]), .inl (0, 4, .inl (kdC c)), .inl (0, 4, .inl (moC c)), .inl (0, 4, .inl (kiC c)), .inl (0, 8, .inl (loC c)), .inl (0, 2, .inl (haC c)), .inl (0, 30, .inl (wiC c))]
theorem zp_ne {x y : Int32} {A B : Prop} (a b : Nat) (f : a ≠ b → A) (g : a = b → B) (hx : x = nI a := by rfl) (hy : y = nI b := by rfl) (ha : a < 2 ^ 31 := by omega) (hb : b < 2 ^ 31 := by omega) : (¬ x = y → A) ∧ (x = y → B) := And.comm.mp (pk_eq a b g f hx hy ha hb)
theorem zi_lit (n : Nat) : zi (OfNat.ofNat n) = nI n := rfl
def ldO (c : zCart) (w : Nat) : Int32 := loC c (2 * w) + loC c (2 * w + 1)
def T_loadOver : zT := fun args hs Q => ∃ (c : zCart) (w : Nat), w < 4 ∧ args = [.ref 0, .int (nI w)] ∧ hs = pCart 0 c ∧ Q (some (.int (ldO c w))) hs
theorem ct_loadOver (l : Launch) : Ct l mX0_loadOver false 1 0 0 T_loadOver := by
  refine Ct.intro mX0_loadOver_ok ?_
  rintro args hs Q ⟨c, w, hw, rfl, rfl, hq⟩
  refine ⟨Nat.le_of_ble_eq_true rfl, ?_⟩
  refine V.g 20 [] mX0_loadOver_ok rfl ?_
  have e1 : nI 2 * nI w = nI (2 * w) := pk_mul 2 w
  have e2 : nI 2 * nI w + nI 1 = nI (2 * w + 1) := by rw [e1, nI_add]
  refine And.intro (pk_in (2 * w) 8 (by omega) e1) (And.intro (pk_in (2 * w + 1) 8 (by omega) e2) ⟨_, zsim_rfl _, ?_⟩)
  have h1 := pk_cl (2 * w) e1
  have h2 := pk_cl (2 * w + 1) e2
  show Q (some (.int (loC c (nI 2 * nI w).toNatClampNeg + loC c (nI 2 * nI w + nI 1).toNatClampNeg))) _
  rw [h1, h2]
  exact hq
def T_takeHands : zT := fun args hs Q => ∃ (c : zCart) (h : Nat), h < 100 ∧ args = [.ref 0, .int (nI h)] ∧ hs = pCart 0 c ∧ Q none (pCart 0 (kdC c, moC c, kiC c, loC c, upd (upd (haC c) 0 (nI (h / 10))) 1 (nI (h % 10)), wiC c, paC c))
theorem ct_takeHands (l : Launch) : Ct l mX0_takeHands false 1 0 0 T_takeHands := by
  refine Ct.intro mX0_takeHands_ok ?_
  rintro args hs Q ⟨c, h, hh, rfl, rfl, hq⟩
  refine ⟨Nat.le_of_ble_eq_true rfl, ?_⟩
  refine V.g 30 [] mX0_takeHands_ok rfl ?_
  refine And.intro (show ¬ nI 10 = 0 by decide) (And.intro (pk_in 0 2 (by omega)) (And.intro (show ¬ nI 10 = 0 by decide) (And.intro (pk_in 1 2 (by omega)) ⟨_, zsim_rfl _, ?_⟩)))
  have e1 : nI h / nI 10 = nI (h / 10) := pk_div (by omega) (by omega) (by omega)
  have e2 : nI h - nI h / nI 10 * nI 10 = nI (h % 10) := pk_rem (by omega) (by omega) (by omega)
  rw [← e1, ← e2] at hq
  exact hq
def smT (f : fI) : Nat → Int32
  | 0 => 0
  | n + 1 => smT f n + f n
def T_wholeLoad : zT := fun args hs Q => ∃ c : zCart, args = [.ref 0] ∧ hs = pCart 0 c ∧ Q (some (.int (smT (loC c) 8))) hs
theorem ct_wholeLoad (l : Launch) : Ct l mX0_wholeLoad false 1 0 0 T_wholeLoad := by
  refine Ct.intro mX0_wholeLoad_ok ?_
  rintro args hs Q ⟨c, rfl, rfl, hq⟩
  refine ⟨Nat.le_of_ble_eq_true rfl, ?_⟩
  have loop : ∀ (n i : Nat) (x y : Int32), i + n = 8 → x = nI i → y = smT (loC c) i → V l mX0_wholeLoad false (pCart 0 c) (zrm 1 0 0) (zFm false (pCart 0 c) Q 0 0) 0 0 4 [(2, .int x), (1, .int y), (0, .ref 0)] [] (pCart 0 c) := by
    intro n
    induction n with
    | zero =>
      intro i x y hi hx hy
      refine V.g 20 [4] mX0_wholeLoad_ok rfl ?_
      refine pk_le 8 i (fun _ => ?_) (fun q => absurd q (by omega)) rfl hx
      refine ⟨_, zsim_rfl _, ?_⟩
      have : i = 8 := by omega
      subst this
      rw [← hy] at hq
      exact hq
    | succ n ih =>
      intro i x y hi hx hy
      refine V.g 20 [4] mX0_wholeLoad_ok rfl ?_
      refine pk_le 8 i (fun q => absurd q (by omega)) (fun _ => ?_) rfl hx
      refine And.intro (pk_in i 8 (by omega) hx) ?_
      refine ih (i + 1) _ _ (by omega) (by rw [hx]; exact nI_1 i) ?_
      rw [pk_cl i hx, hy]
      rfl
  exact V.g 20 [4] mX0_wholeLoad_ok rfl (loop 8 0 _ _ rfl rfl rfl)
def T_exchange : zT := fun args hs Q => ∃ (c : zCart) (p q : Nat), p < 8 ∧ q < 8 ∧ args = [.ref 0, .int (nI p), .int (nI q)] ∧ hs = pCart 0 c ∧ Q none (pCart 0 (kdC c, moC c, kiC c, upd (upd (loC c) p (loC c q)) q (loC c p), haC c, wiC c, paC c))
theorem ct_exchange (l : Launch) : Ct l mX0_exchange false 1 0 0 T_exchange := by
  refine Ct.intro mX0_exchange_ok ?_
  rintro args hs Q ⟨c, p, q, hp, hq, rfl, rfl, h⟩
  refine ⟨Nat.le_of_ble_eq_true rfl, ?_⟩
  refine V.g 30 [] mX0_exchange_ok rfl ?_
  refine And.intro (pk_in p 8 hp) (And.intro (pk_in q 8 hq) (And.intro (pk_in p 8 hp) (And.intro (pk_in q 8 hq) ⟨_, zsim_rfl _, ?_⟩)))
  have e1 := pk_cl (x := nI p) p
  have e2 := pk_cl (x := nI q) q
  rw [← e1, ← e2] at h
  rw [← e1, ← e2]
  simp only [e1, e2] at h ⊢
  exact h
def T_makePlain : zT := fun args hs Q => ∃ (c : zCart) (w : Nat), w < 4 ∧ args = [.ref 0, .int (nI w)] ∧ hs = pCart 0 c ∧ Q none (pCart 0 (upd (kdC c) w 0, upd (moC c) w 0, kiC c, loC c, haC c, wiC c, paC c))
theorem ct_makePlain (l : Launch) : Ct l mX0_makePlain false 1 0 0 T_makePlain := by
  refine Ct.intro mX0_makePlain_ok ?_
  rintro args hs Q ⟨c, w, hw, rfl, rfl, h⟩
  refine ⟨Nat.le_of_ble_eq_true rfl, ?_⟩
  refine V.g 30 [] mX0_makePlain_ok rfl ?_
  refine And.intro (pk_in w 4 hw) (And.intro (pk_in w 4 hw) ⟨_, zsim_rfl _, ?_⟩)
  have e1 := pk_cl (x := nI w) w
  rw [← e1] at h
  exact h
theorem zcpy_full {f g : fI} {N : Nat} (hN : N < 2 ^ 31) : ∀ i, i < N → va_cpy f g (nI 0).toNatClampNeg (nI 0).toNatClampNeg (nI N).toNatClampNeg i = f i := by
  intro i hi
  rw [nI_clamp hN, nI_clamp (by omega), pk_cpy_in (by omega) (by omega)]
  congr 1
  omega
def T_cbecome : zT := fun args hs Q => ∃ (c d : zCart), args = [.ref 0, .ref 14] ∧ hs = pCart 0 c ++ pCart 7 d ∧ Q none (pCart 0 d ++ pCart 7 d)
theorem ct_cbecome (l : Launch) : Ct l mX0_become false 2 0 0 T_cbecome := by
  refine Ct.intro mX0_become_ok ?_
  rintro args hs Q ⟨c, d, rfl, rfl, h⟩
  refine ⟨Nat.le_of_ble_eq_true rfl, ?_⟩
  refine V.g 30 [] mX0_become_ok rfl ?_
  refine V.acopy mX0_become_ok rfl lX0_40 rfl rfl 8 1 rfl rfl (by decide) (by decide) (by decide) (by decide) (by decide) ?_
  refine V.g 30 [] mX0_become_ok rfl ?_
  refine V.acopy mX0_become_ok rfl lX0_40 rfl rfl 9 2 rfl rfl (by decide) (by decide) (by decide) (by decide) (by decide) ?_
  refine V.g 30 [] mX0_become_ok rfl ?_
  refine V.acopy mX0_become_ok rfl lX0_40 rfl rfl 10 3 rfl rfl (by decide) (by decide) (by decide) (by decide) (by decide) ?_
  refine V.g 30 [] mX0_become_ok rfl ?_
  refine V.acopy mX0_become_ok rfl lX0_40 rfl rfl 11 4 rfl rfl (by decide) (by decide) (by decide) (by decide) (by decide) ?_
  refine V.g 30 [] mX0_become_ok rfl ?_
  refine V.acopy mX0_become_ok rfl lX0_40 rfl rfl 12 5 rfl rfl (by decide) (by decide) (by decide) (by decide) (by decide) ?_
  refine V.g 30 [] mX0_become_ok rfl ?_
  refine V.acopy mX0_become_ok rfl lX0_40 rfl rfl 13 6 rfl rfl (by decide) (by decide) (by decide) (by decide) (by decide) ?_
  refine V.g 30 [] mX0_become_ok rfl ?_
  refine ⟨_, ?_, h⟩
  exact zsim_c (zsm_rfl _) (zsim_c (zsm_i (zcpy_full (by decide))) (zsim_c (zsm_i (zcpy_full (by decide))) (zsim_c (zsm_i (zcpy_full (by decide))) (zsim_c (zsm_i (zcpy_full (by decide))) (zsim_c (zsm_i (zcpy_full (by decide))) (zsim_c (zsm_i (zcpy_full (by decide))) (zsim_rfl _)))))))
def isU (k o : Nat) : Bool := Nat.beq o 0 || Nat.beq k o || (Nat.beq o 1 && Nat.beq k 3) || (Nat.beq o 2 && Nat.beq k 4)
def kAb (k : Nat) : Int32 := [0, 0, 0, 1, 2, 0].getD k 0
theorem V.ka {l : Launch} {b : Bool} {hs0 : List zE} {R : Room} {F : zF} {nc ns : Nat} {lv : zL} {c : zCart} {w kw : Nat} (hw : w < 4) (hk : kw < 6) (hkd : kdC c w = nI kw) (h0 : zgt lv 0 = some (.ref 0)) (h1 : zgt lv 1 = some (.int (nI w))) (h : V l mX0_isOfKind b hs0 R F nc ns 24 lv [.int (kAb kw)] (pCart 0 c)) : V l mX0_isOfKind b hs0 R F nc ns 14 lv [] (pCart 0 c) := by
  intro p en s m args below meth cd D tc ad0 ad ls H locs X E xa P A S L
  obtain ⟨t, hZ, hT⟩ := E.1
  have hM := mX0_isOfKind_ok
  obtain ⟨d14, -, -⟩ := zgd_dec (hM.2.1 14 (.getstatic 46, 17, 0) rfl) (k := 2) rfl
  obtain ⟨d17, -, -⟩ := zgd_dec (hM.2.1 17 (.aload_n 0, 18, 0) rfl) (k := 0) rfl
  obtain ⟨d18, -, -⟩ := zgd_dec (hM.2.1 18 (.getfield 9, 21, 0) rfl) (k := 2) rfl
  obtain ⟨d21, -, -⟩ := zgd_dec (hM.2.1 21 (.iload_n 1, 22, 0) rfl) (k := 0) rfl
  obtain ⟨d22, -, -⟩ := zgd_dec (hM.2.1 22 (.iaload, 23, 0) rfl) (k := 0) rfl
  obtain ⟨d23, -, -⟩ := zgd_dec (hM.2.1 23 (.iaload, 24, 0) rfl) (k := 0) rfl
  refine va_getsN X.1 X.2.1 hZ S X.2.2.2.2.1 (va_Nw.use rfl (E.2.2.2.2.2 (.fieldLinkNest "PullsToTheLeft$Cart" 46 "PullsToTheLeft" "KIND_ABOVE" "[I" "PullsToTheLeft") (List.mem_of_getElem? (i := 6) rfl))) (fun x h => h) d14 ?_
  refine lv_aload_n X.1 X.2.1 d17 rfl (zgt_spec L h0) ?_
  obtain ⟨C, T, N, ty, hc, hkN, hlk, hty, -⟩ := hM.2.2.1 (9, 0, 0, 7) (by decide)
  have he : (zw tc ad (pCart 0 c))[0]? = some (ad 0, .inr (0, [.ref (ad 2), .ref (ad 4), .ref (ad 6), .ref (ad 8), .ref (ad 10), .ref (ad 12), .int (paC c)])) := rfl
  refine va_get X.1 X.2.1 (Ts := z_tbl) X.2.2.2.2.2.1 (zcl_all _ _ hc).1 X.2.2.2.2.1 X.2.2.2.2.2.2.2.2 P 0 he hc 0 hkN (X.2.2.2.2.2.1 _ hlk) (fun x h => h) (v := .ref (ad 2)) rfl d18 ?_
  refine lv_iload_n X.1 X.2.1 d21 rfl (zgt_spec L h1) ?_
  have he1 : (zw tc ad (pCart 0 c))[1]? = some (ad 2, .inl (tc 0, 4, .inl (kdC c))) := rfl
  refine va_iald X.1 X.2.1 X.2.2.2.2.2.2.2.2 P 1 0 he1 (zty_get0 tc) (pk_in w 4 hw) d22 ?_
  rw [pk_cl (x := nI w) w, hkd]
  refine va_ti X.1 X.2.1 hT S (pk_in kw 6 hk) (v := .int (kAb kw)) (by rw [pk_cl (x := nI kw) kw]; rfl) d23 ?_
  exact h p en s m args below meth cd D tc ad0 ad ls H locs X E xa P A S L
def T_isOfKind : zT := fun args hs Q => ∃ (c : zCart) (w k kw : Nat), w < 4 ∧ k < 6 ∧ kw < 6 ∧ kdC c w = nI kw ∧ args = [.ref 0, .int (nI w), .int (nI k)] ∧ hs = pCart 0 c ∧ Q (some (.int (bI (isU kw k)))) hs
theorem isU_kab : ∀ kw, kw < 6 → ∀ k, k < 6 → isU kw k = (Nat.beq k 0 || Nat.beq kw k || decide (kAb kw = nI k)) := by decide +kernel
theorem ct_isOfKind (l : Launch) : Ct l mX0_isOfKind false 1 0 0 T_isOfKind := by
  refine Ct.intro mX0_isOfKind_ok ?_
  rintro args hs Q ⟨c, w, k, kw, hw, hk, hkw, hkd, rfl, rfl, h⟩
  refine ⟨Nat.le_of_ble_eq_true rfl, ?_⟩
  rw [isU_kab kw hkw k hk] at h
  refine V.g 30 [] mX0_isOfKind_ok rfl ?_
  refine pk_eq k 0 (fun e => ?_) (fun e0 => ?_)
  · subst e
    exact And.intro (Or.inr rfl) ⟨_, zsim_rfl _, h⟩
  · have b0 : Nat.beq k 0 = false := by cases hb : Nat.beq k 0 <;> simp_all [Nat.beq_eq]
    refine And.intro (pk_in w 4 hw) ?_
    have ekw : kdC c (nI w).toNatClampNeg = nI kw := by rw [pk_cl (x := nI w) w]; exact hkd
    refine pk_eq kw k (fun e => ?_) (fun e1 => ?_) ekw
    · subst e
      have b1 : Nat.beq kw kw = true := by simp [Nat.beq_eq]
      rw [b0, b1] at h
      exact And.intro (Or.inr rfl) ⟨_, zsim_rfl _, h⟩
    · have b1 : Nat.beq kw k = false := by cases hb : Nat.beq kw k <;> simp_all [Nat.beq_eq]
      refine V.ka hw hkw hkd rfl rfl ?_
      refine V.g 30 [] mX0_isOfKind_ok rfl ?_
      refine And.intro (fun e => ?_) (fun e => ?_)
      · have b2 : decide (kAb kw = nI k) = false := decide_eq_false e
        rw [b0, b1, b2] at h
        exact And.intro (Or.inl rfl) ⟨_, zsim_rfl _, h⟩
      · have b2 : decide (kAb kw = nI k) = true := decide_eq_true e
        rw [b0, b1, b2] at h
        exact And.intro (Or.inr rfl) ⟨_, zsim_rfl _, h⟩
