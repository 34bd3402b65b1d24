/-! ===== Row: append, front, wholeBad, become; Sheet ===== -/
def T_rappend : zT := fun args hs Q => ∃ (bd od tk : fI) (lo be aw st mb mw mt v : Int32) (sz : Nat), sz < 8 ∧ args = [.ref 0, .int v] ∧ hs = pRow 0 bd od (nI sz) lo be aw st tk mb mw mt ∧ Q none (pRow 0 (upd bd sz v) (upd od sz (nI sz)) (nI (sz + 1)) lo be aw st tk mb mw mt)
theorem ct_rappend (l : Launch) : Ct l mX3_append false 1 0 0 T_rappend := by
  refine Ct.intro mX3_append_ok ?_
  rintro args hs Q ⟨bd, od, tk, lo, be, aw, st, mb, mw, mt, v, sz, hsz, rfl, rfl, h⟩
  refine ⟨Nat.le_of_ble_eq_true rfl, ?_⟩
  refine V.g 40 [] mX3_append_ok rfl ?_
  refine pk_le 8 sz (fun e => absurd e (by omega)) (fun _ => ?_)
  refine And.intro (pk_in sz 8 hsz) (And.intro (pk_in sz 8 hsz) ⟨_, zsim_rfl _, ?_⟩)
  have e := pk_cl (x := nI sz) sz
  have h2 : Q none (pRow 0 (upd bd (cl (nI sz)) v) (upd od (cl (nI sz)) (nI sz)) (nI sz + 1) lo be aw st tk mb mw mt) := by
    rw [show cl (nI sz) = sz from e, nI_1]
    exact h
  exact h2
def T_front : zT := fun args hs Q => ∃ (bd od tk : fI) (lo be aw st mb mw mt : Int32) (sz : Nat), sz ≤ 8 ∧ args = [.ref 0] ∧ hs = pRow 0 bd od (nI sz) lo be aw st tk mb mw mt ∧ Q (some (.int (if sz = 0 then -1 else od 0))) hs
theorem ct_front (l : Launch) : Ct l mX3_front false 1 0 0 T_front := by
  refine Ct.intro mX3_front_ok ?_
  rintro args hs Q ⟨bd, od, tk, lo, be, aw, st, mb, mw, mt, sz, hsz, rfl, rfl, h⟩
  refine ⟨Nat.le_of_ble_eq_true rfl, ?_⟩
  refine V.g 40 [] mX3_front_ok rfl ?_
  refine pk_le sz 0 (fun e => ?_) (fun e => ?_)
  · rw [if_pos (by omega)] at h
    exact ⟨_, zsim_rfl _, h⟩
  · rw [if_neg (by omega)] at h
    exact And.intro (pk_in 0 8 (by omega)) ⟨_, zsim_rfl _, h⟩
def T_wholeBad : zT := fun args hs Q => ∃ (bd od tk : fI) (lo be aw st mb mw mt : Int32) (sz : Nat), sz ≤ 8 ∧ args = [.ref 0] ∧ hs = pRow 0 bd od (nI sz) lo be aw st tk mb mw mt ∧ Q (some (.int (smT bd sz))) hs
theorem ct_wholeBad (l : Launch) : Ct l mX3_wholeBad false 1 0 0 T_wholeBad := by
  refine Ct.intro mX3_wholeBad_ok ?_
  rintro args hs Q ⟨bd, od, tk, lo, be, aw, st, mb, mw, mt, sz, hsz, rfl, rfl, h⟩
  refine ⟨Nat.le_of_ble_eq_true rfl, ?_⟩
  generalize hS : pRow 0 bd od (nI sz) lo be aw st tk mb mw mt = S at h
  have loop : ∀ (k i : Nat) (x y : Int32), i + k = sz → x = nI i → y = smT bd i → V l mX3_wholeBad false S (zrm 1 0 0) (zFm false S Q 0 0) 0 0 4 [(2, .int x), (1, .int y), (0, .ref 0)] [] (pRow 0 bd od (nI sz) lo be aw st tk mb mw mt) := by
    intro k
    induction k with
    | zero =>
      intro i x y hi hx hy
      have : i = sz := by omega
      subst this
      refine V.g 20 [4] mX3_wholeBad_ok rfl ?_
      refine pk_le i i (fun _ => ⟨_, zsim_rfl _, ?_⟩) (fun e => absurd e (by omega)) rfl hx
      rw [hy]
      rw [← hS] at h
      exact h
    | succ k ih =>
      intro i x y hi hx hy
      refine V.g 20 [4] mX3_wholeBad_ok rfl ?_
      refine pk_le sz i (fun e => absurd e (by omega)) (fun _ => ?_) rfl hx
      refine And.intro (pk_in i 8 (by omega) hx) ?_
      refine V.key [2, 1, 0] ?_
      refine ih (i + 1) _ _ (by omega) (by rw [hx]; exact nI_1 i) ?_
      rw [pk_cl i hx, hy]
      rfl
  subst hS
  refine V.g 20 [4] mX3_wholeBad_ok rfl ?_
  refine V.key [2, 1, 0] ?_
  exact loop sz 0 _ _ (by omega) rfl rfl
def T_rbecome : zT := fun args hs Q => ∃ (bd od tk bd' od' tk' : fI) (sz lo be aw st mb mw mt sz' lo' be' aw' st' mb' mw' mt' : Int32), args = [.ref 0, .ref 8] ∧ hs = pRow 0 bd od sz lo be aw st tk mb mw mt ++ pRow 4 bd' od' sz' lo' be' aw' st' tk' mb' mw' mt' ∧ Q none (pRow 0 bd' od' sz' lo' be' aw' st tk mb mw mt ++ pRow 4 bd' od' sz' lo' be' aw' st' tk' mb' mw' mt')
theorem ct_rbecome (l : Launch) : Ct l mX3_become false 2 0 0 T_rbecome := by
  refine Ct.intro mX3_become_ok ?_
  rintro args hs Q ⟨bd, od, tk, bd', od', tk', sz, lo, be, aw, st, mb, mw, mt, sz', lo', be', aw', st', mb', mw', mt', rfl, rfl, h⟩
  refine ⟨Nat.le_of_ble_eq_true rfl, ?_⟩
  refine V.g 30 [] mX3_become_ok rfl ?_
  refine V.acopy mX3_become_ok rfl lX3_31 rfl rfl 5 1 rfl rfl (by decide) (by decide) (by decide) (by decide) (by decide) ?_
  refine V.g 30 [] mX3_become_ok rfl ?_
  refine V.acopy mX3_become_ok rfl lX3_31 rfl rfl 6 2 rfl rfl (by decide) (by decide) (by decide) (by decide) (by decide) ?_
  refine V.g 30 [] mX3_become_ok rfl ?_
  refine ⟨_, ?_, h⟩
  exact zsim_c (zsm_rfl _) (zsim_c (zsm_i (zcpy_full (by decide))) (zsim_c (zsm_i (zcpy_full (by decide))) (zsim_rfl _)))
/-! Sheet: sort, size, cells -/
abbrev pSheet (o : Nat) (so sz : Int32) (ce : fI) : List zE := [.inr (4, [.int so, .int sz, .ref (2 * (o + 1))]), .inl (0, 40, .inl ce)]
def hasF (sz i n : Int32) : Bool := decide (0 ≤ i) && decide (0 ≤ n) && decide (i ≤ sz) && decide (n ≤ sz - i)
def T_has : zT := fun args hs Q => ∃ (so sz i n : Int32) (ce : fI), args = [.ref 0, .int i, .int n] ∧ hs = pSheet 0 so sz ce ∧ Q (some (.int (bI (hasF sz i n)))) hs
theorem ct_has (l : Launch) : Ct l mX4_has false 1 0 0 T_has := by
  refine Ct.intro mX4_has_ok ?_
  rintro args hs Q ⟨so, sz, i, n, ce, rfl, rfl, h⟩
  refine ⟨Nat.le_of_ble_eq_true rfl, ?_⟩
  have no : ¬ (0 ≤ i ∧ 0 ≤ n ∧ i ≤ sz ∧ n ≤ sz - i) → hasF sz i n = false := fun q => by
    cases hb : hasF sz i n with
    | false => rfl
    | true =>
      simp only [hasF, Bool.and_eq_true, decide_eq_true_eq] at hb
      exact absurd ⟨hb.1.1.1, hb.1.1.2, hb.1.2, hb.2⟩ q
  refine V.g 40 [] mX4_has_ok rfl ?_
  refine And.intro (fun c => And.intro (Or.inl rfl) ⟨_, zsim_rfl _, ?_⟩) (fun c1 => ?_)
  · rw [no (fun q => absurd c (Int32.not_lt.mpr q.1))] at h; exact h
  refine And.intro (fun c => And.intro (Or.inl rfl) ⟨_, zsim_rfl _, ?_⟩) (fun c2 => ?_)
  · rw [no (fun q => absurd c (Int32.not_lt.mpr q.2.1))] at h; exact h
  refine And.intro (fun c => And.intro (Or.inl rfl) ⟨_, zsim_rfl _, ?_⟩) (fun c3 => ?_)
  · rw [no (fun q => absurd c (Int32.not_lt.mpr q.2.2.1))] at h; exact h
  refine And.intro (fun c => And.intro (Or.inl rfl) ⟨_, zsim_rfl _, ?_⟩) (fun c4 => And.intro (Or.inr rfl) ⟨_, zsim_rfl _, ?_⟩)
  · rw [no (fun q => absurd c (Int32.not_lt.mpr q.2.2.2))] at h; exact h
  · have : hasF sz i n = true := by
      simp only [hasF, Bool.and_eq_true, decide_eq_true_eq]
      exact ⟨⟨⟨Int32.not_lt.mp c1, Int32.not_lt.mp c2⟩, Int32.not_lt.mp c3⟩, Int32.not_lt.mp c4⟩
    rw [this] at h
    exact h
def cutF (so v : Int32) : Int32 := if so = 0 then v.toInt8.toInt32 else if so = nI 1 then v.toInt16.toInt32 else v
def T_write : zT := fun args hs Q => ∃ (so sz v : Int32) (i : Nat) (ce : fI), i < 40 ∧ args = [.ref 0, .int (nI i), .int v] ∧ hs = pSheet 0 so sz ce ∧ Q none (pSheet 0 so sz (upd ce i (cutF so v)))
theorem ct_write (l : Launch) : Ct l mX4_write false 1 0 0 T_write := by
  refine Ct.intro mX4_write_ok ?_
  rintro args hs Q ⟨so, sz, v, i, ce, hi, rfl, rfl, h⟩
  refine ⟨Nat.le_of_ble_eq_true rfl, ?_⟩
  rw [← pk_cl (x := nI i) i] at h
  refine V.g 40 [] mX4_write_ok rfl ?_
  refine And.intro (fun c => ?_) (fun c => ?_)
  · refine And.intro (fun c2 => ?_) (fun c2 => ?_)
    · rw [cutF, if_neg c, if_neg (show ¬ so = nI 1 from c2)] at h
      exact And.intro (pk_in i 40 hi) ⟨_, zsim_rfl _, h⟩
    · rw [cutF, if_neg c, if_pos (show so = nI 1 from c2)] at h
      exact And.intro (pk_in i 40 hi) ⟨_, zsim_rfl _, h⟩
  · rw [cutF, if_pos c] at h
    exact And.intro (pk_in i 40 hi) ⟨_, zsim_rfl _, h⟩
/-! Arrays.fill of a whole row -/
def T_fill : zT := fun args hs Q => ∃ (n : Nat) (f : fI) (v : Int32), n < 2 ^ 30 ∧ args = [.ref 0, .int v] ∧ hs = [.inl (0, n, .inl f)] ∧ Q none [.inl (0, n, .inl (fun _ => v))]
theorem ct_fill (l : Launch) : Ct l mJ7_fill_53178 false 1 0 0 T_fill := by
  refine Ct.intro mJ7_fill_53178_ok ?_
  rintro args hs Q ⟨n, f, v, hn, rfl, rfl, h⟩
  refine ⟨Nat.le_of_ble_eq_true rfl, ?_⟩
  generalize hS : ([.inl (0, n, .inl f)] : List zE) = S
  have loop : ∀ (k i : Nat) (x : Int32) (f' : fI), i + k = n → x = nI i → f' = flF (fun _ => v) f i → V l mJ7_fill_53178 false S (zrm 1 0 0) (zFm false S Q 0 0) 0 0 5 [(2, .int x), (3, .int (nI n)), (0, .ref 0), (1, .int v)] [] [.inl (0, n, .inl f')] := by
    intro k
    induction k with
    | zero =>
      intro i x f' hi hx hf
      have : i = n := by omega
      subst this
      refine V.g 20 [5] mJ7_fill_53178_ok rfl ?_
      refine pk_le i i (fun _ => ⟨_, ?_, h⟩) (fun e => absurd e (by omega)) rfl hx
      refine zsim_c (zsm_i (fun j hj => ?_)) (zsim_rfl _)
      rw [hf, flF_in hj]
    | succ k ih =>
      intro i x f' hi hx hf
      refine V.g 20 [5] mJ7_fill_53178_ok rfl ?_
      refine pk_le n i (fun e => absurd e (by omega)) (fun _ => ?_) rfl hx
      refine And.intro (pk_in i n (by omega) hx) ?_
      refine V.key [2, 3, 0, 1] ?_
      refine ih (i + 1) _ _ (by omega) (by rw [hx]; exact nI_1 i) ?_
      rw [pk_cl i hx, hf]
      exact flF_s (fun _ => v) f i
  subst hS
  refine V.g 20 [5] mJ7_fill_53178_ok rfl ?_
  refine V.key [2, 3, 0, 1] ?_
  exact loop n 0 _ f (by omega) rfl (flF_0 _ _).symm
def T_sbecome : zT := fun args hs Q => ∃ (so sz so' n : Int32) (ce : fI), args = [.ref 0, .int so', .int n] ∧ hs = pSheet 0 so sz ce ∧ Q none (pSheet 0 so' (bdF n (nI 0) (nI 40)) (fun _ => 0))
theorem ct_sbecome (l : Launch) : Ct l mX4_become false 3 0 0 T_sbecome := by
  refine Ct.intro mX4_become_ok ?_
  rintro args hs Q ⟨so, sz, so', n, ce, rfl, rfl, h⟩
  refine ⟨Nat.le_of_ble_eq_true rfl, ?_⟩
  refine V.g 20 [] mX4_become_ok rfl ?_
  refine V.cSN0 mX4_become_ok rfl lX4_19 (ct_bounded l) rfl [.int n, .int (nI 0), .int (nI 40)] [.ref 0] rfl rfl rfl (some (.int (bdF n (nI 0) (nI 40)))) ⟨_, _, _, rfl, rfl, rfl⟩ ?_
  refine V.g 20 [] mX4_become_ok rfl ?_
  refine V.callS mX4_become_ok rfl lX4_26 (ct_fill l) rfl (fun k => k) (fun _ _ => rfl) [1] [.inl (0, 40, .inl ce)] [.ref 0, .int (nI 0)] [] (fun v wc' => v = none ∧ wc' = [.inl (0, 40, .inl (fun _ => nI 0))]) rfl rfl rfl rfl rfl ⟨40, ce, nI 0, by omega, rfl, rfl, rfl, rfl⟩ (fun v wc' hv => ?_)
  obtain ⟨rfl, rfl⟩ := hv
  refine ⟨rfl, ?_⟩
  refine V.g 20 [] mX4_become_ok rfl ?_
  exact ⟨_, zsim_rfl _, h⟩
