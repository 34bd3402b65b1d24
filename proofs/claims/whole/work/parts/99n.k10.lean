/-! ===== the class: text ===== -/
theorem zal {α : Type} {p : α → Bool} {v : α} {l : List α} (h1 : p v = true) (h2 : l.all p = true) : (v :: l).all p = true := by rw [List.all_cons, h1, h2]; rfl
theorem zlk_up {n m k : Nat} (hnm : n ≤ m) (h : zlk n k = true) : zlk m k = true := by
  unfold zlk
  rcases zlk_eq h with h | h
  · rw [h]; rfl
  · rw [Nat.ble_eq_true_of_le (show k + 1 ≤ 2 * m by omega), Bool.or_true]
set_option maxHeartbeats 4000000 in
theorem pX_low56 (c d k : zCart) (r tr kr : zRow) (rd : zRd) (ft : Nat) (tg : Nat → Option Nat) (tc lw kl ik : Int32) (ri : zRi) (s0 s1 s2 s3 : zSh) (tx : zTx) (h1 : zlk 56 ft = true) (h2 : zlk 56 ri.1 = true) (h3 : zlk 56 ri.2.1 = true) (hg : ∀ i k, tg i = some k → zlk 56 k = true) : zlowL 56 (pX c d k r tr kr rd ft tg tc lw kl ik ri s0 s1 s2 s3 tx) := by
  have h1 := zlk_up (show 56 ≤ 56 by decide) h1
  have h2 := zlk_up (show 56 ≤ 56 by decide) h2
  have h3 := zlk_up (show 56 ≤ 56 by decide) h3
  have hg : ∀ i k, tg i = some k → zlk 56 k = true := fun i k h => zlk_up (by decide) (hg i k h)
  have zsgl : ∀ i k, zsg i = some k → zlk 56 k = true := fun i k h => by
    unfold zsg at h
    cases hb : Nat.ble 4 i with
    | true => rw [hb] at h; cases h
    | false =>
      rw [hb] at h
      cases h
      have : ¬ 4 ≤ i := fun q => by rw [Nat.ble_eq_true_of_le q] at hb; cases hb
      exact Bool.or_eq_true_iff.mpr (Or.inr (Nat.ble_eq_true_of_le (by omega)))
  exact (And.intro (zal rfl (zal rfl (zal rfl (zal rfl (zal rfl (zal rfl (zal rfl (zal h1 (zal rfl (zal rfl (zal rfl (zal rfl (zal rfl (zal rfl (zal rfl rfl))))))))))))))) (And.intro rfl (And.intro trivial (And.intro trivial (And.intro trivial (And.intro trivial (And.intro trivial (And.intro trivial (And.intro rfl (And.intro trivial (And.intro trivial (And.intro trivial (And.intro trivial (And.intro trivial (And.intro trivial (And.intro rfl (And.intro trivial (And.intro trivial (And.intro trivial (And.intro trivial (And.intro trivial (And.intro trivial (And.intro rfl (And.intro trivial (And.intro trivial (And.intro trivial (And.intro rfl (And.intro trivial (And.intro trivial (And.intro trivial (And.intro rfl (And.intro trivial (And.intro trivial (And.intro trivial (And.intro rfl (And.intro trivial (And.intro trivial (And.intro trivial (And.intro hg (And.intro (zal h2 (zal h3 (zal rfl (zal rfl (zal rfl (zal rfl (zal rfl (zal rfl (zal rfl (zal rfl (zal rfl (zal rfl (zal rfl (zal rfl (zal rfl rfl))))))))))))))) (And.intro trivial (And.intro trivial (And.intro zsgl (And.intro rfl (And.intro trivial (And.intro rfl (And.intro trivial (And.intro rfl (And.intro trivial (And.intro rfl (And.intro trivial (And.intro rfl (And.intro trivial (And.intro trivial (And.intro trivial (And.intro trivial trivial))))))))))))))))))))))))))))))))))))))))))))))))))))))))
set_option maxHeartbeats 4000000 in
theorem pX_low57 (c d k : zCart) (r tr kr : zRow) (rd : zRd) (ft : Nat) (tg : Nat → Option Nat) (tc lw kl ik : Int32) (ri : zRi) (s0 s1 s2 s3 : zSh) (tx : zTx) (h1 : zlk 56 ft = true) (h2 : zlk 56 ri.1 = true) (h3 : zlk 56 ri.2.1 = true) (hg : ∀ i k, tg i = some k → zlk 56 k = true) : zlowL 57 (pX c d k r tr kr rd ft tg tc lw kl ik ri s0 s1 s2 s3 tx ++ [.inr (5, [.int 0, .null, .null, .null, .null])]) := by
  have h1 := zlk_up (show 56 ≤ 57 by decide) h1
  have h2 := zlk_up (show 56 ≤ 57 by decide) h2
  have h3 := zlk_up (show 56 ≤ 57 by decide) h3
  have hg : ∀ i k, tg i = some k → zlk 57 k = true := fun i k h => zlk_up (by decide) (hg i k h)
  have zsgl : ∀ i k, zsg i = some k → zlk 57 k = true := fun i k h => by
    unfold zsg at h
    cases hb : Nat.ble 4 i with
    | true => rw [hb] at h; cases h
    | false =>
      rw [hb] at h
      cases h
      have : ¬ 4 ≤ i := fun q => by rw [Nat.ble_eq_true_of_le q] at hb; cases hb
      exact Bool.or_eq_true_iff.mpr (Or.inr (Nat.ble_eq_true_of_le (by omega)))
  exact (And.intro (zal rfl (zal rfl (zal rfl (zal rfl (zal rfl (zal rfl (zal rfl (zal h1 (zal rfl (zal rfl (zal rfl (zal rfl (zal rfl (zal rfl (zal rfl rfl))))))))))))))) (And.intro rfl (And.intro trivial (And.intro trivial (And.intro trivial (And.intro trivial (And.intro trivial (And.intro trivial (And.intro rfl (And.intro trivial (And.intro trivial (And.intro trivial (And.intro trivial (And.intro trivial (And.intro trivial (And.intro rfl (And.intro trivial (And.intro trivial (And.intro trivial (And.intro trivial (And.intro trivial (And.intro trivial (And.intro rfl (And.intro trivial (And.intro trivial (And.intro trivial (And.intro rfl (And.intro trivial (And.intro trivial (And.intro trivial (And.intro rfl (And.intro trivial (And.intro trivial (And.intro trivial (And.intro rfl (And.intro trivial (And.intro trivial (And.intro trivial (And.intro hg (And.intro (zal h2 (zal h3 (zal rfl (zal rfl (zal rfl (zal rfl (zal rfl (zal rfl (zal rfl (zal rfl (zal rfl (zal rfl (zal rfl (zal rfl (zal rfl rfl))))))))))))))) (And.intro trivial (And.intro trivial (And.intro zsgl (And.intro rfl (And.intro trivial (And.intro rfl (And.intro trivial (And.intro rfl (And.intro trivial (And.intro rfl (And.intro trivial (And.intro rfl (And.intro trivial (And.intro trivial (And.intro trivial (And.intro trivial (And.intro rfl trivial)))))))))))))))))))))))))))))))))))))))))))))))))))))))))
def T6_text : zT := fun args hs Q => ∃ (c d k : zCart) (r tr kr : zRow) (ft : Nat) (tg : Nat → Option Nat) (lw kl ik : Int32) (ri : zRi) (s0 s1 s2 s3 : zSh) (tx : zTx) (tp : fI) (n : Nat) (pla tok : Int32) (q0 : Nat) (num flt : Int32) (cod : fI) (csz : Int32) (eds : fI) (t : Nat), t ≤ 6 ∧ n ≤ 160 ∧ zlk 56 ft = true ∧ zlk 56 ri.1 = true ∧ zlk 56 ri.2.1 = true ∧ (∀ i k, tg i = some k → zlk 56 k = true) ∧ args = [.ref 0] ∧ hs = (pX c d k r tr kr (tp, nI n, pla, tok, nI q0, num, flt, cod, csz, eds) ft tg (nI t) lw kl ik ri s0 s1 s2 s3 tx) ∧ (t = 6 → Q (some (.int (-4))) hs) ∧ (t < 6 → ∀ (Rr : zS × zS × zS × zS) (s : zS) (L : Nat) (cod2 ed : fI), Rr = qFF tp n num → s = Rr.2.2.2 → L = s.2.2.2.2.2.length → rdI n s cod2 → ed = upd (upd (upd eds 0 (nI Rr.1.2.2.2.2.2.length)) 1 (nI Rr.2.1.2.2.2.2.2.length)) 2 (nI Rr.2.2.1.2.2.2.2.2.length) → (0 ≤ s.2.2.2.2.1 → Q (some (.int (-100 - s.2.2.2.2.1))) (pX c d k r tr kr (tp, 0, nI s.1, s.2.1, nI s.2.2.1, s.2.2.2.1, s.2.2.2.2.1, cod2, nI L, ed) ft tg (nI t) lw kl ik ri s0 s1 s2 s3 tx)) ∧ (¬ 0 ≤ s.2.2.2.2.1 → Q (some (.int (nI t))) ((pX c d k r tr kr (tp, 0, nI s.1, s.2.1, nI s.2.2.1, s.2.2.2.1, s.2.2.2.2.1, cod2, nI L, ed) ft (va_up tg t (some 112)) (nI (t + 1)) lw kl ik ri s0 s1 s2 s3 tx) ++ [.inr (5, [.int (bI (hasT cod2 L)), .ref 114, .ref 116, .ref 118, .ref 120]), .inl (0, L, .inl cod2), .inl (0, 3, .inl ed), .inl (0, 6, .inl fz), .inl (0, L, .inl fz)])))
set_option maxHeartbeats 8000000 in
theorem c6_text (l : Launch) (hcp : ∀ l, Ct l mJ7c true 2 1 160 T_copyOf) : Ct l mX6_text true 53 5 491 T6_text := by
  refine Ct.intro mX6_text_ok ?_
  rintro args hs Q ⟨c, d, k, r, tr, kr, ft, tg, lw, kl, ik, ri, s0, s1, s2, s3, tx, tp, n, pla, tok, q0, num, flt, cod, csz, eds, t, ht, hn, h1, h2, h3, hg, rfl, rfl, h6, h⟩
  refine ⟨Nat.le_of_ble_eq_true rfl, ?_⟩
  refine V.g 4 [12, 9] mX6_text_ok rfl ?_
  refine pk_lt t 6 (fun e1 => ?_) (fun e1 => ?_) rfl rfl (by omega) (by omega)
  case refine_2 => exact V.g 5 [] mX6_text_ok rfl ⟨_, zsim_rfl _, h6 (by omega)⟩
  refine V.nm [(0, .ref 0)] [] (pX c d k r tr kr (tp, nI n, pla, tok, nI q0, num, flt, cod, csz, eds) ft tg (nI t) lw kl ik ri s0 s1 s2 s3 tx) rfl rfl rfl ?_
  have h := h e1
  refine V.g 2 [16] mX6_text_ok rfl ?_
  obtain ⟨Rr, hRr⟩ : ∃ R, R = qFF tp n num := ⟨_, rfl⟩
  refine V.callVP mX6_text_ok rfl lX6_84 (c2_findFault l c1_nextR) rfl 56 rfl (fun k => k) (fun _ _ => rfl) [34, 35, 36, 37] [none, none, none, none, none, none, none, none, none, none, none, none, none, none, none, none, none, none, none, none, none, none, none, none, none, none, none, none, none, none, none, none, none, none, some 0, some 1, some 2, some 3, none, none, none, none, none, none, none, none, none, none, none, none, none, none, none, none, none, none] (by decide +kernel) (pRd 0 (tp, nI n, pla, tok, nI q0, num, flt, cod, csz, eds)) [.ref 0] [] (fun v w => ∃ (cod2 ed : fI), rdI n Rr.2.2.2 cod2 ∧ ed = upd (upd (upd eds 0 (nI Rr.1.2.2.2.2.2.length)) 1 (nI Rr.2.1.2.2.2.2.2.length)) 2 (nI Rr.2.2.1.2.2.2.2.2.length) ∧ v = some (.int Rr.2.2.2.2.2.2.2.1) ∧ w = pRz tp n ed Rr.2.2.2 cod2) rfl 0 1 rfl rfl rfl rfl rfl rfl rfl rfl ⟨tp, n, pla, tok, q0, num, flt, cod, csz, eds, hn, rfl, rfl, fun R0 hR0 cod2 hc => ?_⟩ (fun v w hv => ?_)
  · rw [hRr, ← hR0]
    exact ⟨cod2, _, hc, rfl, rfl, rfl⟩
  obtain ⟨cod2, ed, hc, hed, rfl, rfl⟩ := hv
  refine ⟨rfl, ?_⟩
  have hL : Rr.2.2.2.2.2.2.2.2.length ≤ 160 := hc.2.1
  have h := h Rr Rr.2.2.2 _ cod2 ed hRr rfl rfl hc hed
  clear hc hed hRr
  obtain ⟨Ra, Rb, Rc, s⟩ := Rr
  obtain ⟨L, hLe⟩ : ∃ L, L = s.2.2.2.2.2.length := ⟨_, rfl⟩
  have hL : s.2.2.2.2.2.length ≤ 160 := hL
  have h : (0 ≤ s.2.2.2.2.1 → Q (some (.int (-100 - s.2.2.2.2.1))) (pX c d k r tr kr (tp, 0, nI s.1, s.2.1, nI s.2.2.1, s.2.2.2.1, s.2.2.2.2.1, cod2, nI s.2.2.2.2.2.length, ed) ft tg (nI t) lw kl ik ri s0 s1 s2 s3 tx)) ∧ (¬ 0 ≤ s.2.2.2.2.1 → Q (some (.int (nI t))) ((pX c d k r tr kr (tp, 0, nI s.1, s.2.1, nI s.2.2.1, s.2.2.2.1, s.2.2.2.2.1, cod2, nI s.2.2.2.2.2.length, ed) ft (va_up tg t (some 112)) (nI (t + 1)) lw kl ik ri s0 s1 s2 s3 tx) ++ [.inr (5, [.int (bI (hasT cod2 s.2.2.2.2.2.length)), .ref 114, .ref 116, .ref 118, .ref 120]), .inl (0, s.2.2.2.2.2.length, .inl cod2), .inl (0, 3, .inl ed), .inl (0, 6, .inl fz), .inl (0, s.2.2.2.2.2.length, .inl fz)])) := h
  refine V.nm [(0, .ref 0)] [.int s.2.2.2.2.1] (pX c d k r tr kr (tp, nI n, nI s.1, s.2.1, nI s.2.2.1, s.2.2.2.1, s.2.2.2.2.1, cod2, nI s.2.2.2.2.2.length, ed) ft tg (nI t) lw kl ik ri s0 s1 s2 s3 tx) rfl rfl rfl ?_
  rw [← hLe] at h hL ⊢
  obtain ⟨hA, hB⟩ := h
  obtain ⟨f, hf⟩ : ∃ f, f = s.2.2.2.2.1 := ⟨_, rfl⟩
  refine V.nm [(0, .ref 0)] [.int f] (pX c d k r tr kr (tp, nI n, nI s.1, s.2.1, nI s.2.2.1, s.2.2.2.1, s.2.2.2.2.1, cod2, nI L, ed) ft tg (nI t) lw kl ik ri s0 s1 s2 s3 tx) rfl (by rw [hf]) rfl ?_
  rw [← hf] at hA hB
  refine V.g 3 [24, 36] mX6_text_ok rfl ?_
  refine And.intro (fun (c1 : f < 0) => ?_) (fun (c1 : ¬ f < 0) => ?_)
  case refine_2 =>
    refine V.nm [(1, .int f), (0, .ref 0)] [] (pX c d k r tr kr (tp, nI n, nI s.1, s.2.1, nI s.2.2.1, s.2.2.2.1, s.2.2.2.2.1, cod2, nI L, ed) ft tg (nI t) lw kl ik ri s0 s1 s2 s3 tx) rfl rfl rfl ?_
    refine V.g 2 [28, 60] mX6_text_ok rfl ?_
    refine V.cV1P mX6_text_ok rfl lX6_94 (c1_empty l) rfl 56 rfl [34, 35, 36, 37] [none, none, none, none, none, none, none, none, none, none, none, none, none, none, none, none, none, none, none, none, none, none, none, none, none, none, none, none, none, none, none, none, none, none, some 0, some 1, some 2, some 3, none, none, none, none, none, none, none, none, none, none, none, none, none, none, none, none, none, none] (by decide +kernel) (pRd 0 (tp, nI n, nI s.1, s.2.1, nI s.2.2.1, s.2.2.2.1, s.2.2.2.2.1, cod2, nI L, ed)) [.ref 0] [] rfl 0 1 rfl rfl rfl rfl rfl rfl rfl rfl none (pRd 0 (tp, nI 0, nI s.1, s.2.1, nI s.2.2.1, s.2.2.2.1, s.2.2.2.2.1, cod2, nI L, ed)) ⟨_, _, _, _, _, _, _, _, _, _, rfl, rfl, rfl, rfl⟩ rfl (pX c d k r tr kr (tp, 0, nI s.1, s.2.1, nI s.2.2.1, s.2.2.2.1, s.2.2.2.2.1, cod2, nI L, ed) ft tg (nI t) lw kl ik ri s0 s1 s2 s3 tx) [] rfl rfl ?_
    refine V.g 9 [] mX6_text_ok rfl ?_
    have hA2 := hA (Int32.not_lt.mp c1)
    exact ⟨_, zsim_rfl _, by rw [← hf]; exact hA2⟩
  refine V.nm [(1, .int f), (0, .ref 0)] [] (pX c d k r tr kr (tp, nI n, nI s.1, s.2.1, nI s.2.2.1, s.2.2.2.1, s.2.2.2.2.1, cod2, nI L, ed) ft tg (nI t) lw kl ik ri s0 s1 s2 s3 tx) rfl rfl rfl ?_
  have hB := hB (Int32.not_le.mpr c1)
  refine V.g 4 [44] mX6_text_ok rfl ?_
  refine V.nm [(1, .int f), (0, .ref 0)] [.int (nI t), .ref (2 * 38)] (pX c d k r tr kr (tp, nI n, nI s.1, s.2.1, nI s.2.2.1, s.2.2.2.1, s.2.2.2.2.1, cod2, nI L, ed) ft tg (nI t) lw kl ik ri s0 s1 s2 s3 tx) rfl rfl rfl ?_
  refine V.newO mX6_text_ok rfl 5 5 [.int 0, .null, .null, .null, .null] rfl lclX5 linX5 liiX5 tyX5 tyX5_ok dfX5 (fun _ => rfl) 56 rfl rfl rfl ⟨pX_low56 c d k r tr kr _ ft tg _ lw kl ik ri s0 s1 s2 s3 tx h1 h2 h3 hg, rfl, rfl⟩ ?_
  refine V.nm [(1, .int f), (0, .ref 0)] [.ref (2 * 56), .int (nI t), .ref (2 * 38)] ((pX c d k r tr kr (tp, nI n, nI s.1, s.2.1, nI s.2.2.1, s.2.2.2.1, s.2.2.2.2.1, cod2, nI L, ed) ft tg (nI t) lw kl ik ri s0 s1 s2 s3 tx) ++ [.inr (5, [.int 0, .null, .null, .null, .null])]) rfl rfl rfl ?_
  refine V.g 3 [52] mX6_text_ok rfl ?_
  refine V.nm [(1, .int f), (0, .ref 0)] [.ref 68, .ref (2 * 56), .ref (2 * 56), .int (nI t), .ref (2 * 38)] ((pX c d k r tr kr (tp, nI n, nI s.1, s.2.1, nI s.2.2.1, s.2.2.2.1, s.2.2.2.2.1, cod2, nI L, ed) ft tg (nI t) lw kl ik ri s0 s1 s2 s3 tx) ++ [.inr (5, [.int 0, .null, .null, .null, .null])]) rfl rfl rfl ?_
  refine V.mkI mX6_text_ok rfl lX6_87 (c_iX5 l hcp) rfl 57 rfl rfl (fun k => k) (fun _ _ => rfl) (zdd_id _) [56, 34, 35, 36, 37] (.inr (5, [.int 0, .null, .null, .null, .null]) :: pRd 1 (tp, nI n, nI s.1, s.2.1, nI s.2.2.1, s.2.2.2.1, s.2.2.2.2.1, cod2, nI L, ed)) [.ref 0, .ref 2] [.ref (2 * 56), .int (nI t), .ref (2 * 38)] rfl (j := 0) rfl rfl rfl rfl rfl ⟨pX_low57 c d k r tr kr _ ft tg _ lw kl ik ri s0 s1 s2 s3 tx h1 h2 h3 hg, rfl, rfl⟩ ⟨_, _, _, _, _, _, _, _, _, L, hL, rfl, rfl, rfl, (show 5 ≤ 9 by decide), ?_⟩
  refine V.nm [(1, .int f), (0, .ref 0)] [.ref (2 * 56), .int (nI t), .ref (2 * 38)] ((pX c d k r tr kr (tp, nI n, nI s.1, s.2.1, nI s.2.2.1, s.2.2.2.1, s.2.2.2.2.1, cod2, nI L, ed) ft tg (nI t) lw kl ik ri s0 s1 s2 s3 tx) ++ [.inr (5, [.int (bI (hasT cod2 L)), .ref 114, .ref 116, .ref 118, .ref 120]), .inl (0, L, .inl cod2), .inl (0, 3, .inl ed), .inl (0, 6, .inl fz), .inl (0, L, .inl fz)]) rfl rfl rfl ?_
  refine V.aast mX6_text_ok (C := "") rfl 1 (fun _ => rfl) 38 56 5 rfl rfl rfl t rfl e1 (by decide) ?_
  refine V.nm [(1, .int f), (0, .ref 0)] [] ((pX c d k r tr kr (tp, nI n, nI s.1, s.2.1, nI s.2.2.1, s.2.2.2.1, s.2.2.2.2.1, cod2, nI L, ed) ft (va_up tg t (some 112)) (nI t) lw kl ik ri s0 s1 s2 s3 tx) ++ [.inr (5, [.int (bI (hasT cod2 L)), .ref 114, .ref 116, .ref 118, .ref 120]), .inl (0, L, .inl cod2), .inl (0, 3, .inl ed), .inl (0, 6, .inl fz), .inl (0, L, .inl fz)]) rfl rfl rfl ?_
  refine V.g 2 [28, 60] mX6_text_ok rfl ?_
  refine V.cV1P mX6_text_ok rfl lX6_94 (c1_empty l) rfl 61 rfl [34, 35, 36, 37] [none, none, none, none, none, none, none, none, none, none, none, none, none, none, none, none, none, none, none, none, none, none, none, none, none, none, none, none, none, none, none, none, none, none, some 0, some 1, some 2, some 3, none, none, none, none, none, none, none, none, none, none, none, none, none, none, none, none, none, none, none, none, none, none, none] (by decide +kernel) (pRd 0 (tp, nI n, nI s.1, s.2.1, nI s.2.2.1, s.2.2.2.1, s.2.2.2.2.1, cod2, nI L, ed)) [.ref 0] [] rfl 0 1 rfl rfl rfl rfl rfl rfl rfl rfl none (pRd 0 (tp, nI 0, nI s.1, s.2.1, nI s.2.2.1, s.2.2.2.1, s.2.2.2.2.1, cod2, nI L, ed)) ⟨_, _, _, _, _, _, _, _, _, _, rfl, rfl, rfl, rfl⟩ rfl ((pX c d k r tr kr (tp, 0, nI s.1, s.2.1, nI s.2.2.1, s.2.2.2.1, s.2.2.2.2.1, cod2, nI L, ed) ft (va_up tg t (some 112)) (nI t) lw kl ik ri s0 s1 s2 s3 tx) ++ [.inr (5, [.int (bI (hasT cod2 L)), .ref 114, .ref 116, .ref 118, .ref 120]), .inl (0, L, .inl cod2), .inl (0, 3, .inl ed), .inl (0, 6, .inl fz), .inl (0, L, .inl fz)]) [] rfl rfl ?_
  refine V.g 20 [] mX6_text_ok rfl ?_
  have e2 : nI t + nI 1 - nI 1 = nI t := by rw [Int32.sub_eq_add_neg, Int32.add_assoc, Int32.add_right_neg, Int32.add_zero]
  have e3 : nI t + nI 1 = nI (t + 1) := nI_1 t
  rw [← e2, ← e3] at hB
  exact ⟨_, zsim_rfl _, by rw [← hf]; exact hB⟩
