/-! ===== turned, mend ===== -/
def cwL (c : zCart) (lo : fI) : zCart := (kdC c, moC c, kiC c, lo, haC c, wiC c, paC c)
def exF (lo : fI) (p q : Nat) : fI := upd (upd lo p (lo q)) q (lo p)
def tuL (lo : fI) : fI := exF (exF (exF (exF lo 0 2) 1 3) 4 6) 5 7
def T_turned : zT := fun args hs Q => ∃ (c d k : zCart) (r tr kr : zRow) (rd : zRd) (ft : Nat) (tg : Nat → Option Nat) (tc lw kl ik : Int32) (ri : zRi) (s0 s1 s2 s3 : zSh) (tx : zTx) (P : zP), lOk tg lw tx P ∧ kOk c ∧ args = [.ref 0] ∧ hs = pX c d k r tr kr rd ft tg tc lw kl ik ri s0 s1 s2 s3 tx ∧ ∀ d' ri' nm' sk', Q (some (.int (faF (cwL c (tuL (loC c))) P - faF c P))) (pX c d' k r tr kr rd ft tg tc lw kl ik ri' s0 s1 s2 s3 (txS tx nm' sk'))
set_option maxHeartbeats 4000000 in
theorem ct_turned (l : Launch) : Ct l mX6_turned false 8 0 0 T_turned := by
  refine Ct.intro mX6_turned_ok ?_
  rintro args hs Q ⟨c, d, k, r, tr, kr, rd, ft, tg, tc, lw, kl, ik, ri, s0, s1, s2, s3, tx, P, hL, hok, rfl, rfl, h⟩
  obtain ⟨nt, n, cd, en, nm, sk⟩ := tx
  refine ⟨Nat.le_of_ble_eq_true rfl, ?_⟩
  refine V.g 10 [] mX6_turned_ok rfl ?_
  refine V.cV1 mX6_turned_ok rfl lX6_214 (ct_cbecome l) rfl [8, 9, 10, 11, 12, 13, 14, 1, 2, 3, 4, 5, 6, 7] (pCart 0 d ++ pCart 7 c) [.ref 0, .ref 14] [] rfl 0 0 rfl rfl rfl rfl rfl rfl rfl rfl none (pCart 0 c ++ pCart 7 c) ⟨d, c, rfl, rfl, rfl, rfl⟩ rfl (pX c (cwL c (loC c)) k r tr kr rd ft tg tc lw kl ik ri s0 s1 s2 s3 (nt, n, cd, en, nm, sk)) none [(0, .ref 0)] rfl rfl rfl ?_
  generalize hlo : loC c = lo
  refine V.g 10 [] mX6_turned_ok rfl ?_
  refine V.cV1 mX6_turned_ok rfl lX6_232 (ct_exchange l) rfl [8, 9, 10, 11, 12, 13, 14] (pCart 0 (cwL c lo)) [.ref 0, .int (nI 0), .int (nI 2)] [] rfl 0 0 rfl rfl rfl rfl rfl rfl rfl rfl none (pCart 0 (cwL c (exF lo 0 2))) ⟨cwL c lo, 0, 2, by omega, by omega, rfl, rfl, rfl, rfl⟩ rfl (pX c (cwL c (exF lo 0 2)) k r tr kr rd ft tg tc lw kl ik ri s0 s1 s2 s3 (nt, n, cd, en, nm, sk)) none [(0, .ref 0)] rfl rfl rfl ?_
  refine V.g 10 [] mX6_turned_ok rfl ?_
  refine V.cV1 mX6_turned_ok rfl lX6_232 (ct_exchange l) rfl [8, 9, 10, 11, 12, 13, 14] (pCart 0 (cwL c (exF lo 0 2))) [.ref 0, .int (nI 1), .int (nI 3)] [] rfl 0 0 rfl rfl rfl rfl rfl rfl rfl rfl none (pCart 0 (cwL c (exF (exF lo 0 2) 1 3))) ⟨cwL c (exF lo 0 2), 1, 3, by omega, by omega, rfl, rfl, rfl, rfl⟩ rfl (pX c (cwL c (exF (exF lo 0 2) 1 3)) k r tr kr rd ft tg tc lw kl ik ri s0 s1 s2 s3 (nt, n, cd, en, nm, sk)) none [(0, .ref 0)] rfl rfl rfl ?_
  refine V.g 10 [] mX6_turned_ok rfl ?_
  refine V.cV1 mX6_turned_ok rfl lX6_232 (ct_exchange l) rfl [8, 9, 10, 11, 12, 13, 14] (pCart 0 (cwL c (exF (exF lo 0 2) 1 3))) [.ref 0, .int (nI 4), .int (nI 6)] [] rfl 0 0 rfl rfl rfl rfl rfl rfl rfl rfl none (pCart 0 (cwL c (exF (exF (exF lo 0 2) 1 3) 4 6))) ⟨cwL c (exF (exF lo 0 2) 1 3), 4, 6, by omega, by omega, rfl, rfl, rfl, rfl⟩ rfl (pX c (cwL c (exF (exF (exF lo 0 2) 1 3) 4 6)) k r tr kr rd ft tg tc lw kl ik ri s0 s1 s2 s3 (nt, n, cd, en, nm, sk)) none [(0, .ref 0)] rfl rfl rfl ?_
  refine V.g 10 [] mX6_turned_ok rfl ?_
  refine V.cV1 mX6_turned_ok rfl lX6_232 (ct_exchange l) rfl [8, 9, 10, 11, 12, 13, 14] (pCart 0 (cwL c (exF (exF (exF lo 0 2) 1 3) 4 6))) [.ref 0, .int (nI 5), .int (nI 7)] [] rfl 0 0 rfl rfl rfl rfl rfl rfl rfl rfl none (pCart 0 (cwL c (exF (exF (exF (exF lo 0 2) 1 3) 4 6) 5 7))) ⟨cwL c (exF (exF (exF lo 0 2) 1 3) 4 6), 5, 7, by omega, by omega, rfl, rfl, rfl, rfl⟩ rfl (pX c (cwL c (exF (exF (exF (exF lo 0 2) 1 3) 4 6) 5 7)) k r tr kr rd ft tg tc lw kl ik ri s0 s1 s2 s3 (nt, n, cd, en, nm, sk)) none [(0, .ref 0)] rfl rfl rfl ?_
  have e4 : (exF (exF (exF (exF lo 0 2) 1 3) 4 6) 5 7) = tuL (loC c) := by rw [hlo]; rfl
  rw [e4]
  refine V.g 10 [] mX6_turned_ok rfl ?_
  refine V.callVW mX6_turned_ok rfl lX6_225 (ct_farthestOf_t l) rfl [.ref 0, .ref 16] [] (fun v hs' => ∃ (vv : Int32) (ri2 : zRi) (nm2 sk2 : fI), vv = faF (cwL c (tuL (loC c))) P ∧ v = some (.int vv) ∧ hs' = pX c (cwL c (tuL (loC c))) k r tr kr rd ft tg tc lw kl ik ri2 s0 s1 s2 s3 (nt, n, cd, en, nm2, sk2)) rfl 0 6 rfl rfl rfl rfl rfl rfl ⟨c, cwL c (tuL (loC c)), k, r, tr, kr, rd, ft, tg, tc, lw, kl, ik, ri, s0, s1, s2, s3, (nt, n, cd, en, nm, sk), P, hL, hok, rfl, rfl, fun ri2 nm2 sk2 => ⟨_, ri2, nm2, sk2, rfl, rfl, rfl⟩⟩ (fun v hs' hv => ?_)
  obtain ⟨vv, ri2, nm2, sk2, hvv, rfl, rfl⟩ := hv
  refine ⟨rfl, ?_⟩
  refine V.g 10 [] mX6_turned_ok rfl ?_
  refine V.callVW mX6_turned_ok rfl lX6_225 (ct_farthestOf_c l) rfl [.ref 0, .ref 2] [.int vv] (fun v hs' => ∃ (v2 : Int32) (ri3 : zRi) (nm3 sk3 : fI), v2 = faF c P ∧ v = some (.int v2) ∧ hs' = pX c (cwL c (tuL (loC c))) k r tr kr rd ft tg tc lw kl ik ri3 s0 s1 s2 s3 (nt, n, cd, en, nm3, sk3)) rfl 0 6 rfl rfl rfl rfl rfl rfl ⟨c, cwL c (tuL (loC c)), k, r, tr, kr, rd, ft, tg, tc, lw, kl, ik, ri2, s0, s1, s2, s3, (nt, n, cd, en, nm2, sk2), P, hL, hok, rfl, rfl, fun ri3 nm3 sk3 => ⟨_, ri3, nm3, sk3, rfl, rfl, rfl⟩⟩ (fun v hs' hv => ?_)
  obtain ⟨v2, ri3, nm3, sk3, hv2, rfl, rfl⟩ := hv
  refine ⟨rfl, ?_⟩
  refine V.g 10 [] mX6_turned_ok rfl ?_
  refine ⟨_, zsim_rfl _, ?_⟩
  have h2 := h (cwL c (tuL (loC c))) ri3 nm3 sk3
  rw [← hvv, ← hv2] at h2
  exact h2
def cwP (c : zCart) (w : Nat) : zCart := (upd (kdC c) w 0, upd (moC c) w 0, kiC c, loC c, haC c, wiC c, paC c)
theorem cwP_ok {c : zCart} {w : Nat} (h : kOk c) : kOk (cwP c w) := by
  intro i hi
  by_cases e : i = w
  · have q : kdC (cwP c w) i = nI 0 := by show upd (kdC c) w 0 i = nI 0; rw [e, pk_us]; rfl
    have q2 : kw (cwP c w) i = 0 := by unfold kw; rw [q]; rfl
    rw [q2]
    exact ⟨by omega, q⟩
  · have q : kdC (cwP c w) i = kdC c i := by show upd (kdC c) w 0 i = kdC c i; rw [pk_un e]
    have q2 : kw (cwP c w) i = kw c i := by unfold kw; rw [q]
    rw [q2, q]
    exact h i hi
/-- the first that is less than v and least: which, the value -/
def mdF (f : Nat → Int32) (v : Int32) : Nat → Option Nat × Int32
  | 0 => (none, v)
  | n + 1 => if f n < (mdF f v n).2 then (some n, f n) else mdF f v n
def T_mend : zT := fun args hs Q => ∃ (c d k : zCart) (r tr kr : zRow) (rd : zRd) (ft : Nat) (tg : Nat → Option Nat) (tc lw kl ik : Int32) (ri : zRi) (s0 s1 s2 s3 : zSh) (tx : zTx) (P : zP) (y : Int32), lOk tg lw tx P ∧ kOk c ∧ args = [.ref 0, .int y] ∧ hs = pX c d k r tr kr rd ft tg tc lw kl ik ri s0 s1 s2 s3 tx ∧ (wiB y 1 = false → Q (some (.int (-2))) hs) ∧ (wiB y 1 = true → ∀ d' ri' nm' sk', Q (some (.int (if y = nI 0 then oI (mdF (fun w => coF (cwP c w) P) (coF c P) 4).1 else (mdF (fun w => coF (cwP c w) P) (coF c P) 4).2))) (pX c d' k r tr kr rd ft tg tc lw kl ik ri' s0 s1 s2 s3 (txS tx nm' sk')))
set_option maxHeartbeats 4000000 in
theorem ct_mend (l : Launch) : Ct l mX6_mend false 8 0 0 T_mend := by
  refine Ct.intro mX6_mend_ok ?_
  rintro args hs Q ⟨c, d, k, r, tr, kr, rd, ft, tg, tc, lw, kl, ik, ri, s0, s1, s2, s3, tx, P, y, hL, hok, rfl, rfl, h0, h1⟩
  obtain ⟨nt, n, cd, en, nm, sk⟩ := tx
  refine ⟨Nat.le_of_ble_eq_true rfl, ?_⟩
  generalize hS : pX c d k r tr kr rd ft tg tc lw kl ik ri s0 s1 s2 s3 (nt, n, cd, en, nm, sk) = S at h0
  have loop : ∀ (m i : Nat) (x4 x3 x2 : Int32) (hb0 : wiB y 1 = true) (d' : zCart) (ri' : zRi) (nm' sk' : fI), i + m = 4 → x4 = nI i → x3 = oI (mdF (fun w => coF (cwP c w) P) (coF c P) i).1 → x2 = (mdF (fun w => coF (cwP c w) P) (coF c P) i).2 → V l mX6_mend false S (zrm 8 0 0) (zFm false S Q 0 0) 0 0 26 [(4, .int x4), (3, .int x3), (2, .int x2), (0, .ref 0), (1, .int y)] [] (pX c d' k r tr kr rd ft tg tc lw kl ik ri' s0 s1 s2 s3 (nt, n, cd, en, nm', sk')) := by
    intro m
    induction m with
    | zero =>
      intro i x4 x3 x2 hb0 d' ri' nm' sk' hi h4 h3 h2
      have : i = 4 := by omega
      subst this
      have h := h1 hb0 d' ri' nm' sk'
      obtain ⟨w, hw, rfl⟩ := wiB_t hb0 (by omega)
      rw [← h3, ← h2] at h
      refine V.g 20 [26] mX6_mend_ok rfl ?_
      refine pk_le 4 4 (fun _ => ?_) (fun e => absurd e (by omega)) rfl h4
      refine zp_ne w 0 (fun e => ⟨_, zsim_rfl _, ?_⟩) (fun e => ⟨_, zsim_rfl _, ?_⟩)
      · rw [if_neg (znI (by omega) (by omega) e)] at h
        exact h
      · subst e
        rw [if_pos rfl] at h
        exact h
    | succ m ih =>
      intro i x4 x3 x2 hb0 d' ri' nm' sk' hi h4 h3 h2
      refine V.g 10 [26] mX6_mend_ok rfl ?_
      refine pk_le 4 i (fun e => absurd e (by omega)) (fun _ => ?_) rfl h4
      refine V.cV1 mX6_mend_ok rfl lX6_214 (ct_cbecome l) rfl [8, 9, 10, 11, 12, 13, 14, 1, 2, 3, 4, 5, 6, 7] (pCart 0 d' ++ pCart 7 c) [.ref 0, .ref 14] [] rfl 0 0 rfl rfl rfl rfl rfl rfl rfl rfl none (pCart 0 c ++ pCart 7 c) ⟨d', c, rfl, rfl, rfl, rfl⟩ rfl (pX c c k r tr kr rd ft tg tc lw kl ik ri' s0 s1 s2 s3 (nt, n, cd, en, nm', sk')) none [(4, .int x4), (3, .int x3), (2, .int x2), (0, .ref 0), (1, .int y)] rfl rfl rfl ?_
      refine V.g 10 [26] mX6_mend_ok rfl ?_
      refine V.cV1 mX6_mend_ok rfl lX6_254 (ct_makePlain l) rfl [8, 9, 10, 11, 12, 13, 14] (pCart 0 c) [.ref 0, .int x4] [] rfl 0 0 rfl rfl rfl rfl rfl rfl rfl rfl none (pCart 0 (cwP c i)) ⟨c, i, by omega, by rw [h4], rfl, rfl, rfl⟩ rfl (pX c (cwP c i) k r tr kr rd ft tg tc lw kl ik ri' s0 s1 s2 s3 (nt, n, cd, en, nm', sk')) none [(4, .int x4), (3, .int x3), (2, .int x2), (0, .ref 0), (1, .int y)] rfl rfl rfl ?_
      refine V.g 10 [26] mX6_mend_ok rfl ?_
      refine V.callVW mX6_mend_ok rfl lX6_221 (ct_costOf_t l) rfl [.ref 0, .ref 16] [] (fun v hs' => ∃ (vv : Int32) (ri2 : zRi) (nm2 sk2 : fI), vv = coF (cwP c i) P ∧ v = some (.int vv) ∧ hs' = pX c (cwP c i) k r tr kr rd ft tg tc lw kl ik ri2 s0 s1 s2 s3 (nt, n, cd, en, nm2, sk2)) rfl 0 6 rfl rfl rfl rfl rfl rfl ⟨c, cwP c i, k, r, tr, kr, rd, ft, tg, tc, lw, kl, ik, ri', s0, s1, s2, s3, (nt, n, cd, en, nm', sk'), P, hL, cwP_ok hok, rfl, rfl, fun ri2 nm2 sk2 => ⟨_, ri2, nm2, sk2, rfl, rfl, rfl⟩⟩ (fun v hs' hv => ?_)
      obtain ⟨vv, ri2, nm2, sk2, hvv, rfl, rfl⟩ := hv
      refine ⟨rfl, ?_⟩
      refine V.g 20 [26] mX6_mend_ok rfl ?_
      refine And.intro (fun e => ?_) (fun e => ?_)
      · refine V.key [4, 3, 2, 0, 1] ?_
        have e2 : mdF (fun w => coF (cwP c w) P) (coF c P) (i + 1) = mdF (fun w => coF (cwP c w) P) (coF c P) i := by
          rw [mdF, if_neg]
          rw [← hvv, ← h2]
          exact Int32.not_lt.mpr e
        exact ih (i + 1) _ _ _ hb0 _ _ _ _ (by omega) (by rw [h4]; exact nI_1 i) (by rw [e2]; exact h3) (by rw [e2]; exact h2)
      · refine V.key [4, 3, 2, 0, 1] ?_
        have e2 : mdF (fun w => coF (cwP c w) P) (coF c P) (i + 1) = (some i, coF (cwP c i) P) := by
          rw [mdF, if_pos]
          rw [← hvv, ← h2]
          exact Int32.not_le.mp e
        exact ih (i + 1) _ _ _ hb0 _ _ _ _ (by omega) (by rw [h4]; exact nI_1 i) (by rw [e2]; exact h4) (by rw [e2]; exact hvv)
  subst hS
  refine V.g 10 [] mX6_mend_ok rfl ?_
  refine V.cS0 mX6_mend_ok rfl lX6_114 (ct_within l) rfl [.int y, .int (nI 0), .int (nI 1)] [] rfl rfl rfl (some (.int (bI (wiB y 1)))) (T_within_use rfl) ?_
  cases hb : wiB y 1 with
  | false =>
    refine V.g 10 [] mX6_mend_ok rfl ?_
    exact And.intro (fun e => absurd rfl e) (fun _ => ⟨_, zsim_rfl _, h0 hb⟩)
  | true =>
    refine V.g 20 [] mX6_mend_ok rfl ?_
    refine And.intro (fun _ => ?_) (fun e => absurd e (by decide))
    refine V.callVW mX6_mend_ok rfl lX6_221 (ct_costOf_c l) rfl [.ref 0, .ref 2] [] (fun v hs' => ∃ (vv : Int32) (ri2 : zRi) (nm2 sk2 : fI), vv = coF c P ∧ v = some (.int vv) ∧ hs' = pX c d k r tr kr rd ft tg tc lw kl ik ri2 s0 s1 s2 s3 (nt, n, cd, en, nm2, sk2)) rfl 0 6 rfl rfl rfl rfl rfl rfl ⟨c, d, k, r, tr, kr, rd, ft, tg, tc, lw, kl, ik, ri, s0, s1, s2, s3, (nt, n, cd, en, nm, sk), P, hL, hok, rfl, rfl, fun ri2 nm2 sk2 => ⟨_, ri2, nm2, sk2, rfl, rfl, rfl⟩⟩ (fun v hs' hv => ?_)
    obtain ⟨vv, ri2, nm2, sk2, hvv, rfl, rfl⟩ := hv
    refine ⟨rfl, ?_⟩
    refine V.g 20 [26] mX6_mend_ok rfl ?_
    refine V.key [4, 3, 2, 0, 1] ?_
    exact loop 4 0 _ _ _ hb d ri2 nm2 sk2 rfl rfl rfl hvv
