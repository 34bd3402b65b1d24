/-! ===== the reference: put, swap, quick, flutters, mend, change ===== -/
/-- the first that may be and is least -/
def ptF (ok : Nat → Bool) (f : Nat → Int32) : Nat → Option (Nat × Int32)
  | 0 => none
  | n + 1 => if ok n = true then (match ptF ok f n with
    | none => some (n, f n)
    | some (q, v) => if f n < v then some (n, f n) else some (q, v)) else ptF ok f n
theorem ptF_lt {ok : Nat → Bool} {f : Nat → Int32} : ∀ {n : Nat} {q : Nat × Int32}, ptF ok f n = some q → q.1 < n
  | 0, _, h => by cases h
  | n + 1, q, h => by
    rw [ptF] at h
    split at h
    · split at h
      · cases h; exact Nat.lt_succ_self n
      · rename_i a b hq
        split at h
        · cases h; exact Nat.lt_succ_self n
        · cases h; have := ptF_lt hq; exact Nat.lt_succ_of_lt this
    · have := ptF_lt h; exact Nat.lt_succ_of_lt this
def ptA (y : Int32) : Option (Nat × Int32) → Int32
  | none => -1
  | some (q, v) => if y = nI 0 then nI q else v
def ptO (c : zCart) (x : Int32) (n : Nat) : Bool := decide (loC c n + x ≤ nI 40)
def ptV (c : zCart) (P : zP) (x : Int32) (n : Nat) : Int32 := faF (cwL c (upd (loC c) n (loC c n + x))) P
theorem putBack (lo : fI) (n : Nat) (x : Int32) : upd (upd lo n (lo n + x)) n (upd lo n (lo n + x) n - x) = lo := by
  funext i
  rw [pk_us, Int32.add_sub_cancel]
  by_cases h : i = n
  · rw [h, pk_us]
  · rw [pk_un h, pk_un h]
theorem upBack (lo : fI) (n : Nat) (x : Int32) : upd (upd lo n x) n (lo n) = lo := by
  funext i
  by_cases h : i = n
  · rw [h, pk_us]
  · rw [pk_un h, pk_un h]
def swI (f : Nat → Nat → Int32) (a : Nat) (s : Int32 × Int32) : Nat → Int32 × Int32
  | 0 => s
  | n + 1 => if f a (a + 1 + n) < (swI f a s n).2 then (nI 10 * nI a + nI (a + 1 + n), f a (a + 1 + n)) else swI f a s n
def swO (f : Nat → Nat → Int32) (v : Int32) : Nat → Int32 × Int32
  | 0 => (-1, v)
  | a + 1 => swI f a (swO f v a) (7 - a)
theorem swO_0 {f : Nat → Nat → Int32} {v : Int32} : (swO f v 0).2 = v := rfl
def swV (c : zCart) (P : zP) (a b : Nat) : Int32 := faF (cwL c (exF (loC c) a b)) P
/-- the last k of 1 .. n with p k -/
def lsF (p : Nat → Bool) : Nat → Option Nat
  | 0 => none
  | n + 1 => if p (n + 1) = true then some (n + 1) else lsF p n
def cwA (c : zCart) (v : Nat) : zCart := (kdC c, moC c, kiC c, loC c, haC c, wiC c, nI v)
def quP (c : zCart) (P : zP) (v : Nat) : Bool := decide ((rlF (cwA c v) P (haC c) 30).2.2.2.2.2.1 = 0)
def trN (c : zCart) (P : zP) : Nat → Bool
  | 0 => false
  | n + 1 => trN c P n || (decide (0 < plT c P n) && decide (plT c P (n + 1) < 0))
theorem trN_t {c : zCart} {P : zP} {n : Nat} (h : trN c P n = true) : ∀ k, trN c P (n + k) = true
  | 0 => h
  | k + 1 => by show trN c P (n + k + 1) = _; rw [trN, trN_t h k, Bool.true_or]
/-- flutters at pace k + 1 -/
def flP (c : zCart) (P : zP) (k : Nat) : Bool := trN (cwA c (k + 1)) P 29
def flA : Option Nat → Int32
  | none => -1
  | some k => nI (k + 1)
theorem fsF_lt {p : Nat → Bool} {j : Nat} : ∀ {n : Nat}, fsF p n = some j → j < n
  | 0, h => by cases h
  | n + 1, h => by
    rw [fsF] at h
    cases hq : fsF p n with
    | some i => rw [hq] at h; have := fsF_lt (hq.trans h); omega
    | none => rw [hq] at h; simp only [] at h; split at h <;> cases h; omega
/-- the last m of 30 together, the last first -/
def sdF (co : fI) : Nat → Int32
  | 0 => 0
  | m + 1 => sdF co m + co (29 - m)
def coR (c : zCart) (P : zP) : fI := fun k => (rlF c P (haC c) (k + 1)).2.2.1
def chP (c : zCart) (P : zP) (a b : Nat) (t : Nat) : Bool := decide (nI a * nI (30 - t) + nI b < sdF (coR c P) (30 - t))
/-- the greatest t below n with p t -/
def gsF (p : Nat → Bool) : Nat → Option Nat
  | 0 => none
  | n + 1 => if p n = true then some n else gsF p n
def T7_put : zT := fun args hs Q => ∃ (fv : Nat → Int32) (ar : Nat → fI) (x y : Int32) (P : zP), mOk fv ar P ∧ args = [.ref 0, .int x, .int y] ∧ hs = pM fv ar ∧ ((decide (nI 1 ≤ x) && decide (x ≤ nI 40) && wiB y 1) = false → Q (some (.int (-2))) hs) ∧ ((decide (nI 1 ≤ x) && decide (x ≤ nI 40) && wiB y 1) = true → ∀ r : Int32, r = ptA y (ptF (ptO (cM fv ar) x) (ptV (cM fv ar) P x) 8) → ∀ fv2 ar2, kM fv ar fv2 ar2 → Q (some (.int r)) (pM fv2 ar2))
set_option maxHeartbeats 4000000 in
theorem c7_put (l : Launch) : Ct l mX7_put false 9 0 0 T7_put := by
  refine Ct.intro mX7_put_ok ?_
  rintro args hs Q ⟨fv, ar, x, y, P, hM, rfl, rfl, h0, h1⟩
  refine ⟨Nat.le_of_ble_eq_true rfl, ?_⟩
  refine V.g2 60 [30, 79] mX7_put_ok rfl ?_
  refine V.cs mX7_put_ok rfl lX7_117 (c7_in l) rfl rfl rfl rfl ⟨_, _, _, rfl, fun B hB => ⟨rfl, ?_⟩⟩
  rcases B with _ | _
  · refine V.g2 60 [30, 79] mX7_put_ok rfl ?_
    refine And.intro (fun _ => ?_) (fun e => absurd rfl e)
    exact ⟨_, zsim_rfl _, h0 (by rw [show (decide (nI 1 ≤ x) && decide (x ≤ nI 40)) = false from hB.symm]; rfl)⟩
  · refine V.g2 60 [30, 79] mX7_put_ok rfl ?_
    refine And.intro (fun e => absurd e (by decide)) (fun _ => ?_)
    refine V.cs mX7_put_ok rfl lX7_117 (c7_in l) rfl rfl rfl rfl ⟨_, _, _, rfl, fun B2 hB2 => ⟨rfl, ?_⟩⟩
    rcases B2 with _ | _
    · refine V.g2 60 [30, 79] mX7_put_ok rfl ?_
      refine And.intro (fun e => absurd rfl e) (fun _ => ?_)
      exact ⟨_, zsim_rfl _, h0 (by rw [show wiB y 1 = false from hB2.symm, Bool.and_false])⟩
    · have h := h1 (by rw [show (decide (nI 1 ≤ x) && decide (x ≤ nI 40)) = true from hB.symm, show wiB y 1 = true from hB2.symm]; rfl)
      obtain ⟨j, hj, rfl⟩ := wiB_t (n := 1) hB2.symm (by omega)
      generalize hS : pM fv ar = S
      have loop : ∀ (m k : Nat) (x5 x4 x3 : Int32) (q : RT) (sk nm pl az cs : fI), k + m = 8 → x5 = nI k → (ptF (ptO (cM fv ar) x) (ptV (cM fv ar) P x) k = none → x3 = -1 ∧ x4 = -1) → (∀ i v, ptF (ptO (cM fv ar) x) (ptV (cM fv ar) P x) k = some (i, v) → x3 = nI i ∧ x4 = v) → V l mX7_put false S (zrm 9 0 0) (zFm false S Q 0 0) 0 0 30 [(5, .int x5), (4, .int x4), (3, .int x3), (0, .ref 0), (1, .int x), (2, .int (nI j))] [] (pM (upf (upf (upf (upf fv 41 q.2.2.2.1) 42 q.2.2.2.2.1) 43 q.2.2.2.2.2.1) 44 q.2.2.2.2.2.2) (upa (upa (upa (upa (upa ar 36 sk) 37 nm) 38 pl) 39 az) 40 cs)) := by
        intro m
        induction m with
        | zero =>
          intro k x5 x4 x3 q sk nm pl az cs hk h5 hn hs
          obtain rfl : k = 8 := by omega
          refine V.g2 60 [30, 79] mX7_put_ok rfl ?_
          refine pk_le 8 8 (fun e0 => ?_) (fun e0 => absurd e0 (by omega)) rfl h5
          refine zp_ne j 0 (fun e => ?_) (fun e => ?_) rfl rfl
          · have hr : x4 = ptA (nI j) (ptF (ptO (cM fv ar) x) (ptV (cM fv ar) P x) 8) := by
              cases hq : ptF (ptO (cM fv ar) x) (ptV (cM fv ar) P x) 8 with
              | none => exact (hn hq).2
              | some q2 =>
                obtain ⟨i, v⟩ := q2
                obtain ⟨a1, a2⟩ := hs i v hq
                unfold ptA
                show x4 = (if nI j = nI 0 then nI i else v); rw [if_neg (znI (by omega) (by omega) e)]; exact a2
            refine ⟨_, zsim_rfl _, ?_⟩
            exact h _ hr (upf (upf (upf (upf fv 41 q.2.2.2.1) 42 q.2.2.2.2.1) 43 q.2.2.2.2.2.1) 44 q.2.2.2.2.2.2) (upa (upa (upa (upa (upa ar 36 sk) 37 nm) 38 pl) 39 az) 40 cs) ⟨⟨rfl, rfl, rfl, rfl, rfl, rfl, rfl, rfl, rfl, rfl, rfl⟩, ⟨rfl, rfl, rfl, rfl, rfl, rfl, rfl, rfl, rfl, rfl, rfl, rfl, rfl, rfl, rfl, rfl⟩⟩
          · have hr : x3 = ptA (nI j) (ptF (ptO (cM fv ar) x) (ptV (cM fv ar) P x) 8) := by
              cases hq : ptF (ptO (cM fv ar) x) (ptV (cM fv ar) P x) 8 with
              | none => exact (hn hq).1
              | some q2 =>
                obtain ⟨i, v⟩ := q2
                obtain ⟨a1, a2⟩ := hs i v hq
                unfold ptA
                rw [e]; show x3 = (if nI 0 = nI 0 then nI i else v); rw [if_pos rfl]; exact a1
            refine ⟨_, zsim_rfl _, ?_⟩
            exact h _ hr (upf (upf (upf (upf fv 41 q.2.2.2.1) 42 q.2.2.2.2.1) 43 q.2.2.2.2.2.1) 44 q.2.2.2.2.2.2) (upa (upa (upa (upa (upa ar 36 sk) 37 nm) 38 pl) 39 az) 40 cs) ⟨⟨rfl, rfl, rfl, rfl, rfl, rfl, rfl, rfl, rfl, rfl, rfl⟩, ⟨rfl, rfl, rfl, rfl, rfl, rfl, rfl, rfl, rfl, rfl, rfl, rfl, rfl, rfl, rfl, rfl⟩⟩
        | succ m ih =>
          intro k x5 x4 x3 q sk nm pl az cs hk h5 hn hs
          refine V.g2 60 [30, 79] mX7_put_ok rfl ?_
          refine pk_le 8 k (fun e => absurd e (by omega)) (fun e => ?_) rfl h5
          refine ⟨k, by omega, h5, rfl, ?_⟩
          refine And.intro (fun e => ?_) (fun e => ?_)
          · refine V.kn [5, 4, 3, 0, 1, 2] [(5, .int (x5 + zi 1)), (4, .int x4), (3, .int x3), (0, .ref 0), (1, .int x), (2, .int (nI j))] [] (pM (upf (upf (upf (upf fv 41 q.2.2.2.1) 42 q.2.2.2.2.1) 43 q.2.2.2.2.2.1) 44 q.2.2.2.2.2.2) (upa (upa (upa (upa (upa ar 36 sk) 37 nm) 38 pl) 39 az) 40 cs)) rfl rfl rfl ?_
            have hx : ptF (ptO (cM fv ar) x) (ptV (cM fv ar) P x) (k + 1) = ptF (ptO (cM fv ar) x) (ptV (cM fv ar) P x) k := by rw [ptF, if_neg (by rw [ptO, decide_eq_false (show ¬ loC (cM fv ar) k + x ≤ nI 40 from Int32.not_le.mpr e)]; decide)]
            exact ih (k + 1) _ _ _ q sk nm pl az cs (by omega) (ninc h5) (fun w => hn (hx ▸ w)) (fun i v w => hs i v (hx ▸ w))
          · have hok : ptO (cM fv ar) x k = true := decide_eq_true (Int32.not_lt.mp e)
            refine ⟨k, by omega, h5, rfl, ?_⟩
            refine ⟨k, by omega, h5, rfl, ?_⟩
            refine V.cw mX7_put_ok rfl lX7_272 (c7_farNow l) rfl 0 7 rfl rfl rfl rfl rfl rfl ⟨(upf (upf (upf (upf fv 41 q.2.2.2.1) 42 q.2.2.2.2.1) 43 q.2.2.2.2.2.1) 44 q.2.2.2.2.2.2), (upa (upa (upa (upa (upa (upa ar 36 sk) 37 nm) 38 pl) 39 az) 40 cs) 3 (upd (ar 3) k (((ar 3) k) + x))), P, hM, rfl, rfl, fun v hv q2 sk2 nm2 pl2 az2 cs2 => ⟨rfl, ?_⟩⟩
            replace hv : v = ptV (cM fv ar) P x k := hv
            refine V.g2 60 [30, 79] mX7_put_ok rfl ?_
            refine ⟨k, by omega, h5, rfl, ?_⟩
            refine ⟨k, by omega, h5, rfl, ?_⟩
            refine V.nm [(6, .int v), (5, .int x5), (4, .int x4), (3, .int x3), (0, .ref 0), (1, .int x), (2, .int (nI j))] [] (pM (upf (upf (upf (upf fv 41 q2.2.2.2.1) 42 q2.2.2.2.2.1) 43 q2.2.2.2.2.2.1) 44 q2.2.2.2.2.2.2) (upa (upa (upa (upa (upa (upa ar 36 sk2) 37 nm2) 38 pl2) 39 az2) 40 cs2) 3 (upd (upd (ar 3) k (((ar 3) k) + x)) k (((upd (ar 3) k (((ar 3) k) + x)) k) - x)))) rfl rfl rfl ?_
            rw [putBack]
            cases hq : ptF (ptO (cM fv ar) x) (ptV (cM fv ar) P x) k with
            | none =>
              obtain ⟨rfl, rfl⟩ := hn hq
              refine V.g2 60 [30, 79] mX7_put_ok rfl ?_
              refine And.intro (fun e0 => ?_) (fun e0 => absurd rfl e0)
              refine pk_eq 1 0 (fun e0 => absurd e0 (by omega)) (fun e0 => ?_) rfl rfl
              refine pk_eq 1 0 (fun e0 => absurd e0 (by omega)) (fun e0 => ?_) rfl rfl
              refine V.kn [5, 4, 3, 0, 1, 2] [(5, .int (x5 + zi 1)), (4, .int v), (3, .int x5), (0, .ref 0), (1, .int x), (2, .int (nI j))] [] (pM (upf (upf (upf (upf fv 41 q2.2.2.2.1) 42 q2.2.2.2.2.1) 43 q2.2.2.2.2.2.1) 44 q2.2.2.2.2.2.2) (upa (upa (upa (upa (upa (upa ar 36 sk2) 37 nm2) 38 pl2) 39 az2) 40 cs2) 3 (ar 3))) rfl rfl rfl ?_
              have hx : ptF (ptO (cM fv ar) x) (ptV (cM fv ar) P x) (k + 1) = some (k, v) := by rw [ptF, if_pos hok, hq, hv]
              exact ih (k + 1) _ _ _ q2 sk2 nm2 pl2 az2 cs2 (by omega) (ninc h5) (fun w => by rw [hx] at w; cases w) (fun i v w => by rw [hx] at w; cases w; exact ⟨h5, rfl⟩)
            | some q3 =>
              obtain ⟨i, u⟩ := q3
              have hi := ptF_lt hq
              obtain ⟨rfl, rfl⟩ := hs i u hq
              refine V.g2 60 [30, 79] mX7_put_ok rfl ?_
              refine And.intro (fun e5 => absurd e5 (nI_m1 (by simp only [] at hi; omega))) (fun e5 => ?_)
              refine And.intro (fun e4 => ?_) (fun e4 => ?_)
              · refine pk_eq 0 0 (fun e0 => ?_) (fun e0 => absurd e0 (by omega)) rfl rfl
                refine pk_eq 0 0 (fun e0 => ?_) (fun e0 => absurd e0 (by omega)) rfl rfl
                refine V.kn [5, 4, 3, 0, 1, 2] [(5, .int (x5 + zi 1)), (4, .int x4), (3, .int (nI i)), (0, .ref 0), (1, .int x), (2, .int (nI j))] [] (pM (upf (upf (upf (upf fv 41 q2.2.2.2.1) 42 q2.2.2.2.2.1) 43 q2.2.2.2.2.2.1) 44 q2.2.2.2.2.2.2) (upa (upa (upa (upa (upa (upa ar 36 sk2) 37 nm2) 38 pl2) 39 az2) 40 cs2) 3 (ar 3))) rfl rfl rfl ?_
                have hx : ptF (ptO (cM fv ar) x) (ptV (cM fv ar) P x) (k + 1) = some (i, x4) := by rw [ptF, if_pos hok, hq]; show (if _ then _ else _) = _; rw [← hv, if_neg (Int32.not_lt.mpr e4)]
                exact ih (k + 1) _ _ _ q2 sk2 nm2 pl2 az2 cs2 (by omega) (ninc h5) (fun w => by rw [hx] at w; cases w) (fun i v w => by rw [hx] at w; cases w; exact ⟨rfl, rfl⟩)
              · refine pk_eq 1 0 (fun e0 => absurd e0 (by omega)) (fun e0 => ?_) rfl rfl
                refine pk_eq 1 0 (fun e0 => absurd e0 (by omega)) (fun e0 => ?_) rfl rfl
                refine V.kn [5, 4, 3, 0, 1, 2] [(5, .int (x5 + zi 1)), (4, .int v), (3, .int x5), (0, .ref 0), (1, .int x), (2, .int (nI j))] [] (pM (upf (upf (upf (upf fv 41 q2.2.2.2.1) 42 q2.2.2.2.2.1) 43 q2.2.2.2.2.2.1) 44 q2.2.2.2.2.2.2) (upa (upa (upa (upa (upa (upa ar 36 sk2) 37 nm2) 38 pl2) 39 az2) 40 cs2) 3 (ar 3))) rfl rfl rfl ?_
                have hx : ptF (ptO (cM fv ar) x) (ptV (cM fv ar) P x) (k + 1) = some (k, v) := by rw [ptF, if_pos hok, hq]; show (if _ then _ else _) = _; rw [← hv, if_pos (Int32.not_le.mp e4)]
                exact ih (k + 1) _ _ _ q2 sk2 nm2 pl2 az2 cs2 (by omega) (ninc h5) (fun w => by rw [hx] at w; cases w) (fun i v w => by rw [hx] at w; cases w; exact ⟨h5, rfl⟩)
      subst hS
      refine V.g2 60 [30, 79] mX7_put_ok rfl ?_
      refine And.intro (fun _ => ?_) (fun e => absurd e (by decide))
      refine V.kn [5, 4, 3, 0, 1, 2] [(5, .int (nI 0)), (4, .int (-1 : Int32)), (3, .int (-1 : Int32)), (0, .ref 0), (1, .int x), (2, .int (nI j))] [] (pM fv ar) rfl rfl rfl ?_
      exact loop 8 0 _ _ _ (0, 0, 0, fv 41, fv 42, fv 43, fv 44) (ar 36) (ar 37) (ar 38) (ar 39) (ar 40) rfl rfl (fun _ => ⟨rfl, rfl⟩) (fun i v w => by cases w)
def T7_swap : zT := fun args hs Q => ∃ (fv : Nat → Int32) (ar : Nat → fI) (y : Int32) (P : zP), mOk fv ar P ∧ args = [.ref 0, .int y] ∧ hs = pM fv ar ∧ (wiB y 1 = false → Q (some (.int (-2))) hs) ∧ (wiB y 1 = true → ∀ r : Int32, r = (if y = nI 0 then (swO (swV (cM fv ar) P) (faF (cM fv ar) P) 8).1 else (swO (swV (cM fv ar) P) (faF (cM fv ar) P) 8).2) → ∀ fv2 ar2, kM fv ar fv2 ar2 → Q (some (.int r)) (pM fv2 ar2))
set_option maxHeartbeats 4000000 in
theorem c7_swap (l : Launch) : Ct l mX7_swap false 9 0 0 T7_swap := by
  refine Ct.intro mX7_swap_ok ?_
  rintro args hs Q ⟨fv, ar, y, P, hM, rfl, rfl, h0, h1⟩
  refine ⟨Nat.le_of_ble_eq_true rfl, ?_⟩
  refine V.g2 60 [22, 35, 64] mX7_swap_ok rfl ?_
  refine V.cs mX7_swap_ok rfl lX7_117 (c7_in l) rfl rfl rfl rfl ⟨_, _, _, rfl, fun B hB => ⟨rfl, ?_⟩⟩
  rcases B with _ | _
  · refine V.g2 60 [22, 35, 64] mX7_swap_ok rfl ?_
    refine And.intro (fun e => absurd rfl e) (fun _ => ?_)
    exact ⟨_, zsim_rfl _, h0 hB.symm⟩
  · have h := h1 hB.symm
    obtain ⟨j, hj, rfl⟩ := wiB_t (n := 1) hB.symm (by omega)
    generalize hS : pM fv ar = S
    have loop : ∀ (m a : Nat) (x4 x3 x2 : Int32) (q : RT) (sk nm pl az cs : fI), a + m = 8 → x4 = nI a → x2 = (swO (swV (cM fv ar) P) (faF (cM fv ar) P) a).1 → x3 = (swO (swV (cM fv ar) P) (faF (cM fv ar) P) a).2 → V l mX7_swap false S (zrm 9 0 0) (zFm false S Q 0 0) 0 0 22 [(4, .int x4), (3, .int x3), (2, .int x2), (0, .ref 0), (1, .int (nI j))] [] (pM (upf (upf (upf (upf fv 41 q.2.2.2.1) 42 q.2.2.2.2.1) 43 q.2.2.2.2.2.1) 44 q.2.2.2.2.2.2) (upa (upa (upa (upa (upa ar 36 sk) 37 nm) 38 pl) 39 az) 40 cs)) := by
      intro m
      induction m with
      | zero =>
        intro a x4 x3 x2 q sk nm pl az cs hk h4 h2 h3
        obtain rfl : a = 8 := by omega
        refine V.g2 60 [22, 35, 64] mX7_swap_ok rfl ?_
        refine pk_le 8 8 (fun e0 => ?_) (fun e0 => absurd e0 (by omega)) rfl h4
        refine zp_ne j 0 (fun e => ?_) (fun e => ?_) rfl rfl
        · refine ⟨_, zsim_rfl _, ?_⟩
          exact h _ (by rw [if_neg (znI (by omega) (by omega) e)]; exact h3) (upf (upf (upf (upf fv 41 q.2.2.2.1) 42 q.2.2.2.2.1) 43 q.2.2.2.2.2.1) 44 q.2.2.2.2.2.2) (upa (upa (upa (upa (upa ar 36 sk) 37 nm) 38 pl) 39 az) 40 cs) ⟨⟨rfl, rfl, rfl, rfl, rfl, rfl, rfl, rfl, rfl, rfl, rfl⟩, ⟨rfl, rfl, rfl, rfl, rfl, rfl, rfl, rfl, rfl, rfl, rfl, rfl, rfl, rfl, rfl, rfl⟩⟩
        · refine ⟨_, zsim_rfl _, ?_⟩
          exact h _ (by rw [e, if_pos rfl]; exact h2) (upf (upf (upf (upf fv 41 q.2.2.2.1) 42 q.2.2.2.2.1) 43 q.2.2.2.2.2.1) 44 q.2.2.2.2.2.2) (upa (upa (upa (upa (upa ar 36 sk) 37 nm) 38 pl) 39 az) 40 cs) ⟨⟨rfl, rfl, rfl, rfl, rfl, rfl, rfl, rfl, rfl, rfl, rfl⟩, ⟨rfl, rfl, rfl, rfl, rfl, rfl, rfl, rfl, rfl, rfl, rfl, rfl, rfl, rfl, rfl, rfl⟩⟩
      | succ m ih =>
        intro a x4 x3 x2 q sk nm pl az cs hk h4 h2 h3
        refine V.g2 60 [22, 35, 64] mX7_swap_ok rfl ?_
        refine pk_le 8 a (fun e => absurd e (by omega)) (fun e => ?_) rfl h4
        have inner : ∀ (m2 n : Nat) (x5 u3 u2 : Int32) (q : RT) (sk nm pl az cs : fI), n + m2 = 7 - a → x5 = nI (a + 1 + n) → u2 = (swI (swV (cM fv ar) P) a (swO (swV (cM fv ar) P) (faF (cM fv ar) P) a) n).1 → u3 = (swI (swV (cM fv ar) P) a (swO (swV (cM fv ar) P) (faF (cM fv ar) P) a) n).2 → V l mX7_swap false S (zrm 9 0 0) (zFm false S Q 0 0) 0 0 35 [(5, .int x5), (4, .int x4), (3, .int u3), (2, .int u2), (0, .ref 0), (1, .int (nI j))] [] (pM (upf (upf (upf (upf fv 41 q.2.2.2.1) 42 q.2.2.2.2.1) 43 q.2.2.2.2.2.1) 44 q.2.2.2.2.2.2) (upa (upa (upa (upa (upa ar 36 sk) 37 nm) 38 pl) 39 az) 40 cs)) := by
          intro m2
          induction m2 with
          | zero =>
            intro n x5 u3 u2 q sk nm pl az cs hn h5 g2 g3
            obtain rfl : n = 7 - a := by omega
            refine V.g2 60 [22, 35, 64] mX7_swap_ok rfl ?_
            refine pk_le 8 (a + 1 + (7 - a)) (fun e => ?_) (fun e => absurd e (by omega)) rfl h5
            refine V.kn [4, 3, 2, 0, 1] [(4, .int (x4 + zi 1)), (3, .int u3), (2, .int u2), (0, .ref 0), (1, .int (nI j))] [] (pM (upf (upf (upf (upf fv 41 q.2.2.2.1) 42 q.2.2.2.2.1) 43 q.2.2.2.2.2.1) 44 q.2.2.2.2.2.2) (upa (upa (upa (upa (upa ar 36 sk) 37 nm) 38 pl) 39 az) 40 cs)) rfl rfl rfl ?_
            exact ih (a + 1) _ _ _ q sk nm pl az cs (by omega) (ninc h4) g2 g3
          | succ m2 ih =>
            intro n x5 u3 u2 q sk nm pl az cs hn h5 g2 g3
            refine V.g2 60 [22, 35, 64] mX7_swap_ok rfl ?_
            refine pk_le 8 (a + 1 + n) (fun e => absurd e (by omega)) (fun e => ?_) rfl h5
            refine V.cw mX7_swap_ok rfl lX7_288 (c7_swaps l) rfl 0 7 rfl rfl rfl rfl rfl rfl ⟨(upf (upf (upf (upf fv 41 q.2.2.2.1) 42 q.2.2.2.2.1) 43 q.2.2.2.2.2.1) 44 q.2.2.2.2.2.2), (upa (upa (upa (upa (upa ar 36 sk) 37 nm) 38 pl) 39 az) 40 cs), _, _, a, a + 1 + n, by omega, by omega, h4, h5, rfl, rfl, rfl, ?_⟩
            refine V.g2 60 [22, 35, 64] mX7_swap_ok rfl ?_
            refine V.cw mX7_swap_ok rfl lX7_272 (c7_farNow l) rfl 0 7 rfl rfl rfl rfl rfl rfl ⟨(upf (upf (upf (upf fv 41 q.2.2.2.1) 42 q.2.2.2.2.1) 43 q.2.2.2.2.2.1) 44 q.2.2.2.2.2.2), (upa (upa (upa (upa (upa (upa ar 36 sk) 37 nm) 38 pl) 39 az) 40 cs) 3 (exF (ar 3) a (a + 1 + n))), P, hM, rfl, rfl, fun v hv q2 sk2 nm2 pl2 az2 cs2 => ⟨rfl, ?_⟩⟩
            refine V.g2 60 [22, 35, 64] mX7_swap_ok rfl ?_
            replace hv : v = swV (cM fv ar) P a (a + 1 + n) := hv
            refine V.cw mX7_swap_ok rfl lX7_288 (c7_swaps l) rfl 0 7 rfl rfl rfl rfl rfl rfl ⟨(upf (upf (upf (upf fv 41 q2.2.2.2.1) 42 q2.2.2.2.2.1) 43 q2.2.2.2.2.2.1) 44 q2.2.2.2.2.2.2), (upa (upa (upa (upa (upa (upa ar 3 (exF (ar 3) a (a + 1 + n))) 36 sk2) 37 nm2) 38 pl2) 39 az2) 40 cs2), _, _, a, a + 1 + n, by omega, by omega, h4, h5, rfl, rfl, rfl, ?_⟩
            refine V.nm [(6, .int v), (5, .int x5), (4, .int x4), (3, .int u3), (2, .int u2), (0, .ref 0), (1, .int (nI j))] [] (pM (upf (upf (upf (upf fv 41 q2.2.2.2.1) 42 q2.2.2.2.2.1) 43 q2.2.2.2.2.2.1) 44 q2.2.2.2.2.2.2) (upa (upa (upa (upa (upa (upa ar 36 sk2) 37 nm2) 38 pl2) 39 az2) 40 cs2) 3 (exF (exF (ar 3) a (a + 1 + n)) a (a + 1 + n)))) rfl rfl rfl ?_
            rw [exF_2f]
            refine V.g2 60 [22, 35, 64] mX7_swap_ok rfl ?_
            refine And.intro (fun e4 => ?_) (fun e4 => ?_)
            · refine And.intro (fun e6 => ?_) (fun e6 => absurd e4 e6)
              refine V.kn [5, 4, 3, 2, 0, 1] [(5, .int (x5 + zi 1)), (4, .int x4), (3, .int u3), (2, .int u2), (0, .ref 0), (1, .int (nI j))] [] (pM (upf (upf (upf (upf fv 41 q2.2.2.2.1) 42 q2.2.2.2.2.1) 43 q2.2.2.2.2.2.1) 44 q2.2.2.2.2.2.2) (upa (upa (upa (upa (upa (upa ar 36 sk2) 37 nm2) 38 pl2) 39 az2) 40 cs2) 3 (ar 3))) rfl rfl rfl ?_
              have hx : swI (swV (cM fv ar) P) a (swO (swV (cM fv ar) P) (faF (cM fv ar) P) a) (n + 1) = swI (swV (cM fv ar) P) a (swO (swV (cM fv ar) P) (faF (cM fv ar) P) a) n := by rw [swI, if_neg (by rw [← hv, ← g3]; exact Int32.not_lt.mpr e4)]
              exact ih (n + 1) _ _ _ q2 sk2 nm2 pl2 az2 cs2 (by omega) (ninc h5) (by rw [hx]; exact g2) (by rw [hx]; exact g3)
            · refine And.intro (fun e6 => absurd e6 e4) (fun e6 => ?_)
              refine V.kn [5, 4, 3, 2, 0, 1] [(5, .int (x5 + zi 1)), (4, .int x4), (3, .int v), (2, .int (((nI 10) * x4) + x5)), (0, .ref 0), (1, .int (nI j))] [] (pM (upf (upf (upf (upf fv 41 q2.2.2.2.1) 42 q2.2.2.2.2.1) 43 q2.2.2.2.2.2.1) 44 q2.2.2.2.2.2.2) (upa (upa (upa (upa (upa (upa ar 36 sk2) 37 nm2) 38 pl2) 39 az2) 40 cs2) 3 (ar 3))) rfl rfl rfl ?_
              have hx : swI (swV (cM fv ar) P) a (swO (swV (cM fv ar) P) (faF (cM fv ar) P) a) (n + 1) = (nI 10 * nI a + nI (a + 1 + n), v) := by rw [swI, if_pos (by rw [← hv, ← g3]; exact Int32.not_le.mp e4), hv]
              exact ih (n + 1) _ _ _ q2 sk2 nm2 pl2 az2 cs2 (by omega) (ninc h5) (by rw [hx, h4, h5]) (by rw [hx])
        refine V.kn [5, 4, 3, 2, 0, 1] [(5, .int (x4 + (nI 1))), (4, .int x4), (3, .int x3), (2, .int x2), (0, .ref 0), (1, .int (nI j))] [] (pM (upf (upf (upf (upf fv 41 q.2.2.2.1) 42 q.2.2.2.2.1) 43 q.2.2.2.2.2.1) 44 q.2.2.2.2.2.2) (upa (upa (upa (upa (upa ar 36 sk) 37 nm) 38 pl) 39 az) 40 cs)) rfl rfl rfl ?_
        exact inner (7 - a) 0 _ _ _ q sk nm pl az cs (by omega) (ninc h4) h2 h3
    subst hS
    refine V.g2 60 [22, 35, 64] mX7_swap_ok rfl ?_
    refine And.intro (fun _ => ?_) (fun e => absurd e (by decide))
    refine V.cw mX7_swap_ok rfl lX7_272 (c7_farNow l) rfl 0 7 rfl rfl rfl rfl rfl rfl ⟨fv, ar, P, hM, rfl, rfl, fun v hv q sk nm pl az cs => ⟨rfl, ?_⟩⟩
    refine V.g2 60 [22, 35, 64] mX7_swap_ok rfl ?_
    refine V.kn [4, 3, 2, 0, 1] [(4, .int (nI 0)), (3, .int v), (2, .int (-1 : Int32)), (0, .ref 0), (1, .int (nI j))] [] (pM (upf (upf (upf (upf fv 41 q.2.2.2.1) 42 q.2.2.2.2.1) 43 q.2.2.2.2.2.1) 44 q.2.2.2.2.2.2) (upa (upa (upa (upa (upa ar 36 sk) 37 nm) 38 pl) 39 az) 40 cs)) rfl rfl rfl ?_
    exact loop 8 0 _ _ _ q sk nm pl az cs rfl rfl rfl (by rw [swO_0]; exact hv)
def T7_quick : zT := fun args hs Q => ∃ (fv : Nat → Int32) (ar : Nat → fI) (P : zP), mOk fv ar P ∧ args = [.ref 0] ∧ hs = pM fv ar ∧ ∀ r : Int32, r = oI (lsF (quP (cM fv ar) P) 9) → ∀ fv2 ar2, kM fv ar fv2 ar2 → Q (some (.int r)) (pM fv2 ar2)
set_option maxHeartbeats 4000000 in
theorem c7_quick (l : Launch) : Ct l mX7_quick false 8 0 0 T7_quick := by
  refine Ct.intro mX7_quick_ok ?_
  rintro args hs Q ⟨fv, ar, P, hM, rfl, rfl, h⟩
  refine ⟨Nat.le_of_ble_eq_true rfl, ?_⟩
  generalize hS : pM fv ar = S
  have loop : ∀ (m k : Nat) (x3 x2 pa : Int32) (q : RT) (sk nm pl az cs : fI), k + m = 9 → x3 = nI (k + 1) → x2 = oI (lsF (quP (cM fv ar) P) k) → V l mX7_quick false S (zrm 8 0 0) (zFm false S Q 0 0) 0 0 9 [(3, .int x3), (2, .int x2), (1, .int (fv 5)), (0, .ref 0)] [] (pM (upf (upf (upf (upf (upf fv 41 q.2.2.2.1) 42 q.2.2.2.2.1) 43 q.2.2.2.2.2.1) 44 q.2.2.2.2.2.2) 5 pa) (upa (upa (upa (upa (upa ar 36 sk) 37 nm) 38 pl) 39 az) 40 cs)) := by
    intro m
    induction m with
    | zero =>
      intro k x3 x2 pa q sk nm pl az cs hk h3 h2
      obtain rfl : k = 9 := by omega
      refine V.g2 60 [9] mX7_quick_ok rfl ?_
      refine pk_lt 9 10 (fun e0 => ?_) (fun e0 => absurd e0 (by omega)) rfl h3
      refine ⟨_, zsim_rfl _, ?_⟩
      exact h _ h2 (upf (upf (upf (upf (upf fv 41 q.2.2.2.1) 42 q.2.2.2.2.1) 43 q.2.2.2.2.2.1) 44 q.2.2.2.2.2.2) 5 (fv 5)) (upa (upa (upa (upa (upa ar 36 sk) 37 nm) 38 pl) 39 az) 40 cs) ⟨⟨rfl, rfl, rfl, rfl, rfl, rfl, rfl, rfl, rfl, rfl, rfl⟩, ⟨rfl, rfl, rfl, rfl, rfl, rfl, rfl, rfl, rfl, rfl, rfl, rfl, rfl, rfl, rfl, rfl⟩⟩
    | succ m ih =>
      intro k x3 x2 pa q sk nm pl az cs hk h3 h2
      refine V.g2 60 [9] mX7_quick_ok rfl ?_
      refine pk_lt 9 (k + 1) (fun e => absurd e (by omega)) (fun e => ?_) rfl h3
      have e3 : x3 = nI (k + 1) := h3
      subst e3
      refine V.cw mX7_quick_ok rfl lX7_253 (c7_rolls l) rfl 0 7 rfl rfl rfl rfl rfl rfl ⟨(upf (upf (upf (upf (upf fv 41 q.2.2.2.1) 42 q.2.2.2.2.1) 43 q.2.2.2.2.2.1) 44 q.2.2.2.2.2.2) 5 (nI (k + 1))), (upa (upa (upa (upa (upa ar 36 sk) 37 nm) 38 pl) 39 az) 40 cs), P, hM, rfl, rfl, fun q2 hq2 sk2 nm2 pl2 az2 cs2 hr2 => ⟨rfl, ?_⟩⟩
      have hq3 : q2 = rlF (cwA (cM fv ar) (k + 1)) P (ar 4) 30 := hq2
      have hb : quP (cM fv ar) P (k + 1) = decide (q2.2.2.2.2.2.1 = 0) := by rw [hq3, quP]
      refine V.g2 60 [9] mX7_quick_ok rfl ?_
      refine And.intro (fun e => ?_) (fun e => ?_)
      · refine V.kn [3, 2, 1, 0] [(3, .int ((nI (k + 1)) + zi 1)), (2, .int x2), (1, .int (fv 5)), (0, .ref 0)] [] (pM (upf (upf (upf (upf (upf fv 5 (nI (k + 1))) 41 q2.2.2.2.1) 42 q2.2.2.2.2.1) 43 q2.2.2.2.2.2.1) 44 q2.2.2.2.2.2.2) (upa (upa (upa (upa (upa ar 36 sk2) 37 nm2) 38 pl2) 39 az2) 40 cs2)) rfl rfl rfl ?_
        exact ih (k + 1) _ _ _ q2 sk2 nm2 pl2 az2 cs2 (by omega) (ninc h3) (by rw [lsF, hb, decide_eq_false (show ¬ q2.2.2.2.2.2.1 = 0 from e), if_neg (by decide)]; exact h2)
      · refine V.kn [3, 2, 1, 0] [(3, .int ((nI (k + 1)) + zi 1)), (2, .int (nI (k + 1))), (1, .int (fv 5)), (0, .ref 0)] [] (pM (upf (upf (upf (upf (upf fv 5 (nI (k + 1))) 41 q2.2.2.2.1) 42 q2.2.2.2.2.1) 43 q2.2.2.2.2.2.1) 44 q2.2.2.2.2.2.2) (upa (upa (upa (upa (upa ar 36 sk2) 37 nm2) 38 pl2) 39 az2) 40 cs2)) rfl rfl rfl ?_
        exact ih (k + 1) _ _ _ q2 sk2 nm2 pl2 az2 cs2 (by omega) (ninc h3) (by rw [lsF, hb, decide_eq_true (show q2.2.2.2.2.2.1 = 0 from e), if_pos rfl]; rfl)
  subst hS
  refine V.g2 60 [9] mX7_quick_ok rfl ?_
  refine V.kn [3, 2, 1, 0] [(3, .int (nI 1)), (2, .int (-1 : Int32)), (1, .int (fv 5)), (0, .ref 0)] [] (pM fv ar) rfl rfl rfl ?_
  exact loop 9 0 _ _ (fv 5) (0, 0, 0, fv 41, fv 42, fv 43, fv 44) (ar 36) (ar 37) (ar 38) (ar 39) (ar 40) rfl rfl rfl
def T7_isFluttering : zT := fun args hs Q => ∃ (fv : Nat → Int32) (ar : Nat → fI) (P : zP), mOk fv ar P ∧ args = [.ref 0] ∧ hs = pM fv ar ∧ ∀ B : Bool, B = trN (cM fv ar) P 29 → ∀ sk nm, Q (some (.int (bI B))) (pM fv (upa (upa ar 36 sk) 37 nm))
set_option maxHeartbeats 4000000 in
theorem c7_isFluttering (l : Launch) : Ct l mX7_isFluttering false 6 0 0 T7_isFluttering := by
  refine Ct.intro mX7_isFluttering_ok ?_
  rintro args hs Q ⟨fv, ar, P, hM, rfl, rfl, h⟩
  refine ⟨Nat.le_of_ble_eq_true rfl, ?_⟩
  generalize hS : pM fv ar = S
  have loop : ∀ (m t : Nat) (x1 : Int32) (sk nm : fI), t + m = 29 → x1 = nI t → trN (cM fv ar) P t = false → V l mX7_isFluttering false S (zrm 6 0 0) (zFm false S Q 0 0) 0 0 2 [(1, .int x1), (0, .ref 0)] [] (pM fv (upa (upa ar 36 sk) 37 nm)) := by
    intro m
    induction m with
    | zero =>
      intro t x1 sk nm ht h1 hn
      obtain rfl : t = 29 := by omega
      refine V.g2 60 [2, 30] mX7_isFluttering_ok rfl ?_
      refine pk_le 30 (29 + 1) (fun e => ?_) (fun e => absurd e (by omega)) rfl (nadd h1 rfl)
      refine And.intro (Or.inl rfl) ?_
      exact ⟨_, zsim_rfl _, h false hn.symm sk nm⟩
    | succ m ih =>
      intro t x1 sk nm ht h1 hn
      refine V.g2 60 [2, 30] mX7_isFluttering_ok rfl ?_
      refine pk_le 30 (t + 1) (fun e => absurd e (by omega)) (fun e => ?_) rfl (nadd h1 rfl)
      refine V.cw mX7_isFluttering_ok rfl lX7_241 (c7_pullIn l) rfl 0 7 rfl rfl rfl rfl rfl rfl ⟨fv, upa (upa ar 36 sk) 37 nm, _, t, P, by omega, h1, hM.1, hM.2.2, rfl, rfl, fun v hv sk2 nm2 => ⟨rfl, ?_⟩⟩
      replace hv : v = plT (cM fv ar) P t := hv
      have t30 : ∀ (sk nm : fI), trN (cM fv ar) P (t + 1) = false → V l mX7_isFluttering false S (zrm 6 0 0) (zFm false S Q 0 0) 0 0 30 [(1, .int x1), (0, .ref 0)] [] (pM fv (upa (upa ar 36 sk) 37 nm)) := by
        intro sk nm hf
        refine V.g2 60 [2, 30] mX7_isFluttering_ok rfl ?_
        refine V.kn [1, 0] [(1, .int (x1 + zi 1)), (0, .ref 0)] [] (pM fv (upa (upa ar 36 sk) 37 nm)) rfl rfl rfl ?_
        exact ih (t + 1) _ sk nm (by omega) (ninc h1) hf
      refine V.g2 60 [2, 30] mX7_isFluttering_ok rfl ?_
      refine And.intro (fun e => ?_) (fun e => ?_)
      · refine V.kn [1, 0] [(1, .int x1), (0, .ref 0)] [] (pM fv (upa (upa ar 36 sk2) 37 nm2)) rfl rfl rfl ?_
        exact t30 _ _ (by rw [trN, hn, ← hv, decide_eq_false (Int32.not_lt.mpr e)]; rfl)
      · refine V.cw mX7_isFluttering_ok rfl lX7_241 (c7_pullIn l) rfl 0 7 rfl rfl rfl rfl rfl rfl ⟨fv, upa (upa ar 36 sk2) 37 nm2, _, t + 1, P, by omega, ninc h1, hM.1, hM.2.2, rfl, rfl, fun v2 hv2 sk3 nm3 => ⟨rfl, ?_⟩⟩
        replace hv2 : v2 = plT (cM fv ar) P (t + 1) := hv2
        refine V.g2 60 [2, 30] mX7_isFluttering_ok rfl ?_
        refine And.intro (fun e2 => ?_) (fun e2 => ?_)
        · refine V.kn [1, 0] [(1, .int x1), (0, .ref 0)] [] (pM fv (upa (upa ar 36 sk3) 37 nm3)) rfl rfl rfl ?_
          exact t30 _ _ (by rw [trN, hn, ← hv2, decide_eq_false (Int32.not_lt.mpr e2), Bool.and_false]; rfl)
        · refine And.intro (Or.inr rfl) ?_
          exact ⟨_, zsim_rfl _, h true (by have q := trN_t (c := cM fv ar) (P := P) (n := t + 1) (by rw [trN, ← hv, ← hv2, decide_eq_true (Int32.not_le.mp e), decide_eq_true (Int32.not_le.mp e2)]; exact Bool.or_true _) (29 - (t + 1)); rw [show t + 1 + (29 - (t + 1)) = 29 by omega] at q; exact q.symm) sk3 nm3⟩
  subst hS
  refine V.g2 60 [2, 30] mX7_isFluttering_ok rfl ?_
  refine V.kn [1, 0] [(1, .int (nI 0)), (0, .ref 0)] [] (pM fv ar) rfl rfl rfl ?_
  exact loop 29 0 _ (ar 36) (ar 37) rfl rfl rfl
def T7_flutters : zT := fun args hs Q => ∃ (fv : Nat → Int32) (ar : Nat → fI) (P : zP), mOk fv ar P ∧ args = [.ref 0] ∧ hs = pM fv ar ∧ ∀ r : Int32, r = flA (fsF (flP (cM fv ar) P) 9) → ∀ fv2 ar2, kM fv ar fv2 ar2 → Q (some (.int r)) (pM fv2 ar2)
set_option maxHeartbeats 4000000 in
theorem c7_flutters (l : Launch) : Ct l mX7_flutters false 7 0 0 T7_flutters := by
  refine Ct.intro mX7_flutters_ok ?_
  rintro args hs Q ⟨fv, ar, P, hM, rfl, rfl, h⟩
  refine ⟨Nat.le_of_ble_eq_true rfl, ?_⟩
  generalize hS : pM fv ar = S
  have loop : ∀ (m k : Nat) (x3 x2 pa : Int32) (sk nm : fI), k + m = 9 → x3 = nI (k + 1) → x2 = flA (fsF (flP (cM fv ar) P) k) → V l mX7_flutters false S (zrm 7 0 0) (zFm false S Q 0 0) 0 0 9 [(3, .int x3), (2, .int x2), (1, .int (fv 5)), (0, .ref 0)] [] (pM (upf fv 5 pa) (upa (upa ar 36 sk) 37 nm)) := by
    intro m
    induction m with
    | zero =>
      intro k x3 x2 pa sk nm hk h3 h2
      obtain rfl : k = 9 := by omega
      refine V.g2 60 [9, 44] mX7_flutters_ok rfl ?_
      refine pk_lt 9 10 (fun e0 => ?_) (fun e0 => absurd e0 (by omega)) rfl h3
      refine V.g2 60 [9, 44] mX7_flutters_ok rfl ?_
      refine ⟨_, zsim_rfl _, ?_⟩
      exact h _ h2 (upf fv 5 (fv 5)) (upa (upa ar 36 sk) 37 nm) ⟨⟨rfl, rfl, rfl, rfl, rfl, rfl, rfl, rfl, rfl, rfl, rfl⟩, ⟨rfl, rfl, rfl, rfl, rfl, rfl, rfl, rfl, rfl, rfl, rfl, rfl, rfl, rfl, rfl, rfl⟩⟩
    | succ m ih =>
      intro k x3 x2 pa sk nm hk h3 h2
      cases hf : fsF (flP (cM fv ar) P) k with
      | some j =>
        rw [hf] at h2
        have hj := fsF_lt hf
        have hfin : fsF (flP (cM fv ar) P) 9 = some j := by have q := fsF_up hf (9 - k); rwa [show k + (9 - k) = 9 by omega] at q
        refine V.g2 60 [9, 44] mX7_flutters_ok rfl ?_
        refine pk_lt 9 (k + 1) (fun e => absurd e (by omega)) (fun e => ?_) rfl h3
        refine And.intro (fun e1 => ?_) (fun e1 => absurd ((show x2 = nI (j + 1) from h2).symm.trans e1) (nI_m1 (by omega)))
        refine V.g2 60 [9, 44] mX7_flutters_ok rfl ?_
        refine ⟨_, zsim_rfl _, ?_⟩
        exact h _ (by rw [h2, hfin]) (upf fv 5 (fv 5)) (upa (upa ar 36 sk) 37 nm) ⟨⟨rfl, rfl, rfl, rfl, rfl, rfl, rfl, rfl, rfl, rfl, rfl⟩, ⟨rfl, rfl, rfl, rfl, rfl, rfl, rfl, rfl, rfl, rfl, rfl, rfl, rfl, rfl, rfl, rfl⟩⟩
      | none =>
        rw [hf] at h2
        have h1b : x2 = -1 := h2
        refine V.g2 60 [9, 44] mX7_flutters_ok rfl ?_
        refine pk_lt 9 (k + 1) (fun e => absurd e (by omega)) (fun e => ?_) rfl h3
        refine And.intro (fun e1 => absurd h1b e1) (fun e1 => ?_)
        have e3 : x3 = nI (k + 1) := h3
        subst e3
        refine V.cw mX7_flutters_ok rfl lX7_302 (c7_isFluttering l) rfl 0 7 rfl rfl rfl rfl rfl rfl ⟨(upf fv 5 (nI (k + 1))), (upa (upa ar 36 sk) 37 nm), P, hM, rfl, rfl, fun B hB sk2 nm2 => ⟨rfl, ?_⟩⟩
        replace hB : B = flP (cM fv ar) P k := hB
        rcases B with _ | _
        · refine V.g2 60 [9, 44] mX7_flutters_ok rfl ?_
          refine And.intro (fun _ => ?_) (fun e => absurd rfl e)
          refine V.kn [3, 2, 1, 0] [(3, .int ((nI (k + 1)) + zi 1)), (2, .int (-1 : Int32)), (1, .int (fv 5)), (0, .ref 0)] [] (pM (upf fv 5 (nI (k + 1))) (upa (upa ar 36 sk2) 37 nm2)) rfl rfl rfl ?_
          exact ih (k + 1) _ _ _ sk2 nm2 (by omega) (ninc h3) (by rw [fsF_miss hf hB.symm]; rfl)
        · refine V.g2 60 [9, 44] mX7_flutters_ok rfl ?_
          refine And.intro (fun e => absurd e (by decide)) (fun _ => ?_)
          refine V.kn [3, 2, 1, 0] [(3, .int ((nI (k + 1)) + zi 1)), (2, .int (nI (k + 1))), (1, .int (fv 5)), (0, .ref 0)] [] (pM (upf fv 5 (nI (k + 1))) (upa (upa ar 36 sk2) 37 nm2)) rfl rfl rfl ?_
          exact ih (k + 1) _ _ _ sk2 nm2 (by omega) (ninc h3) (by rw [fsF_hit hf hB.symm (Nat.lt_succ_self k)]; rfl)
  subst hS
  refine V.g2 60 [9, 44] mX7_flutters_ok rfl ?_
  refine V.kn [3, 2, 1, 0] [(3, .int (nI 1)), (2, .int (-1 : Int32)), (1, .int (fv 5)), (0, .ref 0)] [] (pM fv ar) rfl rfl rfl ?_
  exact loop 9 0 _ _ (fv 5) (ar 36) (ar 37) rfl rfl rfl
def T7_mend : zT := fun args hs Q => ∃ (fv : Nat → Int32) (ar : Nat → fI) (y : Int32) (P : zP), mOk fv ar P ∧ args = [.ref 0, .int y] ∧ hs = pM fv ar ∧ (wiB y 1 = false → Q (some (.int (-2))) hs) ∧ (wiB y 1 = true → ∀ r : Int32, r = (if y = nI 0 then oI (mdF (fun w => coF (cwP (cM fv ar) w) P) (coF (cM fv ar) P) 4).1 else (mdF (fun w => coF (cwP (cM fv ar) w) P) (coF (cM fv ar) P) 4).2) → ∀ fv2 ar2, kM fv ar fv2 ar2 → Q (some (.int r)) (pM fv2 ar2))
set_option maxHeartbeats 4000000 in
theorem c7_mend (l : Launch) : Ct l mX7_mend false 9 0 0 T7_mend := by
  refine Ct.intro mX7_mend_ok ?_
  rintro args hs Q ⟨fv, ar, y, P, hM, rfl, rfl, h0, h1⟩
  refine ⟨Nat.le_of_ble_eq_true rfl, ?_⟩
  refine V.g2 60 [22, 86] mX7_mend_ok rfl ?_
  refine V.cs mX7_mend_ok rfl lX7_117 (c7_in l) rfl rfl rfl rfl ⟨_, _, _, rfl, fun B hB => ⟨rfl, ?_⟩⟩
  rcases B with _ | _
  · refine V.g2 60 [22, 86] mX7_mend_ok rfl ?_
    refine And.intro (fun e => absurd rfl e) (fun _ => ?_)
    exact ⟨_, zsim_rfl _, h0 hB.symm⟩
  · have h := h1 hB.symm
    obtain ⟨j, hj, rfl⟩ := wiB_t (n := 1) hB.symm (by omega)
    generalize hS : pM fv ar = S
    have loop : ∀ (m k : Nat) (x4 x3 x2 : Int32) (q : RT) (sk nm pl az cs : fI), k + m = 4 → x4 = nI k → x2 = oI (mdF (fun w => coF (cwP (cM fv ar) w) P) (coF (cM fv ar) P) k).1 → x3 = (mdF (fun w => coF (cwP (cM fv ar) w) P) (coF (cM fv ar) P) k).2 → V l mX7_mend false S (zrm 9 0 0) (zFm false S Q 0 0) 0 0 22 [(4, .int x4), (3, .int x3), (2, .int x2), (0, .ref 0), (1, .int (nI j))] [] (pM (upf (upf (upf (upf fv 41 q.2.2.2.1) 42 q.2.2.2.2.1) 43 q.2.2.2.2.2.1) 44 q.2.2.2.2.2.2) (upa (upa (upa (upa (upa ar 36 sk) 37 nm) 38 pl) 39 az) 40 cs)) := by
      intro m
      induction m with
      | zero =>
        intro k x4 x3 x2 q sk nm pl az cs hk h4 h2 h3
        obtain rfl : k = 4 := by omega
        refine V.g2 60 [22, 86] mX7_mend_ok rfl ?_
        refine pk_le 4 4 (fun e0 => ?_) (fun e0 => absurd e0 (by omega)) rfl h4
        refine zp_ne j 0 (fun e => ?_) (fun e => ?_) rfl rfl
        · refine ⟨_, zsim_rfl _, ?_⟩
          exact h _ (by rw [if_neg (znI (by omega) (by omega) e)]; exact h3) (upf (upf (upf (upf fv 41 q.2.2.2.1) 42 q.2.2.2.2.1) 43 q.2.2.2.2.2.1) 44 q.2.2.2.2.2.2) (upa (upa (upa (upa (upa ar 36 sk) 37 nm) 38 pl) 39 az) 40 cs) ⟨⟨rfl, rfl, rfl, rfl, rfl, rfl, rfl, rfl, rfl, rfl, rfl⟩, ⟨rfl, rfl, rfl, rfl, rfl, rfl, rfl, rfl, rfl, rfl, rfl, rfl, rfl, rfl, rfl, rfl⟩⟩
        · refine ⟨_, zsim_rfl _, ?_⟩
          exact h _ (by rw [e, if_pos rfl]; exact h2) (upf (upf (upf (upf fv 41 q.2.2.2.1) 42 q.2.2.2.2.1) 43 q.2.2.2.2.2.1) 44 q.2.2.2.2.2.2) (upa (upa (upa (upa (upa ar 36 sk) 37 nm) 38 pl) 39 az) 40 cs) ⟨⟨rfl, rfl, rfl, rfl, rfl, rfl, rfl, rfl, rfl, rfl, rfl⟩, ⟨rfl, rfl, rfl, rfl, rfl, rfl, rfl, rfl, rfl, rfl, rfl, rfl, rfl, rfl, rfl, rfl⟩⟩
      | succ m ih =>
        intro k x4 x3 x2 q sk nm pl az cs hk h4 h2 h3
        refine V.g2 60 [22, 86] mX7_mend_ok rfl ?_
        refine pk_le 4 k (fun e => absurd e (by omega)) (fun e => ?_) rfl h4
        refine ⟨k, by omega, h4, rfl, ?_⟩
        refine ⟨k, by omega, h4, rfl, ?_⟩
        refine ⟨k, by omega, h4, rfl, ?_⟩
        refine ⟨k, by omega, h4, rfl, ?_⟩
        refine V.cw mX7_mend_ok rfl lX7_269 (c7_costNow l) rfl 0 7 rfl rfl rfl rfl rfl rfl ⟨(upf (upf (upf (upf fv 41 q.2.2.2.1) 42 q.2.2.2.2.1) 43 q.2.2.2.2.2.1) 44 q.2.2.2.2.2.2), (upa (upa (upa (upa (upa (upa (upa ar 36 sk) 37 nm) 38 pl) 39 az) 40 cs) 0 (upd (ar 0) k (nI 0))) 1 (upd (ar 1) k (nI 0))), P, ⟨cwP_ok hM.1, hM.2⟩, rfl, rfl, fun v hv q2 sk2 nm2 pl2 az2 cs2 => ⟨rfl, ?_⟩⟩
        replace hv : v = coF (cwP (cM fv ar) k) P := hv
        refine V.g2 60 [22, 86] mX7_mend_ok rfl ?_
        refine ⟨k, by omega, h4, rfl, ?_⟩
        refine ⟨k, by omega, h4, rfl, ?_⟩
        refine V.nm [(7, .int v), (6, .int ((ar 1) k)), (5, .int ((ar 0) k)), (4, .int x4), (3, .int x3), (2, .int x2), (0, .ref 0), (1, .int (nI j))] [] (pM (upf (upf (upf (upf fv 41 q2.2.2.2.1) 42 q2.2.2.2.2.1) 43 q2.2.2.2.2.2.1) 44 q2.2.2.2.2.2.2) (upa (upa (upa (upa (upa (upa (upa ar 36 sk2) 37 nm2) 38 pl2) 39 az2) 40 cs2) 0 (upd (upd (ar 0) k (nI 0)) k ((ar 0) k))) 1 (upd (upd (ar 1) k (nI 0)) k ((ar 1) k)))) rfl rfl rfl ?_
        rw [upBack, upBack]
        refine V.g2 60 [22, 86] mX7_mend_ok rfl ?_
        refine And.intro (fun e4 => ?_) (fun e4 => ?_)
        · refine And.intro (fun e6 => ?_) (fun e6 => absurd e4 e6)
          refine V.kn [4, 3, 2, 0, 1] [(4, .int (x4 + zi 1)), (3, .int x3), (2, .int x2), (0, .ref 0), (1, .int (nI j))] [] (pM (upf (upf (upf (upf fv 41 q2.2.2.2.1) 42 q2.2.2.2.2.1) 43 q2.2.2.2.2.2.1) 44 q2.2.2.2.2.2.2) (upa (upa (upa (upa (upa (upa (upa ar 36 sk2) 37 nm2) 38 pl2) 39 az2) 40 cs2) 0 (ar 0)) 1 (ar 1))) rfl rfl rfl ?_
          have hx : mdF (fun w => coF (cwP (cM fv ar) w) P) (coF (cM fv ar) P) (k + 1) = mdF (fun w => coF (cwP (cM fv ar) w) P) (coF (cM fv ar) P) k := by rw [mdF, if_neg (by rw [← hv, ← h3]; exact Int32.not_lt.mpr e4)]
          exact ih (k + 1) _ _ _ q2 sk2 nm2 pl2 az2 cs2 (by omega) (ninc h4) (by rw [hx]; exact h2) (by rw [hx]; exact h3)
        · refine And.intro (fun e6 => absurd e6 e4) (fun e6 => ?_)
          refine V.kn [4, 3, 2, 0, 1] [(4, .int (x4 + zi 1)), (3, .int v), (2, .int x4), (0, .ref 0), (1, .int (nI j))] [] (pM (upf (upf (upf (upf fv 41 q2.2.2.2.1) 42 q2.2.2.2.2.1) 43 q2.2.2.2.2.2.1) 44 q2.2.2.2.2.2.2) (upa (upa (upa (upa (upa (upa (upa ar 36 sk2) 37 nm2) 38 pl2) 39 az2) 40 cs2) 0 (ar 0)) 1 (ar 1))) rfl rfl rfl ?_
          have hx : mdF (fun w => coF (cwP (cM fv ar) w) P) (coF (cM fv ar) P) (k + 1) = (some k, v) := by rw [mdF, if_pos (by rw [← hv, ← h3]; exact Int32.not_le.mp e4), hv]
          exact ih (k + 1) _ _ _ q2 sk2 nm2 pl2 az2 cs2 (by omega) (ninc h4) (by rw [hx]; exact h4) (by rw [hx])
    subst hS
    refine V.g2 60 [22, 86] mX7_mend_ok rfl ?_
    refine And.intro (fun _ => ?_) (fun e => absurd e (by decide))
    refine V.cw mX7_mend_ok rfl lX7_269 (c7_costNow l) rfl 0 7 rfl rfl rfl rfl rfl rfl ⟨fv, ar, P, hM, rfl, rfl, fun v hv q sk nm pl az cs => ⟨rfl, ?_⟩⟩
    refine V.g2 60 [22, 86] mX7_mend_ok rfl ?_
    refine V.kn [4, 3, 2, 0, 1] [(4, .int (nI 0)), (3, .int v), (2, .int (-1 : Int32)), (0, .ref 0), (1, .int (nI j))] [] (pM (upf (upf (upf (upf fv 41 q.2.2.2.1) 42 q.2.2.2.2.1) 43 q.2.2.2.2.2.1) 44 q.2.2.2.2.2.2) (upa (upa (upa (upa (upa ar 36 sk) 37 nm) 38 pl) 39 az) 40 cs)) rfl rfl rfl ?_
    exact loop 4 0 _ _ _ q sk nm pl az cs rfl rfl rfl hv
def T7_change : zT := fun args hs Q => ∃ (fv : Nat → Int32) (ar : Nat → fI) (x : Int32) (P : zP), mOk fv ar P ∧ args = [.ref 0, .int x] ∧ hs = pM fv ar ∧ (wiB x 9999 = false → Q (some (.int (-2))) hs) ∧ (∀ n, n < 10000 → x = nI n → ∀ r : Int32, r = oI (gsF (chP (cM fv ar) P (n / 100) (n % 100)) 30) → ∀ fv2 ar2, kM fv ar fv2 ar2 → Q (some (.int r)) (pM fv2 ar2))
set_option maxHeartbeats 4000000 in
theorem c7_change (l : Launch) : Ct l mX7_change false 8 0 0 T7_change := by
  refine Ct.intro mX7_change_ok ?_
  rintro args hs Q ⟨fv, ar, x, P, hM, rfl, rfl, h0, h1⟩
  refine ⟨Nat.le_of_ble_eq_true rfl, ?_⟩
  refine V.g2 60 [23] mX7_change_ok rfl ?_
  refine V.cs mX7_change_ok rfl lX7_117 (c7_in l) rfl rfl rfl rfl ⟨_, _, _, rfl, fun B hB => ⟨rfl, ?_⟩⟩
  rcases B with _ | _
  · refine V.g2 60 [23] mX7_change_ok rfl ?_
    refine And.intro (fun e => absurd rfl e) (fun _ => ?_)
    exact ⟨_, zsim_rfl _, h0 hB.symm⟩
  · obtain ⟨n, hn, rfl⟩ := wiB_t (n := 9999) hB.symm (by omega)
    have h := h1 n hn rfl
    refine V.g2 60 [23] mX7_change_ok rfl ?_
    refine And.intro (fun _ => ?_) (fun e => absurd e (by decide))
    refine V.cw mX7_change_ok rfl lX7_253 (c7_rolls l) rfl 0 7 rfl rfl rfl rfl rfl rfl ⟨fv, ar, P, hM, rfl, rfl, fun q hq sk nm pl az cs hr => ⟨rfl, ?_⟩⟩
    have hcs : ∀ k, k < 30 → cs k = coR (cM fv ar) P k := fun k hk => (hr k hk).2.2
    generalize hS : pM fv ar = S
    have loop : ∀ (m : Nat) (x3 x2 : Int32), m ≤ 30 → x3 = nI m - nI 1 → x2 = sdF (coR (cM fv ar) P) (30 - m) → gsF (chP (cM fv ar) P (n / 100) (n % 100)) 30 = gsF (chP (cM fv ar) P (n / 100) (n % 100)) m → V l mX7_change false S (zrm 8 0 0) (zFm false S Q 0 0) 0 0 23 [(3, .int x3), (2, .int x2), (0, .ref 0), (1, .int (nI n))] [] (pM (upf (upf (upf (upf fv 41 q.2.2.2.1) 42 q.2.2.2.2.1) 43 q.2.2.2.2.2.1) 44 q.2.2.2.2.2.2) (upa (upa (upa (upa (upa ar 36 sk) 37 nm) 38 pl) 39 az) 40 cs)) := by
      intro m
      induction m with
      | zero =>
        intro x3 x2 hm h3 h2 hg
        refine V.g2 60 [23] mX7_change_ok rfl ?_
        refine And.intro (fun e1 => ?_) (fun e1 => absurd (show x3 < 0 by rw [h3]; decide) e1)
        refine ⟨_, zsim_rfl _, ?_⟩
        exact h _ (by rw [hg]; rfl) (upf (upf (upf (upf fv 41 q.2.2.2.1) 42 q.2.2.2.2.1) 43 q.2.2.2.2.2.1) 44 q.2.2.2.2.2.2) (upa (upa (upa (upa (upa ar 36 sk) 37 nm) 38 pl) 39 az) 40 cs) ⟨⟨rfl, rfl, rfl, rfl, rfl, rfl, rfl, rfl, rfl, rfl, rfl⟩, ⟨rfl, rfl, rfl, rfl, rfl, rfl, rfl, rfl, rfl, rfl, rfl, rfl, rfl, rfl, rfl, rfl⟩⟩
      | succ m ih =>
        intro x3 x2 hm h3 h2 hg
        have h3b : x3 = nI m := h3.trans (nI_pred m)
        refine V.g2 60 [23] mX7_change_ok rfl ?_
        refine pk_lt m 0 (fun e => absurd e (by omega)) (fun e => ?_) h3b rfl
        refine ⟨m, by omega, h3b, rfl, ?_⟩
        refine And.intro (show ¬ (nI 100) = 0 by decide) ?_
        refine And.intro (show ¬ (nI 100) = 0 by decide) ?_
        have e1 : ((((nI n) / (nI 100)) * ((nI 30) - x3)) + ((nI n) - (nI n) / (nI 100) * (nI 100))) = nI (n / 100) * nI (30 - m) + nI (n % 100) := by rw [show (nI n) / (nI 100) = nI (n / 100) from ndiv rfl rfl (by omega) (by omega) (by omega), h3b, show (nI 30) - (nI m) = nI (30 - m) from pk_sub (by omega), show (nI n) - (nI (n / 100)) * (nI 100) = nI (n % 100) from by rw [← show (nI n) / (nI 100) = nI (n / 100) from ndiv rfl rfl (by omega) (by omega) (by omega)]; exact nrem rfl rfl (by omega) (by omega) (by omega)]
        have e2 : (x2 + (cs m)) = sdF (coR (cM fv ar) P) (30 - m) := by rw [h2, show 30 - m = (30 - (m + 1)) + 1 by omega, sdF, hcs m (by omega), show 29 - (30 - (m + 1)) = m by omega]
        refine And.intro (fun e4 => ?_) (fun e4 => ?_)
        · refine V.kn [3, 2, 0, 1] [(3, .int (x3 + zi (-1))), (2, .int (x2 + (cs m))), (0, .ref 0), (1, .int (nI n))] [] (pM (upf (upf (upf (upf fv 41 q.2.2.2.1) 42 q.2.2.2.2.1) 43 q.2.2.2.2.2.1) 44 q.2.2.2.2.2.2) (upa (upa (upa (upa (upa ar 36 sk) 37 nm) 38 pl) 39 az) 40 cs)) rfl rfl rfl ?_
          have e5 : ¬ nI (n / 100) * nI (30 - m) + nI (n % 100) < sdF (coR (cM fv ar) P) (30 - m) := by rw [← e1, ← e2]; exact Int32.not_lt.mpr e4
          refine ih _ _ (by omega) (by rw [h3b]; exact (Int32.sub_eq_add_neg _ _).symm) e2 ?_
          rw [hg, gsF, if_neg]
          unfold chP
          exact fun z => e5 (of_decide_eq_true z)
        · have e5 : nI (n / 100) * nI (30 - m) + nI (n % 100) < sdF (coR (cM fv ar) P) (30 - m) := by rw [← e1, ← e2]; exact Int32.not_le.mp e4
          refine ⟨_, zsim_rfl _, ?_⟩
          exact h _ (by rw [hg, gsF, if_pos (show chP (cM fv ar) P (n / 100) (n % 100) m = true from decide_eq_true e5), h3b]; rfl) (upf (upf (upf (upf fv 41 q.2.2.2.1) 42 q.2.2.2.2.1) 43 q.2.2.2.2.2.1) 44 q.2.2.2.2.2.2) (upa (upa (upa (upa (upa ar 36 sk) 37 nm) 38 pl) 39 az) 40 cs) ⟨⟨rfl, rfl, rfl, rfl, rfl, rfl, rfl, rfl, rfl, rfl, rfl⟩, ⟨rfl, rfl, rfl, rfl, rfl, rfl, rfl, rfl, rfl, rfl, rfl, rfl, rfl, rfl, rfl, rfl⟩⟩
    subst hS
    refine V.g2 60 [23] mX7_change_ok rfl ?_
    refine V.kn [3, 2, 0, 1] [(3, .int (nI 29)), (2, .int (nI 0)), (0, .ref 0), (1, .int (nI n))] [] (pM (upf (upf (upf (upf fv 41 q.2.2.2.1) 42 q.2.2.2.2.1) 43 q.2.2.2.2.2.1) 44 q.2.2.2.2.2.2) (upa (upa (upa (upa (upa ar 36 sk) 37 nm) 38 pl) 39 az) 40 cs)) rfl rfl rfl ?_
    exact loop 30 _ _ (Nat.le_refl _) (by decide) rfl rfl
