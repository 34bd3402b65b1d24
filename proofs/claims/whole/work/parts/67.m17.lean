/-! ===== the reference: lay ===== -/
theorem bt_s : ∀ u, u < 256 → ∀ k, k < 8 → ((nI u >>> (nI k &&& 31)) &&& nI 1) = nI (u / 2 ^ k % 2) := by decide +kernel
theorem bt_o : ∀ u, u < 256 → ∀ k, k < 8 → (nI u ||| (nI 1 <<< (nI k &&& 31))) = nI (u ||| 2 ^ k) := by decide +kernel
def pc8 (u : Nat) : Nat := u % 2 + u / 2 % 2 + u / 4 % 2 + u / 8 % 2 + u / 16 % 2 + u / 32 % 2 + u / 64 % 2 + u / 128 % 2
theorem pc8_o : ∀ u, u < 256 → ∀ k, k < 8 → u / 2 ^ k % 2 = 0 → (u ||| 2 ^ k) < 256 ∧ pc8 (u ||| 2 ^ k) = pc8 u + 1 := by decide +kernel
theorem pc8_f : ∀ u, u < 256 → pc8 u < 8 → ∃ k, k < 8 ∧ u / 2 ^ k % 2 = 0 := by decide +kernel
theorem bt_n0 : ∀ u, u < 256 → ∀ k, k < 8 → (List.range 8).all (fun j => !(Nat.beq ((u ||| 2 ^ k) / 2 ^ j % 2) 0) || (Nat.beq (u / 2 ^ j % 2) 0 && !(Nat.beq j k))) = true := by decide +kernel
theorem bt_n {u k j : Nat} (hu : u < 256) (hk : k < 8) (hj : j < 8) (h : (u ||| 2 ^ k) / 2 ^ j % 2 = 0) : u / 2 ^ j % 2 = 0 ∧ j ≠ k := by
  have q := List.all_eq_true.mp (bt_n0 u hu k hk) j (List.mem_range.mpr hj)
  rw [h] at q
  have q2 : (Nat.beq (u / 2 ^ j % 2) 0 && !(Nat.beq j k)) = true := q
  rw [Bool.and_eq_true] at q2
  refine ⟨Nat.eq_of_beq_eq_true q2.1, fun e => ?_⟩
  have q3 := q2.2
  rw [e, Nat.beq_refl] at q3
  cases q3
def hvF (lo : fI) (u : Nat) : Nat → Option Nat
  | 0 => none
  | n + 1 => if u / 2 ^ n % 2 = 0 then (match hvF lo u n with
    | none => some n
    | some b => if lo b < lo n then some n else some b) else hvF lo u n
theorem hvF_lt {lo : fI} {u : Nat} : ∀ {n b : Nat}, hvF lo u n = some b → b < n ∧ u / 2 ^ b % 2 = 0
  | 0, _, h => by cases h
  | n + 1, b, h => by
    rw [hvF] at h
    split at h
    · rename_i hf
      split at h
      · cases h; exact ⟨by omega, hf⟩
      · rename_i b2 hb
        split at h
        · cases h; exact ⟨by omega, hf⟩
        · cases h; have := hvF_lt hb; exact ⟨by omega, this.2⟩
    · have := hvF_lt h; exact ⟨by omega, this.2⟩
theorem hvF_ex {lo : fI} {u : Nat} : ∀ {n : Nat}, (∃ k, k < n ∧ u / 2 ^ k % 2 = 0) → ∃ b, hvF lo u n = some b
  | 0, ⟨k, hk, _⟩ => absurd hk (by omega)
  | n + 1, ⟨k, hk, hf⟩ => by
    rw [hvF]
    split
    · split
      · exact ⟨_, rfl⟩
      · split <;> exact ⟨_, rfl⟩
    · rename_i hn
      refine hvF_ex ⟨k, ?_, hf⟩
      rcases Nat.lt_or_ge k n with h | h
      · exact h
      · exact absurd (by rw [show n = k by omega]; exact hf) hn
abbrev OB : Type := Option (Nat × Int32)
def lyF (g : Nat → Int32) (u : Nat) : Nat → OB
  | 0 => none
  | n + 1 => if u / 2 ^ n % 2 = 0 then (match lyF g u n with
    | none => some (n, g n)
    | some (b, v) => if g n < v then some (n, g n) else some (b, v)) else lyF g u n
theorem lyF_lt {g : Nat → Int32} {u : Nat} : ∀ {n b : Nat} {v : Int32}, lyF g u n = some (b, v) → b < n ∧ u / 2 ^ b % 2 = 0
  | 0, _, _, h => by cases h
  | n + 1, b, v, h => by
    rw [lyF] at h
    split at h
    · rename_i hf
      split at h
      · cases h; exact ⟨by omega, hf⟩
      · rename_i b2 v2 hb
        split at h
        · cases h; exact ⟨by omega, hf⟩
        · cases h; have := lyF_lt hb; exact ⟨by omega, this.2⟩
    · have := lyF_lt h; exact ⟨by omega, this.2⟩
theorem lyF_ex {g : Nat → Int32} {u : Nat} : ∀ {n : Nat}, (∃ k, k < n ∧ u / 2 ^ k % 2 = 0) → ∃ b v, lyF g u n = some (b, v)
  | 0, ⟨k, hk, _⟩ => absurd hk (by omega)
  | n + 1, ⟨k, hk, hf⟩ => by
    rw [lyF]
    split
    · split
      · exact ⟨_, _, rfl⟩
      · split <;> exact ⟨_, _, rfl⟩
    · rename_i hn
      refine lyF_ex ⟨k, ?_, hf⟩
      rcases Nat.lt_or_ge k n with h | h
      · exact h
      · exact absurd (by rw [show n = k by omega]; exact hf) hn
def cwO (c : zCart) (lo : fI) : zCart := (kdC c, moC c, kiC c, lo, haC c, wiC c, paC c)
theorem hvF_x {lo : fI} {u n : Nat} (h : ¬ u / 2 ^ n % 2 = 0) : hvF lo u (n + 1) = hvF lo u n := by rw [hvF, if_neg h]
theorem hvF_n {lo : fI} {u n : Nat} (h : u / 2 ^ n % 2 = 0) (h2 : hvF lo u n = none) : hvF lo u (n + 1) = some n := by rw [hvF, if_pos h, h2]
theorem hvF_g {lo : fI} {u n b : Nat} (h : u / 2 ^ n % 2 = 0) (h2 : hvF lo u n = some b) (h3 : lo b < lo n) : hvF lo u (n + 1) = some n := by rw [hvF, if_pos h, h2]; exact if_pos h3
theorem hvF_l {lo : fI} {u n b : Nat} (h2 : hvF lo u n = some b) (h3 : ¬ lo b < lo n) : hvF lo u (n + 1) = some b := by
  rw [hvF]
  split
  · rw [h2]; exact if_neg h3
  · exact h2
theorem lyF_x {g : Nat → Int32} {u n : Nat} (h : ¬ u / 2 ^ n % 2 = 0) : lyF g u (n + 1) = lyF g u n := by rw [lyF, if_neg h]
theorem lyF_n {g : Nat → Int32} {u n : Nat} (h : u / 2 ^ n % 2 = 0) (h2 : lyF g u n = none) : lyF g u (n + 1) = some (n, g n) := by rw [lyF, if_pos h, h2]
theorem lyF_g {g : Nat → Int32} {u n b : Nat} {v : Int32} (h : u / 2 ^ n % 2 = 0) (h2 : lyF g u n = some (b, v)) (h3 : g n < v) : lyF g u (n + 1) = some (n, g n) := by rw [lyF, if_pos h, h2]; exact if_pos h3
theorem lyF_l {g : Nat → Int32} {u n b : Nat} {v : Int32} (h : u / 2 ^ n % 2 = 0) (h2 : lyF g u n = some (b, v)) (h3 : ¬ g n < v) : lyF g u (n + 1) = some (b, v) := by rw [lyF, if_pos h, h2]; exact if_neg h3
theorem wn_07 {b : Nat} (h : b < 8) : wnF (nI b) (nI 0) (nI 7) = nI b := by
  unfold wnF
  rw [if_neg (Int32.not_lt.mpr (nI_le (Nat.zero_le b) (by omega))), if_neg (Int32.not_lt.mpr (nI_le (by omega) (by omega)))]
theorem bt_01 {u k : Nat} (h : ¬ u / 2 ^ k % 2 = 0) : u / 2 ^ k % 2 = 1 := by omega
def T7_heaviest : zT := fun args hs Q => ∃ (fv : Nat → Int32) (ar : Nat → fI) (x : Int32) (u : Nat), u < 256 ∧ x = nI u ∧ args = [.ref 0, .int x] ∧ hs = pM fv ar ∧ ∀ r : Int32, r = oI (hvF (ar 49) u 8) → Q (some (.int r)) hs
set_option maxHeartbeats 500000 in
theorem c7_heaviest (l : Launch) : Ct l mX7_heaviest false 2 0 0 T7_heaviest := by
  refine Ct.intro mX7_heaviest_ok ?_
  rintro args hs Q ⟨fv, ar, x, u, hu, hx, rfl, rfl, h⟩
  refine ⟨Nat.le_of_ble_eq_true rfl, ?_⟩
  subst hx
  generalize hS : pM fv ar = S
  have loop : ∀ (m k : Nat) (x3 x2 : Int32), k + m = 8 → x3 = nI k → x2 = oI (hvF (ar 49) u k) → V l mX7_heaviest false S (zrm 2 0 0) (zFm false S Q 0 0) 0 0 4 [(3, .int x3), (2, .int x2), (0, .ref 0), (1, .int (nI u))] [] (pM fv ar) := by
    intro m
    induction m with
    | zero =>
      intro k x3 x2 hk h3 h2
      have ek : k = 8 := by omega
      rw [ek] at h2
      refine V.g2 60 [4, 10, 41, 60, 61] mX7_heaviest_ok rfl ?_
      refine pk_le 8 k (fun e => ?_) (fun e => absurd e (by omega)) rfl h3
      exact ⟨_, zsim_rfl _, (by subst hS; exact h _ h2)⟩
    | succ m ih =>
      intro k x3 x2 hk h3 h2
      have st : ∀ x2b, x2b = oI (hvF (ar 49) u (k + 1)) → V l mX7_heaviest false S (zrm 2 0 0) (zFm false S Q 0 0) 0 0 4 [(3, .int (x3 + zi 1)), (2, .int x2b), (0, .ref 0), (1, .int (nI u))] [] (pM fv ar) := fun x2b e => ih (k + 1) _ _ (by omega) (ninc h3) e
      refine V.g2 60 [4, 10, 41, 60, 61] mX7_heaviest_ok rfl ?_
      refine pk_le 8 k (fun el => absurd el (by omega)) (fun el => ?_) rfl h3
      obtain ⟨HB, hHB⟩ : ∃ HB, HB = hvF (ar 49) u k := ⟨_, rfl⟩
      rw [← hHB] at h2
      have hbt := bt_s u hu k (by omega)
      cases HB with
      | none =>
        rw [show x2 = (-1 : Int32) from h2]
        refine V.g2 60 [4, 10, 41, 60, 61] mX7_heaviest_ok rfl ?_
        refine And.intro (fun (e0 : (-1 : Int32) = (-1 : Int32)) => ?_) (fun (e0 : ¬ (-1 : Int32) = (-1 : Int32)) => absurd rfl e0)
        refine V.g2 60 [4, 10, 41, 60, 61] mX7_heaviest_ok rfl ?_
        refine And.intro (fun (e6 : ¬ (((nI u) >>> (x3 &&& 31)) &&& (nI 1)) = (0 : Int32)) => ?_) (fun (e6 : (((nI u) >>> (x3 &&& 31)) &&& (nI 1)) = (0 : Int32)) => ?_)
        · have hb1 : ¬ u / 2 ^ k % 2 = 0 := fun z => e6 (by rw [h3, hbt, z]; rfl)
          refine V.g2 60 [4, 10, 41, 60, 61] mX7_heaviest_ok rfl ?_
          refine V.g2 60 [4, 10, 41, 60, 61] mX7_heaviest_ok rfl ?_
          refine V.kn [3, 2, 0, 1] [(3, .int (x3 + zi 1)), (2, .int (-1 : Int32)), (0, .ref 0), (1, .int (nI u))] [] (pM fv ar) rfl rfl rfl ?_
          exact st _ ((by rw [hvF_x hb1, ← hHB]; rfl))
        · have hb1 : u / 2 ^ k % 2 = 0 := by
            rw [h3, hbt] at e6
            exact (nI_eq (by omega) (by omega)).mp e6
          refine pk_eq 1 0 (fun e0 => absurd e0 (by omega)) (fun e0 => ?_) rfl rfl
          refine V.g2 60 [4, 10, 41, 60, 61] mX7_heaviest_ok rfl ?_
          refine V.kn [3, 2, 0, 1] [(3, .int (x3 + zi 1)), (2, .int x3), (0, .ref 0), (1, .int (nI u))] [] (pM fv ar) rfl rfl rfl ?_
          exact st _ ((by rw [hvF_n hb1 hHB.symm]; exact h3))
      | some b =>
        rw [show x2 = nI b from h2]
        obtain ⟨hb8, hbf⟩ := hvF_lt hHB.symm
        refine V.g2 60 [4, 10, 41, 60, 61] mX7_heaviest_ok rfl ?_
        refine And.intro (fun (e5 : (nI b) = (-1 : Int32)) => absurd e5 (nI_m1 (by omega))) (fun (e5 : ¬ (nI b) = (-1 : Int32)) => ?_)
        refine ⟨k, by omega, h3, rfl, ?_⟩
        refine V.cs mX7_heaviest_ok rfl lX7_200 (c7_within l) rfl rfl rfl rfl ⟨_, _, _, rfl, fun r hr => ⟨rfl, ?_⟩⟩
        refine V.g2 60 [4, 10, 41, 60, 61] mX7_heaviest_ok rfl ?_
        refine ⟨b, by omega, (hr.trans (wn_07 (by omega))), rfl, ?_⟩
        refine And.intro (fun (e7 : ((ar 49) k) ≤ ((ar 49) b)) => ?_) (fun (e7 : ¬ ((ar 49) k) ≤ ((ar 49) b)) => ?_)
        · refine V.g2 60 [4, 10, 41, 60, 61] mX7_heaviest_ok rfl ?_
          refine And.intro (fun (e6 : ¬ (((nI u) >>> (x3 &&& 31)) &&& (nI 1)) = (0 : Int32)) => ?_) (fun (e6 : (((nI u) >>> (x3 &&& 31)) &&& (nI 1)) = (0 : Int32)) => ?_)
          · refine V.g2 60 [4, 10, 41, 60, 61] mX7_heaviest_ok rfl ?_
            refine V.g2 60 [4, 10, 41, 60, 61] mX7_heaviest_ok rfl ?_
            refine V.kn [3, 2, 0, 1] [(3, .int (x3 + zi 1)), (2, .int (nI b)), (0, .ref 0), (1, .int (nI u))] [] (pM fv ar) rfl rfl rfl ?_
            exact st _ (by rw [hvF_l hHB.symm (Int32.not_lt.mpr e7)]; rfl)
          · refine pk_eq 0 0 (fun e0 => ?_) (fun e0 => absurd e0 (by omega)) rfl rfl
            refine V.g2 60 [4, 10, 41, 60, 61] mX7_heaviest_ok rfl ?_
            refine V.g2 60 [4, 10, 41, 60, 61] mX7_heaviest_ok rfl ?_
            refine V.kn [3, 2, 0, 1] [(3, .int (x3 + zi 1)), (2, .int (nI b)), (0, .ref 0), (1, .int (nI u))] [] (pM fv ar) rfl rfl rfl ?_
            exact st _ (by rw [hvF_l hHB.symm (Int32.not_lt.mpr e7)]; rfl)
        · refine V.g2 60 [4, 10, 41, 60, 61] mX7_heaviest_ok rfl ?_
          refine And.intro (fun (e6 : ¬ (((nI u) >>> (x3 &&& 31)) &&& (nI 1)) = (0 : Int32)) => ?_) (fun (e6 : (((nI u) >>> (x3 &&& 31)) &&& (nI 1)) = (0 : Int32)) => ?_)
          · have hb1 : ¬ u / 2 ^ k % 2 = 0 := fun z => e6 (by rw [h3, hbt, z]; rfl)
            refine V.g2 60 [4, 10, 41, 60, 61] mX7_heaviest_ok rfl ?_
            refine V.g2 60 [4, 10, 41, 60, 61] mX7_heaviest_ok rfl ?_
            refine V.kn [3, 2, 0, 1] [(3, .int (x3 + zi 1)), (2, .int (nI b)), (0, .ref 0), (1, .int (nI u))] [] (pM fv ar) rfl rfl rfl ?_
            exact st _ ((by rw [hvF_x hb1, ← hHB]; rfl))
          · have hb1 : u / 2 ^ k % 2 = 0 := by
              rw [h3, hbt] at e6
              exact (nI_eq (by omega) (by omega)).mp e6
            refine pk_eq 1 0 (fun e0 => absurd e0 (by omega)) (fun e0 => ?_) rfl rfl
            refine V.g2 60 [4, 10, 41, 60, 61] mX7_heaviest_ok rfl ?_
            refine V.kn [3, 2, 0, 1] [(3, .int (x3 + zi 1)), (2, .int x3), (0, .ref 0), (1, .int (nI u))] [] (pM fv ar) rfl rfl rfl ?_
            exact st _ ((by rw [hvF_g hb1 hHB.symm (Int32.not_le.mp e7)]; exact h3))
  subst hS
  refine V.g2 60 [4, 10, 41, 60, 61] mX7_heaviest_ok rfl ?_
  refine V.kn [3, 2, 0, 1] [(3, .int (nI 0)), (2, .int (-1 : Int32)), (0, .ref 0), (1, .int (nI u))] [] (pM fv ar) rfl rfl rfl ?_
  exact loop 8 0 _ _ rfl rfl rfl
theorem up0 {f : fI} {k : Nat} {x : Int32} (h : f k = 0) : ∀ i, i < 8 → upd (upd f k x) k (nI 0) i = f i := by
  intro i hi
  by_cases e : i = k
  · rw [e, pk_us]; exact h.symm
  · rw [pk_un e, pk_un e]
def T7_layOne : zT := fun args hs Q => ∃ (fv : Nat → Int32) (ar : Nat → fI) (x y : Int32) (u : Nat) (P : zP), mOk fv ar P ∧ u < 256 ∧ y = nI u ∧ (∃ k, k < 8 ∧ u / 2 ^ k % 2 = 0) ∧ ((∀ k, k < 8 → u / 2 ^ k % 2 = 0 → ar 3 k = 0)) ∧ args = [.ref 0, .int x, .int y] ∧ hs = pM fv ar ∧ ∀ b v, (lyF (fun j => faF (cwO (cM fv ar) (upd (ar 3) j x)) P) u 8) = some (b, v) → ∀ fv2 ar2, kM fv (upa ar 3 (upd (ar 3) b x)) fv2 ar2 → ar2 49 = ar 49 → Q (some (.int (nI b))) (pM fv2 ar2)
set_option maxHeartbeats 500000 in
theorem c7_layOne (l : Launch) : Ct l mX7_layOne false 9 0 0 T7_layOne := by
  refine Ct.intro mX7_layOne_ok ?_
  rintro args hs Q ⟨fv, ar, x, y, u, P, hM, hu, hy, hf, hz, rfl, rfl, h⟩
  refine ⟨Nat.le_of_ble_eq_true rfl, ?_⟩
  subst hy
  obtain ⟨g, hg⟩ : ∃ g, g = (fun j => faF (cwO (cM fv ar) (upd (ar 3) j x)) P) := ⟨_, rfl⟩
  rw [← hg] at h
  generalize hS : pM fv ar = S
  have loop : ∀ (m k : Nat) (x5 x4 x3 : Int32) (q : RT) (sk nm pl az cs : fI) (LB : OB), k + m = 8 → x5 = nI k → LB = lyF g u k → (LB = none → x3 = -1) → (∀ b v, LB = some (b, v) → x3 = nI b ∧ x4 = v) → V l mX7_layOne false S (zrm 9 0 0) (zFm false S Q 0 0) 0 0 8 [(5, .int x5), (4, .int x4), (3, .int x3), (0, .ref 0), (1, .int x), (2, .int (nI u))] [] (pM (upf (upf (upf (upf fv 41 q.2.2.2.1) 42 q.2.2.2.2.1) 43 q.2.2.2.2.2.1) 44 q.2.2.2.2.2.2) (upa (upa (upa (upa (upa (upa ar 3 (ar 3)) 36 sk) 37 nm) 38 pl) 39 az) 40 cs)) := by
    intro m
    induction m with
    | zero =>
      intro k x5 x4 x3 q sk nm pl az cs LB hk h5 hLB hn hs
      have ek : k = 8 := by omega
      rw [ek] at hLB
      obtain ⟨b, v, hbv⟩ := lyF_ex (g := g) hf
      obtain ⟨hb8, -⟩ := lyF_lt hbv
      obtain ⟨e3, -⟩ := hs b v (hLB.trans hbv)
      rw [e3]
      refine V.g2 60 [8, 24, 46, 63, 91] mX7_layOne_ok rfl ?_
      refine pk_le 8 k (fun e => ?_) (fun e => absurd e (by omega)) rfl h5
      refine ⟨b, by omega, rfl, rfl, ?_⟩
      refine ⟨_, zsim_rfl _, ?_⟩
      exact h b v hbv (upf (upf (upf (upf fv 41 q.2.2.2.1) 42 q.2.2.2.2.1) 43 q.2.2.2.2.2.1) 44 q.2.2.2.2.2.2) (upa (upa (upa (upa (upa (upa ar 3 (upd (ar 3) b x)) 36 sk) 37 nm) 38 pl) 39 az) 40 cs) ⟨⟨rfl, rfl, rfl, rfl, rfl, rfl, rfl, rfl, rfl, rfl, rfl⟩, ⟨rfl, rfl, rfl, rfl, rfl, rfl, rfl, rfl, rfl, rfl, rfl, rfl, rfl, rfl, rfl, rfl⟩⟩ rfl
    | succ m ih =>
      intro k x5 x4 x3 q sk nm pl az cs LB hk h5 hLB hn hs
      have hbt := bt_s u hu k (by omega)
      have st : ∀ (x4b x3b : Int32) (q : RT) (sk nm pl az cs : fI) (LB2 : OB), LB2 = lyF g u (k + 1) → (LB2 = none → x3b = -1) → (∀ b v, LB2 = some (b, v) → x3b = nI b ∧ x4b = v) → V l mX7_layOne false S (zrm 9 0 0) (zFm false S Q 0 0) 0 0 8 [(5, .int (x5 + zi 1)), (4, .int x4b), (3, .int x3b), (0, .ref 0), (1, .int x), (2, .int (nI u))] [] (pM (upf (upf (upf (upf fv 41 q.2.2.2.1) 42 q.2.2.2.2.1) 43 q.2.2.2.2.2.1) 44 q.2.2.2.2.2.2) (upa (upa (upa (upa (upa (upa ar 3 (ar 3)) 36 sk) 37 nm) 38 pl) 39 az) 40 cs)) := fun x4b x3b q sk nm pl az cs LB2 e1 e2 e3 => ih (k + 1) _ _ _ q sk nm pl az cs LB2 (by omega) (ninc h5) e1 e2 e3
      refine V.g2 60 [8, 24, 46, 63, 91] mX7_layOne_ok rfl ?_
      refine pk_le 8 k (fun el => absurd el (by omega)) (fun el => ?_) rfl h5
      refine And.intro (fun (e6 : ¬ (((nI u) >>> (x5 &&& 31)) &&& (nI 1)) = (0 : Int32)) => ?_) (fun (e6 : (((nI u) >>> (x5 &&& 31)) &&& (nI 1)) = (0 : Int32)) => ?_)
      · have hb1 : ¬ u / 2 ^ k % 2 = 0 := fun z => e6 (by rw [h5, hbt, z]; rfl)
        refine V.g2 60 [8, 24, 46, 63, 91] mX7_layOne_ok rfl ?_
        refine V.kn [5, 4, 3, 0, 1, 2] [(5, .int (x5 + zi 1)), (4, .int x4), (3, .int x3), (0, .ref 0), (1, .int x), (2, .int (nI u))] [] (pM (upf (upf (upf (upf fv 41 q.2.2.2.1) 42 q.2.2.2.2.1) 43 q.2.2.2.2.2.1) 44 q.2.2.2.2.2.2) (upa (upa (upa (upa (upa (upa ar 3 (ar 3)) 36 sk) 37 nm) 38 pl) 39 az) 40 cs)) rfl rfl rfl ?_
        exact st _ _ q sk nm pl az cs LB (by rw [lyF_x hb1]; exact hLB) hn hs
      · have hb1 : u / 2 ^ k % 2 = 0 := by
          rw [h5, hbt] at e6
          exact (nI_eq (by omega) (by omega)).mp e6
        refine V.g2 60 [8, 24, 46, 63, 91] mX7_layOne_ok rfl ?_
        refine ⟨k, by omega, h5, rfl, ?_⟩
        refine V.cw mX7_layOne_ok rfl lX7_272 (c7_farNow l) rfl 0 7 rfl rfl rfl rfl rfl rfl ⟨(upf (upf (upf (upf fv 41 q.2.2.2.1) 42 q.2.2.2.2.1) 43 q.2.2.2.2.2.1) 44 q.2.2.2.2.2.2), (upa (upa (upa (upa (upa (upa ar 3 (upd (ar 3) k x)) 36 sk) 37 nm) 38 pl) 39 az) 40 cs), P, hM, rfl, rfl, fun v hv q sk nm pl az cs => ⟨rfl, ?_⟩⟩
        have hv2 : v = g k := by rw [hg]; exact hv
        refine V.g2 60 [8, 24, 46, 63, 91] mX7_layOne_ok rfl ?_
        refine ⟨k, by omega, h5, rfl, ?_⟩
        refine V.nm [(6, .int v), (5, .int x5), (4, .int x4), (3, .int x3), (0, .ref 0), (1, .int x), (2, .int (nI u))] [] (pM (upf (upf (upf (upf fv 41 q.2.2.2.1) 42 q.2.2.2.2.1) 43 q.2.2.2.2.2.1) 44 q.2.2.2.2.2.2) (upa (upa (upa (upa (upa (upa ar 36 sk) 37 nm) 38 pl) 39 az) 40 cs) 3 (upd (upd (ar 3) k x) k (nI 0)))) rfl rfl rfl ?_
        refine V.sim (zsm3 (y := (ar 3)) (up0 (hz k (by omega) hb1))) ?_
        cases LB with
        | none =>
          rw [hn rfl]
          refine V.g2 60 [8, 24, 46, 63, 91] mX7_layOne_ok rfl ?_
          refine And.intro (fun (e0 : (-1 : Int32) = (-1 : Int32)) => ?_) (fun (e0 : ¬ (-1 : Int32) = (-1 : Int32)) => absurd rfl e0)
          refine V.g2 60 [8, 24, 46, 63, 91] mX7_layOne_ok rfl ?_
          refine pk_eq 1 0 (fun e0 => absurd e0 (by omega)) (fun e0 => ?_) rfl rfl
          refine pk_eq 1 0 (fun e0 => absurd e0 (by omega)) (fun e0 => ?_) rfl rfl
          refine V.g2 60 [8, 24, 46, 63, 91] mX7_layOne_ok rfl ?_
          refine V.kn [5, 4, 3, 0, 1, 2] [(5, .int (x5 + zi 1)), (4, .int v), (3, .int x5), (0, .ref 0), (1, .int x), (2, .int (nI u))] [] (pM (upf (upf (upf (upf fv 41 q.2.2.2.1) 42 q.2.2.2.2.1) 43 q.2.2.2.2.2.1) 44 q.2.2.2.2.2.2) (upa (upa (upa (upa (upa (upa ar 3 (ar 3)) 36 sk) 37 nm) 38 pl) 39 az) 40 cs)) rfl rfl rfl ?_
          exact st _ _ q sk nm pl az cs (some (k, g k)) (lyF_n hb1 hLB.symm).symm (fun z => by cases z) (fun b v9 z => by cases z; exact ⟨h5, hv2⟩)
        | some bv =>
          obtain ⟨b, w⟩ := bv
          obtain ⟨e3, e4⟩ := hs b w rfl
          obtain ⟨hb8, -⟩ := lyF_lt hLB.symm
          rw [e3]
          refine V.g2 60 [8, 24, 46, 63, 91] mX7_layOne_ok rfl ?_
          refine And.intro (fun (e5 : (nI b) = (-1 : Int32)) => absurd e5 (nI_m1 (by omega))) (fun (e5 : ¬ (nI b) = (-1 : Int32)) => ?_)
          refine And.intro (fun (e7 : x4 ≤ v) => ?_) (fun (e7 : ¬ x4 ≤ v) => ?_)
          · refine V.g2 60 [8, 24, 46, 63, 91] mX7_layOne_ok rfl ?_
            refine pk_eq 0 0 (fun e0 => ?_) (fun e0 => absurd e0 (by omega)) rfl rfl
            refine pk_eq 0 0 (fun e0 => ?_) (fun e0 => absurd e0 (by omega)) rfl rfl
            refine V.g2 60 [8, 24, 46, 63, 91] mX7_layOne_ok rfl ?_
            refine V.kn [5, 4, 3, 0, 1, 2] [(5, .int (x5 + zi 1)), (4, .int x4), (3, .int (nI b)), (0, .ref 0), (1, .int x), (2, .int (nI u))] [] (pM (upf (upf (upf (upf fv 41 q.2.2.2.1) 42 q.2.2.2.2.1) 43 q.2.2.2.2.2.1) 44 q.2.2.2.2.2.2) (upa (upa (upa (upa (upa (upa ar 3 (ar 3)) 36 sk) 37 nm) 38 pl) 39 az) 40 cs)) rfl rfl rfl ?_
            exact st _ _ q sk nm pl az cs (some (b, w)) (lyF_l hb1 hLB.symm (by rw [← hv2, ← e4]; exact Int32.not_lt.mpr e7)).symm (fun z => by cases z) (fun b2 v9 z => by cases z; exact ⟨rfl, e4⟩)
          · refine V.g2 60 [8, 24, 46, 63, 91] mX7_layOne_ok rfl ?_
            refine pk_eq 1 0 (fun e0 => absurd e0 (by omega)) (fun e0 => ?_) rfl rfl
            refine pk_eq 1 0 (fun e0 => absurd e0 (by omega)) (fun e0 => ?_) rfl rfl
            refine V.g2 60 [8, 24, 46, 63, 91] mX7_layOne_ok rfl ?_
            refine V.kn [5, 4, 3, 0, 1, 2] [(5, .int (x5 + zi 1)), (4, .int v), (3, .int x5), (0, .ref 0), (1, .int x), (2, .int (nI u))] [] (pM (upf (upf (upf (upf fv 41 q.2.2.2.1) 42 q.2.2.2.2.1) 43 q.2.2.2.2.2.1) 44 q.2.2.2.2.2.2) (upa (upa (upa (upa (upa (upa ar 3 (ar 3)) 36 sk) 37 nm) 38 pl) 39 az) 40 cs)) rfl rfl rfl ?_
            exact st _ _ q sk nm pl az cs (some (k, g k)) (lyF_g hb1 hLB.symm (by rw [← hv2, ← e4]; exact Int32.not_le.mp e7)).symm (fun z => by cases z) (fun b2 v9 z => by cases z; exact ⟨h5, hv2⟩)
  subst hS
  refine V.g2 60 [8, 24, 46, 63, 91] mX7_layOne_ok rfl ?_
  refine V.kn [5, 4, 3, 0, 1, 2] [(5, .int (nI 0)), (4, .int (nI 0)), (3, .int (-1 : Int32)), (0, .ref 0), (1, .int x), (2, .int (nI u))] [] (pM fv ar) rfl rfl rfl ?_
  have hfin := loop 8 0 (nI 0) (nI 0) (-1) (0, 0, 0, fv 41, fv 42, fv 43, fv 44) (ar 36) (ar 37) (ar 38) (ar 39) (ar 40) none rfl rfl rfl (fun _ => rfl) (fun b v z => by cases z)
  exact hfin
