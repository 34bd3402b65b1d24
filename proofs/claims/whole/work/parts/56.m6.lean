/-! ===== the reference: told films ===== -/
def flW (so sz : Int32) : Int32 := if so = -1 then -11 else if nI 30 < sz then -2 else 0
def ceF (row : fI) (s : Nat) : fI := fun t => row (40 * s + t)
/-- where it is first otherwise than told -/
def foF (c : zCart) (P : zP) (ce : fI) (n : Nat) : Option Nat := fsF (fun t => decide (¬ ce t = (rlF c P (haC c) (t + 1)).2.1)) n
def foB (c : zCart) (P : zP) (ce : fI) (n : Nat) : Bool := (foF c P ce n).isNone
def btF (p : Nat → Bool) : Nat → Int32
  | 0 => 0
  | n + 1 => if p n = true then btF p n ||| (nI 1 <<< (nI n &&& 31)) else btF p n
theorem btF_t {p : Nat → Bool} {n : Nat} (h : p n = true) : btF p (n + 1) = btF p n ||| (nI 1 <<< (nI n &&& 31)) := by rw [btF, if_pos h]
theorem btF_f {p : Nat → Bool} {n : Nat} (h : p n = false) : btF p (n + 1) = btF p n := by rw [btF, if_neg (by rw [h]; decide)]
def anB (p : Nat → Bool) : Nat → Bool
  | 0 => false
  | n + 1 => anB p n || p n
theorem anB_t {p : Nat → Bool} {n : Nat} (h : anB p n = true) : ∀ k, anB p (n + k) = true
  | 0 => h
  | k + 1 => by show anB p (n + k + 1) = _; rw [anB, anB_t h k, Bool.true_or]
def ctB (p : Nat → Bool) : Nat → Int32
  | 0 => 0
  | n + 1 => if p n = true then ctB p n + nI 1 else ctB p n
theorem ctB_t {p : Nat → Bool} {n : Nat} (h : p n = true) : ctB p (n + 1) = ctB p n + nI 1 := by rw [ctB, if_pos h]
theorem ctB_f {p : Nat → Bool} {n : Nat} (h : p n = false) : ctB p (n + 1) = ctB p n := by rw [ctB, if_neg (by rw [h]; decide)]
def cwK (c : zCart) (w v : Nat) : zCart := (upd (kdC c) w (nI v), moC c, kiC c, loC c, haC c, wiC c, paC c)
def cwM (c : zCart) (w v : Nat) : zCart := (kdC c, upd (moC c) w (nI v), kiC c, loC c, haC c, wiC c, paC c)
/-- all plain but w -/
def cwB (c : zCart) (w k : Nat) : zCart := (upd (fun _ => 0) w (nI (k / 10)), upd (fun _ => 0) w (nI (k % 10)), kiC c, loC c, haC c, wiC c, paC c)
theorem kOk_up {kd : fI} {mo mo2 ki lo ha wi : fI} {pa : Int32} {w v : Nat} (h : kOk (kd, mo, ki, lo, ha, wi, pa)) (hv : v < 6) : kOk (upd kd w (nI v), mo2, ki, lo, ha, wi, pa) := by
  intro i hi
  by_cases e : i = w
  · have q : kdC (upd kd w (nI v), mo2, ki, lo, ha, wi, pa) i = nI v := by show upd kd w (nI v) i = _; rw [e, pk_us]
    have q2 : kw (upd kd w (nI v), mo2, ki, lo, ha, wi, pa) i = v := by unfold kw; rw [q]; exact nI_clamp (by omega)
    rw [q2]
    exact ⟨hv, q⟩
  · have q : kdC (upd kd w (nI v), mo2, ki, lo, ha, wi, pa) i = kd i := by show upd kd w (nI v) i = _; rw [pk_un e]
    have q2 : kw (upd kd w (nI v), mo2, ki, lo, ha, wi, pa) i = kw (kd, mo, ki, lo, ha, wi, pa) i := by unfold kw; rw [q]
    rw [q2, q]
    exact h i hi
theorem upd2 (f : fI) (w : Nat) (a b : Int32) : upd (upd f w a) w b = upd f w b := by
  funext i
  by_cases h : i = w
  · rw [h, pk_us, pk_us]
  · rw [pk_un h, pk_un h, pk_un h]
theorem updS (f : fI) (w : Nat) : upd f w (f w) = f := by
  funext i
  by_cases h : i = w
  · rw [h, pk_us]
  · rw [pk_un h]
def shOk (ar : Nat → fI) : Prop := ∀ s, s < 4 → (ar 23 s = -1 ∨ ∃ j, j < 3 ∧ ar 23 s = nI j) ∧ ∃ n, n ≤ 40 ∧ ar 24 s = nI n
theorem flW_0 {so sz : Int32} (h : flW so sz = 0) : ¬ so = -1 ∧ ¬ nI 30 < sz := by
  unfold flW at h
  split at h
  · exact absurd h (by decide)
  · split at h
    · exact absurd h (by decide)
    · rename_i a b; exact ⟨a, b⟩
theorem flW_n {ar : Nat → fI} {s : Nat} (hs : shOk ar) (h4 : s < 4) (h : flW (ar 23 s) (ar 24 s) = 0) : ∃ n, n ≤ 30 ∧ ar 24 s = nI n := by
  obtain ⟨-, n, hn, e⟩ := hs s h4
  refine ⟨n, ?_, e⟩
  have := (flW_0 h).2
  rw [e] at this
  rcases Nat.lt_or_ge 30 n with q | q
  · exact absurd (nI_lt q (by omega)) this
  · exact q
def T7_sheetWrong : zT := fun args hs Q => ∃ (fv : Nat → Int32) (ar : Nat → fI) (x : Int32), args = [.ref 0, .int x] ∧ hs = pM fv ar ∧ (wiB x 3 = false → Q (some (.int (-2))) hs) ∧ (∀ s, s < 4 → x = nI s → ∀ r : Int32, r = flW (ar 23 s) (ar 24 s) → Q (some (.int r)) hs)
theorem c7_sheetWrong (l : Launch) : Ct l mX7_sheetWrong false 2 0 0 T7_sheetWrong := by
  refine Ct.intro mX7_sheetWrong_ok ?_
  rintro args hs Q ⟨fv, ar, x, rfl, rfl, h0, h1⟩
  refine ⟨Nat.le_of_ble_eq_true rfl, ?_⟩
  refine V.g2 60 [42] mX7_sheetWrong_ok rfl ?_
  refine V.cs mX7_sheetWrong_ok rfl lX7_117 (c7_in l) rfl rfl rfl rfl ⟨_, _, _, rfl, fun B hB => ⟨rfl, ?_⟩⟩
  rcases B with _ | _
  · refine V.g2 60 [42] mX7_sheetWrong_ok rfl ?_
    refine And.intro (fun e => absurd rfl e) (fun _ => ?_)
    exact ⟨_, zsim_rfl _, h0 hB.symm⟩
  · obtain ⟨s, hs, hx⟩ := wiB_t (n := 3) hB.symm (by omega)
    have h := h1 s hs hx
    refine V.g2 60 [42] mX7_sheetWrong_ok rfl ?_
    refine And.intro (fun _ => ?_) (fun e => absurd e (by decide))
    refine ⟨s, by omega, hx, rfl, ?_⟩
    refine And.intro (fun (e : ¬ ((ar 23) s) = (-1 : Int32)) => ?_) (fun (e : ((ar 23) s) = (-1 : Int32)) => ?_)
    · refine ⟨s, by omega, hx, rfl, ?_⟩
      refine And.intro (fun (e2 : ((ar 24) s) ≤ (nI 30)) => ?_) (fun (e2 : ¬ ((ar 24) s) ≤ (nI 30)) => ?_)
      · refine V.g2 60 [42] mX7_sheetWrong_ok rfl ?_
        exact ⟨_, zsim_rfl _, h _ (by rw [flW, if_neg e, if_neg (Int32.not_lt.mpr e2)]; rfl)⟩
      · refine V.g2 60 [42] mX7_sheetWrong_ok rfl ?_
        exact ⟨_, zsim_rfl _, h _ (by rw [flW, if_neg e, if_pos (Int32.not_le.mp e2)]; rfl)⟩
    · exact ⟨_, zsim_rfl _, h _ (by rw [flW, if_pos e]; rfl)⟩
def T7_unlike : zT := fun args hs Q => ∃ (fv : Nat → Int32) (ar : Nat → fI) (x : Int32) (s n : Nat) (P : zP), mOk fv ar P ∧ s < 4 ∧ x = nI s ∧ n ≤ 30 ∧ ar 24 s = nI n ∧ args = [.ref 0, .int x] ∧ hs = pM fv ar ∧ ∀ r : Int32, r = oI (foF (cM fv ar) P (ceF (ar 25) s) n) → ∀ (q : RT) (sk nm pl az cs : fI), Q (some (.int r)) (pM (f4 fv q) (r5 ar sk nm pl az cs))
set_option maxHeartbeats 4000000 in
theorem c7_unlike (l : Launch) : Ct l mX7_unlike false 8 0 0 T7_unlike := by
  refine Ct.intro mX7_unlike_ok ?_
  rintro args hs Q ⟨fv, ar, x, s, n, P, hM, hs, hx, hn, hsz, rfl, rfl, h⟩
  refine ⟨Nat.le_of_ble_eq_true rfl, ?_⟩
  obtain ⟨RL, hRL⟩ : ∃ RL, RL = rlF (cM fv ar) P (ar 4) := ⟨_, rfl⟩
  refine V.g2 60 [6] mX7_unlike_ok rfl ?_
  refine V.cw mX7_unlike_ok rfl lX7_253 (c7_rolls l) rfl 0 7 rfl rfl rfl rfl rfl rfl ⟨fv, ar, P, hM, rfl, rfl, fun q hq sk nm pl az cs hr => ⟨rfl, ?_⟩⟩
  rw [← hRL] at hr
  have hp : ∀ t, (fun t => decide (¬ ceF (ar 25) s t = (RL (t + 1)).2.1)) t = (fun t => decide (¬ ceF (ar 25) s t = (rlF (cM fv ar) P (haC (cM fv ar)) (t + 1)).2.1)) t := fun t => by rw [hRL]
  have hE : foF (cM fv ar) P (ceF (ar 25) s) n = fsF (fun t => decide (¬ ceF (ar 25) s t = (RL (t + 1)).2.1)) n := by unfold foF; rw [← funext hp]
  rw [hE] at h
  generalize hS : pM fv ar = S
  have loop : ∀ (m t : Nat) (x2 : Int32), t + m = n → x2 = nI t → fsF (fun t => decide (¬ ceF (ar 25) s t = (RL (t + 1)).2.1)) t = none → V l mX7_unlike false S (zrm 8 0 0) (zFm false S Q 0 0) 0 0 6 [(2, .int x2), (0, .ref 0), (1, .int x)] [] (pM (upf (upf (upf (upf fv 41 q.2.2.2.1) 42 q.2.2.2.2.1) 43 q.2.2.2.2.2.1) 44 q.2.2.2.2.2.2) (upa (upa (upa (upa (upa ar 36 sk) 37 nm) 38 pl) 39 az) 40 cs)) := by
    intro m
    induction m with
    | zero =>
      intro t x2 ht h2 hf
      have e9 : t = n := by omega
      rw [e9] at hf
      refine V.g2 60 [6] mX7_unlike_ok rfl ?_
      refine ⟨s, by omega, hx, rfl, ?_⟩
      refine pk_le n t (fun e => ?_) (fun e => absurd e (by omega)) hsz h2
      exact ⟨_, zsim_rfl _, h _ (by rw [hf]; rfl) q sk nm pl az cs⟩
    | succ m ih =>
      intro t x2 ht h2 hf
      refine V.g2 60 [6] mX7_unlike_ok rfl ?_
      refine ⟨s, by omega, hx, rfl, ?_⟩
      refine pk_le n t (fun e => absurd e (by omega)) (fun e => ?_) hsz h2
      refine ⟨((40 * s) + t), by omega, (nadd (nmul rfl hx) h2), rfl, ?_⟩
      refine ⟨t, by omega, h2, rfl, ?_⟩
      refine And.intro (fun (e : ((ar 25) ((40 * s) + t)) = (az t)) => ?_) (fun (e : ¬ ((ar 25) ((40 * s) + t)) = (az t)) => ?_)
      · refine V.kn [2, 0, 1] [(2, .int (x2 + zi 1)), (0, .ref 0), (1, .int x)] [] (pM (upf (upf (upf (upf fv 41 q.2.2.2.1) 42 q.2.2.2.2.1) 43 q.2.2.2.2.2.1) 44 q.2.2.2.2.2.2) (upa (upa (upa (upa (upa ar 36 sk) 37 nm) 38 pl) 39 az) 40 cs)) rfl rfl rfl ?_
        exact ih (t + 1) _ (by omega) (ninc h2) (fsF_miss hf (decide_eq_false (fun z => z (by rw [← (hr t (by omega)).2.1]; exact e))))
      · exact ⟨_, zsim_rfl _, h _ (by rw [fsF_hit hf (decide_eq_true (fun z => e (by rw [← (hr t (by omega)).2.1] at z; exact z))) (by omega)]; exact h2) q sk nm pl az cs⟩
  subst hS
  refine V.g2 60 [6] mX7_unlike_ok rfl ?_
  refine V.kn [2, 0, 1] [(2, .int (nI 0)), (0, .ref 0), (1, .int x)] [] (pM (upf (upf (upf (upf fv 41 q.2.2.2.1) 42 q.2.2.2.2.1) 43 q.2.2.2.2.2.1) 44 q.2.2.2.2.2.2) (upa (upa (upa (upa (upa ar 36 sk) 37 nm) 38 pl) 39 az) 40 cs)) rfl rfl rfl ?_
  exact loop n 0 _ (by omega) rfl rfl
def T7_judge : zT := fun args hs Q => ∃ (fv : Nat → Int32) (ar : Nat → fI) (x : Int32) (P : zP), mOk fv ar P ∧ shOk ar ∧ args = [.ref 0, .int x] ∧ hs = pM fv ar ∧ (wiB x 3 = false → Q (some (.int (-2))) hs) ∧ (∀ s, s < 4 → x = nI s → ¬ flW (ar 23 s) (ar 24 s) = 0 → Q (some (.int (flW (ar 23 s) (ar 24 s)))) hs) ∧ (∀ s n, s < 4 → x = nI s → flW (ar 23 s) (ar 24 s) = 0 → n ≤ 30 → ar 24 s = nI n → ∀ r : Int32, r = oI (foF (cM fv ar) P (ceF (ar 25) s) n) → ∀ fv2 ar2, kM fv ar fv2 ar2 → Q (some (.int r)) (pM fv2 ar2))
theorem c7_judge (l : Launch) : Ct l mX7_judge false 9 0 0 T7_judge := by
  refine Ct.intro mX7_judge_ok ?_
  rintro args hs Q ⟨fv, ar, x, P, hM, hsh, rfl, rfl, h0, h1, h2⟩
  refine ⟨Nat.le_of_ble_eq_true rfl, ?_⟩
  refine V.g2 60 [18, 19] mX7_judge_ok rfl ?_
  refine V.cw mX7_judge_ok rfl lX7_308 (c7_sheetWrong l) rfl 0 7 rfl rfl rfl rfl rfl rfl ⟨fv, ar, _, rfl, rfl, fun hb => ⟨rfl, ?_⟩, fun s hs hx w hw => ⟨rfl, ?_⟩⟩
  · refine V.g2 60 [18, 19] mX7_judge_ok rfl ?_
    refine And.intro (fun (e0 : ¬ (-2 : Int32) = (0 : Int32)) => ?_) (fun (e0 : (-2 : Int32) = (0 : Int32)) => absurd e0 (show ¬ (-2 : Int32) = 0 by decide))
    refine V.g2 60 [18, 19] mX7_judge_ok rfl ?_
    refine V.g2 60 [18, 19] mX7_judge_ok rfl ?_
    exact ⟨_, zsim_rfl _, h0 hb⟩
  · refine V.g2 60 [18, 19] mX7_judge_ok rfl ?_
    refine And.intro (fun (e : ¬ w = (0 : Int32)) => ?_) (fun (e : w = (0 : Int32)) => ?_)
    · refine V.g2 60 [18, 19] mX7_judge_ok rfl ?_
      refine V.g2 60 [18, 19] mX7_judge_ok rfl ?_
      exact ⟨_, zsim_rfl _, (by have q := h1 s hs hx (fun z => e (hw.trans z)); rw [← hw] at q; exact q)⟩
    · obtain ⟨n, hn, hsz⟩ := flW_n hsh hs (hw.symm.trans e)
      have h := h2 s n hs hx (hw.symm.trans e) hn hsz
      refine V.cw mX7_judge_ok rfl lX7_311 (c7_unlike l) rfl 0 7 rfl rfl rfl rfl rfl rfl ⟨fv, ar, _, s, n, P, hM, hs, hx, hn, hsz, rfl, rfl, fun r hr q sk nm pl az cs => ⟨rfl, ?_⟩⟩
      refine V.g2 60 [18, 19] mX7_judge_ok rfl ?_
      refine V.g2 60 [18, 19] mX7_judge_ok rfl ?_
      refine ⟨_, zsim_rfl _, ?_⟩
      exact h _ hr (upf (upf (upf (upf fv 41 q.2.2.2.1) 42 q.2.2.2.2.1) 43 q.2.2.2.2.2.1) 44 q.2.2.2.2.2.2) (upa (upa (upa (upa (upa ar 36 sk) 37 nm) 38 pl) 39 az) 40 cs) ⟨⟨rfl, rfl, rfl, rfl, rfl, rfl, rfl, rfl, rfl, rfl, rfl⟩, ⟨rfl, rfl, rfl, rfl, rfl, rfl, rfl, rfl, rfl, rfl, rfl, rfl, rfl, rfl, rfl, rfl⟩⟩
def T7_kinds : zT := fun args hs Q => ∃ (fv : Nat → Int32) (ar : Nat → fI) (x y z : Int32) (P : zP), mOk fv ar P ∧ shOk ar ∧ args = [.ref 0, .int x, .int y, .int z] ∧ hs = pM fv ar ∧ (wiB x 3 = false → Q (some (.int (-2))) hs) ∧ (∀ s, s < 4 → x = nI s → ¬ flW (ar 23 s) (ar 24 s) = 0 → Q (some (.int (flW (ar 23 s) (ar 24 s)))) hs) ∧ (∀ s, s < 4 → x = nI s → flW (ar 23 s) (ar 24 s) = 0 → wiB y 3 = false → Q (some (.int (-5))) hs) ∧ (∀ s, s < 4 → x = nI s → flW (ar 23 s) (ar 24 s) = 0 → wiB y 3 = true → wiB z 1 = false → Q (some (.int (-7))) hs) ∧ (∀ s n w j, s < 4 → x = nI s → flW (ar 23 s) (ar 24 s) = 0 → n ≤ 30 → ar 24 s = nI n → w < 4 → y = nI w → j < 2 → z = nI j → ∀ r : Int32, r = (if j = 0 then btF (fun v => foB (cwK (cM fv ar) w v) P (ceF (ar 25) s) n) 6 else btF (fun v => foB (cwM (cM fv ar) w v) P (ceF (ar 25) s) n) 10) → ∀ fv2 ar2, kM fv ar fv2 ar2 → Q (some (.int r)) (pM fv2 ar2))
set_option maxHeartbeats 4000000 in
theorem c7_kinds (l : Launch) : Ct l mX7_kinds false 9 0 0 T7_kinds := by
  refine Ct.intro mX7_kinds_ok ?_
  rintro args hs Q ⟨fv, ar, x, y, z, P, hM, hsh, rfl, rfl, h0, h1, h2, h3, h4⟩
  refine ⟨Nat.le_of_ble_eq_true rfl, ?_⟩
  refine V.g2 60 [15, 59, 110, 130] mX7_kinds_ok rfl ?_
  refine V.cw mX7_kinds_ok rfl lX7_308 (c7_sheetWrong l) rfl 0 7 rfl rfl rfl rfl rfl rfl ⟨fv, ar, _, rfl, rfl, fun hb => ⟨rfl, ?_⟩, fun s hs hx w hw => ⟨rfl, ?_⟩⟩
  · refine V.g2 60 [15, 59, 110, 130] mX7_kinds_ok rfl ?_
    refine And.intro (fun (e0 : (-2 : Int32) = (0 : Int32)) => absurd e0 (show ¬ (-2 : Int32) = 0 by decide)) (fun (e0 : ¬ (-2 : Int32) = (0 : Int32)) => ?_)
    exact ⟨_, zsim_rfl _, h0 hb⟩
  · refine V.g2 60 [15, 59, 110, 130] mX7_kinds_ok rfl ?_
    refine And.intro (fun (e : w = (0 : Int32)) => ?_) (fun (e : ¬ w = (0 : Int32)) => ?_)
    · obtain ⟨n, hn, hsz⟩ := flW_n hsh hs (hw.symm.trans e)
      replace hw := hw.symm.trans e
      refine V.g2 60 [15, 59, 110, 130] mX7_kinds_ok rfl ?_
      refine V.cs mX7_kinds_ok rfl lX7_206 (c7_isWheel l) rfl rfl rfl rfl ⟨_, rfl, fun B hB => ⟨rfl, ?_⟩⟩
      rcases B with _ | _
      · refine V.g2 60 [15, 59, 110, 130] mX7_kinds_ok rfl ?_
        refine And.intro (fun e => absurd rfl e) (fun _ => ?_)
        exact ⟨_, zsim_rfl _, h2 s hs hx hw hB.symm⟩
      · refine V.g2 60 [15, 59, 110, 130] mX7_kinds_ok rfl ?_
        refine And.intro (fun _ => ?_) (fun e => absurd e (by decide))
        refine V.cs mX7_kinds_ok rfl lX7_117 (c7_in l) rfl rfl rfl rfl ⟨_, _, _, rfl, fun B2 hB2 => ⟨rfl, ?_⟩⟩
        rcases B2 with _ | _
        · refine V.g2 60 [15, 59, 110, 130] mX7_kinds_ok rfl ?_
          refine And.intro (fun e => absurd rfl e) (fun _ => ?_)
          exact ⟨_, zsim_rfl _, h3 s hs hx hw hB.symm hB2.symm⟩
        · obtain ⟨wh, hwh, hy⟩ := wiB_t hB.symm (by omega)
          obtain ⟨j, hj, hz⟩ := wiB_t (n := 1) hB2.symm (by omega)
          have h := h4 s n wh j hs hx hw hn hsz hwh hy hj hz
          clear h0 h1 h2 h3 h4
          subst hx
          subst hy
          subst hz
          generalize hS : pM fv ar = S
          rcases (show j = 0 ∨ j = 1 by omega) with rfl | rfl
          · have loop : ∀ (m v : Nat) (x8 x7 : Int32) (kd : fI) (q : RT) (sk nm pl az cs : fI), v + m = 6 → x8 = nI v → x7 = btF (fun v => foB (cwK (cM fv ar) wh v) P (ceF (ar 25) s) n) v → (∀ u, upd kd wh u = upd (ar 0) wh u) → V l mX7_kinds false S (zrm 9 0 0) (zFm false S Q 0 0) 0 0 59 [(8, .int x8), (7, .int x7), (0, .ref 0), (1, .int (nI s)), (2, .int (nI wh)), (3, .int (nI 0)), (5, .int ((ar 0) wh)), (6, .int ((ar 1) wh))] [] (pM (upf (upf (upf (upf fv 41 q.2.2.2.1) 42 q.2.2.2.2.1) 43 q.2.2.2.2.2.1) 44 q.2.2.2.2.2.2) (upa (upa (upa (upa (upa (upa ar 36 sk) 37 nm) 38 pl) 39 az) 40 cs) 0 kd)) := by
              intro m
              induction m with
              | zero =>
                intro v x8 x7 kd q sk nm pl az cs hv h8 h7 hkd
                obtain rfl : v = 6 := by omega
                refine V.g2 60 [59, 110, 130, 154] mX7_kinds_ok rfl ?_
                refine zp_ne 0 0 (fun e0 => absurd e0 (by omega)) (fun e0 => ?_) rfl rfl
                refine pk_le 6 6 (fun e0 => ?_) (fun e0 => absurd e0 (by omega)) rfl h8
                refine ⟨wh, by omega, rfl, rfl, ?_⟩
                refine ⟨wh, by omega, rfl, rfl, ?_⟩
                refine V.nm [(8, .int x8), (7, .int x7), (0, .ref 0), (1, .int (nI s)), (2, .int (nI wh)), (3, .int (nI 0)), (5, .int ((ar 0) wh)), (6, .int ((ar 1) wh))] [] (pM (upf (upf (upf (upf fv 41 q.2.2.2.1) 42 q.2.2.2.2.1) 43 q.2.2.2.2.2.1) 44 q.2.2.2.2.2.2) (upa (upa (upa (upa (upa (upa (upa ar 36 sk) 37 nm) 38 pl) 39 az) 40 cs) 0 (upd kd wh ((ar 0) wh))) 1 (upd (ar 1) wh ((ar 1) wh)))) rfl rfl rfl ?_
                rw [hkd, updS (ar 0) wh, updS (ar 1) wh]
                refine V.g2 60 [59, 110, 130, 154] mX7_kinds_ok rfl ?_
                refine ⟨_, zsim_rfl _, ?_⟩
                exact h _ (by rw [h7, if_pos rfl]) (upf (upf (upf (upf fv 41 q.2.2.2.1) 42 q.2.2.2.2.1) 43 q.2.2.2.2.2.1) 44 q.2.2.2.2.2.2) (upa (upa (upa (upa (upa (upa (upa ar 36 sk) 37 nm) 38 pl) 39 az) 40 cs) 0 (ar 0)) 1 (ar 1)) ⟨⟨rfl, rfl, rfl, rfl, rfl, rfl, rfl, rfl, rfl, rfl, rfl⟩, ⟨rfl, rfl, rfl, rfl, rfl, rfl, rfl, rfl, rfl, rfl, rfl, rfl, rfl, rfl, rfl, rfl⟩⟩
              | succ m ih =>
                intro v x8 x7 kd q sk nm pl az cs hv h8 h7 hkd
                have e8 : x8 = nI v := h8
                subst e8
                refine V.g2 60 [15, 59, 110, 130] mX7_kinds_ok rfl ?_
                refine zp_ne 0 0 (fun e0 => absurd e0 (by omega)) (fun e0 => ?_) rfl rfl
                refine pk_le 6 v (fun e => absurd e (by omega)) (fun e => ?_) rfl rfl
                refine zp_ne 0 0 (fun e0 => absurd e0 (by omega)) (fun e0 => ?_) rfl rfl
                refine ⟨wh, by omega, rfl, rfl, ?_⟩
                refine zp_ne 0 1 (fun e0 => ?_) (fun e0 => absurd e0 (by omega)) rfl rfl
                refine ⟨wh, by omega, rfl, rfl, ?_⟩
                refine V.nm [(8, .int (nI v)), (7, .int x7), (0, .ref 0), (1, .int (nI s)), (2, .int (nI wh)), (3, .int (nI 0)), (5, .int ((ar 0) wh)), (6, .int ((ar 1) wh))] [] (pM (upf (upf (upf (upf fv 41 q.2.2.2.1) 42 q.2.2.2.2.1) 43 q.2.2.2.2.2.1) 44 q.2.2.2.2.2.2) (upa (upa (upa (upa (upa (upa (upa ar 36 sk) 37 nm) 38 pl) 39 az) 40 cs) 0 (upd kd wh (nI v))) 1 (upd (ar 1) wh ((ar 1) wh)))) rfl rfl rfl ?_
                rw [hkd, updS (ar 1) wh]
                refine V.g2 60 [15, 59, 110, 130] mX7_kinds_ok rfl ?_
                refine V.cw mX7_kinds_ok rfl lX7_311 (c7_unlike l) rfl 0 7 rfl rfl rfl rfl rfl rfl ⟨(upf (upf (upf (upf fv 41 q.2.2.2.1) 42 q.2.2.2.2.1) 43 q.2.2.2.2.2.1) 44 q.2.2.2.2.2.2), (upa (upa (upa (upa (upa (upa (upa ar 36 sk) 37 nm) 38 pl) 39 az) 40 cs) 0 (upd (ar 0) wh (nI v))) 1 (ar 1)), _, s, n, P, ⟨kOk_up hM.1 (by omega), hM.2⟩, hs, rfl, hn, hsz, rfl, rfl, fun r hr q2 sk2 nm2 pl2 az2 cs2 => ⟨rfl, ?_⟩⟩
                have hfo : r = oI (foF (cwK (cM fv ar) wh v) P (ceF (ar 25) s) n) := hr
                cases hq : foF (cwK (cM fv ar) wh v) P (ceF (ar 25) s) n with
                | none =>
                  rw [hq] at hfo
                  have hb : foB (cwK (cM fv ar) wh v) P (ceF (ar 25) s) n = true := by unfold foB; rw [hq]; rfl
                  refine V.g2 60 [15, 59, 110, 130] mX7_kinds_ok rfl ?_
                  refine And.intro (fun (e5 : ¬ r = (-1 : Int32)) => absurd hfo e5) (fun (e5 : r = (-1 : Int32)) => ?_)
                  refine V.g2 60 [15, 59, 110, 130] mX7_kinds_ok rfl ?_
                  refine V.kn [8, 7, 0, 1, 2, 3, 5, 6] [(8, .int ((nI v) + zi 1)), (7, .int (x7 ||| ((nI 1) <<< ((nI v) &&& 31)))), (0, .ref 0), (1, .int (nI s)), (2, .int (nI wh)), (3, .int (nI 0)), (5, .int ((ar 0) wh)), (6, .int ((ar 1) wh))] [] (pM (upf (upf (upf (upf fv 41 q2.2.2.2.1) 42 q2.2.2.2.2.1) 43 q2.2.2.2.2.2.1) 44 q2.2.2.2.2.2.2) (upa (upa (upa (upa (upa (upa (upa ar 0 (upd (ar 0) wh (nI v))) 1 (ar 1)) 36 sk2) 37 nm2) 38 pl2) 39 az2) 40 cs2)) rfl rfl rfl ?_
                  exact ih (v + 1) _ _ _ q2 sk2 nm2 pl2 az2 cs2 (by omega) (ninc rfl) (by rw [h7]; exact (btF_t (p := (fun v => foB (cwK (cM fv ar) wh v) P (ceF (ar 25) s) n)) hb).symm) (fun u => upd2 (ar 0) wh (nI v) u)
                | some i =>
                  rw [hq] at hfo
                  have hi := fsF_lt hq
                  have hb : foB (cwK (cM fv ar) wh v) P (ceF (ar 25) s) n = false := by unfold foB; rw [hq]; rfl
                  refine V.g2 60 [15, 59, 110, 130] mX7_kinds_ok rfl ?_
                  refine And.intro (fun (e5 : ¬ r = (-1 : Int32)) => ?_) (fun (e5 : r = (-1 : Int32)) => absurd ((show r = nI i from hfo).symm.trans e5) (nI_m1 (by omega)))
                  refine V.g2 60 [15, 59, 110, 130] mX7_kinds_ok rfl ?_
                  refine V.kn [8, 7, 0, 1, 2, 3, 5, 6] [(8, .int ((nI v) + zi 1)), (7, .int (x7 ||| (nI 0))), (0, .ref 0), (1, .int (nI s)), (2, .int (nI wh)), (3, .int (nI 0)), (5, .int ((ar 0) wh)), (6, .int ((ar 1) wh))] [] (pM (upf (upf (upf (upf fv 41 q2.2.2.2.1) 42 q2.2.2.2.2.1) 43 q2.2.2.2.2.2.1) 44 q2.2.2.2.2.2.2) (upa (upa (upa (upa (upa (upa (upa ar 0 (upd (ar 0) wh (nI v))) 1 (ar 1)) 36 sk2) 37 nm2) 38 pl2) 39 az2) 40 cs2)) rfl rfl rfl ?_
                  exact ih (v + 1) _ _ _ q2 sk2 nm2 pl2 az2 cs2 (by omega) (ninc rfl) (by rw [h7]; exact Int32.or_zero.trans (btF_f (p := (fun v => foB (cwK (cM fv ar) wh v) P (ceF (ar 25) s) n)) hb).symm) (fun u => upd2 (ar 0) wh (nI v) u)
            subst hS
            refine V.g2 60 [15, 59, 110, 130] mX7_kinds_ok rfl ?_
            refine And.intro (fun _ => ?_) (fun e => absurd e (by decide))
            refine ⟨wh, by omega, rfl, rfl, ?_⟩
            refine ⟨wh, by omega, rfl, rfl, ?_⟩
            refine V.kn [8, 7, 0, 1, 2, 3, 5, 6] [(8, .int (nI 0)), (7, .int (nI 0)), (0, .ref 0), (1, .int (nI s)), (2, .int (nI wh)), (3, .int (nI 0)), (5, .int ((ar 0) wh)), (6, .int ((ar 1) wh))] [] (pM fv ar) rfl rfl rfl ?_
            exact loop 6 0 _ _ (ar 0) (0, 0, 0, fv 41, fv 42, fv 43, fv 44) (ar 36) (ar 37) (ar 38) (ar 39) (ar 40) rfl rfl rfl (fun _ => rfl)
          · have loop : ∀ (m v : Nat) (x8 x7 : Int32) (kd : fI) (q : RT) (sk nm pl az cs : fI), v + m = 10 → x8 = nI v → x7 = btF (fun v => foB (cwM (cM fv ar) wh v) P (ceF (ar 25) s) n) v → (∀ u, upd kd wh u = upd (ar 1) wh u) → V l mX7_kinds false S (zrm 9 0 0) (zFm false S Q 0 0) 0 0 59 [(8, .int x8), (7, .int x7), (0, .ref 0), (1, .int (nI s)), (2, .int (nI wh)), (3, .int (nI 1)), (5, .int ((ar 0) wh)), (6, .int ((ar 1) wh))] [] (pM (upf (upf (upf (upf fv 41 q.2.2.2.1) 42 q.2.2.2.2.1) 43 q.2.2.2.2.2.1) 44 q.2.2.2.2.2.2) (upa (upa (upa (upa (upa (upa ar 36 sk) 37 nm) 38 pl) 39 az) 40 cs) 1 kd)) := by
              intro m
              induction m with
              | zero =>
                intro v x8 x7 kd q sk nm pl az cs hv h8 h7 hkd
                obtain rfl : v = 10 := by omega
                refine V.g2 60 [59, 110, 130, 154] mX7_kinds_ok rfl ?_
                refine zp_ne 1 0 (fun e0 => ?_) (fun e0 => absurd e0 (by omega)) rfl rfl
                refine pk_le 10 10 (fun e0 => ?_) (fun e0 => absurd e0 (by omega)) rfl h8
                refine ⟨wh, by omega, rfl, rfl, ?_⟩
                refine ⟨wh, by omega, rfl, rfl, ?_⟩
                refine V.nm [(8, .int x8), (7, .int x7), (0, .ref 0), (1, .int (nI s)), (2, .int (nI wh)), (3, .int (nI 1)), (5, .int ((ar 0) wh)), (6, .int ((ar 1) wh))] [] (pM (upf (upf (upf (upf fv 41 q.2.2.2.1) 42 q.2.2.2.2.1) 43 q.2.2.2.2.2.1) 44 q.2.2.2.2.2.2) (upa (upa (upa (upa (upa (upa (upa ar 36 sk) 37 nm) 38 pl) 39 az) 40 cs) 0 (upd (ar 0) wh ((ar 0) wh))) 1 (upd kd wh ((ar 1) wh)))) rfl rfl rfl ?_
                rw [hkd, updS (ar 0) wh, updS (ar 1) wh]
                refine V.g2 60 [59, 110, 130, 154] mX7_kinds_ok rfl ?_
                refine ⟨_, zsim_rfl _, ?_⟩
                exact h _ (by rw [h7, if_neg (by decide)]) (upf (upf (upf (upf fv 41 q.2.2.2.1) 42 q.2.2.2.2.1) 43 q.2.2.2.2.2.1) 44 q.2.2.2.2.2.2) (upa (upa (upa (upa (upa (upa (upa ar 36 sk) 37 nm) 38 pl) 39 az) 40 cs) 0 (ar 0)) 1 (ar 1)) ⟨⟨rfl, rfl, rfl, rfl, rfl, rfl, rfl, rfl, rfl, rfl, rfl⟩, ⟨rfl, rfl, rfl, rfl, rfl, rfl, rfl, rfl, rfl, rfl, rfl, rfl, rfl, rfl, rfl, rfl⟩⟩
              | succ m ih =>
                intro v x8 x7 kd q sk nm pl az cs hv h8 h7 hkd
                have e8 : x8 = nI v := h8
                subst e8
                refine V.g2 60 [15, 59, 110, 130] mX7_kinds_ok rfl ?_
                refine zp_ne 1 0 (fun e0 => ?_) (fun e0 => absurd e0 (by omega)) rfl rfl
                refine pk_le 10 v (fun e => absurd e (by omega)) (fun e => ?_) rfl rfl
                refine zp_ne 1 0 (fun e0 => ?_) (fun e0 => absurd e0 (by omega)) rfl rfl
                refine ⟨wh, by omega, rfl, rfl, ?_⟩
                refine zp_ne 1 1 (fun e0 => absurd e0 (by omega)) (fun e0 => ?_) rfl rfl
                refine ⟨wh, by omega, rfl, rfl, ?_⟩
                refine V.nm [(8, .int (nI v)), (7, .int x7), (0, .ref 0), (1, .int (nI s)), (2, .int (nI wh)), (3, .int (nI 1)), (5, .int ((ar 0) wh)), (6, .int ((ar 1) wh))] [] (pM (upf (upf (upf (upf fv 41 q.2.2.2.1) 42 q.2.2.2.2.1) 43 q.2.2.2.2.2.1) 44 q.2.2.2.2.2.2) (upa (upa (upa (upa (upa (upa (upa ar 36 sk) 37 nm) 38 pl) 39 az) 40 cs) 0 (upd (ar 0) wh ((ar 0) wh))) 1 (upd kd wh (nI v)))) rfl rfl rfl ?_
                rw [hkd, updS (ar 0) wh]
                refine V.g2 60 [15, 59, 110, 130] mX7_kinds_ok rfl ?_
                refine V.cw mX7_kinds_ok rfl lX7_311 (c7_unlike l) rfl 0 7 rfl rfl rfl rfl rfl rfl ⟨(upf (upf (upf (upf fv 41 q.2.2.2.1) 42 q.2.2.2.2.1) 43 q.2.2.2.2.2.1) 44 q.2.2.2.2.2.2), (upa (upa (upa (upa (upa (upa (upa ar 36 sk) 37 nm) 38 pl) 39 az) 40 cs) 1 (upd (ar 1) wh (nI v))) 0 (ar 0)), _, s, n, P, hM, hs, rfl, hn, hsz, rfl, rfl, fun r hr q2 sk2 nm2 pl2 az2 cs2 => ⟨rfl, ?_⟩⟩
                have hfo : r = oI (foF (cwM (cM fv ar) wh v) P (ceF (ar 25) s) n) := hr
                cases hq : foF (cwM (cM fv ar) wh v) P (ceF (ar 25) s) n with
                | none =>
                  rw [hq] at hfo
                  have hb : foB (cwM (cM fv ar) wh v) P (ceF (ar 25) s) n = true := by unfold foB; rw [hq]; rfl
                  refine V.g2 60 [15, 59, 110, 130] mX7_kinds_ok rfl ?_
                  refine And.intro (fun (e5 : ¬ r = (-1 : Int32)) => absurd hfo e5) (fun (e5 : r = (-1 : Int32)) => ?_)
                  refine V.g2 60 [15, 59, 110, 130] mX7_kinds_ok rfl ?_
                  refine V.kn [8, 7, 0, 1, 2, 3, 5, 6] [(8, .int ((nI v) + zi 1)), (7, .int (x7 ||| ((nI 1) <<< ((nI v) &&& 31)))), (0, .ref 0), (1, .int (nI s)), (2, .int (nI wh)), (3, .int (nI 1)), (5, .int ((ar 0) wh)), (6, .int ((ar 1) wh))] [] (pM (upf (upf (upf (upf fv 41 q2.2.2.2.1) 42 q2.2.2.2.2.1) 43 q2.2.2.2.2.2.1) 44 q2.2.2.2.2.2.2) (upa (upa (upa (upa (upa (upa (upa ar 1 (upd (ar 1) wh (nI v))) 0 (ar 0)) 36 sk2) 37 nm2) 38 pl2) 39 az2) 40 cs2)) rfl rfl rfl ?_
                  exact ih (v + 1) _ _ _ q2 sk2 nm2 pl2 az2 cs2 (by omega) (ninc rfl) (by rw [h7]; exact (btF_t (p := (fun v => foB (cwM (cM fv ar) wh v) P (ceF (ar 25) s) n)) hb).symm) (fun u => upd2 (ar 1) wh (nI v) u)
                | some i =>
                  rw [hq] at hfo
                  have hi := fsF_lt hq
                  have hb : foB (cwM (cM fv ar) wh v) P (ceF (ar 25) s) n = false := by unfold foB; rw [hq]; rfl
                  refine V.g2 60 [15, 59, 110, 130] mX7_kinds_ok rfl ?_
                  refine And.intro (fun (e5 : ¬ r = (-1 : Int32)) => ?_) (fun (e5 : r = (-1 : Int32)) => absurd ((show r = nI i from hfo).symm.trans e5) (nI_m1 (by omega)))
                  refine V.g2 60 [15, 59, 110, 130] mX7_kinds_ok rfl ?_
                  refine V.kn [8, 7, 0, 1, 2, 3, 5, 6] [(8, .int ((nI v) + zi 1)), (7, .int (x7 ||| (nI 0))), (0, .ref 0), (1, .int (nI s)), (2, .int (nI wh)), (3, .int (nI 1)), (5, .int ((ar 0) wh)), (6, .int ((ar 1) wh))] [] (pM (upf (upf (upf (upf fv 41 q2.2.2.2.1) 42 q2.2.2.2.2.1) 43 q2.2.2.2.2.2.1) 44 q2.2.2.2.2.2.2) (upa (upa (upa (upa (upa (upa (upa ar 1 (upd (ar 1) wh (nI v))) 0 (ar 0)) 36 sk2) 37 nm2) 38 pl2) 39 az2) 40 cs2)) rfl rfl rfl ?_
                  exact ih (v + 1) _ _ _ q2 sk2 nm2 pl2 az2 cs2 (by omega) (ninc rfl) (by rw [h7]; exact Int32.or_zero.trans (btF_f (p := (fun v => foB (cwM (cM fv ar) wh v) P (ceF (ar 25) s) n)) hb).symm) (fun u => upd2 (ar 1) wh (nI v) u)
            subst hS
            refine V.g2 60 [15, 59, 110, 130] mX7_kinds_ok rfl ?_
            refine And.intro (fun _ => ?_) (fun e => absurd e (by decide))
            refine ⟨wh, by omega, rfl, rfl, ?_⟩
            refine ⟨wh, by omega, rfl, rfl, ?_⟩
            refine V.kn [8, 7, 0, 1, 2, 3, 5, 6] [(8, .int (nI 0)), (7, .int (nI 0)), (0, .ref 0), (1, .int (nI s)), (2, .int (nI wh)), (3, .int (nI 1)), (5, .int ((ar 0) wh)), (6, .int ((ar 1) wh))] [] (pM fv ar) rfl rfl rfl ?_
            exact loop 10 0 _ _ (ar 1) (0, 0, 0, fv 41, fv 42, fv 43, fv 44) (ar 36) (ar 37) (ar 38) (ar 39) (ar 40) rfl rfl rfl (fun _ => rfl)
    · exact ⟨_, zsim_rfl _, (by have q := h1 s hs hx (fun z => e (hw.trans z)); rw [← hw] at q; exact q)⟩
