/-! ===== the reference: its small words ===== -/
def T7_in : zT := fun args hs Q => ∃ (v a b : Int32), args = [.int v, .int a, .int b] ∧ ∀ B : Bool, B = (decide (a ≤ v) && decide (v ≤ b)) → Q (some (.int (bI B))) hs
theorem c7_in (l : Launch) : Ct l mX7_in false 1 0 0 T7_in := by
  refine Ct.intro mX7_in_ok ?_
  rintro args hs Q ⟨v, a, b, rfl, h⟩
  refine ⟨Nat.le_of_ble_eq_true rfl, ?_⟩
  refine V.g2 60 [] mX7_in_ok rfl ?_
  refine And.intro (fun e => ?_) (fun e => ?_)
  · refine And.intro (Or.inl rfl) ?_
    exact ⟨_, zsim_rfl _, h false (by rw [decide_eq_false (Int32.not_le.mpr e)]; rfl)⟩
  · refine And.intro (fun e2 => ?_) (fun e2 => ?_)
    · refine And.intro (Or.inl rfl) ?_
      exact ⟨_, zsim_rfl _, h false (by rw [decide_eq_false (Int32.not_le.mpr e2), Bool.and_false])⟩
    · refine And.intro (Or.inr rfl) ?_
      exact ⟨_, zsim_rfl _, h true (by rw [decide_eq_true (Int32.not_lt.mp e), decide_eq_true (Int32.not_lt.mp e2)]; rfl)⟩
def wnF (v a b : Int32) : Int32 := if v < a then a else if b < v then b else v
def T7_within : zT := fun args hs Q => ∃ (v a b : Int32), args = [.int v, .int a, .int b] ∧ ∀ r : Int32, r = wnF v a b → Q (some (.int r)) hs
theorem c7_within (l : Launch) : Ct l mX7_within false 1 0 0 T7_within := by
  refine Ct.intro mX7_within_ok ?_
  rintro args hs Q ⟨v, a, b, rfl, h⟩
  refine ⟨Nat.le_of_ble_eq_true rfl, ?_⟩
  refine V.g2 60 [] mX7_within_ok rfl ?_
  refine And.intro (fun e => ?_) (fun e => ?_)
  · refine And.intro (fun e2 => ?_) (fun e2 => ?_)
    · exact ⟨_, zsim_rfl _, h _ (by rw [wnF, if_neg (Int32.not_lt.mpr e), if_neg (Int32.not_lt.mpr e2)])⟩
    · exact ⟨_, zsim_rfl _, h _ (by rw [wnF, if_neg (Int32.not_lt.mpr e), if_pos (Int32.not_le.mp e2)])⟩
  · exact ⟨_, zsim_rfl _, h _ (by rw [wnF, if_pos (Int32.not_le.mp e)])⟩
def T7_far : zT := fun args hs Q => ∃ (v : Int32), args = [.int v] ∧ ∀ r : Int32, r = abF v → Q (some (.int r)) hs
theorem c7_far (l : Launch) : Ct l mX7_far false 1 0 0 T7_far := by
  refine Ct.intro mX7_far_ok ?_
  rintro args hs Q ⟨v, rfl, h⟩
  refine ⟨Nat.le_of_ble_eq_true rfl, ?_⟩
  refine V.g2 60 [] mX7_far_ok rfl ?_
  refine And.intro (fun e => ?_) (fun e => ?_)
  · exact ⟨_, zsim_rfl _, h _ (by rw [abF, if_pos e])⟩
  · exact ⟨_, zsim_rfl _, h _ (by rw [abF, if_neg e, Int32.zero_sub])⟩
def T7_isWheel : zT := fun args hs Q => ∃ (v : Int32), args = [.int v] ∧ ∀ B : Bool, B = wiB v 3 → Q (some (.int (bI B))) hs
theorem c7_isWheel (l : Launch) : Ct l mX7_isWheel false 2 0 0 T7_isWheel := by
  refine Ct.intro mX7_isWheel_ok ?_
  rintro args hs Q ⟨v, rfl, h⟩
  refine ⟨Nat.le_of_ble_eq_true rfl, ?_⟩
  refine V.g2 60 [] mX7_isWheel_ok rfl ?_
  refine V.cs mX7_isWheel_ok rfl lX7_117 (c7_in l) rfl rfl rfl rfl ⟨_, _, _, rfl, fun B hB => ⟨rfl, ?_⟩⟩
  refine V.g2 60 [] mX7_isWheel_ok rfl ?_
  refine And.intro (bI_01 _) ?_
  exact ⟨_, zsim_rfl _, h B hB⟩
def T7_isTenth : zT := fun args hs Q => ∃ (v : Int32), args = [.int v] ∧ ∀ B : Bool, B = wiB v 29 → Q (some (.int (bI B))) hs
theorem c7_isTenth (l : Launch) : Ct l mX7_isTenth false 2 0 0 T7_isTenth := by
  refine Ct.intro mX7_isTenth_ok ?_
  rintro args hs Q ⟨v, rfl, h⟩
  refine ⟨Nat.le_of_ble_eq_true rfl, ?_⟩
  refine V.g2 60 [] mX7_isTenth_ok rfl ?_
  refine V.cs mX7_isTenth_ok rfl lX7_117 (c7_in l) rfl rfl rfl rfl ⟨_, _, _, rfl, fun B hB => ⟨rfl, ?_⟩⟩
  refine V.g2 60 [] mX7_isTenth_ok rfl ?_
  refine And.intro (bI_01 _) ?_
  exact ⟨_, zsim_rfl _, h B hB⟩
def T7_isByte : zT := fun args hs Q => ∃ (v : Int32), args = [.int v] ∧ ∀ B : Bool, B = wiB v 255 → Q (some (.int (bI B))) hs
theorem c7_isByte (l : Launch) : Ct l mX7_isByte false 2 0 0 T7_isByte := by
  refine Ct.intro mX7_isByte_ok ?_
  rintro args hs Q ⟨v, rfl, h⟩
  refine ⟨Nat.le_of_ble_eq_true rfl, ?_⟩
  refine V.g2 60 [] mX7_isByte_ok rfl ?_
  refine V.cs mX7_isByte_ok rfl lX7_117 (c7_in l) rfl rfl rfl rfl ⟨_, _, _, rfl, fun B hB => ⟨rfl, ?_⟩⟩
  refine V.g2 60 [] mX7_isByte_ok rfl ?_
  refine And.intro (bI_01 _) ?_
  exact ⟨_, zsim_rfl _, h B hB⟩
def T7_areGuests : zT := fun args hs Q => ∃ (v : Int32), args = [.int v] ∧ ∀ B : Bool, B = wiB v 24 → Q (some (.int (bI B))) hs
theorem c7_areGuests (l : Launch) : Ct l mX7_areGuests false 2 0 0 T7_areGuests := by
  refine Ct.intro mX7_areGuests_ok ?_
  rintro args hs Q ⟨v, rfl, h⟩
  refine ⟨Nat.le_of_ble_eq_true rfl, ?_⟩
  refine V.g2 60 [] mX7_areGuests_ok rfl ?_
  refine V.cs mX7_areGuests_ok rfl lX7_117 (c7_in l) rfl rfl rfl rfl ⟨_, _, _, rfl, fun B hB => ⟨rfl, ?_⟩⟩
  refine V.g2 60 [] mX7_areGuests_ok rfl ?_
  refine And.intro (bI_01 _) ?_
  exact ⟨_, zsim_rfl _, h B hB⟩
def T7_isTrolley : zT := fun args hs Q => ∃ (fv : Nat → Int32) (ar : Nat → fI) (x : Int32), args = [.ref 0, .int x] ∧ hs = pM fv ar ∧ ∀ B : Bool, B = (decide (nI 0 ≤ x) && decide (x ≤ fv 7 - nI 1)) → Q (some (.int (bI B))) hs
theorem c7_isTrolley (l : Launch) : Ct l mX7_isTrolley false 2 0 0 T7_isTrolley := by
  refine Ct.intro mX7_isTrolley_ok ?_
  rintro args hs Q ⟨fv, ar, x, rfl, rfl, h⟩
  refine ⟨Nat.le_of_ble_eq_true rfl, ?_⟩
  refine V.g2 60 [] mX7_isTrolley_ok rfl ?_
  refine V.cs mX7_isTrolley_ok rfl lX7_117 (c7_in l) rfl rfl rfl rfl ⟨_, _, _, rfl, fun B hB => ⟨rfl, ?_⟩⟩
  refine V.g2 60 [] mX7_isTrolley_ok rfl ?_
  refine And.intro (bI_01 _) ?_
  exact ⟨_, zsim_rfl _, h B hB⟩
def T7_loadOn : zT := fun args hs Q => ∃ (fv : Nat → Int32) (ar : Nat → fI) (x : Int32) (w : Nat), w < 4 ∧ x = nI w ∧ args = [.ref 0, .int x] ∧ hs = pM fv ar ∧ ∀ r : Int32, r = ldO (cM fv ar) w → Q (some (.int r)) hs
theorem c7_loadOn (l : Launch) : Ct l mX7_loadOn false 1 0 0 T7_loadOn := by
  refine Ct.intro mX7_loadOn_ok ?_
  rintro args hs Q ⟨fv, ar, x, w, hw, hx, rfl, rfl, h⟩
  refine ⟨Nat.le_of_ble_eq_true rfl, ?_⟩
  refine V.g2 60 [] mX7_loadOn_ok rfl ?_
  refine ⟨(2 * w), by omega, (nmul rfl hx), rfl, ?_⟩
  refine ⟨((2 * w) + 1), by omega, (nadd (nmul rfl hx) rfl), rfl, ?_⟩
  exact ⟨_, zsim_rfl _, h _ rfl⟩
def T7_count : zT := fun args hs Q => ∃ (fv : Nat → Int32) (ar : Nat → fI) (x : Int32), args = [.ref 0, .int x] ∧ hs = pM fv ar ∧ ∀ r : Int32, r = cntF x (fv 7) (fv 17) (fv 18) (fv 14) (smT (ar 3) 8) → Q (some (.int r)) hs
theorem c7_count (l : Launch) : Ct l mX7_count false 2 0 0 T7_count := by
  refine Ct.intro mX7_count_ok ?_
  rintro args hs Q ⟨fv, ar, x, rfl, rfl, h⟩
  refine ⟨Nat.le_of_ble_eq_true rfl, ?_⟩
  refine V.g2 60 [] mX7_count_ok rfl ?_
  rcases zcase x 5 (by omega) with ⟨j, hj, rfl⟩ | hx
  · rcases (show j = 0 ∨ j = 1 ∨ j = 2 ∨ j = 3 ∨ j = 4 by omega) with rfl | rfl | rfl | rfl | rfl
    · refine V.tsI mX7_count_ok rfl 0 (by decide) (by decide) (by decide) 35 rfl 36 rfl ?_
      refine V.g2 60 [] mX7_count_ok rfl ?_
      exact ⟨_, zsim_rfl _, h _ rfl⟩
    · refine V.tsI mX7_count_ok rfl 1 (by decide) (by decide) (by decide) 40 rfl 41 rfl ?_
      refine V.g2 60 [] mX7_count_ok rfl ?_
      exact ⟨_, zsim_rfl _, h _ rfl⟩
    · refine V.tsI mX7_count_ok rfl 2 (by decide) (by decide) (by decide) 45 rfl 46 rfl ?_
      refine V.g2 60 [] mX7_count_ok rfl ?_
      exact ⟨_, zsim_rfl _, h _ rfl⟩
    · refine V.tsI mX7_count_ok rfl 3 (by decide) (by decide) (by decide) 50 rfl 51 rfl ?_
      refine V.g2 60 [] mX7_count_ok rfl ?_
      exact ⟨_, zsim_rfl _, h _ rfl⟩
    · refine V.tsI mX7_count_ok rfl 4 (by decide) (by decide) (by decide) 55 rfl 56 rfl ?_
      refine V.g2 60 [] mX7_count_ok rfl ?_
      refine V.cw mX7_count_ok rfl lX7_130 (c7_loadOn l) rfl 0 7 rfl rfl rfl rfl rfl rfl ⟨fv, ar, nI 0, 0, by omega, rfl, rfl, rfl, fun r0 h0 => ⟨rfl, ?_⟩⟩
      refine V.g2 60 [] mX7_count_ok rfl ?_
      refine V.cw mX7_count_ok rfl lX7_130 (c7_loadOn l) rfl 0 7 rfl rfl rfl rfl rfl rfl ⟨fv, ar, nI 1, 1, by omega, rfl, rfl, rfl, fun r1 h1 => ⟨rfl, ?_⟩⟩
      refine V.g2 60 [] mX7_count_ok rfl ?_
      refine V.cw mX7_count_ok rfl lX7_130 (c7_loadOn l) rfl 0 7 rfl rfl rfl rfl rfl rfl ⟨fv, ar, nI 2, 2, by omega, rfl, rfl, rfl, fun r2 h2 => ⟨rfl, ?_⟩⟩
      refine V.g2 60 [] mX7_count_ok rfl ?_
      refine V.cw mX7_count_ok rfl lX7_130 (c7_loadOn l) rfl 0 7 rfl rfl rfl rfl rfl rfl ⟨fv, ar, nI 3, 3, by omega, rfl, rfl, rfl, fun r3 h3 => ⟨rfl, ?_⟩⟩
      refine V.g2 60 [] mX7_count_ok rfl ?_
      refine ⟨_, zsim_rfl _, ?_⟩
      refine h _ ?_
      show r0 + r1 + r2 + r3 = (((((((0 + ar 3 0) + ar 3 1) + ar 3 2) + ar 3 3) + ar 3 4) + ar 3 5) + ar 3 6) + ar 3 7
      rw [h0, h1, h2, h3, Int32.zero_add]
      simp only [ldO, Int32.add_assoc, Nat.mul_zero, Nat.zero_add, Nat.mul_one, Nat.reduceMul, Nat.reduceAdd]
  · refine V.tsO mX7_count_ok rfl (by omega) 80 rfl ?_
    refine V.g2 60 [] mX7_count_ok rfl ?_
    refine ⟨_, zsim_rfl _, ?_⟩
    refine h _ ?_
    rw [cntF, if_neg (zout hx 0 (by omega) (by omega)), if_neg (zout hx 1 (by omega) (by omega)), if_neg (zout hx 2 (by omega) (by omega)), if_neg (zout hx 3 (by omega) (by omega)), if_neg (zout hx 4 (by omega) (by omega))]; rfl
def T7_force : zT := fun args hs Q => ∃ (fv : Nat → Int32) (ar : Nat → fI) (x : Int32), args = [.ref 0, .int x] ∧ hs = pM fv ar ∧ (¬ (nI 0 ≤ x ∧ x ≤ fv 17 - nI 1) → Q (some (.int (-2))) hs) ∧ (nI 0 ≤ x ∧ x ≤ fv 17 - nI 1 → Q (some (.int (fv 18))) (pM (upf fv 18 x) ar))
theorem c7_force (l : Launch) : Ct l mX7_force false 2 0 0 T7_force := by
  refine Ct.intro mX7_force_ok ?_
  rintro args hs Q ⟨fv, ar, x, rfl, rfl, h0, h1⟩
  refine ⟨Nat.le_of_ble_eq_true rfl, ?_⟩
  refine V.g2 60 [] mX7_force_ok rfl ?_
  refine V.cs mX7_force_ok rfl lX7_117 (c7_in l) rfl rfl rfl rfl ⟨_, _, _, rfl, fun B hB => ⟨rfl, ?_⟩⟩
  rcases B with _ | _
  · refine V.g2 60 [] mX7_force_ok rfl ?_
    refine And.intro (fun e => absurd rfl e) (fun _ => ?_)
    exact ⟨_, zsim_rfl _, h0 (fun q => by have hB2 : false = (decide (nI 0 ≤ x) && decide (x ≤ fv 17 - nI 1)) := hB; rw [decide_eq_true q.1, decide_eq_true q.2] at hB2; cases hB2)⟩
  · refine V.g2 60 [] mX7_force_ok rfl ?_
    refine And.intro (fun _ => ?_) (fun e => absurd e (by decide))
    exact ⟨_, zsim_rfl _, h1 (by have q := hB.symm; simp only [Bool.and_eq_true, decide_eq_true_eq] at q; exact q)⟩
def T7_wheel : zT := fun args hs Q => ∃ (fv : Nat → Int32) (ar : Nat → fI) (w kd mo : Int32), args = [.ref 0, .int w, .int kd, .int mo] ∧ hs = pM fv ar ∧ (wiB w 3 = false → Q (some (.int (-5))) hs) ∧ (∀ j, j < 4 → w = nI j → ((wiB kd 5 && wiB mo 9) = false → Q (some (.int (-7))) hs) ∧ ((wiB kd 5 && wiB mo 9) = true → Q (some (.int (nI 10 * ar 0 j + ar 1 j))) (pM fv (upa (upa (upa ar 0 (upd (ar 0) j kd)) 1 (upd (ar 1) j mo)) 2 (upd (ar 2) j 0)))))
theorem c7_wheel (l : Launch) : Ct l mX7_wheel false 3 0 0 T7_wheel := by
  refine Ct.intro mX7_wheel_ok ?_
  rintro args hs Q ⟨fv, ar, w, kd, mo, rfl, rfl, h0, h1⟩
  refine ⟨Nat.le_of_ble_eq_true rfl, ?_⟩
  refine V.g2 60 [] mX7_wheel_ok rfl ?_
  refine V.cs mX7_wheel_ok rfl lX7_206 (c7_isWheel l) rfl rfl rfl rfl ⟨_, rfl, fun B hB => ⟨rfl, ?_⟩⟩
  rcases B with _ | _
  · refine V.g2 60 [] mX7_wheel_ok rfl ?_
    refine And.intro (fun e => absurd rfl e) (fun _ => ?_)
    exact ⟨_, zsim_rfl _, h0 hB.symm⟩
  · obtain ⟨j, hj, hw⟩ := wiB_t hB.symm (by omega)
    obtain ⟨h2, h3⟩ := h1 j hj hw
    refine V.g2 60 [] mX7_wheel_ok rfl ?_
    refine And.intro (fun _ => ?_) (fun e => absurd e (by decide))
    refine V.cs mX7_wheel_ok rfl lX7_117 (c7_in l) rfl rfl rfl rfl ⟨_, _, _, rfl, fun B2 hB2 => ⟨rfl, ?_⟩⟩
    rcases B2 with _ | _
    · refine V.g2 60 [] mX7_wheel_ok rfl ?_
      refine And.intro (fun _ => ?_) (fun e => absurd rfl e)
      exact ⟨_, zsim_rfl _, h2 (by rw [show wiB kd 5 = false from hB2.symm]; rfl)⟩
    · refine V.g2 60 [] mX7_wheel_ok rfl ?_
      refine And.intro (fun e => absurd e (by decide)) (fun _ => ?_)
      refine V.cs mX7_wheel_ok rfl lX7_117 (c7_in l) rfl rfl rfl rfl ⟨_, _, _, rfl, fun B3 hB3 => ⟨rfl, ?_⟩⟩
      rcases B3 with _ | _
      · refine V.g2 60 [] mX7_wheel_ok rfl ?_
        refine And.intro (fun e => absurd rfl e) (fun _ => ?_)
        exact ⟨_, zsim_rfl _, h2 (by rw [show wiB mo 9 = false from hB3.symm, Bool.and_false])⟩
      · refine V.g2 60 [] mX7_wheel_ok rfl ?_
        refine And.intro (fun _ => ?_) (fun e => absurd e (by decide))
        refine ⟨j, by omega, hw, rfl, ?_⟩
        refine ⟨j, by omega, hw, rfl, ?_⟩
        refine ⟨j, by omega, hw, rfl, ?_⟩
        refine ⟨j, by omega, hw, rfl, ?_⟩
        refine ⟨j, by omega, hw, rfl, ?_⟩
        exact ⟨_, zsim_rfl _, h3 (by rw [show wiB kd 5 = true from hB2.symm, show wiB mo 9 = true from hB3.symm]; rfl)⟩
theorem isU_cases : ∀ k, k < 6 → (isU k 3 = decide (k = 3)) ∧ (isU k 1 = (decide (k = 1) || decide (k = 3))) ∧ (isU k 2 = (decide (k = 2) || decide (k = 4))) ∧ (isU k 4 = decide (k = 4)) := by decide
def T7_loud : zT := fun args hs Q => ∃ (fv : Nat → Int32) (ar : Nat → fI) (x : Int32) (w : Nat), w < 4 ∧ kOk (cM fv ar) ∧ x = nI w ∧ args = [.ref 0, .int x] ∧ hs = pM fv ar ∧ ∀ r : Int32, r = luF (cM fv ar) w → Q (some (.int r)) hs
theorem c7_loud (l : Launch) : Ct l mX7_loud false 1 0 0 T7_loud := by
  refine Ct.intro mX7_loud_ok ?_
  rintro args hs Q ⟨fv, ar, x, w, hw, hok, hx, rfl, rfl, h⟩
  refine ⟨Nat.le_of_ble_eq_true rfl, ?_⟩
  obtain ⟨hk6, hkd⟩ := hok w hw
  obtain ⟨k, hkk⟩ : ∃ k, k = kw (cM fv ar) w := ⟨_, rfl⟩
  rw [← hkk] at hk6 hkd
  obtain ⟨u3, u1, u2, u4⟩ := isU_cases k hk6
  have E : luF (cM fv ar) w = bif isU k 3 then nI 2 * ar 2 w + ar 1 w else bif isU k 1 then ar 2 w else 0 := by rw [luF, ← hkk]
  have t48 : ∀ (r : Int32), r = luF (cM fv ar) w → V l mX7_loud false (pM fv ar) (zrm 1 0 0) (zFm false (pM fv ar) Q 0 0) 0 0 48 [(0, .ref 0), (1, .int x)] [.int r] (pM fv ar) := by
    intro r hr
    refine V.g2 60 [48] mX7_loud_ok rfl ?_
    exact ⟨_, zsim_rfl _, h _ hr⟩
  refine V.g2 60 [48] mX7_loud_ok rfl ?_
  refine ⟨w, by omega, hx, rfl, ?_⟩
  refine zp_ne k 1 (fun e => ?_) (fun e => ?_) hkd rfl
  · refine ⟨w, by omega, hx, rfl, ?_⟩
    refine zp_ne k 3 (fun e2 => ?_) (fun e2 => ?_) hkd rfl
    · refine V.kn [0, 1] [(0, .ref 0), (1, .int x)] [.int (nI 0)] (pM fv ar) rfl rfl rfl ?_
      exact t48 _ (by rw [E, u3, u1, decide_eq_false e, decide_eq_false e2]; rfl)
    · refine ⟨w, by omega, hx, rfl, ?_⟩
      refine ⟨w, by omega, hx, rfl, ?_⟩
      refine V.kn [0, 1] [(0, .ref 0), (1, .int x)] [.int (((nI 2) * ((ar 2) w)) + ((ar 1) w))] (pM fv ar) rfl rfl rfl ?_
      exact t48 _ (by rw [E, u3, e2]; rfl)
  · refine ⟨w, by omega, hx, rfl, ?_⟩
    refine V.kn [0, 1] [(0, .ref 0), (1, .int x)] [.int ((ar 2) w)] (pM fv ar) rfl rfl rfl ?_
    exact t48 _ (by rw [E, u3, u1, e]; rfl)
def T7_kick : zT := fun args hs Q => ∃ (fv : Nat → Int32) (ar : Nat → fI) (x : Int32), kOk (cM fv ar) ∧ (∀ j, j < 4 → wiB (ar 2 j) 9 = true) ∧ args = [.ref 0, .int x] ∧ hs = pM fv ar ∧ (wiB x 3 = false → Q (some (.int (-5))) hs) ∧ (∀ j, j < 4 → x = nI j → (¬ ar 2 j < nI 9 → Q (some (.int (-3))) hs) ∧ (ar 2 j < nI 9 → Q (some (.int (luF (kiS (cM fv ar) j) j))) (pM fv (upa ar 2 (upd (ar 2) j (ar 2 j + nI 1))))))
theorem c7_kick (l : Launch) : Ct l mX7_kick false 3 0 0 T7_kick := by
  refine Ct.intro mX7_kick_ok ?_
  rintro args hs Q ⟨fv, ar, x, hok, hki, rfl, rfl, h0, h1⟩
  refine ⟨Nat.le_of_ble_eq_true rfl, ?_⟩
  refine V.g2 60 [] mX7_kick_ok rfl ?_
  refine V.cs mX7_kick_ok rfl lX7_206 (c7_isWheel l) rfl rfl rfl rfl ⟨_, rfl, fun B hB => ⟨rfl, ?_⟩⟩
  rcases B with _ | _
  · refine V.g2 60 [] mX7_kick_ok rfl ?_
    refine And.intro (fun e => absurd rfl e) (fun _ => ?_)
    exact ⟨_, zsim_rfl _, h0 hB.symm⟩
  · obtain ⟨w, hw, hx⟩ := wiB_t hB.symm (by omega)
    obtain ⟨h2, h3⟩ := h1 w hw hx
    obtain ⟨i, hi, hki⟩ := wiB_t (hki w hw) (by omega)
    refine V.g2 60 [] mX7_kick_ok rfl ?_
    refine And.intro (fun _ => ?_) (fun e => absurd e (by decide))
    refine ⟨w, by omega, hx, rfl, ?_⟩
    refine zp_ne i 9 (fun e => ?_) (fun e => ?_) hki rfl
    · refine ⟨w, by omega, hx, rfl, ?_⟩
      refine ⟨w, by omega, hx, rfl, ?_⟩
      refine V.cw mX7_kick_ok rfl lX7_213 (c7_loud l) rfl 0 7 rfl rfl rfl rfl rfl rfl ⟨fv, upa ar 2 (upd (ar 2) w (ar 2 w + nI 1)), x, w, hw, hok, hx, rfl, rfl, fun r hr => ⟨rfl, ?_⟩⟩
      refine V.g2 60 [] mX7_kick_ok rfl ?_
      refine ⟨_, zsim_rfl _, ?_⟩
      rw [hr]
      exact h3 (by rw [hki]; exact nI_lt (by omega) (by omega))
    · exact ⟨_, zsim_rfl _, h2 (by rw [hki, e]; decide)⟩
def T7_told : zT := fun args hs Q => ∃ (fv : Nat → Int32) (ar : Nat → fI) (x y : Int32), kOk (cM fv ar) ∧ args = [.ref 0, .int x, .int y] ∧ hs = pM fv ar ∧ (wiB x 3 = false → Q (some (.int (-5))) hs) ∧ (∀ j, j < 4 → x = nI j → Q (some (.int (tldF (cM fv ar) j y))) hs)
theorem c7_told (l : Launch) : Ct l mX7_told false 3 0 0 T7_told := by
  refine Ct.intro mX7_told_ok ?_
  rintro args hs Q ⟨fv, ar, x, y, hok, rfl, rfl, h0, h1⟩
  refine ⟨Nat.le_of_ble_eq_true rfl, ?_⟩
  refine V.g2 60 [] mX7_told_ok rfl ?_
  refine V.cs mX7_told_ok rfl lX7_206 (c7_isWheel l) rfl rfl rfl rfl ⟨_, rfl, fun B hB => ⟨rfl, ?_⟩⟩
  rcases B with _ | _
  · refine V.g2 60 [] mX7_told_ok rfl ?_
    refine And.intro (fun e => absurd rfl e) (fun _ => ?_)
    exact ⟨_, zsim_rfl _, h0 hB.symm⟩
  · obtain ⟨w, hw, hx⟩ := wiB_t hB.symm (by omega)
    have h := h1 w hw hx
    refine V.g2 60 [] mX7_told_ok rfl ?_
    refine And.intro (fun _ => ?_) (fun e => absurd e (by decide))
    rcases zcase y 5 (by omega) with ⟨j, hj, rfl⟩ | hx
    · rcases (show j = 0 ∨ j = 1 ∨ j = 2 ∨ j = 3 ∨ j = 4 by omega) with rfl | rfl | rfl | rfl | rfl
      · refine V.tsI mX7_told_ok rfl 0 (by decide) (by decide) (by decide) 33 rfl 44 rfl ?_
        refine V.g2 60 [] mX7_told_ok rfl ?_
        refine ⟨w, by omega, hx, rfl, ?_⟩
        exact ⟨_, zsim_rfl _, h⟩
      · refine V.tsI mX7_told_ok rfl 1 (by decide) (by decide) (by decide) 40 rfl 51 rfl ?_
        refine V.g2 60 [] mX7_told_ok rfl ?_
        refine ⟨w, by omega, hx, rfl, ?_⟩
        exact ⟨_, zsim_rfl _, h⟩
      · refine V.tsI mX7_told_ok rfl 2 (by decide) (by decide) (by decide) 47 rfl 58 rfl ?_
        refine V.g2 60 [] mX7_told_ok rfl ?_
        refine ⟨w, by omega, hx, rfl, ?_⟩
        exact ⟨_, zsim_rfl _, h⟩
      · refine V.tsI mX7_told_ok rfl 3 (by decide) (by decide) (by decide) 54 rfl 65 rfl ?_
        refine V.g2 60 [] mX7_told_ok rfl ?_
        refine V.cw mX7_told_ok rfl lX7_213 (c7_loud l) rfl 0 7 rfl rfl rfl rfl rfl rfl ⟨fv, ar, x, w, hw, hok, hx, rfl, rfl, fun r hr => ⟨rfl, ?_⟩⟩
        refine V.g2 60 [] mX7_told_ok rfl ?_
        refine ⟨_, zsim_rfl _, ?_⟩
        rw [hr]; exact h
      · refine V.tsI mX7_told_ok rfl 4 (by decide) (by decide) (by decide) 60 rfl 71 rfl ?_
        refine V.g2 60 [] mX7_told_ok rfl ?_
        refine V.cw mX7_told_ok rfl lX7_130 (c7_loadOn l) rfl 0 7 rfl rfl rfl rfl rfl rfl ⟨fv, ar, x, w, hw, hx, rfl, rfl, fun r hr => ⟨rfl, ?_⟩⟩
        refine V.g2 60 [] mX7_told_ok rfl ?_
        refine ⟨_, zsim_rfl _, ?_⟩
        rw [hr]; exact h
    · refine V.tsO mX7_told_ok rfl (by omega) 77 rfl ?_
      refine V.g2 60 [] mX7_told_ok rfl ?_
      rw [tldF, if_neg (zout hx 0 (by omega) (by omega)), if_neg (zout hx 1 (by omega) (by omega)), if_neg (zout hx 2 (by omega) (by omega)), if_neg (zout hx 3 (by omega) (by omega)), if_neg (zout hx 4 (by omega) (by omega))] at h
      exact ⟨_, zsim_rfl _, h⟩
def isOfB (j : Nat) (o : Int32) : Bool := if j = 0 then wiB o 7 else if j = 4 then wiB o 29 else true
def T7_isOf : zT := fun args hs Q => ∃ (x o : Int32) (j : Nat), j < 5 ∧ x = nI j ∧ args = [.int x, .int o] ∧ ∀ B : Bool, B = isOfB j o → Q (some (.int (bI B))) hs
theorem c7_isOf (l : Launch) : Ct l mX7_isOf false 3 0 0 T7_isOf := by
  refine Ct.intro mX7_isOf_ok ?_
  rintro args hs Q ⟨x, o, j, hj, hx, rfl, h⟩
  refine ⟨Nat.le_of_ble_eq_true rfl, ?_⟩
  refine V.g2 60 [31] mX7_isOf_ok rfl ?_
  refine zp_ne j 0 (fun e => ?_) (fun e => ?_) hx rfl
  · refine zp_ne j 4 (fun e2 => ?_) (fun e2 => ?_) hx rfl
    · refine V.g2 60 [31] mX7_isOf_ok rfl ?_
      refine And.intro (Or.inr rfl) ?_
      exact ⟨_, zsim_rfl _, h true (by rw [isOfB, if_neg e, if_neg e2])⟩
    · refine V.cs mX7_isOf_ok rfl lX7_203 (c7_isTenth l) rfl rfl rfl rfl ⟨_, rfl, fun B hB => ⟨rfl, ?_⟩⟩
      rcases B with _ | _
      · refine V.g2 60 [31] mX7_isOf_ok rfl ?_
        refine And.intro (fun _ => ?_) (fun e => absurd rfl e)
        refine V.g2 60 [31] mX7_isOf_ok rfl ?_
        refine And.intro (Or.inl rfl) ?_
        exact ⟨_, zsim_rfl _, h false (by rw [isOfB, if_neg e, if_pos e2]; exact hB)⟩
      · refine V.g2 60 [31] mX7_isOf_ok rfl ?_
        refine And.intro (fun e => absurd e (by decide)) (fun _ => ?_)
        refine V.g2 60 [31] mX7_isOf_ok rfl ?_
        refine And.intro (Or.inr rfl) ?_
        exact ⟨_, zsim_rfl _, h true (by rw [isOfB, if_neg e, if_pos e2]; exact hB)⟩
  · refine V.cs mX7_isOf_ok rfl lX7_117 (c7_in l) rfl rfl rfl rfl ⟨_, _, _, rfl, fun B hB => ⟨rfl, ?_⟩⟩
    refine V.g2 60 [31] mX7_isOf_ok rfl ?_
    refine V.g2 60 [31] mX7_isOf_ok rfl ?_
    refine And.intro (bI_01 _) ?_
    exact ⟨_, zsim_rfl _, h B (by rw [isOfB, if_pos e]; exact hB)⟩
def T7_held0 : zT := fun args hs Q => ∃ (fv : Nat → Int32) (ar : Nat → fI) (x o : Int32) (j : Nat), j < 5 ∧ x = nI j ∧ isOfB j o = true ∧ args = [.ref 0, .int x, .int o] ∧ hs = pM fv ar ∧ ∀ r : Int32, r = lkF (cM fv ar) x o → Q (some (.int r)) hs
theorem c7_held0 (l : Launch) : Ct l mX7_held0 false 1 0 0 T7_held0 := by
  refine Ct.intro mX7_held0_ok ?_
  rintro args hs Q ⟨fv, ar, x, o, j, hj, hx, hof, rfl, rfl, h⟩
  refine ⟨Nat.le_of_ble_eq_true rfl, ?_⟩
  subst hx
  rcases (show j = 0 ∨ j = 1 ∨ j = 2 ∨ j = 3 ∨ j = 4 by omega) with rfl | rfl | rfl | rfl | rfl
  · have ho : wiB o 7 = true := hof
    obtain ⟨i, hi, ho2⟩ := wiB_t ho (by omega)
    refine V.g2 60 [] mX7_held0_ok rfl ?_
    refine V.tsI mX7_held0_ok rfl 0 (by decide) (by decide) (by decide) 31 rfl 32 rfl ?_
    refine V.g2 60 [] mX7_held0_ok rfl ?_
    refine ⟨i, by omega, ho2, rfl, ?_⟩
    exact ⟨_, zsim_rfl _, h _ (by rw [lkF, if_pos rfl, ho]; show _ = ar 3 (cl o); rw [show cl o = i from pk_cl i ho2])⟩
  · refine V.g2 60 [] mX7_held0_ok rfl ?_
    refine V.tsI mX7_held0_ok rfl 1 (by decide) (by decide) (by decide) 38 rfl 39 rfl ?_
    refine V.g2 60 [] mX7_held0_ok rfl ?_
    refine ⟨(1 - 1), by omega, (nsub (by omega) rfl rfl), rfl, ?_⟩
    exact ⟨_, zsim_rfl _, h _ rfl⟩
  · refine V.g2 60 [] mX7_held0_ok rfl ?_
    refine V.tsI mX7_held0_ok rfl 2 (by decide) (by decide) (by decide) 38 rfl 39 rfl ?_
    refine V.g2 60 [] mX7_held0_ok rfl ?_
    refine ⟨(2 - 1), by omega, (nsub (by omega) rfl rfl), rfl, ?_⟩
    exact ⟨_, zsim_rfl _, h _ rfl⟩
  · refine V.g2 60 [] mX7_held0_ok rfl ?_
    refine V.tsI mX7_held0_ok rfl 3 (by decide) (by decide) (by decide) 47 rfl 48 rfl ?_
    refine V.g2 60 [] mX7_held0_ok rfl ?_
    exact ⟨_, zsim_rfl _, h _ rfl⟩
  · have ho : wiB o 29 = true := hof
    obtain ⟨i, hi, ho2⟩ := wiB_t ho (by omega)
    refine V.g2 60 [] mX7_held0_ok rfl ?_
    refine V.tsO mX7_held0_ok rfl (Or.inr (by decide)) 53 rfl ?_
    refine V.g2 60 [] mX7_held0_ok rfl ?_
    refine ⟨i, by omega, ho2, rfl, ?_⟩
    exact ⟨_, zsim_rfl _, h _ (by rw [lkF, if_neg (by decide), if_neg (by decide), if_neg (by decide), if_neg (by decide), if_pos rfl, ho]; show _ = ar 6 (cl o); rw [show cl o = i from pk_cl i ho2])⟩
theorem lkF_of {c : zCart} {j : Nat} {o : Int32} (hj : j < 5) (h : isOfB j o = false) : lkF c (nI j) o = -6 := by
  rcases (show j = 0 ∨ j = 1 ∨ j = 2 ∨ j = 3 ∨ j = 4 by omega) with rfl | rfl | rfl | rfl | rfl
  · have : wiB o 7 = false := h
    rw [lkF, if_pos rfl, this]; rfl
  · cases h
  · cases h
  · cases h
  · have : wiB o 29 = false := h
    rw [lkF, if_neg (by decide), if_neg (by decide), if_neg (by decide), if_neg (by decide), if_pos rfl, this]; rfl
theorem lkF_out {c : zCart} {x o : Int32} (h : wiB x 4 = false) : lkF c x o = -5 := by
  have k : ∀ j, j < 5 → ¬ x = nI j := fun j hj e => by rw [e, wiB_n (j := j) (n := 4) (by omega) (by omega)] at h; cases h
  rw [lkF, if_neg (k 0 (by omega)), if_neg (k 1 (by omega)), if_neg (k 2 (by omega)), if_neg (k 3 (by omega)), if_neg (k 4 (by omega))]
def T7_look : zT := fun args hs Q => ∃ (fv : Nat → Int32) (ar : Nat → fI) (x o : Int32), args = [.ref 0, .int x, .int o] ∧ hs = pM fv ar ∧ ∀ r : Int32, r = lkF (cM fv ar) x o → Q (some (.int r)) hs
theorem c7_look (l : Launch) : Ct l mX7_look false 4 0 0 T7_look := by
  refine Ct.intro mX7_look_ok ?_
  rintro args hs Q ⟨fv, ar, x, o, rfl, rfl, h⟩
  refine ⟨Nat.le_of_ble_eq_true rfl, ?_⟩
  refine V.g2 60 [31] mX7_look_ok rfl ?_
  refine V.cs mX7_look_ok rfl lX7_117 (c7_in l) rfl rfl rfl rfl ⟨_, _, _, rfl, fun B hB => ⟨rfl, ?_⟩⟩
  rcases B with _ | _
  · refine V.g2 60 [31] mX7_look_ok rfl ?_
    refine And.intro (fun e => absurd rfl e) (fun _ => ?_)
    exact ⟨_, zsim_rfl _, h _ (lkF_out hB.symm).symm⟩
  · obtain ⟨j, hj, hx⟩ := wiB_t (n := 4) hB.symm (by omega)
    refine V.g2 60 [31] mX7_look_ok rfl ?_
    refine And.intro (fun _ => ?_) (fun e => absurd e (by decide))
    refine V.cs mX7_look_ok rfl lX7_216 (c7_isOf l) rfl rfl rfl rfl ⟨_, _, j, hj, hx, rfl, fun B2 hB2 => ⟨rfl, ?_⟩⟩
    rcases B2 with _ | _
    · refine V.g2 60 [31] mX7_look_ok rfl ?_
      refine And.intro (fun _ => ?_) (fun e => absurd rfl e)
      refine V.g2 60 [31] mX7_look_ok rfl ?_
      exact ⟨_, zsim_rfl _, h _ (by rw [hx, lkF_of hj hB2.symm]; rfl)⟩
    · refine V.g2 60 [31] mX7_look_ok rfl ?_
      refine And.intro (fun e => absurd e (by decide)) (fun _ => ?_)
      refine V.cw mX7_look_ok rfl lX7_220 (c7_held0 l) rfl 0 7 rfl rfl rfl rfl rfl rfl ⟨fv, ar, x, o, j, hj, hx, hB2.symm, rfl, rfl, fun r hr => ⟨rfl, ?_⟩⟩
      refine V.g2 60 [31] mX7_look_ok rfl ?_
      refine V.g2 60 [31] mX7_look_ok rfl ?_
      exact ⟨_, zsim_rfl _, h _ hr⟩
def T7_set : zT := fun args hs Q => ∃ (fv : Nat → Int32) (ar : Nat → fI) (x o v : Int32), (∀ j, j < 5 → x = nI j → isOfB j o = true → ¬ lkF (cM fv ar) x o < 0) ∧ args = [.ref 0, .int x, .int o, .int v] ∧ hs = pM fv ar ∧ (lkF (cM fv ar) x o < 0 → Q (some (.int (lkF (cM fv ar) x o))) hs) ∧ (∀ j, j < 5 → x = nI j → ¬ lkF (cM fv ar) x o < 0 → (vOkB j v = false → Q (some (.int (-7))) hs) ∧ (vOkB j v = true → ∀ fv2 ar2, (∀ k, k ≠ 5 → fv2 k = fv k) → (∀ k, k ≠ 3 → k ≠ 4 → k ≠ 6 → ar2 k = ar k) → cM fv2 ar2 = stS (cM fv ar) j o v → Q (some (.int (lkF (cM fv ar) x o))) (pM fv2 ar2)))
theorem c7_set (l : Launch) : Ct l mX7_set false 4 0 0 T7_set := by
  refine Ct.intro mX7_set_ok ?_
  rintro args hs Q ⟨fv, ar, x, o, v, hnn, rfl, rfl, h0, h1⟩
  refine ⟨Nat.le_of_ble_eq_true rfl, ?_⟩
  refine V.g2 60 [74, 161] mX7_set_ok rfl ?_
  refine V.cs mX7_set_ok rfl lX7_117 (c7_in l) rfl rfl rfl rfl ⟨_, _, _, rfl, fun B hB => ⟨rfl, ?_⟩⟩
  rcases B with _ | _
  · refine V.g2 60 [74, 161] mX7_set_ok rfl ?_
    refine And.intro (fun e => absurd rfl e) (fun _ => ?_)
    exact ⟨_, zsim_rfl _, (by have q := lkF_out (c := cM fv ar) (o := o) hB.symm; rw [q] at h0; exact h0 (by decide))⟩
  · obtain ⟨j, hj, hx⟩ := wiB_t (n := 4) hB.symm (by omega)
    refine V.g2 60 [74, 161] mX7_set_ok rfl ?_
    refine And.intro (fun _ => ?_) (fun e => absurd e (by decide))
    refine V.cs mX7_set_ok rfl lX7_216 (c7_isOf l) rfl rfl rfl rfl ⟨_, _, j, hj, hx, rfl, fun B2 hB2 => ⟨rfl, ?_⟩⟩
    rcases B2 with _ | _
    · refine V.g2 60 [74, 161] mX7_set_ok rfl ?_
      refine And.intro (fun e => absurd rfl e) (fun _ => ?_)
      exact ⟨_, zsim_rfl _, (by have q := lkF_of (c := cM fv ar) hj hB2.symm; rw [← hx] at q; rw [q] at h0; exact h0 (by decide))⟩
    · obtain ⟨h2, h3⟩ := h1 j hj hx (hnn j hj hx hB2.symm)
      have t74 : ∀ (B : Bool), B = vOkB j v → V l mX7_set false (pM fv ar) (zrm 4 0 0) (zFm false (pM fv ar) Q 0 0) 0 0 74 [(0, .ref 0), (1, .int x), (2, .int o), (3, .int v)] [.int (bI B)] (pM fv ar) := by
        intro B hB3
        rcases B with _ | _
        · refine V.g2 60 [74, 161] mX7_set_ok rfl ?_
          refine And.intro (fun e => absurd rfl e) (fun _ => ?_)
          exact ⟨_, zsim_rfl _, h2 hB3.symm⟩
        · refine V.g2 60 [74, 161] mX7_set_ok rfl ?_
          refine And.intro (fun _ => ?_) (fun e => absurd e (by decide))
          refine V.cw mX7_set_ok rfl lX7_220 (c7_held0 l) rfl 0 7 rfl rfl rfl rfl rfl rfl ⟨fv, ar, x, o, j, hj, hx, hB2.symm, rfl, rfl, fun r hr => ⟨rfl, ?_⟩⟩
          subst hx
          have h4 := h3 hB3.symm
          rw [← hr] at h4
          rcases (show j = 0 ∨ j = 1 ∨ j = 2 ∨ j = 3 ∨ j = 4 by omega) with rfl | rfl | rfl | rfl | rfl
          · have ho : wiB o 7 = true := hB2.symm
            obtain ⟨i, hi, ho2⟩ := wiB_t ho (by omega)
            refine V.g2 60 [74, 161] mX7_set_ok rfl ?_
            refine V.tsI mX7_set_ok rfl 0 (by decide) (by decide) (by decide) 31 rfl 124 rfl ?_
            refine V.g2 60 [74, 161] mX7_set_ok rfl ?_
            refine ⟨i, by omega, ho2, rfl, ?_⟩
            refine V.g2 60 [74, 161] mX7_set_ok rfl ?_
            refine ⟨_, zsim_rfl _, ?_⟩
            have ecl : cl o = i := pk_cl i ho2
            exact h4 fv (upa ar 3 (upd (ar 3) i v)) (fun k hk => rfl) (fun k h3 h4 h6 => by unfold upa; cases hq : Nat.beq k 3 with | false => rfl | true => exact absurd (Nat.eq_of_beq_eq_true hq) h3) (by show _ = stS (cM fv ar) 0 o v; unfold stS; rw [ecl]; rfl)
          · refine V.g2 60 [74, 161] mX7_set_ok rfl ?_
            refine V.tsI mX7_set_ok rfl 1 (by decide) (by decide) (by decide) 41 rfl 134 rfl ?_
            refine V.g2 60 [74, 161] mX7_set_ok rfl ?_
            refine ⟨(1 - 1), by omega, (nsub (by omega) rfl rfl), rfl, ?_⟩
            refine V.g2 60 [74, 161] mX7_set_ok rfl ?_
            refine ⟨_, zsim_rfl _, ?_⟩
            exact h4 fv (upa ar 4 (upd (ar 4) (1 - 1) v)) (fun k hk => rfl) (fun k h3 h4 h6 => by unfold upa; cases hq : Nat.beq k 4 with | false => rfl | true => exact absurd (Nat.eq_of_beq_eq_true hq) h4) (rfl)
          · refine V.g2 60 [74, 161] mX7_set_ok rfl ?_
            refine V.tsI mX7_set_ok rfl 2 (by decide) (by decide) (by decide) 41 rfl 134 rfl ?_
            refine V.g2 60 [74, 161] mX7_set_ok rfl ?_
            refine ⟨(2 - 1), by omega, (nsub (by omega) rfl rfl), rfl, ?_⟩
            refine V.g2 60 [74, 161] mX7_set_ok rfl ?_
            refine ⟨_, zsim_rfl _, ?_⟩
            exact h4 fv (upa ar 4 (upd (ar 4) (2 - 1) v)) (fun k hk => rfl) (fun k h3 h4 h6 => by unfold upa; cases hq : Nat.beq k 4 with | false => rfl | true => exact absurd (Nat.eq_of_beq_eq_true hq) h4) (rfl)
          · refine V.g2 60 [74, 161] mX7_set_ok rfl ?_
            refine V.tsI mX7_set_ok rfl 3 (by decide) (by decide) (by decide) 53 rfl 146 rfl ?_
            refine V.g2 60 [74, 161] mX7_set_ok rfl ?_
            refine V.g2 60 [74, 161] mX7_set_ok rfl ?_
            refine ⟨_, zsim_rfl _, ?_⟩
            exact h4 (upf fv 5 v) ar (fun k hk => by unfold upf; cases hq : Nat.beq k 5 with | false => rfl | true => exact absurd (Nat.eq_of_beq_eq_true hq) hk) (fun k h3 h4 h6 => rfl) (rfl)
          · have ho : wiB o 29 = true := hB2.symm
            obtain ⟨i, hi, ho2⟩ := wiB_t ho (by omega)
            refine V.g2 60 [74, 161] mX7_set_ok rfl ?_
            refine V.tsO mX7_set_ok rfl (Or.inr (by decide)) 154 rfl ?_
            refine V.g2 60 [74, 161] mX7_set_ok rfl ?_
            refine ⟨i, by omega, ho2, rfl, ?_⟩
            refine V.g2 60 [74, 161] mX7_set_ok rfl ?_
            refine ⟨_, zsim_rfl _, ?_⟩
            have ecl : cl o = i := pk_cl i ho2
            exact h4 fv (upa ar 6 (upd (ar 6) i v)) (fun k hk => rfl) (fun k h3 h4 h6 => by unfold upa; cases hq : Nat.beq k 6 with | false => rfl | true => exact absurd (Nat.eq_of_beq_eq_true hq) h6) (by show _ = stS (cM fv ar) 4 o v; unfold stS; rw [ecl]; rfl)
      refine V.g2 60 [74, 161] mX7_set_ok rfl ?_
      refine And.intro (fun _ => ?_) (fun e => absurd e (by decide))
      refine zp_ne j 0 (fun e => ?_) (fun e => ?_) hx rfl
      · refine pk_le 3 j (fun e2 => ?_) (fun e2 => ?_) rfl hx
        · refine zp_ne j 3 (fun e3 => ?_) (fun e3 => ?_) hx rfl
          · refine V.cs mX7_set_ok rfl lX7_117 (c7_in l) rfl rfl rfl rfl ⟨_, _, _, rfl, fun B hB => ⟨rfl, ?_⟩⟩
            refine V.kn [0, 1, 2, 3] [(0, .ref 0), (1, .int x), (2, .int o), (3, .int v)] [.int (bI B)] (pM fv ar) rfl rfl rfl ?_
            exact t74 _ (by obtain rfl : j = 4 := (by omega); exact hB)
          · refine V.cs mX7_set_ok rfl lX7_117 (c7_in l) rfl rfl rfl rfl ⟨_, _, _, rfl, fun B hB => ⟨rfl, ?_⟩⟩
            refine V.g2 60 [74, 161] mX7_set_ok rfl ?_
            refine V.kn [0, 1, 2, 3] [(0, .ref 0), (1, .int x), (2, .int o), (3, .int v)] [.int (bI B)] (pM fv ar) rfl rfl rfl ?_
            exact t74 _ (by subst e3; exact hB)
        · refine V.cs mX7_set_ok rfl lX7_117 (c7_in l) rfl rfl rfl rfl ⟨_, _, _, rfl, fun B hB => ⟨rfl, ?_⟩⟩
          refine V.g2 60 [74, 161] mX7_set_ok rfl ?_
          refine V.kn [0, 1, 2, 3] [(0, .ref 0), (1, .int x), (2, .int o), (3, .int v)] [.int (bI B)] (pM fv ar) rfl rfl rfl ?_
          exact t74 _ (by rcases (show j = 1 ∨ j = 2 by omega) with rfl | rfl <;> exact hB)
      · refine V.cs mX7_set_ok rfl lX7_117 (c7_in l) rfl rfl rfl rfl ⟨_, _, _, rfl, fun B hB => ⟨rfl, ?_⟩⟩
        refine V.g2 60 [74, 161] mX7_set_ok rfl ?_
        refine V.kn [0, 1, 2, 3] [(0, .ref 0), (1, .int x), (2, .int o), (3, .int v)] [.int (bI B)] (pM fv ar) rfl rfl rfl ?_
        exact t74 _ (by subst e; exact hB)
