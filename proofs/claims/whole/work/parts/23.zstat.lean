/-! ===== static words of the class: within, its kin, bounded, gcd ===== -/
def wiB (x : Int32) (n : Nat) : Bool := decide (0 ≤ x) && decide (x ≤ nI n)
theorem wiB_t {x : Int32} {n : Nat} (h : wiB x n = true) (hn : n < 2 ^ 31 - 1) : ∃ j, j < n + 1 ∧ x = nI j := by
  simp only [wiB, Bool.and_eq_true, decide_eq_true_eq] at h
  obtain ⟨j, hj, rfl⟩ := nI_of (Int32.not_lt.mpr h.1)
  exact ⟨j, by have := (nI_leI hj (by omega)).mp h.2; omega, rfl⟩
theorem wiB_n {j n : Nat} (h : j ≤ n) (hn : n < 2 ^ 31) : wiB (nI j) n = true := by
  simp only [wiB, Bool.and_eq_true, decide_eq_true_eq]
  exact ⟨nI_pos' (by omega), nI_le h hn⟩
/-- v is within 0 .. n -/
def T_wi (n : Nat) : zT := fun args hs Q => ∃ v : Int32, args = [.int v] ∧ Q (some (.int (bI (wiB v n)))) hs
theorem T_within_use {v a b : Int32} {hs : List zE} {r : Bool} (h : r = (decide (a ≤ v) && decide (v ≤ b))) : T_within [.int v, .int a, .int b] hs (fun v hs' => v = some (.int (bI r)) ∧ hs' = hs) := by
  refine ⟨v, a, b, rfl, fun h1 h2 => ⟨?_, rfl⟩, fun h1 => ⟨?_, rfl⟩⟩
  · rw [h, decide_eq_true h1, decide_eq_true h2]
    rfl
  · rw [h]
    have : (decide (a ≤ v) && decide (v ≤ b)) = false := by
      cases hb : (decide (a ≤ v) && decide (v ≤ b)) with
      | false => rfl
      | true =>
        simp only [Bool.and_eq_true, decide_eq_true_eq] at hb
        exact absurd hb h1
    rw [this]
    rfl
theorem bI_01 (b : Bool) : bI b = 0 ∨ bI b = 1 := by cases b <;> simp [bI]
theorem ct_isByte (l : Launch) : Ct l mX6_isByte false 2 0 0 (T_wi 255) := by
  refine Ct.intro mX6_isByte_ok ?_
  rintro args hs Q ⟨v, rfl, h⟩
  refine ⟨Nat.le_of_ble_eq_true rfl, ?_⟩
  refine V.g 30 [] mX6_isByte_ok rfl ?_
  refine V.cS0 mX6_isByte_ok rfl lX6_114 (ct_within l) rfl [.int v, .int (nI 0), .int (nI 255)] [] rfl rfl rfl (some (.int (bI (wiB v 255)))) (T_within_use rfl) ?_
  refine V.g 30 [] mX6_isByte_ok rfl ?_
  exact And.intro (bI_01 _) ⟨_, zsim_rfl _, h⟩
theorem ct_isWheel (l : Launch) : Ct l mX6_isWheel false 2 0 0 (T_wi 3) := by
  refine Ct.intro mX6_isWheel_ok ?_
  rintro args hs Q ⟨v, rfl, h⟩
  refine ⟨Nat.le_of_ble_eq_true rfl, ?_⟩
  refine V.g 30 [] mX6_isWheel_ok rfl ?_
  refine V.cS0 mX6_isWheel_ok rfl lX6_114 (ct_within l) rfl [.int v, .int (nI 0), .int (nI 3)] [] rfl rfl rfl (some (.int (bI (wiB v 3)))) (T_within_use rfl) ?_
  refine V.g 30 [] mX6_isWheel_ok rfl ?_
  exact And.intro (bI_01 _) ⟨_, zsim_rfl _, h⟩
theorem ct_isPlace (l : Launch) : Ct l mX6_isPlace false 2 0 0 (T_wi 7) := by
  refine Ct.intro mX6_isPlace_ok ?_
  rintro args hs Q ⟨v, rfl, h⟩
  refine ⟨Nat.le_of_ble_eq_true rfl, ?_⟩
  refine V.g 30 [] mX6_isPlace_ok rfl ?_
  refine V.cS0 mX6_isPlace_ok rfl lX6_114 (ct_within l) rfl [.int v, .int (nI 0), .int (nI 7)] [] rfl rfl rfl (some (.int (bI (wiB v 7)))) (T_within_use rfl) ?_
  refine V.g 30 [] mX6_isPlace_ok rfl ?_
  exact And.intro (bI_01 _) ⟨_, zsim_rfl _, h⟩
theorem ct_isTenth (l : Launch) : Ct l mX6_isTenth false 2 0 0 (T_wi 29) := by
  refine Ct.intro mX6_isTenth_ok ?_
  rintro args hs Q ⟨v, rfl, h⟩
  refine ⟨Nat.le_of_ble_eq_true rfl, ?_⟩
  refine V.g 30 [] mX6_isTenth_ok rfl ?_
  refine V.cS0 mX6_isTenth_ok rfl lX6_114 (ct_within l) rfl [.int v, .int (nI 0), .int (nI 29)] [] rfl rfl rfl (some (.int (bI (wiB v 29)))) (T_within_use rfl) ?_
  refine V.g 30 [] mX6_isTenth_ok rfl ?_
  exact And.intro (bI_01 _) ⟨_, zsim_rfl _, h⟩
theorem ct_isSheet (l : Launch) : Ct l mX6_isSheet false 2 0 0 (T_wi 3) := by
  refine Ct.intro mX6_isSheet_ok ?_
  rintro args hs Q ⟨v, rfl, h⟩
  refine ⟨Nat.le_of_ble_eq_true rfl, ?_⟩
  refine V.g 30 [] mX6_isSheet_ok rfl ?_
  refine V.cS0 mX6_isSheet_ok rfl lX6_114 (ct_within l) rfl [.int v, .int (nI 0), .int (nI 3)] [] rfl rfl rfl (some (.int (bI (wiB v 3)))) (T_within_use rfl) ?_
  refine V.g 30 [] mX6_isSheet_ok rfl ?_
  exact And.intro (bI_01 _) ⟨_, zsim_rfl _, h⟩
theorem ct_isGuests (l : Launch) : Ct l mX6_isGuests false 2 0 0 (T_wi 24) := by
  refine Ct.intro mX6_isGuests_ok ?_
  rintro args hs Q ⟨v, rfl, h⟩
  refine ⟨Nat.le_of_ble_eq_true rfl, ?_⟩
  refine V.g 30 [] mX6_isGuests_ok rfl ?_
  refine V.cS0 mX6_isGuests_ok rfl lX6_114 (ct_within l) rfl [.int v, .int (nI 0), .int (nI 24)] [] rfl rfl rfl (some (.int (bI (wiB v 24)))) (T_within_use rfl) ?_
  refine V.g 30 [] mX6_isGuests_ok rfl ?_
  exact And.intro (bI_01 _) ⟨_, zsim_rfl _, h⟩
def bdF (v a b : Int32) : Int32 := if a < (if v < b then v else b) then (if v < b then v else b) else a
def T_bounded : zT := fun args hs Q => ∃ v a b : Int32, args = [.int v, .int a, .int b] ∧ Q (some (.int (bdF v a b))) hs
theorem ct_bounded (l : Launch) : Ct l mX6_bounded false 2 0 0 T_bounded := by
  refine Ct.intro mX6_bounded_ok ?_
  rintro args hs Q ⟨v, a, b, rfl, h⟩
  refine ⟨Nat.le_of_ble_eq_true rfl, ?_⟩
  refine V.g 30 [] mX6_bounded_ok rfl ?_
  refine V.mmin mX6_bounded_ok rfl lX6_357 rfl rfl ?_
  refine V.mmax mX6_bounded_ok rfl lX6_362 rfl rfl ?_
  refine V.g 30 [] mX6_bounded_ok rfl ?_
  exact ⟨_, zsim_rfl _, h⟩
