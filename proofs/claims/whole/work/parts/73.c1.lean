/-! ===== the class: commonDivisor (100 steps are enough) ===== -/
theorem gcd_h {u v k : Nat} (h1 : v < u) (h2 : u * v * 2 ^ k < 2 ^ 62) (h0 : 0 < v) : u % v < v ∧ v * (u % v) * 2 ^ (k + 1) < 2 ^ 62 := by
  have hw := Nat.mod_lt u h0
  have hd := Nat.div_add_mod u v
  have hq : 1 ≤ u / v := Nat.div_pos (Nat.le_of_lt h1) h0
  have hm : v * 1 ≤ v * (u / v) := Nat.mul_le_mul_left v hq
  have h2w : 2 * (u % v) ≤ u := by omega
  refine ⟨hw, Nat.lt_of_le_of_lt ?_ h2⟩
  have e : v * (u % v) * 2 ^ (k + 1) = v * (2 * (u % v)) * 2 ^ k := by
    rw [Nat.pow_succ, Nat.mul_left_comm v 2, Nat.mul_comm (2 ^ k) 2, ← Nat.mul_assoc, Nat.mul_comm (v * (u % v)) 2]
  rw [e, Nat.mul_comm u v]
  exact Nat.mul_le_mul_right _ (Nat.mul_le_mul_left v h2w)
theorem gcd_z {u v : Nat} (h1 : v < u) (h2 : u * v * 2 ^ 99 < 2 ^ 62) : v = 0 := by
  rcases Nat.eq_zero_or_pos v with h | h
  · exact h
  · have : 1 ≤ u * v := Nat.mul_pos (by omega) h
    have := Nat.mul_le_mul_right (2 ^ 99) this
    have h9 : (2 : Nat) ^ 62 ≤ 1 * 2 ^ 99 := by decide
    omega
def T7_commonDivisor : zT := fun args hs Q => ∃ (x y : Int32) (a b : Nat), x = nI a ∧ y = nI b ∧ a < 2 ^ 31 ∧ b < 2 ^ 31 ∧ args = [.int x, .int y] ∧ ∀ r : Int32, r = nI (Nat.gcd a b) → Q (some (.int r)) hs
theorem c7_commonDivisor (l : Launch) : Ct l mX6_commonDivisor false 1 0 0 T7_commonDivisor := by
  refine Ct.intro mX6_commonDivisor_ok ?_
  rintro args hs Q ⟨x, y, a, b, hx, hy, ha, hb, rfl, h⟩
  refine ⟨Nat.le_of_ble_eq_true rfl, ?_⟩
  have loop : ∀ (m i u v : Nat) (x4 x3 x2 : Int32), i + m = 100 → x4 = nI i → x3 = nI v → x2 = nI u → u < 2 ^ 31 → v < 2 ^ 31 → Nat.gcd u v = Nat.gcd a b → (i = 0 ∨ (v < u ∧ u * v * 2 ^ (i - 1) < 2 ^ 62)) → V l mX6_commonDivisor false hs (zrm 1 0 0) (zFm false hs Q 0 0) 0 0 7 [(4, .int x4), (3, .int x3), (2, .int x2), (0, .int x), (1, .int y)] [] (hs) := by
    intro m
    induction m with
    | zero =>
      intro i u v x4 x3 x2 hi h4 h3 h2 hu hv hg hd
      have ei : i = 100 := by omega
      rw [ei] at hd
      have hv0 : v = 0 := by
        rcases hd with hd | ⟨d1, d2⟩
        · omega
        · exact gcd_z d1 d2
      refine V.g2 60 [7, 34] mX6_commonDivisor_ok rfl ?_
      refine pk_le 100 i (fun e1 => ?_) (fun e1 => absurd e1 (by omega)) rfl h4
      rw [hv0, Nat.gcd_zero_right] at hg
      refine V.g2 60 [7, 34] mX6_commonDivisor_ok rfl ?_
      exact ⟨_, zsim_rfl _, h _ (by rw [h2, hg])⟩
    | succ m ih =>
      intro i u v x4 x3 x2 hi h4 h3 h2 hu hv hg hd
      refine V.g2 60 [7, 34] mX6_commonDivisor_ok rfl ?_
      refine pk_le 100 i (fun e1 => absurd e1 (by omega)) (fun e1 => ?_) rfl h4
      refine pk_eq v 0 (fun e2 => ?_) (fun e2 => ?_) h3 rfl
      · have hv0 : v = 0 := by omega
        rw [hv0, Nat.gcd_zero_right] at hg
        refine V.g2 60 [7, 34] mX6_commonDivisor_ok rfl ?_
        exact ⟨_, zsim_rfl _, h _ (by rw [h2, hg])⟩
      · have hv1 : 0 < v := by omega
        have hm := Nat.mod_lt u hv1
        refine And.intro (show ¬ x3 = 0 from by rw [h3]; exact fun z => absurd ((nI_eq hv (show 0 < 2 ^ 31 by omega)).mp z) (by omega)) ?_
        refine V.kn [4, 3, 2, 0, 1] [(4, .int (x4 + zi 1)), (3, .int (x2 - x2 / x3 * x3)), (2, .int x3), (0, .int x), (1, .int y)] [] (hs) rfl rfl rfl ?_
        refine ih (i + 1) v (u % v) _ _ _ (by omega) (ninc h4) (nrem h2 h3 (by omega) (by omega) (by omega)) h3 hv (by omega) (by rw [← hg]; exact gcd_st.symm) (Or.inr ?_)
        rcases hd with e0 | ⟨d1, d2⟩
        · subst e0
          refine ⟨hm, ?_⟩
          show v * (u % v) * 2 ^ 0 < 2 ^ 62
          have q1 : v * (u % v) ≤ 2147483647 * 2147483647 := Nat.mul_le_mul (by omega) (by omega)
          omega
        · rcases Nat.eq_zero_or_pos i with e0 | e0
          · subst e0
            refine ⟨hm, ?_⟩
            show v * (u % v) * 2 ^ 0 < 2 ^ 62
            have q1 : v * (u % v) ≤ 2147483647 * 2147483647 := Nat.mul_le_mul (by omega) (by omega)
            omega
          · have q := gcd_h d1 d2 hv1
            rw [show i - 1 + 1 = i + 1 - 1 by omega] at q
            exact q
  refine V.g2 60 [7, 34] mX6_commonDivisor_ok rfl ?_
  refine V.kn [4, 3, 2, 0, 1] [(4, .int (nI 0)), (3, .int y), (2, .int x), (0, .int x), (1, .int y)] [] (hs) rfl rfl rfl ?_
  exact loop 100 0 a b _ _ _ rfl rfl hy hx ha hb rfl (Or.inl rfl)
