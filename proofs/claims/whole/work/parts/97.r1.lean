/-! ===== the class: the reader, small words ===== -/
def T1_append : zT := fun args hs Q => ∃ (tp : fI) (sz pla tok tpl num flt : Int32) (cod : fI) (csz : Int32) (eds : fI) (b : Int32) (t : Nat), t ≤ 160 ∧ sz = nI t ∧ args = [.ref 0, .int b] ∧ hs = pRd 0 (tp, sz, pla, tok, tpl, num, flt, cod, csz, eds) ∧ (t < 160 → Q none (pRd 0 ((upd tp t b), (nI (t + 1)), pla, tok, tpl, num, flt, cod, csz, eds))) ∧ (t = 160 → Q none hs)
set_option maxHeartbeats 4000000 in
theorem c1_append (l : Launch) : Ct l mX1_append false 1 0 0 T1_append := by
  refine Ct.intro mX1_append_ok ?_
  rintro args hs Q ⟨tp, sz, pla, tok, tpl, num, flt, cod, csz, eds, b, t, ht, hsz, rfl, rfl, h0, h1⟩
  refine ⟨Nat.le_of_ble_eq_true rfl, ?_⟩
  subst hsz
  refine V.g2 60 [] mX1_append_ok rfl ?_
  refine pk_le 160 t (fun e => ?_) (fun e => ?_) rfl rfl
  · exact ⟨_, zsim_rfl _, h1 (by omega)⟩
  · refine ⟨t, by omega, rfl, rfl, ?_⟩
    refine ⟨_, zsim_rfl _, ?_⟩
    have h := h0 e
    rw [← nI_1] at h
    exact h
def T1_empty : zT := fun args hs Q => ∃ (tp : fI) (sz pla tok tpl num flt : Int32) (cod : fI) (csz : Int32) (eds : fI) , args = [.ref 0] ∧ hs = pRd 0 (tp, sz, pla, tok, tpl, num, flt, cod, csz, eds) ∧ Q none (pRd 0 (tp, (nI 0), pla, tok, tpl, num, flt, cod, csz, eds))
set_option maxHeartbeats 4000000 in
theorem c1_empty (l : Launch) : Ct l mX1_empty false 1 0 0 T1_empty := by
  refine Ct.intro mX1_empty_ok ?_
  rintro args hs Q ⟨tp, sz, pla, tok, tpl, num, flt, cod, csz, eds, rfl, rfl, h⟩
  refine ⟨Nat.le_of_ble_eq_true rfl, ?_⟩
  refine V.g2 60 [] mX1_empty_ok rfl ?_
  exact ⟨_, zsim_rfl _, h⟩
def T1_emit : zT := fun args hs Q => ∃ (tp : fI) (sz pla tok tpl num flt : Int32) (cod : fI) (csz : Int32) (eds : fI) (b : Int32) (t : Nat), t ≤ 160 ∧ csz = nI t ∧ args = [.ref 0, .int b] ∧ hs = pRd 0 (tp, sz, pla, tok, tpl, num, flt, cod, csz, eds) ∧ (t < 160 → Q none (pRd 0 (tp, sz, pla, tok, tpl, num, flt, (upd cod t b), (nI (t + 1)), eds))) ∧ (t = 160 → Q none hs)
set_option maxHeartbeats 4000000 in
theorem c1_emit (l : Launch) : Ct l mX1_emit false 1 0 0 T1_emit := by
  refine Ct.intro mX1_emit_ok ?_
  rintro args hs Q ⟨tp, sz, pla, tok, tpl, num, flt, cod, csz, eds, b, t, ht, hsz, rfl, rfl, h0, h1⟩
  refine ⟨Nat.le_of_ble_eq_true rfl, ?_⟩
  subst hsz
  refine V.g2 60 [] mX1_emit_ok rfl ?_
  refine pk_le 160 t (fun e => ?_) (fun e => ?_) rfl rfl
  · exact ⟨_, zsim_rfl _, h1 (by omega)⟩
  · refine ⟨t, by omega, rfl, rfl, ?_⟩
    refine ⟨_, zsim_rfl _, ?_⟩
    have h := h0 e
    rw [← nI_1] at h
    exact h
def T1_fail : zT := fun args hs Q => ∃ (tp : fI) (sz pla tok tpl num flt : Int32) (cod : fI) (csz : Int32) (eds : fI) , args = [.ref 0] ∧ hs = pRd 0 (tp, sz, pla, tok, tpl, num, flt, cod, csz, eds) ∧ Q none (pRd 0 (tp, sz, pla, (nI 300), tpl, num, (if flt = -1 then tpl else flt), cod, csz, eds))
set_option maxHeartbeats 4000000 in
theorem c1_fail (l : Launch) : Ct l mX1_fail false 1 0 0 T1_fail := by
  refine Ct.intro mX1_fail_ok ?_
  rintro args hs Q ⟨tp, sz, pla, tok, tpl, num, flt, cod, csz, eds, rfl, rfl, h⟩
  refine ⟨Nat.le_of_ble_eq_true rfl, ?_⟩
  refine V.g2 60 [] mX1_fail_ok rfl ?_
  refine And.intro (fun (e : ¬ flt = (-1 : Int32)) => ?_) (fun (e : flt = (-1 : Int32)) => ?_)
  · exact ⟨_, zsim_rfl _, (by rw [if_neg e] at h; exact h)⟩
  · exact ⟨_, zsim_rfl _, (by rw [if_pos e] at h; exact h)⟩
def T7_isBlank : zT := fun args hs Q => ∃ (x : Int32), args = [.int x] ∧ Q (some (.int (bI (isBl x)))) hs
theorem c7_isBlank (l : Launch) : Ct l mX1_isBlank false 1 0 0 T7_isBlank := by
  refine Ct.intro mX1_isBlank_ok ?_
  rintro args hs Q ⟨x, rfl, h⟩
  refine ⟨Nat.le_of_ble_eq_true rfl, ?_⟩
  have t12 : isBl x = true → V l mX1_isBlank false hs (zrm 1 0 0) (zFm false hs Q 0 0) 0 0 12 [(0, .int x)] [] (hs) := by
    intro  hb
    rw [hb] at h
    refine V.g2 60 [12, 17] mX1_isBlank_ok rfl ?_
    refine V.g2 60 [12, 17] mX1_isBlank_ok rfl ?_
    refine And.intro (Or.inr rfl) ?_
    exact ⟨_, zsim_rfl _, h⟩
  refine V.g2 60 [12, 17] mX1_isBlank_ok rfl ?_
  refine And.intro (fun (e1 : x = (nI 32)) => ?_) (fun (e1 : ¬ x = (nI 32)) => ?_)
  · refine V.nm [(0, .int x)] [] (hs) rfl rfl rfl ?_
    exact t12 (by unfold isBl; rw [decide_eq_true e1]; rfl)
  · refine And.intro (fun (e2 : ¬ x = (nI 10)) => ?_) (fun (e2 : x = (nI 10)) => ?_)
    · have hb : isBl x = false := by unfold isBl; rw [decide_eq_false e1, decide_eq_false e2]; rfl
      rw [hb] at h
      refine V.g2 60 [12, 17] mX1_isBlank_ok rfl ?_
      refine And.intro (Or.inl rfl) ?_
      exact ⟨_, zsim_rfl _, h⟩
    · refine V.nm [(0, .int x)] [] (hs) rfl rfl rfl ?_
      exact t12 (by unfold isBl; rw [decide_eq_true e2, Bool.or_true])
def T7_isLetter : zT := fun args hs Q => ∃ (x : Int32), args = [.int x] ∧ Q (some (.int (bI (isLt x)))) hs
theorem c7_isLetter (l : Launch) : Ct l mX1_isLetter false 2 0 0 T7_isLetter := by
  refine Ct.intro mX1_isLetter_ok ?_
  rintro args hs Q ⟨x, rfl, h⟩
  refine ⟨Nat.le_of_ble_eq_true rfl, ?_⟩
  refine V.g2 60 [] mX1_isLetter_ok rfl ?_
  refine V.csN mX1_isLetter_ok rfl lX1_79 (ct_within l) rfl rfl rfl rfl ⟨x, nI 97, nI 122, rfl, fun h1 h2 => ⟨rfl, ?_⟩, fun h0 => ⟨rfl, ?_⟩⟩
  · have hb : isLt x = true := by unfold isLt; rw [decide_eq_true h1, decide_eq_true h2]; rfl
    rw [hb] at h
    refine V.g2 60 [] mX1_isLetter_ok rfl ?_
    refine And.intro (Or.inr rfl) ?_
    exact ⟨_, zsim_rfl _, h⟩
  · have hb : isLt x = false := by
      unfold isLt
      cases hc : (decide (nI 97 ≤ x) && decide (x ≤ nI 122)) with
      | false => rfl
      | true => simp only [Bool.and_eq_true, decide_eq_true_eq] at hc; exact absurd hc h0
    rw [hb] at h
    refine V.g2 60 [] mX1_isLetter_ok rfl ?_
    refine And.intro (Or.inl rfl) ?_
    exact ⟨_, zsim_rfl _, h⟩
def T7_isDigit : zT := fun args hs Q => ∃ (x : Int32), args = [.int x] ∧ Q (some (.int (bI (isDg x)))) hs
theorem c7_isDigit (l : Launch) : Ct l mX1_isDigit false 2 0 0 T7_isDigit := by
  refine Ct.intro mX1_isDigit_ok ?_
  rintro args hs Q ⟨x, rfl, h⟩
  refine ⟨Nat.le_of_ble_eq_true rfl, ?_⟩
  refine V.g2 60 [] mX1_isDigit_ok rfl ?_
  refine V.csN mX1_isDigit_ok rfl lX1_79 (ct_within l) rfl rfl rfl rfl ⟨x, nI 48, nI 57, rfl, fun h1 h2 => ⟨rfl, ?_⟩, fun h0 => ⟨rfl, ?_⟩⟩
  · have hb : isDg x = true := by unfold isDg; rw [decide_eq_true h1, decide_eq_true h2]; rfl
    rw [hb] at h
    refine V.g2 60 [] mX1_isDigit_ok rfl ?_
    refine And.intro (Or.inr rfl) ?_
    exact ⟨_, zsim_rfl _, h⟩
  · have hb : isDg x = false := by
      unfold isDg
      cases hc : (decide (nI 48 ≤ x) && decide (x ≤ nI 57)) with
      | false => rfl
      | true => simp only [Bool.and_eq_true, decide_eq_true_eq] at hc; exact absurd hc h0
    rw [hb] at h
    refine V.g2 60 [] mX1_isDigit_ok rfl ?_
    refine And.intro (Or.inl rfl) ?_
    exact ⟨_, zsim_rfl _, h⟩
def T7_isSign : zT := fun args hs Q => ∃ (x : Int32), args = [.int x] ∧ Q (some (.int (bI (isSg x)))) hs
theorem c7_isSign (l : Launch) : Ct l mX1_isSign false 1 0 0 T7_isSign := by
  refine Ct.intro mX1_isSign_ok ?_
  rintro args hs Q ⟨x, rfl, h⟩
  refine ⟨Nat.le_of_ble_eq_true rfl, ?_⟩
  have t48 : isSg x = true → V l mX1_isSign false hs (zrm 1 0 0) (zFm false hs Q 0 0) 0 0 48 [(0, .int x)] [] (hs) := by
    intro  hb
    rw [hb] at h
    refine V.g2 60 [48, 53] mX1_isSign_ok rfl ?_
    refine V.g2 60 [48, 53] mX1_isSign_ok rfl ?_
    refine And.intro (Or.inr rfl) ?_
    exact ⟨_, zsim_rfl _, h⟩
  refine V.g2 60 [48, 53] mX1_isSign_ok rfl ?_
  refine And.intro (fun (g0 : x = (nI 40)) => ?_) (fun (g0 : ¬ x = (nI 40)) => ?_)
  · refine V.nm [(0, .int x)] [] (hs) rfl rfl rfl ?_
    exact t48 (by unfold isSg; rw [decide_eq_true g0]; rfl)
  · refine And.intro (fun (g1 : x = (nI 41)) => ?_) (fun (g1 : ¬ x = (nI 41)) => ?_)
    · refine V.nm [(0, .int x)] [] (hs) rfl rfl rfl ?_
      exact t48 (by unfold isSg; rw [decide_eq_false g0, decide_eq_true g1]; rfl)
    · refine And.intro (fun (g2 : x = (nI 59)) => ?_) (fun (g2 : ¬ x = (nI 59)) => ?_)
      · refine V.nm [(0, .int x)] [] (hs) rfl rfl rfl ?_
        exact t48 (by unfold isSg; rw [decide_eq_false g0, decide_eq_false g1, decide_eq_true g2]; rfl)
      · refine And.intro (fun (g3 : x = (nI 43)) => ?_) (fun (g3 : ¬ x = (nI 43)) => ?_)
        · refine V.nm [(0, .int x)] [] (hs) rfl rfl rfl ?_
          exact t48 (by unfold isSg; rw [decide_eq_false g0, decide_eq_false g1, decide_eq_false g2, decide_eq_true g3]; rfl)
        · refine And.intro (fun (g4 : x = (nI 45)) => ?_) (fun (g4 : ¬ x = (nI 45)) => ?_)
          · refine V.nm [(0, .int x)] [] (hs) rfl rfl rfl ?_
            exact t48 (by unfold isSg; rw [decide_eq_false g0, decide_eq_false g1, decide_eq_false g2, decide_eq_false g3, decide_eq_true g4]; rfl)
          · refine And.intro (fun (g5 : x = (nI 42)) => ?_) (fun (g5 : ¬ x = (nI 42)) => ?_)
            · refine V.nm [(0, .int x)] [] (hs) rfl rfl rfl ?_
              exact t48 (by unfold isSg; rw [decide_eq_false g0, decide_eq_false g1, decide_eq_false g2, decide_eq_false g3, decide_eq_false g4, decide_eq_true g5]; rfl)
            · refine And.intro (fun (g6 : x = (nI 60)) => ?_) (fun (g6 : ¬ x = (nI 60)) => ?_)
              · refine V.nm [(0, .int x)] [] (hs) rfl rfl rfl ?_
                exact t48 (by unfold isSg; rw [decide_eq_false g0, decide_eq_false g1, decide_eq_false g2, decide_eq_false g3, decide_eq_false g4, decide_eq_false g5, decide_eq_true g6]; rfl)
              · refine And.intro (fun (g7 : ¬ x = (nI 61)) => ?_) (fun (g7 : x = (nI 61)) => ?_)
                · have hb : isSg x = false := by unfold isSg; rw [decide_eq_false g0, decide_eq_false g1, decide_eq_false g2, decide_eq_false g3, decide_eq_false g4, decide_eq_false g5, decide_eq_false g6, decide_eq_false g7]; rfl
                  rw [hb] at h
                  refine V.g2 60 [48, 53] mX1_isSign_ok rfl ?_
                  refine And.intro (Or.inl rfl) ?_
                  exact ⟨_, zsim_rfl _, h⟩
                · refine V.nm [(0, .int x)] [] (hs) rfl rfl rfl ?_
                  exact t48 (by unfold isSg; rw [decide_eq_false g0, decide_eq_false g1, decide_eq_false g2, decide_eq_false g3, decide_eq_false g4, decide_eq_false g5, decide_eq_false g6, decide_eq_true g7]; rfl)
