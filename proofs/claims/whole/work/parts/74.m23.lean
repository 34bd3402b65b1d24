theorem woF_le {wo tp : fI} {a b : Nat} : woF wo tp a b ≤ 12 := by
  unfold woF
  split
  · exact Nat.le_refl _
  · rename_i k hk
    exact Nat.le_of_lt (fsF_lt hk)
/-! ===== the reference: next (the words of the text) ===== -/
def isBl (x : Int32) : Bool := decide (x = nI 32) || decide (x = nI 10)
def isLt (x : Int32) : Bool := decide (nI 97 ≤ x) && decide (x ≤ nI 122)
def isDg (x : Int32) : Bool := decide (nI 48 ≤ x) && decide (x ≤ nI 57)
def isSg (x : Int32) : Bool := decide (x = nI 40) || (decide (x = nI 41) || (decide (x = nI 59) || (decide (x = nI 43) || (decide (x = nI 45) || (decide (x = nI 42) || (decide (x = nI 60) || decide (x = nI 61)))))))
/-- the first place from a on where it doesn't hold (at most m further) -/
def skP (p : Int32 → Bool) (tp : fI) : Nat → Nat → Nat
  | 0, a => a
  | m + 1, a => if p (tp a) = true then skP p tp m (a + 1) else a
theorem skP_le {p : Int32 → Bool} {tp : fI} : ∀ {m a : Nat}, a ≤ skP p tp m a ∧ skP p tp m a ≤ a + m
  | 0, a => ⟨Nat.le_refl _, Nat.le_refl _⟩
  | m + 1, a => by
    rw [skP]
    split
    · have := skP_le (p := p) (tp := tp) (m := m) (a := a + 1)
      omega
    · omega
theorem skP_t {p : Int32 → Bool} {tp : fI} {m a : Nat} (h : p (tp a) = true) : skP p tp (m + 1) a = skP p tp m (a + 1) := by rw [skP, if_pos h]
theorem skP_f {p : Int32 → Bool} {tp : fI} {m a : Nat} (h : p (tp a) = false) : skP p tp m a = a := by
  cases m with
  | zero => rfl
  | succ m => rw [skP, if_neg (by rw [h]; exact Bool.false_ne_true)]
/-- the number that m digits from a on say, in the reference's way (v so far, q digits before) -/
def nvM (tp : fI) : Nat → Nat → Nat → Int32 → Int32
  | 0, _, _, v => v
  | m + 1, a, q, v => nvM tp m (a + 1) (q + 1) (if q < 4 then nI 10 * v + tp a - nI 48 else nI 0)
def tkW (k : Nat) : Int32 := if k < 3 then nI 3 else if k < 9 then nI 2 else if k = 12 then -1 else nI 4 + nI k - nI 9
def vaW (k : Nat) : Int32 := if k < 3 then nI k else nI k - nI 3
def nxG (wo tp : fI) (n b : Nat) : Nat × Nat × Int32 × Int32 :=
  if n ≤ b then (b, b, nI 0, nI 0)
  else if isLt (tp b) = true then (skP isLt tp (n - b) b, b, tkW (woF wo tp b (skP isLt tp (n - b) b)), vaW (woF wo tp b (skP isLt tp (n - b) b)))
  else if isDg (tp b) = true then (skP isDg tp (n - b) b, b, (if 4 < skP isDg tp (n - b) b - b then -1 else nI 1), nvM tp (skP isDg tp (n - b) b - b) b 0 (nI 0))
  else (b + 1, b, (if isSg (tp b) = true then tp b else -1), nI 0)
def nxF (wo tp : fI) (n a : Nat) : Nat × Nat × Int32 × Int32 := nxG wo tp n (skP isBl tp (n - a) a)
abbrev lx4 (fv : Nat → Int32) (t : Nat × Nat × Int32 × Int32) : Nat → Int32 := upf (upf (upf (upf fv 27 (nI t.1)) 28 (nI t.2.1)) 29 t.2.2.1) 30 t.2.2.2
def T7_next : zT := fun args hs Q => ∃ (fv : Nat → Int32) (ar : Nat → fI) (n a : Nat), fv 14 = nI n ∧ fv 27 = nI a ∧ a ≤ n ∧ n ≤ 160 ∧ args = [.ref 0] ∧ hs = pM fv ar ∧ ∀ t : Nat × Nat × Int32 × Int32, t = nxF (ar 31) (ar 13) n a → Q none (pM (lx4 fv t) ar)
set_option maxHeartbeats 500000 in
theorem c7_next (l : Launch) : Ct l mX7_next false 3 0 0 T7_next := by
  refine Ct.intro mX7_next_ok ?_
  rintro args hs Q ⟨fv, ar, n, a, h14, h27, han, hn, rfl, rfl, h⟩
  refine ⟨Nat.le_of_ble_eq_true rfl, ?_⟩
  obtain ⟨B, hB⟩ : ∃ B, B = skP isBl (ar 13) (n - a) a := ⟨_, rfl⟩
  have hBle := skP_le (p := isBl) (tp := ar 13) (m := n - a) (a := a)
  rw [← hB] at hBle
  have h := fun t (e : t = nxG (ar 31) (ar 13) n B) => h t (by rw [e, hB]; rfl)
  generalize hS : pM fv ar = S
  have t52 : ∀ (x : Int32), x = nI B → V l mX7_next false S (zrm 3 0 0) (zFm false S Q 0 0) 0 0 52 [(0, .ref 0)] [] (pM (upf fv 27 x) ar) := by
    intro x hx
    refine V.g2 60 [0, 39, 52, 103, 133, 146, 195, 211, 230, 290, 309, 320, 374, 378, 379, 390, 403] mX7_next_ok rfl ?_
    refine zp_ne B n (fun e0 => ?_) (fun e0 => ?_) hx h14
    · have hBn : B < n := by omega
      refine ⟨B, by omega, hx, rfl, ?_⟩
      obtain ⟨c, hc⟩ : ∃ c, c = ((ar 13) B) := ⟨_, rfl⟩
      have hcE : ar 13 B = c := hc.symm
      refine V.nm [(1, .int c), (0, .ref 0)] [.int (nI 122), .int (nI 97), .int c] (pM (upf (upf (upf (upf fv 27 x) 28 x) 29 (nI 0)) 30 (nI 0)) ar) (by rw [hc]; rfl) (by rw [hc]; rfl) rfl ?_
      refine V.cs mX7_next_ok rfl lX7_117 (c7_in l) rfl rfl rfl rfl ⟨_, _, _, rfl, fun Z hZ => ⟨rfl, ?_⟩⟩
      rcases Z with _ | _
      · have hlt : isLt c = false := hZ.symm
        refine V.g2 60 [0, 39, 52, 103, 133, 146, 195, 211, 230, 290, 309, 320, 374, 378, 379, 390, 403] mX7_next_ok rfl ?_
        refine And.intro (fun _ => ?_) (fun e => absurd rfl e)
        refine V.cs mX7_next_ok rfl lX7_117 (c7_in l) rfl rfl rfl rfl ⟨_, _, _, rfl, fun Z hZ => ⟨rfl, ?_⟩⟩
        rcases Z with _ | _
        · have hdg : isDg c = false := hZ.symm
          have t379 : ∀ (s : Int32) (b : Bool), s = bI b → isSg c = b → V l mX7_next false S (zrm 3 0 0) (zFm false S Q 0 0) 0 0 379 [(1, .int c), (0, .ref 0)] [.int s] (pM (upf (upf (upf (upf fv 27 x) 28 x) 29 (nI 0)) 30 (nI 0)) ar) := by
            intro s b hs hb
            subst hs
            cases b with
            | false =>
              refine V.g2 60 [0, 39, 52, 103, 133, 146, 195, 211, 230, 290, 309, 320, 374, 378, 379, 390, 403] mX7_next_ok rfl ?_
              refine And.intro (fun _ => ?_) (fun e => absurd rfl e)
              refine V.g2 60 [] mX7_next_ok rfl ?_
              refine ⟨_, zsim_rfl _, ?_⟩
              subst hS
              have h := h _ rfl
              rw [nxG, if_neg (by omega), if_neg (by rw [hcE, hlt]; exact Bool.false_ne_true), if_neg (by rw [hcE, hdg]; exact Bool.false_ne_true), hcE, if_neg (by rw [hb]; exact Bool.false_ne_true)] at h
              have ex : nI B + nI 1 = nI (B + 1) := nI_1 B
              have h : Q none (pM (upf (upf (upf (upf fv 27 (nI (B + 1))) 28 (nI B)) 29 (-1)) 30 (nI 0)) ar) := h
              rw [← ex, ← hx] at h
              exact h
            | true =>
              refine V.g2 60 [0, 39, 52, 103, 133, 146, 195, 211, 230, 290, 309, 320, 374, 378, 379, 390, 403] mX7_next_ok rfl ?_
              refine And.intro (fun e => absurd e (by decide)) (fun _ => ?_)
              refine V.g2 60 [] mX7_next_ok rfl ?_
              refine ⟨_, zsim_rfl _, ?_⟩
              subst hS
              have h := h _ rfl
              rw [nxG, if_neg (by omega), if_neg (by rw [hcE, hlt]; exact Bool.false_ne_true), if_neg (by rw [hcE, hdg]; exact Bool.false_ne_true), hcE, if_pos hb] at h
              have ex : nI B + nI 1 = nI (B + 1) := nI_1 B
              have h : Q none (pM (upf (upf (upf (upf fv 27 (nI (B + 1))) 28 (nI B)) 29 c) 30 (nI 0)) ar) := h
              rw [← ex, ← hx] at h
              exact h
          refine V.g2 60 [0, 39, 52, 103, 133, 146, 195, 211, 230, 290, 309, 320, 374, 378, 379, 390, 403] mX7_next_ok rfl ?_
          refine And.intro (fun _ => ?_) (fun e => absurd rfl e)
          refine And.intro (fun (g0 : c = (nI 40)) => ?_) (fun (g0 : ¬ c = (nI 40)) => ?_)
          · refine V.g2 60 [0, 39, 52, 103, 133, 146, 195, 211, 230, 290, 309, 320, 374, 378, 379, 390, 403] mX7_next_ok rfl ?_
            refine V.nm [(1, .int c), (0, .ref 0)] [.int (nI 1)] (pM (upf (upf (upf (upf fv 27 x) 28 x) 29 (nI 0)) 30 (nI 0)) ar) rfl rfl rfl ?_
            exact t379 _ true rfl (by unfold isSg; rw [decide_eq_true g0]; rfl)
          · refine And.intro (fun (g1 : c = (nI 41)) => ?_) (fun (g1 : ¬ c = (nI 41)) => ?_)
            · refine V.g2 60 [0, 39, 52, 103, 133, 146, 195, 211, 230, 290, 309, 320, 374, 378, 379, 390, 403] mX7_next_ok rfl ?_
              refine V.nm [(1, .int c), (0, .ref 0)] [.int (nI 1)] (pM (upf (upf (upf (upf fv 27 x) 28 x) 29 (nI 0)) 30 (nI 0)) ar) rfl rfl rfl ?_
              exact t379 _ true rfl (by unfold isSg; rw [decide_eq_false g0, decide_eq_true g1]; rfl)
            · refine And.intro (fun (g2 : c = (nI 59)) => ?_) (fun (g2 : ¬ c = (nI 59)) => ?_)
              · refine V.g2 60 [0, 39, 52, 103, 133, 146, 195, 211, 230, 290, 309, 320, 374, 378, 379, 390, 403] mX7_next_ok rfl ?_
                refine V.nm [(1, .int c), (0, .ref 0)] [.int (nI 1)] (pM (upf (upf (upf (upf fv 27 x) 28 x) 29 (nI 0)) 30 (nI 0)) ar) rfl rfl rfl ?_
                exact t379 _ true rfl (by unfold isSg; rw [decide_eq_false g0, decide_eq_false g1, decide_eq_true g2]; rfl)
              · refine And.intro (fun (g3 : c = (nI 43)) => ?_) (fun (g3 : ¬ c = (nI 43)) => ?_)
                · refine V.g2 60 [0, 39, 52, 103, 133, 146, 195, 211, 230, 290, 309, 320, 374, 378, 379, 390, 403] mX7_next_ok rfl ?_
                  refine V.nm [(1, .int c), (0, .ref 0)] [.int (nI 1)] (pM (upf (upf (upf (upf fv 27 x) 28 x) 29 (nI 0)) 30 (nI 0)) ar) rfl rfl rfl ?_
                  exact t379 _ true rfl (by unfold isSg; rw [decide_eq_false g0, decide_eq_false g1, decide_eq_false g2, decide_eq_true g3]; rfl)
                · refine And.intro (fun (g4 : c = (nI 45)) => ?_) (fun (g4 : ¬ c = (nI 45)) => ?_)
                  · refine V.g2 60 [0, 39, 52, 103, 133, 146, 195, 211, 230, 290, 309, 320, 374, 378, 379, 390, 403] mX7_next_ok rfl ?_
                    refine V.nm [(1, .int c), (0, .ref 0)] [.int (nI 1)] (pM (upf (upf (upf (upf fv 27 x) 28 x) 29 (nI 0)) 30 (nI 0)) ar) rfl rfl rfl ?_
                    exact t379 _ true rfl (by unfold isSg; rw [decide_eq_false g0, decide_eq_false g1, decide_eq_false g2, decide_eq_false g3, decide_eq_true g4]; rfl)
                  · refine And.intro (fun (g5 : c = (nI 42)) => ?_) (fun (g5 : ¬ c = (nI 42)) => ?_)
                    · refine V.g2 60 [0, 39, 52, 103, 133, 146, 195, 211, 230, 290, 309, 320, 374, 378, 379, 390, 403] mX7_next_ok rfl ?_
                      refine V.nm [(1, .int c), (0, .ref 0)] [.int (nI 1)] (pM (upf (upf (upf (upf fv 27 x) 28 x) 29 (nI 0)) 30 (nI 0)) ar) rfl rfl rfl ?_
                      exact t379 _ true rfl (by unfold isSg; rw [decide_eq_false g0, decide_eq_false g1, decide_eq_false g2, decide_eq_false g3, decide_eq_false g4, decide_eq_true g5]; rfl)
                    · refine And.intro (fun (g6 : c = (nI 60)) => ?_) (fun (g6 : ¬ c = (nI 60)) => ?_)
                      · refine V.g2 60 [0, 39, 52, 103, 133, 146, 195, 211, 230, 290, 309, 320, 374, 378, 379, 390, 403] mX7_next_ok rfl ?_
                        refine V.nm [(1, .int c), (0, .ref 0)] [.int (nI 1)] (pM (upf (upf (upf (upf fv 27 x) 28 x) 29 (nI 0)) 30 (nI 0)) ar) rfl rfl rfl ?_
                        exact t379 _ true rfl (by unfold isSg; rw [decide_eq_false g0, decide_eq_false g1, decide_eq_false g2, decide_eq_false g3, decide_eq_false g4, decide_eq_false g5, decide_eq_true g6]; rfl)
                      · refine And.intro (fun (g7 : ¬ c = (nI 61)) => ?_) (fun (g7 : c = (nI 61)) => ?_)
                        · refine V.g2 60 [0, 39, 52, 103, 133, 146, 195, 211, 230, 290, 309, 320, 374, 378, 379, 390, 403] mX7_next_ok rfl ?_
                          refine V.nm [(1, .int c), (0, .ref 0)] [.int (nI 0)] (pM (upf (upf (upf (upf fv 27 x) 28 x) 29 (nI 0)) 30 (nI 0)) ar) rfl rfl rfl ?_
                          exact t379 _ false rfl (by unfold isSg; rw [decide_eq_false g0, decide_eq_false g1, decide_eq_false g2, decide_eq_false g3, decide_eq_false g4, decide_eq_false g5, decide_eq_false g6, decide_eq_false g7]; rfl)
                        · refine V.g2 60 [0, 39, 52, 103, 133, 146, 195, 211, 230, 290, 309, 320, 374, 378, 379, 390, 403] mX7_next_ok rfl ?_
                          refine V.nm [(1, .int c), (0, .ref 0)] [.int (nI 1)] (pM (upf (upf (upf (upf fv 27 x) 28 x) 29 (nI 0)) 30 (nI 0)) ar) rfl rfl rfl ?_
                          exact t379 _ true rfl (by unfold isSg; rw [decide_eq_false g0, decide_eq_false g1, decide_eq_false g2, decide_eq_false g3, decide_eq_false g4, decide_eq_false g5, decide_eq_false g6, decide_eq_true g7]; rfl)
        · have hdg : isDg c = true := hZ.symm
          obtain ⟨E, hE⟩ : ∃ E, E = skP isDg (ar 13) (n - B) B := ⟨_, rfl⟩
          have hEle := skP_le (p := isDg) (tp := ar 13) (m := n - B) (a := B)
          rw [← hE] at hEle
          obtain ⟨N, hN⟩ : ∃ N, N = nvM (ar 13) (E - B) B 0 (nI 0) := ⟨_, rfl⟩
          have t309 : ∀ (x7 x2 : Int32), x7 = nI E → x2 = nI (E - B) → V l mX7_next false S (zrm 3 0 0) (zFm false S Q 0 0) 0 0 309 [(2, .int x2), (0, .ref 0)] [] (pM (upf (upf (upf (upf fv 27 x7) 28 x) 29 (nI 0)) 30 N) ar) := by
            intro x7 x2 h7 h2
            refine V.g2 60 [0, 39, 52, 103, 133, 146, 195, 211, 230, 290, 309, 320, 374, 378, 379, 390, 403] mX7_next_ok rfl ?_
            refine pk_le (E - B) 4 (fun e7 => ?_) (fun e7 => ?_) h2 rfl
            · refine V.g2 60 [] mX7_next_ok rfl ?_
              refine ⟨_, zsim_rfl _, ?_⟩
              subst hS
              have h := h _ rfl
              rw [nxG, if_neg (by omega), if_neg (by rw [hcE, hlt]; exact Bool.false_ne_true), if_pos (by rw [hcE]; exact hdg), ← hE, ← hN, if_neg (by omega)] at h
              rw [h7, hx]
              exact h
            · refine V.g2 60 [] mX7_next_ok rfl ?_
              refine ⟨_, zsim_rfl _, ?_⟩
              subst hS
              have h := h _ rfl
              rw [nxG, if_neg (by omega), if_neg (by rw [hcE, hlt]; exact Bool.false_ne_true), if_pos (by rw [hcE]; exact hdg), ← hE, ← hN, if_pos (by omega)] at h
              rw [h7, hx]
              exact h
          have loop : ∀ (m i q : Nat) (x7 x2 v : Int32), i + m = n → x7 = nI i → i = B + q → x2 = nI q → skP isDg (ar 13) m i = E → nvM (ar 13) (E - i) i q v = N → V l mX7_next false S (zrm 3 0 0) (zFm false S Q 0 0) 0 0 230 [(2, .int x2), (0, .ref 0)] [] (pM (upf (upf (upf (upf fv 27 x7) 28 x) 29 (nI 0)) 30 v) ar) := by
            intro m
            induction m with
            | zero =>
              intro i q x7 x2 v hi h7 hq h2 hs hv
              have hs0 : i = E := hs
              refine V.g2 60 [0, 39, 52, 103, 133, 146, 195, 211, 230, 290, 309, 320, 374, 378, 379, 390, 403] mX7_next_ok rfl ?_
              refine pk_le n i (fun e1 => ?_) (fun e1 => absurd e1 (by omega)) h14 h7
              have hv0 : v = N := by rw [← hv, ← hs0, Nat.sub_self]; rfl
              rw [hv0]
              refine V.kn [2, 0] [(2, .int x2), (0, .ref 0)] [] (pM (upf (upf (upf (upf fv 27 x7) 28 x) 29 (nI 0)) 30 N) ar) rfl rfl rfl ?_
              exact t309 _ _ (by rw [h7, hs0]) (by rw [h2]; congr 1; omega)
            | succ m ih =>
              intro i q x7 x2 v hi h7 hq h2 hs hv
              refine V.g2 60 [0, 39, 52, 103, 133, 146, 195, 211, 230, 290, 309, 320, 374, 378, 379, 390, 403] mX7_next_ok rfl ?_
              refine pk_le n i (fun e1 => absurd e1 (by omega)) (fun e1 => ?_) h14 h7
              refine ⟨i, by omega, h7, rfl, ?_⟩
              refine V.cs mX7_next_ok rfl lX7_117 (c7_in l) rfl rfl rfl rfl ⟨_, _, _, rfl, fun Y hY => ⟨rfl, ?_⟩⟩
              rcases Y with _ | _
              · have hs0 : i = E := by rw [← hs, skP_f hY.symm]
                have hv0 : v = N := by rw [← hv, ← hs0, Nat.sub_self]; rfl
                rw [hv0]
                refine V.g2 60 [0, 39, 52, 103, 133, 146, 195, 211, 230, 290, 309, 320, 374, 378, 379, 390, 403] mX7_next_ok rfl ?_
                refine And.intro (fun _ => ?_) (fun e => absurd rfl e)
                refine V.kn [2, 0] [(2, .int x2), (0, .ref 0)] [] (pM (upf (upf (upf (upf fv 27 x7) 28 x) 29 (nI 0)) 30 N) ar) rfl rfl rfl ?_
                exact t309 _ _ (by rw [h7, hs0]) (by rw [h2]; congr 1; omega)
              · have hs1 : skP isDg (ar 13) m (i + 1) = E := by rw [← hs, skP_t hY.symm]
                have hi1 := skP_le (p := isDg) (tp := ar 13) (m := m) (a := i + 1)
                rw [hs1] at hi1
                have hv1 : nvM (ar 13) (E - (i + 1)) (i + 1) (q + 1) (if q < 4 then nI 10 * v + ar 13 i - nI 48 else nI 0) = N := by rw [← hv, show E - i = (E - (i + 1)) + 1 by omega, nvM]
                refine V.g2 60 [0, 39, 52, 103, 133, 146, 195, 211, 230, 290, 309, 320, 374, 378, 379, 390, 403] mX7_next_ok rfl ?_
                refine And.intro (fun e => absurd e (by decide)) (fun _ => ?_)
                have t290 : ∀ (y : Int32), y = (if q < 4 then nI 10 * v + ar 13 i - nI 48 else nI 0) → V l mX7_next false S (zrm 3 0 0) (zFm false S Q 0 0) 0 0 290 [(2, .int x2), (0, .ref 0)] [.int y, .ref 0] (pM (upf (upf (upf (upf fv 27 x7) 28 x) 29 (nI 0)) 30 v) ar) := by
                  intro y hy
                  refine V.g2 60 [0, 39, 52, 103, 133, 146, 195, 211, 230, 290, 309, 320, 374, 378, 379, 390, 403] mX7_next_ok rfl ?_
                  refine V.kn [2, 0] [(2, .int (x2 + zi 1)), (0, .ref 0)] [] (pM (upf (upf (upf (upf fv 27 (x7 + (nI 1))) 28 x) 29 (nI 0)) 30 y) ar) rfl rfl rfl ?_
                  exact ih (i + 1) (q + 1) _ _ _ (by omega) (ninc h7) (by omega) (ninc h2) hs1 (by rw [hy]; exact hv1)
                refine pk_le 4 q (fun e8 => ?_) (fun e8 => ?_) rfl h2
                · refine V.nm [(2, .int x2), (0, .ref 0)] [.int (nI 0), .ref 0] (pM (upf (upf (upf (upf fv 27 x7) 28 x) 29 (nI 0)) 30 v) ar) rfl rfl rfl ?_
                  exact t290 _ (by rw [if_neg (by omega)])
                · refine ⟨i, by omega, h7, rfl, ?_⟩
                  refine V.nm [(2, .int x2), (0, .ref 0)] [.int ((((nI 10) * v) + ((ar 13) i)) - (nI 48)), .ref 0] (pM (upf (upf (upf (upf fv 27 x7) 28 x) 29 (nI 0)) 30 v) ar) rfl rfl rfl ?_
                  exact t290 _ (by rw [if_pos e8])
          refine V.g2 60 [0, 39, 52, 103, 133, 146, 195, 211, 230, 290, 309, 320, 374, 378, 379, 390, 403] mX7_next_ok rfl ?_
          refine And.intro (fun e => absurd e (by decide)) (fun _ => ?_)
          refine V.kn [2, 0] [(2, .int (nI 0)), (0, .ref 0)] [] (pM (upf (upf (upf (upf fv 27 x) 28 x) 29 (nI 0)) 30 (nI 0)) ar) rfl rfl rfl ?_
          exact loop (n - B) B 0 _ _ _ (by omega) hx rfl rfl hE.symm hN.symm
      · have hlt : isLt c = true := hZ.symm
        obtain ⟨E, hE⟩ : ∃ E, E = skP isLt (ar 13) (n - B) B := ⟨_, rfl⟩
        have hEle := skP_le (p := isLt) (tp := ar 13) (m := n - B) (a := B)
        rw [← hE] at hEle
        have t146 : ∀ (x7 : Int32), x7 = nI E → V l mX7_next false S (zrm 3 0 0) (zFm false S Q 0 0) 0 0 146 [(0, .ref 0)] [] (pM (upf (upf (upf (upf fv 27 x7) 28 x) 29 (nI 0)) 30 (nI 0)) ar) := by
          intro x7 h7
          refine V.g2 60 [0, 39, 52, 103, 133, 146, 195, 211, 230, 290, 309, 320, 374, 378, 379, 390, 403] mX7_next_ok rfl ?_
          refine V.cw mX7_next_ok rfl lX7_150 (c7_wordFrom l) rfl 0 7 rfl rfl rfl rfl rfl rfl ⟨(upf (upf (upf (upf fv 27 x7) 28 x) 29 (nI 0)) 30 (nI 0)), ar, x, x7, B, E, hx, h7, by omega, by omega, rfl, rfl, fun r hr => ⟨rfl, ?_⟩⟩
          obtain ⟨K, hK⟩ : ∃ K, K = woF (ar 31) (ar 13) B E := ⟨_, rfl⟩
          have hK12 := woF_le (wo := ar 31) (tp := ar 13) (a := B) (b := E)
          rw [← hK] at hr hK12
          refine V.g2 60 [0, 39, 52, 103, 133, 146, 195, 211, 230, 290, 309, 320, 374, 378, 379, 390, 403] mX7_next_ok rfl ?_
          have t195 : ∀ (v : Int32), v = tkW K → V l mX7_next false S (zrm 3 0 0) (zFm false S Q 0 0) 0 0 195 [(2, .int r), (0, .ref 0)] [.int v, .ref 0] (pM (upf (upf (upf (upf fv 27 x7) 28 x) 29 (nI 0)) 30 (nI 0)) ar) := by
            intro v hv
            refine V.g2 60 [0, 39, 52, 103, 133, 146, 195, 211, 230, 290, 309, 320, 374, 378, 379, 390, 403] mX7_next_ok rfl ?_
            refine pk_le 3 K (fun e5 => ?_) (fun e5 => ?_) rfl hr
            · refine V.g2 60 [] mX7_next_ok rfl ?_
              refine ⟨_, zsim_rfl _, ?_⟩
              subst hS
              have h := h _ rfl
              rw [nxG, if_neg (by omega), if_pos (by rw [hcE]; exact hlt), ← hE, ← hK] at h
              rw [vaW, if_neg (by omega)] at h
              rw [hv, h7, hx, hr]
              exact h
            · refine V.g2 60 [] mX7_next_ok rfl ?_
              refine ⟨_, zsim_rfl _, ?_⟩
              subst hS
              have h := h _ rfl
              rw [nxG, if_neg (by omega), if_pos (by rw [hcE]; exact hlt), ← hE, ← hK] at h
              rw [vaW, if_pos (by omega)] at h
              rw [hv, h7, hx, hr]
              exact h
          refine pk_le 3 K (fun e3 => ?_) (fun e3 => ?_) rfl hr
          · refine pk_le 9 K (fun e4 => ?_) (fun e4 => ?_) rfl hr
            · refine zp_ne K 12 (fun e6 => ?_) (fun e6 => ?_) hr rfl
              · refine V.nm [(2, .int r), (0, .ref 0)] [.int (((nI 4) + r) - (nI 9)), .ref 0] (pM (upf (upf (upf (upf fv 27 x7) 28 x) 29 (nI 0)) 30 (nI 0)) ar) rfl rfl rfl ?_
                exact t195 _ (by rw [tkW, if_neg (by omega), if_neg (by omega), if_neg (by omega), hr])
              · refine V.nm [(2, .int r), (0, .ref 0)] [.int (-1 : Int32), .ref 0] (pM (upf (upf (upf (upf fv 27 x7) 28 x) 29 (nI 0)) 30 (nI 0)) ar) rfl rfl rfl ?_
                exact t195 _ (by rw [tkW, if_neg (by omega), if_neg (by omega), if_pos (by omega)])
            · refine V.nm [(2, .int r), (0, .ref 0)] [.int (nI 2), .ref 0] (pM (upf (upf (upf (upf fv 27 x7) 28 x) 29 (nI 0)) 30 (nI 0)) ar) rfl rfl rfl ?_
              exact t195 _ (by rw [tkW, if_neg (by omega), if_pos e4])
          · refine V.nm [(2, .int r), (0, .ref 0)] [.int (nI 3), .ref 0] (pM (upf (upf (upf (upf fv 27 x7) 28 x) 29 (nI 0)) 30 (nI 0)) ar) rfl rfl rfl ?_
            exact t195 _ (by rw [tkW, if_pos e3])
        have loop : ∀ (m i : Nat) (x7 : Int32), i + m = n → x7 = nI i → B ≤ i → skP isLt (ar 13) m i = E → V l mX7_next false S (zrm 3 0 0) (zFm false S Q 0 0) 0 0 103 [(0, .ref 0)] [] (pM (upf (upf (upf (upf fv 27 x7) 28 x) 29 (nI 0)) 30 (nI 0)) ar) := by
          intro m
          induction m with
          | zero =>
            intro i x7 hi h7 hBi hs
            have hs0 : i = E := hs
            refine V.g2 60 [0, 39, 52, 103, 133, 146, 195, 211, 230, 290, 309, 320, 374, 378, 379, 390, 403] mX7_next_ok rfl ?_
            refine pk_le n i (fun e1 => ?_) (fun e1 => absurd e1 (by omega)) h14 h7
            refine V.kn [0] [(0, .ref 0)] [] (pM (upf (upf (upf (upf fv 27 x7) 28 x) 29 (nI 0)) 30 (nI 0)) ar) rfl rfl rfl ?_
            exact t146 _ (by rw [h7, hs0])
          | succ m ih =>
            intro i x7 hi h7 hBi hs
            refine V.g2 60 [0, 39, 52, 103, 133, 146, 195, 211, 230, 290, 309, 320, 374, 378, 379, 390, 403] mX7_next_ok rfl ?_
            refine pk_le n i (fun e1 => absurd e1 (by omega)) (fun e1 => ?_) h14 h7
            refine ⟨i, by omega, h7, rfl, ?_⟩
            refine V.cs mX7_next_ok rfl lX7_117 (c7_in l) rfl rfl rfl rfl ⟨_, _, _, rfl, fun Y hY => ⟨rfl, ?_⟩⟩
            rcases Y with _ | _
            · refine V.g2 60 [0, 39, 52, 103, 133, 146, 195, 211, 230, 290, 309, 320, 374, 378, 379, 390, 403] mX7_next_ok rfl ?_
              refine And.intro (fun _ => ?_) (fun e => absurd rfl e)
              refine V.kn [0] [(0, .ref 0)] [] (pM (upf (upf (upf (upf fv 27 x7) 28 x) 29 (nI 0)) 30 (nI 0)) ar) rfl rfl rfl ?_
              exact t146 _ (by rw [h7, ← hs, skP_f hY.symm])
            · refine V.g2 60 [0, 39, 52, 103, 133, 146, 195, 211, 230, 290, 309, 320, 374, 378, 379, 390, 403] mX7_next_ok rfl ?_
              refine And.intro (fun e => absurd e (by decide)) (fun _ => ?_)
              refine V.g2 60 [0, 39, 52, 103, 133, 146, 195, 211, 230, 290, 309, 320, 374, 378, 379, 390, 403] mX7_next_ok rfl ?_
              refine V.kn [0] [(0, .ref 0)] [] (pM (upf (upf (upf (upf fv 27 (x7 + (nI 1))) 28 x) 29 (nI 0)) 30 (nI 0)) ar) rfl rfl rfl ?_
              exact ih (i + 1) _ (by omega) (ninc h7) (by omega) (by rw [← hs, skP_t hY.symm])
        refine V.g2 60 [0, 39, 52, 103, 133, 146, 195, 211, 230, 290, 309, 320, 374, 378, 379, 390, 403] mX7_next_ok rfl ?_
        refine And.intro (fun e => absurd e (by decide)) (fun _ => ?_)
        refine V.kn [0] [(0, .ref 0)] [] (pM (upf (upf (upf (upf fv 27 x) 28 x) 29 (nI 0)) 30 (nI 0)) ar) rfl rfl rfl ?_
        exact loop (n - B) B _ (by omega) hx (Nat.le_refl _) hE.symm
    · refine ⟨_, zsim_rfl _, ?_⟩
      subst hS
      have h := h _ rfl
      rw [nxG, if_pos (by omega)] at h
      rw [hx]
      exact h
  have loop : ∀ (m i : Nat) (x7 : Int32), i + m = n → x7 = nI i → skP isBl (ar 13) m i = B → V l mX7_next false S (zrm 3 0 0) (zFm false S Q 0 0) 0 0 0 [(0, .ref 0)] [] (pM (upf fv 27 x7) ar) := by
    intro m
    induction m with
    | zero =>
      intro i x7 hi h7 hs
      have hs0 : i = B := hs
      refine V.g2 60 [0, 39, 52, 103, 133, 146, 195, 211, 230, 290, 309, 320, 374, 378, 379, 390, 403] mX7_next_ok rfl ?_
      refine pk_le n i (fun e1 => ?_) (fun e1 => absurd e1 (by omega)) h14 h7
      refine V.kn [0] [(0, .ref 0)] [] (pM (upf fv 27 x7) ar) rfl rfl rfl ?_
      exact t52 _ (by rw [h7, hs0])
    | succ m ih =>
      intro i x7 hi h7 hs
      refine V.g2 60 [0, 39, 52, 103, 133, 146, 195, 211, 230, 290, 309, 320, 374, 378, 379, 390, 403] mX7_next_ok rfl ?_
      refine pk_le n i (fun e1 => absurd e1 (by omega)) (fun e1 => ?_) h14 h7
      refine ⟨i, by omega, h7, rfl, ?_⟩
      have t39 : isBl (ar 13 i) = true → V l mX7_next false S (zrm 3 0 0) (zFm false S Q 0 0) 0 0 39 [(0, .ref 0)] [] (pM (upf fv 27 x7) ar) := by
        intro  hb
        refine V.g2 60 [0, 39, 52, 103, 133, 146, 195, 211, 230, 290, 309, 320, 374, 378, 379, 390, 403] mX7_next_ok rfl ?_
        refine V.kn [0] [(0, .ref 0)] [] (pM (upf fv 27 (x7 + (nI 1))) ar) rfl rfl rfl ?_
        exact ih (i + 1) _ (by omega) (ninc h7) (by rw [← hs, skP_t hb])
      refine And.intro (fun (g0 : ((ar 13) i) = (nI 32)) => ?_) (fun (g0 : ¬ ((ar 13) i) = (nI 32)) => ?_)
      · refine V.nm [(0, .ref 0)] [] (pM (upf fv 27 x7) ar) rfl rfl rfl ?_
        exact t39 (by unfold isBl; rw [decide_eq_true g0]; rfl)
      · refine ⟨i, by omega, h7, rfl, ?_⟩
        refine And.intro (fun (g1 : ¬ ((ar 13) i) = (nI 10)) => ?_) (fun (g1 : ((ar 13) i) = (nI 10)) => ?_)
        · refine V.kn [0] [(0, .ref 0)] [] (pM (upf fv 27 x7) ar) rfl rfl rfl ?_
          exact t52 _ (by rw [h7, ← hs, skP_f (by unfold isBl; rw [decide_eq_false g0, decide_eq_false g1]; rfl)])
        · refine V.nm [(0, .ref 0)] [] (pM (upf fv 27 x7) ar) rfl rfl rfl ?_
          exact t39 (by unfold isBl; rw [decide_eq_true g1, Bool.or_true])
  subst hS
  have hw0 : pM fv ar = pM (upf fv 27 (fv 27)) ar := rfl
  refine V.kn [0] [(0, .ref 0)] [] (pM (upf fv 27 (fv 27)) ar) rfl rfl rfl ?_
  exact loop (n - a) a _ (by omega) h27 hB.symm
