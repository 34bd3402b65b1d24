/-! ===== the reference: an image and back ===== -/
theorem fdF_u {g f : fI} {t n k : Nat} {x : Int32} (h : k < t ∨ t + n ≤ k) : upd (fdF g t f n) k x = fdF (upd g k x) t f n := by
  funext i
  by_cases e : i = k
  · subst e
    unfold fdF
    rw [pk_us, if_neg (by omega), pk_us]
  · rw [pk_un e]
    unfold fdF
    rw [pk_un e]
theorem fdF_s0 {g f : fI} {n : Nat} : upd (fdF g 0 f n) n (f n) = fdF g 0 f (n + 1) := by
  have := fdF_s g 0 f n
  rwa [Nat.zero_add] at this
theorem fdF_in {g f : fI} {t n i : Nat} (h : i < n) : fdF g t f n (t + i) = f i := by
  unfold fdF
  rw [if_pos (by omega), show t + i - t = i by omega]
theorem fdF_out {g f : fI} {t n i : Nat} (h : i < t ∨ t + n ≤ i) : fdF g t f n i = g i := by
  unfold fdF
  rw [if_neg (by omega)]
def imK (ro : fI) (fv : Nat → Int32) (ar : Nat → fI) : Prop := (∀ j, j < 4 → ro j = ar 0 j ∧ ro (4 + j) = ar 1 j ∧ ro (8 + j) = ar 2 j) ∧ (∀ j, j < 8 → ro (12 + j) = ar 3 j ∧ ro (20 + j) = ar 8 j ∧ ro (28 + j) = ar 9 j) ∧ (∀ j, j < 30 → ro (36 + j) = ar 6 j) ∧ ro 66 = ar 4 0 ∧ ro 67 = ar 4 1 ∧ ro 68 = fv 5 ∧ ro 69 = fv 10 ∧ ro 70 = fv 11 ∧ ro 71 = fv 12
def T7_image : zT := fun args hs Q => ∃ (fv : Nat → Int32) (ar : Nat → fI) , args = [.ref 0] ∧ hs = pM fv ar ∧ ∀ ro, imK ro fv ar → Q (some (.int (fv 7))) (pM (upf (upf (upf fv 19 (nI 1)) 20 (fv 7)) 21 (fv 18)) (upa ar 22 ro))
set_option maxHeartbeats 500000 in
theorem c7_image (l : Launch) : Ct l mX7_image false 2 0 0 T7_image := by
  refine Ct.intro mX7_image_ok ?_
  rintro args hs Q ⟨fv, ar, rfl, rfl, h⟩
  refine ⟨Nat.le_of_ble_eq_true rfl, ?_⟩
  generalize hS : pM fv ar = S
  have loop3 : ∀ (m i : Nat) (x1 : Int32) (ro : fI), i + m = 30 → x1 = nI i → ro = (fdF (fdF (fdF (fdF (fdF (fdF (fdF (ar 22) 0 (ar 0) 4) 4 (ar 1) 4) 8 (ar 2) 4) 12 (ar 3) 8) 20 (ar 8) 8) 28 (ar 9) 8) 36 (ar 6) i) → V l mX7_image false S (zrm 2 0 0) (zFm false S Q 0 0) 0 0 136 [(1, .int x1), (0, .ref 0)] [] (pM (upf (upf (upf fv 19 (nI 1)) 20 (fv 7)) 21 (fv 18)) (upa ar 22 ro)) := by
    intro m
    induction m with
    | zero =>
      intro i x1 ro hi h1 hro
      have ei : i = 30 := by omega
      rw [ei] at hro
      refine V.g2 60 [23, 77, 136] mX7_image_ok rfl ?_
      refine pk_le 30 i (fun e => ?_) (fun e => absurd e (by omega)) rfl h1
      refine ⟨0, by omega, rfl, rfl, ?_⟩
      refine ⟨66, by omega, rfl, rfl, ?_⟩
      refine ⟨1, by omega, rfl, rfl, ?_⟩
      refine ⟨67, by omega, rfl, rfl, ?_⟩
      refine ⟨68, by omega, rfl, rfl, ?_⟩
      refine ⟨69, by omega, rfl, rfl, ?_⟩
      refine ⟨70, by omega, rfl, rfl, ?_⟩
      refine ⟨71, by omega, rfl, rfl, ?_⟩
      refine ⟨_, zsim_rfl _, ?_⟩
      refine h (upd (upd (upd (upd (upd (upd ro 66 ((ar 4) 0)) 67 ((ar 4) 1)) 68 (fv 5)) 69 (fv 10)) 70 (fv 11)) 71 (fv 12)) ⟨?_, ?_, ?_, ?_, ?_, ?_, ?_, ?_, ?_⟩
      · intro j hj
        rw [pk_un (by omega), pk_un (by omega), pk_un (by omega), pk_un (by omega), pk_un (by omega), pk_un (by omega), pk_un (by omega), pk_un (by omega), pk_un (by omega), pk_un (by omega), pk_un (by omega), pk_un (by omega), pk_un (by omega), pk_un (by omega), pk_un (by omega), pk_un (by omega), pk_un (by omega), pk_un (by omega), hro]
        refine ⟨?_, ?_, ?_⟩
        · rw [fdF_out (by omega), fdF_out (by omega), fdF_out (by omega), fdF_out (by omega), fdF_out (by omega), fdF_out (by omega)]
          have := fdF_in (g := ar 22) (t := 0) (f := ar 0) hj
          rwa [Nat.zero_add] at this
        · rw [fdF_out (by omega), fdF_out (by omega), fdF_out (by omega), fdF_out (by omega), fdF_out (by omega)]
          exact fdF_in hj
        · rw [fdF_out (by omega), fdF_out (by omega), fdF_out (by omega), fdF_out (by omega)]
          exact fdF_in hj
      · intro j hj
        rw [pk_un (by omega), pk_un (by omega), pk_un (by omega), pk_un (by omega), pk_un (by omega), pk_un (by omega), pk_un (by omega), pk_un (by omega), pk_un (by omega), pk_un (by omega), pk_un (by omega), pk_un (by omega), pk_un (by omega), pk_un (by omega), pk_un (by omega), pk_un (by omega), pk_un (by omega), pk_un (by omega), hro]
        refine ⟨?_, ?_, ?_⟩
        · rw [fdF_out (by omega), fdF_out (by omega), fdF_out (by omega)]
          exact fdF_in hj
        · rw [fdF_out (by omega), fdF_out (by omega)]
          exact fdF_in hj
        · rw [fdF_out (by omega)]
          exact fdF_in hj
      · intro j hj
        rw [pk_un (by omega), pk_un (by omega), pk_un (by omega), pk_un (by omega), pk_un (by omega), pk_un (by omega), hro]
        exact fdF_in hj
      · rw [pk_un (by omega), pk_un (by omega), pk_un (by omega), pk_un (by omega), pk_un (by omega), pk_us]
      · rw [pk_un (by omega), pk_un (by omega), pk_un (by omega), pk_un (by omega), pk_us]
      · rw [pk_un (by omega), pk_un (by omega), pk_un (by omega), pk_us]
      · rw [pk_un (by omega), pk_un (by omega), pk_us]
      · rw [pk_un (by omega), pk_us]
      · rw [pk_us]
    | succ m ih =>
      intro i x1 ro hi h1 hro
      refine V.g2 60 [23, 77, 136] mX7_image_ok rfl ?_
      refine pk_le 30 i (fun e => absurd e (by omega)) (fun e => ?_) rfl h1
      refine ⟨i, by omega, h1, rfl, ?_⟩
      refine ⟨(36 + i), by omega, (nadd rfl h1), rfl, ?_⟩
      refine V.kn [1, 0] [(1, .int (x1 + zi 1)), (0, .ref 0)] [] (pM (upf (upf (upf fv 19 (nI 1)) 20 (fv 7)) 21 (fv 18)) (upa ar 22 (upd ro (36 + i) ((ar 6) i)))) rfl rfl rfl ?_
      exact ih (i + 1) _ _ (by omega) (ninc h1) (by rw [hro, fdF_s])
  have loop2 : ∀ (m i : Nat) (x1 : Int32) (ro : fI), i + m = 8 → x1 = nI i → ro = (fdF (fdF (fdF (fdF (fdF (fdF (ar 22) 0 (ar 0) 4) 4 (ar 1) 4) 8 (ar 2) 4) 12 (ar 3) i) 20 (ar 8) i) 28 (ar 9) i) → V l mX7_image false S (zrm 2 0 0) (zFm false S Q 0 0) 0 0 77 [(1, .int x1), (0, .ref 0)] [] (pM (upf (upf (upf fv 19 (nI 1)) 20 (fv 7)) 21 (fv 18)) (upa ar 22 ro)) := by
    intro m
    induction m with
    | zero =>
      intro i x1 ro hi h1 hro
      have ei : i = 8 := by omega
      rw [ei] at hro
      refine V.g2 60 [23, 77, 136] mX7_image_ok rfl ?_
      refine pk_le 8 i (fun e => ?_) (fun e => absurd e (by omega)) rfl h1
      refine V.kn [1, 0] [(1, .int (nI 0)), (0, .ref 0)] [] (pM (upf (upf (upf fv 19 (nI 1)) 20 (fv 7)) 21 (fv 18)) (upa ar 22 ro)) rfl rfl rfl ?_
      exact loop3 30 0 _ _ rfl rfl (by rw [hro, fdF_0])
    | succ m ih =>
      intro i x1 ro hi h1 hro
      refine V.g2 60 [23, 77, 136] mX7_image_ok rfl ?_
      refine pk_le 8 i (fun e => absurd e (by omega)) (fun e => ?_) rfl h1
      refine ⟨i, by omega, h1, rfl, ?_⟩
      refine ⟨(12 + i), by omega, (nadd rfl h1), rfl, ?_⟩
      refine ⟨i, by omega, h1, rfl, ?_⟩
      refine ⟨(20 + i), by omega, (nadd rfl h1), rfl, ?_⟩
      refine ⟨i, by omega, h1, rfl, ?_⟩
      refine ⟨(28 + i), by omega, (nadd rfl h1), rfl, ?_⟩
      refine V.kn [1, 0] [(1, .int (x1 + zi 1)), (0, .ref 0)] [] (pM (upf (upf (upf fv 19 (nI 1)) 20 (fv 7)) 21 (fv 18)) (upa ar 22 (upd (upd (upd ro (12 + i) ((ar 3) i)) (20 + i) ((ar 8) i)) (28 + i) ((ar 9) i)))) rfl rfl rfl ?_
      exact ih (i + 1) _ _ (by omega) (ninc h1) (by rw [hro, fdF_u (k := 12 + i) (by omega), fdF_u (k := 12 + i) (by omega), fdF_s, fdF_u (k := 20 + i) (by omega), fdF_s, fdF_s])
  have loop1 : ∀ (m i : Nat) (x1 : Int32) (ro : fI), i + m = 4 → x1 = nI i → ro = (fdF (fdF (fdF (ar 22) 0 (ar 0) i) 4 (ar 1) i) 8 (ar 2) i) → V l mX7_image false S (zrm 2 0 0) (zFm false S Q 0 0) 0 0 23 [(1, .int x1), (0, .ref 0)] [] (pM (upf (upf (upf fv 19 (nI 1)) 20 (fv 7)) 21 (fv 18)) (upa ar 22 ro)) := by
    intro m
    induction m with
    | zero =>
      intro i x1 ro hi h1 hro
      have ei : i = 4 := by omega
      rw [ei] at hro
      refine V.g2 60 [23, 77, 136] mX7_image_ok rfl ?_
      refine pk_le 4 i (fun e => ?_) (fun e => absurd e (by omega)) rfl h1
      refine V.kn [1, 0] [(1, .int (nI 0)), (0, .ref 0)] [] (pM (upf (upf (upf fv 19 (nI 1)) 20 (fv 7)) 21 (fv 18)) (upa ar 22 ro)) rfl rfl rfl ?_
      exact loop2 8 0 _ _ rfl rfl (by rw [hro, fdF_0, fdF_0, fdF_0])
    | succ m ih =>
      intro i x1 ro hi h1 hro
      refine V.g2 60 [23, 77, 136] mX7_image_ok rfl ?_
      refine pk_le 4 i (fun e => absurd e (by omega)) (fun e => ?_) rfl h1
      refine ⟨i, by omega, h1, rfl, ?_⟩
      refine ⟨i, by omega, h1, rfl, ?_⟩
      refine ⟨i, by omega, h1, rfl, ?_⟩
      refine ⟨(4 + i), by omega, (nadd rfl h1), rfl, ?_⟩
      refine ⟨i, by omega, h1, rfl, ?_⟩
      refine ⟨(8 + i), by omega, (nadd rfl h1), rfl, ?_⟩
      refine V.kn [1, 0] [(1, .int (x1 + zi 1)), (0, .ref 0)] [] (pM (upf (upf (upf fv 19 (nI 1)) 20 (fv 7)) 21 (fv 18)) (upa ar 22 (upd (upd (upd ro i ((ar 0) i)) (4 + i) ((ar 1) i)) (8 + i) ((ar 2) i)))) rfl rfl rfl ?_
      exact ih (i + 1) _ _ (by omega) (ninc h1) (by rw [hro, fdF_u (k := i) (by omega), fdF_u (k := i) (by omega), fdF_s0, fdF_u (k := 4 + i) (by omega), fdF_s, fdF_s])
  subst hS
  refine V.g2 60 [23, 77, 136] mX7_image_ok rfl ?_
  refine And.intro (Or.inr rfl) ?_
  refine V.kn [1, 0] [(1, .int (nI 0)), (0, .ref 0)] [] (pM (upf (upf (upf fv 19 (nI 1)) 20 (fv 7)) 21 (fv 18)) (upa ar 22 (ar 22))) rfl rfl rfl ?_
  exact loop1 4 0 _ _ rfl rfl (by rw [fdF_0, fdF_0, fdF_0])
theorem fdF_all {g f : fI} {n : Nat} : ∀ i, i < n → fdF g 0 f n i = f i := fun i hi => by
  have := fdF_in (g := g) (t := 0) (f := f) hi
  rwa [Nat.zero_add] at this
def T7_back : zT := fun args hs Q => ∃ (fv : Nat → Int32) (ar : Nat → fI) (gv : Nat → Int32) (br : Nat → fI), ((¬ fv 19 = 0 → imK (ar 22) gv br)) ∧ args = [.ref 0] ∧ hs = pM fv ar ∧ (fv 19 = 0 → Q (some (.int (-3))) hs) ∧ (¬ fv 19 = 0 → Q (some (.int (fv 20))) (pM (upf (upf (upf (upf (upf (upf fv 5 (gv 5)) 7 (fv 20)) 10 (gv 10)) 11 (gv 11)) 12 (gv 12)) 18 (fv 21)) (upa (upa (upa (upa (upa (upa (upa (upa ar 0 (br 0)) 1 (br 1)) 2 (br 2)) 3 (br 3)) 4 (br 4)) 6 (br 6)) 8 (br 8)) 9 (br 9))))
set_option maxHeartbeats 500000 in
theorem c7_back (l : Launch) : Ct l mX7_back false 2 0 0 T7_back := by
  refine Ct.intro mX7_back_ok ?_
  rintro args hs Q ⟨fv, ar, gv, br, hk, rfl, rfl, h0, h1⟩
  refine ⟨Nat.le_of_ble_eq_true rfl, ?_⟩
  refine V.g2 60 [10, 28, 82, 141, 168, 194, 238] mX7_back_ok rfl ?_
  refine And.intro (fun (e : ¬ (fv 19) = (0 : Int32)) => ?_) (fun (e : (fv 19) = (0 : Int32)) => ?_)
  · obtain ⟨k1, k2, k3, k66, k67, k68, k69, k70, k71⟩ := hk e
    have h := h1 e
    clear h0 h1 hk
    generalize hS : pM fv ar = S
    have loop3 : ∀ (m i : Nat) (x1 : Int32) (a6 : fI), i + m = 30 → x1 = nI i → a6 = fdF (ar 6) 0 (br 6) i → V l mX7_back false S (zrm 2 0 0) (zFm false S Q 0 0) 0 0 141 [(1, .int x1), (0, .ref 0)] [] (pM (upf (upf fv 7 (fv 20)) 18 (fv 21)) (upa (upa (upa (upa (upa (upa (upa ar 0 (br 0)) 1 (br 1)) 2 (br 2)) 3 (br 3)) 6 a6) 8 (br 8)) 9 (br 9))) := by
      intro m
      induction m with
      | zero =>
        intro i x1 a6 hi h1 g6
        have ei : i = 30 := by omega
        rw [ei] at g6
        refine V.g2 60 [10, 28, 82, 141, 168, 194, 238] mX7_back_ok rfl ?_
        refine pk_le 30 i (fun e => ?_) (fun e => absurd e (by omega)) rfl h1
        refine V.nm [(1, .int x1), (0, .ref 0)] [] (pM (upf (upf fv 7 (fv 20)) 18 (fv 21)) (upa (upa (upa (upa (upa (upa (upa ar 0 (br 0)) 1 (br 1)) 2 (br 2)) 3 (br 3)) 8 (br 8)) 9 (br 9)) 6 a6)) rfl rfl rfl ?_
        refine V.sim (zsm6 (y := (br 6)) (fun i hi => by rw [g6]; exact fdF_all i hi)) ?_
        refine V.g2 60 [10, 28, 82, 141, 168, 194, 238] mX7_back_ok rfl ?_
        refine ⟨66, by omega, rfl, rfl, ?_⟩
        refine ⟨0, by omega, rfl, rfl, ?_⟩
        refine ⟨67, by omega, rfl, rfl, ?_⟩
        refine ⟨1, by omega, rfl, rfl, ?_⟩
        refine V.nm [(1, .int x1), (0, .ref 0)] [] (pM (upf (upf fv 7 (fv 20)) 18 (fv 21)) (upa (upa (upa (upa (upa (upa (upa (upa ar 0 (br 0)) 1 (br 1)) 2 (br 2)) 3 (br 3)) 6 (br 6)) 8 (br 8)) 9 (br 9)) 4 (upd (upd (ar 4) 0 ((ar 22) 66)) 1 ((ar 22) 67)))) rfl rfl rfl ?_
        refine V.sim (zsm4 (y := (br 4)) (fun i hi => by rw [k66, k67]; rcases (show i = 0 ∨ i = 1 by omega) with rfl | rfl <;> rfl)) ?_
        refine V.g2 60 [10, 28, 82, 141, 168, 194, 238] mX7_back_ok rfl ?_
        refine ⟨68, by omega, rfl, rfl, ?_⟩
        refine ⟨69, by omega, rfl, rfl, ?_⟩
        refine ⟨70, by omega, rfl, rfl, ?_⟩
        refine ⟨71, by omega, rfl, rfl, ?_⟩
        refine V.kn [1, 0] [(1, .int x1), (0, .ref 0)] [] (pM (upf (upf (upf (upf (upf (upf fv 5 ((ar 22) 68)) 7 (fv 20)) 10 ((ar 22) 69)) 11 ((ar 22) 70)) 12 ((ar 22) 71)) 18 (fv 21)) (upa (upa (upa (upa (upa (upa (upa (upa ar 0 (br 0)) 1 (br 1)) 2 (br 2)) 3 (br 3)) 4 (br 4)) 6 (br 6)) 8 (br 8)) 9 (br 9))) rfl rfl rfl ?_
        rw [k68, k69, k70, k71]
        refine V.g2 60 [10, 28, 82, 141, 168, 194, 238] mX7_back_ok rfl ?_
        exact ⟨_, zsim_rfl _, h⟩
      | succ m ih =>
        intro i x1 a6 hi h1 g6
        refine V.g2 60 [10, 28, 82, 141, 168, 194, 238] mX7_back_ok rfl ?_
        refine pk_le 30 i (fun e => absurd e (by omega)) (fun e => ?_) rfl h1
        refine ⟨(36 + i), by omega, (nadd rfl h1), rfl, ?_⟩
        refine ⟨i, by omega, h1, rfl, ?_⟩
        refine V.kn [1, 0] [(1, .int (x1 + zi 1)), (0, .ref 0)] [] (pM (upf (upf fv 7 (fv 20)) 18 (fv 21)) (upa (upa (upa (upa (upa (upa (upa ar 0 (br 0)) 1 (br 1)) 2 (br 2)) 3 (br 3)) 6 (upd a6 i ((ar 22) (36 + i)))) 8 (br 8)) 9 (br 9))) rfl rfl rfl ?_
        exact ih (i + 1) _ _ (by omega) (ninc h1) (by rw [g6, k3 i (by omega)]; exact fdF_s0)
    have loop2 : ∀ (m i : Nat) (x1 : Int32) (a3 a8 a9 : fI), i + m = 8 → x1 = nI i → a3 = fdF (ar 3) 0 (br 3) i → a8 = fdF (ar 8) 0 (br 8) i → a9 = fdF (ar 9) 0 (br 9) i → V l mX7_back false S (zrm 2 0 0) (zFm false S Q 0 0) 0 0 82 [(1, .int x1), (0, .ref 0)] [] (pM (upf (upf fv 7 (fv 20)) 18 (fv 21)) (upa (upa (upa (upa (upa (upa ar 0 (br 0)) 1 (br 1)) 2 (br 2)) 3 a3) 8 a8) 9 a9)) := by
      intro m
      induction m with
      | zero =>
        intro i x1 a3 a8 a9 hi h1 g3 g8 g9
        have ei : i = 8 := by omega
        rw [ei] at g3
        rw [ei] at g8
        rw [ei] at g9
        refine V.g2 60 [10, 28, 82, 141, 168, 194, 238] mX7_back_ok rfl ?_
        refine pk_le 8 i (fun e => ?_) (fun e => absurd e (by omega)) rfl h1
        refine V.nm [(1, .int (nI 0)), (0, .ref 0)] [] (pM (upf (upf fv 7 (fv 20)) 18 (fv 21)) (upa (upa (upa (upa (upa (upa ar 0 (br 0)) 1 (br 1)) 2 (br 2)) 8 a8) 9 a9) 3 a3)) rfl rfl rfl ?_
        refine V.sim (zsm3 (y := (br 3)) (fun i hi => by rw [g3]; exact fdF_all i hi)) ?_
        refine V.nm [(1, .int (nI 0)), (0, .ref 0)] [] (pM (upf (upf fv 7 (fv 20)) 18 (fv 21)) (upa (upa (upa (upa (upa (upa ar 0 (br 0)) 1 (br 1)) 2 (br 2)) 3 (br 3)) 9 a9) 8 a8)) rfl rfl rfl ?_
        refine V.sim (zsm8 (y := (br 8)) (fun i hi => by rw [g8]; exact fdF_all i hi)) ?_
        refine V.nm [(1, .int (nI 0)), (0, .ref 0)] [] (pM (upf (upf fv 7 (fv 20)) 18 (fv 21)) (upa (upa (upa (upa (upa (upa ar 0 (br 0)) 1 (br 1)) 2 (br 2)) 3 (br 3)) 8 (br 8)) 9 a9)) rfl rfl rfl ?_
        refine V.sim (zsm9 (y := (br 9)) (fun i hi => by rw [g9]; exact fdF_all i hi)) ?_
        refine V.kn [1, 0] [(1, .int (nI 0)), (0, .ref 0)] [] (pM (upf (upf fv 7 (fv 20)) 18 (fv 21)) (upa (upa (upa (upa (upa (upa ar 0 (br 0)) 1 (br 1)) 2 (br 2)) 3 (br 3)) 8 (br 8)) 9 (br 9))) rfl rfl rfl ?_
        exact loop3 30 0 _ (ar 6) rfl rfl (by rw [fdF_0])
      | succ m ih =>
        intro i x1 a3 a8 a9 hi h1 g3 g8 g9
        refine V.g2 60 [10, 28, 82, 141, 168, 194, 238] mX7_back_ok rfl ?_
        refine pk_le 8 i (fun e => absurd e (by omega)) (fun e => ?_) rfl h1
        refine ⟨(12 + i), by omega, (nadd rfl h1), rfl, ?_⟩
        refine ⟨i, by omega, h1, rfl, ?_⟩
        refine ⟨(20 + i), by omega, (nadd rfl h1), rfl, ?_⟩
        refine ⟨i, by omega, h1, rfl, ?_⟩
        refine ⟨(28 + i), by omega, (nadd rfl h1), rfl, ?_⟩
        refine ⟨i, by omega, h1, rfl, ?_⟩
        refine V.kn [1, 0] [(1, .int (x1 + zi 1)), (0, .ref 0)] [] (pM (upf (upf fv 7 (fv 20)) 18 (fv 21)) (upa (upa (upa (upa (upa (upa ar 0 (br 0)) 1 (br 1)) 2 (br 2)) 3 (upd a3 i ((ar 22) (12 + i)))) 8 (upd a8 i ((ar 22) (20 + i)))) 9 (upd a9 i ((ar 22) (28 + i))))) rfl rfl rfl ?_
        exact ih (i + 1) _ _ _ _ (by omega) (ninc h1) (by rw [g3, (k2 i (by omega)).1]; exact fdF_s0) (by rw [g8, (k2 i (by omega)).2.1]; exact fdF_s0) (by rw [g9, (k2 i (by omega)).2.2]; exact fdF_s0)
    have loop1 : ∀ (m i : Nat) (x1 : Int32) (a0 a1 a2 : fI), i + m = 4 → x1 = nI i → a0 = fdF (ar 0) 0 (br 0) i → a1 = fdF (ar 1) 0 (br 1) i → a2 = fdF (ar 2) 0 (br 2) i → V l mX7_back false S (zrm 2 0 0) (zFm false S Q 0 0) 0 0 28 [(1, .int x1), (0, .ref 0)] [] (pM (upf (upf fv 7 (fv 20)) 18 (fv 21)) (upa (upa (upa ar 0 a0) 1 a1) 2 a2)) := by
      intro m
      induction m with
      | zero =>
        intro i x1 a0 a1 a2 hi h1 g0 g1 g2
        have ei : i = 4 := by omega
        rw [ei] at g0
        rw [ei] at g1
        rw [ei] at g2
        refine V.g2 60 [10, 28, 82, 141, 168, 194, 238] mX7_back_ok rfl ?_
        refine pk_le 4 i (fun e => ?_) (fun e => absurd e (by omega)) rfl h1
        refine V.nm [(1, .int (nI 0)), (0, .ref 0)] [] (pM (upf (upf fv 7 (fv 20)) 18 (fv 21)) (upa (upa (upa ar 1 a1) 2 a2) 0 a0)) rfl rfl rfl ?_
        refine V.sim (zsm0 (y := (br 0)) (fun i hi => by rw [g0]; exact fdF_all i hi)) ?_
        refine V.nm [(1, .int (nI 0)), (0, .ref 0)] [] (pM (upf (upf fv 7 (fv 20)) 18 (fv 21)) (upa (upa (upa ar 0 (br 0)) 2 a2) 1 a1)) rfl rfl rfl ?_
        refine V.sim (zsm1 (y := (br 1)) (fun i hi => by rw [g1]; exact fdF_all i hi)) ?_
        refine V.nm [(1, .int (nI 0)), (0, .ref 0)] [] (pM (upf (upf fv 7 (fv 20)) 18 (fv 21)) (upa (upa (upa ar 0 (br 0)) 1 (br 1)) 2 a2)) rfl rfl rfl ?_
        refine V.sim (zsm2 (y := (br 2)) (fun i hi => by rw [g2]; exact fdF_all i hi)) ?_
        refine V.kn [1, 0] [(1, .int (nI 0)), (0, .ref 0)] [] (pM (upf (upf fv 7 (fv 20)) 18 (fv 21)) (upa (upa (upa ar 0 (br 0)) 1 (br 1)) 2 (br 2))) rfl rfl rfl ?_
        exact loop2 8 0 _ (ar 3) (ar 8) (ar 9) rfl rfl (by rw [fdF_0]) (by rw [fdF_0]) (by rw [fdF_0])
      | succ m ih =>
        intro i x1 a0 a1 a2 hi h1 g0 g1 g2
        refine V.g2 60 [10, 28, 82, 141, 168, 194, 238] mX7_back_ok rfl ?_
        refine pk_le 4 i (fun e => absurd e (by omega)) (fun e => ?_) rfl h1
        refine ⟨i, by omega, h1, rfl, ?_⟩
        refine ⟨i, by omega, h1, rfl, ?_⟩
        refine ⟨(4 + i), by omega, (nadd rfl h1), rfl, ?_⟩
        refine ⟨i, by omega, h1, rfl, ?_⟩
        refine ⟨(8 + i), by omega, (nadd rfl h1), rfl, ?_⟩
        refine ⟨i, by omega, h1, rfl, ?_⟩
        refine V.kn [1, 0] [(1, .int (x1 + zi 1)), (0, .ref 0)] [] (pM (upf (upf fv 7 (fv 20)) 18 (fv 21)) (upa (upa (upa ar 0 (upd a0 i ((ar 22) i))) 1 (upd a1 i ((ar 22) (4 + i)))) 2 (upd a2 i ((ar 22) (8 + i))))) rfl rfl rfl ?_
        exact ih (i + 1) _ _ _ _ (by omega) (ninc h1) (by rw [g0, (k1 i (by omega)).1]; exact fdF_s0) (by rw [g1, (k1 i (by omega)).2.1]; exact fdF_s0) (by rw [g2, (k1 i (by omega)).2.2]; exact fdF_s0)
    subst hS
    refine V.g2 60 [10, 28, 82, 141, 168, 194, 238] mX7_back_ok rfl ?_
    refine V.kn [1, 0] [(1, .int (nI 0)), (0, .ref 0)] [] (pM (upf (upf fv 7 (fv 20)) 18 (fv 21)) ar) rfl rfl rfl ?_
    exact loop1 4 0 _ (ar 0) (ar 1) (ar 2) rfl rfl (by rw [fdF_0]) (by rw [fdF_0]) (by rw [fdF_0])
  · exact ⟨_, zsim_rfl _, h0 e⟩
