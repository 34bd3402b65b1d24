/-! ===== the reference: what is kept; rows alike; at, roll, hands ===== -/
def kF (f g : Nat → Int32) : Prop := g 5 = f 5 ∧ g 7 = f 7 ∧ g 10 = f 10 ∧ g 11 = f 11 ∧ g 12 = f 12 ∧ g 14 = f 14 ∧ g 17 = f 17 ∧ g 18 = f 18 ∧ g 19 = f 19 ∧ g 20 = f 20 ∧ g 21 = f 21
def kA (a b : Nat → fI) : Prop := b 0 = a 0 ∧ b 1 = a 1 ∧ b 2 = a 2 ∧ b 3 = a 3 ∧ b 4 = a 4 ∧ b 6 = a 6 ∧ b 8 = a 8 ∧ b 9 = a 9 ∧ b 13 = a 13 ∧ b 15 = a 15 ∧ b 16 = a 16 ∧ b 22 = a 22 ∧ b 23 = a 23 ∧ b 24 = a 24 ∧ b 25 = a 25 ∧ b 31 = a 31
def kM (f : Nat → Int32) (a : Nat → fI) (g : Nat → Int32) (b : Nat → fI) : Prop := kF f g ∧ kA a b
theorem zsm0 {fv : Nat → Int32} {ar : Nat → fI} {x y : fI} (h : ∀ i, i < 4 → x i = y i) : zsim (pM fv (upa ar 0 x)) (pM fv (upa ar 0 y)) := zsim_e (zsim_c (zsm_i h) (zsim_rfl _))
theorem zsm1 {fv : Nat → Int32} {ar : Nat → fI} {x y : fI} (h : ∀ i, i < 4 → x i = y i) : zsim (pM fv (upa ar 1 x)) (pM fv (upa ar 1 y)) := zsim_e (zsim_e (zsim_c (zsm_i h) (zsim_rfl _)))
theorem zsm2 {fv : Nat → Int32} {ar : Nat → fI} {x y : fI} (h : ∀ i, i < 4 → x i = y i) : zsim (pM fv (upa ar 2 x)) (pM fv (upa ar 2 y)) := zsim_e (zsim_e (zsim_e (zsim_c (zsm_i h) (zsim_rfl _))))
theorem zsm3 {fv : Nat → Int32} {ar : Nat → fI} {x y : fI} (h : ∀ i, i < 8 → x i = y i) : zsim (pM fv (upa ar 3 x)) (pM fv (upa ar 3 y)) := zsim_e (zsim_e (zsim_e (zsim_e (zsim_c (zsm_i h) (zsim_rfl _)))))
theorem zsm4 {fv : Nat → Int32} {ar : Nat → fI} {x y : fI} (h : ∀ i, i < 2 → x i = y i) : zsim (pM fv (upa ar 4 x)) (pM fv (upa ar 4 y)) := zsim_e (zsim_e (zsim_e (zsim_e (zsim_e (zsim_c (zsm_i h) (zsim_rfl _))))))
theorem zsm6 {fv : Nat → Int32} {ar : Nat → fI} {x y : fI} (h : ∀ i, i < 30 → x i = y i) : zsim (pM fv (upa ar 6 x)) (pM fv (upa ar 6 y)) := zsim_e (zsim_e (zsim_e (zsim_e (zsim_e (zsim_e (zsim_c (zsm_i h) (zsim_rfl _)))))))
theorem zsm8 {fv : Nat → Int32} {ar : Nat → fI} {x y : fI} (h : ∀ i, i < 8 → x i = y i) : zsim (pM fv (upa ar 8 x)) (pM fv (upa ar 8 y)) := zsim_e (zsim_e (zsim_e (zsim_e (zsim_e (zsim_e (zsim_e (zsim_c (zsm_i h) (zsim_rfl _))))))))
theorem zsm9 {fv : Nat → Int32} {ar : Nat → fI} {x y : fI} (h : ∀ i, i < 8 → x i = y i) : zsim (pM fv (upa ar 9 x)) (pM fv (upa ar 9 y)) := zsim_e (zsim_e (zsim_e (zsim_e (zsim_e (zsim_e (zsim_e (zsim_e (zsim_c (zsm_i h) (zsim_rfl _)))))))))
theorem zsm13 {fv : Nat → Int32} {ar : Nat → fI} {x y : fI} (h : ∀ i, i < 160 → x i = y i) : zsim (pM fv (upa ar 13 x)) (pM fv (upa ar 13 y)) := zsim_e (zsim_e (zsim_e (zsim_e (zsim_e (zsim_e (zsim_e (zsim_e (zsim_e (zsim_c (zsm_i h) (zsim_rfl _))))))))))
theorem zsm15 {fv : Nat → Int32} {ar : Nat → fI} {x y : fI} (h : ∀ i, i < 1200 → x i = y i) : zsim (pM fv (upa ar 15 x)) (pM fv (upa ar 15 y)) := zsim_e (zsim_e (zsim_e (zsim_e (zsim_e (zsim_e (zsim_e (zsim_e (zsim_e (zsim_e (zsim_c (zsm_i h) (zsim_rfl _)))))))))))
theorem zsm16 {fv : Nat → Int32} {ar : Nat → fI} {x y : fI} (h : ∀ i, i < 24 → x i = y i) : zsim (pM fv (upa ar 16 x)) (pM fv (upa ar 16 y)) := zsim_e (zsim_e (zsim_e (zsim_e (zsim_e (zsim_e (zsim_e (zsim_e (zsim_e (zsim_e (zsim_e (zsim_c (zsm_i h) (zsim_rfl _))))))))))))
theorem zsm22 {fv : Nat → Int32} {ar : Nat → fI} {x y : fI} (h : ∀ i, i < 72 → x i = y i) : zsim (pM fv (upa ar 22 x)) (pM fv (upa ar 22 y)) := zsim_e (zsim_e (zsim_e (zsim_e (zsim_e (zsim_e (zsim_e (zsim_e (zsim_e (zsim_e (zsim_e (zsim_e (zsim_c (zsm_i h) (zsim_rfl _)))))))))))))
theorem zsm23 {fv : Nat → Int32} {ar : Nat → fI} {x y : fI} (h : ∀ i, i < 4 → x i = y i) : zsim (pM fv (upa ar 23 x)) (pM fv (upa ar 23 y)) := zsim_e (zsim_e (zsim_e (zsim_e (zsim_e (zsim_e (zsim_e (zsim_e (zsim_e (zsim_e (zsim_e (zsim_e (zsim_e (zsim_c (zsm_i h) (zsim_rfl _))))))))))))))
theorem zsm24 {fv : Nat → Int32} {ar : Nat → fI} {x y : fI} (h : ∀ i, i < 4 → x i = y i) : zsim (pM fv (upa ar 24 x)) (pM fv (upa ar 24 y)) := zsim_e (zsim_e (zsim_e (zsim_e (zsim_e (zsim_e (zsim_e (zsim_e (zsim_e (zsim_e (zsim_e (zsim_e (zsim_e (zsim_e (zsim_c (zsm_i h) (zsim_rfl _)))))))))))))))
theorem zsm25 {fv : Nat → Int32} {ar : Nat → fI} {x y : fI} (h : ∀ i, i < 160 → x i = y i) : zsim (pM fv (upa ar 25 x)) (pM fv (upa ar 25 y)) := zsim_e (zsim_e (zsim_e (zsim_e (zsim_e (zsim_e (zsim_e (zsim_e (zsim_e (zsim_e (zsim_e (zsim_e (zsim_e (zsim_e (zsim_e (zsim_c (zsm_i h) (zsim_rfl _))))))))))))))))
theorem zsm26 {fv : Nat → Int32} {ar : Nat → fI} {x y : fI} (h : ∀ i, i < 43 → x i = y i) : zsim (pM fv (upa ar 26 x)) (pM fv (upa ar 26 y)) := zsim_e (zsim_e (zsim_e (zsim_e (zsim_e (zsim_e (zsim_e (zsim_e (zsim_e (zsim_e (zsim_e (zsim_e (zsim_e (zsim_e (zsim_e (zsim_e (zsim_c (zsm_i h) (zsim_rfl _)))))))))))))))))
theorem zsm31 {fv : Nat → Int32} {ar : Nat → fI} {x y : fI} (h : ∀ i, i < 96 → x i = y i) : zsim (pM fv (upa ar 31 x)) (pM fv (upa ar 31 y)) := zsim_e (zsim_e (zsim_e (zsim_e (zsim_e (zsim_e (zsim_e (zsim_e (zsim_e (zsim_e (zsim_e (zsim_e (zsim_e (zsim_e (zsim_e (zsim_e (zsim_e (zsim_c (zsm_i h) (zsim_rfl _))))))))))))))))))
theorem zsm32 {fv : Nat → Int32} {ar : Nat → fI} {x y : fI} (h : ∀ i, i < 200 → x i = y i) : zsim (pM fv (upa ar 32 x)) (pM fv (upa ar 32 y)) := zsim_e (zsim_e (zsim_e (zsim_e (zsim_e (zsim_e (zsim_e (zsim_e (zsim_e (zsim_e (zsim_e (zsim_e (zsim_e (zsim_e (zsim_e (zsim_e (zsim_e (zsim_e (zsim_c (zsm_i h) (zsim_rfl _)))))))))))))))))))
theorem zsm36 {fv : Nat → Int32} {ar : Nat → fI} {x y : fI} (h : ∀ i, i < 200 → x i = y i) : zsim (pM fv (upa ar 36 x)) (pM fv (upa ar 36 y)) := zsim_e (zsim_e (zsim_e (zsim_e (zsim_e (zsim_e (zsim_e (zsim_e (zsim_e (zsim_e (zsim_e (zsim_e (zsim_e (zsim_e (zsim_e (zsim_e (zsim_e (zsim_e (zsim_e (zsim_c (zsm_i h) (zsim_rfl _))))))))))))))))))))
theorem zsm37 {fv : Nat → Int32} {ar : Nat → fI} {x y : fI} (h : ∀ i, i < 6 → x i = y i) : zsim (pM fv (upa ar 37 x)) (pM fv (upa ar 37 y)) := zsim_e (zsim_e (zsim_e (zsim_e (zsim_e (zsim_e (zsim_e (zsim_e (zsim_e (zsim_e (zsim_e (zsim_e (zsim_e (zsim_e (zsim_e (zsim_e (zsim_e (zsim_e (zsim_e (zsim_e (zsim_c (zsm_i h) (zsim_rfl _)))))))))))))))))))))
theorem zsm38 {fv : Nat → Int32} {ar : Nat → fI} {x y : fI} (h : ∀ i, i < 30 → x i = y i) : zsim (pM fv (upa ar 38 x)) (pM fv (upa ar 38 y)) := zsim_e (zsim_e (zsim_e (zsim_e (zsim_e (zsim_e (zsim_e (zsim_e (zsim_e (zsim_e (zsim_e (zsim_e (zsim_e (zsim_e (zsim_e (zsim_e (zsim_e (zsim_e (zsim_e (zsim_e (zsim_e (zsim_c (zsm_i h) (zsim_rfl _))))))))))))))))))))))
theorem zsm39 {fv : Nat → Int32} {ar : Nat → fI} {x y : fI} (h : ∀ i, i < 30 → x i = y i) : zsim (pM fv (upa ar 39 x)) (pM fv (upa ar 39 y)) := zsim_e (zsim_e (zsim_e (zsim_e (zsim_e (zsim_e (zsim_e (zsim_e (zsim_e (zsim_e (zsim_e (zsim_e (zsim_e (zsim_e (zsim_e (zsim_e (zsim_e (zsim_e (zsim_e (zsim_e (zsim_e (zsim_e (zsim_c (zsm_i h) (zsim_rfl _)))))))))))))))))))))))
theorem zsm40 {fv : Nat → Int32} {ar : Nat → fI} {x y : fI} (h : ∀ i, i < 30 → x i = y i) : zsim (pM fv (upa ar 40 x)) (pM fv (upa ar 40 y)) := zsim_e (zsim_e (zsim_e (zsim_e (zsim_e (zsim_e (zsim_e (zsim_e (zsim_e (zsim_e (zsim_e (zsim_e (zsim_e (zsim_e (zsim_e (zsim_e (zsim_e (zsim_e (zsim_e (zsim_e (zsim_e (zsim_e (zsim_e (zsim_c (zsm_i h) (zsim_rfl _))))))))))))))))))))))))
theorem zsm49 {fv : Nat → Int32} {ar : Nat → fI} {x y : fI} (h : ∀ i, i < 8 → x i = y i) : zsim (pM fv (upa ar 49 x)) (pM fv (upa ar 49 y)) := zsim_e (zsim_e (zsim_e (zsim_e (zsim_e (zsim_e (zsim_e (zsim_e (zsim_e (zsim_e (zsim_e (zsim_e (zsim_e (zsim_e (zsim_e (zsim_e (zsim_e (zsim_e (zsim_e (zsim_e (zsim_e (zsim_e (zsim_e (zsim_e (zsim_c (zsm_i h) (zsim_rfl _)))))))))))))))))))))))))
theorem zsm50 {fv : Nat → Int32} {ar : Nat → fI} {x y : fI} (h : ∀ i, i < 4 → x i = y i) : zsim (pM fv (upa ar 50 x)) (pM fv (upa ar 50 y)) := zsim_e (zsim_e (zsim_e (zsim_e (zsim_e (zsim_e (zsim_e (zsim_e (zsim_e (zsim_e (zsim_e (zsim_e (zsim_e (zsim_e (zsim_e (zsim_e (zsim_e (zsim_e (zsim_e (zsim_e (zsim_e (zsim_e (zsim_e (zsim_e (zsim_e (zsim_c (zsm_i h) (zsim_rfl _))))))))))))))))))))))))))
theorem zsm51 {fv : Nat → Int32} {ar : Nat → fI} {x y : fI} (h : ∀ i, i < 4 → x i = y i) : zsim (pM fv (upa ar 51 x)) (pM fv (upa ar 51 y)) := zsim_e (zsim_e (zsim_e (zsim_e (zsim_e (zsim_e (zsim_e (zsim_e (zsim_e (zsim_e (zsim_e (zsim_e (zsim_e (zsim_e (zsim_e (zsim_e (zsim_e (zsim_e (zsim_e (zsim_e (zsim_e (zsim_e (zsim_e (zsim_e (zsim_e (zsim_e (zsim_c (zsm_i h) (zsim_rfl _)))))))))))))))))))))))))))
theorem zsm52 {fv : Nat → Int32} {ar : Nat → fI} {x y : fI} (h : ∀ i, i < 8 → x i = y i) : zsim (pM fv (upa ar 52 x)) (pM fv (upa ar 52 y)) := zsim_e (zsim_e (zsim_e (zsim_e (zsim_e (zsim_e (zsim_e (zsim_e (zsim_e (zsim_e (zsim_e (zsim_e (zsim_e (zsim_e (zsim_e (zsim_e (zsim_e (zsim_e (zsim_e (zsim_e (zsim_e (zsim_e (zsim_e (zsim_e (zsim_e (zsim_e (zsim_e (zsim_c (zsm_i h) (zsim_rfl _))))))))))))))))))))))))))))
theorem zsm54 {fv : Nat → Int32} {ar : Nat → fI} {x y : fI} (h : ∀ i, i < 8 → x i = y i) : zsim (pM fv (upa ar 54 x)) (pM fv (upa ar 54 y)) := zsim_e (zsim_e (zsim_e (zsim_e (zsim_e (zsim_e (zsim_e (zsim_e (zsim_e (zsim_e (zsim_e (zsim_e (zsim_e (zsim_e (zsim_e (zsim_e (zsim_e (zsim_e (zsim_e (zsim_e (zsim_e (zsim_e (zsim_e (zsim_e (zsim_e (zsim_e (zsim_e (zsim_e (zsim_c (zsm_i h) (zsim_rfl _)))))))))))))))))))))))))))))
theorem zsm55 {fv : Nat → Int32} {ar : Nat → fI} {x y : fI} (h : ∀ i, i < 8 → x i = y i) : zsim (pM fv (upa ar 55 x)) (pM fv (upa ar 55 y)) := zsim_e (zsim_e (zsim_e (zsim_e (zsim_e (zsim_e (zsim_e (zsim_e (zsim_e (zsim_e (zsim_e (zsim_e (zsim_e (zsim_e (zsim_e (zsim_e (zsim_e (zsim_e (zsim_e (zsim_e (zsim_e (zsim_e (zsim_e (zsim_e (zsim_e (zsim_e (zsim_e (zsim_e (zsim_e (zsim_c (zsm_i h) (zsim_rfl _))))))))))))))))))))))))))))))
def T7_at : zT := fun args hs Q => ∃ (fv : Nat → Int32) (ar : Nat → fI) (x y : Int32) (P : zP), mOk fv ar P ∧ args = [.ref 0, .int x, .int y] ∧ hs = pM fv ar ∧ ((wiB x 29 && wiB y 1) = false → Q (some (.int (-1000000))) hs) ∧ (∀ te, te < 30 → x = nI te → wiB y 1 = true → ∀ r : Int32, r = (if y = nI 0 then (rlF (cM fv ar) P (ar 4) (te + 1)).1 else (rlF (cM fv ar) P (ar 4) (te + 1)).2.1) → ∀ fv2 ar2, kM fv ar fv2 ar2 → Q (some (.int r)) (pM fv2 ar2))
theorem c7_at (l : Launch) : Ct l mX7_at false 8 0 0 T7_at := by
  refine Ct.intro mX7_at_ok ?_
  rintro args hs Q ⟨fv, ar, x, y, P, hM, rfl, rfl, h0, h1⟩
  refine ⟨Nat.le_of_ble_eq_true rfl, ?_⟩
  refine V.g2 60 [] mX7_at_ok rfl ?_
  refine V.cs mX7_at_ok rfl lX7_203 (c7_isTenth l) rfl rfl rfl rfl ⟨_, rfl, fun B hB => ⟨rfl, ?_⟩⟩
  rcases B with _ | _
  · refine V.g2 60 [] mX7_at_ok rfl ?_
    refine And.intro (fun _ => ?_) (fun e => absurd rfl e)
    exact ⟨_, zsim_rfl _, h0 (by rw [← hB]; rfl)⟩
  · refine V.g2 60 [] mX7_at_ok rfl ?_
    refine And.intro (fun e => absurd e (by decide)) (fun _ => ?_)
    refine V.cs mX7_at_ok rfl lX7_117 (c7_in l) rfl rfl rfl rfl ⟨_, _, _, rfl, fun B2 hB2 => ⟨rfl, ?_⟩⟩
    rcases B2 with _ | _
    · refine V.g2 60 [] mX7_at_ok rfl ?_
      refine And.intro (fun e => absurd rfl e) (fun _ => ?_)
      exact ⟨_, zsim_rfl _, h0 (by rw [show wiB y 1 = false from hB2.symm, Bool.and_false])⟩
    · obtain ⟨te, hte, rfl⟩ := wiB_t hB.symm (by omega)
      have h := h1 te hte rfl hB2.symm
      obtain ⟨j, hj, rfl⟩ := wiB_t (n := 1) hB2.symm (by omega)
      refine V.g2 60 [] mX7_at_ok rfl ?_
      refine And.intro (fun _ => ?_) (fun e => absurd e (by decide))
      refine V.cw mX7_at_ok rfl lX7_253 (c7_rolls l) rfl 0 7 rfl rfl rfl rfl rfl rfl ⟨fv, ar, P, hM, rfl, rfl, fun q hq sk nm pl az cs hr => ⟨rfl, ?_⟩⟩
      refine V.g2 60 [] mX7_at_ok rfl ?_
      refine zp_ne j 0 (fun e => ?_) (fun e => ?_) rfl rfl
      · refine ⟨te, by omega, rfl, rfl, ?_⟩
        refine ⟨_, zsim_rfl _, ?_⟩
        exact h _ (by rw [if_neg (znI (by omega) (by omega) e)]; exact (hr te hte).2.1) (upf (upf (upf (upf fv 41 q.2.2.2.1) 42 q.2.2.2.2.1) 43 q.2.2.2.2.2.1) 44 q.2.2.2.2.2.2) (upa (upa (upa (upa (upa ar 36 sk) 37 nm) 38 pl) 39 az) 40 cs) ⟨⟨rfl, rfl, rfl, rfl, rfl, rfl, rfl, rfl, rfl, rfl, rfl⟩, ⟨rfl, rfl, rfl, rfl, rfl, rfl, rfl, rfl, rfl, rfl, rfl, rfl, rfl, rfl, rfl, rfl⟩⟩
      · refine ⟨te, by omega, rfl, rfl, ?_⟩
        refine ⟨_, zsim_rfl _, ?_⟩
        exact h _ (by rw [e, if_pos rfl]; exact (hr te hte).1) (upf (upf (upf (upf fv 41 q.2.2.2.1) 42 q.2.2.2.2.1) 43 q.2.2.2.2.2.1) 44 q.2.2.2.2.2.2) (upa (upa (upa (upa (upa ar 36 sk) 37 nm) 38 pl) 39 az) 40 cs) ⟨⟨rfl, rfl, rfl, rfl, rfl, rfl, rfl, rfl, rfl, rfl, rfl⟩, ⟨rfl, rfl, rfl, rfl, rfl, rfl, rfl, rfl, rfl, rfl, rfl, rfl, rfl, rfl, rfl, rfl⟩⟩
def T7_roll : zT := fun args hs Q => ∃ (fv : Nat → Int32) (ar : Nat → fI) (x : Int32) (P : zP), mOk fv ar P ∧ args = [.ref 0, .int x] ∧ hs = pM fv ar ∧ (wiB x 4 = false → Q (some (.int (-1000000))) hs) ∧ (wiB x 4 = true → ∀ r : Int32, r = (let q := rlF (cM fv ar) P (ar 4) 30; if x = nI 0 then q.2.2.2.1 else if x = nI 1 then q.2.2.2.2.1 else if x = nI 2 then q.2.2.2.2.2.1 else if x = nI 3 then q.2.2.2.2.2.2 else q.2.1) → ∀ fv2 ar2, kM fv ar fv2 ar2 → Q (some (.int r)) (pM fv2 ar2))
theorem c7_roll (l : Launch) : Ct l mX7_roll false 8 0 0 T7_roll := by
  refine Ct.intro mX7_roll_ok ?_
  rintro args hs Q ⟨fv, ar, x, P, hM, rfl, rfl, h0, h1⟩
  refine ⟨Nat.le_of_ble_eq_true rfl, ?_⟩
  refine V.g2 60 [] mX7_roll_ok rfl ?_
  refine V.cs mX7_roll_ok rfl lX7_117 (c7_in l) rfl rfl rfl rfl ⟨_, _, _, rfl, fun B hB => ⟨rfl, ?_⟩⟩
  rcases B with _ | _
  · refine V.g2 60 [] mX7_roll_ok rfl ?_
    refine And.intro (fun e => absurd rfl e) (fun _ => ?_)
    exact ⟨_, zsim_rfl _, h0 hB.symm⟩
  · have h := h1 hB.symm
    obtain ⟨j, hj, rfl⟩ := wiB_t (n := 4) hB.symm (by omega)
    refine V.g2 60 [] mX7_roll_ok rfl ?_
    refine And.intro (fun _ => ?_) (fun e => absurd e (by decide))
    refine V.cw mX7_roll_ok rfl lX7_253 (c7_rolls l) rfl 0 7 rfl rfl rfl rfl rfl rfl ⟨fv, ar, P, hM, rfl, rfl, fun q hq sk nm pl az cs hr => ⟨rfl, ?_⟩⟩
    rcases (show j = 0 ∨ j = 1 ∨ j = 2 ∨ j = 3 ∨ j = 4 by omega) with rfl | rfl | rfl | rfl | rfl
    · refine V.g2 60 [] mX7_roll_ok rfl ?_
      refine zp_ne 0 0 (fun e0 => absurd e0 (by omega)) (fun e0 => ?_) rfl rfl
      refine ⟨_, zsim_rfl _, ?_⟩
      exact h _ (by rw [← hq]; rfl) (upf (upf (upf (upf fv 41 q.2.2.2.1) 42 q.2.2.2.2.1) 43 q.2.2.2.2.2.1) 44 q.2.2.2.2.2.2) (upa (upa (upa (upa (upa ar 36 sk) 37 nm) 38 pl) 39 az) 40 cs) ⟨⟨rfl, rfl, rfl, rfl, rfl, rfl, rfl, rfl, rfl, rfl, rfl⟩, ⟨rfl, rfl, rfl, rfl, rfl, rfl, rfl, rfl, rfl, rfl, rfl, rfl, rfl, rfl, rfl, rfl⟩⟩
    · refine V.g2 60 [] mX7_roll_ok rfl ?_
      refine zp_ne 1 0 (fun e0 => ?_) (fun e0 => absurd e0 (by omega)) rfl rfl
      refine zp_ne 1 1 (fun e0 => absurd e0 (by omega)) (fun e0 => ?_) rfl rfl
      refine ⟨_, zsim_rfl _, ?_⟩
      exact h _ (by rw [← hq]; rfl) (upf (upf (upf (upf fv 41 q.2.2.2.1) 42 q.2.2.2.2.1) 43 q.2.2.2.2.2.1) 44 q.2.2.2.2.2.2) (upa (upa (upa (upa (upa ar 36 sk) 37 nm) 38 pl) 39 az) 40 cs) ⟨⟨rfl, rfl, rfl, rfl, rfl, rfl, rfl, rfl, rfl, rfl, rfl⟩, ⟨rfl, rfl, rfl, rfl, rfl, rfl, rfl, rfl, rfl, rfl, rfl, rfl, rfl, rfl, rfl, rfl⟩⟩
    · refine V.g2 60 [] mX7_roll_ok rfl ?_
      refine zp_ne 2 0 (fun e0 => ?_) (fun e0 => absurd e0 (by omega)) rfl rfl
      refine zp_ne 2 1 (fun e0 => ?_) (fun e0 => absurd e0 (by omega)) rfl rfl
      refine zp_ne 2 2 (fun e0 => absurd e0 (by omega)) (fun e0 => ?_) rfl rfl
      refine ⟨_, zsim_rfl _, ?_⟩
      exact h _ (by rw [← hq]; rfl) (upf (upf (upf (upf fv 41 q.2.2.2.1) 42 q.2.2.2.2.1) 43 q.2.2.2.2.2.1) 44 q.2.2.2.2.2.2) (upa (upa (upa (upa (upa ar 36 sk) 37 nm) 38 pl) 39 az) 40 cs) ⟨⟨rfl, rfl, rfl, rfl, rfl, rfl, rfl, rfl, rfl, rfl, rfl⟩, ⟨rfl, rfl, rfl, rfl, rfl, rfl, rfl, rfl, rfl, rfl, rfl, rfl, rfl, rfl, rfl, rfl⟩⟩
    · refine V.g2 60 [] mX7_roll_ok rfl ?_
      refine zp_ne 3 0 (fun e0 => ?_) (fun e0 => absurd e0 (by omega)) rfl rfl
      refine zp_ne 3 1 (fun e0 => ?_) (fun e0 => absurd e0 (by omega)) rfl rfl
      refine zp_ne 3 2 (fun e0 => ?_) (fun e0 => absurd e0 (by omega)) rfl rfl
      refine zp_ne 3 3 (fun e0 => absurd e0 (by omega)) (fun e0 => ?_) rfl rfl
      refine ⟨_, zsim_rfl _, ?_⟩
      exact h _ (by rw [← hq]; rfl) (upf (upf (upf (upf fv 41 q.2.2.2.1) 42 q.2.2.2.2.1) 43 q.2.2.2.2.2.1) 44 q.2.2.2.2.2.2) (upa (upa (upa (upa (upa ar 36 sk) 37 nm) 38 pl) 39 az) 40 cs) ⟨⟨rfl, rfl, rfl, rfl, rfl, rfl, rfl, rfl, rfl, rfl, rfl⟩, ⟨rfl, rfl, rfl, rfl, rfl, rfl, rfl, rfl, rfl, rfl, rfl, rfl, rfl, rfl, rfl, rfl⟩⟩
    · refine V.g2 60 [] mX7_roll_ok rfl ?_
      refine zp_ne 4 0 (fun e0 => ?_) (fun e0 => absurd e0 (by omega)) rfl rfl
      refine zp_ne 4 1 (fun e0 => ?_) (fun e0 => absurd e0 (by omega)) rfl rfl
      refine zp_ne 4 2 (fun e0 => ?_) (fun e0 => absurd e0 (by omega)) rfl rfl
      refine zp_ne 4 3 (fun e0 => ?_) (fun e0 => absurd e0 (by omega)) rfl rfl
      refine ⟨29, by omega, rfl, rfl, ?_⟩
      have e30 : az 29 = q.2.1 := by
        obtain ⟨RL, hRL⟩ : ∃ RL, RL = rlF (cM fv ar) P (ar 4) := ⟨_, rfl⟩
        rw [← hRL] at hr hq
        rw [hq]
        exact (hr 29 (by omega)).2.1
      refine ⟨_, zsim_rfl _, ?_⟩
      exact h _ (by rw [← hq]; exact e30) (upf (upf (upf (upf fv 41 q.2.2.2.1) 42 q.2.2.2.2.1) 43 q.2.2.2.2.2.1) 44 q.2.2.2.2.2.2) (upa (upa (upa (upa (upa ar 36 sk) 37 nm) 38 pl) 39 az) 40 cs) ⟨⟨rfl, rfl, rfl, rfl, rfl, rfl, rfl, rfl, rfl, rfl, rfl⟩, ⟨rfl, rfl, rfl, rfl, rfl, rfl, rfl, rfl, rfl, rfl, rfl, rfl, rfl, rfl, rfl, rfl⟩⟩
def T7_keepsHands : zT := fun args hs Q => ∃ (fv : Nat → Int32) (ar : Nat → fI) , args = [.ref 0] ∧ hs = pM fv ar ∧ Q none (pM (upf (upf fv 45 (ar 4 0)) 46 (ar 4 1)) ar)
theorem c7_keepsHands (l : Launch) : Ct l mX7_keepsHands false 1 0 0 T7_keepsHands := by
  refine Ct.intro mX7_keepsHands_ok ?_
  rintro args hs Q ⟨fv, ar, rfl, rfl, h⟩
  refine ⟨Nat.le_of_ble_eq_true rfl, ?_⟩
  refine V.g2 60 [] mX7_keepsHands_ok rfl ?_
  refine ⟨0, by omega, rfl, rfl, ?_⟩
  refine ⟨1, by omega, rfl, rfl, ?_⟩
  exact ⟨_, zsim_rfl _, h⟩
theorem abW {az wi : Int32} {n : Nat} (h : wi = nI n) (h2 : n ≤ 99) : abF (wnF az (- wi) wi) ≤ nI 99 := by
  have hw : wi.toInt = n := by rw [h]; exact nI_toInt (by omega)
  have hnw : (- wi).toInt = - (n : Int) := by rw [Int32.toInt_neg, hw]; exact Int.bmod_eq_of_le (by omega) (by omega)
  have h0 : (0 : Int32).toInt = 0 := rfl
  have h9 : (nI 99).toInt = 99 := rfl
  have hb : - (n : Int) ≤ (wnF az (- wi) wi).toInt ∧ (wnF az (- wi) wi).toInt ≤ n := by
    unfold wnF
    by_cases c1 : az < - wi
    · rw [if_pos c1, hnw]; omega
    · rw [if_neg c1]
      by_cases c2 : wi < az
      · rw [if_pos c2, hw]; omega
      · rw [if_neg c2]
        have k1 := Int32.le_iff_toInt_le.mp (Int32.not_lt.mp c1)
        have k2 := Int32.le_iff_toInt_le.mp (Int32.not_lt.mp c2)
        rw [hnw] at k1
        rw [hw] at k2
        exact ⟨k1, k2⟩
  generalize wnF az (- wi) wi = y at hb
  obtain ⟨b1, b2⟩ := hb
  unfold abF
  by_cases c : 0 ≤ y
  · rw [if_pos c, Int32.le_iff_toInt_le, h9]; omega
  · rw [if_neg c, Int32.le_iff_toInt_le, h9, Int32.toInt_sub, h0, Int.zero_sub, Int.bmod_eq_of_le (by omega) (by omega)]; omega
theorem mxF_le {x y z : Int32} (h1 : x ≤ z) (h2 : y ≤ z) : mxF x y ≤ z := by
  unfold mxF
  split
  · exact h2
  · exact h1
theorem stF_fa {c : zCart} {P : zP} {ha : fI} {te : Nat} {r : RT} (hw : wOk c) (ht : te < 30) (h : r.2.2.2.2.2.2 ≤ nI 99) : (stF c P ha te r).2.2.2.2.2.2 ≤ nI 99 := by
  obtain ⟨n, h1, h2, hwi⟩ := hw te ht
  obtain ⟨E1, E2⟩ := stF_eq (c := c) (P := P) (ha := ha) (te := te) (r := r) rfl rfl rfl rfl
  generalize r.2.1 - plF c ha (drS c P ha (nI te)) te 4 * paC c / nI 8 = az at E1 E2
  have hcl := clampW (az := az) hwi h1 h2
  have hab := abW (az := az) hwi h2
  by_cases c1 : 0 < abF az - wiC c te
  · rw [E1 c1]
    refine mxF_le h ?_
    rw [(hcl.1 c1).2]
    exact hab
  · rw [E2 c1]
    refine mxF_le h ?_
    rw [← hcl.2 c1] at hab
    exact hab
theorem rlF_fa {c : zCart} {P : zP} {ha : fI} (hw : wOk c) : ∀ n, n ≤ 30 → (rlF c P ha n).2.2.2.2.2.2 ≤ nI 99
  | 0, _ => by show (0 : Int32) ≤ nI 99; decide
  | n + 1, h => by rw [rlF]; exact stF_fa hw (by omega) (rlF_fa hw n (by omega))
theorem faF_le {c : zCart} {P : zP} (hw : wOk c) : faF c P ≤ nI 99 := rlF_fa hw 30 (Nat.le_refl _)
theorem faF_lt {c : zCart} {P : zP} (hw : wOk c) : faF c P < 1000000 := Int32.lt_of_le_of_lt (faF_le hw) (by decide)
theorem say_in (P : List Nat) (nm : fI) : 0 ≤ (sayF P nm).toInt ∧ (sayF P nm).toInt ≤ 99 := by
  have h0 : (nI 0).toInt = 0 := rfl
  have h9 : (nI 99).toInt = 99 := rfl
  have key : ∀ v : Int32, 0 ≤ (c99 v).toInt ∧ (c99 v).toInt ≤ 99 := by
    intro v
    unfold c99
    by_cases a : v < nI 99
    · rw [if_pos a]
      have a' := Int32.lt_iff_toInt_lt.mp a
      rw [h9] at a'
      by_cases b : nI 0 < v
      · rw [if_pos b]
        have b' := Int32.lt_iff_toInt_lt.mp b
        rw [h0] at b'
        omega
      · rw [if_neg b, h0]
        omega
    · rw [if_neg a, if_pos (show nI 0 < nI 99 by decide), h9]
      omega
  unfold sayF
  cases evL nm P [] with
  | none => exact ⟨by decide, by decide⟩
  | some s =>
    cases s with
    | nil => exact ⟨by decide, by decide⟩
    | cons v s => exact key v
theorem ad_in {a b : Int32} {m n : Int} (ha : 0 ≤ a.toInt ∧ a.toInt ≤ m) (hb : 0 ≤ b.toInt ∧ b.toInt ≤ n) (h : m + n ≤ 100000) : 0 ≤ (a + b).toInt ∧ (a + b).toInt ≤ m + n := by
  have e : (a + b).toInt = a.toInt + b.toInt := by rw [Int32.toInt_add]; exact Int.bmod_eq_of_le (by omega) (by omega)
  rw [e]
  omega
theorem hoS_in (c : zCart) (P : zP) (ha : fI) (te : Int32) : 0 ≤ (hoS c P ha te).toInt ∧ (hoS c P ha te).toInt ≤ 198 := by
  unfold hoS
  have q := ad_in (ad_in (a := 0) (m := 0) ⟨by decide, by decide⟩ (say_in P.2.1 (nmF 0 (ha 0) (paC c) te 0 (nI 0))) (by omega)) (say_in P.2.1 (nmF 0 (ha 1) (paC c) te 0 (nI 1))) (by omega)
  exact q
def cbO (r : RT) (n : Nat) : Prop := (0 ≤ r.2.2.2.1.toInt ∧ r.2.2.2.1.toInt ≤ 198 * (n : Int)) ∧ (0 ≤ r.2.2.2.2.1.toInt ∧ r.2.2.2.2.1.toInt ≤ 99 * (n : Int))
theorem stF_co {c : zCart} {P : zP} {ha : fI} {te n : Nat} {r : RT} (hn : n < 30) (h : cbO r n) : cbO (stF c P ha te r) (n + 1) := by
  obtain ⟨E1, E2⟩ := stF_eq (c := c) (P := P) (ha := ha) (te := te) (r := r) rfl rfl rfl rfl
  obtain ⟨k1, k2⟩ := h
  have e1 := ad_in k1 (hoS_in c P ha (nI te)) (by omega)
  have w1 : 198 * ((n + 1 : Nat) : Int) = 198 * (n : Int) + 198 := by omega
  have w2 : 99 * ((n + 1 : Nat) : Int) = 99 * (n : Int) + 99 := by omega
  by_cases c1 : 0 < abF (r.2.1 - plF c ha (drS c P ha (nI te)) te 4 * paC c / nI 8) - wiC c te
  · rw [E1 c1]
    unfold cbO
    rw [w1, w2]
    exact ⟨e1, ad_in k2 (say_in P.2.2 _) (by omega)⟩
  · rw [E2 c1]
    unfold cbO
    rw [w1, w2]
    exact ⟨e1, by have := k2; dsimp only; omega⟩
theorem rlF_co {c : zCart} {P : zP} {ha : fI} : ∀ n, n ≤ 30 → cbO (rlF c P ha n) n
  | 0, _ => (show cbO ((0, 0, 0, 0, 0, 0, 0) : RT) 0 from ⟨⟨show (0 : Int) ≤ (0 : Int32).toInt by decide, show (0 : Int32).toInt ≤ 198 * ((0 : Nat) : Int) by decide⟩, ⟨show (0 : Int) ≤ (0 : Int32).toInt by decide, show (0 : Int32).toInt ≤ 99 * ((0 : Nat) : Int) by decide⟩⟩)
  | n + 1, h => by rw [rlF]; exact stF_co (by omega) (rlF_co n (by omega))
theorem coF_lt {c : zCart} {P : zP} : coF c P < 1000000 := by
  have h := rlF_co (c := c) (P := P) (ha := haC c) 30 (Nat.le_refl _)
  obtain ⟨RL, hRL⟩ : ∃ RL, RL = rlF c P (haC c) 30 := ⟨_, rfl⟩
  unfold coF
  rw [← hRL] at h ⊢
  obtain ⟨k1, k2⟩ := h
  have q := ad_in k1 k2 (by omega)
  have h6 : (1000000 : Int32).toInt = 1000000 := rfl
  rw [Int32.lt_iff_toInt_lt, h6]
  omega
theorem lhF_lt {c : zCart} (hw : wOk c) (B : Bool) (P : zP) (h : Nat) : lhF B c P h < 1000000 := by
  cases B with
  | false => exact faF_lt (c := cwH c (haH h)) hw
  | true => exact coF_lt
theorem mnF_1 (f : Nat → Int32) (h : f 0 < 1000000) : mnF f 1 = (0, f 0) := by
  show (if f 0 < (mnF f 0).2 then (0, f 0) else mnF f 0) = _
  exact if_pos h
theorem nI_m1 {n : Nat} (h : n < 2 ^ 31) : ¬ nI n = -1 := fun z => absurd (nI_pos h) (by rw [z]; decide)
def h2F (a b : Int32) : fI := fun i => if i = 0 then a else b
theorem h2F_s {f : fI} {a b : Int32} : ∀ i, i < 2 → upd (upd f 0 a) 1 b i = h2F a b i := by
  intro i hi
  rcases (show i = 0 ∨ i = 1 by omega) with rfl | rfl <;> rfl
theorem h2F_k {f : fI} : ∀ i, i < 2 → h2F (f 0) (f 1) i = f i := by
  intro i hi
  rcases (show i = 0 ∨ i = 1 by omega) with rfl | rfl <;> rfl
theorem haH_s {f : fI} {a b : Int32} {k : Nat} (ha : a = nI (k / 10)) (hb : b = nI (k % 10)) : ∀ i, i < 2 → upd (upd f 0 a) 1 b i = haH k i := by
  subst ha
  subst hb
  exact haH_sim
def T7_laysHands : zT := fun args hs Q => ∃ (fv : Nat → Int32) (ar : Nat → fI) , args = [.ref 0] ∧ hs = pM fv ar ∧ Q none (pM fv (upa ar 4 (h2F (fv 45) (fv 46))))
theorem c7_laysHands (l : Launch) : Ct l mX7_laysHands false 1 0 0 T7_laysHands := by
  refine Ct.intro mX7_laysHands_ok ?_
  rintro args hs Q ⟨fv, ar, rfl, rfl, h⟩
  refine ⟨Nat.le_of_ble_eq_true rfl, ?_⟩
  refine V.g2 60 [20] mX7_laysHands_ok rfl ?_
  refine ⟨0, by omega, rfl, rfl, ?_⟩
  refine ⟨1, by omega, rfl, rfl, ?_⟩
  refine V.nm [(0, .ref 0)] [] (pM fv (upa ar 4 (upd (upd (ar 4) 0 (fv 45)) 1 (fv 46)))) rfl rfl rfl ?_
  refine V.sim (zsm4 (y := (h2F (fv 45) (fv 46))) h2F_s) ?_
  refine V.g2 60 [20] mX7_laysHands_ok rfl ?_
  exact ⟨_, zsim_rfl _, h⟩
def T7_findsHands : zT := fun args hs Q => ∃ (fv : Nat → Int32) (ar : Nat → fI) (x : Int32) (B : Bool) (P : zP), x = bI B ∧ mOk fv ar P ∧ args = [.ref 0, .int x] ∧ hs = pM fv ar ∧ ∀ a b : Int32, a = nI (mnF (lhF B (cM fv ar) P) 100).1 → b = (mnF (lhF B (cM fv ar) P) 100).2 → ∀ fv2 ar2, kM fv ar fv2 ar2 → fv2 47 = a → fv2 48 = b → Q none (pM fv2 ar2)
set_option maxHeartbeats 4000000 in
theorem c7_findsHands (l : Launch) : Ct l mX7_findsHands false 9 0 0 T7_findsHands := by
  refine Ct.intro mX7_findsHands_ok ?_
  rintro args hs Q ⟨fv, ar, x, B, P, hx, hM, rfl, rfl, h⟩
  refine ⟨Nat.le_of_ble_eq_true rfl, ?_⟩
  subst hx
  generalize hS : pM fv ar = S
  have loop : ∀ (m k : Nat) (x2 bh bv : Int32) (q : RT) (sk nm pl az cs ha : fI), k + m = 100 → x2 = nI k → (k = 0 → bh = -1) → (k ≠ 0 → bh = nI (mnF (lhF B (cM fv ar) P) k).1 ∧ bv = (mnF (lhF B (cM fv ar) P) k).2) → (∀ i, i ≤ 100 → (mnF (lhF B (cM fv ar) P) i).1 ≤ i) → V l mX7_findsHands false S (zrm 9 0 0) (zFm false S Q 0 0) 0 0 11 [(2, .int x2), (0, .ref 0), (1, .int (bI B))] [] (pM (upf (upf (upf (upf (upf (upf (upf (upf fv 45 (ar 4 0)) 46 (ar 4 1)) 41 q.2.2.2.1) 42 q.2.2.2.2.1) 43 q.2.2.2.2.2.1) 44 q.2.2.2.2.2.2) 47 bh) 48 bv) (upa (upa (upa (upa (upa (upa ar 36 sk) 37 nm) 38 pl) 39 az) 40 cs) 4 ha)) := by
    intro m
    induction m with
    | zero =>
      intro k x2 bh bv q sk nm pl az cs ha hk h2 hb0 hb1 hlt
      obtain rfl : k = 100 := by omega
      obtain ⟨e1, e2⟩ := hb1 (by omega)
      refine V.g2 60 [11, 37, 52] mX7_findsHands_ok rfl ?_
      refine pk_le 100 100 (fun e0 => ?_) (fun e0 => absurd e0 (by omega)) rfl h2
      refine V.cw mX7_findsHands_ok rfl lX7_278 (c7_laysHands l) rfl 0 7 rfl rfl rfl rfl rfl rfl ⟨(upf (upf (upf (upf (upf (upf (upf (upf fv 45 (ar 4 0)) 46 (ar 4 1)) 41 q.2.2.2.1) 42 q.2.2.2.2.1) 43 q.2.2.2.2.2.1) 44 q.2.2.2.2.2.2) 47 bh) 48 bv), (upa (upa (upa (upa (upa (upa ar 36 sk) 37 nm) 38 pl) 39 az) 40 cs) 4 ha), rfl, rfl, rfl, ?_⟩
      refine V.nm [(2, .int x2), (0, .ref 0), (1, .int (bI B))] [] (pM (upf (upf (upf (upf (upf (upf (upf (upf fv 45 (ar 4 0)) 46 (ar 4 1)) 41 q.2.2.2.1) 42 q.2.2.2.2.1) 43 q.2.2.2.2.2.1) 44 q.2.2.2.2.2.2) 47 bh) 48 bv) (upa (upa (upa (upa (upa (upa ar 36 sk) 37 nm) 38 pl) 39 az) 40 cs) 4 (h2F (ar 4 0) (ar 4 1)))) rfl rfl rfl ?_
      refine V.sim (zsm4 (y := (ar 4)) h2F_k) ?_
      refine V.g2 60 [11, 37, 52] mX7_findsHands_ok rfl ?_
      refine ⟨_, zsim_rfl _, ?_⟩
      exact h bh bv e1 e2 (upf (upf (upf (upf (upf (upf (upf (upf fv 45 (ar 4 0)) 46 (ar 4 1)) 41 q.2.2.2.1) 42 q.2.2.2.2.1) 43 q.2.2.2.2.2.1) 44 q.2.2.2.2.2.2) 47 bh) 48 bv) (upa (upa (upa (upa (upa (upa ar 36 sk) 37 nm) 38 pl) 39 az) 40 cs) 4 (ar 4)) ⟨⟨rfl, rfl, rfl, rfl, rfl, rfl, rfl, rfl, rfl, rfl, rfl⟩, ⟨rfl, rfl, rfl, rfl, rfl, rfl, rfl, rfl, rfl, rfl, rfl, rfl, rfl, rfl, rfl, rfl⟩⟩ rfl rfl
    | succ m ih =>
      intro k x2 bh bv q sk nm pl az cs ha hk h2 hb0 hb1 hlt
      refine V.g2 60 [11, 37, 52] mX7_findsHands_ok rfl ?_
      refine pk_le 100 k (fun e => absurd e (by omega)) (fun e => ?_) rfl h2
      refine And.intro (show ¬ (nI 10) = 0 by decide) ?_
      refine ⟨0, by omega, rfl, rfl, ?_⟩
      refine And.intro (show ¬ (nI 10) = 0 by decide) ?_
      refine ⟨1, by omega, rfl, rfl, ?_⟩
      refine V.nm [(2, .int x2), (0, .ref 0), (1, .int (bI B))] [] (pM (upf (upf (upf (upf (upf (upf (upf (upf fv 45 (ar 4 0)) 46 (ar 4 1)) 41 q.2.2.2.1) 42 q.2.2.2.2.1) 43 q.2.2.2.2.2.1) 44 q.2.2.2.2.2.2) 47 bh) 48 bv) (upa (upa (upa (upa (upa (upa ar 36 sk) 37 nm) 38 pl) 39 az) 40 cs) 4 (upd (upd ha 0 (x2 / (nI 10))) 1 (x2 - x2 / (nI 10) * (nI 10))))) rfl rfl rfl ?_
      refine V.sim (zsm4 (y := (haH k)) (haH_s (ndiv h2 rfl (by omega) (by omega) (by omega)) (nrem h2 rfl (by omega) (by omega) (by omega)))) ?_
      have t52 : ∀ (v : Int32) (q : RT) (sk nm pl az cs : fI), v = (lhF B (cM fv ar) P) k → V l mX7_findsHands false S (zrm 9 0 0) (zFm false S Q 0 0) 0 0 52 [(2, .int x2), (0, .ref 0), (1, .int (bI B))] [.int v] (pM (upf (upf (upf (upf (upf (upf (upf (upf fv 45 (ar 4 0)) 46 (ar 4 1)) 41 q.2.2.2.1) 42 q.2.2.2.2.1) 43 q.2.2.2.2.2.1) 44 q.2.2.2.2.2.2) 47 bh) 48 bv) (upa (upa (upa (upa (upa (upa ar 36 sk) 37 nm) 38 pl) 39 az) 40 cs) 4 (haH k))) := by
        intro v q sk nm pl az cs hv
        have step : ∀ (bh2 bv2 : Int32), bh2 = nI (mnF (lhF B (cM fv ar) P) (k + 1)).1 → bv2 = (mnF (lhF B (cM fv ar) P) (k + 1)).2 → V l mX7_findsHands false S (zrm 9 0 0) (zFm false S Q 0 0) 0 0 11 [(2, .int (x2 + zi 1)), (0, .ref 0), (1, .int (bI B))] [] (pM (upf (upf (upf (upf (upf (upf (upf (upf fv 45 (ar 4 0)) 46 (ar 4 1)) 41 q.2.2.2.1) 42 q.2.2.2.2.1) 43 q.2.2.2.2.2.1) 44 q.2.2.2.2.2.2) 47 bh2) 48 bv2) (upa (upa (upa (upa (upa (upa ar 36 sk) 37 nm) 38 pl) 39 az) 40 cs) 4 (haH k))) := fun bh2 bv2 e1 e2 => ih (k + 1) _ bh2 bv2 q sk nm pl az cs (haH k) (by omega) (ninc h2) (fun z => absurd z (by omega)) (fun _ => ⟨e1, e2⟩) hlt
        rcases Nat.eq_zero_or_pos k with ek | ek
        · rw [hb0 ek]
          refine V.g2 60 [11, 37, 52] mX7_findsHands_ok rfl ?_
          refine And.intro (fun e0 => ?_) (fun e0 => absurd rfl e0)
          refine pk_eq 1 0 (fun e0 => absurd e0 (by omega)) (fun e0 => ?_) rfl rfl
          refine pk_eq 1 0 (fun e0 => absurd e0 (by omega)) (fun e0 => ?_) rfl rfl
          refine V.kn [2, 0, 1] [(2, .int (x2 + zi 1)), (0, .ref 0), (1, .int (bI B))] [] (pM (upf (upf (upf (upf (upf (upf (upf (upf fv 45 (ar 4 0)) 46 (ar 4 1)) 41 q.2.2.2.1) 42 q.2.2.2.2.1) 43 q.2.2.2.2.2.1) 44 q.2.2.2.2.2.2) 47 x2) 48 v) (upa (upa (upa (upa (upa (upa ar 36 sk) 37 nm) 38 pl) 39 az) 40 cs) 4 (haH k))) rfl rfl rfl ?_
          have m1 : mnF (lhF B (cM fv ar) P) (k + 1) = (0, (lhF B (cM fv ar) P) 0) := by rw [ek]; exact mnF_1 _ (lhF_lt hM.2.1 B P 0)
          exact step x2 v (by rw [m1, h2, ek]) (by rw [m1, hv, ek])
        · obtain ⟨e1, e2⟩ := hb1 (by omega)
          have e3 := hlt k (by omega)
          refine V.g2 60 [11, 37, 52] mX7_findsHands_ok rfl ?_
          refine And.intro (fun e5 => absurd (e1.symm.trans e5) (nI_m1 (by omega))) (fun e5 => ?_)
          refine And.intro (fun e4 => ?_) (fun e4 => ?_)
          · refine pk_eq 0 0 (fun e0 => ?_) (fun e0 => absurd e0 (by omega)) rfl rfl
            refine pk_eq 0 0 (fun e0 => ?_) (fun e0 => absurd e0 (by omega)) rfl rfl
            refine V.kn [2, 0, 1] [(2, .int (x2 + zi 1)), (0, .ref 0), (1, .int (bI B))] [] (pM (upf (upf (upf (upf (upf (upf (upf (upf fv 45 (ar 4 0)) 46 (ar 4 1)) 41 q.2.2.2.1) 42 q.2.2.2.2.1) 43 q.2.2.2.2.2.1) 44 q.2.2.2.2.2.2) 47 bh) 48 bv) (upa (upa (upa (upa (upa (upa ar 36 sk) 37 nm) 38 pl) 39 az) 40 cs) 4 (haH k))) rfl rfl rfl ?_
            have hn : ¬ v < bv := Int32.not_lt.mpr e4
            refine step bh bv ?_ ?_
            · rw [mnF, if_neg (by rw [← hv, ← e2]; exact hn)]; exact e1
            · rw [mnF, if_neg (by rw [← hv, ← e2]; exact hn)]; exact e2
          · refine pk_eq 1 0 (fun e0 => absurd e0 (by omega)) (fun e0 => ?_) rfl rfl
            refine pk_eq 1 0 (fun e0 => absurd e0 (by omega)) (fun e0 => ?_) rfl rfl
            refine V.kn [2, 0, 1] [(2, .int (x2 + zi 1)), (0, .ref 0), (1, .int (bI B))] [] (pM (upf (upf (upf (upf (upf (upf (upf (upf fv 45 (ar 4 0)) 46 (ar 4 1)) 41 q.2.2.2.1) 42 q.2.2.2.2.1) 43 q.2.2.2.2.2.1) 44 q.2.2.2.2.2.2) 47 x2) 48 v) (upa (upa (upa (upa (upa (upa ar 36 sk) 37 nm) 38 pl) 39 az) 40 cs) 4 (haH k))) rfl rfl rfl ?_
            have hn : v < bv := Int32.not_le.mp e4
            refine step x2 v ?_ ?_
            · rw [mnF, if_pos (by rw [← hv, ← e2]; exact hn)]; exact h2
            · rw [mnF, if_pos (by rw [← hv, ← e2]; exact hn)]; exact hv
      cases B with
      | false =>
        refine V.g2 60 [11, 37, 52] mX7_findsHands_ok rfl ?_
        refine And.intro (fun _ => ?_) (fun e => absurd rfl e)
        refine V.cw mX7_findsHands_ok rfl lX7_272 (c7_farNow l) rfl 0 7 rfl rfl rfl rfl rfl rfl ⟨(upf (upf (upf (upf (upf (upf (upf (upf fv 45 (ar 4 0)) 46 (ar 4 1)) 41 q.2.2.2.1) 42 q.2.2.2.2.1) 43 q.2.2.2.2.2.1) 44 q.2.2.2.2.2.2) 47 bh) 48 bv), (upa (upa (upa (upa (upa (upa ar 36 sk) 37 nm) 38 pl) 39 az) 40 cs) 4 (haH k)), P, hM, rfl, rfl, fun v hv q sk nm pl az cs => ⟨rfl, ?_⟩⟩
        refine V.kn [2, 0, 1] [(2, .int x2), (0, .ref 0), (1, .int (bI false))] [.int v] (pM (upf (upf (upf (upf (upf (upf (upf (upf fv 45 (ar 4 0)) 46 (ar 4 1)) 47 bh) 48 bv) 41 q.2.2.2.1) 42 q.2.2.2.2.1) 43 q.2.2.2.2.2.1) 44 q.2.2.2.2.2.2) (upa (upa (upa (upa (upa (upa ar 4 (haH k)) 36 sk) 37 nm) 38 pl) 39 az) 40 cs)) rfl rfl rfl ?_
        exact t52 v q sk nm pl az cs (show v = faF (cwH (cM fv ar) (haH k)) P from hv)
      | true =>
        refine V.g2 60 [11, 37, 52] mX7_findsHands_ok rfl ?_
        refine And.intro (fun e => absurd e (by decide)) (fun _ => ?_)
        refine V.cw mX7_findsHands_ok rfl lX7_269 (c7_costNow l) rfl 0 7 rfl rfl rfl rfl rfl rfl ⟨(upf (upf (upf (upf (upf (upf (upf (upf fv 45 (ar 4 0)) 46 (ar 4 1)) 41 q.2.2.2.1) 42 q.2.2.2.2.1) 43 q.2.2.2.2.2.1) 44 q.2.2.2.2.2.2) 47 bh) 48 bv), (upa (upa (upa (upa (upa (upa ar 36 sk) 37 nm) 38 pl) 39 az) 40 cs) 4 (haH k)), P, hM, rfl, rfl, fun v hv q sk nm pl az cs => ⟨rfl, ?_⟩⟩
        refine V.g2 60 [11, 37, 52] mX7_findsHands_ok rfl ?_
        refine V.kn [2, 0, 1] [(2, .int x2), (0, .ref 0), (1, .int (bI true))] [.int v] (pM (upf (upf (upf (upf (upf (upf (upf (upf fv 45 (ar 4 0)) 46 (ar 4 1)) 47 bh) 48 bv) 41 q.2.2.2.1) 42 q.2.2.2.2.1) 43 q.2.2.2.2.2.1) 44 q.2.2.2.2.2.2) (upa (upa (upa (upa (upa (upa ar 4 (haH k)) 36 sk) 37 nm) 38 pl) 39 az) 40 cs)) rfl rfl rfl ?_
        exact t52 v q sk nm pl az cs (show v = coF (cwH (cM fv ar) (haH k)) P from hv)
  subst hS
  refine V.g2 60 [11, 37, 52] mX7_findsHands_ok rfl ?_
  refine V.cw mX7_findsHands_ok rfl lX7_263 (c7_keepsHands l) rfl 0 7 rfl rfl rfl rfl rfl rfl ⟨fv, ar, rfl, rfl, rfl, ?_⟩
  refine V.g2 60 [11, 37, 52] mX7_findsHands_ok rfl ?_
  refine V.kn [2, 0, 1] [(2, .int (nI 0)), (0, .ref 0), (1, .int (bI B))] [] (pM (upf (upf (upf fv 45 (ar 4 0)) 46 (ar 4 1)) 47 (-1 : Int32)) ar) rfl rfl rfl ?_
  have hlt : ∀ i, i ≤ 100 → (mnF (lhF B (cM fv ar) P) i).1 ≤ i := by
    intro i
    induction i with
    | zero => intro _; exact Nat.le_refl _
    | succ i ih => intro hi; have q := ih (by omega); rw [mnF]; split; exact Nat.le_succ i; omega
  exact loop 100 0 _ (-1) (fv 48) (0, 0, 0, fv 41, fv 42, fv 43, fv 44) (ar 36) (ar 37) (ar 38) (ar 39) (ar 40) (ar 4) rfl rfl (fun _ => rfl) (fun z => absurd rfl z) hlt
