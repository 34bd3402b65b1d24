/-! ===== the reference: between ===== -/
theorem uwF_len {r : Nat} : ∀ {sk ou : List Nat}, (uwF r sk ou).1.length + (uwF r sk ou).2.length = sk.length + ou.length
  | [], ou => rfl
  | c :: t, ou => by
    rw [uwF]
    split
    · rw [uwF_len]
      show t.length + (ou.length + 1) = t.length + 1 + ou.length
      omega
    · rfl
def tp4 : List Nat → Bool
  | [] => false
  | d :: _ => Nat.beq (rkF d) 4
def beF (c : Nat) (sk ou : List Nat) : Option (List Nat × List Nat) := if (Nat.beq (rkF c) 4 && tp4 (uwF (if rkF c = 4 then 5 else rkF c) sk ou).1) = true then none else some (c :: (uwF (if rkF c = 4 then 5 else rkF c) sk ou).1, (uwF (if rkF c = 4 then 5 else rkF c) sk ou).2)
theorem rkF_1 {c : Nat} (h : 11 ≤ c) : 1 ≤ rkF c := by
  unfold rkF
  repeat' split
  all_goals omega
def T7_between : zT := fun args hs Q => ∃ (fv : Nat → Int32) (ar : Nat → fI) (x : Int32) (c li : Nat) (sk ou : List Nat), x = nI c ∧ 11 ≤ c ∧ c < 19 ∧ c ≠ 13 ∧ pS fv ar li sk ou ∧ sk.length + ou.length < 199 ∧ args = [.ref 0, .int x] ∧ hs = pM fv ar ∧ (beF c sk ou = none → ∀ fv2 ar2, kQ li fv ar fv2 ar2 → Q (some (.int (nI 0))) (pM fv2 ar2)) ∧ (∀ s o, beF c sk ou = some (s, o) → ∀ fv2 ar2, kQ li fv ar fv2 ar2 → pS fv2 ar2 li s o → Q (some (.int (nI 1))) (pM fv2 ar2))
set_option maxHeartbeats 500000 in
theorem c7_between (l : Launch) : Ct l mX7_between false 3 0 0 T7_between := by
  refine Ct.intro mX7_between_ok ?_
  rintro args hs Q ⟨fv, ar, x, c, li, sk, ou, hx, hc1, hc2, hc13, hps, hl, rfl, rfl, h0, h1⟩
  refine ⟨Nat.le_of_ble_eq_true rfl, ?_⟩
  subst hx
  have hk7 := rkF_le (c := c)
  have hk1 := rkF_1 hc1
  obtain ⟨K, hK⟩ : ∃ K, K = rkF c := ⟨_, rfl⟩
  rw [← hK] at hk7 hk1
  obtain ⟨r, hr⟩ : ∃ r, r = (if K = 4 then 5 else K) := ⟨_, rfl⟩
  have hr1 : 1 ≤ r ∧ r ≤ 7 := by rw [hr]; split <;> omega
  obtain ⟨U, hU⟩ : ∃ U, U = uwF r sk ou := ⟨_, rfl⟩
  have hUl : U.1.length + U.2.length = sk.length + ou.length := by rw [hU]; exact uwF_len
  have hbe : beF c sk ou = if (Nat.beq K 4 && tp4 U.1) = true then none else some (c :: U.1, U.2) := by rw [hU, hr, hK]; rfl
  rw [hbe] at h0 h1
  have t17 : ∀ (y : Int32), y = nI r → V l mX7_between false (pM fv ar) (zrm 3 0 0) (zFm false (pM fv ar) Q 0 0) 0 0 17 [(0, .ref 0), (1, .int (nI c))] [.int y, .ref 0] (pM fv ar) := by
    intro y hy
    refine V.cw mX7_between_ok rfl lX7_173 (c7_unwinds l) rfl 0 7 rfl rfl rfl rfl rfl rfl ⟨fv, ar, _, r, li, sk, ou, hy, hr1.1, hr1.2, hps, rfl, rfl, fun fv2 ar2 hk hp2 => ⟨rfl, ?_⟩⟩
    rw [← hU] at hp2
    obtain ⟨U1, U2⟩ := U
    have hp3 := hp2
    obtain ⟨hli, h17, h33, h34, h35, s32, s15, hlen, hc20⟩ := hp2
    have h33b : fv2 33 = nI U1.length := h33
    have hlen2 : U1.length + U2.length = sk.length + ou.length := hUl
    have t55 : (Nat.beq K 4 && tp4 U1) = false → V l mX7_between false (pM fv ar) (zrm 3 0 0) (zFm false (pM fv ar) Q 0 0) 0 0 55 [(0, .ref 0), (1, .int (nI c))] [] (pM fv2 ar2) := by
      intro  hno
      refine V.g2 60 [17, 20, 28, 55] mX7_between_ok rfl ?_
      refine V.cw mX7_between_ok rfl lX7_170 (c7_holds l) rfl 0 7 rfl rfl rfl rfl rfl rfl ⟨fv2, ar2, _, U1.length, by omega, h33b, rfl, rfl, ⟨rfl, ?_⟩⟩
      refine V.g2 60 [17, 20, 28, 55] mX7_between_ok rfl ?_
      refine And.intro (Or.inr rfl) ?_
      refine ⟨_, zsim_rfl _, ?_⟩
      have s32b : stk (upd (ar2 32) (0 + U1.length) (nI c)) 0 (c :: U1) := stk_p s32 rfl
      rw [Nat.zero_add] at s32b
      have h34b : fv2 34 = nI (opC (c :: U1)) := by rw [opC, if_neg (by omega)]; exact h34
      exact h1 (c :: U1) U2 (by show (if (Nat.beq K 4 && tp4 U1) = true then none else some (c :: U1, U2)) = _; rw [hno]; rfl) (upf fv2 33 (nI (U1.length + 1))) (upa ar2 32 (upd (ar2 32) U1.length (nI c))) ⟨fun k a b d => by rw [upf_n a]; exact hk.1 k a b d, fun k a b => by rw [upa_n b]; exact hk.2.1 k a b, hk.2.2⟩ ⟨hli, h17, rfl, h34b, h35, s32b, s15, by show U1.length + 1 + U2.length < 200; omega, fun d hd => by rcases List.mem_cons.mp hd with e | e; omega; exact hc20 d e⟩
    refine V.g2 60 [17, 20, 28, 55] mX7_between_ok rfl ?_
    refine V.cs mX7_between_ok rfl lX7_160 (c7_rank l) rfl rfl rfl rfl ⟨_, c, rfl, by omega, rfl, fun r2 hr2 => ⟨rfl, ?_⟩⟩
    refine V.g2 60 [17, 20, 28, 55] mX7_between_ok rfl ?_
    refine zp_ne K 4 (fun e5 => ?_) (fun e5 => ?_) (hr2.trans (by rw [hK])) rfl
    · refine V.kn [0, 1] [(0, .ref 0), (1, .int (nI c))] [] (pM fv2 ar2) rfl rfl rfl ?_
      exact t55 (by rw [show Nat.beq K 4 = false by cases hb : Nat.beq K 4 with | false => rfl | true => exact absurd (Nat.eq_of_beq_eq_true hb) e5]; rfl)
    · cases U1 with
      | nil =>
        have h33z : fv2 33 = nI 0 := h33b
        refine V.g2 60 [17, 20, 28, 55] mX7_between_ok rfl ?_
        refine pk_le 0 0 (fun e0 => ?_) (fun e0 => absurd e0 (by omega)) h33z rfl
        refine V.kn [0, 1] [(0, .ref 0), (1, .int (nI c))] [] (pM fv2 ar2) rfl rfl rfl ?_
        exact t55 (by rw [show tp4 [] = false from rfl, Bool.and_false])
      | cons d t =>
        have h33s : fv2 33 = nI (t.length + 1) := h33b
        have hd : (ar2 32) ((t.length + 1) - 1) = nI d := by rw [show t.length + 1 - 1 = 0 + t.length by omega]; exact s32.1
        have hd20 : d < 20 := hc20 d (List.mem_cons_self ..)
        have hrd := rkF_le (c := d)
        have hlen3 : t.length + 1 + U2.length = sk.length + ou.length := hlen2
        refine V.g2 60 [17, 20, 28, 55] mX7_between_ok rfl ?_
        refine pk_le (t.length + 1) 0 (fun e1 => absurd e1 (by omega)) (fun e1 => ?_) h33s rfl
        refine ⟨((t.length + 1) - 1), by omega, (nsub (by omega) h33s rfl), rfl, ?_⟩
        refine V.cs mX7_between_ok rfl lX7_160 (c7_rank l) rfl rfl rfl rfl ⟨_, d, hd, hd20, rfl, fun r3 hr3 => ⟨rfl, ?_⟩⟩
        refine V.g2 60 [17, 20, 28, 55] mX7_between_ok rfl ?_
        refine zp_ne (rkF d) 4 (fun e6 => ?_) (fun e6 => ?_) hr3 rfl
        · refine V.kn [0, 1] [(0, .ref 0), (1, .int (nI c))] [] (pM fv2 ar2) rfl rfl rfl ?_
          exact t55 (by rw [show tp4 (d :: t) = Nat.beq (rkF d) 4 from rfl, show Nat.beq (rkF d) 4 = false by cases hb : Nat.beq (rkF d) 4 with | false => rfl | true => exact absurd (Nat.eq_of_beq_eq_true hb) e6, Bool.and_false])
        · refine And.intro (Or.inl rfl) ?_
          exact ⟨_, zsim_rfl _, h0 (by show (if (Nat.beq K 4 && Nat.beq (rkF d) 4) = true then none else some (c :: d :: t, U2)) = none; rw [e5, e6]; rfl) fv2 ar2 hk⟩
  refine V.g2 60 [17, 20, 28, 55] mX7_between_ok rfl ?_
  refine V.cs mX7_between_ok rfl lX7_160 (c7_rank l) rfl rfl rfl rfl ⟨_, c, rfl, by omega, rfl, fun r1 hr1 => ⟨rfl, ?_⟩⟩
  refine V.g2 60 [17, 20, 28, 55] mX7_between_ok rfl ?_
  refine zp_ne K 4 (fun e7 => ?_) (fun e7 => ?_) (hr1.trans (by rw [hK])) rfl
  · refine V.cs mX7_between_ok rfl lX7_160 (c7_rank l) rfl rfl rfl rfl ⟨_, c, rfl, by omega, rfl, fun r4 hr4 => ⟨rfl, ?_⟩⟩
    refine V.nm [(0, .ref 0), (1, .int (nI c))] [.int r4, .ref 0] (pM fv ar) rfl rfl rfl ?_
    exact t17 r4 (by rw [hr, if_neg e7, hr4, ← hK])
  · refine V.nm [(0, .ref 0), (1, .int (nI c))] [.int (nI 5), .ref 0] (pM fv ar) rfl rfl rfl ?_
    exact t17 _ (by rw [hr, if_pos e7])
