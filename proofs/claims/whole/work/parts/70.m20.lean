/-! ===== the reference: unwinds, between ===== -/
def uwF (r : Nat) : List Nat → List Nat → List Nat × List Nat
  | [], ou => ([], ou)
  | c :: t, ou => if r ≤ rkF c then uwF r t (c :: ou) else (c :: t, ou)
theorem rkF_le {c : Nat} : rkF c ≤ 7 := by
  unfold rkF
  repeat' split
  all_goals omega
theorem upf_n {f : Nat → Int32} {j k : Nat} {x : Int32} (h : k ≠ j) : upf f j x k = f k := by
  unfold upf
  cases hb : Nat.beq k j with
  | false => rfl
  | true => exact absurd (Nat.eq_of_beq_eq_true hb) h
theorem upa_n {f : Nat → fI} {j k : Nat} {x : fI} (h : k ≠ j) : upa f j x k = f k := by
  unfold upa
  cases hb : Nat.beq k j with
  | false => rfl
  | true => exact absurd (Nat.eq_of_beq_eq_true hb) h
/-- the reader's stack and what it has put out, latest first -/
def pS (fv : Nat → Int32) (ar : Nat → fI) (li : Nat) (sk ou : List Nat) : Prop := li < 6 ∧ fv 17 = nI li ∧ fv 33 = nI sk.length ∧ fv 34 = nI (opC sk) ∧ fv 35 = nI ou.length ∧ stk (ar 32) 0 sk ∧ stk (ar 15) (200 * li) ou ∧ sk.length + ou.length < 200 ∧ ∀ c ∈ sk, c < 20
/-- what the reader's stack leaves alone -/
def kQ (li : Nat) (f : Nat → Int32) (a : Nat → fI) (g : Nat → Int32) (b : Nat → fI) : Prop := (∀ k, k ≠ 33 → k ≠ 34 → k ≠ 35 → g k = f k) ∧ (∀ k, k ≠ 15 → k ≠ 32 → b k = a k) ∧ ∀ i, (i < 200 * li ∨ 200 * li + 200 ≤ i) → b 15 i = a 15 i
theorem kQ_rfl (li : Nat) (f : Nat → Int32) (a : Nat → fI) : kQ li f a f a := ⟨fun _ _ _ _ => rfl, fun _ _ _ => rfl, fun _ _ => rfl⟩
theorem kQ_tr {li : Nat} {f g h : Nat → Int32} {a b c : Nat → fI} (h1 : kQ li f a g b) (h2 : kQ li g b h c) : kQ li f a h c := ⟨fun k e1 e2 e3 => (h2.1 k e1 e2 e3).trans (h1.1 k e1 e2 e3), fun k e1 e2 => (h2.2.1 k e1 e2).trans (h1.2.1 k e1 e2), fun i hi => (h2.2.2 i hi).trans (h1.2.2 i hi)⟩
def T7_unwinds : zT := fun args hs Q => ∃ (fv : Nat → Int32) (ar : Nat → fI) (x : Int32) (r li : Nat) (sk ou : List Nat), x = nI r ∧ 1 ≤ r ∧ r ≤ 7 ∧ pS fv ar li sk ou ∧ args = [.ref 0, .int x] ∧ hs = pM fv ar ∧ ∀ fv2 ar2, kQ li fv ar fv2 ar2 → pS fv2 ar2 li (uwF r sk ou).1 (uwF r sk ou).2 → Q none (pM fv2 ar2)
set_option maxHeartbeats 500000 in
theorem c7_unwinds (l : Launch) : Ct l mX7_unwinds false 2 0 0 T7_unwinds := by
  refine Ct.intro mX7_unwinds_ok ?_
  rintro args hs Q ⟨fv, ar, x, r, li, sk, ou, hx, hr1, hr7, hps, rfl, rfl, h⟩
  refine ⟨Nat.le_of_ble_eq_true rfl, ?_⟩
  subst hx
  obtain ⟨R, hR0⟩ : ∃ R, uwF r sk ou = R := ⟨_, rfl⟩
  rw [hR0] at h
  generalize hS : pM fv ar = S
  have loop : ∀ (sk ou : List Nat) (fv2 : Nat → Int32) (ar2 : Nat → fI), kQ li fv ar fv2 ar2 → pS fv2 ar2 li sk ou → uwF r sk ou = R → V l mX7_unwinds false S (zrm 2 0 0) (zFm false S Q 0 0) 0 0 0 [(0, .ref 0), (1, .int (nI r))] [] (pM fv2 ar2) := by
    intro sk
    induction sk with
    | nil =>
      intro ou fv2 ar2 hk hp hR
      have hp0 := hp
      obtain ⟨hli, h17, h33, h34, h35, s32, s15, hlen, hc20⟩ := hp
      have h33z : fv2 33 = nI 0 := h33
      refine V.g2 60 [0, 67] mX7_unwinds_ok rfl ?_
      refine pk_le 0 0 (fun e0 => ?_) (fun e0 => absurd e0 (by omega)) h33z rfl
      subst hR
      exact ⟨_, zsim_rfl _, h fv2 ar2 hk hp0⟩
    | cons c t ih =>
      intro ou fv2 ar2 hk hp hR
      have hp0 := hp
      obtain ⟨hli, h17, h33, h34, h35, s32, s15, hlen, hc20⟩ := hp
      have h33s : fv2 33 = nI (t.length + 1) := h33
      have hc : (ar2 32) ((t.length + 1) - 1) = nI c := by rw [show t.length + 1 - 1 = 0 + t.length by omega]; exact s32.1
      have hcc : c < 20 := hc20 c (List.mem_cons_self ..)
      have hrk := rkF_le (c := c)
      have hlen2 : t.length + 1 + ou.length < 200 := hlen
      refine V.g2 60 [0, 67] mX7_unwinds_ok rfl ?_
      refine pk_le (t.length + 1) 0 (fun e1 => absurd e1 (by omega)) (fun e1 => ?_) h33s rfl
      refine ⟨((t.length + 1) - 1), by omega, (nsub (by omega) h33s rfl), rfl, ?_⟩
      refine V.cs mX7_unwinds_ok rfl lX7_160 (c7_rank l) rfl rfl rfl rfl ⟨_, c, hc, hcc, rfl, fun rr hrr => ⟨rfl, ?_⟩⟩
      refine V.g2 60 [0, 67] mX7_unwinds_ok rfl ?_
      refine pk_lt (rkF c) r (fun e2 => ?_) (fun e2 => ?_) hrr rfl
      · rw [show uwF r (c :: t) ou = (c :: t, ou) by rw [uwF, if_neg (by omega)]] at hR
        subst hR
        exact ⟨_, zsim_rfl _, h fv2 ar2 hk hp0⟩
      · have e2b : r ≤ rkF c := by omega
        rw [show uwF r (c :: t) ou = uwF r t (c :: ou) by rw [uwF, if_pos e2b]] at hR
        refine ⟨((t.length + 1) - 1), by omega, (nsub (by omega) h33s rfl), rfl, ?_⟩
        have t67 : ∀ (k : Nat), k = (if c = 0 ∨ c = 13 ∨ c = 19 then 1 else 0) → V l mX7_unwinds false S (zrm 2 0 0) (zFm false S Q 0 0) 0 0 67 [(2, .int ((ar2 32) ((t.length + 1) - 1))), (0, .ref 0), (1, .int (nI r))] [.int (nI k), .int (fv2 34), .ref 0] (pM (upf fv2 33 ((fv2 33) - (nI 1))) ar2) := by
          intro k hkk
          refine V.g2 60 [0, 67] mX7_unwinds_ok rfl ?_
          refine V.cw mX7_unwinds_ok rfl lX7_166 (c7_puts l) rfl 0 7 rfl rfl rfl rfl rfl rfl ⟨(upf (upf fv2 33 (fv2 33 - nI 1)) 34 (fv2 34 - nI k)), ar2, _, li, ou.length, hli, by omega, h17, h35, rfl, rfl, ⟨rfl, ?_⟩⟩
          refine V.g2 60 [0, 67] mX7_unwinds_ok rfl ?_
          refine V.kn [0, 1] [(0, .ref 0), (1, .int (nI r))] [] (pM (upf (upf (upf fv2 33 (fv2 33 - nI 1)) 34 (fv2 34 - nI k)) 35 (nI (ou.length + 1))) (upa ar2 15 (upd (ar2 15) (200 * li + ou.length) (ar2 32 ((t.length + 1) - 1))))) rfl rfl rfl ?_
          have hop : opC (c :: t) = opC t + k := by rw [opC, ← hkk]
          have q33 : fv2 33 - nI 1 = nI t.length := by rw [h33s]; exact pk_sub (by omega)
          have q34 : fv2 34 - nI k = nI (opC t) := by rw [h34, hop, pk_sub (by omega)]; congr 1; omega
          refine ih (c :: ou) (upf (upf (upf fv2 33 (fv2 33 - nI 1)) 34 (fv2 34 - nI k)) 35 (nI (ou.length + 1))) (upa ar2 15 (upd (ar2 15) (200 * li + ou.length) (ar2 32 ((t.length + 1) - 1)))) ⟨fun j e1 e2 e3 => ?_, fun j e1 e2 => ?_, fun i hi => ?_⟩ ⟨hli, h17, q33, q34, rfl, s32.2, stk_p s15 hc, ?_, fun d hd => hc20 d (List.mem_cons_of_mem _ hd)⟩ hR
          · rw [upf_n e3, upf_n e2, upf_n e1]; exact hk.1 j e1 e2 e3
          · rw [upa_n e1]; exact hk.2.1 j e1 e2
          · show upd (ar2 15) (200 * li + ou.length) (ar2 32 ((t.length + 1) - 1)) i = _
            rw [pk_un (by omega)]
            exact hk.2.2 i hi
          · show t.length + (ou.length + 1) < 200
            omega
        refine pk_eq c 13 (fun e3 => ?_) (fun e3 => ?_) hc rfl
        · refine V.nm [(2, .int ((ar2 32) ((t.length + 1) - 1))), (0, .ref 0), (1, .int (nI r))] [.int (nI 1), .int (fv2 34), .ref 0] (pM (upf fv2 33 ((fv2 33) - (nI 1))) ar2) rfl rfl rfl ?_
          exact t67 1 (by rw [if_pos (by omega)])
        · refine zp_ne c 19 (fun e4 => ?_) (fun e4 => ?_) hc rfl
          · have ec0 : c ≠ 0 := fun z => by rw [z] at e2b; have : rkF 0 = 0 := rfl; omega
            refine V.nm [(2, .int ((ar2 32) ((t.length + 1) - 1))), (0, .ref 0), (1, .int (nI r))] [.int (nI 0), .int (fv2 34), .ref 0] (pM (upf fv2 33 ((fv2 33) - (nI 1))) ar2) rfl rfl rfl ?_
            exact t67 0 (by rw [if_neg (by omega)])
          · refine V.nm [(2, .int ((ar2 32) ((t.length + 1) - 1))), (0, .ref 0), (1, .int (nI r))] [.int (nI 1), .int (fv2 34), .ref 0] (pM (upf fv2 33 ((fv2 33) - (nI 1))) ar2) rfl rfl rfl ?_
            exact t67 1 (by rw [if_pos (by omega)])
  subst hS
  exact loop sk ou fv ar (kQ_rfl li fv ar) hps hR0
