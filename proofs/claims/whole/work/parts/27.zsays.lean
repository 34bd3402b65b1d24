/-! ===== Text.says ===== -/
def tPart (n : Nat) (cd en : fI) (part : Nat) (P : List Nat) : Prop := ∃ s0 : Nat, (part = 0 → s0 = 0) ∧ (part ≠ 0 → en (part - 1) = nI s0) ∧ en part = nI (s0 + P.length) ∧ s0 + P.length ≤ n ∧ (∀ (k op : Nat), P[k]? = some op → cd (s0 + k) = eC op) ∧ (∀ op ∈ P, opOk op) ∧ dpt P 0 = some 1
theorem eC_name : ∀ k, k < 6 → (¬ eC k ≤ -11) ∧ eC k < 0 ∧ -1 - eC k = nI k := by decide
theorem eC_bin {op : Nat} (h : isBin op = true) : eC op ≤ -11 ∧ eC op < -12 := by
  rcases isBin_cases h with rfl | rfl | rfl | rfl | rfl | rfl | rfl <;> decide
theorem evO_num {nm : fI} {op : Nat} {ss : List Int32} (h : 100 ≤ op) : evO nm op ss = some (nI (op - 100) :: ss) := by unfold evO; rw [if_pos h]
theorem evO_name {nm : fI} {op : Nat} {ss : List Int32} (h : op < 6) : evO nm op ss = some (nm op :: ss) := by unfold evO; rw [if_neg (by omega), if_pos h]
theorem evO_bin {nm : fI} {op : Nat} {ss s2 : List Int32} (h : isBin op = true) (h2 : evO nm op ss = some s2) : ∃ a b s, ss = b :: a :: s ∧ s2 = twF op a b :: s := by
  have hc := isBin_cases h
  unfold evO at h2
  rw [if_neg (by omega), if_neg (by omega), if_neg (by omega), if_neg (by omega)] at h2
  split at h2
  · rename_i b a s
    cases h2
    exact ⟨a, b, s, rfl, rfl⟩
  · cases h2
theorem evO_not {nm : fI} {ss s2 : List Int32} (h2 : evO nm 13 ss = some s2) : ∃ a s, ss = a :: s ∧ s2 = (if a = 0 then 1 else 0) :: s := by
  unfold evO at h2
  rw [if_neg (by omega), if_neg (by omega), if_pos rfl] at h2
  split at h2
  · rename_i a s
    cases h2
    exact ⟨a, s, rfl, rfl⟩
  · cases h2
theorem evO_neg {nm : fI} {ss s2 : List Int32} (h2 : evO nm 19 ss = some s2) : ∃ a s, ss = a :: s ∧ s2 = - a :: s := by
  unfold evO at h2
  rw [if_neg (by omega), if_neg (by omega), if_neg (by omega), if_pos rfl] at h2
  split at h2
  · rename_i a s
    cases h2
    exact ⟨a, s, rfl, rfl⟩
  · cases h2
def T_says : zT := fun args hs Q => ∃ (nt : Int32) (n : Nat) (cd en nm sk : fI) (part : Nat) (P : List Nat), n ≤ 160 ∧ part < 3 ∧ tPart n cd en part P ∧ args = [.ref 0, .int (nI part)] ∧ hs = pText 0 nt n cd en nm sk ∧ ∀ sk', Q (some (.int (sayF P nm))) (pText 0 nt n cd en nm sk')
theorem ct_says (l : Launch) : Ct l mX5_says false 3 0 0 T_says := by
  refine Ct.intro mX5_says_ok ?_
  rintro args hs Q ⟨nt, n, cd, en, nm, sk0, part, P, hn, hpt, ⟨s0, hs0, hs1, he, hen, hcd, hop, hdp⟩, rfl, rfl, h⟩
  refine ⟨Nat.le_of_ble_eq_true rfl, ?_⟩
  obtain ⟨sv, hev, hlen⟩ := evL_dpt nm (ss := []) hdp
  obtain ⟨v, rfl⟩ : ∃ v, sv = [v] := by
    match sv, hlen with
    | [v], _ => exact ⟨v, rfl⟩
  have hv : sayF P nm = c99 v := by rw [sayF, hev]
  rw [hv] at h
  generalize hE : s0 + P.length = ee at he hen
  generalize hS : pText 0 nt n cd en nm sk0 = S
  have loop : ∀ (ops : List Nat) (i : Nat) (ss : List Int32) (sk : fI) (x4 x2 : Int32), i + ops.length = ee → x4 = nI i → x2 = nI ss.length → ss.length ≤ i → stR sk ss → (∀ (k op : Nat), ops[k]? = some op → cd (i + k) = eC op) → (∀ op ∈ ops, opOk op) → evL nm ops ss = some [v] → V l mX5_says false S (zrm 3 0 0) (zFm false S Q 0 0) 0 0 35 [(4, .int x4), (3, .int (nI ee)), (2, .int x2), (1, .int (nI part)), (0, .ref 0)] [] (pText 0 nt n cd en nm sk) := by
    intro ops
    induction ops with
    | nil =>
      intro i ss sk x4 x2 hi hx4 hx2 hle hst hc ho hev
      cases hev
      simp only [List.length_nil, Nat.add_zero, List.length_singleton] at hi hle hx2
      refine V.g 60 [35] mX5_says_ok rfl ?_
      refine pk_le ee i (fun _ => ?_) (fun e => absurd e (by omega)) rfl hx4
      refine zp_ne 1 0 (fun _ => ?_) (fun e => absurd e (by omega)) hx2
      refine And.intro (pk_in 0 n (by omega)) ?_
      refine V.mmin mX5_says_ok rfl lX5_46 rfl rfl ?_
      refine V.mmax mX5_says_ok rfl lX5_62 rfl rfl ?_
      refine V.g 60 [35] mX5_says_ok rfl ?_
      refine ⟨_, zsim_rfl _, ?_⟩
      have e0 : sk (cl (nI 0)) = v := hst.1
      have := h sk
      rw [← e0] at this
      exact this
    | cons op ops ih =>
      intro i ss sk x4 x2 hi hx4 hx2 hle hst hc ho hev
      simp only [List.length_cons] at hi
      have hcd0 : cd i = eC op := hc 0 op rfl
      have ex4 := pk_cl i hx4
      have ec : cd (cl x4) = eC op := by rw [show cl x4 = i from ex4]; exact hcd0
      have hc' : ∀ (k op' : Nat), ops[k]? = some op' → cd (i + 1 + k) = eC op' := fun k op' hk => by
        have := hc (k + 1) op' hk
        rw [← this]
        congr 1
        omega
      have ho' : ∀ op' ∈ ops, opOk op' := fun o hm => ho o (List.mem_cons_of_mem _ hm)
      have ex5 : x4 + 1 = nI (i + 1) := by rw [hx4]; exact nI_1 i
      simp only [evL] at hev
      cases hev1 : evO nm op ss with
      | none => rw [hev1] at hev; cases hev
      | some s2 =>
        rw [hev1] at hev
        have hev : evL nm ops s2 = some [v] := hev
        refine V.g 60 [35] mX5_says_ok rfl ?_
        refine pk_le ee i (fun e => absurd e (by omega)) (fun _ => ?_) rfl hx4
        refine And.intro (pk_in i n (by omega) hx4) ?_
        rcases ho op List.mem_cons_self with hk | hk | rfl | rfl | hk
        · obtain ⟨a1, a2, a3⟩ := eC_name op hk
          rw [evO_name hk] at hev1
          cases hev1
          refine And.intro (fun c => absurd c (by rw [ec]; exact a1)) (fun _ => ?_)
          refine pk_le n ss.length (fun e => absurd e (by omega)) (fun _ => ?_) rfl hx2
          refine And.intro (fun _ => ?_) (fun c => absurd (show cd (cl x4) < 0 by rw [ec]; exact a2) c)
          refine V.cVW mX5_says_ok rfl lX5_52 (ct_named l) rfl [.ref 0, .int (-1 - cd (cl x4))] [.int x2, .ref 8] rfl 0 5 rfl rfl rfl rfl rfl rfl (some (.int (nm op))) _ ⟨nt, n, cd, en, nm, sk, op, hk, by rw [ec, a3], rfl, rfl, rfl⟩ rfl ?_
          refine V.g 60 [35] mX5_says_ok rfl ?_
          refine And.intro (pk_in ss.length n (by omega) hx2) ?_
          refine V.key [4, 3, 2, 1, 0] ?_
          refine ih (i + 1) _ _ _ _ (by omega) ex5 ?_ ?_ ?_ hc' ho' hev
          · rw [hx2]; exact nI_1 _
          · simp only [List.length_cons]; omega
          · rw [pk_cl ss.length hx2]; exact stR_push hst
        · obtain ⟨a1, a2⟩ := eC_bin hk
          obtain ⟨a, b, s, rfl, rfl⟩ := evO_bin hk hev1
          simp only [List.length_cons] at hx2 hle
          have y1 : x2 + zi (-1) = nI (s.length + 1) := by rw [hx2]; exact pk_m1 _
          have y2 : x2 + zi (-1) - nI 1 = nI s.length := by rw [y1]; exact nI_pred _
          refine And.intro (fun _ => ?_) (fun c => absurd (show cd (cl x4) ≤ -11 by rw [ec]; exact a1) c)
          refine And.intro (fun _ => ?_) (fun c => absurd (show cd (cl x4) < -12 by rw [ec]; exact a2) c)
          refine pk_lt (s.length + 1 + 1) 2 (fun e => absurd e (by omega)) (fun _ => ?_) hx2
          refine And.intro (pk_in s.length n (by omega) y2) (And.intro (pk_in (s.length + 1) n (by omega) y1) ?_)
          refine V.cS0 mX5_says_ok rfl lX5_58 (ct_joined l) rfl [.int (cd (cl x4)), .int (sk (cl (x2 + zi (-1) - nI 1))), .int (sk (cl (x2 + zi (-1))))] [.int (x2 + zi (-1) - nI 1), .ref 8] rfl rfl rfl (some (.int (twF op a b))) ⟨op, sk (cl (x2 + zi (-1) - nI 1)), sk (cl (x2 + zi (-1))), hk, by rw [ec], ?_, rfl⟩ ?_
          · rw [show cl (x2 + zi (-1) - nI 1) = s.length from pk_cl _ y2, show cl (x2 + zi (-1)) = s.length + 1 from pk_cl _ y1]
            have q1 : sk (s.length + 1) = b := hst.1
            have q2 : sk s.length = a := hst.2.1
            rw [q1, q2]
          · refine V.g 60 [35] mX5_says_ok rfl ?_
            refine And.intro (pk_in s.length n (by omega) y2) ?_
            refine V.key [4, 3, 2, 1, 0] ?_
            refine ih (i + 1) (twF op a b :: s) _ _ _ (by omega) ex5 y1 (by simp only [List.length_cons]; omega) ?_ hc' ho' hev
            show stR (upd sk (cl (x2 + zi (-1) - nI 1)) _) _
            rw [show cl (x2 + zi (-1) - nI 1) = s.length from pk_cl _ y2]
            exact stR_push hst.2.2
        · obtain ⟨a, s, rfl, rfl⟩ := evO_not hev1
          simp only [List.length_cons] at hx2 hle
          have y2 : x2 - nI 1 = nI s.length := by rw [hx2]; exact nI_pred _
          refine And.intro (fun _ => ?_) (fun c => absurd (show cd (cl x4) ≤ -11 by rw [ec]; decide) c)
          refine And.intro (fun c => absurd c (show ¬ cd (cl x4) < -12 by rw [ec]; decide)) (fun _ => ?_)
          refine pk_lt (s.length + 1) 1 (fun e => absurd e (by omega)) (fun _ => ?_) hx2
          refine And.intro (pk_in s.length n (by omega) y2) ?_
          refine V.cS0 mX5_says_ok rfl lX5_55 (ct_alone l) rfl [.int (cd (cl x4)), .int (sk (cl (x2 - nI 1)))] [.int (x2 - nI 1), .ref 8] rfl rfl rfl (some (.int (if a = 0 then 1 else 0))) ⟨sk (cl (x2 - nI 1)), Or.inr ⟨by rw [ec]; rfl, ?_, rfl⟩⟩ ?_
          · rw [show cl (x2 - nI 1) = s.length from pk_cl _ y2, show sk s.length = a from hst.1]
          · refine V.g 60 [35] mX5_says_ok rfl ?_
            refine And.intro (pk_in s.length n (by omega) y2) ?_
            refine V.key [4, 3, 2, 1, 0] ?_
            refine ih (i + 1) ((if a = 0 then 1 else 0) :: s) _ _ _ (by omega) ex5 hx2 (by simp only [List.length_cons]; omega) ?_ hc' ho' hev
            show stR (upd sk (cl (x2 - nI 1)) _) _
            rw [show cl (x2 - nI 1) = s.length from pk_cl _ y2]
            exact stR_push hst.2
        · obtain ⟨a, s, rfl, rfl⟩ := evO_neg hev1
          simp only [List.length_cons] at hx2 hle
          have y2 : x2 - nI 1 = nI s.length := by rw [hx2]; exact nI_pred _
          refine And.intro (fun _ => ?_) (fun c => absurd (show cd (cl x4) ≤ -11 by rw [ec]; decide) c)
          refine And.intro (fun c => absurd c (show ¬ cd (cl x4) < -12 by rw [ec]; decide)) (fun _ => ?_)
          refine pk_lt (s.length + 1) 1 (fun e => absurd e (by omega)) (fun _ => ?_) hx2
          refine And.intro (pk_in s.length n (by omega) y2) ?_
          refine V.cS0 mX5_says_ok rfl lX5_55 (ct_alone l) rfl [.int (cd (cl x4)), .int (sk (cl (x2 - nI 1)))] [.int (x2 - nI 1), .ref 8] rfl rfl rfl (some (.int (- a))) ⟨sk (cl (x2 - nI 1)), Or.inl ⟨by rw [ec]; rfl, ?_, rfl⟩⟩ ?_
          · rw [show cl (x2 - nI 1) = s.length from pk_cl _ y2, show sk s.length = a from hst.1]
          · refine V.g 60 [35] mX5_says_ok rfl ?_
            refine And.intro (pk_in s.length n (by omega) y2) ?_
            refine V.key [4, 3, 2, 1, 0] ?_
            refine ih (i + 1) (- a :: s) _ _ _ (by omega) ex5 hx2 (by simp only [List.length_cons]; omega) ?_ hc' ho' hev
            show stR (upd sk (cl (x2 - nI 1)) _) _
            rw [show cl (x2 - nI 1) = s.length from pk_cl _ y2]
            exact stR_push hst.2
        · rw [evO_num hk.1] at hev1
          cases hev1
          have e1 : eC op = nI (op - 100) := by unfold eC; rw [if_pos hk.1]
          have p1 : ¬ nI (op - 100) < 0 := nI_pos (by omega)
          have p2 : ¬ nI (op - 100) ≤ -11 := fun q => p1 (Int32.lt_of_le_of_lt q (by decide))
          refine And.intro (fun c => absurd c (by rw [ec, e1]; exact p2)) (fun _ => ?_)
          refine pk_le n ss.length (fun e => absurd e (by omega)) (fun _ => ?_) rfl hx2
          refine And.intro (fun c => absurd c (show ¬ cd (cl x4) < 0 by rw [ec, e1]; exact p1)) (fun _ => ?_)
          refine And.intro (pk_in ss.length n (by omega) hx2) ?_
          refine V.key [4, 3, 2, 1, 0] ?_
          refine ih (i + 1) _ _ _ _ (by omega) ex5 ?_ ?_ ?_ hc' ho' hev
          · rw [hx2]; exact nI_1 _
          · simp only [List.length_cons]; omega
          · show stR (upd sk (cl x2) (cd (cl x4))) _
            rw [show cl x2 = ss.length from pk_cl ss.length hx2, ec, e1]
            exact stR_push hst
  subst hS
  refine V.g 60 [35] mX5_says_ok rfl ?_
  refine And.intro (pk_in part 3 hpt) ?_
  refine V.mmin mX5_says_ok rfl lX5_46 rfl rfl ?_
  have emin : (if nI n < en (cl (nI part)) then nI n else en (cl (nI part))) = nI ee := by
    rw [show cl (nI part) = part from pk_cl part, he, if_neg (nI_nlt (by omega) (by omega))]
  rw [emin]
  refine V.g 60 [35] mX5_says_ok rfl ?_
  refine zp_ne part 0 (fun e0 => ?_) (fun e0 => ?_)
  · have y2 : nI part - nI 1 = nI (part - 1) := pk_sub (by omega)
    refine And.intro (pk_in (part - 1) 3 (by omega) y2) ?_
    refine V.key [4, 3, 2, 1, 0] ?_
    refine loop P s0 [] sk0 _ _ hE ?_ rfl (Nat.zero_le _) trivial hcd hop hev
    show en (cl (nI part - nI 1)) = nI s0
    rw [show cl (nI part - nI 1) = part - 1 from pk_cl _ y2]
    exact hs1 e0
  · refine V.key [4, 3, 2, 1, 0] ?_
    have := hs0 e0
    subst this
    exact loop P 0 [] sk0 _ _ hE rfl rfl (Nat.zero_le _) trivial hcd hop hev
