/-! ===== the reference: a guest, all guests ===== -/
def pdG (tk : fI) (aw g : Nat) : zOL := pdL tk aw (g - 1 - aw) (g - (g - 1 - aw))
def gsR (fv : Nat → Int32) (ar : Nat → fI) (lk aw g sz : Nat) (s : RS) : Prop := fv 10 = nI lk ∧ fv 12 = nI aw ∧ fv 53 = nI s.2.1 ∧ (∀ i, i < s.2.1 → ar 52 i = s.1 i) ∧ rOk s g ∧ fv 56 = nI (pdG s.2.2.1 aw g).length ∧ ouR (ar 54) (ar 55) (pdG s.2.2.1 aw g) ∧ s.2.1 + (pdG s.2.2.1 aw g).length = sz ∧ fv 57 = s.2.2.2.1 ∧ fv 58 = s.2.2.2.2.1 ∧ fv 59 = s.2.2.2.2.2
theorem fl_len {α : Type} (p : α → Bool) : ∀ L : List α, (L.filter p).length + (L.filter (fun x => !p x)).length = L.length
  | [] => rfl
  | a :: L => by
    have ih := fl_len p L
    rw [List.filter_cons, List.filter_cons]
    cases hp : p a with
    | true =>
      rw [if_pos rfl, if_neg (by decide), List.length_cons, List.length_cons]
      omega
    | false =>
      rw [if_neg (by decide), if_pos (show (!false) = true from rfl), List.length_cons, List.length_cons]
      omega
theorem pdG_nil {tk : fI} {aw lo n g : Nat} (h : g ≤ lo + aw) : (pdL tk aw lo n).filter (fun p => false || decide (p.2 ≤ g)) = [] := by
  rw [List.filter_eq_nil_iff]
  intro p hp
  have := pdL_mem hp
  rw [Bool.false_or, decide_eq_false (by omega)]
  decide
theorem pdG_all {tk : fI} {aw lo n g : Nat} (h : g ≤ lo + aw) : (pdL tk aw lo n).filter (fun p => !(false || decide (p.2 ≤ g))) = pdL tk aw lo n := by
  rw [List.filter_eq_self]
  intro p hp
  have := pdL_mem hp
  rw [Bool.false_or, decide_eq_false (by omega)]
  rfl
/-- who is due as guest g comes -/
theorem gu_split (ro : fI) (s : RS) (aw g sz : Nat) (hrow : ∀ i, i < s.2.1 → ro i = s.1 i) (hsz : s.2.1 + (pdG s.2.2.1 aw g).length = sz) (h8 : sz ≤ 8) : ∃ s1 : RS, s1 = (if aw + 1 ≤ g then psh (g - 1 - aw) s else s) ∧ s.2.1 + ((pdG s.2.2.1 aw g).filter (fun p => false || decide (p.2 ≤ g))).length = s1.2.1 ∧ (∀ i, i < s1.2.1 → apR ro s.2.1 ((pdG s.2.2.1 aw g).filter (fun p => false || decide (p.2 ≤ g))) i = s1.1 i) ∧ s1.2.2 = s.2.2 ∧ (pdG s.2.2.1 aw g).filter (fun p => !(false || decide (p.2 ≤ g))) = pdL s.2.2.1 aw (g - aw) (g - (g - aw)) := by
  by_cases c : aw + 1 ≤ g
  · have eL : pdG s.2.2.1 aw g = (if s.2.2.1 (g - 1 - aw) = -1 then [] else [(s.2.2.1 (g - 1 - aw), g)]) ++ pdL s.2.2.1 aw (g - aw) (g - (g - aw)) := by
      unfold pdG
      rw [show g - (g - 1 - aw) = (g - (g - aw)) + 1 by omega, pdL_cons, show g - 1 - aw + 1 + aw = g by omega, show g - 1 - aw + 1 = g - aw by omega]
    refine ⟨psh (g - 1 - aw) s, by rw [if_pos c], ?_⟩
    rw [eL] at hsz ⊢
    rw [List.filter_append, List.filter_append, pdG_nil (by omega), pdG_all (by omega), List.append_nil]
    by_cases t : s.2.2.1 (g - 1 - aw) = -1
    · rw [psh, if_pos (Or.inl t), if_pos t]
      refine ⟨rfl, fun i hi => ?_, rfl, rfl⟩
      show apR ro s.2.1 [] i = s.1 i
      rw [apR_0]
      exact hrow i hi
    · rw [if_neg t, List.length_append, List.length_singleton] at hsz
      rw [psh, if_neg (show ¬ (s.2.2.1 (g - 1 - aw) = -1 ∨ s.2.1 = 8) from fun q => q.elim t (fun z => by omega)), if_neg t]
      have e1 : ([(s.2.2.1 (g - 1 - aw), g)] : zOL).filter (fun p => false || decide (p.2 ≤ g)) = [(s.2.2.1 (g - 1 - aw), g)] := by rw [List.filter_cons, if_pos (by simp)]; rfl
      have e2 : ([(s.2.2.1 (g - 1 - aw), g)] : zOL).filter (fun p => !(false || decide (p.2 ≤ g))) = [] := by rw [List.filter_cons, if_neg (by simp)]; rfl
      rw [e1, e2]
      refine ⟨rfl, fun i hi => ?_, rfl, List.nil_append _⟩
      have := (apR_s ro s.2.1 [] (s.2.2.1 (g - 1 - aw), g)).symm
      rw [List.nil_append] at this
      rw [this, apR_0]
      show upd ro (s.2.1 + 0) (s.2.2.1 (g - 1 - aw)) i = upd s.1 s.2.1 (s.2.2.1 (g - 1 - aw)) i
      rw [Nat.add_zero]
      by_cases z : i = s.2.1
      · rw [z, pk_us, pk_us]
      · rw [pk_un z, pk_un z]
        have hi2 : i < s.2.1 + 1 := hi
        exact hrow i (by omega)
  · refine ⟨s, by rw [if_neg c], ?_⟩
    have eL : pdG s.2.2.1 aw g = pdL s.2.2.1 aw (g - aw) (g - (g - aw)) := by
      unfold pdG
      rw [show g - 1 - aw = g - aw by omega]
    rw [eL, pdG_nil (by omega), pdG_all (by omega), apR_0]
    exact ⟨rfl, hrow, rfl, rfl⟩
theorem pdG_s (tk : fI) (aw g : Nat) (v : Int32) : pdG (upd tk g v) aw (g + 1) = pdL tk aw (g - aw) (g - (g - aw)) ++ (if v = -1 then [] else [(v, g + 1 + aw)]) := by
  unfold pdG
  rw [show g + 1 - 1 - aw = g - aw by omega, show g + 1 - (g - aw) = (g - (g - aw)) + 1 by omega, pdL, pdL_up (by omega), show g - aw + (g - (g - aw)) = g by omega, pk_us]
def T7_guests : zT := fun args hs Q => ∃ (fv : Nat → Int32) (ar : Nat → fI) (x : Int32) (g lk aw sz : Nat) (s : RS), g < 24 ∧ x = nI g ∧ lk ≤ 8 ∧ aw ≤ 5 ∧ sz ≤ 8 ∧ gsR fv ar lk aw g sz s ∧ args = [.ref 0, .int x] ∧ hs = pM fv ar ∧ ∀ fv2 ar2, kM fv ar fv2 ar2 → gsR fv2 ar2 lk aw (g + 1) sz (gst (ar 8) (fv 11) lk aw g s) → Q none (pM fv2 ar2)
set_option maxHeartbeats 500000 in
theorem c7_guests (l : Launch) : Ct l mX7_guests false 3 0 0 T7_guests := by
  refine Ct.intro mX7_guests_ok ?_
  rintro args hs Q ⟨fv, ar, x, g, lk, aw, sz, s, hg, hx, hlk, haw, hsz8, ⟨h10, h12, h53, hrow, hro, h56, hou, hsz, h57, h58, h59⟩, rfl, rfl, h⟩
  refine ⟨Nat.le_of_ble_eq_true rfl, ?_⟩
  subst hx
  obtain ⟨s1, hs1, e1, erow, e22, eR⟩ := gu_split (ar 52) s aw g sz hrow hsz hsz8
  have hr1 : rOk s1 g := by
    rw [hs1]
    split
    · exact psh_ok hro (by omega)
    · exact hro
  have hgst : gst (ar 8) (fv 11) lk aw g s = tko (ar 8) (fv 11) lk g s1 := by rw [hs1]; rfl
  have hRl : s1.2.1 + (pdL s.2.2.1 aw (g - aw) (g - (g - aw))).length = sz := by
    rw [← e1, ← eR, ← hsz, Nat.add_assoc]
    congr 1
    exact fl_len (fun p : Int32 × Nat => false || decide (p.2 ≤ g)) (pdG s.2.2.1 aw g)
  rw [hgst] at h
  refine V.g2 60 [29, 88, 106] mX7_guests_ok rfl ?_
  refine V.cw mX7_guests_ok rfl lX7_326 (c7_pushesIn l) rfl 0 7 rfl rfl rfl rfl rfl rfl ⟨fv, ar, _, false, g, s.2.1, pdG s.2.2.1 aw g, by omega, rfl, h53, h56, by omega, fun p hp => by have := pdL_mem hp; omega, hou, rfl, rfl, fun ou du hou2 => ⟨rfl, ?_⟩⟩
  rw [eR] at hou2
  rw [e1, eR]
  generalize hro2 : apR (ar 52) s.2.1 ((pdG s.2.2.1 aw g).filter (fun p => false || decide (p.2 ≤ g))) = ro at erow
  generalize hRR : pdL s.2.2.1 aw (g - aw) (g - (g - aw)) = RL at hou2 hRl
  obtain ⟨o1, st1, tk1, mb1, mw1, mt1⟩ := s1
  simp only [] at erow hRl
  refine V.nm [(0, .ref 0), (1, .int (nI g))] [] (pM (upf (upf fv 53 (nI st1)) 56 (nI RL.length)) (upa (upa (upa ar 52 ro) 54 ou) 55 du)) rfl rfl rfl ?_
  have h22 : (tk1, mb1, mw1, mt1) = s.2.2 := e22
  have k1 : tk1 = s.2.2.1 := by rw [← h22]
  have k2 : fv 57 = mb1 := by rw [h57, ← h22]
  have k3 : fv 58 = mw1 := by rw [h58, ← h22]
  have k4 : fv 59 = mt1 := by rw [h59, ← h22]
  have hst8 : st1 ≤ 8 := hr1.1
  have t29 : ∀ (v : Int32), v = nI (min st1 lk) → V l mX7_guests false (pM fv ar) (zrm 3 0 0) (zFm false (pM fv ar) Q 0 0) 0 0 29 [(0, .ref 0), (1, .int (nI g))] [.int v, .ref 0] (pM (upf (upf fv 53 (nI st1)) 56 (nI RL.length)) (upa (upa (upa ar 52 ro) 54 ou) 55 du)) := by
    intro v hv
    refine V.cw mX7_guests_ok rfl lX7_330 (c7_takes l) rfl 0 7 rfl rfl rfl rfl rfl rfl ⟨(upf (upf fv 53 (nI st1)) 56 (nI RL.length)), (upa (upa (upa ar 52 ro) 54 ou) 55 du), _, min st1 lk, o1, by omega, hv, fun i hi => erow i (by omega), hr1.2.1, rfl, rfl, fun r hr => ⟨rfl, ?_⟩⟩
    replace hr : r = oI (chG (ar 8) o1 (fv 11) (min st1 lk) 0 none) := hr
    cases hc : chG (ar 8) o1 (fv 11) (min st1 lk) 0 none with
    | none =>
      rw [hc] at hr
      have hr2 : r = -1 := hr
      subst hr2
      refine V.g2 60 [29, 88, 106] mX7_guests_ok rfl ?_
      refine And.intro (fun (e0 : ¬ (-1 : Int32) = (-1 : Int32)) => absurd rfl e0) (fun (e0 : (-1 : Int32) = (-1 : Int32)) => ?_)
      refine ⟨_, zsim_rfl _, ?_⟩
      have ht : tko (ar 8) (fv 11) lk g (o1, st1, tk1, mb1, mw1, mt1) = (o1, st1, upd tk1 g (-1), mb1, mw1, mt1) := by
        unfold tko
        rw [show chG (ar 8) o1 (fv 11) (min st1 lk) 0 none = none from hc]
      rw [ht] at h
      have hp2 : pdG (upd tk1 g (-1)) aw (g + 1) = RL := by rw [pdG_s, k1, hRR, if_pos rfl, List.append_nil]
      refine h (upf (upf fv 53 (nI st1)) 56 (nI RL.length)) (upa (upa (upa ar 52 ro) 54 ou) 55 du) ⟨⟨rfl, rfl, rfl, rfl, rfl, rfl, rfl, rfl, rfl, rfl, rfl⟩, ⟨rfl, rfl, rfl, rfl, rfl, rfl, rfl, rfl, rfl, rfl, rfl, rfl, rfl, rfl, rfl, rfl⟩⟩ ⟨h10, h12, rfl, erow, ⟨hst8, hr1.2.1, fun k hk => ?_⟩, ?_, ?_, ?_, k2, k3, k4⟩
      · show tOk (upd tk1 g (-1) k)
        by_cases z : k = g
        · rw [z, pk_us]; exact Or.inl rfl
        · rw [pk_un z]; exact hr1.2.2 k (by omega)
      · rw [hp2]; rfl
      · rw [hp2]; exact hou2
      · rw [hp2]; exact hRl
    | some q =>
      rw [hc] at hr
      have hr2 : r = nI q := hr
      have hq : q < min st1 lk := chG_lt (ar 8) o1 (fv 11) (m := min st1 lk) _ 0 none (by omega) (fun q e => by cases e) q hc
      obtain ⟨j, hj, hoj⟩ := hr1.2.1 q (by omega)
      have hrq : ro q = nI j := (erow q (by omega)).trans hoj
      have ej : cl (o1 q) = j := by rw [show o1 q = nI j from hoj]; exact nI_clamp (by omega)
      have ht : tko (ar 8) (fv 11) lk g (o1, st1, tk1, mb1, mw1, mt1) = (shP o1 q st1, st1 - 1, upd tk1 g (o1 q), mb1 + ar 8 (cl (o1 q)), mxF mw1 (ar 8 (cl (o1 q))), mt1 ||| (nI 1 <<< (o1 q &&& 31))) := by
        unfold tko
        rw [show chG (ar 8) o1 (fv 11) (min st1 lk) 0 none = some q from hc]
      rw [ht, show o1 q = nI j from hoj, show cl (nI j) = j from nI_clamp (by omega)] at h
      subst hr2
      refine V.g2 60 [29, 88, 106] mX7_guests_ok rfl ?_
      refine And.intro (fun (e5 : ¬ (nI q) = (-1 : Int32)) => ?_) (fun (e5 : (nI q) = (-1 : Int32)) => absurd e5 (nI_m1 (by omega)))
      refine ⟨q, by omega, rfl, rfl, ?_⟩
      refine ⟨j, by omega, hrq, rfl, ?_⟩
      refine ⟨j, by omega, hrq, rfl, ?_⟩
      have t88 : ∀ (m58 : Int32), m58 = mxF mw1 (ar 8 j) → V l mX7_guests false (pM fv ar) (zrm 3 0 0) (zFm false (pM fv ar) Q 0 0) 0 0 88 [(3, .int (ro q)), (2, .int (nI q)), (0, .ref 0), (1, .int (nI g))] [.int m58, .ref 0] (pM (upf (upf (upf fv 53 (nI st1)) 56 (nI RL.length)) 57 (fv 57 + ar 8 j)) (upa (upa (upa ar 52 ro) 54 ou) 55 du)) := by
        intro m58 h88
        refine V.g2 60 [106] mX7_guests_ok rfl ?_
        refine V.kn [4, 3, 2, 0, 1] [(4, .int (nI q)), (3, .int (ro q)), (2, .int (nI q)), (0, .ref 0), (1, .int (nI g))] [] (pM (upf (upf (upf (upf (upf fv 53 (nI st1)) 56 (nI RL.length)) 57 (fv 57 + ar 8 j)) 58 m58) 59 ((fv 59) ||| ((nI 1) <<< ((ro q) &&& 31)))) (upa (upa (upa ar 52 ro) 54 ou) 55 du)) rfl rfl rfl ?_
        rw [hrq]
        have loop : ∀ (m i : Nat) (x4 : Int32) (ro2 : fI), i + 1 + m = st1 → x4 = nI i → q ≤ i → ro2 = shP ro q (i + 1) → V l mX7_guests false (pM fv ar) (zrm 3 0 0) (zFm false (pM fv ar) Q 0 0) 0 0 106 [(4, .int x4), (3, .int (nI j)), (2, .int (nI q)), (0, .ref 0), (1, .int (nI g))] [] (pM (upf (upf (upf (upf (upf fv 53 (nI st1)) 56 (nI RL.length)) 57 (fv 57 + ar 8 j)) 58 m58) 59 (fv 59 ||| (nI 1 <<< (nI j &&& 31)))) (upa (upa (upa ar 52 ro2) 54 ou) 55 du)) := by
          intro m
          induction m with
          | zero =>
            intro i x4 ro2 hi h4 hqi hr2
            have ei : i + 1 = st1 := by omega
            rw [ei] at hr2
            subst hr2
            refine V.g2 60 [106] mX7_guests_ok rfl ?_
            refine pk_le st1 (i + 1) (fun e => ?_) (fun e => absurd e (by omega)) rfl (nadd h4 rfl)
            refine ⟨RL.length, by omega, rfl, rfl, ?_⟩
            refine ⟨RL.length, by omega, rfl, rfl, ?_⟩
            refine ⟨_, zsim_rfl _, ?_⟩
            have hp2 : pdG (upd tk1 g (nI j)) aw (g + 1) = RL ++ [(nI j, g + 1 + aw)] := by rw [pdG_s, k1, hRR, if_neg (nI_m1 (by omega))]
            have hl2 : (RL ++ [(nI j, g + 1 + aw)]).length = RL.length + 1 := by rw [List.length_append]; rfl
            refine h (upf (upf (upf (upf (upf fv 53 ((nI st1) - (nI 1))) 56 ((nI RL.length) + (nI 1))) 57 (fv 57 + ar 8 j)) 58 m58) 59 (fv 59 ||| (nI 1 <<< (nI j &&& 31)))) (upa (upa (upa ar 52 (shP ro q st1)) 54 (upd ou RL.length (nI j))) 55 (upd du RL.length (((nI g) + (nI 1)) + (fv 12)))) ⟨⟨rfl, rfl, rfl, rfl, rfl, rfl, rfl, rfl, rfl, rfl, rfl⟩, ⟨rfl, rfl, rfl, rfl, rfl, rfl, rfl, rfl, rfl, rfl, rfl, rfl, rfl, rfl, rfl, rfl⟩⟩ ⟨h10, h12, ?_, fun i2 hi2 => ?_, ⟨by show st1 - 1 ≤ 8; omega, shP_ok hr1.2.1 hst8, fun k hk => ?_⟩, ?_, ?_, ?_, ?_, h88, ?_⟩
            · exact nsub (by omega) rfl rfl
            · have hi3 : i2 < st1 - 1 := hi2
              show shP ro q st1 i2 = shP o1 q st1 i2
              unfold shP
              by_cases c : q ≤ i2 ∧ i2 + 1 < st1
              · rw [if_pos c, if_pos c]; exact erow (i2 + 1) (by omega)
              · rw [if_neg c, if_neg c]; exact erow i2 (by omega)
            · show tOk (upd tk1 g (nI j) k)
              by_cases z : k = g
              · rw [z, pk_us]; exact Or.inr ⟨j, hj, rfl⟩
              · rw [pk_un z]; exact hr1.2.2 k (by omega)
            · rw [hp2, hl2]; exact nI_1 _
            · rw [hp2]
              intro i2 v2 d2 e2
              rcases Nat.lt_or_ge i2 RL.length with c | c
              · rw [List.getElem?_append_left c] at e2
                show upd ou RL.length (nI j) i2 = v2 ∧ upd du RL.length _ i2 = nI d2
                rw [pk_un (by omega), pk_un (by omega)]
                exact hou2 i2 v2 d2 e2
              · rw [List.getElem?_append_right c] at e2
                have hi : i2 = RL.length := by
                  rcases Nat.eq_zero_or_pos (i2 - RL.length) with z | z
                  · omega
                  · rw [List.getElem?_eq_none (by simp only [List.length_singleton]; omega)] at e2; cases e2
                subst hi
                rw [Nat.sub_self] at e2
                cases e2
                show upd ou RL.length (nI j) RL.length = nI j ∧ upd du RL.length _ RL.length = nI (g + 1 + aw)
                rw [pk_us, pk_us]
                exact ⟨rfl, nadd (nI_1 g) h12⟩
            · show st1 - 1 + (pdG (upd tk1 g (nI j)) aw (g + 1)).length = sz
              rw [hp2, hl2]; omega
            · show fv 57 + ar 8 j = mb1 + ar 8 j
              rw [k2]
            · show fv 59 ||| _ = mt1 ||| _
              rw [k4]
          | succ m ih =>
            intro i x4 ro2 hi h4 hqi hr2
            refine V.g2 60 [106] mX7_guests_ok rfl ?_
            refine pk_le st1 (i + 1) (fun e => absurd e (by omega)) (fun e => ?_) rfl (nadd h4 rfl)
            refine ⟨(i + 1), by omega, (nadd h4 rfl), rfl, ?_⟩
            refine ⟨i, by omega, h4, rfl, ?_⟩
            refine V.kn [4, 3, 2, 0, 1] [(4, .int (x4 + zi 1)), (3, .int (nI j)), (2, .int (nI q)), (0, .ref 0), (1, .int (nI g))] [] (pM (upf (upf (upf (upf (upf fv 53 (nI st1)) 56 (nI RL.length)) 57 (fv 57 + ar 8 j)) 58 m58) 59 (fv 59 ||| (nI 1 <<< (nI j &&& 31)))) (upa (upa (upa ar 52 (upd ro2 i (ro2 (i + 1)))) 54 ou) 55 du)) rfl rfl rfl ?_
            exact ih (i + 1) _ _ (by omega) (ninc h4) (by omega) (by rw [hr2]; exact shP_s ro (q := i + 1) (by omega))
        exact loop (st1 - (q + 1)) q _ _ (by omega) rfl (Nat.le_refl q) (shP_0 ro q).symm
      refine And.intro (fun (e6 : ((ar 8) j) ≤ (fv 58)) => ?_) (fun (e6 : ¬ ((ar 8) j) ≤ (fv 58)) => ?_)
      · refine V.kn [3, 2, 0, 1] [(3, .int (ro q)), (2, .int (nI q)), (0, .ref 0), (1, .int (nI g))] [.int (fv 58), .ref 0] (pM (upf (upf (upf fv 53 (nI st1)) 56 (nI RL.length)) 57 ((fv 57) + ((ar 8) j))) (upa (upa (upa ar 52 ro) 54 ou) 55 du)) rfl rfl rfl ?_
        exact t88 _ (by rw [k3] at e6 ⊢; unfold mxF; rw [if_neg (Int32.not_lt.mpr e6)])
      · refine ⟨j, by omega, hrq, rfl, ?_⟩
        refine V.kn [3, 2, 0, 1] [(3, .int (ro q)), (2, .int (nI q)), (0, .ref 0), (1, .int (nI g))] [.int ((ar 8) j), .ref 0] (pM (upf (upf (upf fv 53 (nI st1)) 56 (nI RL.length)) 57 ((fv 57) + ((ar 8) j))) (upa (upa (upa ar 52 ro) 54 ou) 55 du)) rfl rfl rfl ?_
        exact t88 _ (by rw [k3] at e6; unfold mxF; rw [if_pos (Int32.not_le.mp e6)])
  refine V.g2 60 [29, 88, 106] mX7_guests_ok rfl ?_
  refine pk_le lk st1 (fun e => ?_) (fun e => ?_) h10 rfl
  · refine V.kn [0, 1] [(0, .ref 0), (1, .int (nI g))] [.int (fv 10), .ref 0] (pM (upf (upf fv 53 (nI st1)) 56 (nI RL.length)) (upa (upa (upa ar 52 ro) 54 ou) 55 du)) rfl rfl rfl ?_
    exact t29 _ (by rw [h10, Nat.min_eq_right e])
  · refine V.kn [0, 1] [(0, .ref 0), (1, .int (nI g))] [.int (nI st1), .ref 0] (pM (upf (upf fv 53 (nI st1)) 56 (nI RL.length)) (upa (upa (upa ar 52 ro) 54 ou) 55 du)) rfl rfl rfl ?_
    exact t29 _ (by rw [Nat.min_eq_left (by omega)])
