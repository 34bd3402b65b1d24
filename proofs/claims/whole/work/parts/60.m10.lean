/-! ===== the reference: all guests, meets, day, best, first ===== -/
theorem kM_rfl (fv : Nat → Int32) (ar : Nat → fI) : kM fv ar fv ar := ⟨⟨rfl, rfl, rfl, rfl, rfl, rfl, rfl, rfl, rfl, rfl, rfl⟩, ⟨rfl, rfl, rfl, rfl, rfl, rfl, rfl, rfl, rfl, rfl, rfl, rfl, rfl, rfl, rfl, rfl⟩⟩
theorem kM_tr {f g h : Nat → Int32} {a b c : Nat → fI} (h1 : kM f a g b) (h2 : kM g b h c) : kM f a h c := by
  obtain ⟨⟨a1, a2, a3, a4, a5, a6, a7, a8, a9, a10, a11⟩, ⟨b1, b2, b3, b4, b5, b6, b7, b8, b9, b10, b11, b12, b13, b14, b15, b16⟩⟩ := h1
  obtain ⟨⟨c1, c2, c3, c4, c5, c6, c7, c8, c9, c10, c11⟩, ⟨d1, d2, d3, d4, d5, d6, d7, d8, d9, d10, d11, d12, d13, d14, d15, d16⟩⟩ := h2
  exact ⟨⟨c1.trans a1, c2.trans a2, c3.trans a3, c4.trans a4, c5.trans a5, c6.trans a6, c7.trans a7, c8.trans a8, c9.trans a9, c10.trans a10, c11.trans a11⟩, ⟨d1.trans b1, d2.trans b2, d3.trans b3, d4.trans b4, d5.trans b5, d6.trans b6, d7.trans b7, d8.trans b8, d9.trans b9, d10.trans b10, d11.trans b11, d12.trans b12, d13.trans b13, d14.trans b14, d15.trans b15, d16.trans b16⟩⟩
theorem kM_8 {f g : Nat → Int32} {a b : Nat → fI} (h : kM f a g b) : b 8 = a 8 := h.2.2.2.2.2.2.2.1
theorem kM_11 {f g : Nat → Int32} {a b : Nat → fI} (h : kM f a g b) : g 11 = f 11 := h.1.2.2.2.1
theorem kM_7 {f g : Nat → Int32} {a b : Nat → fI} (h : kM f a g b) : g 7 = f 7 := h.1.2.1
theorem kM_9 {f g : Nat → Int32} {a b : Nat → fI} (h : kM f a g b) : b 9 = a 9 := h.2.2.2.2.2.2.2.2.1
def T7_comeGuests : zT := fun args hs Q => ∃ (fv : Nat → Int32) (ar : Nat → fI) (x : Int32) (n sz lk aw : Nat) (od tk : fI), n ≤ 24 ∧ x = nI n ∧ sz ≤ 8 ∧ fv 7 = nI sz ∧ lk ≤ 8 ∧ fv 10 = nI lk ∧ aw ≤ 5 ∧ fv 12 = nI aw ∧ ((∀ i, i < sz → ar 9 i = od i)) ∧ oOk od ∧ args = [.ref 0, .int x] ∧ hs = pM fv ar ∧ ∀ q : RS, q = srv (ar 8) (fv 11) lk aw od sz tk n → ∀ fv2 ar2, kM fv ar fv2 ar2 → (∀ i, i < sz → ar2 52 i = q.1 i) → fv2 57 = q.2.2.2.1 → fv2 58 = q.2.2.2.2.1 → fv2 59 = q.2.2.2.2.2 → Q none (pM fv2 ar2)
set_option maxHeartbeats 500000 in
theorem c7_comeGuests (l : Launch) : Ct l mX7_comeGuests false 4 0 0 T7_comeGuests := by
  refine Ct.intro mX7_comeGuests_ok ?_
  rintro args hs Q ⟨fv, ar, x, n, sz, lk, aw, od, tk, hn, hx, hsz8, h7, hlk, h10, haw, h12, hord, hod, rfl, rfl, h⟩
  refine ⟨Nat.le_of_ble_eq_true rfl, ?_⟩
  subst hx
  generalize hS : pM fv ar = S
  have loop2 : ∀ (m g : Nat) (x2 : Int32) (fv2 : Nat → Int32) (ar2 : Nat → fI), g + m = n → x2 = nI g → kM fv ar fv2 ar2 → gsR fv2 ar2 lk aw g sz (svG (ar 8) (fv 11) lk aw (od, sz, tk, 0, 0, 0) g) → V l mX7_comeGuests false S (zrm 4 0 0) (zFm false S Q 0 0) 0 0 58 [(2, .int x2), (0, .ref 0), (1, .int (nI n))] [] (pM fv2 ar2) := by
    intro m
    induction m with
    | zero =>
      intro g x2 fv2 ar2 hg h2 hk hR
      have eg : g = n := by omega
      subst eg
      refine V.g2 60 [30, 58] mX7_comeGuests_ok rfl ?_
      refine pk_le g g (fun e => ?_) (fun e => absurd e (by omega)) rfl h2
      obtain ⟨k10, k12, k53, krow, kro, k56, kou, ksz, k57, k58, k59⟩ := hR
      generalize hsg : svG (ar 8) (fv 11) lk aw (od, sz, tk, 0, 0, 0) g = s at k53 krow kro k56 kou ksz k57 k58 k59
      have fA : (pdG s.2.2.1 aw g).filter (fun p => true || decide (p.2 ≤ g)) = pdG s.2.2.1 aw g := by rw [List.filter_eq_self]; intro p hp; rfl
      have fR : (pdG s.2.2.1 aw g).filter (fun p => !(true || decide (p.2 ≤ g))) = [] := by rw [List.filter_eq_nil_iff]; intro p hp; exact fun z => by cases z
      have hsv : srv (ar 8) (fv 11) lk aw od sz tk g = svP s (g - 1 - aw) (g - (g - 1 - aw)) := by rw [← hsg]; rfl
      obtain ⟨v1, v2, v3⟩ := svP_pd (s := s) (aw := aw) (lo := g - 1 - aw) (n := g - (g - 1 - aw)) (by show s.2.1 + (pdG s.2.2.1 aw g).length ≤ 8; omega)
      refine V.cw mX7_comeGuests_ok rfl lX7_326 (c7_pushesIn l) rfl 0 7 rfl rfl rfl rfl rfl rfl ⟨fv2, ar2, _, true, g, s.2.1, pdG s.2.2.1 aw g, by omega, rfl, k53, k56, by omega, fun p hp => by have := pdL_mem hp; omega, kou, rfl, rfl, fun ou du hou2 => ⟨rfl, ?_⟩⟩
      refine V.g2 60 [30, 58] mX7_comeGuests_ok rfl ?_
      refine ⟨_, zsim_rfl _, ?_⟩
      refine h _ hsv.symm (upf (upf fv2 53 (nI (s.2.1 + ((pdG s.2.2.1 aw g).filter (fun p => true || decide (p.2 ≤ g))).length))) 56 (nI ((pdG s.2.2.1 aw g).filter (fun p => !(true || decide (p.2 ≤ g)))).length)) (upa (upa (upa ar2 52 (apR (ar2 52) s.2.1 ((pdG s.2.2.1 aw g).filter (fun p => true || decide (p.2 ≤ g))))) 54 ou) 55 du) (kM_tr hk ⟨⟨rfl, rfl, rfl, rfl, rfl, rfl, rfl, rfl, rfl, rfl, rfl⟩, ⟨rfl, rfl, rfl, rfl, rfl, rfl, rfl, rfl, rfl, rfl, rfl, rfl, rfl, rfl, rfl, rfl⟩⟩) (fun i hi => ?_) ?_ ?_ ?_
      · show apR (ar2 52) s.2.1 ((pdG s.2.2.1 aw g).filter (fun p => true || decide (p.2 ≤ g))) i = _
        rw [fA, v1]
        exact apR_cong krow i (by omega)
      · rw [v3]; exact k57
      · rw [v3]; exact k58
      · rw [v3]; exact k59
    | succ m ih =>
      intro g x2 fv2 ar2 hg h2 hk hR
      refine V.g2 60 [30, 58] mX7_comeGuests_ok rfl ?_
      refine pk_le n g (fun e => absurd e (by omega)) (fun e => ?_) rfl h2
      refine V.cw mX7_comeGuests_ok rfl lX7_342 (c7_guests l) rfl 0 7 rfl rfl rfl rfl rfl rfl ⟨fv2, ar2, _, g, lk, aw, sz, svG (ar 8) (fv 11) lk aw (od, sz, tk, 0, 0, 0) g, by omega, h2, hlk, haw, hsz8, hR, rfl, rfl, fun fv3 ar3 hk3 hR3 => ⟨rfl, ?_⟩⟩
      refine V.g2 60 [30, 58] mX7_comeGuests_ok rfl ?_
      refine V.kn [2, 0, 1] [(2, .int (x2 + zi 1)), (0, .ref 0), (1, .int (nI n))] [] (pM fv3 ar3) rfl rfl rfl ?_
      exact ih (g + 1) _ fv3 ar3 (by omega) (ninc h2) (kM_tr hk hk3) (by rw [kM_8 hk, kM_11 hk] at hR3; exact hR3)
  have loop1 : ∀ (m i : Nat) (x2 : Int32) (ro : fI), i + m = sz → x2 = nI i → (∀ u, u < i → ro u = od u) → V l mX7_comeGuests false S (zrm 4 0 0) (zFm false S Q 0 0) 0 0 30 [(2, .int x2), (0, .ref 0), (1, .int (nI n))] [] (pM (upf (upf (upf (upf (upf fv 53 (fv 7)) 56 (0 : Int32)) 57 (0 : Int32)) 58 (0 : Int32)) 59 (0 : Int32)) (upa ar 52 ro)) := by
    intro m
    induction m with
    | zero =>
      intro i x2 ro hi h2 hr
      have ei : i = sz := by omega
      rw [ei] at hr
      refine V.g2 60 [30, 58] mX7_comeGuests_ok rfl ?_
      refine pk_le sz i (fun e => ?_) (fun e => absurd e (by omega)) h7 h2
      refine V.kn [2, 0, 1] [(2, .int (nI 0)), (0, .ref 0), (1, .int (nI n))] [] (pM (upf (upf (upf (upf (upf fv 53 (fv 7)) 56 (0 : Int32)) 57 (0 : Int32)) 58 (0 : Int32)) 59 (0 : Int32)) (upa ar 52 ro)) rfl rfl rfl ?_
      refine loop2 n 0 _ (upf (upf (upf (upf (upf fv 53 (fv 7)) 56 (0 : Int32)) 57 (0 : Int32)) 58 (0 : Int32)) 59 (0 : Int32)) (upa ar 52 ro) (by omega) rfl ⟨⟨rfl, rfl, rfl, rfl, rfl, rfl, rfl, rfl, rfl, rfl, rfl⟩, ⟨rfl, rfl, rfl, rfl, rfl, rfl, rfl, rfl, rfl, rfl, rfl, rfl, rfl, rfl, rfl, rfl⟩⟩ ⟨h10, h12, h7, hr, ⟨hsz8, hod, fun k hk => absurd hk (by omega)⟩, ?_, ?_, ?_, rfl, rfl, rfl⟩
      · unfold pdG
        rw [show 0 - (0 - 1 - aw) = 0 by omega]
        rfl
      · unfold pdG
        rw [show 0 - (0 - 1 - aw) = 0 by omega]
        intro i v d e
        cases e
      · unfold pdG
        rw [show 0 - (0 - 1 - aw) = 0 by omega]
        rfl
    | succ m ih =>
      intro i x2 ro hi h2 hr
      refine V.g2 60 [30, 58] mX7_comeGuests_ok rfl ?_
      refine pk_le sz i (fun e => absurd e (by omega)) (fun e => ?_) h7 h2
      refine ⟨i, by omega, h2, rfl, ?_⟩
      refine ⟨i, by omega, h2, rfl, ?_⟩
      refine V.kn [2, 0, 1] [(2, .int (x2 + zi 1)), (0, .ref 0), (1, .int (nI n))] [] (pM (upf (upf (upf (upf (upf fv 53 (fv 7)) 56 (0 : Int32)) 57 (0 : Int32)) 58 (0 : Int32)) 59 (0 : Int32)) (upa ar 52 (upd ro i ((ar 9) i)))) rfl rfl rfl ?_
      refine ih (i + 1) _ _ (by omega) (ninc h2) (fun u hu => ?_)
      by_cases e : u = i
      · rw [e, pk_us]; exact hord i (by omega)
      · rw [pk_un e]; exact hr u (by omega)
  subst hS
  refine V.g2 60 [30, 58] mX7_comeGuests_ok rfl ?_
  refine V.kn [2, 0, 1] [(2, .int (nI 0)), (0, .ref 0), (1, .int (nI n))] [] (pM (upf (upf (upf (upf (upf fv 53 (fv 7)) 56 (nI 0)) 57 (nI 0)) 58 (nI 0)) 59 (nI 0)) ar) rfl rfl rfl ?_
  exact loop1 sz 0 _ (ar 52) (by omega) rfl (fun u hu => absurd hu (by omega))
def T7_metBy : zT := fun args hs Q => ∃ (fv : Nat → Int32) (ar : Nat → fI) (x : Int32) (n sz lk aw : Nat) (od : fI), n ≤ 24 ∧ x = nI n ∧ sz ≤ 8 ∧ fv 7 = nI sz ∧ lk ≤ 8 ∧ fv 10 = nI lk ∧ aw ≤ 5 ∧ fv 12 = nI aw ∧ ((∀ i, i < sz → ar 9 i = od i)) ∧ oOk od ∧ args = [.ref 0, .int x] ∧ hs = pM fv ar ∧ ∀ r : Int32, r = (svF (ar 8) (fv 11) lk aw od sz n).2.2.2.1 → ∀ fv2 ar2, kM fv ar fv2 ar2 → Q (some (.int r)) (pM fv2 ar2)
theorem c7_metBy (l : Launch) : Ct l mX7_metBy false 5 0 0 T7_metBy := by
  refine Ct.intro mX7_metBy_ok ?_
  rintro args hs Q ⟨fv, ar, x, n, sz, lk, aw, od, hn, hx, hsz8, h7, hlk, h10, haw, h12, hord, hod, rfl, rfl, h⟩
  refine ⟨Nat.le_of_ble_eq_true rfl, ?_⟩
  refine V.g2 60 [] mX7_metBy_ok rfl ?_
  refine V.cw mX7_metBy_ok rfl lX7_348 (c7_comeGuests l) rfl 0 7 rfl rfl rfl rfl rfl rfl ⟨fv, ar, _, n, sz, lk, aw, od, (fun _ => 0), hn, hx, hsz8, h7, hlk, h10, haw, h12, hord, hod, rfl, rfl, fun q hq fv2 ar2 hk hr h57 h58 h59 => ⟨rfl, ?_⟩⟩
  refine V.g2 60 [] mX7_metBy_ok rfl ?_
  exact ⟨_, zsim_rfl _, h _ (by rw [h57, hq]) fv2 ar2 hk⟩
def T7_meets : zT := fun args hs Q => ∃ (fv : Nat → Int32) (ar : Nat → fI) (x y : Int32) (sz lk aw : Nat) (od : fI), sz ≤ 8 ∧ fv 7 = nI sz ∧ lk ≤ 8 ∧ fv 10 = nI lk ∧ aw ≤ 5 ∧ fv 12 = nI aw ∧ ((∀ i, i < sz → ar 9 i = od i)) ∧ oOk od ∧ args = [.ref 0, .int x, .int y] ∧ hs = pM fv ar ∧ ((wiB x 24 && wiB y 3) = false → Q (some (.int (-2))) hs) ∧ (∀ n, n < 25 → x = nI n → wiB y 3 = true → ∀ r : Int32, r = mtF y sz (svF (ar 8) (fv 11) lk aw od sz n) → ∀ fv2 ar2, kM fv ar fv2 ar2 → Q (some (.int r)) (pM fv2 ar2))
theorem c7_meets (l : Launch) : Ct l mX7_meets false 5 0 0 T7_meets := by
  refine Ct.intro mX7_meets_ok ?_
  rintro args hs Q ⟨fv, ar, x, y, sz, lk, aw, od, hsz8, h7, hlk, h10, haw, h12, hord, hod, rfl, rfl, h0, h1⟩
  refine ⟨Nat.le_of_ble_eq_true rfl, ?_⟩
  refine V.g2 60 [] mX7_meets_ok rfl ?_
  refine V.cs mX7_meets_ok rfl lX7_345 (c7_areGuests l) rfl rfl rfl rfl ⟨_, rfl, fun B hB => ⟨rfl, ?_⟩⟩
  rcases B with _ | _
  · refine V.g2 60 [] mX7_meets_ok rfl ?_
    refine And.intro (fun _ => ?_) (fun e => absurd rfl e)
    exact ⟨_, zsim_rfl _, h0 (by rw [← hB]; rfl)⟩
  · refine V.g2 60 [] mX7_meets_ok rfl ?_
    refine And.intro (fun e => absurd e (by decide)) (fun _ => ?_)
    refine V.cs mX7_meets_ok rfl lX7_117 (c7_in l) rfl rfl rfl rfl ⟨_, _, _, rfl, fun B2 hB2 => ⟨rfl, ?_⟩⟩
    rcases B2 with _ | _
    · refine V.g2 60 [] mX7_meets_ok rfl ?_
      refine And.intro (fun e => absurd rfl e) (fun _ => ?_)
      exact ⟨_, zsim_rfl _, h0 (by rw [show wiB y 3 = false from hB2.symm, Bool.and_false])⟩
    · obtain ⟨n, hn, rfl⟩ := wiB_t hB.symm (by omega)
      have h := h1 n hn rfl hB2.symm
      obtain ⟨j, hj, rfl⟩ := wiB_t (n := 3) hB2.symm (by omega)
      refine V.g2 60 [] mX7_meets_ok rfl ?_
      refine And.intro (fun _ => ?_) (fun e => absurd e (by decide))
      refine V.cw mX7_meets_ok rfl lX7_348 (c7_comeGuests l) rfl 0 7 rfl rfl rfl rfl rfl rfl ⟨fv, ar, _, n, sz, lk, aw, od, (fun _ => 0), by omega, rfl, hsz8, h7, hlk, h10, haw, h12, hord, hod, rfl, rfl, fun q hq fv2 ar2 hk hr h57 h58 h59 => ⟨rfl, ?_⟩⟩
      rw [show svF (ar 8) (fv 11) lk aw od sz n = q from hq.symm] at h
      have h72 : fv2 7 = nI sz := (kM_7 hk).trans h7
      rcases (show j = 0 ∨ j = 1 ∨ j = 2 ∨ j = 3 by omega) with rfl | rfl | rfl | rfl
      · refine V.g2 60 [] mX7_meets_ok rfl ?_
        refine zp_ne 0 0 (fun e0 => absurd e0 (by omega)) (fun e0 => ?_) rfl rfl
        exact ⟨_, zsim_rfl _, h _ (by rw [h57]; rfl) fv2 ar2 hk⟩
      · refine V.g2 60 [] mX7_meets_ok rfl ?_
        refine zp_ne 1 0 (fun e0 => ?_) (fun e0 => absurd e0 (by omega)) rfl rfl
        refine zp_ne 1 1 (fun e0 => absurd e0 (by omega)) (fun e0 => ?_) rfl rfl
        exact ⟨_, zsim_rfl _, h _ (by rw [h58]; rfl) fv2 ar2 hk⟩
      · refine V.g2 60 [] mX7_meets_ok rfl ?_
        refine zp_ne 2 0 (fun e0 => ?_) (fun e0 => absurd e0 (by omega)) rfl rfl
        refine zp_ne 2 1 (fun e0 => ?_) (fun e0 => absurd e0 (by omega)) rfl rfl
        refine zp_ne 2 2 (fun e0 => absurd e0 (by omega)) (fun e0 => ?_) rfl rfl
        exact ⟨_, zsim_rfl _, h _ (by rw [h59]; rfl) fv2 ar2 hk⟩
      · refine V.g2 60 [] mX7_meets_ok rfl ?_
        refine zp_ne 3 0 (fun e0 => ?_) (fun e0 => absurd e0 (by omega)) rfl rfl
        refine zp_ne 3 1 (fun e0 => ?_) (fun e0 => absurd e0 (by omega)) rfl rfl
        refine zp_ne 3 2 (fun e0 => ?_) (fun e0 => absurd e0 (by omega)) rfl rfl
        refine zp_ne sz 0 (fun e3 => ?_) (fun e3 => ?_) h72 rfl
        · refine ⟨0, by omega, rfl, rfl, ?_⟩
          exact ⟨_, zsim_rfl _, h _ (by rw [hr 0 (by omega)]; show q.1 0 = (if sz = 0 then -1 else q.1 0); rw [if_neg e3]) fv2 ar2 hk⟩
        · exact ⟨_, zsim_rfl _, h _ (by show _ = (if sz = 0 then -1 else q.1 0); rw [if_pos e3]; rfl) fv2 ar2 hk⟩
def T7_day : zT := fun args hs Q => ∃ (fv : Nat → Int32) (ar : Nat → fI) (x : Int32) (sz lk aw : Nat) (od tk : fI), sz ≤ 8 ∧ fv 7 = nI sz ∧ lk ≤ 8 ∧ fv 10 = nI lk ∧ aw ≤ 5 ∧ fv 12 = nI aw ∧ ((∀ i, i < sz → ar 9 i = od i)) ∧ oOk od ∧ args = [.ref 0, .int x] ∧ hs = pM fv ar ∧ (wiB x 24 = false → Q (some (.int (-2))) hs) ∧ (∀ n, n < 25 → x = nI n → ∀ q : RS, q = srv (ar 8) (fv 11) lk aw od sz tk n → ∀ fv2 ar2 ro, kM fv (upa ar 9 ro) fv2 ar2 → (∀ i, i < sz → ro i = q.1 i) → Q (some (.int (if sz = 0 then -1 else q.1 0))) (pM fv2 ar2))
set_option maxHeartbeats 500000 in
theorem c7_day (l : Launch) : Ct l mX7_day false 5 0 0 T7_day := by
  refine Ct.intro mX7_day_ok ?_
  rintro args hs Q ⟨fv, ar, x, sz, lk, aw, od, tk, hsz8, h7, hlk, h10, haw, h12, hord, hod, rfl, rfl, h0, h1⟩
  refine ⟨Nat.le_of_ble_eq_true rfl, ?_⟩
  refine V.g2 60 [17] mX7_day_ok rfl ?_
  refine V.cs mX7_day_ok rfl lX7_345 (c7_areGuests l) rfl rfl rfl rfl ⟨_, rfl, fun B hB => ⟨rfl, ?_⟩⟩
  rcases B with _ | _
  · refine V.g2 60 [17] mX7_day_ok rfl ?_
    refine And.intro (fun e => absurd rfl e) (fun _ => ?_)
    exact ⟨_, zsim_rfl _, h0 hB.symm⟩
  · obtain ⟨n, hn, rfl⟩ := wiB_t hB.symm (by omega)
    have h := h1 n hn rfl
    refine V.g2 60 [17] mX7_day_ok rfl ?_
    refine And.intro (fun _ => ?_) (fun e => absurd e (by decide))
    refine V.cw mX7_day_ok rfl lX7_348 (c7_comeGuests l) rfl 0 7 rfl rfl rfl rfl rfl rfl ⟨fv, ar, _, n, sz, lk, aw, od, tk, by omega, rfl, hsz8, h7, hlk, h10, haw, h12, hord, hod, rfl, rfl, fun q hq fv2 ar2 hk hr h57 h58 h59 => ⟨rfl, ?_⟩⟩
    have h := h q hq
    have h72 : fv2 7 = nI sz := (kM_7 hk).trans h7
    generalize hS : pM fv ar = S
    have loop : ∀ (m i : Nat) (x2 : Int32) (ro : fI), i + m = sz → x2 = nI i → (∀ u, u < i → ro u = q.1 u) → V l mX7_day false S (zrm 5 0 0) (zFm false S Q 0 0) 0 0 17 [(2, .int x2), (0, .ref 0), (1, .int (nI n))] [] (pM fv2 (upa ar2 9 ro)) := by
      intro m
      induction m with
      | zero =>
        intro i x2 ro hi h2 hro
        have ei : i = sz := by omega
        rw [ei] at hro
        refine V.g2 60 [17] mX7_day_ok rfl ?_
        refine pk_le sz i (fun e => ?_) (fun e => absurd e (by omega)) h72 h2
        have hk2 : kM fv (upa ar 9 ro) fv2 (upa ar2 9 ro) := by
          obtain ⟨a, b1, b2, b3, b4, b5, b6, b7, b8, b9, b10, b11, b12, b13, b14, b15, b16⟩ := hk
          exact ⟨a, b1, b2, b3, b4, b5, b6, b7, rfl, b9, b10, b11, b12, b13, b14, b15, b16⟩
        have h9 := h fv2 (upa ar2 9 ro) ro hk2 hro
        refine zp_ne sz 0 (fun e3 => ?_) (fun e3 => ?_) h72 rfl
        · refine ⟨0, by omega, rfl, rfl, ?_⟩
          refine ⟨_, zsim_rfl _, ?_⟩
          rw [if_neg e3, ← hr 0 (by omega)] at h9
          exact h9
        · refine ⟨_, zsim_rfl _, ?_⟩
          rw [if_pos e3] at h9
          exact h9
      | succ m ih =>
        intro i x2 ro hi h2 hro
        refine V.g2 60 [17] mX7_day_ok rfl ?_
        refine pk_le sz i (fun e => absurd e (by omega)) (fun e => ?_) h72 h2
        refine ⟨i, by omega, h2, rfl, ?_⟩
        refine ⟨i, by omega, h2, rfl, ?_⟩
        refine V.kn [2, 0, 1] [(2, .int (x2 + zi 1)), (0, .ref 0), (1, .int (nI n))] [] (pM fv2 (upa ar2 9 (upd ro i ((ar2 52) i)))) rfl rfl rfl ?_
        refine ih (i + 1) _ _ (by omega) (ninc h2) (fun u hu => ?_)
        by_cases e : u = i
        · rw [e, pk_us]; exact hr i (by omega)
        · rw [pk_un e]; exact hro u (by omega)
    subst hS
    refine V.g2 60 [17] mX7_day_ok rfl ?_
    refine V.kn [2, 0, 1] [(2, .int (nI 0)), (0, .ref 0), (1, .int (nI n))] [] (pM fv2 ar2) rfl rfl rfl ?_
    exact loop sz 0 _ (ar2 9) (by omega) rfl (fun u hu => absurd hu (by omega))
/-- the least l of 1 .. n by which f is least, and that -/
def bsF (f : Nat → Int32) : Nat → Option (Nat × Int32)
  | 0 => none
  | n + 1 => match bsF f n with
    | none => some (n + 1, f (n + 1))
    | some (q, v) => if f (n + 1) < v then some (n + 1, f (n + 1)) else some (q, v)
theorem bsF_lt {f : Nat → Int32} : ∀ {n : Nat} {q : Nat × Int32}, bsF f n = some q → q.1 ≤ n
  | 0, _, h => by cases h
  | n + 1, q, h => by
    rw [bsF] at h
    split at h
    · cases h; exact Nat.le_refl _
    · rename_i a b hq
      split at h
      · cases h; exact Nat.le_refl _
      · cases h; have := bsF_lt hq; exact Nat.le_succ_of_le this
theorem bsF_some {f : Nat → Int32} : ∀ n, ∃ q, bsF f (n + 1) = some q := by
  intro n
  rw [bsF]
  cases bsF f n with
  | none => exact ⟨_, rfl⟩
  | some q => obtain ⟨a, b⟩ := q; show ∃ q, (if f (n + 1) < b then some (n + 1, f (n + 1)) else some (a, b)) = some q; split <;> exact ⟨_, rfl⟩
theorem bsF_t {f : Nat → Int32} {n q : Nat} {v : Int32} (h : bsF f n = some (q, v)) (c : f (n + 1) < v) : bsF f (n + 1) = some (n + 1, f (n + 1)) := by rw [bsF, h]; exact if_pos c
theorem bsF_f {f : Nat → Int32} {n q : Nat} {v : Int32} (h : bsF f n = some (q, v)) (c : ¬ f (n + 1) < v) : bsF f (n + 1) = some (q, v) := by rw [bsF, h]; exact if_neg c
theorem bsF_n {f : Nat → Int32} {n : Nat} (h : bsF f n = none) : bsF f (n + 1) = some (n + 1, f (n + 1)) := by rw [bsF, h]
def bsV (bd : fI) (be : Int32) (aw : Nat) (od : fI) (sz n : Nat) (l : Nat) : Int32 := (svF bd be l aw od sz n).2.2.2.1
def T7_best : zT := fun args hs Q => ∃ (fv : Nat → Int32) (ar : Nat → fI) (x y : Int32) (sz lk aw : Nat) (od : fI), sz ≤ 8 ∧ fv 7 = nI sz ∧ lk ≤ 8 ∧ fv 10 = nI lk ∧ aw ≤ 5 ∧ fv 12 = nI aw ∧ ((∀ i, i < sz → ar 9 i = od i)) ∧ oOk od ∧ args = [.ref 0, .int x, .int y] ∧ hs = pM fv ar ∧ ((wiB x 24 && wiB y 1) = false → Q (some (.int (-2))) hs) ∧ (∀ n, n < 25 → x = nI n → wiB y 1 = true → ∀ r : Int32, (∀ i v, bsF (bsV (ar 8) (fv 11) aw od sz n) 8 = some (i, v) → r = (if y = nI 0 then nI i else v)) → ∀ fv2 ar2, kM fv ar fv2 ar2 → Q (some (.int r)) (pM fv2 ar2))
set_option maxHeartbeats 500000 in
theorem c7_best (l : Launch) : Ct l mX7_best false 6 0 0 T7_best := by
  refine Ct.intro mX7_best_ok ?_
  rintro args hs Q ⟨fv, ar, x, y, sz, lk, aw, od, hsz8, h7, hlk, h10, haw, h12, hord, hod, rfl, rfl, h0, h1⟩
  refine ⟨Nat.le_of_ble_eq_true rfl, ?_⟩
  refine V.g2 60 [33, 53] mX7_best_ok rfl ?_
  refine V.cs mX7_best_ok rfl lX7_345 (c7_areGuests l) rfl rfl rfl rfl ⟨_, rfl, fun B hB => ⟨rfl, ?_⟩⟩
  rcases B with _ | _
  · refine V.g2 60 [33, 53] mX7_best_ok rfl ?_
    refine And.intro (fun _ => ?_) (fun e => absurd rfl e)
    exact ⟨_, zsim_rfl _, h0 (by rw [← hB]; rfl)⟩
  · refine V.g2 60 [33, 53] mX7_best_ok rfl ?_
    refine And.intro (fun e => absurd e (by decide)) (fun _ => ?_)
    refine V.cs mX7_best_ok rfl lX7_117 (c7_in l) rfl rfl rfl rfl ⟨_, _, _, rfl, fun B2 hB2 => ⟨rfl, ?_⟩⟩
    rcases B2 with _ | _
    · refine V.g2 60 [33, 53] mX7_best_ok rfl ?_
      refine And.intro (fun e => absurd rfl e) (fun _ => ?_)
      exact ⟨_, zsim_rfl _, h0 (by rw [show wiB y 1 = false from hB2.symm, Bool.and_false])⟩
    · obtain ⟨n, hn, rfl⟩ := wiB_t hB.symm (by omega)
      have h := h1 n hn rfl hB2.symm
      obtain ⟨j, hj, rfl⟩ := wiB_t (n := 1) hB2.symm (by omega)
      generalize hS : pM fv ar = S
      have loop : ∀ (m k : Nat) (x6 x5 x4 : Int32) (fv2 : Nat → Int32) (ar2 : Nat → fI), k + m = 8 → x6 = nI (k + 1) → (bsF (bsV (ar 8) (fv 11) aw od sz n) k = none → x4 = -1) → (∀ i v, bsF (bsV (ar 8) (fv 11) aw od sz n) k = some (i, v) → x4 = nI i ∧ x5 = v) → kM fv ar (upf fv2 10 (fv 10)) ar2 → V l mX7_best false S (zrm 6 0 0) (zFm false S Q 0 0) 0 0 33 [(6, .int x6), (5, .int x5), (4, .int x4), (3, .int (fv 10)), (0, .ref 0), (1, .int (nI n)), (2, .int (nI j))] [] (pM fv2 ar2) := by
        intro m
        induction m with
        | zero =>
          intro k x6 x5 x4 fv2 ar2 hk h6 hn4 hs4 hkm
          have ek : k = 8 := by omega
          subst ek
          refine V.g2 60 [33, 53] mX7_best_ok rfl ?_
          refine pk_lt 8 9 (fun e0 => ?_) (fun e0 => absurd e0 (by omega)) rfl h6
          refine zp_ne j 0 (fun e => ?_) (fun e => ?_) rfl rfl
          · refine ⟨_, zsim_rfl _, ?_⟩
            exact h _ (fun i v e2 => by rw [if_neg (znI (by omega) (by omega) e)]; exact (hs4 i v e2).2) (upf fv2 10 (fv 10)) ar2 hkm
          · refine ⟨_, zsim_rfl _, ?_⟩
            exact h _ (fun i v e2 => by rw [e, if_pos rfl]; exact (hs4 i v e2).1) (upf fv2 10 (fv 10)) ar2 hkm
        | succ m ih =>
          intro k x6 x5 x4 fv2 ar2 hk h6 hn4 hs4 hkm
          refine V.g2 60 [33, 53] mX7_best_ok rfl ?_
          refine pk_lt 8 (k + 1) (fun e => absurd e (by omega)) (fun e => ?_) rfl h6
          have e6 : x6 = nI (k + 1) := h6
          subst e6
          have k7 : fv2 7 = fv 7 := hkm.1.2.1
          have k11 : fv2 11 = fv 11 := hkm.1.2.2.2.1
          have k12 : fv2 12 = fv 12 := hkm.1.2.2.2.2.1
          have k8 : ar2 8 = ar 8 := kM_8 hkm
          have k9 : ar2 9 = ar 9 := kM_9 hkm
          refine V.cw mX7_best_ok rfl lX7_355 (c7_metBy l) rfl 0 7 rfl rfl rfl rfl rfl rfl ⟨upf fv2 10 (nI (k + 1)), ar2, _, n, sz, k + 1, aw, od, by omega, rfl, hsz8, k7.trans h7, by omega, rfl, haw, k12.trans h12, fun i hi => by rw [k9]; exact hord i hi, hod, rfl, rfl, fun r hr fv3 ar3 hk3 => ⟨rfl, ?_⟩⟩
          have hr2 : r = (bsV (ar 8) (fv 11) aw od sz n) (k + 1) := by
            have hr3 : r = (svF (ar2 8) (fv2 11) (k + 1) aw od sz n).2.2.2.1 := hr
            rw [hr3, k8, k11]
            rfl
          have hkm3 : kM fv ar (upf fv3 10 (fv 10)) ar3 := by
            obtain ⟨⟨a1, a2, a3, a4, a5, a6, a7, a8, a9, a10, a11⟩, bb⟩ := hk3
            obtain ⟨⟨c1, c2, c3, c4, c5, c6, c7, c8, c9, c10, c11⟩, dd⟩ := hkm
            exact ⟨⟨a1.trans c1, a2.trans c2, rfl, a4.trans c4, a5.trans c5, a6.trans c6, a7.trans c7, a8.trans c8, a9.trans c9, a10.trans c10, a11.trans c11⟩, (kM_tr (f := fv) (g := fv) (h := fv) ⟨⟨rfl, rfl, rfl, rfl, rfl, rfl, rfl, rfl, rfl, rfl, rfl⟩, dd⟩ ⟨⟨rfl, rfl, rfl, rfl, rfl, rfl, rfl, rfl, rfl, rfl, rfl⟩, bb⟩).2⟩
          cases hq : bsF (bsV (ar 8) (fv 11) aw od sz n) k with
          | none =>
            have h4 := hn4 hq
            subst h4
            refine V.g2 60 [33, 53] mX7_best_ok rfl ?_
            refine V.g2 60 [33, 53] mX7_best_ok rfl ?_
            refine And.intro (fun (e0 : (-1 : Int32) = (-1 : Int32)) => ?_) (fun (e0 : ¬ (-1 : Int32) = (-1 : Int32)) => absurd rfl e0)
            refine pk_eq 1 0 (fun e0 => absurd e0 (by omega)) (fun e0 => ?_) rfl rfl
            refine pk_eq 1 0 (fun e0 => absurd e0 (by omega)) (fun e0 => ?_) rfl rfl
            refine V.kn [6, 5, 4, 3, 0, 1, 2] [(6, .int ((nI (k + 1)) + zi 1)), (5, .int r), (4, .int (nI (k + 1))), (3, .int (fv 10)), (0, .ref 0), (1, .int (nI n)), (2, .int (nI j))] [] (pM fv3 ar3) rfl rfl rfl ?_
            exact ih (k + 1) _ _ _ fv3 ar3 (by omega) (ninc rfl) (fun e => by rw [bsF_n hq] at e; cases e) (fun i v e => by rw [bsF_n hq] at e; cases e; exact ⟨rfl, hr2⟩) hkm3
          | some q =>
            obtain ⟨i, u⟩ := q
            have hi := bsF_lt hq
            simp only [] at hi
            obtain ⟨h4, h5⟩ := hs4 i u hq
            subst h4
            subst h5
            refine V.g2 60 [33, 53] mX7_best_ok rfl ?_
            refine V.g2 60 [33, 53] mX7_best_ok rfl ?_
            refine And.intro (fun (e5 : (nI i) = (-1 : Int32)) => absurd e5 (nI_m1 (by omega))) (fun (e5 : ¬ (nI i) = (-1 : Int32)) => ?_)
            refine And.intro (fun (e4 : x5 ≤ r) => ?_) (fun (e4 : ¬ x5 ≤ r) => ?_)
            · refine pk_eq 0 0 (fun e0 => ?_) (fun e0 => absurd e0 (by omega)) rfl rfl
              refine pk_eq 0 0 (fun e0 => ?_) (fun e0 => absurd e0 (by omega)) rfl rfl
              refine V.kn [6, 5, 4, 3, 0, 1, 2] [(6, .int ((nI (k + 1)) + zi 1)), (5, .int x5), (4, .int (nI i)), (3, .int (fv 10)), (0, .ref 0), (1, .int (nI n)), (2, .int (nI j))] [] (pM fv3 ar3) rfl rfl rfl ?_
              have hx := bsF_f (f := (bsV (ar 8) (fv 11) aw od sz n)) hq (by rw [← hr2]; exact Int32.not_lt.mpr e4)
              exact ih (k + 1) _ _ _ fv3 ar3 (by omega) (ninc rfl) (fun e => by rw [hx] at e; cases e) (fun i2 v e => by rw [hx] at e; cases e; exact ⟨rfl, rfl⟩) hkm3
            · refine pk_eq 1 0 (fun e0 => absurd e0 (by omega)) (fun e0 => ?_) rfl rfl
              refine pk_eq 1 0 (fun e0 => absurd e0 (by omega)) (fun e0 => ?_) rfl rfl
              refine V.kn [6, 5, 4, 3, 0, 1, 2] [(6, .int ((nI (k + 1)) + zi 1)), (5, .int r), (4, .int (nI (k + 1))), (3, .int (fv 10)), (0, .ref 0), (1, .int (nI n)), (2, .int (nI j))] [] (pM fv3 ar3) rfl rfl rfl ?_
              have hx := bsF_t (f := (bsV (ar 8) (fv 11) aw od sz n)) hq (by rw [← hr2]; exact Int32.not_le.mp e4)
              exact ih (k + 1) _ _ _ fv3 ar3 (by omega) (ninc rfl) (fun e => by rw [hx] at e; cases e) (fun i2 v e => by rw [hx] at e; cases e; exact ⟨rfl, hr2⟩) hkm3
      subst hS
      refine V.g2 60 [33, 53] mX7_best_ok rfl ?_
      refine And.intro (fun _ => ?_) (fun e => absurd e (by decide))
      refine V.kn [6, 5, 4, 3, 0, 1, 2] [(6, .int (nI 1)), (5, .int (nI 0)), (4, .int (-1 : Int32)), (3, .int (fv 10)), (0, .ref 0), (1, .int (nI n)), (2, .int (nI j))] [] (pM fv ar) rfl rfl rfl ?_
      exact loop 8 0 _ _ _ fv ar rfl rfl (fun _ => rfl) (fun i v e => by cases e) ⟨⟨rfl, rfl, rfl, rfl, rfl, rfl, rfl, rfl, rfl, rfl, rfl⟩, (kM_rfl fv ar).2⟩
def frV (bd : fI) (be : Int32) (lk aw : Nat) (od : fI) (sz n : Nat) (t : Nat) : Int32 := (svF (upd bd t 0) be lk aw od sz n).2.2.2.1
def T7_first : zT := fun args hs Q => ∃ (fv : Nat → Int32) (ar : Nat → fI) (x y : Int32) (sz lk aw : Nat) (od : fI), sz ≤ 8 ∧ fv 7 = nI sz ∧ lk ≤ 8 ∧ fv 10 = nI lk ∧ aw ≤ 5 ∧ fv 12 = nI aw ∧ ((∀ i, i < sz → ar 9 i = od i)) ∧ oOk od ∧ args = [.ref 0, .int x, .int y] ∧ hs = pM fv ar ∧ ((wiB x 24 && wiB y 1) = false → Q (some (.int (-2))) hs) ∧ (∀ n, n < 25 → x = nI n → wiB y 1 = true → ∀ r : Int32, r = (if y = nI 0 then oI (mdF (frV (ar 8) (fv 11) lk aw od sz n) (svF (ar 8) (fv 11) lk aw od sz n).2.2.2.1 sz).1 else (mdF (frV (ar 8) (fv 11) lk aw od sz n) (svF (ar 8) (fv 11) lk aw od sz n).2.2.2.1 sz).2) → ∀ fv2 ar2, kM fv ar fv2 ar2 → Q (some (.int r)) (pM fv2 ar2))
set_option maxHeartbeats 500000 in
theorem c7_first (l : Launch) : Ct l mX7_first false 6 0 0 T7_first := by
  refine Ct.intro mX7_first_ok ?_
  rintro args hs Q ⟨fv, ar, x, y, sz, lk, aw, od, hsz8, h7, hlk, h10, haw, h12, hord, hod, rfl, rfl, h0, h1⟩
  refine ⟨Nat.le_of_ble_eq_true rfl, ?_⟩
  refine V.g2 60 [31, 73] mX7_first_ok rfl ?_
  refine V.cs mX7_first_ok rfl lX7_345 (c7_areGuests l) rfl rfl rfl rfl ⟨_, rfl, fun B hB => ⟨rfl, ?_⟩⟩
  rcases B with _ | _
  · refine V.g2 60 [31, 73] mX7_first_ok rfl ?_
    refine And.intro (fun _ => ?_) (fun e => absurd rfl e)
    exact ⟨_, zsim_rfl _, h0 (by rw [← hB]; rfl)⟩
  · refine V.g2 60 [31, 73] mX7_first_ok rfl ?_
    refine And.intro (fun e => absurd e (by decide)) (fun _ => ?_)
    refine V.cs mX7_first_ok rfl lX7_117 (c7_in l) rfl rfl rfl rfl ⟨_, _, _, rfl, fun B2 hB2 => ⟨rfl, ?_⟩⟩
    rcases B2 with _ | _
    · refine V.g2 60 [31, 73] mX7_first_ok rfl ?_
      refine And.intro (fun e => absurd rfl e) (fun _ => ?_)
      exact ⟨_, zsim_rfl _, h0 (by rw [show wiB y 1 = false from hB2.symm, Bool.and_false])⟩
    · obtain ⟨n, hn, rfl⟩ := wiB_t hB.symm (by omega)
      have h := h1 n hn rfl hB2.symm
      obtain ⟨j, hj, rfl⟩ := wiB_t (n := 1) hB2.symm (by omega)
      generalize hS : pM fv ar = S
      have loop : ∀ (m k : Nat) (x5 x4 x3 : Int32) (fv2 : Nat → Int32) (ar2 : Nat → fI), k + m = sz → x5 = nI k → x3 = oI (mdF (frV (ar 8) (fv 11) lk aw od sz n) (svF (ar 8) (fv 11) lk aw od sz n).2.2.2.1 k).1 → x4 = (mdF (frV (ar 8) (fv 11) lk aw od sz n) (svF (ar 8) (fv 11) lk aw od sz n).2.2.2.1 k).2 → kM fv ar fv2 ar2 → V l mX7_first false S (zrm 6 0 0) (zFm false S Q 0 0) 0 0 31 [(5, .int x5), (4, .int x4), (3, .int x3), (0, .ref 0), (1, .int (nI n)), (2, .int (nI j))] [] (pM fv2 ar2) := by
        intro m
        induction m with
        | zero =>
          intro k x5 x4 x3 fv2 ar2 hk h5 h3 h4 hkm
          have h72 : fv2 7 = nI sz := (kM_7 hkm).trans h7
          have ek : k = sz := by omega
          rw [ek] at h3 h4
          refine V.g2 60 [31, 73] mX7_first_ok rfl ?_
          refine pk_le sz k (fun e => ?_) (fun e => absurd e (by omega)) h72 h5
          refine zp_ne j 0 (fun e => ?_) (fun e => ?_) rfl rfl
          · exact ⟨_, zsim_rfl _, h _ (by rw [if_neg (znI (by omega) (by omega) e)]; exact h4) fv2 ar2 hkm⟩
          · exact ⟨_, zsim_rfl _, h _ (by rw [e, if_pos rfl]; exact h3) fv2 ar2 hkm⟩
        | succ m ih =>
          intro k x5 x4 x3 fv2 ar2 hk h5 h3 h4 hkm
          have h72 : fv2 7 = nI sz := (kM_7 hkm).trans h7
          refine V.g2 60 [31, 73] mX7_first_ok rfl ?_
          refine pk_le sz k (fun e => absurd e (by omega)) (fun e => ?_) h72 h5
          refine ⟨k, by omega, h5, rfl, ?_⟩
          refine ⟨k, by omega, h5, rfl, ?_⟩
          have k11 := kM_11 hkm
          have k8 := kM_8 hkm
          have k9 := kM_9 hkm
          have k10 : fv2 10 = fv 10 := hkm.1.2.2.1
          have k12 : fv2 12 = fv 12 := hkm.1.2.2.2.2.1
          refine V.cw mX7_first_ok rfl lX7_355 (c7_metBy l) rfl 0 7 rfl rfl rfl rfl rfl rfl ⟨fv2, upa ar2 8 (upd (ar2 8) k (nI 0)), _, n, sz, lk, aw, od, by omega, rfl, hsz8, h72, hlk, k10.trans h10, haw, k12.trans h12, fun i hi => by show ar2 9 i = od i; rw [k9]; exact hord i hi, hod, rfl, rfl, fun r hr fv3 ar3 hk3 => ⟨rfl, ?_⟩⟩
          have hr2 : r = (frV (ar 8) (fv 11) lk aw od sz n) k := by
            have hr3 : r = (svF (upd (ar2 8) k 0) (fv2 11) lk aw od sz n).2.2.2.1 := hr
            rw [hr3, k8, k11]
            rfl
          have k83 : ar3 8 = upd (ar2 8) k (nI 0) := kM_8 hk3
          have hkm3 : kM fv ar fv3 (upa ar3 8 (ar2 8)) := by
            obtain ⟨a, b1, b2, b3, b4, b5, b6, b7, b8, b9⟩ := hk3
            exact kM_tr hkm ⟨a, b1, b2, b3, b4, b5, b6, rfl, b8, b9⟩
          refine V.g2 60 [31, 73] mX7_first_ok rfl ?_
          refine ⟨k, by omega, h5, rfl, ?_⟩
          refine V.nm [(7, .int r), (6, .int ((ar2 8) k)), (5, .int x5), (4, .int x4), (3, .int x3), (0, .ref 0), (1, .int (nI n)), (2, .int (nI j))] [] (pM fv3 (upa ar3 8 (upd (ar3 8) k ((ar2 8) k)))) rfl rfl rfl ?_
          rw [k83, show upd (upd (ar2 8) k (nI 0)) k (ar2 8 k) = ar2 8 from upBack (ar2 8) k (nI 0)]
          refine V.g2 60 [31, 73] mX7_first_ok rfl ?_
          refine And.intro (fun (e4 : x4 ≤ r) => ?_) (fun (e4 : ¬ x4 ≤ r) => ?_)
          · refine And.intro (fun (e6 : x4 ≤ r) => ?_) (fun (e6 : ¬ x4 ≤ r) => absurd e4 e6)
            refine V.kn [5, 4, 3, 0, 1, 2] [(5, .int (x5 + zi 1)), (4, .int x4), (3, .int x3), (0, .ref 0), (1, .int (nI n)), (2, .int (nI j))] [] (pM fv3 (upa ar3 8 (ar2 8))) rfl rfl rfl ?_
            have hx : mdF (frV (ar 8) (fv 11) lk aw od sz n) (svF (ar 8) (fv 11) lk aw od sz n).2.2.2.1 (k + 1) = mdF (frV (ar 8) (fv 11) lk aw od sz n) (svF (ar 8) (fv 11) lk aw od sz n).2.2.2.1 k := by rw [mdF, if_neg (by rw [← hr2, ← h4]; exact Int32.not_lt.mpr e4)]
            exact ih (k + 1) _ _ _ fv3 (upa ar3 8 (ar2 8)) (by omega) (ninc h5) (by rw [hx]; exact h3) (by rw [hx]; exact h4) hkm3
          · refine And.intro (fun (e6 : x4 ≤ r) => absurd e6 e4) (fun (e6 : ¬ x4 ≤ r) => ?_)
            refine V.kn [5, 4, 3, 0, 1, 2] [(5, .int (x5 + zi 1)), (4, .int r), (3, .int x5), (0, .ref 0), (1, .int (nI n)), (2, .int (nI j))] [] (pM fv3 (upa ar3 8 (ar2 8))) rfl rfl rfl ?_
            have hx : mdF (frV (ar 8) (fv 11) lk aw od sz n) (svF (ar 8) (fv 11) lk aw od sz n).2.2.2.1 (k + 1) = (some k, r) := by rw [mdF, if_pos (by rw [← hr2, ← h4]; exact Int32.not_le.mp e4), hr2]
            exact ih (k + 1) _ _ _ fv3 (upa ar3 8 (ar2 8)) (by omega) (ninc h5) (by rw [hx]; exact h5) (by rw [hx]) hkm3
      subst hS
      refine V.g2 60 [31, 73] mX7_first_ok rfl ?_
      refine And.intro (fun _ => ?_) (fun e => absurd e (by decide))
      refine V.cw mX7_first_ok rfl lX7_355 (c7_metBy l) rfl 0 7 rfl rfl rfl rfl rfl rfl ⟨fv, ar, _, n, sz, lk, aw, od, by omega, rfl, hsz8, h7, hlk, h10, haw, h12, hord, hod, rfl, rfl, fun r0 hr0 fv2 ar2 hk2 => ⟨rfl, ?_⟩⟩
      refine V.g2 60 [31, 73] mX7_first_ok rfl ?_
      refine V.kn [5, 4, 3, 0, 1, 2] [(5, .int (nI 0)), (4, .int r0), (3, .int (-1 : Int32)), (0, .ref 0), (1, .int (nI n)), (2, .int (nI j))] [] (pM fv2 ar2) rfl rfl rfl ?_
      exact loop sz 0 _ _ _ fv2 ar2 (by omega) rfl rfl hr0 hk2
