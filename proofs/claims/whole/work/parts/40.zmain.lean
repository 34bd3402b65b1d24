/-! ===== the class's own world ===== -/
abbrev zRow : Type := fI × fI × Int32 × Int32 × Int32 × Int32 × Int32 × fI × Int32 × Int32 × Int32
abbrev pRowT (o : Nat) (r : zRow) : List zE := pRow o r.1 r.2.1 r.2.2.1 r.2.2.2.1 r.2.2.2.2.1 r.2.2.2.2.2.1 r.2.2.2.2.2.2.1 r.2.2.2.2.2.2.2.1 r.2.2.2.2.2.2.2.2.1 r.2.2.2.2.2.2.2.2.2.1 r.2.2.2.2.2.2.2.2.2.2
/-- tape, size, place, token, tokenPlace, number, fault, code, codeSize, ends -/
abbrev zRd : Type := fI × Int32 × Int32 × Int32 × Int32 × Int32 × Int32 × fI × Int32 × fI
abbrev pRd (o : Nat) (x : zRd) : List zE := [.inr (1, [.ref (2 * (o + 1)), .int x.2.1, .int x.2.2.1, .int x.2.2.2.1, .int x.2.2.2.2.1, .int x.2.2.2.2.2.1, .int x.2.2.2.2.2.2.1, .ref (2 * (o + 2)), .int x.2.2.2.2.2.2.2.2.1, .ref (2 * (o + 3))]), .inl (0, 160, .inl x.1), .inl (0, 160, .inl x.2.2.2.2.2.2.2.1), .inl (0, 3, .inl x.2.2.2.2.2.2.2.2.2)]
/-- cart, law, byLot, lot, tenth, hands, drags, holds, the rest -/
abbrev zRi : Type := Nat × Nat × Int32 × Int64 × Int32 × fI × fI × Int32 × RT
abbrev pRideT (o : Nat) (x : zRi) : List zE := [.inr (2, [.ref x.1, .ref x.2.1, .int x.2.2.1, .long x.2.2.2.1, .int x.2.2.2.2.1, .ref (2 * (o + 1)), .ref (2 * (o + 2)), .int x.2.2.2.2.2.2.2.1, .int x.2.2.2.2.2.2.2.2.1, .int x.2.2.2.2.2.2.2.2.2.1, .int x.2.2.2.2.2.2.2.2.2.2.1, .int x.2.2.2.2.2.2.2.2.2.2.2.1, .int x.2.2.2.2.2.2.2.2.2.2.2.2.1, .int x.2.2.2.2.2.2.2.2.2.2.2.2.2.1, .int x.2.2.2.2.2.2.2.2.2.2.2.2.2.2]), .inl (0, 2, .inl x.2.2.2.2.2.1), .inl (0, 4, .inl x.2.2.2.2.2.2.1)]
abbrev zSh : Type := Int32 × Int32 × fI
abbrev pSheetT (o : Nat) (x : zSh) : List zE := pSheet o x.1 x.2.1 x.2.2
abbrev zTx : Type := Int32 × Nat × fI × fI × fI × fI
abbrev pTextT (o : Nat) (x : zTx) : List zE := pText o x.1 x.2.1 x.2.2.1 x.2.2.2.1 x.2.2.2.2.1 x.2.2.2.2.2
abbrev txS (x : zTx) (nm sk : fI) : zTx := (x.1, x.2.1, x.2.2.1, x.2.2.2.1, nm, sk)
def zsg : Nat → Option Nat := fun i => bif Nat.ble 4 i then none else some (2 * (43 + 2 * i))
/-- places: 0 the object, 1 cart, 8 thought, 15 kept, 22 row, 26 thought, 30 kept, 34 reader, 38 texts, 39 ride, 42 sheets, 43 45 47 49 sheets, 51 the law's text -/
def pX (c d k : zCart) (r tr kr : zRow) (rd : zRd) (ft : Nat) (tg : Nat → Option Nat) (tc lw kl ik : Int32) (ri : zRi) (s0 s1 s2 s3 : zSh) (tx : zTx) : List zE :=
  .inr (6, [.ref 2, .ref 16, .ref 30, .ref 44, .ref 52, .ref 60, .ref 68, .ref ft, .ref 76, .int tc, .int lw, .int kl, .int ik, .ref 78, .ref 84]) :: (pCart 1 c ++ (pCart 8 d ++ (pCart 15 k ++ (pRowT 22 r ++ (pRowT 26 tr ++ (pRowT 30 kr ++ (pRd 34 rd ++ (.inl (1, 6, .inr tg) :: (pRideT 39 ri ++ (.inl (2, 4, .inr zsg) :: (pSheetT 43 s0 ++ (pSheetT 45 s1 ++ (pSheetT 47 s2 ++ (pSheetT 49 s3 ++ pTextT 51 tx))))))))))))))
def csCart : List Nat := [1, 2, 3, 4, 5, 6, 7]
/-- the law is that of place 51, and its text is P -/
def lOk (tg : Nat → Option Nat) (lw : Int32) (tx : zTx) (P : zP) : Prop := (∃ li, li < 6 ∧ lw = nI li ∧ tg li = some 102) ∧ tTx tx.1 tx.2.1 tx.2.2.1 tx.2.2.2.1 P
def T_textNumbered : zT := fun args hs Q => ∃ (c d k : zCart) (r tr kr : zRow) (rd : zRd) (ft : Nat) (tg : Nat → Option Nat) (tc lw kl ik : Int32) (ri : zRi) (s0 s1 s2 s3 : zSh) (tx : zTx) (li nm : Nat), li < 6 ∧ tg li = some nm ∧ args = [.ref 0, .int (nI li)] ∧ hs = pX c d k r tr kr rd ft tg tc lw kl ik ri s0 s1 s2 s3 tx ∧ Q (some (.ref nm)) hs
theorem ct_textNumbered (l : Launch) : Ct l mX6_textNumbered false 2 0 0 T_textNumbered := by
  refine Ct.intro mX6_textNumbered_ok ?_
  rintro args hs Q ⟨c, d, k, r, tr, kr, rd, ft, tg, tc, lw, kl, ik, ri, s0, s1, s2, s3, tx, li, nm, hli, htg, rfl, rfl, h⟩
  refine ⟨Nat.le_of_ble_eq_true rfl, ?_⟩
  have e := pk_cl (x := nI li) li
  have er : zrf (tg (nI li).toNatClampNeg) = .ref nm := by rw [e, htg]; rfl
  refine V.g 10 [] mX6_textNumbered_ok rfl ?_
  refine V.cS0 mX6_textNumbered_ok rfl lX6_114 (ct_within l) rfl [.int (nI li), .int (nI 0), .int (nI 5)] [] rfl rfl rfl (some (.int (bI true))) (T_within_use (by have := wiB_n (j := li) (n := 5) (by omega) (by omega); exact this.symm)) ?_
  refine V.g 10 [15] mX6_textNumbered_ok rfl ?_
  refine And.intro (fun q => absurd q (by decide)) (fun _ => ?_)
  refine And.intro (pk_in li 6 hli) ?_
  refine V.nm [(0, .ref 0), (1, .int (nI li))] [.ref nm] (pX c d k r tr kr rd ft tg tc lw kl ik ri s0 s1 s2 s3 tx) rfl (by rw [← er] <;> rfl) rfl ?_
  refine V.g 10 [29] mX6_textNumbered_ok rfl ?_
  refine And.intro (pk_in li 6 hli) ?_
  refine V.nm [(0, .ref 0), (1, .int (nI li))] [.ref nm] (pX c d k r tr kr rd ft tg tc lw kl ik ri s0 s1 s2 s3 tx) rfl (by rw [← er] <;> rfl) rfl ?_
  refine V.g 10 [] mX6_textNumbered_ok rfl ?_
  exact ⟨_, zsim_rfl _, h⟩
def T_theLaw : zT := fun args hs Q => ∃ (c d k : zCart) (r tr kr : zRow) (rd : zRd) (ft : Nat) (tg : Nat → Option Nat) (tc lw kl ik : Int32) (ri : zRi) (s0 s1 s2 s3 : zSh) (tx : zTx) (P : zP), lOk tg lw tx P ∧ args = [.ref 0] ∧ hs = pX c d k r tr kr rd ft tg tc lw kl ik ri s0 s1 s2 s3 tx ∧ Q (some (.ref 102)) hs
theorem ct_theLaw (l : Launch) : Ct l mX6_theLaw false 3 0 0 T_theLaw := by
  refine Ct.intro mX6_theLaw_ok ?_
  rintro args hs Q ⟨c, d, k, r, tr, kr, rd, ft, tg, tc, lw, kl, ik, ri, s0, s1, s2, s3, tx, P, ⟨⟨li, hli, hlw, htg⟩, hT⟩, rfl, rfl, h⟩
  refine ⟨Nat.le_of_ble_eq_true rfl, ?_⟩
  refine V.g 10 [] mX6_theLaw_ok rfl ?_
  refine V.cVW mX6_theLaw_ok rfl lX6_274 (ct_textNumbered l) rfl [.ref 0, .int lw] [] rfl 0 6 rfl rfl rfl rfl rfl rfl (some (.ref 102)) (pX c d k r tr kr rd ft tg tc lw kl ik ri s0 s1 s2 s3 tx) ⟨c, d, k, r, tr, kr, rd, ft, tg, tc, lw, kl, ik, ri, s0, s1, s2, s3, tx, li, 102, hli, htg, by rw [hlw], rfl, rfl, rfl⟩ rfl ?_
  refine V.g 10 [] mX6_theLaw_ok rfl ?_
  exact ⟨_, zsim_rfl _, h⟩
def dl2 (a b : Nat) : Nat → Nat := fun k => bif Nat.beq k 101 then a else bif Nat.beq k 103 then b else k
theorem dl2_ok (a b : Nat) : ∀ i, i < 27 → dl2 a b (2 * i + 1) = 2 * i + 1 := by
  intro i hi
  have h1 : Nat.beq (2 * i + 1) 101 = false := by cases h : Nat.beq (2 * i + 1) 101 with
    | false => rfl
    | true => have := Nat.eq_of_beq_eq_true h; omega
  have h2 : Nat.beq (2 * i + 1) 103 = false := by cases h : Nat.beq (2 * i + 1) 103 with
    | false => rfl
    | true => have := Nat.eq_of_beq_eq_true h; omega
  simp only [dl2, h1, h2, cond_false]
/-- the ride goes by the cart, or by the one in thought -/
abbrev riG (nmB : Nat) (lt : Int64) (c : zCart) (P : zP) (dr : fI) (hd : Int32) : zRi := (nmB, 102, 0, lt, nI 30, haC c, dr, hd, rlF c P (haC c) 30)
def T_farthestOf_c : zT := fun args hs Q => ∃ (c d k : zCart) (r tr kr : zRow) (rd : zRd) (ft : Nat) (tg : Nat → Option Nat) (tc lw kl ik : Int32) (ri : zRi) (s0 s1 s2 s3 : zSh) (tx : zTx) (P : zP), lOk tg lw tx P ∧ kOk c ∧ args = [.ref 0, .ref 2] ∧ hs = pX c d k r tr kr rd ft tg tc lw kl ik ri s0 s1 s2 s3 tx ∧ ∀ ri' nm' sk', Q (some (.int (rlF c P (haC c) 30).2.2.2.2.2.2)) (pX c d k r tr kr rd ft tg tc lw kl ik ri' s0 s1 s2 s3 (txS tx nm' sk'))
set_option maxHeartbeats 4000000 in
theorem ct_farthestOf_c (l : Launch) : Ct l mX6_farthestOf false 7 0 0 T_farthestOf_c := by
  refine Ct.intro mX6_farthestOf_ok ?_
  rintro args hs Q ⟨c, d, k, r, tr, kr, rd, ft, tg, tc, lw, kl, ik, ri, s0, s1, s2, s3, tx, P, hL, hok, rfl, rfl, h⟩
  obtain ⟨orc, orl, obl, olt, ote, oha, odr, ohd, opu, oaz, oco, oho, obu, obb, ofa⟩ := ri
  obtain ⟨nt, n, cd, en, nm, sk⟩ := tx
  refine ⟨Nat.le_of_ble_eq_true rfl, ?_⟩
  refine V.g 10 [] mX6_farthestOf_ok rfl ?_
  refine V.cVW mX6_farthestOf_ok rfl lX6_128 (ct_theLaw l) rfl [.ref 0] [.ref 2, .ref 78] rfl 0 6 rfl rfl rfl rfl rfl rfl (some (.ref 102)) (pX c d k r tr kr rd ft tg tc lw kl ik (orc, orl, obl, olt, ote, oha, odr, ohd, opu, oaz, oco, oho, obu, obb, ofa) s0 s1 s2 s3 (nt, n, cd, en, nm, sk)) ⟨c, d, k, r, tr, kr, rd, ft, tg, tc, lw, kl, ik, _, s0, s1, s2, s3, _, P, hL, rfl, rfl, rfl, rfl⟩ rfl ?_
  refine V.callV mX6_farthestOf_ok rfl lX6_194 (ct_goAll l) rfl (dl2 orc orl) (dl2_ok orc orl) [39, 40, 41, 1, 2, 3, 4, 5, 6, 7, 51, 52, 53, 54, 55] (pRide 101 103 obl olt ote oha odr ohd opu oaz oco oho obu obb ofa ++ (pCart 3 c ++ pText 10 nt n cd en nm sk)) [.ref 0, .ref 6, .ref 20] [] (fun v wc' => ∃ (dr' nm' sk' : fI) (hd' : Int32) (rr : RT), rr = rlF c P (haC c) 30 ∧ v = none ∧ wc' = pRX 0 olt (nI 30) (haC c) dr' hd' rr c nt n cd en nm' sk') rfl 0 2 rfl rfl rfl rfl rfl rfl rfl rfl ⟨101, 103, obl, olt, ote, oha, odr, ohd, opu, oaz, oco, oho, obu, obb, ofa, c, nt, n, cd, en, nm, sk, P, hok, hL.2, rfl, rfl, fun dr' hd' nm' sk' => ⟨dr', nm', sk', hd', _, rfl, rfl, rfl⟩⟩ (fun v wc' hv => ?_)
  obtain ⟨dr', nm', sk', hd', rr, hrr, rfl, rfl⟩ := hv
  refine ⟨rfl, ?_⟩
  refine V.nm [(0, .ref 0), (1, .ref 2)] [] (pX c d k r tr kr rd ft tg tc lw kl ik (2, 102, 0, olt, nI 30, haC c, dr', hd', rr) s0 s1 s2 s3 (nt, n, cd, en, nm', sk')) rfl rfl rfl ?_
  refine V.g 10 [] mX6_farthestOf_ok rfl ?_
  refine ⟨_, zsim_rfl _, ?_⟩
  have h1 := h (2, 102, 0, olt, nI 30, haC c, dr', hd', rr) nm' sk'
  rw [← hrr] at h1
  exact h1
def T_farthestOf_t : zT := fun args hs Q => ∃ (c d k : zCart) (r tr kr : zRow) (rd : zRd) (ft : Nat) (tg : Nat → Option Nat) (tc lw kl ik : Int32) (ri : zRi) (s0 s1 s2 s3 : zSh) (tx : zTx) (P : zP), lOk tg lw tx P ∧ kOk d ∧ args = [.ref 0, .ref 16] ∧ hs = pX c d k r tr kr rd ft tg tc lw kl ik ri s0 s1 s2 s3 tx ∧ ∀ ri' nm' sk', Q (some (.int (rlF d P (haC d) 30).2.2.2.2.2.2)) (pX c d k r tr kr rd ft tg tc lw kl ik ri' s0 s1 s2 s3 (txS tx nm' sk'))
set_option maxHeartbeats 4000000 in
theorem ct_farthestOf_t (l : Launch) : Ct l mX6_farthestOf false 7 0 0 T_farthestOf_t := by
  refine Ct.intro mX6_farthestOf_ok ?_
  rintro args hs Q ⟨c, d, k, r, tr, kr, rd, ft, tg, tc, lw, kl, ik, ri, s0, s1, s2, s3, tx, P, hL, hok, rfl, rfl, h⟩
  obtain ⟨orc, orl, obl, olt, ote, oha, odr, ohd, opu, oaz, oco, oho, obu, obb, ofa⟩ := ri
  obtain ⟨nt, n, cd, en, nm, sk⟩ := tx
  refine ⟨Nat.le_of_ble_eq_true rfl, ?_⟩
  refine V.g 10 [] mX6_farthestOf_ok rfl ?_
  refine V.cVW mX6_farthestOf_ok rfl lX6_128 (ct_theLaw l) rfl [.ref 0] [.ref 16, .ref 78] rfl 0 6 rfl rfl rfl rfl rfl rfl (some (.ref 102)) (pX c d k r tr kr rd ft tg tc lw kl ik (orc, orl, obl, olt, ote, oha, odr, ohd, opu, oaz, oco, oho, obu, obb, ofa) s0 s1 s2 s3 (nt, n, cd, en, nm, sk)) ⟨c, d, k, r, tr, kr, rd, ft, tg, tc, lw, kl, ik, _, s0, s1, s2, s3, _, P, hL, rfl, rfl, rfl, rfl⟩ rfl ?_
  refine V.callV mX6_farthestOf_ok rfl lX6_194 (ct_goAll l) rfl (dl2 orc orl) (dl2_ok orc orl) [39, 40, 41, 8, 9, 10, 11, 12, 13, 14, 51, 52, 53, 54, 55] (pRide 101 103 obl olt ote oha odr ohd opu oaz oco oho obu obb ofa ++ (pCart 3 d ++ pText 10 nt n cd en nm sk)) [.ref 0, .ref 6, .ref 20] [] (fun v wc' => ∃ (dr' nm' sk' : fI) (hd' : Int32) (rr : RT), rr = rlF d P (haC d) 30 ∧ v = none ∧ wc' = pRX 0 olt (nI 30) (haC d) dr' hd' rr d nt n cd en nm' sk') rfl 0 2 rfl rfl rfl rfl rfl rfl rfl rfl ⟨101, 103, obl, olt, ote, oha, odr, ohd, opu, oaz, oco, oho, obu, obb, ofa, d, nt, n, cd, en, nm, sk, P, hok, hL.2, rfl, rfl, fun dr' hd' nm' sk' => ⟨dr', nm', sk', hd', _, rfl, rfl, rfl⟩⟩ (fun v wc' hv => ?_)
  obtain ⟨dr', nm', sk', hd', rr, hrr, rfl, rfl⟩ := hv
  refine ⟨rfl, ?_⟩
  refine V.nm [(0, .ref 0), (1, .ref 16)] [] (pX c d k r tr kr rd ft tg tc lw kl ik (16, 102, 0, olt, nI 30, haC d, dr', hd', rr) s0 s1 s2 s3 (nt, n, cd, en, nm', sk')) rfl rfl rfl ?_
  refine V.g 10 [] mX6_farthestOf_ok rfl ?_
  refine ⟨_, zsim_rfl _, ?_⟩
  have h1 := h (16, 102, 0, olt, nI 30, haC d, dr', hd', rr) nm' sk'
  rw [← hrr] at h1
  exact h1
def T_costOf_c : zT := fun args hs Q => ∃ (c d k : zCart) (r tr kr : zRow) (rd : zRd) (ft : Nat) (tg : Nat → Option Nat) (tc lw kl ik : Int32) (ri : zRi) (s0 s1 s2 s3 : zSh) (tx : zTx) (P : zP), lOk tg lw tx P ∧ kOk c ∧ args = [.ref 0, .ref 2] ∧ hs = pX c d k r tr kr rd ft tg tc lw kl ik ri s0 s1 s2 s3 tx ∧ ∀ ri' nm' sk', Q (some (.int ((rlF c P (haC c) 30).2.2.2.1 + (rlF c P (haC c) 30).2.2.2.2.1))) (pX c d k r tr kr rd ft tg tc lw kl ik ri' s0 s1 s2 s3 (txS tx nm' sk'))
set_option maxHeartbeats 4000000 in
theorem ct_costOf_c (l : Launch) : Ct l mX6_costOf false 7 0 0 T_costOf_c := by
  refine Ct.intro mX6_costOf_ok ?_
  rintro args hs Q ⟨c, d, k, r, tr, kr, rd, ft, tg, tc, lw, kl, ik, ri, s0, s1, s2, s3, tx, P, hL, hok, rfl, rfl, h⟩
  obtain ⟨orc, orl, obl, olt, ote, oha, odr, ohd, opu, oaz, oco, oho, obu, obb, ofa⟩ := ri
  obtain ⟨nt, n, cd, en, nm, sk⟩ := tx
  refine ⟨Nat.le_of_ble_eq_true rfl, ?_⟩
  refine V.g 10 [] mX6_costOf_ok rfl ?_
  refine V.cVW mX6_costOf_ok rfl lX6_128 (ct_theLaw l) rfl [.ref 0] [.ref 2, .ref 78] rfl 0 6 rfl rfl rfl rfl rfl rfl (some (.ref 102)) (pX c d k r tr kr rd ft tg tc lw kl ik (orc, orl, obl, olt, ote, oha, odr, ohd, opu, oaz, oco, oho, obu, obb, ofa) s0 s1 s2 s3 (nt, n, cd, en, nm, sk)) ⟨c, d, k, r, tr, kr, rd, ft, tg, tc, lw, kl, ik, _, s0, s1, s2, s3, _, P, hL, rfl, rfl, rfl, rfl⟩ rfl ?_
  refine V.callV mX6_costOf_ok rfl lX6_194 (ct_goAll l) rfl (dl2 orc orl) (dl2_ok orc orl) [39, 40, 41, 1, 2, 3, 4, 5, 6, 7, 51, 52, 53, 54, 55] (pRide 101 103 obl olt ote oha odr ohd opu oaz oco oho obu obb ofa ++ (pCart 3 c ++ pText 10 nt n cd en nm sk)) [.ref 0, .ref 6, .ref 20] [] (fun v wc' => ∃ (dr' nm' sk' : fI) (hd' : Int32) (rr : RT), rr = rlF c P (haC c) 30 ∧ v = none ∧ wc' = pRX 0 olt (nI 30) (haC c) dr' hd' rr c nt n cd en nm' sk') rfl 0 2 rfl rfl rfl rfl rfl rfl rfl rfl ⟨101, 103, obl, olt, ote, oha, odr, ohd, opu, oaz, oco, oho, obu, obb, ofa, c, nt, n, cd, en, nm, sk, P, hok, hL.2, rfl, rfl, fun dr' hd' nm' sk' => ⟨dr', nm', sk', hd', _, rfl, rfl, rfl⟩⟩ (fun v wc' hv => ?_)
  obtain ⟨dr', nm', sk', hd', rr, hrr, rfl, rfl⟩ := hv
  refine ⟨rfl, ?_⟩
  refine V.nm [(0, .ref 0), (1, .ref 2)] [] (pX c d k r tr kr rd ft tg tc lw kl ik (2, 102, 0, olt, nI 30, haC c, dr', hd', rr) s0 s1 s2 s3 (nt, n, cd, en, nm', sk')) rfl rfl rfl ?_
  refine V.g 10 [] mX6_costOf_ok rfl ?_
  refine ⟨_, zsim_rfl _, ?_⟩
  have h1 := h (2, 102, 0, olt, nI 30, haC c, dr', hd', rr) nm' sk'
  rw [← hrr] at h1
  exact h1
def T_costOf_t : zT := fun args hs Q => ∃ (c d k : zCart) (r tr kr : zRow) (rd : zRd) (ft : Nat) (tg : Nat → Option Nat) (tc lw kl ik : Int32) (ri : zRi) (s0 s1 s2 s3 : zSh) (tx : zTx) (P : zP), lOk tg lw tx P ∧ kOk d ∧ args = [.ref 0, .ref 16] ∧ hs = pX c d k r tr kr rd ft tg tc lw kl ik ri s0 s1 s2 s3 tx ∧ ∀ ri' nm' sk', Q (some (.int ((rlF d P (haC d) 30).2.2.2.1 + (rlF d P (haC d) 30).2.2.2.2.1))) (pX c d k r tr kr rd ft tg tc lw kl ik ri' s0 s1 s2 s3 (txS tx nm' sk'))
set_option maxHeartbeats 4000000 in
theorem ct_costOf_t (l : Launch) : Ct l mX6_costOf false 7 0 0 T_costOf_t := by
  refine Ct.intro mX6_costOf_ok ?_
  rintro args hs Q ⟨c, d, k, r, tr, kr, rd, ft, tg, tc, lw, kl, ik, ri, s0, s1, s2, s3, tx, P, hL, hok, rfl, rfl, h⟩
  obtain ⟨orc, orl, obl, olt, ote, oha, odr, ohd, opu, oaz, oco, oho, obu, obb, ofa⟩ := ri
  obtain ⟨nt, n, cd, en, nm, sk⟩ := tx
  refine ⟨Nat.le_of_ble_eq_true rfl, ?_⟩
  refine V.g 10 [] mX6_costOf_ok rfl ?_
  refine V.cVW mX6_costOf_ok rfl lX6_128 (ct_theLaw l) rfl [.ref 0] [.ref 16, .ref 78] rfl 0 6 rfl rfl rfl rfl rfl rfl (some (.ref 102)) (pX c d k r tr kr rd ft tg tc lw kl ik (orc, orl, obl, olt, ote, oha, odr, ohd, opu, oaz, oco, oho, obu, obb, ofa) s0 s1 s2 s3 (nt, n, cd, en, nm, sk)) ⟨c, d, k, r, tr, kr, rd, ft, tg, tc, lw, kl, ik, _, s0, s1, s2, s3, _, P, hL, rfl, rfl, rfl, rfl⟩ rfl ?_
  refine V.callV mX6_costOf_ok rfl lX6_194 (ct_goAll l) rfl (dl2 orc orl) (dl2_ok orc orl) [39, 40, 41, 8, 9, 10, 11, 12, 13, 14, 51, 52, 53, 54, 55] (pRide 101 103 obl olt ote oha odr ohd opu oaz oco oho obu obb ofa ++ (pCart 3 d ++ pText 10 nt n cd en nm sk)) [.ref 0, .ref 6, .ref 20] [] (fun v wc' => ∃ (dr' nm' sk' : fI) (hd' : Int32) (rr : RT), rr = rlF d P (haC d) 30 ∧ v = none ∧ wc' = pRX 0 olt (nI 30) (haC d) dr' hd' rr d nt n cd en nm' sk') rfl 0 2 rfl rfl rfl rfl rfl rfl rfl rfl ⟨101, 103, obl, olt, ote, oha, odr, ohd, opu, oaz, oco, oho, obu, obb, ofa, d, nt, n, cd, en, nm, sk, P, hok, hL.2, rfl, rfl, fun dr' hd' nm' sk' => ⟨dr', nm', sk', hd', _, rfl, rfl, rfl⟩⟩ (fun v wc' hv => ?_)
  obtain ⟨dr', nm', sk', hd', rr, hrr, rfl, rfl⟩ := hv
  refine ⟨rfl, ?_⟩
  refine V.nm [(0, .ref 0), (1, .ref 16)] [] (pX c d k r tr kr rd ft tg tc lw kl ik (16, 102, 0, olt, nI 30, haC d, dr', hd', rr) s0 s1 s2 s3 (nt, n, cd, en, nm', sk')) rfl rfl rfl ?_
  refine V.g 10 [] mX6_costOf_ok rfl ?_
  refine ⟨_, zsim_rfl _, ?_⟩
  have h1 := h (16, 102, 0, olt, nI 30, haC d, dr', hd', rr) nm' sk'
  rw [← hrr] at h1
  exact h1
