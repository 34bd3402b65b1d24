/-! ===== the class's cells, and its texts behind them ===== -/
def lBa (c d k : zCart) (r tr kr : zRow) (rd : zRd) : List zE := pCart 1 c ++ (pCart 8 d ++ (pCart 15 k ++ (pRowT 22 r ++ (pRowT 26 tr ++ (pRowT 30 kr ++ pRd 34 rd)))))
def lBb (s0 s1 s2 s3 : zSh) : List zE := pSheetT 43 s0 ++ (pSheetT 45 s1 ++ (pSheetT 47 s2 ++ pSheetT 49 s3))
def lB (c d k : zCart) (r tr kr : zRow) (rd : zRd) (ft : Nat) (tg : Nat → Option Nat) (tc lw kl ik : Int32) (ri : zRi) (s0 s1 s2 s3 : zSh) : List zE :=
  .inr (6, [.ref 2, .ref 16, .ref 30, .ref 44, .ref 52, .ref 60, .ref 68, .ref ft, .ref 76, .int tc, .int lw, .int kl, .int ik, .ref 78, .ref 84]) :: (lBa c d k r tr kr rd ++ (.inl (1, 6, .inr tg) :: (pRideT 39 ri ++ (.inl (2, 4, .inr zsg) :: lBb s0 s1 s2 s3))))
def lT : Nat → List zTx → List zE
  | _, [] => []
  | o, x :: l => pTextT o x ++ lT (o + 5) l
section
variable {c d k : zCart} {r tr kr : zRow} {rd : zRd} {ft : Nat} {tg : Nat → Option Nat} {tc lw kl ik : Int32} {ri : zRi} {s0 s1 s2 s3 : zSh} {tx : zTx} {e : Nat → Nat}
theorem pX_lB : pX c d k r tr kr rd ft tg tc lw kl ik ri s0 s1 s2 s3 tx = lB c d k r tr kr rd ft tg tc lw kl ik ri s0 s1 s2 s3 ++ pTextT 51 tx := rfl
theorem lB_len : (lB c d k r tr kr rd ft tg tc lw kl ik ri s0 s1 s2 s3).length = 51 := rfl
theorem zsg_map (he : ∀ j, j < 51 → e (2 * j) = 2 * j) : (fun i => (zsg i).map e) = zsg := by
  funext i
  unfold zsg
  cases hb : Nat.ble 4 i with
  | true => rfl
  | false =>
    have h4 : i < 4 := by
      rcases Nat.lt_or_ge i 4 with h | h
      · exact h
      · rw [Nat.ble_eq_true_of_le h] at hb; cases hb
    show some (e (2 * (43 + 2 * i))) = some (2 * (43 + 2 * i))
    rw [he (43 + 2 * i) (by omega)]
theorem lB_map (he : ∀ j, j < 51 → e (2 * j) = 2 * j) : (lB c d k r tr kr rd ft tg tc lw kl ik ri s0 s1 s2 s3).map (zrc e) = lB c d k r tr kr rd (e ft) (fun i => (tg i).map e) tc lw kl ik (e ri.1, e ri.2.1, ri.2.2) s0 s1 s2 s3 := by
  have ha : (lBa c d k r tr kr rd).map (zrc e) = lBa c d k r tr kr rd := zltL_id he rfl
  have hb : (lBb s0 s1 s2 s3).map (zrc e) = lBb s0 s1 s2 s3 := zltL_id he rfl
  have h1 : e 2 = 2 := he 1 (by omega)
  have h8 : e 16 = 16 := he 8 (by omega)
  have h15 : e 30 = 30 := he 15 (by omega)
  have h22 : e 44 = 44 := he 22 (by omega)
  have h26 : e 52 = 52 := he 26 (by omega)
  have h30 : e 60 = 60 := he 30 (by omega)
  have h34 : e 68 = 68 := he 34 (by omega)
  have h38 : e 76 = 76 := he 38 (by omega)
  have h39 : e 78 = 78 := he 39 (by omega)
  have h42 : e 84 = 84 := he 42 (by omega)
  have h40 : e (2 * (39 + 1)) = 2 * (39 + 1) := he 40 (by omega)
  have h41 : e (2 * (39 + 2)) = 2 * (39 + 2) := he 41 (by omega)
  have eO : zrc e (.inr (6, [.ref 2, .ref 16, .ref 30, .ref 44, .ref 52, .ref 60, .ref 68, .ref ft, .ref 76, .int tc, .int lw, .int kl, .int ik, .ref 78, .ref 84])) = .inr (6, [.ref 2, .ref 16, .ref 30, .ref 44, .ref 52, .ref 60, .ref 68, .ref (e ft), .ref 76, .int tc, .int lw, .int kl, .int ik, .ref 78, .ref 84]) := by
    show (Sum.inr (6, [Value.ref (e 2), Value.ref (e 16), Value.ref (e 30), Value.ref (e 44), Value.ref (e 52), Value.ref (e 60), Value.ref (e 68), Value.ref (e ft), Value.ref (e 76), Value.int tc, Value.int lw, Value.int kl, Value.int ik, Value.ref (e 78), Value.ref (e 84)]) : zE) = _
    rw [h1, h8, h15, h22, h26, h30, h34, h38, h39, h42]
  have eG : zrc e (.inl (1, 6, .inr tg)) = .inl (1, 6, .inr (fun i => (tg i).map e)) := rfl
  have eS : zrc e (.inl (2, 4, .inr zsg)) = .inl (2, 4, .inr zsg) := by
    show (Sum.inl (2, 4, .inr (fun i => (zsg i).map e)) : zE) = _
    rw [zsg_map he]
  have eR : (pRideT 39 ri).map (zrc e) = pRideT 39 (e ri.1, e ri.2.1, ri.2.2) := by
    show [(Sum.inr (2, [Value.ref (e ri.1), Value.ref (e ri.2.1), .int ri.2.2.1, .long ri.2.2.2.1, .int ri.2.2.2.2.1, .ref (e (2 * (39 + 1))), .ref (e (2 * (39 + 2))), .int ri.2.2.2.2.2.2.2.1, .int ri.2.2.2.2.2.2.2.2.1, .int ri.2.2.2.2.2.2.2.2.2.1, .int ri.2.2.2.2.2.2.2.2.2.2.1, .int ri.2.2.2.2.2.2.2.2.2.2.2.1, .int ri.2.2.2.2.2.2.2.2.2.2.2.2.1, .int ri.2.2.2.2.2.2.2.2.2.2.2.2.2.1, .int ri.2.2.2.2.2.2.2.2.2.2.2.2.2.2]) : zE), .inl (0, 2, .inl ri.2.2.2.2.2.1), .inl (0, 4, .inl ri.2.2.2.2.2.2.1)] = _
    rw [h40, h41]
  have eB : (.inl (2, 4, .inr zsg) :: lBb s0 s1 s2 s3 : List zE).map (zrc e) = .inl (2, 4, .inr zsg) :: lBb s0 s1 s2 s3 := by rw [List.map_cons, eS, hb]
  show zrc e (.inr (6, [.ref 2, .ref 16, .ref 30, .ref 44, .ref 52, .ref 60, .ref 68, .ref ft, .ref 76, .int tc, .int lw, .int kl, .int ik, .ref 78, .ref 84])) :: (lBa c d k r tr kr rd ++ (.inl (1, 6, .inr tg) :: (pRideT 39 ri ++ (.inl (2, 4, .inr zsg) :: lBb s0 s1 s2 s3)))).map (zrc e) = _
  rw [List.map_append, eO, ha]
  show _ :: (_ ++ (zrc e (.inl (1, 6, .inr tg)) :: (pRideT 39 ri ++ (.inl (2, 4, .inr zsg) :: lBb s0 s1 s2 s3)).map (zrc e))) = _
  rw [List.map_append, eR, eB, eG]
  rfl
end
theorem lT_len : ∀ (l : List zTx) (o : Nat), (lT o l).length = 5 * l.length
  | [], _ => rfl
  | x :: l, o => by
    rw [lT, List.length_append, lT_len l (o + 5)]
    show 5 + 5 * l.length = 5 * (l.length + 1)
    omega
theorem lT_app : ∀ (A B : List zTx) (o : Nat), lT o (A ++ B) = lT o A ++ lT (o + 5 * A.length) B
  | [], B, o => rfl
  | x :: A, B, o => by
    rw [List.cons_append, lT, lT, lT_app A B (o + 5), List.append_assoc, List.length_cons, show o + 5 + 5 * A.length = o + 5 * (A.length + 1) by omega]
theorem pT_map {e : Nat → Nat} {o o2 : Nat} {x : zTx} (h : ∀ j, j < 5 → e (2 * (o + j)) = 2 * (o2 + j)) : (pTextT o x).map (zrc e) = pTextT o2 x := by
  show [(Sum.inr (5, [Value.int x.1, .ref (e (2 * (o + 1))), .ref (e (2 * (o + 2))), .ref (e (2 * (o + 3))), .ref (e (2 * (o + 4)))]) : zE), .inl (0, x.2.1, .inl x.2.2.1), .inl (0, 3, .inl x.2.2.2.1), .inl (0, 6, .inl x.2.2.2.2.1), .inl (0, x.2.1, .inl x.2.2.2.2.2)] = _
  rw [h 1 (by omega), h 2 (by omega), h 3 (by omega), h 4 (by omega)]
theorem lT_map {e : Nat → Nat} : ∀ (l : List zTx) (o o2 : Nat), (∀ j, j < 5 * l.length → e (2 * (o + j)) = 2 * (o2 + j)) → (lT o l).map (zrc e) = lT o2 l
  | [], _, _, _ => rfl
  | x :: l, o, o2, h => by
    rw [List.length_cons] at h
    rw [lT, lT, List.map_append, pT_map (fun j hj => h j (by omega)), lT_map l (o + 5) (o2 + 5) (fun j hj => by
      have := h (5 + j) (by omega)
      rwa [show o + (5 + j) = o + 5 + j by omega, show o2 + (5 + j) = o2 + 5 + j by omega] at this)]
def TSok (TS : List zTx) (n : Nat) (Ps : Nat → zP) : Prop := TS.length = n ∧ ∀ t, t < n → ∃ x, TS[t]? = some x ∧ tTx x.1 x.2.1 x.2.2.1 x.2.2.2.1 (Ps t)
theorem TSok_split {TS : List zTx} {n t : Nat} {Ps : Nat → zP} (h : TSok TS n Ps) (ht : t < n) : ∃ (TA : List zTx) (tx : zTx) (TB : List zTx), TS = TA ++ tx :: TB ∧ TA.length = t ∧ tTx tx.1 tx.2.1 tx.2.2.1 tx.2.2.2.1 (Ps t) ∧ ∀ nm sk, TSok (TA ++ txS tx nm sk :: TB) n Ps := by
  obtain ⟨h1, h2⟩ := h
  obtain ⟨x, hx, hT⟩ := h2 t ht
  have hlt : t < TS.length := by omega
  have hx2 : TS[t] = x := (List.getElem?_eq_some_iff.mp hx).2
  have e : TS = TS.take t ++ x :: TS.drop (t + 1) := by
    rw [← hx2, ← List.drop_eq_getElem_cons hlt, List.take_append_drop]
  have hl : (TS.take t).length = t := by rw [List.length_take]; omega
  refine ⟨TS.take t, x, TS.drop (t + 1), e, hl, hT, fun nm sk => ⟨?_, fun u hu => ?_⟩⟩
  · have := congrArg List.length e
    simp only [List.length_append, List.length_cons] at this ⊢
    omega
  · obtain ⟨y, hy, hT2⟩ := h2 u hu
    rw [e] at hy
    rcases Nat.lt_trichotomy u t with q | q | q
    · rw [List.getElem?_append_left (by omega)] at hy ⊢
      exact ⟨y, hy, hT2⟩
    · subst q
      rw [List.getElem?_append_right (by omega), hl, Nat.sub_self] at hy ⊢
      exact ⟨_, rfl, hT⟩
    · rw [List.getElem?_append_right (by omega), hl, show u - t = (u - t - 1) + 1 by omega, List.getElem?_cons_succ] at hy ⊢
      exact ⟨y, hy, hT2⟩
/-- the names of the texts: the caller's, from the place o on; the callee's, whose text is the number li -/
def tgW (o n : Nat) : Nat → Option Nat := fun i => if i < n then some (2 * (o + 5 * i)) else none
def tgC (li n : Nat) : Nat → Option Nat := fun i => if i < n then some (if i = li then 102 else 201 + 2 * i) else none
def ftC (li : Nat) : Nat := if li = 0 then 102 else 201
def dlW (a b o n : Nat) : Nat → Nat := fun k => if k = 101 then a else if k = 103 then b else if 201 ≤ k ∧ k < 201 + 2 * n then 2 * (o + 5 * ((k - 201) / 2)) else k
theorem dlW_ok (a b o n : Nat) : ∀ i, i < 27 → dlW a b o n (2 * i + 1) = 2 * i + 1 := fun i hi => by
  unfold dlW
  rw [if_neg (by omega), if_neg (by omega), if_neg (by omega)]
section
variable {a b o n li N q : Nat}
theorem eW_1 {j : Nat} (h : j < 51) : ze N (csX q 5) (dlW a b o n) (2 * j) = 2 * j := ze_in (csX_1 h)
theorem eW_2 {j : Nat} (h : j < 5) : ze N (csX q 5) (dlW a b o n) (2 * (51 + j)) = 2 * (q + j) := ze_in (csX_2 h)
theorem eW_a : ze N (csX q 5) (dlW a b o n) 101 = a := by
  rw [show (101 : Nat) = 2 * 50 + 1 from rfl, ze_odd]
  rfl
theorem eW_b : ze N (csX q 5) (dlW a b o n) 103 = b := by
  rw [show (103 : Nat) = 2 * 51 + 1 from rfl, ze_odd]
  rfl
theorem eW_t {i : Nat} (hi : i < n) : ze N (csX q 5) (dlW a b o n) (201 + 2 * i) = 2 * (o + 5 * i) := by
  rw [show 201 + 2 * i = 2 * (100 + i) + 1 by omega, ze_odd]
  unfold dlW
  rw [if_neg (by omega), if_neg (by omega), if_pos (by omega), show (2 * (100 + i) + 1 - 201) / 2 = i by omega]
theorem eW_tg (hq : q = o + 5 * li) : (fun i => (tgC li n i).map (ze N (csX q 5) (dlW a b o n))) = tgW o n := by
  funext i
  unfold tgC tgW
  by_cases hi : i < n
  · rw [if_pos hi, if_pos hi]
    by_cases hl : i = li
    · rw [if_pos hl]
      have := eW_2 (a := a) (b := b) (o := o) (n := n) (N := N) (q := q) (j := 0) (by omega)
      show some (ze N (csX q 5) (dlW a b o n) (2 * (51 + 0))) = _
      rw [this, hq, hl]
      rfl
    · rw [if_neg hl]
      show some (ze N (csX q 5) (dlW a b o n) (201 + 2 * i)) = _
      rw [eW_t hi]
  · rw [if_neg hi, if_neg hi]
    rfl
theorem eW_ft (hq : q = o + 5 * li) (hn : 0 < n) : ze N (csX q 5) (dlW a b o n) (ftC li) = 2 * o := by
  unfold ftC
  by_cases hl : li = 0
  · rw [if_pos hl]
    have := eW_2 (a := a) (b := b) (o := o) (n := n) (N := N) (q := q) (j := 0) (by omega)
    show ze N (csX q 5) (dlW a b o n) (2 * (51 + 0)) = _
    rw [this, hq, hl]
    rfl
  · rw [if_neg hl]
    exact eW_t (i := 0) hn
theorem lB_call {c d k : zCart} {r tr kr : zRow} {rd : zRd} {tc lw kl ik : Int32} {ri : zRi} {s0 s1 s2 s3 : zSh} (hq : q = o + 5 * li) (hn : 0 < n) : (lB c d k r tr kr rd (ftC li) (tgC li n) tc lw kl ik ri s0 s1 s2 s3).map (zrc (ze N (csX q 5) (dlW a b o n))) = lB c d k r tr kr rd (2 * o) (tgW o n) tc lw kl ik (ze N (csX q 5) (dlW a b o n) ri.1, ze N (csX q 5) (dlW a b o n) ri.2.1, ri.2.2) s0 s1 s2 s3 := by
  rw [lB_map (fun j hj => eW_1 hj), eW_tg hq, eW_ft hq hn]
theorem lB_in {c d k : zCart} {r tr kr : zRow} {rd : zRd} {tc lw kl ik : Int32} {rj : zRj} {s0 s1 s2 s3 : zSh} (hq : q = o + 5 * li) (hn : 0 < n) : (lB c d k r tr kr rd (ftC li) (tgC li n) tc lw kl ik (101, 103, rj) s0 s1 s2 s3).map (zrc (ze N (csX q 5) (dlW a b o n))) = lB c d k r tr kr rd (2 * o) (tgW o n) tc lw kl ik (a, b, rj) s0 s1 s2 s3 := by
  rw [lB_call hq hn]
  show lB c d k r tr kr rd (2 * o) (tgW o n) tc lw kl ik (ze N (csX q 5) (dlW a b o n) 101, ze N (csX q 5) (dlW a b o n) 103, rj) s0 s1 s2 s3 = _
  rw [eW_a, eW_b]
theorem pT_in {x : zTx} : (pTextT 51 x).map (zrc (ze N (csX q 5) (dlW a b o n))) = pTextT q x := pT_map (fun _ hj => eW_2 hj)
theorem tgC_li (h : li < n) : tgC li n li = some 102 := by
  unfold tgC
  rw [if_pos h, if_pos rfl]
end
