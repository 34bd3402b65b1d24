/-! ===== the law: a new text ===== -/
theorem zlk_e {N k j : Nat} (e : k = 2 * j) (h : j < N) : zlk N k = true := by
  subst e
  simp only [zlk, Bool.or_eq_true]
  exact Or.inr (Nat.ble_eq_true_of_le (by omega))
theorem zlk_o {N k : Nat} (h : k % 2 = 1) : zlk N k = true := by
  simp only [zlk, Bool.or_eq_true]
  exact Or.inl (by rw [Nat.beq_eq]; exact h)
theorem zlk_mono {n N k : Nat} (h : n ≤ N) (q : zlk n k = true) : zlk N k = true := by
  rcases zlk_eq q with q | q
  · exact zlk_o q
  · by_cases e : k % 2 = 1
    · exact zlk_o e
    · exact zlk_e (j := k / 2) (by omega) (by omega)
theorem zlowV_mono {n N : Nat} (h : n ≤ N) : ∀ {v : Value}, zlow n v = true → zlow N v = true
  | .ref _, q => zlk_mono h q
  | .int _, _ => rfl
  | .long _, _ => rfl
  | .null, _ => rfl
  | .float _, _ => rfl
  | .double _, _ => rfl
  | .retAddr _, _ => rfl
theorem zlowC_mono {n N : Nat} (h : n ≤ N) {ci : Nat} {fs : List Value} (q : fs.all (zlow n) = true) : zlowC N (.inr (ci, fs)) := by
  show fs.all (zlow N) = true
  rw [List.all_eq_true] at q ⊢
  exact fun v hv => zlowV_mono h (q v hv)
theorem zltV_low {n : Nat} : ∀ {v : Value}, zltV n v = true → zlow n v = true
  | .ref k, q => by
    obtain ⟨j, hj, e⟩ := zlt_k (n := n) (k := k) q
    exact zlk_e e hj
  | .int _, _ => rfl
  | .long _, _ => rfl
  | .null, _ => rfl
  | .float _, _ => rfl
  | .double _, _ => rfl
  | .retAddr _, _ => rfl
theorem zltC_low {n N : Nat} (h : n ≤ N) : ∀ {x : zE}, zltC n x = true → zlowC N x
  | .inl (_, _, .inl _), _ => trivial
  | .inl (_, _, .inr _), q => by cases q
  | .inr (_, fs), q => by
    have q : fs.all (zltV n) = true := q
    refine zlowC_mono h (n := n) ?_
    rw [List.all_eq_true] at q ⊢
    exact fun v hv => zltV_low (q v hv)
theorem zltL_low {n N : Nat} (h : n ≤ N) : ∀ {l : List zE}, l.all (zltC n) = true → zlowL N l
  | [], _ => trivial
  | x :: l, q => by
    rw [List.all_cons, Bool.and_eq_true] at q
    exact ⟨zltC_low h q.1, zltL_low h q.2⟩
theorem zlowL_app {N : Nat} : ∀ {a b : List zE}, zlowL N a → zlowL N b → zlowL N (a ++ b)
  | [], _, _, h => h
  | _ :: _, _, h1, h2 => ⟨h1.1, zlowL_app h1.2 h2⟩
theorem zlowL_lT {N : Nat} : ∀ (l : List zTx) (o : Nat), o + 5 * l.length ≤ N → zlowL N (lT o l)
  | [], _, _ => trivial
  | x :: l, o, h => by
    rw [List.length_cons] at h
    have hr : ∀ j : Nat, j < 5 → zlow N (.ref (2 * (o + j))) = true := fun j hj => zlk_e rfl (by omega)
    refine ⟨?_, trivial, trivial, trivial, trivial, zlowL_lT l (o + 5) (by omega)⟩
    show ([.int x.1, .ref (2 * (o + 1)), .ref (2 * (o + 2)), .ref (2 * (o + 3)), .ref (2 * (o + 4))] : List Value).all (zlow N) = true
    rw [List.all_eq_true]
    intro v hv
    simp only [List.mem_cons, List.not_mem_nil, or_false] at hv
    rcases hv with rfl | rfl | rfl | rfl | rfl
    · rfl
    · exact hr 1 (by omega)
    · exact hr 2 (by omega)
    · exact hr 3 (by omega)
    · exact hr 4 (by omega)
section
variable {c d k : zCart} {r tr kr : zRow} {rd rd2 : zRd} {n : Nat} {lw kl ik : Int32} {rj : zRj} {s0 s1 s2 s3 : zSh} {fv fv2 : Nat → Int32} {ar ar2 : Nat → fI} {TS : List zTx} {Ps : Nat → zP}
theorem zlowL_lB {N : Nat} {tc : Int32} (hN : 81 + 5 * n ≤ N) (hn : 0 < n) : zlowL N (lB c d k r tr kr rd (2 * 81) (tgW 81 n) tc lw kl ik (303, 305, rj) s0 s1 s2 s3) := by
  refine ⟨zlowC_mono (n := 82) (by omega) rfl, zlowL_app (zltL_low (n := 51) (by omega) rfl) ⟨fun i k h => ?_, zlowL_app ⟨zlowC_mono (n := 42) (by omega) ?_, trivial, trivial, trivial⟩ ⟨fun i k h => ?_, zltL_low (n := 51) (by omega) rfl⟩⟩⟩
  · unfold tgW at h
    by_cases hi : i < n
    · rw [if_pos hi] at h
      exact zlk_e (Option.some.inj h).symm (by omega)
    · rw [if_neg hi] at h
      cases h
  · show ([.ref 303, .ref 305, .int rj.1, .long rj.2.1, .int rj.2.2.1, .ref 80, .ref 82, .int rj.2.2.2.2.2.1, .int rj.2.2.2.2.2.2.1, .int rj.2.2.2.2.2.2.2.1, .int rj.2.2.2.2.2.2.2.2.1, .int rj.2.2.2.2.2.2.2.2.2.1, .int rj.2.2.2.2.2.2.2.2.2.2.1, .int rj.2.2.2.2.2.2.2.2.2.2.2.1, .int rj.2.2.2.2.2.2.2.2.2.2.2.2] : List Value).all (zlow 42) = true
    rfl
  · unfold zsg at h
    cases hb : Nat.ble 4 i with
    | true =>
      rw [hb] at h
      cases h
    | false =>
      rw [hb] at h
      have e : k = 2 * (43 + 2 * i) := (Option.some.inj h).symm
      have h4 : i < 4 := by
        rcases Nat.lt_or_ge i 4 with q | q
        · exact q
        · rw [Nat.ble_eq_true_of_le q] at hb
          cases hb
      exact zlk_e e (by omega)
theorem lW_low {i : Nat} (hn : 0 < n) (hT : TS.length = n) : zlowW (81 + 5 * n) (lW c d k r tr kr rd n lw kl ik rj s0 s1 s2 s3 fv ar TS) (lv0 i) [] := by
  refine ⟨zlowL_app (zlowL_lB (Nat.le_refl _) hn) (zlowL_app (zltL_low (n := 81) (by omega) rfl) (zlowL_lT TS 81 (by omega))), ?_, rfl⟩
  rw [List.all_eq_true]
  intro q hq
  have h := List.all_eq_true.mp (show (lv0 i).all (fun q => zlow 82 q.2) = true from rfl) q hq
  exact zlowV_mono (n := 82) (by omega) h
theorem mPart.keep {co st co2 st2 : fI} {li part : Nat} {P : List Nat} (hp : part < 3) (h1 : ∀ i, 200 * li ≤ i → i < 200 * li + 200 → co2 i = co i) (h2 : ∀ i, 4 * li ≤ i → i < 4 * li + 4 → st2 i = st i) (h : mPart co st li part P) : mPart co2 st2 li part P := by
  obtain ⟨s0, a1, a2, a3, a4, a5, a6⟩ := h
  refine ⟨s0, by rw [h2 _ (by omega) (by omega)]; exact a1, by rw [h2 _ (by omega) (by omega)]; exact a2, a3, fun k op hk => ?_, a5, a6⟩
  have hl := (List.getElem?_eq_some_iff.mp hk).1
  rw [h1 _ (by omega) (by omega)]
  exact a4 k op hk
theorem mTx.keep {co st co2 st2 : fI} {li : Nat} {P : zP} (h1 : ∀ i, 200 * li ≤ i → i < 200 * li + 200 → co2 i = co i) (h2 : ∀ i, 4 * li ≤ i → i < 4 * li + 4 → st2 i = st i) (h : mTx co st li P) : mTx co2 st2 li P := ⟨h.1, h.2.1.keep (by omega) h1 h2, h.2.2.1.keep (by omega) h1 h2, h.2.2.2.keep (by omega) h1 h2⟩
theorem mTs.keep {n0 : Nat} (q : tK n0 fv ar fv2 ar2) (hn : n ≤ n0) (h : mTs ar Ps n) : mTs ar2 Ps n := fun t ht => (h t ht).keep (fun i _ h2 => q.2.2.1 i (Or.inl (by omega))) (fun i _ h2 => q.2.2.2 i (Or.inl (by omega)))
theorem Rel.tK {m : Nat} {Ps2 : Nat → zP} (h : Rel c k r kr rd lw kl ik s0 s1 s2 s3 fv ar n Ps) (q : tK n fv ar fv2 ar2) (h14 : fv2 14 = nI 0) (hr1 : rd2.1 = rd.1) (hr2 : rd2.2.1 = nI 0) (hr3 : ∃ q0, rd2.2.2.2.2.1 = nI q0) (hm1 : n ≤ m) (hm6 : m ≤ 6) (h17 : fv2 17 = nI m) (hT : mTs ar2 Ps2 m) : Rel c k r kr rd2 lw kl ik s0 s1 s2 s3 fv2 ar2 m Ps2 := by
  obtain ⟨g1, g2, -, -⟩ := q
  have f : ∀ j, (j = 5 ∨ j = 7 ∨ j = 10 ∨ j = 11 ∨ j = 12 ∨ j = 18 ∨ j = 19 ∨ j = 20 ∨ j = 21) → fv2 j = fv j := fun j hj => g1 j (by omega) (by omega) (by omega) (by omega) (by omega) (by omega) (by omega) (by omega) (by omega)
  have a : ∀ j, j ≠ 15 → j ≠ 16 → j ≠ 32 → ar2 j = ar j := g2
  obtain ⟨⟨c1, c2⟩, ⟨sz, r1, r2, r3, r4, r5, r6, r7⟩, ⟨t1, t2, t3⟩, ⟨s1, s2⟩, ⟨i1, i2⟩, x1, x2, x3, ⟨li, x4, x5, x6⟩, x7, x8⟩ := h
  refine ⟨⟨?_, c2⟩, ⟨sz, r1, by rw [f 7 (by omega)]; exact r2, by rw [a 8 (by omega) (by omega) (by omega)]; exact r3, by rw [a 9 (by omega) (by omega) (by omega)]; exact r4, by rw [f 10 (by omega)]; exact r5, by rw [f 11 (by omega)]; exact r6, by rw [f 12 (by omega)]; exact r7⟩, ⟨by rw [hr1, a 13 (by omega) (by omega) (by omega)]; exact t1, ⟨0, by omega, hr2, h14⟩, hr3⟩, ?_, ⟨by rw [f 19 (by omega)]; exact i1, fun hne => ?_⟩, by omega, hm6, h17, ⟨li, by omega, x5, by rw [f 18 (by omega)]; exact x6⟩, hT, by rw [a 31 (by omega) (by omega) (by omega)]; exact x8⟩
  · rw [c1]
    show (ar 0, ar 1, ar 2, ar 3, ar 4, ar 6, fv 5) = (ar2 0, ar2 1, ar2 2, ar2 3, ar2 4, ar2 6, fv2 5)
    rw [a 0 (by omega) (by omega) (by omega), a 1 (by omega) (by omega) (by omega), a 2 (by omega) (by omega) (by omega), a 3 (by omega) (by omega) (by omega), a 4 (by omega) (by omega) (by omega), a 6 (by omega) (by omega) (by omega), f 5 (by omega)]
  · unfold RelS shOk
    rw [a 23 (by omega) (by omega) (by omega), a 24 (by omega) (by omega) (by omega), a 25 (by omega) (by omega) (by omega)]
    exact ⟨s1, s2⟩
  · rw [f 19 (by omega)] at hne
    obtain ⟨od, sz2, li2, i3, i4, i5, i6, i7, i8, i9, i10⟩ := i2 hne
    exact ⟨od, sz2, li2, i3, i4, i5, by rw [f 20 (by omega)]; exact i6, by omega, i8, by rw [f 21 (by omega)]; exact i9, by rw [a 22 (by omega) (by omega) (by omega)]; exact i10⟩
theorem mtx_full {t : Nat} (h : Rel c k r kr rd lw kl ik s0 s1 s2 s3 fv ar n Ps) (h14 : fv 14 = nI t) (ht : t ≤ 160) (hn : n = 6) : ∀ Q7 : Option Value → List zE → Prop, (∀ (fv2 : Nat → Int32) (ar2 : Nat → fI), Rel c k r kr rd lw kl ik s0 s1 s2 s3 fv2 ar2 n Ps → Q7 (some (.int (-4))) (pM fv2 ar2)) → T7_text [.ref 0] (pM fv ar) Q7 := fun Q7 hq =>
  ⟨fv, ar, n, t, h.2.2.2.2.2.2.2.1, by omega, h14, ht, rfl, rfl, fun _ => hq fv ar h, fun b hb => absurd hb (by omega), fun o1 o2 o3 hb => absurd hb (by omega)⟩
theorem mtx_bad {t : Nat} {num : Int32} {Rr : zS × zS × zS × zS} (h : Rel c k r kr rd lw kl ik s0 s1 s2 s3 fv ar n Ps) (h14 : fv 14 = nI t) (ht : t ≤ 160) (hn : n < 6) (eR : Rr = qFF (ar 13) t num) (hf : 0 ≤ Rr.2.2.2.2.2.2.2.1) (hr1 : rd2.1 = rd.1) (hr2 : rd2.2.1 = nI 0) (hr3 : ∃ q0, rd2.2.2.2.2.1 = nI q0) : ∀ Q7 : Option Value → List zE → Prop, (∀ (fv2 : Nat → Int32) (ar2 : Nat → fI), Rel c k r kr rd2 lw kl ik s0 s1 s2 s3 fv2 ar2 n Ps → Q7 (some (.int (-100 - Rr.2.2.2.2.2.2.2.1))) (pM fv2 ar2)) → T7_text [.ref 0] (pM fv ar) Q7 := by
  subst eR
  intro Q7 hq
  obtain ⟨hn1, hn6, h17, hli, hmT, hwo⟩ := id h.2.2.2.2.2
  obtain ⟨b, b1, b2, b3⟩ : ∃ b, (qFF (ar 13) t num).2.2.2.2.2.2.2.1 = nI b ∧ b ≤ t ∧ txF (ar 31) (ar 13) t = .inl b := by
    rcases ps_ok (num := num) hwo ht with hx | ⟨N1, N2, N3, c1, -⟩
    · exact hx
    · rw [c1] at hf
      exact absurd hf (by decide)
  rw [b1] at hq
  refine ⟨fv, ar, n, t, h17, by omega, h14, ht, rfl, rfl, fun e => absurd e (by omega), fun b' _ hb' fv2 ar2 q g17 g14 => ?_, fun o1 o2 o3 _ ho => ?_⟩
  · rw [b3] at hb'
    cases hb'
    exact hq fv2 ar2 (h.tK q g14 hr1 hr2 hr3 (Nat.le_refl n) hn6 g17 (hmT.keep q (Nat.le_refl n)))
  · rw [b3] at ho
    cases ho
theorem mtx_new {t : Nat} {num : Int32} {Rr : zS × zS × zS × zS} {cod2 ed eds : fI} (h : Rel c k r kr rd lw kl ik s0 s1 s2 s3 fv ar n Ps) (h14 : fv 14 = nI t) (ht : t ≤ 160) (hn : n < 6) (eR : Rr = qFF (ar 13) t num) (hf : ¬ 0 ≤ Rr.2.2.2.2.2.2.2.1) (hr : rdI t Rr.2.2.2 cod2) (hed : ed = upd (upd (upd eds 0 (nI Rr.1.2.2.2.2.2.length)) 1 (nI Rr.2.1.2.2.2.2.2.length)) 2 (nI Rr.2.2.1.2.2.2.2.2.length)) (hr1 : rd2.1 = rd.1) (hr2 : rd2.2.1 = nI 0) (hr3 : ∃ q0, rd2.2.2.2.2.1 = nI q0) : ∀ Q7 : Option Value → List zE → Prop, (∀ (fv2 : Nat → Int32) (ar2 : Nat → fI), (∃ P : zP, tTx (bI (hasT cod2 Rr.2.2.2.2.2.2.2.2.length)) Rr.2.2.2.2.2.2.2.2.length cod2 ed P ∧ Rel c k r kr rd2 lw kl ik s0 s1 s2 s3 fv2 ar2 (n + 1) (fun u => if u = n then P else Ps u)) → Q7 (some (.int (nI n))) (pM fv2 ar2)) → T7_text [.ref 0] (pM fv ar) Q7 := by
  subst eR
  intro Q7 hq
  obtain ⟨hn1, hn6, h17, hli, hmT, hwo⟩ := id h.2.2.2.2.2
  refine ⟨fv, ar, n, t, h17, by omega, h14, ht, rfl, rfl, fun e => absurd e (by omega), fun b' _ hb' => ?_, fun o1 o2 o3 _ ho fv2 ar2 q g17 g14 w0 w1 w2 w3 w4 w5 => ?_⟩
  · obtain ⟨P, p1, p2, p3, e, -⟩ := tx_both (co := ar 15) (st := ar 16) (li := n) hwo ht hn hf hr hed
    rw [hb'] at e
    cases e
  · obtain ⟨P, p1, p2, p3, e, hP, hM⟩ := tx_both (co := ar2 15) (st := ar2 16) (li := n) hwo ht hn hf hr hed
    rw [ho] at e
    cases e
    have hM := hM ⟨w0, w1, w2, w3, w4, w5⟩
    refine hq fv2 ar2 ⟨P, hP, h.tK q g14 hr1 hr2 hr3 (Nat.le_succ n) (by omega) g17 (fun u hu => ?_)⟩
    show mTx (ar2 15) (ar2 16) u (if u = n then P else Ps u)
    by_cases e : u = n
    · rw [if_pos e, e]
      exact hM
    · rw [if_neg e]
      exact (hmT.keep q (Nat.le_refl n)) u (by omega)
theorem TSok.snoc {x : zTx} {P : zP} (h : TSok TS n Ps) (hx : tTx x.1 x.2.1 x.2.2.1 x.2.2.2.1 P) : TSok (TS ++ [x]) (n + 1) (fun u => if u = n then P else Ps u) := by
  obtain ⟨h1, h2⟩ := h
  refine ⟨by rw [List.length_append, h1]; rfl, fun u hu => ?_⟩
  by_cases e : u = n
  · subst e
    refine ⟨x, ?_, ?_⟩
    · rw [List.getElem?_append_right (by omega), h1, Nat.sub_self]
      rfl
    · show tTx _ _ _ _ (if u = u then P else Ps u)
      rw [if_pos rfl]
      exact hx
  · obtain ⟨y, hy, hT⟩ := h2 u (by omega)
    refine ⟨y, ?_, ?_⟩
    · rw [List.getElem?_append_left (by omega)]
      exact hy
    · show tTx _ _ _ _ (if u = n then P else Ps u)
      rw [if_neg e]
      exact hT
variable {l : Launch} {b0 L : Nat} {xs : Nat → Int32} {nc ns i : Nat}
theorem lc_2b {v : Int32} {RR : (Nat → Int32) → (Nat → fI) → Prop} (hnc : nc ≤ 600000) (hns : ns ≤ 7302250) (hT : ∀ Q7 : Option Value → List zE → Prop, (∀ (fv2 : Nat → Int32) (ar2 : Nat → fI), RR fv2 ar2 → Q7 (some (.int v)) (pM fv2 ar2)) → T7_text [.ref 0] (pM fv ar) Q7) (h : ∀ (fv2 : Nat → Int32) (ar2 : Nat → fI), RR fv2 ar2 → VL l b0 L xs nc ns 1635 (lv0 i) [] (lW c d k r tr kr rd n lw kl ik rj s0 s1 s2 s3 fv2 ar2 TS)) : VL l b0 L xs nc ns 334 (lv0 i) [.int v] (lW c d k r tr kr rd n lw kl ik rj s0 s1 s2 s3 fv ar TS) := by
  refine V.gl 40 [] ?_
  refine V.lcM (lB_len (c := c) (d := d) (k := k) (r := r) (tr := tr) (kr := kr) (rd := rd) (ft := 2 * 81) (tg := tgW 81 n) (tc := nI n) (lw := lw) (kl := kl) (ik := ik) (ri := (303, 305, rj)) (s0 := s0) (s1 := s1) (s2 := s2) (s3 := s3)) (C2 := lT 81 TS) rfl lL_27 (c7_text l) (by decide) (by decide) hnc hns [] rfl rfl rfl [.int v] rfl rfl rfl hT (fun fv2 ar2 hr => ?_)
  refine V.gl 40 [1635] ?_
  exact And.intro (fun _ => h fv2 ar2 hr) (fun q => absurd rfl q)
end
