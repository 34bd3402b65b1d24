/-! ===== a call with one text of many; laws ===== -/
section
variable {l : Launch} {M M' : zM} {b : Bool} {hs0 hs : List zE} {R : Room} {F : zF} {nc ns pc idx nx tg d' mc' ms' n2 : Nat} {T : zT} {lv : zL} {st rest : List Value}
abbrev eW (N a b o n li : Nat) : Nat → Nat := ze N (csX (o + 5 * li) 5) (dlW a b o n)
theorem zpr_rev (e : Nat → Nat) {as : List Value} (h : as.all zpr = true) : as.map (zrv e) = as := zpr_map e h
theorem V.xcall (hM : zmok M) (hat : zins M pc = some (.invokevirtual idx, nx, tg)) (hlk : zlV (zy M).cls idx M' n2) (hC : Ct l M' false d' mc' ms' T) (hR : (Nat.ble (d' + 1) R.frames && Nat.ble (8 + (zmax M' + 11) + 48 * d') R.locals && (Nat.ble (nc + mc') R.cells && Nat.ble (ns + ms') R.slots)) = true) {c d k : zCart} {r tr kr : zRow} {rd : zRd} {tc lw kl ik : Int32} {ri : zRi} {s0 s1 s2 s3 : zSh} {o n li : Nat} {B : List zE} {TA TB : List zTx} {tx : zTx} (hB : o = 51 + B.length) (hTA : TA.length = li) (hTS : (TA ++ tx :: TB).length = n) (hw : hs = lB c d k r tr kr rd (2 * o) (tgW o n) tc lw kl ik ri s0 s1 s2 s3 ++ (B ++ lT o (TA ++ tx :: TB))) (as : List Value) (has : as.all zpr = true) (rest : List Value) (hn : as.length = n2) (hqc : RX6 = (zy M').cls) (hst : st = as.reverse ++ .ref 0 :: rest) (hW : Nat.ble ((rest.map fun v => v.category).sum) 8 = true) (hT : ∀ Q2 : Option Value → List zE → Prop, (∀ (c2 d2 k2 : zCart) (r2 tr2 kr2 : zRow) (rd2 : zRd) (lw2 kl2 ik2 : Int32) (ri2 : zRi) (s02 s12 s22 s32 : zSh) (nm sk : fI) (v : Option Value), V l M b hs0 R F (nc + mc') (ns + ms') nx lv ((v.map (zrv (eW (o + 5 * n) ri.1 ri.2.1 o n li))).toList ++ rest) (lB c2 d2 k2 r2 tr2 kr2 rd2 (2 * o) (tgW o n) tc lw2 kl2 ik2 (eW (o + 5 * n) ri.1 ri.2.1 o n li ri2.1, eW (o + 5 * n) ri.1 ri.2.1 o n li ri2.2.1, ri2.2.2) s02 s12 s22 s32 ++ (B ++ lT o (TA ++ txS tx nm sk :: TB))) → Q2 v (pX c2 d2 k2 r2 tr2 kr2 rd2 (ftC li) (tgC li n) tc lw2 kl2 ik2 ri2 s02 s12 s22 s32 (txS tx nm sk))) → T (.ref 0 :: as) (pX c d k r tr kr rd (ftC li) (tgC li n) tc lw kl ik (101, 103, ri.2.2) s0 s1 s2 s3 tx) Q2) : V l M b hs0 R F nc ns pc lv st hs := by
  subst hTA
  rw [List.length_append, List.length_cons] at hTS
  have hn0 : 0 < n := by omega
  have e0 : eW (o + 5 * n) ri.1 ri.2.1 o n TA.length 0 = 0 := eW_1 (j := 0) (by omega)
  have lt : ∀ y : zTx, B ++ lT o (TA ++ y :: TB) = (B ++ lT o TA) ++ (pTextT (o + 5 * TA.length) y ++ lT (o + 5 * TA.length + 5) TB) := fun y => by
    rw [lT_app, List.append_assoc]
    rfl
  have hN : hs.length = o + 5 * n := by
    rw [hw, List.length_append, lB_len, List.length_append, lT_len, List.length_append, List.length_cons, hB]
    omega
  refine V.cX hM hat hlk hC hR (dlW ri.1 ri.2.1 o n) (dlW_ok _ _ _ _) (o + 5 * n) (o + 5 * TA.length) 5 _ (B ++ lT o TA) (pTextT (o + 5 * TA.length) tx) (lT (o + 5 * TA.length + 5) TB) _ _ ?_ hN lB_len ?_ rfl (lB_in (rj := ri.2.2) rfl hn0) pT_in (.ref 0 :: as) rest (by rw [List.length_cons, hn]) rfl rfl hqc ?_ hW (hT _ (fun c2 d2 k2 r2 tr2 kr2 rd2 lw2 kl2 ik2 ri2 s02 s12 s22 s32 nm sk v hv => ?_))
  · rw [hw, lt]
  · rw [List.length_append, lT_len]
    omega
  · rw [hst, List.map_cons, zpr_rev _ has, List.reverse_cons, List.append_assoc]
    show as.reverse ++ .ref 0 :: rest = as.reverse ++ ([Value.ref (eW (o + 5 * n) ri.1 ri.2.1 o n TA.length 0)] ++ rest)
    rw [e0]
    rfl
  · refine ⟨lB c2 d2 k2 r2 tr2 kr2 rd2 (ftC TA.length) (tgC TA.length n) tc lw2 kl2 ik2 ri2 s02 s12 s22 s32, pTextT 51 (txS tx nm sk), rfl, rfl, rfl, ?_⟩
    rw [lB_call rfl hn0, pT_in, ← lt]
    exact hv
end
def pFO1 (tc lw kl ik : Int32) (c : zCart) (rc rl : Nat) (x : zRj) : List zE :=
  .inr (6, [.ref 201, .ref 203, .ref 205, .ref 207, .ref 209, .ref 211, .ref 213, .ref 215, .ref 217, .int tc, .int lw, .int kl, .int ik, .ref 2, .ref 219]) :: (.inr (2, [.ref rc, .ref rl, .int x.1, .long x.2.1, .int x.2.2.1, .ref 4, .ref 6, .int x.2.2.2.2.2.1, .int x.2.2.2.2.2.2.1, .int x.2.2.2.2.2.2.2.1, .int x.2.2.2.2.2.2.2.2.1, .int x.2.2.2.2.2.2.2.2.2.1, .int x.2.2.2.2.2.2.2.2.2.2.1, .int x.2.2.2.2.2.2.2.2.2.2.2.1, .int x.2.2.2.2.2.2.2.2.2.2.2.2]) :: .inl (0, 2, .inl x.2.2.2.1) :: .inl (0, 4, .inl x.2.2.2.2.1) :: pCart 4 c)
theorem pFO_1 {tc lw kl ik : Int32} {c : zCart} {rc rl : Nat} {x : zRj} {tx : zTx} {s0 : zSh} : pFO tc lw kl ik c rc rl x tx s0 = pFO1 tc lw kl ik c rc rl x ++ (pTextT 11 tx ++ pSheetT 16 s0) := rfl
abbrev csF (q s : Nat) : List Nat := [0, 39, 40, 41, 1, 2, 3, 4, 5, 6, 7] ++ (List.range' q 5 ++ [43 + 2 * s, 44 + 2 * s])
theorem csF_nd {q s : Nat} (hq : 51 ≤ q) (hs : s < 4) : va_nd (csF q s) = true := by
  have h2 : va_nd (List.range' q 5 ++ [43 + 2 * s, 44 + 2 * s]) = true := nd_rng 5 q _ (by
    simp only [va_nd, Bool.and_eq_true, decide_eq_true_eq, List.mem_singleton, List.not_mem_nil, not_false_eq_true, and_true]
    omega) (fun x hx => by
    simp only [List.mem_cons, List.not_mem_nil, or_false] at hx
    omega)
  have h3 : ∀ x ∈ List.range' q 5 ++ [43 + 2 * s, 44 + 2 * s], 43 ≤ x := fun x hx => by
    rcases List.mem_append.mp hx with hx | hx
    · rw [List.mem_range'_1] at hx; omega
    · simp only [List.mem_cons, List.not_mem_nil, or_false] at hx
      omega
  have key : ∀ (A L : List Nat), va_nd A = true → (∀ x ∈ A, x < 43) → va_nd L = true → (∀ x ∈ L, 43 ≤ x) → va_nd (A ++ L) = true := fun A => by
    induction A with
    | nil => intro L _ _ h _; exact h
    | cons a A ih =>
      intro L ha hlt hL hge
      simp only [va_nd, Bool.and_eq_true, decide_eq_true_eq] at ha
      show va_nd (a :: (A ++ L)) = true
      simp only [va_nd, Bool.and_eq_true, decide_eq_true_eq]
      refine ⟨fun hm => ?_, ih L ha.2 (fun x hx => hlt x (List.mem_cons_of_mem _ hx)) hL hge⟩
      rcases List.mem_append.mp hm with hm | hm
      · exact ha.1 hm
      · have h1 := hge a hm
        have h2 := hlt a List.mem_cons_self
        omega
  exact key [0, 39, 40, 41, 1, 2, 3, 4, 5, 6, 7] _ (by decide) (by decide) h2 h3
theorem eF_t {N q s j : Nat} {dl : Nat → Nat} (h : j < 5) : ze N (csF q s) dl (2 * (11 + j)) = 2 * (q + j) := ze_in (by
  have h1 : (csF q s)[11 + j]? = (List.range' q 5 ++ [43 + 2 * s, 44 + 2 * s])[11 + j - 11]? := List.getElem?_append_right (Nat.le_add_right 11 j)
  rw [h1, Nat.add_sub_cancel_left, List.getElem?_append_left (by rw [List.length_range']; exact h), rng_get 5 q j h])
theorem oI_none {o : Option Nat} (h : o.isNone = true) : oI o = -1 := by
  cases o with
  | none => rfl
  | some j => cases h
theorem oI_some {o : Option Nat} (h : o.isNone = false) (hb : ∀ j, o = some j → j < 2 ^ 31) : ¬ oI o = -1 := by
  cases o with
  | none => cases h
  | some j => exact nI_m1 (hb j rfl)
theorem eW_ab {N a b o n li : Nat} {rj : zRj} : ((eW N a b o n li ((101, 103, rj) : zRi).1, eW N a b o n li ((101, 103, rj) : zRi).2.1, ((101, 103, rj) : zRi).2.2) : zRi) = (a, b, rj) := by
  show ((ze N (csX (o + 5 * li) 5) (dlW a b o n) 101, ze N (csX (o + 5 * li) 5) (dlW a b o n) 103, rj) : zRi) = _
  rw [eW_a, eW_b]
def T6_laws : zT := fun args hs Q => ∃ (c d k : zCart) (r tr kr : zRow) (rd : zRd) (lw kl ik : Int32) (ri : zRi) (s0 s1 s2 s3 : zSh) (TS : List zTx) (n : Nat) (Ps : Nat → zP) (x : Int32), TSok TS n Ps ∧ 0 < n ∧ n ≤ 6 ∧ kOk c ∧ (∀ s, s < 4 → ∃ m, m ≤ 40 ∧ (shW s0 s1 s2 s3 s).2.1 = nI m) ∧ args = [.ref 0, .int x] ∧ hs = lB c d k r tr kr rd (2 * 51) (tgW 51 n) (nI n) lw kl ik ri s0 s1 s2 s3 ++ ([] ++ lT 51 TS) ∧ (wiB x 3 = false → Q (some (.int (-2))) hs) ∧ (∀ s, s < 4 → x = nI s → ¬ flW (shW s0 s1 s2 s3 s).1 (shW s0 s1 s2 s3 s).2.1 = 0 → Q (some (.int (flW (shW s0 s1 s2 s3 s).1 (shW s0 s1 s2 s3 s).2.1))) hs) ∧ (∀ s m, s < 4 → x = nI s → flW (shW s0 s1 s2 s3 s).1 (shW s0 s1 s2 s3 s).2.1 = 0 → m ≤ 30 → (shW s0 s1 s2 s3 s).2.1 = nI m → ∀ r0 : Int32, r0 = btF (fun t => foB c (Ps t) (shW s0 s1 s2 s3 s).2.2 m) n → ∀ ri' TS', TSok TS' n Ps → Q (some (.int r0)) (lB c d k r tr kr rd (2 * 51) (tgW 51 n) (nI n) lw kl ik ri' s0 s1 s2 s3 ++ ([] ++ lT 51 TS')))
set_option maxHeartbeats 8000000 in
set_option maxRecDepth 4000 in
theorem c6_laws (l : Launch) : Ct l mX6_laws false 8 0 0 T6_laws := by
  refine Ct.intro mX6_laws_ok ?_
  rintro args hs Q ⟨c, d, k, r, tr, kr, rd, lw, kl, ik, ri, s0, s1, s2, s3, TS, n, Ps, x, hTS, hn0, hn6, hok, hsh, rfl, rfl, h0, h1, h2⟩
  refine ⟨Nat.le_of_ble_eq_true rfl, ?_⟩
  obtain ⟨TA, tx, TB, eTS, hl0, hT0, hup0⟩ := TSok_split hTS hn0
  obtain ⟨S, hS⟩ : ∃ S, lB c d k r tr kr rd (2 * 51) (tgW 51 n) (nI n) lw kl ik ri s0 s1 s2 s3 ++ ([] ++ lT 51 TS) = S := ⟨_, rfl⟩
  refine V.s0 hS ?_
  rw [hS] at h0 h1
  refine V.g2 60 [12, 17, 43] mX6_laws_ok rfl ?_
  refine V.xcall (M' := mX6_refusalOfFilm) (c := c) (d := d) (k := k) (r := r) (tr := tr) (kr := kr) (rd := rd) (tc := nI n) (lw := lw) (kl := kl) (ik := ik) (s0 := s0) (s1 := s1) (s2 := s2) (s3 := s3) (n := n) (ri := ri) (TA := TA) (tx := tx) (TB := TB) (o := 51) (B := []) (li := 0) mX6_laws_ok rfl lX6_260 (c6_refusalOfFilm l) rfl rfl hl0 (by rw [← eTS, hTS.1]) (by rw [← eTS]) [.int x] rfl [] rfl rfl rfl rfl (fun Q2 hQ => ⟨c, d, k, r, tr, kr, rd, _, _, _, lw, kl, ik, _, s0, s1, s2, s3, tx, x, rfl, rfl, fun hb => hQ c d k r tr kr rd lw kl ik _ s0 s1 s2 s3 tx.2.2.2.2.1 tx.2.2.2.2.2 _ ?_, fun s hs4 ex rr hrr => hQ c d k r tr kr rd lw kl ik _ s0 s1 s2 s3 tx.2.2.2.2.1 tx.2.2.2.2.2 _ ?_⟩)
  · rw [eW_ab]
    refine V.nm [(0, .ref 0), (1, .int x)] [.int (-2)] S rfl rfl (by rw [← hS, eTS]) ?_
    refine V.g2 60 [12, 17, 43] mX6_laws_ok rfl ?_
    refine And.intro (fun (e : (-2) = (0 : Int32)) => absurd e (by decide)) (fun (e : ¬ (-2) = (0 : Int32)) => ?_)
    exact ⟨_, zsim_rfl _, h0 hb⟩
  · rw [eW_ab]
    subst ex
    refine V.nm [(0, .ref 0), (1, .int (nI s))] [.int rr] (lB c d k r tr kr rd (2 * 51) (tgW 51 n) (nI n) lw kl ik ri s0 s1 s2 s3 ++ ([] ++ lT 51 TS)) rfl rfl (by rw [eTS]) ?_
    refine V.g2 60 [12, 17, 43] mX6_laws_ok rfl ?_
    refine And.intro (fun (e : rr = (0 : Int32)) => ?_) (fun (e : ¬ rr = (0 : Int32)) => ?_)
    rotate_left
    · have h1 := h1 s hs4 rfl (by rw [← hrr]; exact e)
      rw [← hrr, ← hS] at h1
      exact ⟨_, zsim_rfl _, h1⟩
    have hf := hrr.symm.trans e
    obtain ⟨m, hm30, hsz⟩ := flW_m (hsh s hs4) hf
    have h9 := h2 s m hs4 rfl hf hm30 hsz
    clear h0 h1 h2 hf hrr hsh hup0 hT0
    obtain ⟨G, hG⟩ : ∃ G, G = (fun t => foB c (Ps t) (shW s0 s1 s2 s3 s).2.2 m) := ⟨_, rfl⟩
    rw [← hG] at h9
    refine V.g2 60 [17, 43] mX6_laws_ok rfl ?_
    refine V.nm [(4, .int (zi 0)), (3, .int (zi 0)), (2, .int rr), (0, .ref 0), (1, .int (nI s))] [] (lB c d k r tr kr rd (2 * 51) (tgW 51 n) (nI n) lw kl ik ri s0 s1 s2 s3 ++ ([] ++ lT 51 TS)) rfl rfl rfl ?_
    refine V.kn [4, 3, 0, 1] [(4, .int (zi 0)), (3, .int (zi 0)), (0, .ref 0), (1, .int (nI s))] [] (lB c d k r tr kr rd (2 * 51) (tgW 51 n) (nI n) lw kl ik ri s0 s1 s2 s3 ++ ([] ++ lT 51 TS)) rfl rfl rfl ?_
    rcases (show s = 0 ∨ s = 1 ∨ s = 2 ∨ s = 3 by omega) with rfl | rfl | rfl | rfl
    · have hsz : s0.2.1 = nI m := hsz
      have hG : G = (fun t => foB c (Ps t) s0.2.2 m) := hG
      have loop : ∀ (m2 t : Nat) (x4 x3 : Int32) (ric : zRi) (TSc : List zTx), t + m2 = n → x4 = nI t → x3 = btF G t → TSok TSc n Ps → V l mX6_laws false S (zrm 8 0 0) (zFm false S Q 0 0) 0 0 17 [(4, .int x4), (3, .int x3), (0, .ref 0), (1, .int (nI 0))] [] (lB c d k r tr kr rd (2 * 51) (tgW 51 n) (nI n) lw kl ik ric s0 s1 s2 s3 ++ ([] ++ lT 51 TSc)) := by
        intro m2
        induction m2 with
        | zero =>
          intro t x4 x3 ric TSc ht h4 h3 hc
          refine V.g2 60 [26, 43] mX6_laws_ok rfl ?_
          refine And.intro (fun _ => ?_) (fun q => absurd (show nI n ≤ x4 by rw [h4]; exact nI_le (by omega) (by omega)) q)
          exact ⟨_, zsim_rfl _, h9 x3 (by rw [h3]; congr 1) ric TSc hc⟩
        | succ m2 ih =>
          intro t x4 x3 ric TSc ht h4 h3 hc
          subst h4
          obtain ⟨TA2, tx2, TB2, rfl, hl2, hT2, hup2⟩ := TSok_split hc (show t < n by omega)
          refine V.g2 60 [26, 43] mX6_laws_ok rfl ?_
          refine And.intro (fun q => absurd q (Int32.not_le.mpr (nI_lt (by omega) (by omega)))) (fun _ => ?_)
          refine V.g2 60 [17, 34, 43] mX6_laws_ok rfl ?_
          refine V.xcall (M' := mX6_textNumbered) (c := c) (d := d) (k := k) (r := r) (tr := tr) (kr := kr) (rd := rd) (tc := nI n) (lw := lw) (kl := kl) (ik := ik) (s0 := s0) (s1 := s1) (s2 := s2) (s3 := s3) (n := n) (ri := ric) (TA := TA2) (tx := tx2) (TB := TB2) (o := 51) (B := []) (li := t) mX6_laws_ok rfl lX6_274 (ct_textNumbered l) rfl rfl hl2 hc.1 rfl [.int (nI t)] rfl [.ref 2, .ref 0] rfl rfl rfl rfl (fun Q2 hQ => ⟨c, d, k, r, tr, kr, rd, _, _, _, lw, kl, ik, _, s0, s1, s2, s3, tx2, t, 102, by omega, tgC_li (by omega), rfl, rfl, hQ c d k r tr kr rd lw kl ik _ s0 s1 s2 s3 tx2.2.2.2.2.1 tx2.2.2.2.2.2 _ ?_⟩)
          rw [eW_ab]
          have e102 : eW (51 + 5 * n) ric.1 ric.2.1 51 n t 102 = 2 * (51 + 5 * t) := eW_2 (j := 0) (by omega)
          refine V.nm [(4, .int (nI t)), (3, .int x3), (0, .ref 0), (1, .int (nI 0))] [.ref (2 * (51 + 5 * t)), .ref 2, .ref 0] (lB c d k r tr kr rd (2 * 51) (tgW 51 n) (nI n) lw kl ik ric s0 s1 s2 s3 ++ ([] ++ lT 51 (TA2 ++ tx2 :: TB2))) rfl (by rw [← e102]; rfl) rfl ?_
          refine V.g2 60 [17, 43] mX6_laws_ok rfl ?_
          have er : zrf (zsg (nI 0).toNatClampNeg) = .ref 86 := by rw [pk_cl 0 rfl]; rfl
          refine And.intro (pk_in 0 4 (by omega) rfl) ?_
          refine V.nm [(4, .int (nI t)), (3, .int x3), (0, .ref 0), (1, .int (nI 0))] [.ref 86, .ref (2 * (51 + 5 * t)), .ref 2, .ref 0] (lB c d k r tr kr rd (2 * 51) (tgW 51 n) (nI n) lw kl ik ric s0 s1 s2 s3 ++ lT 51 (TA2 ++ tx2 :: TB2)) rfl (by rw [← er] <;> rfl) rfl ?_
          obtain ⟨Y, hY⟩ : ∃ Y, Y = lT 51 (TA2 ++ tx2 :: TB2) := ⟨_, rfl⟩
          have hlT : ∀ y : zTx, lT 51 (TA2 ++ y :: TB2) = lT 51 TA2 ++ (pTextT (51 + 5 * t) y ++ lT (51 + 5 * t + 5) TB2) := fun y => by
            rw [lT_app, hl2]
            rfl
          rw [← hY]
          obtain ⟨e, he⟩ : ∃ e, e = ze (lB c d k r tr kr rd (2 * 51) (tgW 51 n) (nI n) lw kl ik ric s0 s1 s2 s3 ++ Y).length (csF (51 + 5 * t) 0) (dlF ric.1 ric.2.1 (2 * 51)) := ⟨_, rfl⟩
          have hpT : ∀ y : zTx, (pTextT 11 y).map (zrc e) = pTextT (51 + 5 * t) y := fun y => by
            rw [he]
            exact pT_map (fun j hj => eF_t hj)
          refine V.callV mX6_laws_ok rfl lX6_263 (c6_firstOtherwise l) rfl (dlF ric.1 ric.2.1 (2 * 51)) (dlF_ok ric.1 ric.2.1 (2 * 51)) (csF (51 + 5 * t) 0) (pFO (nI n) lw kl ik c 101 103 ric.2.2 tx2 s0) [.ref 0, .ref 8, .ref 22, .ref 32] [] (fun v wc' => ∃ (r2 te : Int32) (dr nm sk : fI) (hd : Int32) (rr : RT), r2 = oI (foF c (Ps t) s0.2.2 m) ∧ v = some (.int r2) ∧ wc' = pFO (nI n) lw kl ik c 8 22 (0, ric.2.2.2.1, te, haC c, dr, hd, rr) (txS tx2 nm sk) s0) rfl 0 6 rfl rfl rfl rfl rfl rfl (csF_nd (by omega) (by omega)) ?_ ⟨nI n, lw, kl, ik, c, 101, 103, ric.2.2, tx2, s0, Ps t, m, hT2, hok, hm30, hsz, rfl, rfl, fun r2 hr2 te dr hd nm sk rr => ⟨r2, te, dr, nm, sk, hd, rr, hr2, rfl, rfl⟩⟩ (fun v wc' hv => ?_)
          · rw [← he, pFO_1, List.map_append, List.map_append, List.map_append, List.map_append]
            refine congr (congrArg _ ?_) (congr (congrArg _ ?_) ?_)
            · rw [he]; rfl
            · have h9 := zcs_mid (pTextT (51 + 5 * t) tx2) (lB c d k r tr kr rd (2 * 51) (tgW 51 n) (nI n) lw kl ik ric s0 s1 s2 s3 ++ lT 51 TA2) (lT (51 + 5 * t + 5) TB2)
              rw [List.length_append, lB_len, lT_len, hl2, List.append_assoc, ← hlT, ← hY] at h9
              refine h9.trans ?_
              rw [← hpT, List.map_map]
              rfl
            · rw [he]; rfl
          obtain ⟨r2, te, dr, nm, sk, hd, rr, hr2, rfl, rfl⟩ := hv
          refine ⟨rfl, ?_⟩
          have hz : zput (lB c d k r tr kr rd (2 * 51) (tgW 51 n) (nI n) lw kl ik ric s0 s1 s2 s3 ++ Y) (csF (51 + 5 * t) 0) ((pFO (nI n) lw kl ik c 8 22 (0, ric.2.2.2.1, te, haC c, dr, hd, rr) (txS tx2 nm sk) s0).map (zrc e)) = lB c d k r tr kr rd (2 * 51) (tgW 51 n) (nI n) lw kl ik (2, 2 * (51 + 5 * t), (0, ric.2.2.2.1, te, haC c, dr, hd, rr)) s0 s1 s2 s3 ++ ([] ++ lT 51 (TA2 ++ txS tx2 nm sk :: TB2)) := by
            rw [pFO_1, List.map_append, List.map_append, hpT, zput_app _ _ _ rfl, zput_app _ _ _ (by rw [List.length_range']; rfl)]
            have g1 : zput (lB c d k r tr kr rd (2 * 51) (tgW 51 n) (nI n) lw kl ik ric s0 s1 s2 s3 ++ Y) [0, 39, 40, 41, 1, 2, 3, 4, 5, 6, 7] ((pFO1 (nI n) lw kl ik c 8 22 (0, ric.2.2.2.1, te, haC c, dr, hd, rr)).map (zrc e)) = lB c d k r tr kr rd (2 * 51) (tgW 51 n) (nI n) lw kl ik (2, 2 * (51 + 5 * t), (0, ric.2.2.2.1, te, haC c, dr, hd, rr)) s0 s1 s2 s3 ++ Y := by rw [he]; rfl
            have g2 := zput_mid (pTextT (51 + 5 * t) tx2) (pTextT (51 + 5 * t) (txS tx2 nm sk)) (lB c d k r tr kr rd (2 * 51) (tgW 51 n) (nI n) lw kl ik (2, 2 * (51 + 5 * t), (0, ric.2.2.2.1, te, haC c, dr, hd, rr)) s0 s1 s2 s3 ++ lT 51 TA2) (lT (51 + 5 * t + 5) TB2) rfl
            rw [List.length_append, lB_len, lT_len, hl2, List.append_assoc, ← hlT, ← hY, List.append_assoc, ← hlT] at g2
            rw [g1]
            refine (congrArg (fun z => zput z _ _) g2).trans ?_
            rw [he]
            rfl
          refine V.nm [(4, .int (nI t)), (3, .int x3), (0, .ref 0), (1, .int (nI 0))] [.int r2] (lB c d k r tr kr rd (2 * 51) (tgW 51 n) (nI n) lw kl ik (2, 2 * (51 + 5 * t), (0, ric.2.2.2.1, te, haC c, dr, hd, rr)) s0 s1 s2 s3 ++ ([] ++ lT 51 (TA2 ++ txS tx2 nm sk :: TB2))) rfl rfl (by rw [← he]; exact hz) ?_
          refine V.g2 60 [50, 57] mX6_laws_ok rfl ?_
          have hB : G t = (foF c (Ps t) s0.2.2 m).isNone := by rw [hG]; rfl
          cases hg : G t with
          | false =>
            rw [hg] at hB
            have hne : ¬ r2 = -1 := by
              rw [hr2]
              exact oI_some hB.symm (fun j hj => by have := fsF_lt hj; omega)
            refine And.intro (fun _ => ?_) (fun q => absurd q hne)
            refine V.g2 60 [17, 43] mX6_laws_ok rfl ?_
            exact ih (t + 1) _ _ _ _ (by omega) (ninc rfl) (by rw [h3, btF_f hg]) (hup2 nm sk)
          | true =>
            rw [hg] at hB
            have heq : r2 = -1 := by
              rw [hr2]
              exact oI_none hB.symm
            refine And.intro (fun q => absurd heq q) (fun _ => ?_)
            refine V.g2 60 [17, 43] mX6_laws_ok rfl ?_
            exact ih (t + 1) _ _ _ _ (by omega) (ninc rfl) (by rw [h3, btF_t hg]; rfl) (hup2 nm sk)
      exact loop n 0 _ _ _ _ (by omega) rfl rfl hTS
    · have hsz : s1.2.1 = nI m := hsz
      have hG : G = (fun t => foB c (Ps t) s1.2.2 m) := hG
      have loop : ∀ (m2 t : Nat) (x4 x3 : Int32) (ric : zRi) (TSc : List zTx), t + m2 = n → x4 = nI t → x3 = btF G t → TSok TSc n Ps → V l mX6_laws false S (zrm 8 0 0) (zFm false S Q 0 0) 0 0 17 [(4, .int x4), (3, .int x3), (0, .ref 0), (1, .int (nI 1))] [] (lB c d k r tr kr rd (2 * 51) (tgW 51 n) (nI n) lw kl ik ric s0 s1 s2 s3 ++ ([] ++ lT 51 TSc)) := by
        intro m2
        induction m2 with
        | zero =>
          intro t x4 x3 ric TSc ht h4 h3 hc
          refine V.g2 60 [26, 43] mX6_laws_ok rfl ?_
          refine And.intro (fun _ => ?_) (fun q => absurd (show nI n ≤ x4 by rw [h4]; exact nI_le (by omega) (by omega)) q)
          exact ⟨_, zsim_rfl _, h9 x3 (by rw [h3]; congr 1) ric TSc hc⟩
        | succ m2 ih =>
          intro t x4 x3 ric TSc ht h4 h3 hc
          subst h4
          obtain ⟨TA2, tx2, TB2, rfl, hl2, hT2, hup2⟩ := TSok_split hc (show t < n by omega)
          refine V.g2 60 [26, 43] mX6_laws_ok rfl ?_
          refine And.intro (fun q => absurd q (Int32.not_le.mpr (nI_lt (by omega) (by omega)))) (fun _ => ?_)
          refine V.g2 60 [17, 34, 43] mX6_laws_ok rfl ?_
          refine V.xcall (M' := mX6_textNumbered) (c := c) (d := d) (k := k) (r := r) (tr := tr) (kr := kr) (rd := rd) (tc := nI n) (lw := lw) (kl := kl) (ik := ik) (s0 := s0) (s1 := s1) (s2 := s2) (s3 := s3) (n := n) (ri := ric) (TA := TA2) (tx := tx2) (TB := TB2) (o := 51) (B := []) (li := t) mX6_laws_ok rfl lX6_274 (ct_textNumbered l) rfl rfl hl2 hc.1 rfl [.int (nI t)] rfl [.ref 2, .ref 0] rfl rfl rfl rfl (fun Q2 hQ => ⟨c, d, k, r, tr, kr, rd, _, _, _, lw, kl, ik, _, s0, s1, s2, s3, tx2, t, 102, by omega, tgC_li (by omega), rfl, rfl, hQ c d k r tr kr rd lw kl ik _ s0 s1 s2 s3 tx2.2.2.2.2.1 tx2.2.2.2.2.2 _ ?_⟩)
          rw [eW_ab]
          have e102 : eW (51 + 5 * n) ric.1 ric.2.1 51 n t 102 = 2 * (51 + 5 * t) := eW_2 (j := 0) (by omega)
          refine V.nm [(4, .int (nI t)), (3, .int x3), (0, .ref 0), (1, .int (nI 1))] [.ref (2 * (51 + 5 * t)), .ref 2, .ref 0] (lB c d k r tr kr rd (2 * 51) (tgW 51 n) (nI n) lw kl ik ric s0 s1 s2 s3 ++ ([] ++ lT 51 (TA2 ++ tx2 :: TB2))) rfl (by rw [← e102]; rfl) rfl ?_
          refine V.g2 60 [17, 43] mX6_laws_ok rfl ?_
          have er : zrf (zsg (nI 1).toNatClampNeg) = .ref 90 := by rw [pk_cl 1 rfl]; rfl
          refine And.intro (pk_in 1 4 (by omega) rfl) ?_
          refine V.nm [(4, .int (nI t)), (3, .int x3), (0, .ref 0), (1, .int (nI 1))] [.ref 90, .ref (2 * (51 + 5 * t)), .ref 2, .ref 0] (lB c d k r tr kr rd (2 * 51) (tgW 51 n) (nI n) lw kl ik ric s0 s1 s2 s3 ++ lT 51 (TA2 ++ tx2 :: TB2)) rfl (by rw [← er] <;> rfl) rfl ?_
          obtain ⟨Y, hY⟩ : ∃ Y, Y = lT 51 (TA2 ++ tx2 :: TB2) := ⟨_, rfl⟩
          have hlT : ∀ y : zTx, lT 51 (TA2 ++ y :: TB2) = lT 51 TA2 ++ (pTextT (51 + 5 * t) y ++ lT (51 + 5 * t + 5) TB2) := fun y => by
            rw [lT_app, hl2]
            rfl
          rw [← hY]
          obtain ⟨e, he⟩ : ∃ e, e = ze (lB c d k r tr kr rd (2 * 51) (tgW 51 n) (nI n) lw kl ik ric s0 s1 s2 s3 ++ Y).length (csF (51 + 5 * t) 1) (dlF ric.1 ric.2.1 (2 * 51)) := ⟨_, rfl⟩
          have hpT : ∀ y : zTx, (pTextT 11 y).map (zrc e) = pTextT (51 + 5 * t) y := fun y => by
            rw [he]
            exact pT_map (fun j hj => eF_t hj)
          refine V.callV mX6_laws_ok rfl lX6_263 (c6_firstOtherwise l) rfl (dlF ric.1 ric.2.1 (2 * 51)) (dlF_ok ric.1 ric.2.1 (2 * 51)) (csF (51 + 5 * t) 1) (pFO (nI n) lw kl ik c 101 103 ric.2.2 tx2 s1) [.ref 0, .ref 8, .ref 22, .ref 32] [] (fun v wc' => ∃ (r2 te : Int32) (dr nm sk : fI) (hd : Int32) (rr : RT), r2 = oI (foF c (Ps t) s1.2.2 m) ∧ v = some (.int r2) ∧ wc' = pFO (nI n) lw kl ik c 8 22 (0, ric.2.2.2.1, te, haC c, dr, hd, rr) (txS tx2 nm sk) s1) rfl 0 6 rfl rfl rfl rfl rfl rfl (csF_nd (by omega) (by omega)) ?_ ⟨nI n, lw, kl, ik, c, 101, 103, ric.2.2, tx2, s1, Ps t, m, hT2, hok, hm30, hsz, rfl, rfl, fun r2 hr2 te dr hd nm sk rr => ⟨r2, te, dr, nm, sk, hd, rr, hr2, rfl, rfl⟩⟩ (fun v wc' hv => ?_)
          · rw [← he, pFO_1, List.map_append, List.map_append, List.map_append, List.map_append]
            refine congr (congrArg _ ?_) (congr (congrArg _ ?_) ?_)
            · rw [he]; rfl
            · have h9 := zcs_mid (pTextT (51 + 5 * t) tx2) (lB c d k r tr kr rd (2 * 51) (tgW 51 n) (nI n) lw kl ik ric s0 s1 s2 s3 ++ lT 51 TA2) (lT (51 + 5 * t + 5) TB2)
              rw [List.length_append, lB_len, lT_len, hl2, List.append_assoc, ← hlT, ← hY] at h9
              refine h9.trans ?_
              rw [← hpT, List.map_map]
              rfl
            · rw [he]; rfl
          obtain ⟨r2, te, dr, nm, sk, hd, rr, hr2, rfl, rfl⟩ := hv
          refine ⟨rfl, ?_⟩
          have hz : zput (lB c d k r tr kr rd (2 * 51) (tgW 51 n) (nI n) lw kl ik ric s0 s1 s2 s3 ++ Y) (csF (51 + 5 * t) 1) ((pFO (nI n) lw kl ik c 8 22 (0, ric.2.2.2.1, te, haC c, dr, hd, rr) (txS tx2 nm sk) s1).map (zrc e)) = lB c d k r tr kr rd (2 * 51) (tgW 51 n) (nI n) lw kl ik (2, 2 * (51 + 5 * t), (0, ric.2.2.2.1, te, haC c, dr, hd, rr)) s0 s1 s2 s3 ++ ([] ++ lT 51 (TA2 ++ txS tx2 nm sk :: TB2)) := by
            rw [pFO_1, List.map_append, List.map_append, hpT, zput_app _ _ _ rfl, zput_app _ _ _ (by rw [List.length_range']; rfl)]
            have g1 : zput (lB c d k r tr kr rd (2 * 51) (tgW 51 n) (nI n) lw kl ik ric s0 s1 s2 s3 ++ Y) [0, 39, 40, 41, 1, 2, 3, 4, 5, 6, 7] ((pFO1 (nI n) lw kl ik c 8 22 (0, ric.2.2.2.1, te, haC c, dr, hd, rr)).map (zrc e)) = lB c d k r tr kr rd (2 * 51) (tgW 51 n) (nI n) lw kl ik (2, 2 * (51 + 5 * t), (0, ric.2.2.2.1, te, haC c, dr, hd, rr)) s0 s1 s2 s3 ++ Y := by rw [he]; rfl
            have g2 := zput_mid (pTextT (51 + 5 * t) tx2) (pTextT (51 + 5 * t) (txS tx2 nm sk)) (lB c d k r tr kr rd (2 * 51) (tgW 51 n) (nI n) lw kl ik (2, 2 * (51 + 5 * t), (0, ric.2.2.2.1, te, haC c, dr, hd, rr)) s0 s1 s2 s3 ++ lT 51 TA2) (lT (51 + 5 * t + 5) TB2) rfl
            rw [List.length_append, lB_len, lT_len, hl2, List.append_assoc, ← hlT, ← hY, List.append_assoc, ← hlT] at g2
            rw [g1]
            refine (congrArg (fun z => zput z _ _) g2).trans ?_
            rw [he]
            rfl
          refine V.nm [(4, .int (nI t)), (3, .int x3), (0, .ref 0), (1, .int (nI 1))] [.int r2] (lB c d k r tr kr rd (2 * 51) (tgW 51 n) (nI n) lw kl ik (2, 2 * (51 + 5 * t), (0, ric.2.2.2.1, te, haC c, dr, hd, rr)) s0 s1 s2 s3 ++ ([] ++ lT 51 (TA2 ++ txS tx2 nm sk :: TB2))) rfl rfl (by rw [← he]; exact hz) ?_
          refine V.g2 60 [50, 57] mX6_laws_ok rfl ?_
          have hB : G t = (foF c (Ps t) s1.2.2 m).isNone := by rw [hG]; rfl
          cases hg : G t with
          | false =>
            rw [hg] at hB
            have hne : ¬ r2 = -1 := by
              rw [hr2]
              exact oI_some hB.symm (fun j hj => by have := fsF_lt hj; omega)
            refine And.intro (fun _ => ?_) (fun q => absurd q hne)
            refine V.g2 60 [17, 43] mX6_laws_ok rfl ?_
            exact ih (t + 1) _ _ _ _ (by omega) (ninc rfl) (by rw [h3, btF_f hg]) (hup2 nm sk)
          | true =>
            rw [hg] at hB
            have heq : r2 = -1 := by
              rw [hr2]
              exact oI_none hB.symm
            refine And.intro (fun q => absurd heq q) (fun _ => ?_)
            refine V.g2 60 [17, 43] mX6_laws_ok rfl ?_
            exact ih (t + 1) _ _ _ _ (by omega) (ninc rfl) (by rw [h3, btF_t hg]; rfl) (hup2 nm sk)
      exact loop n 0 _ _ _ _ (by omega) rfl rfl hTS
    · have hsz : s2.2.1 = nI m := hsz
      have hG : G = (fun t => foB c (Ps t) s2.2.2 m) := hG
      have loop : ∀ (m2 t : Nat) (x4 x3 : Int32) (ric : zRi) (TSc : List zTx), t + m2 = n → x4 = nI t → x3 = btF G t → TSok TSc n Ps → V l mX6_laws false S (zrm 8 0 0) (zFm false S Q 0 0) 0 0 17 [(4, .int x4), (3, .int x3), (0, .ref 0), (1, .int (nI 2))] [] (lB c d k r tr kr rd (2 * 51) (tgW 51 n) (nI n) lw kl ik ric s0 s1 s2 s3 ++ ([] ++ lT 51 TSc)) := by
        intro m2
        induction m2 with
        | zero =>
          intro t x4 x3 ric TSc ht h4 h3 hc
          refine V.g2 60 [26, 43] mX6_laws_ok rfl ?_
          refine And.intro (fun _ => ?_) (fun q => absurd (show nI n ≤ x4 by rw [h4]; exact nI_le (by omega) (by omega)) q)
          exact ⟨_, zsim_rfl _, h9 x3 (by rw [h3]; congr 1) ric TSc hc⟩
        | succ m2 ih =>
          intro t x4 x3 ric TSc ht h4 h3 hc
          subst h4
          obtain ⟨TA2, tx2, TB2, rfl, hl2, hT2, hup2⟩ := TSok_split hc (show t < n by omega)
          refine V.g2 60 [26, 43] mX6_laws_ok rfl ?_
          refine And.intro (fun q => absurd q (Int32.not_le.mpr (nI_lt (by omega) (by omega)))) (fun _ => ?_)
          refine V.g2 60 [17, 34, 43] mX6_laws_ok rfl ?_
          refine V.xcall (M' := mX6_textNumbered) (c := c) (d := d) (k := k) (r := r) (tr := tr) (kr := kr) (rd := rd) (tc := nI n) (lw := lw) (kl := kl) (ik := ik) (s0 := s0) (s1 := s1) (s2 := s2) (s3 := s3) (n := n) (ri := ric) (TA := TA2) (tx := tx2) (TB := TB2) (o := 51) (B := []) (li := t) mX6_laws_ok rfl lX6_274 (ct_textNumbered l) rfl rfl hl2 hc.1 rfl [.int (nI t)] rfl [.ref 2, .ref 0] rfl rfl rfl rfl (fun Q2 hQ => ⟨c, d, k, r, tr, kr, rd, _, _, _, lw, kl, ik, _, s0, s1, s2, s3, tx2, t, 102, by omega, tgC_li (by omega), rfl, rfl, hQ c d k r tr kr rd lw kl ik _ s0 s1 s2 s3 tx2.2.2.2.2.1 tx2.2.2.2.2.2 _ ?_⟩)
          rw [eW_ab]
          have e102 : eW (51 + 5 * n) ric.1 ric.2.1 51 n t 102 = 2 * (51 + 5 * t) := eW_2 (j := 0) (by omega)
          refine V.nm [(4, .int (nI t)), (3, .int x3), (0, .ref 0), (1, .int (nI 2))] [.ref (2 * (51 + 5 * t)), .ref 2, .ref 0] (lB c d k r tr kr rd (2 * 51) (tgW 51 n) (nI n) lw kl ik ric s0 s1 s2 s3 ++ ([] ++ lT 51 (TA2 ++ tx2 :: TB2))) rfl (by rw [← e102]; rfl) rfl ?_
          refine V.g2 60 [17, 43] mX6_laws_ok rfl ?_
          have er : zrf (zsg (nI 2).toNatClampNeg) = .ref 94 := by rw [pk_cl 2 rfl]; rfl
          refine And.intro (pk_in 2 4 (by omega) rfl) ?_
          refine V.nm [(4, .int (nI t)), (3, .int x3), (0, .ref 0), (1, .int (nI 2))] [.ref 94, .ref (2 * (51 + 5 * t)), .ref 2, .ref 0] (lB c d k r tr kr rd (2 * 51) (tgW 51 n) (nI n) lw kl ik ric s0 s1 s2 s3 ++ lT 51 (TA2 ++ tx2 :: TB2)) rfl (by rw [← er] <;> rfl) rfl ?_
          obtain ⟨Y, hY⟩ : ∃ Y, Y = lT 51 (TA2 ++ tx2 :: TB2) := ⟨_, rfl⟩
          have hlT : ∀ y : zTx, lT 51 (TA2 ++ y :: TB2) = lT 51 TA2 ++ (pTextT (51 + 5 * t) y ++ lT (51 + 5 * t + 5) TB2) := fun y => by
            rw [lT_app, hl2]
            rfl
          rw [← hY]
          obtain ⟨e, he⟩ : ∃ e, e = ze (lB c d k r tr kr rd (2 * 51) (tgW 51 n) (nI n) lw kl ik ric s0 s1 s2 s3 ++ Y).length (csF (51 + 5 * t) 2) (dlF ric.1 ric.2.1 (2 * 51)) := ⟨_, rfl⟩
          have hpT : ∀ y : zTx, (pTextT 11 y).map (zrc e) = pTextT (51 + 5 * t) y := fun y => by
            rw [he]
            exact pT_map (fun j hj => eF_t hj)
          refine V.callV mX6_laws_ok rfl lX6_263 (c6_firstOtherwise l) rfl (dlF ric.1 ric.2.1 (2 * 51)) (dlF_ok ric.1 ric.2.1 (2 * 51)) (csF (51 + 5 * t) 2) (pFO (nI n) lw kl ik c 101 103 ric.2.2 tx2 s2) [.ref 0, .ref 8, .ref 22, .ref 32] [] (fun v wc' => ∃ (r2 te : Int32) (dr nm sk : fI) (hd : Int32) (rr : RT), r2 = oI (foF c (Ps t) s2.2.2 m) ∧ v = some (.int r2) ∧ wc' = pFO (nI n) lw kl ik c 8 22 (0, ric.2.2.2.1, te, haC c, dr, hd, rr) (txS tx2 nm sk) s2) rfl 0 6 rfl rfl rfl rfl rfl rfl (csF_nd (by omega) (by omega)) ?_ ⟨nI n, lw, kl, ik, c, 101, 103, ric.2.2, tx2, s2, Ps t, m, hT2, hok, hm30, hsz, rfl, rfl, fun r2 hr2 te dr hd nm sk rr => ⟨r2, te, dr, nm, sk, hd, rr, hr2, rfl, rfl⟩⟩ (fun v wc' hv => ?_)
          · rw [← he, pFO_1, List.map_append, List.map_append, List.map_append, List.map_append]
            refine congr (congrArg _ ?_) (congr (congrArg _ ?_) ?_)
            · rw [he]; rfl
            · have h9 := zcs_mid (pTextT (51 + 5 * t) tx2) (lB c d k r tr kr rd (2 * 51) (tgW 51 n) (nI n) lw kl ik ric s0 s1 s2 s3 ++ lT 51 TA2) (lT (51 + 5 * t + 5) TB2)
              rw [List.length_append, lB_len, lT_len, hl2, List.append_assoc, ← hlT, ← hY] at h9
              refine h9.trans ?_
              rw [← hpT, List.map_map]
              rfl
            · rw [he]; rfl
          obtain ⟨r2, te, dr, nm, sk, hd, rr, hr2, rfl, rfl⟩ := hv
          refine ⟨rfl, ?_⟩
          have hz : zput (lB c d k r tr kr rd (2 * 51) (tgW 51 n) (nI n) lw kl ik ric s0 s1 s2 s3 ++ Y) (csF (51 + 5 * t) 2) ((pFO (nI n) lw kl ik c 8 22 (0, ric.2.2.2.1, te, haC c, dr, hd, rr) (txS tx2 nm sk) s2).map (zrc e)) = lB c d k r tr kr rd (2 * 51) (tgW 51 n) (nI n) lw kl ik (2, 2 * (51 + 5 * t), (0, ric.2.2.2.1, te, haC c, dr, hd, rr)) s0 s1 s2 s3 ++ ([] ++ lT 51 (TA2 ++ txS tx2 nm sk :: TB2)) := by
            rw [pFO_1, List.map_append, List.map_append, hpT, zput_app _ _ _ rfl, zput_app _ _ _ (by rw [List.length_range']; rfl)]
            have g1 : zput (lB c d k r tr kr rd (2 * 51) (tgW 51 n) (nI n) lw kl ik ric s0 s1 s2 s3 ++ Y) [0, 39, 40, 41, 1, 2, 3, 4, 5, 6, 7] ((pFO1 (nI n) lw kl ik c 8 22 (0, ric.2.2.2.1, te, haC c, dr, hd, rr)).map (zrc e)) = lB c d k r tr kr rd (2 * 51) (tgW 51 n) (nI n) lw kl ik (2, 2 * (51 + 5 * t), (0, ric.2.2.2.1, te, haC c, dr, hd, rr)) s0 s1 s2 s3 ++ Y := by rw [he]; rfl
            have g2 := zput_mid (pTextT (51 + 5 * t) tx2) (pTextT (51 + 5 * t) (txS tx2 nm sk)) (lB c d k r tr kr rd (2 * 51) (tgW 51 n) (nI n) lw kl ik (2, 2 * (51 + 5 * t), (0, ric.2.2.2.1, te, haC c, dr, hd, rr)) s0 s1 s2 s3 ++ lT 51 TA2) (lT (51 + 5 * t + 5) TB2) rfl
            rw [List.length_append, lB_len, lT_len, hl2, List.append_assoc, ← hlT, ← hY, List.append_assoc, ← hlT] at g2
            rw [g1]
            refine (congrArg (fun z => zput z _ _) g2).trans ?_
            rw [he]
            rfl
          refine V.nm [(4, .int (nI t)), (3, .int x3), (0, .ref 0), (1, .int (nI 2))] [.int r2] (lB c d k r tr kr rd (2 * 51) (tgW 51 n) (nI n) lw kl ik (2, 2 * (51 + 5 * t), (0, ric.2.2.2.1, te, haC c, dr, hd, rr)) s0 s1 s2 s3 ++ ([] ++ lT 51 (TA2 ++ txS tx2 nm sk :: TB2))) rfl rfl (by rw [← he]; exact hz) ?_
          refine V.g2 60 [50, 57] mX6_laws_ok rfl ?_
          have hB : G t = (foF c (Ps t) s2.2.2 m).isNone := by rw [hG]; rfl
          cases hg : G t with
          | false =>
            rw [hg] at hB
            have hne : ¬ r2 = -1 := by
              rw [hr2]
              exact oI_some hB.symm (fun j hj => by have := fsF_lt hj; omega)
            refine And.intro (fun _ => ?_) (fun q => absurd q hne)
            refine V.g2 60 [17, 43] mX6_laws_ok rfl ?_
            exact ih (t + 1) _ _ _ _ (by omega) (ninc rfl) (by rw [h3, btF_f hg]) (hup2 nm sk)
          | true =>
            rw [hg] at hB
            have heq : r2 = -1 := by
              rw [hr2]
              exact oI_none hB.symm
            refine And.intro (fun q => absurd heq q) (fun _ => ?_)
            refine V.g2 60 [17, 43] mX6_laws_ok rfl ?_
            exact ih (t + 1) _ _ _ _ (by omega) (ninc rfl) (by rw [h3, btF_t hg]; rfl) (hup2 nm sk)
      exact loop n 0 _ _ _ _ (by omega) rfl rfl hTS
    · have hsz : s3.2.1 = nI m := hsz
      have hG : G = (fun t => foB c (Ps t) s3.2.2 m) := hG
      have loop : ∀ (m2 t : Nat) (x4 x3 : Int32) (ric : zRi) (TSc : List zTx), t + m2 = n → x4 = nI t → x3 = btF G t → TSok TSc n Ps → V l mX6_laws false S (zrm 8 0 0) (zFm false S Q 0 0) 0 0 17 [(4, .int x4), (3, .int x3), (0, .ref 0), (1, .int (nI 3))] [] (lB c d k r tr kr rd (2 * 51) (tgW 51 n) (nI n) lw kl ik ric s0 s1 s2 s3 ++ ([] ++ lT 51 TSc)) := by
        intro m2
        induction m2 with
        | zero =>
          intro t x4 x3 ric TSc ht h4 h3 hc
          refine V.g2 60 [26, 43] mX6_laws_ok rfl ?_
          refine And.intro (fun _ => ?_) (fun q => absurd (show nI n ≤ x4 by rw [h4]; exact nI_le (by omega) (by omega)) q)
          exact ⟨_, zsim_rfl _, h9 x3 (by rw [h3]; congr 1) ric TSc hc⟩
        | succ m2 ih =>
          intro t x4 x3 ric TSc ht h4 h3 hc
          subst h4
          obtain ⟨TA2, tx2, TB2, rfl, hl2, hT2, hup2⟩ := TSok_split hc (show t < n by omega)
          refine V.g2 60 [26, 43] mX6_laws_ok rfl ?_
          refine And.intro (fun q => absurd q (Int32.not_le.mpr (nI_lt (by omega) (by omega)))) (fun _ => ?_)
          refine V.g2 60 [17, 34, 43] mX6_laws_ok rfl ?_
          refine V.xcall (M' := mX6_textNumbered) (c := c) (d := d) (k := k) (r := r) (tr := tr) (kr := kr) (rd := rd) (tc := nI n) (lw := lw) (kl := kl) (ik := ik) (s0 := s0) (s1 := s1) (s2 := s2) (s3 := s3) (n := n) (ri := ric) (TA := TA2) (tx := tx2) (TB := TB2) (o := 51) (B := []) (li := t) mX6_laws_ok rfl lX6_274 (ct_textNumbered l) rfl rfl hl2 hc.1 rfl [.int (nI t)] rfl [.ref 2, .ref 0] rfl rfl rfl rfl (fun Q2 hQ => ⟨c, d, k, r, tr, kr, rd, _, _, _, lw, kl, ik, _, s0, s1, s2, s3, tx2, t, 102, by omega, tgC_li (by omega), rfl, rfl, hQ c d k r tr kr rd lw kl ik _ s0 s1 s2 s3 tx2.2.2.2.2.1 tx2.2.2.2.2.2 _ ?_⟩)
          rw [eW_ab]
          have e102 : eW (51 + 5 * n) ric.1 ric.2.1 51 n t 102 = 2 * (51 + 5 * t) := eW_2 (j := 0) (by omega)
          refine V.nm [(4, .int (nI t)), (3, .int x3), (0, .ref 0), (1, .int (nI 3))] [.ref (2 * (51 + 5 * t)), .ref 2, .ref 0] (lB c d k r tr kr rd (2 * 51) (tgW 51 n) (nI n) lw kl ik ric s0 s1 s2 s3 ++ ([] ++ lT 51 (TA2 ++ tx2 :: TB2))) rfl (by rw [← e102]; rfl) rfl ?_
          refine V.g2 60 [17, 43] mX6_laws_ok rfl ?_
          have er : zrf (zsg (nI 3).toNatClampNeg) = .ref 98 := by rw [pk_cl 3 rfl]; rfl
          refine And.intro (pk_in 3 4 (by omega) rfl) ?_
          refine V.nm [(4, .int (nI t)), (3, .int x3), (0, .ref 0), (1, .int (nI 3))] [.ref 98, .ref (2 * (51 + 5 * t)), .ref 2, .ref 0] (lB c d k r tr kr rd (2 * 51) (tgW 51 n) (nI n) lw kl ik ric s0 s1 s2 s3 ++ lT 51 (TA2 ++ tx2 :: TB2)) rfl (by rw [← er] <;> rfl) rfl ?_
          obtain ⟨Y, hY⟩ : ∃ Y, Y = lT 51 (TA2 ++ tx2 :: TB2) := ⟨_, rfl⟩
          have hlT : ∀ y : zTx, lT 51 (TA2 ++ y :: TB2) = lT 51 TA2 ++ (pTextT (51 + 5 * t) y ++ lT (51 + 5 * t + 5) TB2) := fun y => by
            rw [lT_app, hl2]
            rfl
          rw [← hY]
          obtain ⟨e, he⟩ : ∃ e, e = ze (lB c d k r tr kr rd (2 * 51) (tgW 51 n) (nI n) lw kl ik ric s0 s1 s2 s3 ++ Y).length (csF (51 + 5 * t) 3) (dlF ric.1 ric.2.1 (2 * 51)) := ⟨_, rfl⟩
          have hpT : ∀ y : zTx, (pTextT 11 y).map (zrc e) = pTextT (51 + 5 * t) y := fun y => by
            rw [he]
            exact pT_map (fun j hj => eF_t hj)
          refine V.callV mX6_laws_ok rfl lX6_263 (c6_firstOtherwise l) rfl (dlF ric.1 ric.2.1 (2 * 51)) (dlF_ok ric.1 ric.2.1 (2 * 51)) (csF (51 + 5 * t) 3) (pFO (nI n) lw kl ik c 101 103 ric.2.2 tx2 s3) [.ref 0, .ref 8, .ref 22, .ref 32] [] (fun v wc' => ∃ (r2 te : Int32) (dr nm sk : fI) (hd : Int32) (rr : RT), r2 = oI (foF c (Ps t) s3.2.2 m) ∧ v = some (.int r2) ∧ wc' = pFO (nI n) lw kl ik c 8 22 (0, ric.2.2.2.1, te, haC c, dr, hd, rr) (txS tx2 nm sk) s3) rfl 0 6 rfl rfl rfl rfl rfl rfl (csF_nd (by omega) (by omega)) ?_ ⟨nI n, lw, kl, ik, c, 101, 103, ric.2.2, tx2, s3, Ps t, m, hT2, hok, hm30, hsz, rfl, rfl, fun r2 hr2 te dr hd nm sk rr => ⟨r2, te, dr, nm, sk, hd, rr, hr2, rfl, rfl⟩⟩ (fun v wc' hv => ?_)
          · rw [← he, pFO_1, List.map_append, List.map_append, List.map_append, List.map_append]
            refine congr (congrArg _ ?_) (congr (congrArg _ ?_) ?_)
            · rw [he]; rfl
            · have h9 := zcs_mid (pTextT (51 + 5 * t) tx2) (lB c d k r tr kr rd (2 * 51) (tgW 51 n) (nI n) lw kl ik ric s0 s1 s2 s3 ++ lT 51 TA2) (lT (51 + 5 * t + 5) TB2)
              rw [List.length_append, lB_len, lT_len, hl2, List.append_assoc, ← hlT, ← hY] at h9
              refine h9.trans ?_
              rw [← hpT, List.map_map]
              rfl
            · rw [he]; rfl
          obtain ⟨r2, te, dr, nm, sk, hd, rr, hr2, rfl, rfl⟩ := hv
          refine ⟨rfl, ?_⟩
          have hz : zput (lB c d k r tr kr rd (2 * 51) (tgW 51 n) (nI n) lw kl ik ric s0 s1 s2 s3 ++ Y) (csF (51 + 5 * t) 3) ((pFO (nI n) lw kl ik c 8 22 (0, ric.2.2.2.1, te, haC c, dr, hd, rr) (txS tx2 nm sk) s3).map (zrc e)) = lB c d k r tr kr rd (2 * 51) (tgW 51 n) (nI n) lw kl ik (2, 2 * (51 + 5 * t), (0, ric.2.2.2.1, te, haC c, dr, hd, rr)) s0 s1 s2 s3 ++ ([] ++ lT 51 (TA2 ++ txS tx2 nm sk :: TB2)) := by
            rw [pFO_1, List.map_append, List.map_append, hpT, zput_app _ _ _ rfl, zput_app _ _ _ (by rw [List.length_range']; rfl)]
            have g1 : zput (lB c d k r tr kr rd (2 * 51) (tgW 51 n) (nI n) lw kl ik ric s0 s1 s2 s3 ++ Y) [0, 39, 40, 41, 1, 2, 3, 4, 5, 6, 7] ((pFO1 (nI n) lw kl ik c 8 22 (0, ric.2.2.2.1, te, haC c, dr, hd, rr)).map (zrc e)) = lB c d k r tr kr rd (2 * 51) (tgW 51 n) (nI n) lw kl ik (2, 2 * (51 + 5 * t), (0, ric.2.2.2.1, te, haC c, dr, hd, rr)) s0 s1 s2 s3 ++ Y := by rw [he]; rfl
            have g2 := zput_mid (pTextT (51 + 5 * t) tx2) (pTextT (51 + 5 * t) (txS tx2 nm sk)) (lB c d k r tr kr rd (2 * 51) (tgW 51 n) (nI n) lw kl ik (2, 2 * (51 + 5 * t), (0, ric.2.2.2.1, te, haC c, dr, hd, rr)) s0 s1 s2 s3 ++ lT 51 TA2) (lT (51 + 5 * t + 5) TB2) rfl
            rw [List.length_append, lB_len, lT_len, hl2, List.append_assoc, ← hlT, ← hY, List.append_assoc, ← hlT] at g2
            rw [g1]
            refine (congrArg (fun z => zput z _ _) g2).trans ?_
            rw [he]
            rfl
          refine V.nm [(4, .int (nI t)), (3, .int x3), (0, .ref 0), (1, .int (nI 3))] [.int r2] (lB c d k r tr kr rd (2 * 51) (tgW 51 n) (nI n) lw kl ik (2, 2 * (51 + 5 * t), (0, ric.2.2.2.1, te, haC c, dr, hd, rr)) s0 s1 s2 s3 ++ ([] ++ lT 51 (TA2 ++ txS tx2 nm sk :: TB2))) rfl rfl (by rw [← he]; exact hz) ?_
          refine V.g2 60 [50, 57] mX6_laws_ok rfl ?_
          have hB : G t = (foF c (Ps t) s3.2.2 m).isNone := by rw [hG]; rfl
          cases hg : G t with
          | false =>
            rw [hg] at hB
            have hne : ¬ r2 = -1 := by
              rw [hr2]
              exact oI_some hB.symm (fun j hj => by have := fsF_lt hj; omega)
            refine And.intro (fun _ => ?_) (fun q => absurd q hne)
            refine V.g2 60 [17, 43] mX6_laws_ok rfl ?_
            exact ih (t + 1) _ _ _ _ (by omega) (ninc rfl) (by rw [h3, btF_f hg]) (hup2 nm sk)
          | true =>
            rw [hg] at hB
            have heq : r2 = -1 := by
              rw [hr2]
              exact oI_none hB.symm
            refine And.intro (fun q => absurd heq q) (fun _ => ?_)
            refine V.g2 60 [17, 43] mX6_laws_ok rfl ?_
            exact ih (t + 1) _ _ _ _ (by omega) (ninc rfl) (by rw [h3, btF_t hg]; rfl) (hup2 nm sk)
      exact loop n 0 _ _ _ _ (by omega) rfl rfl hTS
