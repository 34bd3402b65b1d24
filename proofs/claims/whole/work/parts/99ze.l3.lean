/-! ===== the law: its rules, its world ===== -/
def lwF (b0 L : Nat) (xs : Nat → Int32) : zF := fun _ _ ad0 s args below t => (ad0 301 = b0 ∧ args = #[Value.ref b0] ∧ va_X b0 L xs s s.heap ∧ b0 < s.heap.size) → lw_Z below #[Value.ref b0] s t
abbrev VL (l : Launch) (b0 L : Nat) (xs : Nat → Int32) (nc ns pc : Nat) (lv : zL) (st : List Value) (hs : List zE) : Prop := V l mLw true [] room_1 (lwF b0 L xs) nc ns pc lv st hs
theorem lwF_re (b0 L : Nat) (xs : Nat → Int32) (D : va_G) (tc : Nat → ClassId) (ad0 ad1 : Nat → Nat) (s : State) (args : Array Value) (below : List Frame) (h : ad1 301 = ad0 301) : lwF b0 L xs D tc ad1 s args below = lwF b0 L xs D tc ad0 s args below := by
  funext t
  unfold lwF
  rw [h]
theorem zA_nil {tc : Nat → ClassId} {ad0 : Nat → Nat} {s : State} {q : Nat} (h : zA tc ad0 [] s q) : s.heap.size ≤ q := by
  rcases h with ⟨k, e, hk⟩ | h
  · exact absurd hk (by simp [zw])
  · exact h
section
variable {l : Launch} {b0 L : Nat} {xs : Nat → Int32} {nc ns pc nx tg : Nat} {lv : zL} {st rest : List Value} {hs : List zE}
theorem V.gl (n : Nat) (stops : List Nat) (h : zrun2 mLw (fun _ _ => False) (VL l b0 L xs nc ns) stops n pc lv st hs) : VL l b0 L xs nc ns pc lv st hs := V.run2 n stops mLw_ok (fun _ _ _ _ _ _ _ h => h.elim) h
theorem V.sld (j : Nat) (hat : zins mLw pc = some (.iaload, nx, tg)) (hL : L ≤ 3584) {x : Int32} (hx : x = nI j) (hj : j < L) (h : VL l b0 L xs nc ns nx lv (.int (xs j) :: rest) hs) : VL l b0 L xs nc ns pc lv (.int x :: .ref 301 :: rest) hs := by
  obtain ⟨hd, e0, -⟩ := zgd_dec (mLw_ok.2.1 pc _ hat) (k := 0) rfl
  subst e0
  intro p en s m args below meth c D tc ad0 ad ls H locs X E xa P A S L2
  by_cases hf : ad0 301 = b0 ∧ args = #[Value.ref b0] ∧ va_X b0 L xs s s.heap ∧ b0 < s.heap.size
  · have hbA : ¬ zA tc ad0 [] s b0 := fun q => by
      have h1 := zA_nil q
      have h2 := hf.2.2.2
      omega
    have hb : ad 301 = b0 := (xa.2 150).trans hf.1
    have hcl : x.toNatClampNeg = j := pk_cl j hx (by omega)
    have h2 := h p en s m args below meth c D tc ad0 ad ls H locs X E xa P A S L2
    rw [← hcl] at h2
    show W _ _ _ _ _ _ _ _ _ _ _ _ _ _ _ (F0 m pc ls (.int x :: .ref (ad 301) :: rest.map (zrv ad)))
    rw [hb]
    exact va_sld X.1 X.2.1 hf.2.2.1 hf.2.2.2 hbA S (pk_in j L hj hx (by omega)) hd h2
  · exact fun T hT X2 => ⟨_, Steps.refl _, fun q => absurd q hf⟩
theorem V.slen (hat : zins mLw pc = some (.arraylength, nx, tg)) (h : VL l b0 L xs nc ns nx lv (.int (nI L) :: rest) hs) : VL l b0 L xs nc ns pc lv (.ref 301 :: rest) hs := by
  obtain ⟨hd, e0, -⟩ := zgd_dec (mLw_ok.2.1 pc _ hat) (k := 0) rfl
  subst e0
  intro p en s m args below meth c D tc ad0 ad ls H locs X E xa P A S L2
  by_cases hf : ad0 301 = b0 ∧ args = #[Value.ref b0] ∧ va_X b0 L xs s s.heap ∧ b0 < s.heap.size
  · have hbA : ¬ zA tc ad0 [] s b0 := fun q => by
      have h1 := zA_nil q
      have h2 := hf.2.2.2
      omega
    have hb : ad 301 = b0 := (xa.2 150).trans hf.1
    show W _ _ _ _ _ _ _ _ _ _ _ _ _ _ _ (F0 m pc ls (.ref (ad 301) :: rest.map (zrv ad)))
    rw [hb]
    exact va_slen X.1 X.2.1 hf.2.2.1 hf.2.2.2 hbA S hd (h p en s m args below meth c D tc ad0 ad ls H locs X E xa P A S L2)
  · exact fun T hT X2 => ⟨_, Steps.refl _, fun q => absurd q hf⟩
theorem V.lret (hat : zins mLw pc = some (.ireturn, nx, tg)) (h1 : nc ≤ 600000) (h2 : ns ≤ 7302250) : VL l b0 L xs nc ns pc lv [.int 1] hs := by
  obtain ⟨hd, e0, -⟩ := zgd_dec (mLw_ok.2.1 pc _ hat) (k := 0) rfl
  subst e0
  intro p en s m args below meth c D tc ad0 ad ls H locs X E xa P A S L2
  by_cases hf : ad0 301 = b0 ∧ args = #[Value.ref b0] ∧ va_X b0 L xs s s.heap ∧ b0 < s.heap.size
  · obtain ⟨g1, rfl, g3, g4⟩ := id hf
    refine va_forget (fun q hq => zA_nil (S.2.2 q hq)) (W.widen h1 h2 ?_)
    intro T hT X2
    obtain ⟨t, a1, a2⟩ := lw_ret (p := p) (l := l) (e := en) (s := s) (m := m) (below := below) (b := b0) X.1 X.2.1 X.2.2.1 X.2.2.2.2.2.2.1 (ls := ls) (H := H) hd T hT X2
    exact ⟨t, a1, fun _ => a2⟩
  · exact fun T hT X2 => ⟨_, Steps.refl _, fun q => absurd q hf⟩
end
theorem hRL {d' zm nc mc ns ms : Nat} (h1 : d' ≤ 60) (h2 : zm ≤ 30) (h3 : nc + mc ≤ 600000) (h4 : ns + ms ≤ 7302250) : (Nat.ble (d' + 1) room_1.frames && Nat.ble (8 + (zm + 11) + 48 * d') room_1.locals && (Nat.ble (nc + mc) room_1.cells && Nat.ble (ns + ms) room_1.slots)) = true := by
  show (Nat.ble (d' + 1) 2048 && Nat.ble (8 + (zm + 11) + 48 * d') 84000 && (Nat.ble (nc + mc) 600000 && Nat.ble (ns + ms) 7302250)) = true
  rw [Nat.ble_eq_true_of_le (show d' + 1 ≤ 2048 by omega), Nat.ble_eq_true_of_le (show 8 + (zm + 11) + 48 * d' ≤ 84000 by omega), Nat.ble_eq_true_of_le h3, Nat.ble_eq_true_of_le h4]
  rfl
/-- the reference's cells behind the class's 51 -/
def eM (k : Nat) : Nat := k + 102
def pMo (fv : Nat → Int32) (ar : Nat → fI) : List zE := (pM fv ar).map (zrc eM)
theorem pMo_len (fv : Nat → Int32) (ar : Nat → fI) : (pMo fv ar).length = 30 := rfl
theorem pMo_of {e : Nat → Nat} (h : ∀ j, j < 30 → e (2 * j) = 2 * j + 102) (fv : Nat → Int32) (ar : Nat → fI) : (pM fv ar).map (zrc e) = pMo fv ar := zltL_agr (n := 30) (e2 := eM) h rfl
theorem pMo_id {e : Nat → Nat} (h : ∀ j, j < 81 → e (2 * j) = 2 * j) (fv : Nat → Int32) (ar : Nat → fI) : (pMo fv ar).map (zrc e) = pMo fv ar := zltL_id (n := 81) h rfl
def lW (c d k : zCart) (r tr kr : zRow) (rd : zRd) (n : Nat) (lw kl ik : Int32) (rj : zRj) (s0 s1 s2 s3 : zSh) (fv : Nat → Int32) (ar : Nat → fI) (TS : List zTx) : List zE := lB c d k r tr kr rd (2 * 81) (tgW 81 n) (nI n) lw kl ik (303, 305, rj) s0 s1 s2 s3 ++ (pMo fv ar ++ lT 81 TS)
theorem zsim_app : ∀ {a a2 b b2 : List zE}, zsim a a2 → zsim b b2 → zsim (a ++ b) (a2 ++ b2)
  | [], a2, b, b2, h, h2 => by
    have h : a2 = [] := h
    subst h
    exact h2
  | x :: a, a2, b, b2, ⟨z, a3, e, hx, h⟩, h2 => by
    subst e
    exact ⟨z, a3 ++ b2, rfl, hx, zsim_app h h2⟩
theorem sh_sim {o : Nat} {s t : zSh} (h1 : s.1 = t.1) (h2 : s.2.1 = t.2.1) (h3 : ∀ i, i < 40 → s.2.2 i = t.2.2 i) : zsim (pSheetT o s) (pSheetT o t) := by
  show zsim [.inr (4, [.int s.1, .int s.2.1, .ref (2 * (o + 1))]), .inl (0, 40, .inl s.2.2)] [.inr (4, [.int t.1, .int t.2.1, .ref (2 * (o + 1))]), .inl (0, 40, .inl t.2.2)]
  rw [h1, h2]
  exact zsim_e (zsim_c (zsm_i h3) (zsim_rfl []))
section
variable {c d k : zCart} {r tr kr : zRow} {rd : zRd} {n : Nat} {lw kl ik : Int32} {rj : zRj} {s0 s1 s2 s3 : zSh} {fv : Nat → Int32} {ar : Nat → fI} {TS : List zTx} {Ps : Nat → zP}
theorem lB_sim {ft : Nat} {tg : Nat → Option Nat} {tc : Int32} {ri : zRi} (h : RelS s0 s1 s2 s3 ar) : zsim (lB c d k r tr kr rd ft tg tc lw kl ik ri s0 s1 s2 s3) (lB c d k r tr kr rd ft tg tc lw kl ik ri (shM ar 0) (shM ar 1) (shM ar 2) (shM ar 3)) := by
  have h0 := h.2 0 (by omega)
  have h1 := h.2 1 (by omega)
  have h2 := h.2 2 (by omega)
  have h3 := h.2 3 (by omega)
  exact zsim_e (zsim_app (zsim_rfl _) (zsim_e (zsim_app (zsim_rfl _) (zsim_e (zsim_app (sh_sim h0.1 h0.2.1 h0.2.2) (zsim_app (sh_sim h1.1 h1.2.1 h1.2.2) (zsim_app (sh_sim h2.1 h2.2.1 h2.2.2) (sh_sim h3.1 h3.2.1 h3.2.2))))))))
def e3 (x y : Nat) : Nat → Nat := fun j => if j = 303 then x else if j = 305 then y else j
theorem e3_e {x y : Nat} (i : Nat) : e3 x y (2 * i) = 2 * i := by
  unfold e3
  rw [if_neg (by omega), if_neg (by omega)]
theorem lW_e3 {x y : Nat} : (lW c d k r tr kr rd n lw kl ik rj s0 s1 s2 s3 fv ar TS).map (zrc (e3 x y)) = lB c d k r tr kr rd (2 * 81) (tgW 81 n) (nI n) lw kl ik (x, y, rj) s0 s1 s2 s3 ++ (pMo fv ar ++ lT 81 TS) := by
  have ht : (fun i => (tgW 81 n i).map (e3 x y)) = tgW 81 n := by
    funext i
    unfold tgW
    by_cases hi : i < n
    · rw [if_pos hi]
      show some (e3 x y (2 * (81 + 5 * i))) = _
      rw [e3_e]
    · rw [if_neg hi]
      rfl
  unfold lW
  rw [List.map_append, List.map_append, lB_map (fun j _ => e3_e j), pMo_id (fun j _ => e3_e j), lT_map TS 81 81 (fun j _ => e3_e _), e3_e, ht]
  rfl
theorem Rel.m (h : Rel c k r kr rd lw kl ik s0 s1 s2 s3 fv ar n Ps) : Rel c k r kr rd lw kl ik (shM ar 0) (shM ar 1) (shM ar 2) (shM ar 3) fv ar n Ps := ⟨h.1, h.2.1, h.2.2.1, h.2.2.2.1.m, h.2.2.2.2.1, h.2.2.2.2.2⟩
theorem vkd_zpr {b : Bool} {v : Value} (h : vkd b v = true) : zpr v = true := by
  cases b <;> cases v <;> first | rfl | cases h
variable {l : Launch} {b0 L : Nat} {xs : Nat → Int32} {nc ns pc nx tg idx d' n2 : Nat} {lv : zL} {st rest : List Value} {M' : zM} {T6 T7 : zT} {b : Bool}
theorem V.lcX (hat : zins mLw pc = some (.invokevirtual idx, nx, tg)) (hlk : zlV RL idx M' n2) (hC : Ct l M' false d' 0 0 T6) (hd : d' ≤ 60) (hm : zmax M' ≤ 30) (hnc : nc ≤ 600000) (hns : ns ≤ 7302250) (as : List Value) (has : as.all zpr = true) (hn : as.length = n2) (hqc : RX6 = (zy M').cls) (hst : st = as.reverse ++ [.ref 0]) (hlv : ∀ x y, zl (e3 x y) lv = lv) (hPR : PR b T6 T7 (.ref 0 :: as)) (hR : Rel c k r kr rd lw kl ik s0 s1 s2 s3 fv ar n Ps) (hTS : TSok TS n Ps) (h : ∀ (c2 d2 k2 : zCart) (r2 tr2 kr2 : zRow) (rd2 : zRd) (lw2 kl2 ik2 : Int32) (rj2 : zRj) (s02 s12 s22 s32 : zSh) (TS2 : List zTx) (v : Value), TSok TS2 n Ps → vkd b v = true → (∀ Q7 : Option Value → List zE → Prop, (∀ (fv2 : Nat → Int32) (ar2 : Nat → fI), Rel c2 k2 r2 kr2 rd2 lw2 kl2 ik2 s02 s12 s22 s32 fv2 ar2 n Ps → Q7 (some v) (pM fv2 ar2)) → T7 (.ref 0 :: as) (pM fv ar) Q7) → VL l b0 L xs nc ns nx lv [v] (lW c2 d2 k2 r2 tr2 kr2 rd2 n lw2 kl2 ik2 rj2 s02 s12 s22 s32 fv ar TS2)) : VL l b0 L xs nc ns pc lv st (lW c d k r tr kr rd n lw kl ik rj s0 s1 s2 s3 fv ar TS) := by
  obtain ⟨hn1, hn6, -, ⟨li, hli, hlw, hfv⟩, -⟩ := hR.2.2.2.2.2
  obtain ⟨TA, tx, TB, rfl, hTA, hT, hup⟩ := TSok_split hTS hli
  refine V.sim (zsim_app (lB_sim hR.2.2.2.1) (zsim_rfl _)) ?_
  refine V.xcall (M' := M') (c := c) (d := d) (k := k) (r := r) (tr := tr) (kr := kr) (rd := rd) (tc := nI n) (lw := lw) (kl := kl) (ik := ik) (s0 := shM ar 0) (s1 := shM ar 1) (s2 := shM ar 2) (s3 := shM ar 3) (n := n) (ri := (303, 305, rj)) (TA := TA) (tx := tx) (TB := TB) (o := 81) (B := pMo fv ar) (li := li) mLw_ok hat hlk hC (hRL hd hm hnc hns) rfl hTA hTS.1 rfl as has [] hn hqc hst rfl (fun Q2 hQ => hPR c d k r tr kr rd lw kl ik _ fv ar n li Ps (ftC li) (tgC li n) tx Q2 hR.m ⟨⟨li, by omega, hlw, tgC_li hli⟩, hT⟩ hli hlw (fun c2 d2 k2 r2 tr2 kr2 rd2 lw2 kl2 ik2 ri2 s02 s12 s22 s32 nm sk v hv h7 => hQ c2 d2 k2 r2 tr2 kr2 rd2 lw2 kl2 ik2 ri2 s02 s12 s22 s32 nm sk (some v) ?_))
  obtain ⟨e, he⟩ : ∃ e, e = eW (81 + 5 * n) ((303, 305, rj) : zRi).1 ((303, 305, rj) : zRi).2.1 81 n li := ⟨_, rfl⟩
  rw [← he]
  have h1 := V.ren (e3 (e ri2.1) (e ri2.2.1)) (fun i _ => e3_e i) (fun i hi => by unfold e3; rw [if_neg (by omega), if_neg (by omega)]) rfl (lwF_re b0 L xs) (h c2 d2 k2 r2 tr2 kr2 rd2 lw2 kl2 ik2 ri2.2.2 s02 s12 s22 s32 (TA ++ txS tx nm sk :: TB) v (hup nm sk) hv h7)
  have hz : ∀ e : Nat → Nat, zrv e v = v := fun e => by
    have := zpr_map e (l := [v]) (by rw [List.all_cons, vkd_zpr hv]; rfl)
    exact (List.cons.inj this).1
  rw [hlv, lW_e3] at h1
  have e1 : ([v].map (zrv (e3 (e ri2.1) (e ri2.2.1)))) = ((Option.map (zrv e) (some v)).toList ++ []) := by
    show [zrv _ v] = [zrv e v]
    rw [hz, hz]
  rw [e1] at h1
  exact h1
theorem V.lcM {X C2 : List zE} {v : Value} (hX : X.length = 51) (hat : zins mLw pc = some (.invokevirtual idx, nx, tg)) (hlk : zlV RL idx M' n2) (hC : Ct l M' false d' 0 0 T7) (hd : d' ≤ 60) (hm : zmax M' ≤ 30) (hnc : nc ≤ 600000) (hns : ns ≤ 7302250) (as : List Value) (has : as.all zpr = true) (hn : as.length = n2) (hqc : RX7 = (zy M').cls) (rest : List Value) (hst : st = as.reverse ++ .ref 102 :: rest) (hW : Nat.ble ((rest.map fun v => v.category).sum) 8 = true) (hv : zpr v = true) {RR : (Nat → Int32) → (Nat → fI) → Prop} (hT : ∀ Q7 : Option Value → List zE → Prop, (∀ (fv2 : Nat → Int32) (ar2 : Nat → fI), RR fv2 ar2 → Q7 (some v) (pM fv2 ar2)) → T7 (.ref 0 :: as) (pM fv ar) Q7) (h : ∀ (fv2 : Nat → Int32) (ar2 : Nat → fI), RR fv2 ar2 → VL l b0 L xs nc ns nx lv (v :: rest) (X ++ (pMo fv2 ar2 ++ C2))) : VL l b0 L xs nc ns pc lv st (X ++ (pMo fv ar ++ C2)) := by
  obtain ⟨e, he⟩ : ∃ e, e = ze (X ++ (pMo fv ar ++ C2)).length (List.range' 51 30) (fun k => k) := ⟨_, rfl⟩
  have hee : ∀ j, j < 30 → e (2 * j) = 2 * j + 102 := fun j hj => by
    rw [he, ze_in (rng_get 30 51 j hj)]
    omega
  have hz : ∀ (f : Nat → Nat) (w : Value), zpr w = true → zrv f w = w := fun f w hw => by
    have := zpr_map f (l := [w]) (by rw [List.all_cons, hw]; rfl)
    exact (List.cons.inj this).1
  refine V.callV mLw_ok hat hlk hC (hRL hd hm hnc hns) (fun k => k) (fun _ _ => rfl) (List.range' 51 30) (pM fv ar) (.ref 0 :: as) rest (fun w hs' => ∃ fv2 ar2, hs' = pM fv2 ar2 ∧ w = some v ∧ RR fv2 ar2) (by rw [List.length_cons, hn]) 0 7 rfl rfl rfl hqc ?_ hW (by
    have := nd_rng 30 51 [] rfl (fun x hx => by cases hx)
    rwa [List.append_nil] at this) ?_ (hT _ (fun fv2 ar2 hr => ⟨fv2, ar2, rfl, rfl, hr⟩)) (fun w hs' hq => ?_)
  · rw [hst, ← he, List.map_cons, zpr_rev _ has, List.reverse_cons, List.append_assoc]
    show as.reverse ++ .ref 102 :: rest = as.reverse ++ ([Value.ref (e (2 * 0))] ++ rest)
    rw [hee 0 (by omega)]
    rfl
  · rw [← he]
    have h1 := zcs_mid (pMo fv ar) X C2
    rw [hX, pMo_len] at h1
    refine h1.trans ?_
    rw [← pMo_of hee, List.map_map]
    rfl
  · obtain ⟨fv2, ar2, rfl, rfl, hr⟩ := hq
    refine ⟨rfl, ?_⟩
    rw [← he, pMo_of hee]
    have h1 := zput_mid (pMo fv ar) (pMo fv2 ar2) X C2 rfl
    rw [hX, pMo_len] at h1
    have e1 : ((Option.map (zrv e) (some v)).toList ++ rest) = v :: rest := by
      show zrv e v :: rest = _
      rw [hz e v hv]
    rw [e1]
    refine V.w _ h1 ?_
    exact h fv2 ar2 hr
end
