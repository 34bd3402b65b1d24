/-! ===== the call rules ===== -/
def zcm (M' : zM) (n : Nat) : Prop := Cond.initialized (zy M').cls ∈ z_tbl ∧ Cond.code (zy M') (zcode M') (zmax M') (zret M') ∈ z_tbl ∧ (zy M').cls ≠ "java/lang/invoke/MethodHandle" ∧ (zy M').cls ≠ "java/lang/invoke/VarHandle" ∧ (parseMethodDescriptor (zy M').desc).map (fun d => d.parameters.length) = some n
def zlS (own : String) (idx : Nat) (M' : zM) (n : Nat) : Prop := Cond.methodLink own idx (zy M') ∈ z_tbl ∧ Cond.static (zy M') ∈ z_tbl ∧ zcm M' n
def zlV (own : String) (idx : Nat) (M' : zM) (n : Nat) : Prop := Cond.methodLink own idx (zy M') ∈ z_tbl ∧ Cond.instanceMethod (zy M') ∈ z_tbl ∧ Cond.selects (zy M').cls (zy M') (zy M') ∈ z_tbl ∧ zcm M' n
def zlI (own : String) (idx : Nat) (M' : zM) (n : Nat) : Prop := Cond.methodLink own idx (zy M') ∈ z_tbl ∧ Cond.instanceMethod (zy M') ∈ z_tbl ∧ (zy M').name = "<init>" ∧ zret M' = none ∧ zcm M' n
def zlSN (own : String) (idx : Nat) (M' : zM) (n : Nat) : Prop := Cond.methodLinkNest own idx (zy M') "PullsToTheLeft" ∈ ZN ∧ Cond.static (zy M') ∈ z_tbl ∧ zcm M' n
def zlIN (own : String) (idx : Nat) (M' : zM) (n : Nat) : Prop := Cond.methodLinkNest own idx (zy M') "PullsToTheLeft" ∈ ZN ∧ Cond.instanceMethod (zy M') ∈ z_tbl ∧ (zy M').name = "<init>" ∧ zret M' = none ∧ zcm M' n
theorem zgoodM {M' : zM} {n : Nat} (h : zcm M' n) : GoodIn z_tbl (zws M') := fun w hw => by
  rcases List.mem_cons.mp hw with rfl | hw
  · exact z_good _ h.2.1
  · exact z_good _ hw
theorem zfm {α β : Type} {f : α → Option β} : ∀ {l : List α} {l' : List β}, l.map f = l'.map some → l.filterMap f = l'
  | [], [], _ => rfl
  | [], _ :: _, h => by cases h
  | _ :: _, [], h => by cases h
  | a :: l, x :: l', h => by
    simp only [List.map_cons, List.cons.injEq] at h
    rw [List.filterMap_cons, h.1, zfm h.2]
theorem zput_same {hs wc : List zE} {cs : List Nat} {e : Nat → Nat} : cs.map (fun i => hs[i]?) = wc.map (fun x => some (zrc e x)) → zput hs cs (wc.map (zrc e)) = hs := by
  intro h
  induction cs generalizing wc with
  | nil => rfl
  | cons c cs ih =>
    cases wc with
    | nil => rfl
    | cons x wc =>
      simp only [List.map_cons, List.cons.injEq] at h
      show zput (hs.set c (zrc e x)) cs (wc.map (zrc e)) = hs
      have hc : c < hs.length := (List.getElem?_eq_some_iff.mp h.1).1
      have hx : hs[c] = zrc e x := (List.getElem?_eq_some_iff.mp h.1).2
      rw [← hx, List.set_getElem_self]
      exact ih h.2
section ZPRE
variable {l : Launch} {M M' : zM} {b b' : Bool} {hs0 hs wc : List zE} {R : Room} {nc ns pc n idx d' mc' ms' : Nat} {T : zT} {p : Program} {en : Env} {s : State} {m : MethodId} {args : Array Value} {below : List Frame} {meth : Method} {c : Code} {D : va_G} {tc : Nat → ClassId} {ad0 ad e : Nat → Nat} {ls : Array Slot} {H : Heap} {locs : List Loc} {cs : List Nat} {n0 : Nat} {dl : Nat → Nat}
theorem zpre (X : zX M p s m args meth c D tc) (E : ZE ad0 (zA tc ad0 hs0 s) s s.heap) (xa : zadx b hs0.length ad0 ad) (P : va_P D zcl (zw tc ad hs) H) (A : va_D (zA tc ad0 hs0 s) (zw tc ad hs)) (S : va_S (zA tc ad0 hs0 s) s.heap H locs) (he : e = ze n0 cs dl) (hcs : cs.map (fun i => hs[i]?) = wc.map (fun x => some (zrc e x))) (hnd : va_nd cs = true) (hdl : ∀ i, i < 27 → dl (2 * i + 1) = 2 * i + 1) (av : List Value) : ∀ U : State, U.heap = H → s.WarmedH U.vm → va_Pc av (zPc D tc (fun k => ad (e k)) wc H.size) av.toArray U := by
  intro U hU hW
  have hC := zsubw (tc := tc) (ad := ad) he hcs
  have hA : ∀ q, s.heap.size ≤ q → zA tc ad0 hs0 s q := fun q hq => Or.inr hq
  refine ⟨rfl, by rw [hU], ?_, va_K.moved hW.alike X.2.2.2.2.2.2.2.2, (A.sub cs hnd hC).weaken (fun _ _ _ _ => trivial), ?_⟩
  · rw [hU]
    exact P.sub cs (zfm hC)
  · rw [hU]
    refine (((E.kept S.2.1).warm hW).narrow (va_free A S hA cs hC)).re (fun i hi => ?_)
    show ad (e (2 * i + 1)) = ad0 (2 * i + 1)
    rw [he, ze_odd, hdl i hi]
    cases b with
    | true => exact xa.2 i
    | false => rw [show ad = ad0 from xa]
theorem zwords (X : zX M p s m args meth c D tc) {w : Cond} (h : w ∈ z_tbl) : w.before args s = true := X.2.2.2.2.2.1 w h
theorem zrunS (X : zX M p s m args meth c D tc) (E : ZE ad0 (zA tc ad0 hs0 s) s s.heap) (xa : zadx b hs0.length ad0 ad) (P : va_P D zcl (zw tc ad hs) H) (A : va_D (zA tc ad0 hs0 s) (zw tc ad hs)) (S : va_S (zA tc ad0 hs0 s) s.heap H locs) (he : e = ze n0 cs dl) (hcs : cs.map (fun i => hs[i]?) = wc.map (fun x => some (zrc e x))) (hnd : va_nd cs = true) (hdl : ∀ i, i < 27 → dl (2 * i + 1) = 2 * i + 1) (hlk : zlS (zy M).cls idx M' n) (hC : Ct l M' b' d' mc' ms' T) (hR : (Nat.ble (d' + 1) R.frames && Nat.ble (8 + (zmax M' + 11) + 48 * d') R.locals && (Nat.ble (nc + mc') R.cells && Nat.ble (ns + ms') R.slots)) = true) {argsC rest : List Value} {Q : Option Value → List zE → Prop} (hT : T argsC wc Q) (hn : argsC.length = n) (hls : ls.size = zmax M) (hW : ((rest.map fun v => v.category).sum) ≤ 8) (hd : decode (zcode M) pc = .ok (.invokestatic idx, 3)) :
    va_Run p l en R s m args below meth c H locs nc ns mc' ms' (F0 m pc ls (((argsC.map (zrv (fun k => ad (e k)))).reverse) ++ rest)) rest (zQ b' D tc (fun k => ad (e k)) wc Q H.size (argsC.map (zrv (fun k => ad (e k)))).toArray) (va_A (zw tc (fun k => ad (e k)) wc) H.size) := by
  have hpre := zpre X E xa P A S he hcs hnd hdl (argsC.map (zrv (fun k => ad (e k))))
  have hMet := hC D tc (fun k => ad (e k)) argsC wc Q H.size hT
  have hfix : CallFix p m c (zcode M) (zmax M) s args z_tbl (zy M).cls := ⟨X.1, X.2.1, X.2.2.2.1, X.2.2.2.2.1, X.2.2.2.2.2.1⟩
  simp only [Bool.and_eq_true] at hR
  have hR1 : (zrm d' mc' ms').frames + 1 ≤ R.frames ∧ 8 + (zmax M' + 11) + (zrm d' mc' ms').locals ≤ R.locals := ⟨Nat.le_of_ble_eq_true hR.1.1, Nat.le_of_ble_eq_true hR.1.2⟩
  have hR2 : nc + mc' ≤ R.cells ∧ ns + ms' ≤ R.slots := ⟨Nat.le_of_ble_eq_true hR.2.1, Nat.le_of_ble_eq_true hR.2.2⟩
  obtain ⟨hl, hs, hcm⟩ := hlk
  exact va_runS hfix hMet ⟨callB_of n X.2.2.2.2.2.1 (zgoodM hcm) rfl rfl rfl (zwords X hcm.1) (zwords X hl) hcm.2.2 hR1, zwords X hs⟩ ⟨zblind, hpre⟩ rfl (by rw [List.length_map]; exact hn) hls rfl (lv_room hW) hd hR2
theorem zrunSN (X : zX M p s m args meth c D tc) (E : ZE ad0 (zA tc ad0 hs0 s) s s.heap) (xa : zadx b hs0.length ad0 ad) (P : va_P D zcl (zw tc ad hs) H) (A : va_D (zA tc ad0 hs0 s) (zw tc ad hs)) (S : va_S (zA tc ad0 hs0 s) s.heap H locs) (he : e = ze n0 cs dl) (hcs : cs.map (fun i => hs[i]?) = wc.map (fun x => some (zrc e x))) (hnd : va_nd cs = true) (hdl : ∀ i, i < 27 → dl (2 * i + 1) = 2 * i + 1) (hlk : zlSN (zy M).cls idx M' n) (hC : Ct l M' b' d' mc' ms' T) (hR : (Nat.ble (d' + 1) R.frames && Nat.ble (8 + (zmax M' + 11) + 48 * d') R.locals && (Nat.ble (nc + mc') R.cells && Nat.ble (ns + ms') R.slots)) = true) {argsC rest : List Value} {Q : Option Value → List zE → Prop} (hT : T argsC wc Q) (hn : argsC.length = n) (hls : ls.size = zmax M) (hW : ((rest.map fun v => v.category).sum) ≤ 8) (hd : decode (zcode M) pc = .ok (.invokestatic idx, 3)) :
    va_Run p l en R s m args below meth c H locs nc ns mc' ms' (F0 m pc ls (((argsC.map (zrv (fun k => ad (e k)))).reverse) ++ rest)) rest (zQ b' D tc (fun k => ad (e k)) wc Q H.size (argsC.map (zrv (fun k => ad (e k)))).toArray) (va_A (zw tc (fun k => ad (e k)) wc) H.size) := by
  have hpre := zpre X E xa P A S he hcs hnd hdl (argsC.map (zrv (fun k => ad (e k))))
  have hMet := hC D tc (fun k => ad (e k)) argsC wc Q H.size hT
  have hfix : CallFix p m c (zcode M) (zmax M) s args z_tbl (zy M).cls := ⟨X.1, X.2.1, X.2.2.2.1, X.2.2.2.2.1, X.2.2.2.2.2.1⟩
  simp only [Bool.and_eq_true] at hR
  have hR1 : (zrm d' mc' ms').frames + 1 ≤ R.frames ∧ 8 + (zmax M' + 11) + (zrm d' mc' ms').locals ≤ R.locals := ⟨Nat.le_of_ble_eq_true hR.1.1, Nat.le_of_ble_eq_true hR.1.2⟩
  have hR2 : nc + mc' ≤ R.cells ∧ ns + ms' ≤ R.slots := ⟨Nat.le_of_ble_eq_true hR.2.1, Nat.le_of_ble_eq_true hR.2.2⟩
  obtain ⟨hl, hs, hcm⟩ := hlk
  exact va_runSN hfix hMet ⟨va_cnB n X.2.2.2.2.2.1 (zgoodM hcm) rfl rfl rfl (E.2.2.2.2.2 _ hl) (zwords X hcm.1) hcm.2.2 hR1, zwords X hs, trivial⟩ ⟨zblind, hpre⟩ rfl (by rw [List.length_map]; exact hn) hls rfl (lv_room hW) hd hR2
theorem zrunV (X : zX M p s m args meth c D tc) (E : ZE ad0 (zA tc ad0 hs0 s) s s.heap) (xa : zadx b hs0.length ad0 ad) (P : va_P D zcl (zw tc ad hs) H) (A : va_D (zA tc ad0 hs0 s) (zw tc ad hs)) (S : va_S (zA tc ad0 hs0 s) s.heap H locs) (he : e = ze n0 cs dl) (hcs : cs.map (fun i => hs[i]?) = wc.map (fun x => some (zrc e x))) (hnd : va_nd cs = true) (hdl : ∀ i, i < 27 → dl (2 * i + 1) = 2 * i + 1) (hlk : zlV (zy M).cls idx M' n) (hC : Ct l M' b' d' mc' ms' T) (hR : (Nat.ble (d' + 1) R.frames && Nat.ble (8 + (zmax M' + 11) + 48 * d') R.locals && (Nat.ble (nc + mc') R.cells && Nat.ble (ns + ms') R.slots)) = true) {argsC rest : List Value} {Q : Option Value → List zE → Prop} (hT : T argsC wc Q) (hn : argsC.length = n + 1) {j ci : Nat} {q : vw_C} {fs : List Value} (hj : argsC.head? = some (.ref (2 * j))) (hz : wc[j]? = some (.inr (ci, fs))) (hq : zcl[ci]? = some q) (hqc : q.1 = (zy M').cls) (hls : ls.size = zmax M) (hW : ((rest.map fun v => v.category).sum) ≤ 8) (hd : decode (zcode M) pc = .ok (.invokevirtual idx, 3)) :
    va_Run p l en R s m args below meth c H locs nc ns mc' ms' (F0 m pc ls (((argsC.map (zrv (fun k => ad (e k)))).reverse) ++ rest)) rest (zQ b' D tc (fun k => ad (e k)) wc Q H.size (argsC.map (zrv (fun k => ad (e k)))).toArray) (va_A (zw tc (fun k => ad (e k)) wc) H.size) := by
  have hpre := zpre X E xa P A S he hcs hnd hdl (argsC.map (zrv (fun k => ad (e k))))
  have hMet := hC D tc (fun k => ad (e k)) argsC wc Q H.size hT
  have hfix : CallFix p m c (zcode M) (zmax M) s args z_tbl (zy M).cls := ⟨X.1, X.2.1, X.2.2.2.1, X.2.2.2.2.1, X.2.2.2.2.2.1⟩
  simp only [Bool.and_eq_true] at hR
  have hR1 : (zrm d' mc' ms').frames + 1 ≤ R.frames ∧ 8 + (zmax M' + 11) + (zrm d' mc' ms').locals ≤ R.locals := ⟨Nat.le_of_ble_eq_true hR.1.1, Nat.le_of_ble_eq_true hR.1.2⟩
  have hR2 : nc + mc' ≤ R.cells ∧ ns + ms' ≤ R.slots := ⟨Nat.le_of_ble_eq_true hR.2.1, Nat.le_of_ble_eq_true hR.2.2⟩
  obtain ⟨hl, hi, hsel, hcm⟩ := hlk
  cases argsC with
  | nil => cases hj
  | cons a0 As =>
    cases hj
    have hsub := P.sub cs (zfm (zsubw (tc := tc) (ad := ad) he hcs))
    have hrv := va_recv X.2.2.2.2.2.2.2.2 hsub hq (zw_get (tc := tc) (ad := fun k => ad (e k)) hz)
    rw [hqc] at hrv
    have := va_runV (g := F0 m pc ls ((((Value.ref (2 * j) :: As).map (zrv (fun k => ad (e k)))).reverse) ++ rest)) (b := ad (e (2 * j))) (As := As.map (zrv (fun k => ad (e k)))) (rest := rest) (p := p) (l := l) (e := en) (R := R) (m := m) (below := below) (meth := meth) (locs := locs) (cells := nc) (slots := ns) hfix hMet (C := (zy M').cls) ⟨callB_of n X.2.2.2.2.2.1 (zgoodM hcm) rfl rfl rfl (zwords X hcm.1) (zwords X hl) hcm.2.2 hR1, zwords X hi, zwords X hsel⟩ ⟨zblind, hrv, hpre⟩ rfl (by rw [List.length_map]; exact Nat.succ.inj hn) hls (by simp [zrv]) (lv_room hW) hd hR2
    exact this
theorem zrunI (X : zX M p s m args meth c D tc) (E : ZE ad0 (zA tc ad0 hs0 s) s s.heap) (xa : zadx b hs0.length ad0 ad) (P : va_P D zcl (zw tc ad hs) H) (A : va_D (zA tc ad0 hs0 s) (zw tc ad hs)) (S : va_S (zA tc ad0 hs0 s) s.heap H locs) (he : e = ze n0 cs dl) (hcs : cs.map (fun i => hs[i]?) = wc.map (fun x => some (zrc e x))) (hnd : va_nd cs = true) (hdl : ∀ i, i < 27 → dl (2 * i + 1) = 2 * i + 1) (hlk : zlI (zy M).cls idx M' n) (hC : Ct l M' b' d' mc' ms' T) (hR : (Nat.ble (d' + 1) R.frames && Nat.ble (8 + (zmax M' + 11) + 48 * d') R.locals && (Nat.ble (nc + mc') R.cells && Nat.ble (ns + ms') R.slots)) = true) {argsC rest : List Value} {Q : Option Value → List zE → Prop} (hT : T argsC wc Q) (hn : argsC.length = n + 1) {j : Nat} (hj : argsC.head? = some (.ref (2 * j))) (hls : ls.size = zmax M) (hW : ((rest.map fun v => v.category).sum) ≤ 8) (hd : decode (zcode M) pc = .ok (.invokespecial idx, 3)) :
    va_Run p l en R s m args below meth c H locs nc ns mc' ms' (F0 m pc ls (((argsC.map (zrv (fun k => ad (e k)))).reverse) ++ rest)) rest (zQ b' D tc (fun k => ad (e k)) wc Q H.size (argsC.map (zrv (fun k => ad (e k)))).toArray) (va_A (zw tc (fun k => ad (e k)) wc) H.size) := by
  have hpre := zpre X E xa P A S he hcs hnd hdl (argsC.map (zrv (fun k => ad (e k))))
  have hMet := hC D tc (fun k => ad (e k)) argsC wc Q H.size hT
  have hfix : CallFix p m c (zcode M) (zmax M) s args z_tbl (zy M).cls := ⟨X.1, X.2.1, X.2.2.2.1, X.2.2.2.2.1, X.2.2.2.2.2.1⟩
  simp only [Bool.and_eq_true] at hR
  have hR1 : (zrm d' mc' ms').frames + 1 ≤ R.frames ∧ 8 + (zmax M' + 11) + (zrm d' mc' ms').locals ≤ R.locals := ⟨Nat.le_of_ble_eq_true hR.1.1, Nat.le_of_ble_eq_true hR.1.2⟩
  have hR2 : nc + mc' ≤ R.cells ∧ ns + ms' ≤ R.slots := ⟨Nat.le_of_ble_eq_true hR.2.1, Nat.le_of_ble_eq_true hR.2.2⟩
  obtain ⟨hl, hi, hnm, hr, hcm⟩ := hlk
  cases argsC with
  | nil => cases hj
  | cons a0 As =>
    cases hj
    have := va_runI (g := F0 m pc ls ((((Value.ref (2 * j) :: As).map (zrv (fun k => ad (e k)))).reverse) ++ rest)) (b := ad (e (2 * j))) (As := As.map (zrv (fun k => ad (e k)))) (rest := rest) (p := p) (l := l) (e := en) (R := R) (m := m) (below := below) (meth := meth) (locs := locs) (cells := nc) (slots := ns) hfix hMet ⟨callB_of n X.2.2.2.2.2.1 (zgoodM hcm) (by show Cond.code _ _ _ (zret M') :: _ = _; rw [hr]) rfl rfl (zwords X hcm.1) (zwords X hl) hcm.2.2 hR1, hnm, zwords X hi⟩ ⟨zblind, hpre⟩ rfl (by rw [List.length_map]; exact Nat.succ.inj hn) hls (by simp [zrv]) (lv_room hW) hd hR2
    exact this
theorem zrunIN (X : zX M p s m args meth c D tc) (E : ZE ad0 (zA tc ad0 hs0 s) s s.heap) (xa : zadx b hs0.length ad0 ad) (P : va_P D zcl (zw tc ad hs) H) (A : va_D (zA tc ad0 hs0 s) (zw tc ad hs)) (S : va_S (zA tc ad0 hs0 s) s.heap H locs) (he : e = ze n0 cs dl) (hcs : cs.map (fun i => hs[i]?) = wc.map (fun x => some (zrc e x))) (hnd : va_nd cs = true) (hdl : ∀ i, i < 27 → dl (2 * i + 1) = 2 * i + 1) (hlk : zlIN (zy M).cls idx M' n) (hC : Ct l M' b' d' mc' ms' T) (hR : (Nat.ble (d' + 1) R.frames && Nat.ble (8 + (zmax M' + 11) + 48 * d') R.locals && (Nat.ble (nc + mc') R.cells && Nat.ble (ns + ms') R.slots)) = true) {argsC rest : List Value} {Q : Option Value → List zE → Prop} (hT : T argsC wc Q) (hn : argsC.length = n + 1) {j : Nat} (hj : argsC.head? = some (.ref (2 * j))) (hls : ls.size = zmax M) (hW : ((rest.map fun v => v.category).sum) ≤ 8) (hd : decode (zcode M) pc = .ok (.invokespecial idx, 3)) :
    va_Run p l en R s m args below meth c H locs nc ns mc' ms' (F0 m pc ls (((argsC.map (zrv (fun k => ad (e k)))).reverse) ++ rest)) rest (zQ b' D tc (fun k => ad (e k)) wc Q H.size (argsC.map (zrv (fun k => ad (e k)))).toArray) (va_A (zw tc (fun k => ad (e k)) wc) H.size) := by
  have hpre := zpre X E xa P A S he hcs hnd hdl (argsC.map (zrv (fun k => ad (e k))))
  have hMet := hC D tc (fun k => ad (e k)) argsC wc Q H.size hT
  have hfix : CallFix p m c (zcode M) (zmax M) s args z_tbl (zy M).cls := ⟨X.1, X.2.1, X.2.2.2.1, X.2.2.2.2.1, X.2.2.2.2.2.1⟩
  simp only [Bool.and_eq_true] at hR
  have hR1 : (zrm d' mc' ms').frames + 1 ≤ R.frames ∧ 8 + (zmax M' + 11) + (zrm d' mc' ms').locals ≤ R.locals := ⟨Nat.le_of_ble_eq_true hR.1.1, Nat.le_of_ble_eq_true hR.1.2⟩
  have hR2 : nc + mc' ≤ R.cells ∧ ns + ms' ≤ R.slots := ⟨Nat.le_of_ble_eq_true hR.2.1, Nat.le_of_ble_eq_true hR.2.2⟩
  obtain ⟨hl, hi, hnm, hr, hcm⟩ := hlk
  cases argsC with
  | nil => cases hj
  | cons a0 As =>
    cases hj
    have := va_runIN (g := F0 m pc ls ((((Value.ref (2 * j) :: As).map (zrv (fun k => ad (e k)))).reverse) ++ rest)) (b := ad (e (2 * j))) (As := As.map (zrv (fun k => ad (e k)))) (rest := rest) (p := p) (l := l) (e := en) (R := R) (m := m) (below := below) (meth := meth) (locs := locs) (cells := nc) (slots := ns) hfix hMet ⟨va_cnB n X.2.2.2.2.2.1 (zgoodM hcm) (by show Cond.code _ _ _ (zret M') :: _ = _; rw [hr]) rfl rfl (E.2.2.2.2.2 _ hl) (zwords X hcm.1) hcm.2.2 hR1, hnm, zwords X hi⟩ ⟨zblind, hpre⟩ rfl (by rw [List.length_map]; exact Nat.succ.inj hn) hls (by simp [zrv]) (lv_room hW) hd hR2
    exact this
end ZPRE
section ZVC
variable {l : Launch} {M M' : zM} {b : Bool} {hs0 hs : List zE} {R : Room} {F : zF} {nc ns pc n idx nx tg d' mc' ms' : Nat} {T : zT} {lv : zL} {st : List Value}
theorem V.callS (hM : zmok M) (hat : zins M pc = some (.invokestatic idx, nx, tg)) (hlk : zlS (zy M).cls idx M' n) (hC : Ct l M' false d' mc' ms' T) (hR : (Nat.ble (d' + 1) R.frames && Nat.ble (8 + (zmax M' + 11) + 48 * d') R.locals && (Nat.ble (nc + mc') R.cells && Nat.ble (ns + ms') R.slots)) = true) (dl : Nat → Nat) (hdl : ∀ i, i < 27 → dl (2 * i + 1) = 2 * i + 1) (cs : List Nat) (wc : List zE) (argsC rest : List Value) (Q : Option Value → List zE → Prop) (hn : argsC.length = n) (hst : st = ((argsC.map (zrv (ze hs.length cs dl))).reverse) ++ rest) (hW : Nat.ble ((rest.map fun v => v.category).sum) 8 = true) (hnd : va_nd cs = true) (hcs : cs.map (fun i => hs[i]?) = wc.map (fun x => some (zrc (ze hs.length cs dl) x))) (hT : T argsC wc Q) (hQ : ∀ v wc', Q v wc' → wc'.length = wc.length ∧ V l M b hs0 R F (nc + mc') (ns + ms') nx lv ((v.map (zrv (ze hs.length cs dl))).toList ++ rest) (zput hs cs (wc'.map (zrc (ze hs.length cs dl))))) : V l M b hs0 R F nc ns pc lv st hs := by
  obtain ⟨hd, e0, -⟩ := zgd_dec (hM.2.1 pc _ hat) (k := 2) rfl
  subst e0
  intro p en s m args below meth c D tc ad0 ad ls H locs X E xa P A S L
  have hrl : ((rest.map (zrv ad)).map fun v => v.category).sum ≤ 8 := by
    rw [List.map_map, show ((fun v => v.category) ∘ zrv ad) = (fun v : Value => v.category) from funext (fun v => zrv_cat ad v)]
    exact Nat.le_of_ble_eq_true hW
  have hrun := zrunS (l := l) (en := en) (below := below) (nc := nc) (ns := ns) (pc := pc) (ls := ls) (rest := rest.map (zrv ad)) X E xa P A S rfl hcs hnd hdl hlk hC hR hT hn L.1 hrl hd
  have est : st.map (zrv ad) = ((argsC.map (zrv (fun k => ad (ze hs.length cs dl k)))).reverse) ++ rest.map (zrv ad) := by
    rw [hst, List.map_append, List.map_reverse, List.map_map]
    congr 3
    funext v
    exact zrv_comp _ _ _
  rw [est]
  have hA : ∀ q, s.heap.size ≤ q → zA tc ad0 hs0 s q := fun q hq => Or.inr hq
  have hfree := va_free A S hA cs (zsubw (tc := tc) (ad := ad) rfl hcs)
  refine z_call hrun S (fun q _ h => hfree q h) hfree (fun _ _ _ h => h.2) (fun v st1 t H1 locs1 h0 ht hvm hq hz hk S1 => ?_)
  obtain ⟨⟨ad', v', wc', hv, hpost, xa', P1, K1, D1⟩, -⟩ := hq
  cases hv
  rw [ht] at P1
  have xe : ad' = fun k => ad (ze hs.length cs dl k) := xa'
  subst xe
  obtain ⟨hlen, hVn⟩ := hQ v' wc' hpost
  obtain ⟨P2, A2⟩ := zafter rfl hcs hnd hlen P A hk P1
  have := hVn p en s m args below meth c D tc ad0 ad ls H1 locs1 X E xa P2 A2 S1 L
  have ev : (((v'.map (zrv (ze hs.length cs dl))).toList ++ rest).map (zrv ad)) = ((v'.map (zrv (fun k => ad (ze hs.length cs dl k)))).toList ++ rest.map (zrv ad)) := by
    rw [List.map_append]
    cases v' with
    | none => rfl
    | some v' => simp only [Option.map_some, Option.toList_some, List.map_cons, List.map_nil, zrv_comp]
  rw [ev] at this
  exact this
theorem V.callSN (hM : zmok M) (hat : zins M pc = some (.invokestatic idx, nx, tg)) (hlk : zlSN (zy M).cls idx M' n) (hC : Ct l M' false d' mc' ms' T) (hR : (Nat.ble (d' + 1) R.frames && Nat.ble (8 + (zmax M' + 11) + 48 * d') R.locals && (Nat.ble (nc + mc') R.cells && Nat.ble (ns + ms') R.slots)) = true) (dl : Nat → Nat) (hdl : ∀ i, i < 27 → dl (2 * i + 1) = 2 * i + 1) (cs : List Nat) (wc : List zE) (argsC rest : List Value) (Q : Option Value → List zE → Prop) (hn : argsC.length = n) (hst : st = ((argsC.map (zrv (ze hs.length cs dl))).reverse) ++ rest) (hW : Nat.ble ((rest.map fun v => v.category).sum) 8 = true) (hnd : va_nd cs = true) (hcs : cs.map (fun i => hs[i]?) = wc.map (fun x => some (zrc (ze hs.length cs dl) x))) (hT : T argsC wc Q) (hQ : ∀ v wc', Q v wc' → wc'.length = wc.length ∧ V l M b hs0 R F (nc + mc') (ns + ms') nx lv ((v.map (zrv (ze hs.length cs dl))).toList ++ rest) (zput hs cs (wc'.map (zrc (ze hs.length cs dl))))) : V l M b hs0 R F nc ns pc lv st hs := by
  obtain ⟨hd, e0, -⟩ := zgd_dec (hM.2.1 pc _ hat) (k := 2) rfl
  subst e0
  intro p en s m args below meth c D tc ad0 ad ls H locs X E xa P A S L
  have hrl : ((rest.map (zrv ad)).map fun v => v.category).sum ≤ 8 := by
    rw [List.map_map, show ((fun v => v.category) ∘ zrv ad) = (fun v : Value => v.category) from funext (fun v => zrv_cat ad v)]
    exact Nat.le_of_ble_eq_true hW
  have hrun := zrunSN (l := l) (en := en) (below := below) (nc := nc) (ns := ns) (pc := pc) (ls := ls) (rest := rest.map (zrv ad)) X E xa P A S rfl hcs hnd hdl hlk hC hR hT hn L.1 hrl hd
  have est : st.map (zrv ad) = ((argsC.map (zrv (fun k => ad (ze hs.length cs dl k)))).reverse) ++ rest.map (zrv ad) := by
    rw [hst, List.map_append, List.map_reverse, List.map_map]
    congr 3
    funext v
    exact zrv_comp _ _ _
  rw [est]
  have hA : ∀ q, s.heap.size ≤ q → zA tc ad0 hs0 s q := fun q hq => Or.inr hq
  have hfree := va_free A S hA cs (zsubw (tc := tc) (ad := ad) rfl hcs)
  refine z_call hrun S (fun q _ h => hfree q h) hfree (fun _ _ _ h => h.2) (fun v st1 t H1 locs1 h0 ht hvm hq hz hk S1 => ?_)
  obtain ⟨⟨ad', v', wc', hv, hpost, xa', P1, K1, D1⟩, -⟩ := hq
  cases hv
  rw [ht] at P1
  have xe : ad' = fun k => ad (ze hs.length cs dl k) := xa'
  subst xe
  obtain ⟨hlen, hVn⟩ := hQ v' wc' hpost
  obtain ⟨P2, A2⟩ := zafter rfl hcs hnd hlen P A hk P1
  have := hVn p en s m args below meth c D tc ad0 ad ls H1 locs1 X E xa P2 A2 S1 L
  have ev : (((v'.map (zrv (ze hs.length cs dl))).toList ++ rest).map (zrv ad)) = ((v'.map (zrv (fun k => ad (ze hs.length cs dl k)))).toList ++ rest.map (zrv ad)) := by
    rw [List.map_append]
    cases v' with
    | none => rfl
    | some v' => simp only [Option.map_some, Option.toList_some, List.map_cons, List.map_nil, zrv_comp]
  rw [ev] at this
  exact this
theorem V.callV (hM : zmok M) (hat : zins M pc = some (.invokevirtual idx, nx, tg)) (hlk : zlV (zy M).cls idx M' n) (hC : Ct l M' false d' mc' ms' T) (hR : (Nat.ble (d' + 1) R.frames && Nat.ble (8 + (zmax M' + 11) + 48 * d') R.locals && (Nat.ble (nc + mc') R.cells && Nat.ble (ns + ms') R.slots)) = true) (dl : Nat → Nat) (hdl : ∀ i, i < 27 → dl (2 * i + 1) = 2 * i + 1) (cs : List Nat) (wc : List zE) (argsC rest : List Value) (Q : Option Value → List zE → Prop) (hn : argsC.length = n + 1) (j ci : Nat) {q : vw_C} {fs : List Value} (hj : argsC.head? = some (.ref (2 * j))) (hz : wc[j]? = some (.inr (ci, fs))) (hq : zcl[ci]? = some q) (hqc : q.1 = (zy M').cls) (hst : st = ((argsC.map (zrv (ze hs.length cs dl))).reverse) ++ rest) (hW : Nat.ble ((rest.map fun v => v.category).sum) 8 = true) (hnd : va_nd cs = true) (hcs : cs.map (fun i => hs[i]?) = wc.map (fun x => some (zrc (ze hs.length cs dl) x))) (hT : T argsC wc Q) (hQ : ∀ v wc', Q v wc' → wc'.length = wc.length ∧ V l M b hs0 R F (nc + mc') (ns + ms') nx lv ((v.map (zrv (ze hs.length cs dl))).toList ++ rest) (zput hs cs (wc'.map (zrc (ze hs.length cs dl))))) : V l M b hs0 R F nc ns pc lv st hs := by
  obtain ⟨hd, e0, -⟩ := zgd_dec (hM.2.1 pc _ hat) (k := 2) rfl
  subst e0
  intro p en s m args below meth c D tc ad0 ad ls H locs X E xa P A S L
  have hrl : ((rest.map (zrv ad)).map fun v => v.category).sum ≤ 8 := by
    rw [List.map_map, show ((fun v => v.category) ∘ zrv ad) = (fun v : Value => v.category) from funext (fun v => zrv_cat ad v)]
    exact Nat.le_of_ble_eq_true hW
  have hrun := zrunV (l := l) (en := en) (below := below) (nc := nc) (ns := ns) (pc := pc) (ls := ls) (rest := rest.map (zrv ad)) X E xa P A S rfl hcs hnd hdl hlk hC hR hT hn hj hz hq hqc L.1 hrl hd
  have est : st.map (zrv ad) = ((argsC.map (zrv (fun k => ad (ze hs.length cs dl k)))).reverse) ++ rest.map (zrv ad) := by
    rw [hst, List.map_append, List.map_reverse, List.map_map]
    congr 3
    funext v
    exact zrv_comp _ _ _
  rw [est]
  have hA : ∀ q, s.heap.size ≤ q → zA tc ad0 hs0 s q := fun q hq => Or.inr hq
  have hfree := va_free A S hA cs (zsubw (tc := tc) (ad := ad) rfl hcs)
  refine z_call hrun S (fun q _ h => hfree q h) hfree (fun _ _ _ h => h.2) (fun v st1 t H1 locs1 h0 ht hvm hq hz hk S1 => ?_)
  obtain ⟨⟨ad', v', wc', hv, hpost, xa', P1, K1, D1⟩, -⟩ := hq
  cases hv
  rw [ht] at P1
  have xe : ad' = fun k => ad (ze hs.length cs dl k) := xa'
  subst xe
  obtain ⟨hlen, hVn⟩ := hQ v' wc' hpost
  obtain ⟨P2, A2⟩ := zafter rfl hcs hnd hlen P A hk P1
  have := hVn p en s m args below meth c D tc ad0 ad ls H1 locs1 X E xa P2 A2 S1 L
  have ev : (((v'.map (zrv (ze hs.length cs dl))).toList ++ rest).map (zrv ad)) = ((v'.map (zrv (fun k => ad (ze hs.length cs dl k)))).toList ++ rest.map (zrv ad)) := by
    rw [List.map_append]
    cases v' with
    | none => rfl
    | some v' => simp only [Option.map_some, Option.toList_some, List.map_cons, List.map_nil, zrv_comp]
  rw [ev] at this
  exact this
theorem V.callI (hM : zmok M) (hat : zins M pc = some (.invokespecial idx, nx, tg)) (hlk : zlI (zy M).cls idx M' n) (hC : Ct l M' false d' mc' ms' T) (hR : (Nat.ble (d' + 1) R.frames && Nat.ble (8 + (zmax M' + 11) + 48 * d') R.locals && (Nat.ble (nc + mc') R.cells && Nat.ble (ns + ms') R.slots)) = true) (dl : Nat → Nat) (hdl : ∀ i, i < 27 → dl (2 * i + 1) = 2 * i + 1) (cs : List Nat) (wc : List zE) (argsC rest : List Value) (Q : Option Value → List zE → Prop) (hn : argsC.length = n + 1) {j : Nat} (hj : argsC.head? = some (.ref (2 * j))) (hst : st = ((argsC.map (zrv (ze hs.length cs dl))).reverse) ++ rest) (hW : Nat.ble ((rest.map fun v => v.category).sum) 8 = true) (hnd : va_nd cs = true) (hcs : cs.map (fun i => hs[i]?) = wc.map (fun x => some (zrc (ze hs.length cs dl) x))) (hT : T argsC wc Q) (hQ : ∀ v wc', Q v wc' → wc'.length = wc.length ∧ V l M b hs0 R F (nc + mc') (ns + ms') nx lv ((v.map (zrv (ze hs.length cs dl))).toList ++ rest) (zput hs cs (wc'.map (zrc (ze hs.length cs dl))))) : V l M b hs0 R F nc ns pc lv st hs := by
  obtain ⟨hd, e0, -⟩ := zgd_dec (hM.2.1 pc _ hat) (k := 2) rfl
  subst e0
  intro p en s m args below meth c D tc ad0 ad ls H locs X E xa P A S L
  have hrl : ((rest.map (zrv ad)).map fun v => v.category).sum ≤ 8 := by
    rw [List.map_map, show ((fun v => v.category) ∘ zrv ad) = (fun v : Value => v.category) from funext (fun v => zrv_cat ad v)]
    exact Nat.le_of_ble_eq_true hW
  have hrun := zrunI (l := l) (en := en) (below := below) (nc := nc) (ns := ns) (pc := pc) (ls := ls) (rest := rest.map (zrv ad)) X E xa P A S rfl hcs hnd hdl hlk hC hR hT hn hj L.1 hrl hd
  have est : st.map (zrv ad) = ((argsC.map (zrv (fun k => ad (ze hs.length cs dl k)))).reverse) ++ rest.map (zrv ad) := by
    rw [hst, List.map_append, List.map_reverse, List.map_map]
    congr 3
    funext v
    exact zrv_comp _ _ _
  rw [est]
  have hA : ∀ q, s.heap.size ≤ q → zA tc ad0 hs0 s q := fun q hq => Or.inr hq
  have hfree := va_free A S hA cs (zsubw (tc := tc) (ad := ad) rfl hcs)
  refine z_call hrun S (fun q _ h => hfree q h) hfree (fun _ _ _ h => h.2) (fun v st1 t H1 locs1 h0 ht hvm hq hz hk S1 => ?_)
  obtain ⟨⟨ad', v', wc', hv, hpost, xa', P1, K1, D1⟩, -⟩ := hq
  cases hv
  rw [ht] at P1
  have xe : ad' = fun k => ad (ze hs.length cs dl k) := xa'
  subst xe
  obtain ⟨hlen, hVn⟩ := hQ v' wc' hpost
  obtain ⟨P2, A2⟩ := zafter rfl hcs hnd hlen P A hk P1
  have := hVn p en s m args below meth c D tc ad0 ad ls H1 locs1 X E xa P2 A2 S1 L
  have ev : (((v'.map (zrv (ze hs.length cs dl))).toList ++ rest).map (zrv ad)) = ((v'.map (zrv (fun k => ad (ze hs.length cs dl k)))).toList ++ rest.map (zrv ad)) := by
    rw [List.map_append]
    cases v' with
    | none => rfl
    | some v' => simp only [Option.map_some, Option.toList_some, List.map_cons, List.map_nil, zrv_comp]
  rw [ev] at this
  exact this
end ZVC
