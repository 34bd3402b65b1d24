/-! ===== contracts, the entry, the end ===== -/
def zrm (d mc ms : Nat) : Room := { frames := d, cells := mc, slots := ms, locals := 48 * d }
def zQ (b : Bool) (D : va_G) (tc : Nat → ClassId) (ad0 : Nat → Nat) (hs0 : List zE) (Post : Option Value → List zE → Prop) (sz : Nat) : Array Value → State → Outcome → State → Prop := fun _ st oc t => (∃ (ad : Nat → Nat) (v : Option Value) (hs : List zE), oc = .returned (v.map (zrv ad)) ∧ Post v hs ∧ zadx b hs0.length ad0 ad ∧ va_P D zcl (zw tc ad hs) t.heap ∧ va_K D zcl (zty tc) t ∧ va_D (va_A (zw tc ad0 hs0) sz) (zw tc ad hs)) ∧ va_F (va_A (zw tc ad0 hs0) sz) st t
def zFm (b : Bool) (hs0 : List zE) (Post : Option Value → List zE → Prop) (mc ms : Nat) : zF := fun D tc ad0 s args below => MQ below (zQ b D tc ad0 hs0 Post s.heap.size) args s mc ms (zA tc ad0 hs0 s)
abbrev zT : Type := List Value → List zE → (Option Value → List zE → Prop) → Prop
def zPc (D : va_G) (tc : Nat → ClassId) (ad : Nat → Nat) (hs : List zE) (sz : Nat) (U : State) : Prop := U.heap.size = sz ∧ va_P D zcl (zw tc ad hs) U.heap ∧ va_K D zcl (zty tc) U ∧ va_D (fun _ => True) (zw tc ad hs) ∧ ZE ad (va_A (zw tc ad hs) sz) U U.heap
abbrev zws (M : zM) : List Cond := Cond.code (zy M) (zcode M) (zmax M) (zret M) :: z_tbl
def Ct (l : Launch) (M : zM) (b : Bool) (d mc ms : Nat) (T : zT) : Prop :=
  ∀ (D : va_G) (tc : Nat → ClassId) (ad : Nat → Nat) (args : List Value) (hs : List zE) (Q : Option Value → List zE → Prop) (sz : Nat), T args hs Q →
    Met l (zy M) (zws M) (zrm d mc ms) (va_Pc (args.map (zrv ad)) (zPc D tc ad hs sz)) (zQ b D tc ad hs Q sz) mc ms (va_A (zw tc ad hs) sz)
theorem zsl_len (ad : Nat → Nat) : ∀ vs : List Value, (lg_sl (vs.map (zrv ad))).length = (lg_sl vs).length
  | [] => rfl
  | v :: vs => by
    have ih := zsl_len ad vs
    simp only [lg_sl, List.map_cons, List.flatMap_cons, List.length_append, zrv_cat] at ih ⊢
    rw [ih]
    split <;> rfl
theorem Ct.intro {l : Launch} {M : zM} {b : Bool} {d mc ms : Nat} {T : zT} (hM : zmok M) (h : ∀ (args : List Value) (hs : List zE) (Q : Option Value → List zE → Prop), T args hs Q → (lg_sl args).length ≤ zmax M ∧ V l M b hs (zrm d mc ms) (zFm b hs Q mc ms) 0 0 0 (lv_args 0 args) [] hs) : Ct l M b d mc ms T := by
  intro D tc ad args hs Q sz hT
  obtain ⟨hlen, hV⟩ := h args hs Q hT
  refine Met.ofW (cc := zcode M) (maxL := zmax M) (ret := zret M) hM.1 rfl ?_
  intro p e s m av below meth c s₁ B hml hv
  obtain ⟨rfl, hsz, hP, hK, hD0, hE⟩ := hv
  subst hsz
  have hts := atoms_spec (ws := zws M) B.pre
  have X : zX M p s m (args.map (zrv ad)).toArray meth c D tc := ⟨B.exec, B.bytes, B.returns, hml, findClass_of_methodNamed B.named, fun w hw => hts w (List.mem_cons_of_mem _ hw), B.notSynchronized, (name_of_methodNamed B.named B.method).1, hK⟩
  have hl := lv_entry (args.map (zrv ad)) (n := zmax M) (by rw [zsl_len]; exact hlen)
  rw [lg_entry_eq]
  rw [zl_args] at hl
  have xa : zadx b hs.length ad ad := by cases b <;> simp [zadx]
  exact hV p e s m _ below meth c D tc ad ad _ s.heap [] X hE xa hP (hD0.self (sz := s.heap.size)) va_S.rf hl
section ZRET
variable {l : Launch} {M : zM} {b : Bool} {hs0 : List zE} {R : Room} {nc ns mc ms pc : Nat} {Post : Option Value → List zE → Prop}
theorem zret_ok (hnc : nc ≤ mc) (hns : ns ≤ ms) : ∀ (v : Option Value) (hs : List zE) (pc : Nat) (lv : zL) (i : Instr), zretok M i v → decode (zcode M) pc = .ok (i, 1) → Post v hs → V l M b hs0 R (zFm b hs0 Post mc ms) nc ns pc lv v.toList hs := by
  intro v hs pc lv i hr hd hp p en s m args below meth c D tc ad0 ad ls H locs X E xa P A S L
  refine W.widen (k := mc) (n := ms) hnc hns ?_
  have hq : ∀ t : State, t.heap = H → s.WarmedH t.vm → zQ b D tc ad0 hs0 Post s.heap.size args s (.returned (v.map (zrv ad))) t := fun t ht hW => ⟨⟨ad, v, hs, rfl, hp, xa, by rw [ht]; exact P, va_K.moved hW.alike X.2.2.2.2.2.2.2.2, A⟩, S.F ht⟩
  have hlocks : meth.locks = false := X.2.2.2.2.2.2.1
  unfold zretok at hr
  split at hr
  · rename_i x
    rcases hr with hr | ⟨hr, hx⟩
    · exact W.iret X.1 X.2.1 (X.2.2.1.trans hr) hq S.2.2 hd
    · exact W.zret X.1 X.2.1 (X.2.2.1.trans hr) (zbool hx).1 hq S.2.2 hd
  · exact W.lret X.1 X.2.1 (X.2.2.1.trans hr) hq S.2.2 hd
  · obtain ⟨t, hr, ht⟩ := hr
    exact W.aret X.1 X.2.1 (X.2.2.1.trans hr) ht (Or.inr ⟨_, rfl⟩) hq S.2.2 hd
  · exact W.vret X.1 X.2.1 (X.2.2.1.trans hr) hq S.2.2 hd
  · exact hr.elim
/-- a method's own instructions, computed -/
theorem V.go (n : Nat) (stops : List Nat) (hM : zmok M) (hb : (Nat.ble nc mc && Nat.ble ns ms) = true) {pc : Nat} {lv : zL} {st : List Value} {hs : List zE} (h : zrun M Post (V l M b hs0 R (zFm b hs0 Post mc ms) nc ns) stops n pc lv st hs) : V l M b hs0 R (zFm b hs0 Post mc ms) nc ns pc lv st hs := by
  rw [Bool.and_eq_true] at hb
  exact V.run n stops hM (zret_ok (Nat.le_of_ble_eq_true hb.1) (Nat.le_of_ble_eq_true hb.2)) h
end ZRET
