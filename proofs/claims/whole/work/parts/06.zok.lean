section ZOK
variable {l : Launch} {M : zM} {b : Bool} {hs0 : List zE} {R : Room} {F : zF} {nc ns pc nx : Nat} {lv : zL} {st st' : List Value} {hs hs' : List zE}
theorem V.pure (h : V l M b hs0 R F nc ns nx lv st' hs) (hst : ∀ {p : Program} {e : Env} {s : State} {m : MethodId} {args : Array Value} {below : List Frame} {meth : Method} {c : Code} {ls : Array Slot} {H : Heap} {locs : List Loc} {Q : State → Prop} (ad : Nat → Nat), p.tables.exec = Jvm.exec → c.code = zcode M → W p l e R s m args below meth c H locs nc ns Q (F0 m nx ls (st'.map (zrv ad))) → W p l e R s m args below meth c H locs nc ns Q (F0 m pc ls (st.map (zrv ad)))) : V l M b hs0 R F nc ns pc lv st hs :=
  fun p e s m args below meth c D tc ad0 ad ls H locs X E xa P A S L => hst ad X.1 X.2.1 (h p e s m args below meth c D tc ad0 ad ls H locs X E xa P A S L)
theorem V.load {i : Nat} {v : Value} (hg : zgt lv i = some v) (h : V l M b hs0 R F nc ns nx lv (v :: st) hs) (hst : ∀ {p : Program} {e : Env} {s : State} {m : MethodId} {args : Array Value} {below : List Frame} {meth : Method} {c : Code} {ls : Array Slot} {H : Heap} {locs : List Loc} {Q : State → Prop} (ad : Nat → Nat), p.tables.exec = Jvm.exec → c.code = zcode M → ls[i]? = some (.val (zrv ad v)) → W p l e R s m args below meth c H locs nc ns Q (F0 m nx ls (zrv ad v :: st.map (zrv ad))) → W p l e R s m args below meth c H locs nc ns Q (F0 m pc ls (st.map (zrv ad)))) : V l M b hs0 R F nc ns pc lv st hs :=
  fun p e s m args below meth c D tc ad0 ad ls H locs X E xa P A S L => hst ad X.1 X.2.1 (zgt_spec L hg) (h p e s m args below meth c D tc ad0 ad ls H locs X E xa P A S L)
theorem V.brn {c0 : ClassFile.Cond} {x y : Int32} {tg : Nat} (h : zbr c0 x y (V l M b hs0 R F nc ns tg lv st' hs) (V l M b hs0 R F nc ns nx lv st' hs)) (hst : ∀ {p : Program} {e : Env} {s : State} {m : MethodId} {args : Array Value} {below : List Frame} {meth : Method} {c : Code} {ls : Array Slot} {H : Heap} {locs : List Loc} {Q : State → Prop} (ad : Nat → Nat), p.tables.exec = Jvm.exec → c.code = zcode M → zbr c0 x y (W p l e R s m args below meth c H locs nc ns Q (F0 m tg ls (st'.map (zrv ad)))) (W p l e R s m args below meth c H locs nc ns Q (F0 m nx ls (st'.map (zrv ad)))) → W p l e R s m args below meth c H locs nc ns Q (F0 m pc ls (st.map (zrv ad)))) : V l M b hs0 R F nc ns pc lv st hs := by
  intro p e s m args below meth c D tc ad0 ad ls H locs X E xa P A S L
  refine hst ad X.1 X.2.1 ?_
  cases c0 <;> exact ⟨fun q => h.1 q p e s m args below meth c D tc ad0 ad ls H locs X E xa P A S L, fun q => h.2 q p e s m args below meth c D tc ad0 ad ls H locs X E xa P A S L⟩
def zretok (M : zM) (i : Instr) (v : Option Value) : Prop := match i, v with
  | .ireturn, some (.int x) => zret M = some .int ∨ (zret M = some .boolean ∧ (x = 0 ∨ x = 1))
  | .lreturn, some (.long _) => zret M = some .long
  | .areturn, some (.ref _) => ∃ t, zret M = some t ∧ ((∃ n, t = .object n) ∨ ∃ u, t = .array u)
  | .return_, none => zret M = none
  | _, _ => False
theorem zty_get0 (tc : Nat → ClassId) : (zty tc)[0]? = some (tc 0, .int) := rfl
theorem zkd {ty : FieldType} {f : Bool} {kd : Nat} {O : Prop} (h : kd = 9 ∨ (kd = zkind ty + (if f = true then 4 else 0) ∧ (f = true → O))) : (f = true → ¬ kd = 9 → O) ∧ (kd = 0 → ty = .int ∧ f = false) ∧ (kd = 1 → ty = .boolean ∧ f = false) ∧ (kd = 2 → ty = .long ∧ f = false) ∧ (kd = 3 → ((∃ n, ty = .object n) ∨ ∃ u, ty = .array u) ∧ f = false) ∧ (kd = 5 → ty = .boolean ∧ f = true) ∧ (kd = 7 → ((∃ n, ty = .object n) ∨ ∃ u, ty = .array u) ∧ f = true) := by
  rcases h with rfl | ⟨rfl, ho⟩
  · simp
  · cases f <;> cases ty <;> simp_all [zkind]
theorem zbool {x : Int32} (h : x = 0 ∨ x = 1) : narrow .boolean (.int x) = .int x ∧ fits .boolean (.int x) = true := by
  rcases h with rfl | rfl <;> exact ⟨rfl, rfl⟩
theorem zreft {ty : FieldType} (h : (∃ n, ty = .object n) ∨ ∃ u, ty = .array u) (a : Nat) : narrow ty (.ref a) = .ref a ∧ fits ty (.ref a) = true := by
  rcases h with ⟨n, rfl⟩ | ⟨u, rfl⟩ <;> exact ⟨rfl, rfl⟩
theorem zgt_idx {ad : Nat → Nat} : ∀ {lv : zL} {i : Nat} {v : Value}, zgt lv i = some v → ∃ k : Nat, (zl ad lv)[k]? = some (i, zrv ad v)
  | [], _, _, h => by cases h
  | (j, w) :: lv, i, v, h => by
    simp only [zgt] at h
    cases hb : Nat.beq j i with
    | true => rw [hb] at h; cases h; rw [← Nat.eq_of_beq_eq_true hb]; exact ⟨0, rfl⟩
    | false =>
      rw [hb] at h
      obtain ⟨k, hk⟩ := zgt_idx (ad := ad) (lv := lv) h
      exact ⟨k + 1, hk⟩
theorem zbr_mono {c : ClassFile.Cond} {x y : Int32} {A B A' B' : Prop} (ha : A → A') (hb : B → B') (h : zbr c x y A B) : zbr c x y A' B' := by
  cases c <;> exact ⟨fun q => ha (h.1 q), fun q => hb (h.2 q)⟩
set_option maxHeartbeats 4000000 in
theorem zstep_ok (hM : zmok M) {Rt : Option Value → List zE → Prop} (hR : ∀ (v : Option Value) (hs : List zE) (pc : Nat) (lv : zL) (i : Instr), zretok M i v → decode (zcode M) pc = .ok (i, 1) → Rt v hs → V l M b hs0 R F nc ns pc lv v.toList hs) {K : zK} (hK : ∀ pc lv st hs, K pc lv st hs → V l M b hs0 R F nc ns pc lv st hs) {i : zI} (hat : zins M pc = some i) (h : zstep M Rt K (V l M b hs0 R F nc ns) i pc lv st hs) : V l M b hs0 R F nc ns pc lv st hs := by
  have hg := hM.2.1 pc i hat
  obtain ⟨i, nx, tg⟩ := i
  cases i
  case iconst n =>
    obtain ⟨hd, e, -⟩ := zgd_dec hg (k := 0) rfl
    subst e
    exact V.pure (hK _ _ _ _ h) (fun ad hx hb k => lv_iconst hx hb hd (zi_eq n).symm k)
  case bipush n =>
    obtain ⟨hd, e, hv⟩ := zgd_dec hg (k := 1) rfl
    subst e
    exact V.pure (hK _ _ _ _ h) (fun ad hx hb k => lv_bipush hx hb hd (of_decide_eq_true hv) k)
  case sipush n =>
    obtain ⟨hd, e, hv⟩ := zgd_dec hg (k := 2) rfl
    subst e
    exact V.pure (hK _ _ _ _ h) (fun ad hx hb k => lv_sipush hx hb hd (of_decide_eq_true hv) k)
  case lconst n =>
    obtain ⟨hd, e, -⟩ := zgd_dec hg (k := 0) rfl
    subst e
    exact V.pure (hK _ _ _ _ h) (fun ad hx hb k => lv_lconst hx hb hd rfl k)
  case iload_n k =>
    obtain ⟨hd, e, -⟩ := zgd_dec hg (k := 0) rfl
    subst e
    simp only [zstep] at h
    split at h
    · rename_i x hx
      exact V.load hx (hK _ _ _ _ h) (fun ad hx hb hl k => lv_iload_n hx hb hd rfl hl k)
    · exact h.elim
  case iload k =>
    obtain ⟨hd, e, -⟩ := zgd_dec hg (k := 1) rfl
    subst e
    simp only [zstep] at h
    split at h
    · rename_i x hx
      exact V.load hx (hK _ _ _ _ h) (fun ad hx hb hl k => lv_iload hx hb hd hl k)
    · exact h.elim
  case lload_n k =>
    obtain ⟨hd, e, -⟩ := zgd_dec hg (k := 0) rfl
    subst e
    simp only [zstep] at h
    split at h
    · rename_i x hx
      exact V.load hx (hK _ _ _ _ h) (fun ad hx hb hl k => lv_lload_n hx hb hd rfl hl k)
    · exact h.elim
  case lload k =>
    obtain ⟨hd, e, -⟩ := zgd_dec hg (k := 1) rfl
    subst e
    simp only [zstep] at h
    split at h
    · rename_i x hx
      exact V.load hx (hK _ _ _ _ h) (fun ad hx hb hl k => lv_lload hx hb hd hl k)
    · exact h.elim
  case aload_n k =>
    obtain ⟨hd, e, -⟩ := zgd_dec hg (k := 0) rfl
    subst e
    simp only [zstep] at h
    split at h
    · rename_i x hx
      exact V.load hx (hK _ _ _ _ h) (fun ad hx hb hl k => lv_aload_n hx hb hd rfl hl k)
    · exact h.elim
  case aload k =>
    obtain ⟨hd, e, -⟩ := zgd_dec hg (k := 1) rfl
    subst e
    simp only [zstep] at h
    split at h
    · rename_i x hx
      exact V.load hx (hK _ _ _ _ h) (fun ad hx hb hl k => lv_aload hx hb hd hl k)
    · exact h.elim
  case iadd =>
    obtain ⟨hd, e, -⟩ := zgd_dec hg (k := 0) rfl
    subst e
    simp only [zstep] at h
    split at h
    · exact V.pure (hK _ _ _ _ h) (fun ad hx hb k => lv_iadd hx hb hd k)
    · exact h.elim
  case isub =>
    obtain ⟨hd, e, -⟩ := zgd_dec hg (k := 0) rfl
    subst e
    simp only [zstep] at h
    split at h
    · exact V.pure (hK _ _ _ _ h) (fun ad hx hb k => lv_isub hx hb hd k)
    · exact h.elim
  case imul =>
    obtain ⟨hd, e, -⟩ := zgd_dec hg (k := 0) rfl
    subst e
    simp only [zstep] at h
    split at h
    · exact V.pure (hK _ _ _ _ h) (fun ad hx hb k => lv_imul hx hb hd k)
    · exact h.elim
  case iand =>
    obtain ⟨hd, e, -⟩ := zgd_dec hg (k := 0) rfl
    subst e
    simp only [zstep] at h
    split at h
    · exact V.pure (hK _ _ _ _ h) (fun ad hx hb k => lv_iand hx hb hd k)
    · exact h.elim
  case ior =>
    obtain ⟨hd, e, -⟩ := zgd_dec hg (k := 0) rfl
    subst e
    simp only [zstep] at h
    split at h
    · exact V.pure (hK _ _ _ _ h) (fun ad hx hb k => lv_ior hx hb hd k)
    · exact h.elim
  case ishl =>
    obtain ⟨hd, e, -⟩ := zgd_dec hg (k := 0) rfl
    subst e
    simp only [zstep] at h
    split at h
    · exact V.pure (hK _ _ _ _ h) (fun ad hx hb k => lv_ishl hx hb hd k)
    · exact h.elim
  case ishr =>
    obtain ⟨hd, e, -⟩ := zgd_dec hg (k := 0) rfl
    subst e
    simp only [zstep] at h
    split at h
    · exact V.pure (hK _ _ _ _ h) (fun ad hx hb k => lv_ishr hx hb hd k)
    · exact h.elim
  case ineg =>
    obtain ⟨hd, e, -⟩ := zgd_dec hg (k := 0) rfl
    subst e
    simp only [zstep] at h
    split at h
    · exact V.pure (hK _ _ _ _ h) (fun ad hx hb k => lv_ineg hx hb hd k)
    · exact h.elim
  case ladd =>
    obtain ⟨hd, e, -⟩ := zgd_dec hg (k := 0) rfl
    subst e
    simp only [zstep] at h
    split at h
    · exact V.pure (hK _ _ _ _ h) (fun ad hx hb k => lv_ladd hx hb hd k)
    · exact h.elim
  case lsub =>
    obtain ⟨hd, e, -⟩ := zgd_dec hg (k := 0) rfl
    subst e
    simp only [zstep] at h
    split at h
    · exact V.pure (hK _ _ _ _ h) (fun ad hx hb k => lv_lsub hx hb hd k)
    · exact h.elim
  case lmul =>
    obtain ⟨hd, e, -⟩ := zgd_dec hg (k := 0) rfl
    subst e
    simp only [zstep] at h
    split at h
    · exact V.pure (hK _ _ _ _ h) (fun ad hx hb k => lv_lmul hx hb hd k)
    · exact h.elim
  case lneg =>
    obtain ⟨hd, e, -⟩ := zgd_dec hg (k := 0) rfl
    subst e
    simp only [zstep] at h
    split at h
    · exact V.pure (hK _ _ _ _ h) (fun ad hx hb k => lv_lneg hx hb hd k)
    · exact h.elim
  case lcmp =>
    obtain ⟨hd, e, -⟩ := zgd_dec hg (k := 0) rfl
    subst e
    simp only [zstep] at h
    split at h
    · exact V.pure (hK _ _ _ _ h) (fun ad hx hb k => W.lcmp hx hb hd k)
    · exact h.elim
  case idiv =>
    obtain ⟨hd, e, -⟩ := zgd_dec hg (k := 0) rfl
    subst e
    simp only [zstep] at h
    split at h
    · exact V.pure (hK _ _ _ _ h.2) (fun ad hx hb k => lv_idiv hx hb hd h.1 k)
    · exact h.elim
  case irem =>
    obtain ⟨hd, e, -⟩ := zgd_dec hg (k := 0) rfl
    subst e
    simp only [zstep] at h
    split at h
    · exact V.pure (hK _ _ _ _ h.2) (fun ad hx hb k => lv_irem hx hb hd h.1 k)
    · exact h.elim
  case ldiv =>
    obtain ⟨hd, e, -⟩ := zgd_dec hg (k := 0) rfl
    subst e
    simp only [zstep] at h
    split at h
    · exact V.pure (hK _ _ _ _ h.2) (fun ad hx hb k => lv_ldiv hx hb hd h.1 k)
    · exact h.elim
  case lrem =>
    obtain ⟨hd, e, -⟩ := zgd_dec hg (k := 0) rfl
    subst e
    simp only [zstep] at h
    split at h
    · exact V.pure (hK _ _ _ _ h.2) (fun ad hx hb k => lv_lrem hx hb hd h.1 k)
    · exact h.elim
  case i2l =>
    obtain ⟨hd, e, -⟩ := zgd_dec hg (k := 0) rfl
    subst e
    simp only [zstep] at h
    split at h
    · exact V.pure (hK _ _ _ _ h) (fun ad hx hb k => lv_i2l hx hb hd rfl k)
    · exact h.elim
  case l2i =>
    obtain ⟨hd, e, -⟩ := zgd_dec hg (k := 0) rfl
    subst e
    simp only [zstep] at h
    split at h
    · exact V.pure (hK _ _ _ _ h) (fun ad hx hb k => lv_l2i hx hb hd rfl k)
    · exact h.elim
  case i2b =>
    obtain ⟨hd, e, -⟩ := zgd_dec hg (k := 0) rfl
    subst e
    simp only [zstep] at h
    split at h
    · exact V.pure (hK _ _ _ _ h) (fun ad hx hb k => lv_i2b hx hb hd rfl k)
    · exact h.elim
  case i2s =>
    obtain ⟨hd, e, -⟩ := zgd_dec hg (k := 0) rfl
    subst e
    simp only [zstep] at h
    split at h
    · exact V.pure (hK _ _ _ _ h) (fun ad hx hb k => lv_i2s hx hb hd rfl k)
    · exact h.elim
  case dup =>
    obtain ⟨hd, e, -⟩ := zgd_dec hg (k := 0) rfl
    subst e
    simp only [zstep] at h
    split at h
    · exact V.pure (hK _ _ _ _ h) (fun ad hx hb k => lv_dup hx hb hd rfl k)
    · exact V.pure (hK _ _ _ _ h) (fun ad hx hb k => lv_dup hx hb hd rfl k)
    · exact h.elim
  case dup2 =>
    obtain ⟨hd, e, -⟩ := zgd_dec hg (k := 0) rfl
    subst e
    simp only [zstep] at h
    split at h
    · exact V.pure (hK _ _ _ _ h) (fun ad hx hb k => lv_dup2_11 hx hb hd rfl rfl k)
    · exact h.elim
  case pop =>
    obtain ⟨hd, e, -⟩ := zgd_dec hg (k := 0) rfl
    subst e
    simp only [zstep] at h
    split at h
    · exact V.pure (hK _ _ _ _ h) (fun ad hx hb k => lv_pop hx hb hd rfl k)
    · exact V.pure (hK _ _ _ _ h) (fun ad hx hb k => lv_pop hx hb hd rfl k)
    · exact h.elim
  case goto off =>
    obtain ⟨hd, e, hv⟩ := zgd_dec hg (k := 2) rfl
    subst e
    simp only [zstep] at h
    exact V.pure (hK _ _ _ _ h) (fun ad hx hb k => lv_goto hx hb hd (of_decide_eq_true hv) k)
  case ifCond c0 off =>
    obtain ⟨hd, e, hv⟩ := zgd_dec hg (k := 2) rfl
    subst e
    simp only [zstep] at h
    split at h
    · refine V.brn (zbr_mono (hK _ _ _ _) (hK _ _ _ _) h) (fun ad hx hb k => ?_)
      have ht := of_decide_eq_true hv
      cases c0
      · exact lv_if_eq hx hb hd ht k.1 k.2
      · exact lv_if_ne hx hb hd ht k.1 k.2
      · exact lv_if_lt hx hb hd ht k.1 k.2
      · exact lv_if_ge hx hb hd ht k.1 k.2
      · exact lv_if_gt hx hb hd ht k.1 k.2
      · exact lv_if_le hx hb hd ht k.1 k.2
    · exact h.elim
  case if_icmp c0 off =>
    obtain ⟨hd, e, hv⟩ := zgd_dec hg (k := 2) rfl
    subst e
    simp only [zstep] at h
    split at h
    · refine V.brn (zbr_mono (hK _ _ _ _) (hK _ _ _ _) h) (fun ad hx hb k => ?_)
      have ht := of_decide_eq_true hv
      cases c0
      · exact lv_icmp_eq hx hb hd ht k.1 k.2
      · exact lv_icmp_ne hx hb hd ht k.1 k.2
      · exact lv_icmp_lt hx hb hd ht k.1 k.2
      · exact lv_icmp_ge hx hb hd ht k.1 k.2
      · exact lv_icmp_gt hx hb hd ht k.1 k.2
      · exact lv_icmp_le hx hb hd ht k.1 k.2
    · exact h.elim
  case ifnonnull off =>
    obtain ⟨hd, e, hv⟩ := zgd_dec hg (k := 2) rfl
    subst e
    simp only [zstep] at h
    split at h
    · exact V.pure (hK _ _ _ _ h) (fun ad hx hb k => lv_ifnonnull hx hb hd (of_decide_eq_true hv) k)
    · exact V.pure (hK _ _ _ _ h) (fun ad hx hb k => lv_ifnonnullN hx hb hd k)
    · exact h.elim
  case ldc k =>
    obtain ⟨hd, e, -⟩ := zgd_dec hg (k := 1) rfl
    subst e
    simp only [zstep] at h
    split at h
    · rename_i v hv
      intro p en s m args below meth c D tc ad0 ad ls H locs X E xa P A S L
      exact lv_ldc X.1 X.2.1 X.2.2.2.2.1 (X.2.2.2.2.2.1 _ (hM.2.2.2.1 _ (zfd_mem hv))) hd (hK _ _ _ _ h p en s m args below meth c D tc ad0 ad ls H locs X E xa P A S L)
    · exact h
  case ldc_w k =>
    obtain ⟨hd, e, -⟩ := zgd_dec hg (k := 2) rfl
    subst e
    simp only [zstep] at h
    split at h
    · rename_i v hv
      intro p en s m args below meth c D tc ad0 ad ls H locs X E xa P A S L
      exact lv_ldcw X.1 X.2.1 X.2.2.2.2.1 (X.2.2.2.2.2.1 _ (hM.2.2.2.1 _ (zfd_mem hv))) hd (hK _ _ _ _ h p en s m args below meth c D tc ad0 ad ls H locs X E xa P A S L)
    · exact h
  case ldc2_w k =>
    obtain ⟨hd, e, -⟩ := zgd_dec hg (k := 2) rfl
    subst e
    simp only [zstep] at h
    split at h
    · rename_i v hv
      intro p en s m args below meth c D tc ad0 ad ls H locs X E xa P A S L
      exact lv_ldc2 X.1 X.2.1 X.2.2.2.2.1 (X.2.2.2.2.2.1 _ (hM.2.2.2.2 _ (zfd_mem hv))) hd (hK _ _ _ _ h p en s m args below meth c D tc ad0 ad ls H locs X E xa P A S L)
    · exact h
  case istore_n k =>
    obtain ⟨hd, e, hv⟩ := zgd_dec hg (k := 0) rfl
    subst e
    simp only [zstep] at h
    split at h
    · rename_i x r
      intro p en s m args below meth c D tc ad0 ad ls H locs X E xa P A S L
      refine lv_istore_n X.1 X.2.1 hd rfl L (Nat.le_of_ble_eq_true hv) (by rw [zs1_eq]) (fun ls hl => ?_)
      exact hK _ _ _ _ h p en s m args below meth c D tc ad0 ad ls H locs X E xa P A S hl
    · exact h.elim
  case istore k =>
    obtain ⟨hd, e, hv⟩ := zgd_dec hg (k := 1) rfl
    subst e
    simp only [zstep] at h
    split at h
    · rename_i x r
      intro p en s m args below meth c D tc ad0 ad ls H locs X E xa P A S L
      refine lv_istore X.1 X.2.1 hd L (Nat.le_of_ble_eq_true hv) (by rw [zs1_eq]) (fun ls hl => ?_)
      exact hK _ _ _ _ h p en s m args below meth c D tc ad0 ad ls H locs X E xa P A S hl
    · exact h.elim
  case astore_n k =>
    obtain ⟨hd, e, hv⟩ := zgd_dec hg (k := 0) rfl
    subst e
    simp only [zstep] at h
    split at h
    · rename_i x r
      intro p en s m args below meth c D tc ad0 ad ls H locs X E xa P A S L
      refine lv_astore_n X.1 X.2.1 hd rfl L (Nat.le_of_ble_eq_true hv) (by rw [zs1_eq]) (fun ls hl => ?_)
      exact hK _ _ _ _ h p en s m args below meth c D tc ad0 ad ls H locs X E xa P A S hl
    · exact h.elim
  case astore k =>
    obtain ⟨hd, e, hv⟩ := zgd_dec hg (k := 1) rfl
    subst e
    simp only [zstep] at h
    split at h
    · rename_i x r
      intro p en s m args below meth c D tc ad0 ad ls H locs X E xa P A S L
      refine lv_astore X.1 X.2.1 hd L (Nat.le_of_ble_eq_true hv) (by rw [zs1_eq]) (fun ls hl => ?_)
      exact hK _ _ _ _ h p en s m args below meth c D tc ad0 ad ls H locs X E xa P A S hl
    · exact h.elim
  case lstore_n k =>
    obtain ⟨hd, e, hv⟩ := zgd_dec hg (k := 0) rfl
    subst e
    simp only [zstep] at h
    split at h
    · rename_i x r
      intro p en s m args below meth c D tc ad0 ad ls H locs X E xa P A S L
      refine lv_lstore_n X.1 X.2.1 hd rfl L (Nat.le_of_ble_eq_true hv) (by rw [zs2_eq]) (fun ls hl => ?_)
      exact hK _ _ _ _ h p en s m args below meth c D tc ad0 ad ls H locs X E xa P A S hl
    · exact h.elim
  case lstore k =>
    obtain ⟨hd, e, hv⟩ := zgd_dec hg (k := 1) rfl
    subst e
    simp only [zstep] at h
    split at h
    · rename_i x r
      intro p en s m args below meth c D tc ad0 ad ls H locs X E xa P A S L
      refine lv_lstore X.1 X.2.1 hd L (Nat.le_of_ble_eq_true hv) (by rw [zs2_eq]) (fun ls hl => ?_)
      exact hK _ _ _ _ h p en s m args below meth c D tc ad0 ad ls H locs X E xa P A S hl
    · exact h.elim
  case iinc k n =>
    obtain ⟨hd, e, hv⟩ := zgd_dec hg (k := 2) rfl
    subst e
    simp only [zstep] at h
    split at h
    · rename_i x hx
      intro p en s m args below meth c D tc ad0 ad ls H locs X E xa P A S L
      obtain ⟨k0, hk0⟩ := zgt_idx (ad := ad) hx
      refine lv_iinc X.1 X.2.1 hd L hk0 rfl (Nat.le_of_ble_eq_true hv) (by rw [zs1_eq, ← zi_eq]) (fun ls hl => ?_)
      exact hK _ _ _ _ h p en s m args below meth c D tc ad0 ad ls H locs X E xa P A S hl
    · exact h.elim
  case arraylength =>
    obtain ⟨hd, e, -⟩ := zgd_dec hg (k := 0) rfl
    subst e
    simp only [zstep] at h
    split at h
    · rename_i a r
      split at h
      · rename_i n f hz
        obtain ⟨q, rfl, hq⟩ := zat_spec hz
        intro p en s m args below meth c D tc ad0 ad ls H locs X E xa P A S L
        exact va_alen X.1 X.2.1 X.2.2.2.2.2.2.2.2 P q 0 (zw_get hq) (zty_get0 tc) rfl hd (hK _ _ _ _ h p en s m args below meth c D tc ad0 ad ls H locs X E xa P A S L)
      · exact h.elim
    · exact h.elim
  case iaload =>
    obtain ⟨hd, e, -⟩ := zgd_dec hg (k := 0) rfl
    subst e
    simp only [zstep] at h
    split at h
    · rename_i j a r
      split at h
      · rename_i n f hz
        obtain ⟨q, rfl, hq⟩ := zat_spec hz
        intro p en s m args below meth c D tc ad0 ad ls H locs X E xa P A S L
        exact va_iald X.1 X.2.1 X.2.2.2.2.2.2.2.2 P q 0 (zw_get hq) (zty_get0 tc) h.1 hd (hK _ _ _ _ h.2 p en s m args below meth c D tc ad0 ad ls H locs X E xa P A S L)
      · exact h.elim
    · exact h.elim
  case iastore =>
    obtain ⟨hd, e, -⟩ := zgd_dec hg (k := 0) rfl
    subst e
    simp only [zstep] at h
    split at h
    · rename_i x j a r
      split at h
      · rename_i n f hz
        obtain ⟨q, rfl, hq⟩ := zat_spec hz
        have e2 : 2 * q / 2 = q := Nat.mul_div_cancel_left q (by decide)
        rw [e2] at h
        intro p en s m args below meth c D tc ad0 ad ls H locs X E xa P A S L
        refine va_iast X.1 X.2.1 X.2.2.2.2.2.2.2.2 P A S q 0 (zw_get hq) (zty_get0 tc) h.1 hd (fun H1 locs1 P1 A1 S1 => ?_)
        have ew := zw_set (tc := tc) (ad := ad) (hs := hs) (i := q) (x := .inl (0, n, .inl (upd f j.toNatClampNeg x)))
        rw [show zc tc ad (.inl (0, n, .inl (upd f j.toNatClampNeg x))) = .inl (tc 0, n, .inl (upd f j.toNatClampNeg x)) from rfl] at ew
        rw [ew] at P1 A1
        exact hK _ _ _ _ h.2 p en s m args below meth c D tc ad0 ad ls H1 locs1 X E xa P1 A1 S1 L
      · exact h.elim
    · exact h.elim
  case aaload =>
    obtain ⟨hd, e, -⟩ := zgd_dec hg (k := 0) rfl
    subst e
    simp only [zstep] at h
    split at h
    · rename_i j a r
      split at h
      · rename_i n g hz
        obtain ⟨q, rfl, hq⟩ := zat_spec hz
        intro p en s m args below meth c D tc ad0 ad ls H locs X E xa P A S L
        have hk := hK _ _ _ _ h.2 p en s m args below meth c D tc ad0 ad ls H locs X E xa P A S L
        rw [List.map_cons, zrv_rf] at hk
        exact va_aldq X.1 X.2.1 X.2.2.2.2.2.2.2.2 P q 1 (zw_get hq) (show (zty tc)[1]? = some (tc 1, .object RX5) from rfl) h.1 hd hk
      · rename_i n g hz
        obtain ⟨q, rfl, hq⟩ := zat_spec hz
        intro p en s m args below meth c D tc ad0 ad ls H locs X E xa P A S L
        have hk := hK _ _ _ _ h.2 p en s m args below meth c D tc ad0 ad ls H locs X E xa P A S L
        rw [List.map_cons, zrv_rf] at hk
        exact va_aldq X.1 X.2.1 X.2.2.2.2.2.2.2.2 P q 2 (zw_get hq) (show (zty tc)[2]? = some (tc 2, .object RX4) from rfl) h.1 hd hk
      · exact h.elim
    · exact h.elim
  case getfield k =>
    obtain ⟨hd, e, -⟩ := zgd_dec hg (k := 2) rfl
    subst e
    simp only [zstep] at h
    split at h
    · rename_i a r
      split at h
      · rename_i ci kk kd hf
        obtain ⟨C, T, N, ty, hc, hk, hlk, hty, hkd⟩ := hM.2.2.1 _ (zfd_mem hf)
        split at h
        · rename_i ci2 fs hz
          obtain ⟨q, rfl, hq⟩ := zat_spec hz
          cases hb : Nat.beq ci ci2 with
          | false => rw [hb] at h; exact h.elim
          | true =>
            rw [hb] at h
            have e1 := Nat.eq_of_beq_eq_true hb
            subst e1
            simp only [cond_true] at h
            split at h
            · rename_i v hv
              intro p en s m args below meth c D tc ad0 ad ls H locs X E xa P A S L
              refine va_get X.1 X.2.1 (Ts := z_tbl) X.2.2.2.2.2.1 (zcl_all _ _ hc).1 X.2.2.2.2.1 X.2.2.2.2.2.2.2.2 P q (zw_get hq) hc kk hk (X.2.2.2.2.2.1 _ hlk) (fun x h => h) (v := zrv ad v) ?_ hd (hK _ _ _ _ h p en s m args below meth c D tc ad0 ad ls H locs X E xa P A S L)
              rw [List.getElem?_map, hv]
              rfl
            · exact h.elim
        · exact h.elim
      · exact h.elim
    · exact h.elim
  case putfield k =>
    obtain ⟨hd, e, -⟩ := zgd_dec hg (k := 2) rfl
    subst e
    simp only [zstep] at h
    split at h
    · rename_i v a r
      split at h
      · rename_i ci kk kd hf
        obtain ⟨C, T, N, ty, hc, hk, hlk, hty, hkd⟩ := hM.2.2.1 _ (zfd_mem hf)
        obtain ⟨hfin, k0, k1, k2, k3, k5, k7⟩ := zkd hkd
        split at h
        · rename_i ci2 fs hz
          obtain ⟨q, rfl, hq⟩ := zat_spec hz
          have e2 : 2 * q / 2 = q := Nat.mul_div_cancel_left q (by decide)
          rw [e2] at h
          cases hb : (Nat.beq ci ci2 && Nat.ble (kk + 1) fs.length) with
          | false => rw [hb] at h; exact h.elim
          | true =>
            rw [hb] at h
            rw [Bool.and_eq_true] at hb
            have e1 := Nat.eq_of_beq_eq_true hb.1
            have hlen : kk < fs.length := Nat.le_of_ble_eq_true hb.2
            subst e1
            simp only [cond_true] at h
            split at h <;> (try rename_i x)
            · obtain ⟨hty1, hfin1⟩ := k0 rfl
              intro p en s m args below meth c D tc ad0 ad ls H locs X E xa P A S L
              obtain ⟨hin, ⟨ty0, hty0⟩, hnm⟩ := zcl_all _ _ hc
              have hnf := (show narrow ty (.int x) = .int x ∧ fits ty (.int x) = true by rw [hty1]; exact ⟨rfl, rfl⟩)
              refine va_put X.1 X.2.1 (Ts := z_tbl) X.2.2.2.2.2.1 hin ty0 hty0 hnm X.2.2.2.2.1 X.2.2.2.2.2.2.2.2 P A S q (zw_get hq) hc kk hk (X.2.2.2.2.2.1 _ hlk) (fun x h => h) hfin1 hty hnf.1 hnf.2 (by rw [List.length_map]; exact hlen) hd (fun H1 locs1 P1 A1 S1 => ?_)
              have ew := zw_set (tc := tc) (ad := ad) (hs := hs) (i := q) (x := .inr (ci, fs.set kk (.int x)))
              rw [show zc tc ad (.inr (ci, fs.set kk (.int x))) = .inr (ci, (fs.map (zrv ad)).set kk (zrv ad (.int x))) by rw [zc, List.map_set]] at ew
              rw [show (zrv ad (.int x)) = zrv ad (.int x) from rfl] at P1 A1
              rw [ew] at P1 A1
              exact hK _ _ _ _ h p en s m args below meth c D tc ad0 ad ls H1 locs1 X E xa P1 A1 S1 L
            · obtain ⟨hty1, hfin1⟩ := k1 rfl
              intro p en s m args below meth c D tc ad0 ad ls H locs X E xa P A S L
              obtain ⟨hin, ⟨ty0, hty0⟩, hnm⟩ := zcl_all _ _ hc
              have hnf := (show narrow ty (.int x) = .int x ∧ fits ty (.int x) = true by rw [hty1]; exact zbool h.1)
              refine va_put X.1 X.2.1 (Ts := z_tbl) X.2.2.2.2.2.1 hin ty0 hty0 hnm X.2.2.2.2.1 X.2.2.2.2.2.2.2.2 P A S q (zw_get hq) hc kk hk (X.2.2.2.2.2.1 _ hlk) (fun x h => h) hfin1 hty hnf.1 hnf.2 (by rw [List.length_map]; exact hlen) hd (fun H1 locs1 P1 A1 S1 => ?_)
              have ew := zw_set (tc := tc) (ad := ad) (hs := hs) (i := q) (x := .inr (ci, fs.set kk (.int x)))
              rw [show zc tc ad (.inr (ci, fs.set kk (.int x))) = .inr (ci, (fs.map (zrv ad)).set kk (zrv ad (.int x))) by rw [zc, List.map_set]] at ew
              rw [show (zrv ad (.int x)) = zrv ad (.int x) from rfl] at P1 A1
              rw [ew] at P1 A1
              exact hK _ _ _ _ h.2 p en s m args below meth c D tc ad0 ad ls H1 locs1 X E xa P1 A1 S1 L
            · obtain ⟨hty1, hfin1⟩ := k2 rfl
              intro p en s m args below meth c D tc ad0 ad ls H locs X E xa P A S L
              obtain ⟨hin, ⟨ty0, hty0⟩, hnm⟩ := zcl_all _ _ hc
              have hnf := (show narrow ty (.long x) = .long x ∧ fits ty (.long x) = true by rw [hty1]; exact ⟨rfl, rfl⟩)
              refine va_put X.1 X.2.1 (Ts := z_tbl) X.2.2.2.2.2.1 hin ty0 hty0 hnm X.2.2.2.2.1 X.2.2.2.2.2.2.2.2 P A S q (zw_get hq) hc kk hk (X.2.2.2.2.2.1 _ hlk) (fun x h => h) hfin1 hty hnf.1 hnf.2 (by rw [List.length_map]; exact hlen) hd (fun H1 locs1 P1 A1 S1 => ?_)
              have ew := zw_set (tc := tc) (ad := ad) (hs := hs) (i := q) (x := .inr (ci, fs.set kk (.long x)))
              rw [show zc tc ad (.inr (ci, fs.set kk (.long x))) = .inr (ci, (fs.map (zrv ad)).set kk (zrv ad (.long x))) by rw [zc, List.map_set]] at ew
              rw [show (zrv ad (.long x)) = zrv ad (.long x) from rfl] at P1 A1
              rw [ew] at P1 A1
              exact hK _ _ _ _ h p en s m args below meth c D tc ad0 ad ls H1 locs1 X E xa P1 A1 S1 L
            · obtain ⟨hty1, hfin1⟩ := k3 rfl
              intro p en s m args below meth c D tc ad0 ad ls H locs X E xa P A S L
              obtain ⟨hin, ⟨ty0, hty0⟩, hnm⟩ := zcl_all _ _ hc
              have hnf := (zreft hty1 (ad x))
              refine va_put X.1 X.2.1 (Ts := z_tbl) X.2.2.2.2.2.1 hin ty0 hty0 hnm X.2.2.2.2.1 X.2.2.2.2.2.2.2.2 P A S q (zw_get hq) hc kk hk (X.2.2.2.2.2.1 _ hlk) (fun x h => h) hfin1 hty hnf.1 hnf.2 (by rw [List.length_map]; exact hlen) hd (fun H1 locs1 P1 A1 S1 => ?_)
              have ew := zw_set (tc := tc) (ad := ad) (hs := hs) (i := q) (x := .inr (ci, fs.set kk (.ref x)))
              rw [show zc tc ad (.inr (ci, fs.set kk (.ref x))) = .inr (ci, (fs.map (zrv ad)).set kk (zrv ad (.ref x))) by rw [zc, List.map_set]] at ew
              rw [show (zrv ad (.ref x)) = zrv ad (.ref x) from rfl] at P1 A1
              rw [ew] at P1 A1
              exact hK _ _ _ _ h p en s m args below meth c D tc ad0 ad ls H1 locs1 X E xa P1 A1 S1 L
            · obtain ⟨hty1, hfin1⟩ := k5 rfl
              intro p en s m args below meth c D tc ad0 ad ls H locs X E xa P A S L
              obtain ⟨hin, ⟨ty0, hty0⟩, hnm⟩ := zcl_all _ _ hc
              have hnf := (show narrow ty (.int x) = .int x ∧ fits ty (.int x) = true by rw [hty1]; exact zbool h.2.1)
              refine va_putF X.1 X.2.1 (Ts := z_tbl) X.2.2.2.2.2.1 hin ty0 hty0 hnm X.2.2.2.2.1 X.2.2.2.2.2.2.2.2 P A S q (zw_get hq) hc kk hk (X.2.2.2.2.2.1 _ hlk) (fun x h => h) hfin1 (X.2.2.2.2.2.2.2.1.trans h.1) (hfin hfin1 (fun z => by cases z)) hty hnf.1 hnf.2 (by rw [List.length_map]; exact hlen) hd (fun H1 locs1 P1 A1 S1 => ?_)
              have ew := zw_set (tc := tc) (ad := ad) (hs := hs) (i := q) (x := .inr (ci, fs.set kk (.int x)))
              rw [show zc tc ad (.inr (ci, fs.set kk (.int x))) = .inr (ci, (fs.map (zrv ad)).set kk (zrv ad (.int x))) by rw [zc, List.map_set]] at ew
              rw [show (zrv ad (.int x)) = zrv ad (.int x) from rfl] at P1 A1
              rw [ew] at P1 A1
              exact hK _ _ _ _ h.2.2 p en s m args below meth c D tc ad0 ad ls H1 locs1 X E xa P1 A1 S1 L
            · obtain ⟨hty1, hfin1⟩ := k7 rfl
              intro p en s m args below meth c D tc ad0 ad ls H locs X E xa P A S L
              obtain ⟨hin, ⟨ty0, hty0⟩, hnm⟩ := zcl_all _ _ hc
              have hnf := (zreft hty1 (ad x))
              refine va_putF X.1 X.2.1 (Ts := z_tbl) X.2.2.2.2.2.1 hin ty0 hty0 hnm X.2.2.2.2.1 X.2.2.2.2.2.2.2.2 P A S q (zw_get hq) hc kk hk (X.2.2.2.2.2.1 _ hlk) (fun x h => h) hfin1 (X.2.2.2.2.2.2.2.1.trans h.1) (hfin hfin1 (fun z => by cases z)) hty hnf.1 hnf.2 (by rw [List.length_map]; exact hlen) hd (fun H1 locs1 P1 A1 S1 => ?_)
              have ew := zw_set (tc := tc) (ad := ad) (hs := hs) (i := q) (x := .inr (ci, fs.set kk (.ref x)))
              rw [show zc tc ad (.inr (ci, fs.set kk (.ref x))) = .inr (ci, (fs.map (zrv ad)).set kk (zrv ad (.ref x))) by rw [zc, List.map_set]] at ew
              rw [show (zrv ad (.ref x)) = zrv ad (.ref x) from rfl] at P1 A1
              rw [ew] at P1 A1
              exact hK _ _ _ _ h.2 p en s m args below meth c D tc ad0 ad ls H1 locs1 X E xa P1 A1 S1 L
            · exact h
        · exact h.elim
      · exact h.elim
    · exact h.elim
  case ireturn =>
    obtain ⟨hd, e, -⟩ := zgd_dec hg (k := 0) rfl
    subst e
    simp only [zstep] at h
    split at h
    · split at h
      · rename_i hr
        exact hR (some (.int _)) hs pc lv .ireturn (Or.inl hr) hd h
      · rename_i hr
        exact hR (some (.int _)) hs pc lv .ireturn (Or.inr ⟨hr, h.1⟩) hd h.2
      · exact h.elim
    · exact h.elim
  case lreturn =>
    obtain ⟨hd, e, -⟩ := zgd_dec hg (k := 0) rfl
    subst e
    simp only [zstep] at h
    split at h
    · split at h
      · rename_i hr
        exact hR (some (.long _)) hs pc lv .lreturn hr hd h
      · exact h.elim
    · exact h.elim
  case areturn =>
    obtain ⟨hd, e, -⟩ := zgd_dec hg (k := 0) rfl
    subst e
    simp only [zstep] at h
    split at h
    · split at h
      · rename_i hr
        exact hR (some (.ref _)) hs pc lv .areturn ⟨_, hr, Or.inl ⟨_, rfl⟩⟩ hd h
      · rename_i hr
        exact hR (some (.ref _)) hs pc lv .areturn ⟨_, hr, Or.inr ⟨_, rfl⟩⟩ hd h
      · exact h.elim
    · exact h.elim
  case return_ =>
    obtain ⟨hd, e, -⟩ := zgd_dec hg (k := 0) rfl
    subst e
    simp only [zstep] at h
    split at h
    · split at h
      · rename_i hr
        exact hR (none) hs pc lv .return_ hr hd h
      · exact h.elim
    · exact h.elim
  all_goals exact h
/-- n instructions on, up to the places in 'stops' and to what isn't computed -/
def zrun (M : zM) (Rt : Option Value → List zE → Prop) (Lf : zK) (stops : List Nat) : Nat → zK
  | 0, pc, lv, st, hs => Lf pc lv st hs
  | n + 1, pc, lv, st, hs => match zins M pc with
    | none => False
    | some i => zstep M Rt (fun pc lv st hs => bif zmem pc stops then Lf pc lv st hs else zrun M Rt Lf stops n pc lv st hs) Lf i pc lv st hs
theorem V.run (n : Nat) (stops : List Nat) (hM : zmok M) {Rt : Option Value → List zE → Prop} (hR : ∀ (v : Option Value) (hs : List zE) (pc : Nat) (lv : zL) (i : Instr), zretok M i v → decode (zcode M) pc = .ok (i, 1) → Rt v hs → V l M b hs0 R F nc ns pc lv v.toList hs) : ∀ {pc : Nat} {lv : zL} {st : List Value} {hs : List zE}, zrun M Rt (V l M b hs0 R F nc ns) stops n pc lv st hs → V l M b hs0 R F nc ns pc lv st hs := by
  induction n with
  | zero => intro pc lv st hs h; exact h
  | succ n ih =>
    intro pc lv st hs h
    simp only [zrun] at h
    split at h
    · exact h.elim
    · rename_i i hi
      refine zstep_ok hM hR (fun pc lv st hs h => ?_) hi h
      cases hz : zmem pc stops with
      | true => rw [hz] at h; exact h
      | false => rw [hz] at h; exact ih h
end ZOK
