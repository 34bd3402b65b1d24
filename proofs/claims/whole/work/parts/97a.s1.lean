/-! ===== what is written in the class: String.length, charAt on the names outside ===== -/
def tJ0c : List (Nat × List (Nat × zI)) := [(14, [(0, .getstatic 38, 3, 0), (3, .ifCond .eq 10, 6, 13), (6, .aload_n 0, 7, 0), (7, .getfield 15, 10, 0), (10, .goto 4, 13, 14), (13, .iconst 1, 14, 0), (14, .ireturn, 15, 0)])]
def mJ0c : zM := (yJ0_coder_7d493, cJ0_coder_7d493, 1, (some .byte), zf2 tJ0c, [], [], [])
theorem mJ0c_ok : zmok mJ0c := zmok_of (L := tJ0c) (by decide +kernel) rfl (by decide +kernel) (fun _ h => by cases h) (fun _ h => by cases h) (fun _ h => by cases h)
def tJ0l : List (Nat × List (Nat × zI)) := [(10, [(0, .aload_n 0, 1, 0), (1, .getfield 9, 4, 0), (4, .arraylength, 5, 0), (5, .aload_n 0, 6, 0), (6, .invokevirtual 335, 9, 0), (9, .ishr, 10, 0), (10, .ireturn, 11, 0)])]
def mJ0l : zM := (yJ0_length_8abf5, cJ0_length_8abf5, 1, (some .int), zf2 tJ0l, [], [], [])
theorem mJ0l_ok : zmok mJ0l := zmok_of (L := tJ0l) (by decide +kernel) rfl (by decide +kernel) (fun _ h => by cases h) (fun _ h => by cases h) (fun _ h => by cases h)
def tJ0i : List (Nat × List (Nat × zI)) := [(18, [(0, .getstatic 38, 3, 0), (3, .ifCond .eq 14, 6, 17), (6, .aload_n 0, 7, 0), (7, .getfield 15, 10, 0), (10, .ifCond .ne 7, 13, 17), (13, .iconst 1, 14, 0), (14, .goto 4, 17, 18), (17, .iconst 0, 18, 0), (18, .ireturn, 19, 0)])]
def mJ0i : zM := (yJ0_isLatin1_aae02, cJ0_isLatin1_aae02, 1, (some .boolean), zf2 tJ0i, [], [], [])
theorem mJ0i_ok : zmok mJ0i := zmok_of (L := tJ0i) (by decide +kernel) rfl (by decide +kernel) (fun _ h => by cases h) (fun _ h => by cases h) (fun _ h => by cases h)
def tJ3k : List (Nat × List (Nat × zI)) := [(17, [(0, .iload_n 0, 1, 0), (1, .ifCond .lt 8, 4, 9), (4, .iload_n 0, 5, 0), (5, .iload_n 1, 6, 0), (6, .if_icmp .lt 10, 9, 16), (9, .aload_n 2, 10, 0), (10, .iload_n 0, 11, 0), (11, .iload_n 1, 12, 0), (12, .invokestatic 95, 15, 0), (15, .athrow, 16, 0), (16, .iload_n 0, 17, 0), (17, .ireturn, 18, 0)])]
def mJ3k : zM := (yJ3_checkIndex_8e157, cJ3_checkIndex_8e157, 3, (some .int), zf2 tJ3k, [], [], [])
theorem mJ3k_ok : zmok mJ3k := zmok_of (L := tJ3k) (by decide +kernel) rfl (by decide +kernel) (fun _ h => by cases h) (fun _ h => by cases h) (fun _ h => by cases h)
def tJ0k : List (Nat × List (Nat × zI)) := [(9, [(0, .iload_n 0, 1, 0), (1, .iload_n 1, 2, 0), (2, .getstatic 1053, 5, 0), (5, .invokestatic 1059, 8, 0), (8, .pop, 9, 0), (9, .return_, 10, 0)])]
def mJ0k : zM := (yJ0_checkIndex_df160, cJ0_checkIndex_df160, 2, none, zf2 tJ0k, [], [], [])
theorem mJ0k_ok : zmok mJ0k := zmok_of (L := tJ0k) (by decide +kernel) rfl (by decide +kernel) (fun _ h => by cases h) (fun _ h => by cases h) (fun _ h => by cases h)
def tJ1a : List (Nat × List (Nat × zI)) := [(14, [(0, .iload_n 1, 1, 0), (1, .aload_n 0, 2, 0), (2, .arraylength, 3, 0), (3, .invokestatic 9, 6, 0), (6, .aload_n 0, 7, 0), (7, .iload_n 1, 8, 0), (8, .baload, 9, 0), (9, .sipush 255, 12, 0), (12, .iand, 13, 0), (13, .i2c, 14, 0), (14, .ireturn, 15, 0)])]
def mJ1a : zM := (yJ1_charAt_3b067, cJ1_charAt_3b067, 2, (some .char), zf2 tJ1a, [], [], [])
theorem mJ1a_ok : zmok mJ1a := zmok_of (L := tJ1a) (by decide +kernel) rfl (by decide +kernel) (fun _ h => by cases h) (fun _ h => by cases h) (fun _ h => by cases h)
def tJ0a : List (Nat × List (Nat × zI)) := [(21, [(0, .aload_n 0, 1, 0), (1, .invokevirtual 492, 4, 0), (4, .ifCond .eq 12, 7, 16), (7, .aload_n 0, 8, 0), (8, .getfield 9, 11, 0), (11, .iload_n 1, 12, 0), (12, .invokestatic 495, 15, 0), (15, .ireturn, 16, 0), (16, .aload_n 0, 17, 0), (17, .getfield 9, 20, 0), (20, .iload_n 1, 21, 0), (21, .invokestatic 498, 24, 0)]), (24, [(24, .ireturn, 25, 0)])]
def mJ0a : zM := (yJ0_charAt_5068e, cJ0_charAt_5068e, 2, (some .char), zf2 tJ0a, [], [], [])
theorem mJ0a_ok : zmok mJ0a := zmok_of (L := tJ0a) (by decide +kernel) rfl (by decide +kernel) (fun _ h => by cases h) (fun _ h => by cases h) (fun _ h => by cases h)
theorem zcJ0c : zcm mJ0c 0 := ⟨z_in (List.mem_of_getElem? (i := 6) (by decide +kernel)) rfl, z_in (List.mem_of_getElem? (i := 169) (by decide +kernel)) rfl, by decide +kernel, by decide +kernel, by decide +kernel⟩
theorem zcJ0l : zcm mJ0l 0 := ⟨z_in (List.mem_of_getElem? (i := 6) (by decide +kernel)) rfl, z_in (List.mem_of_getElem? (i := 165) (by decide +kernel)) rfl, by decide +kernel, by decide +kernel, by decide +kernel⟩
theorem zcJ0i : zcm mJ0i 0 := ⟨z_in (List.mem_of_getElem? (i := 6) (by decide +kernel)) rfl, z_in (List.mem_of_getElem? (i := 179) (by decide +kernel)) rfl, by decide +kernel, by decide +kernel, by decide +kernel⟩
theorem zcJ3k : zcm mJ3k 3 := ⟨z_in (List.mem_of_getElem? (i := 8) (by decide +kernel)) rfl, z_in (List.mem_of_getElem? (i := 190) (by decide +kernel)) rfl, by decide +kernel, by decide +kernel, by decide +kernel⟩
theorem zcJ0k : zcm mJ0k 2 := ⟨z_in (List.mem_of_getElem? (i := 6) (by decide +kernel)) rfl, z_in (List.mem_of_getElem? (i := 185) (by decide +kernel)) rfl, by decide +kernel, by decide +kernel, by decide +kernel⟩
theorem zcJ1a : zcm mJ1a 2 := ⟨z_in (List.mem_of_getElem? (i := 7) (by decide +kernel)) rfl, z_in (List.mem_of_getElem? (i := 182) (by decide +kernel)) rfl, by decide +kernel, by decide +kernel, by decide +kernel⟩
theorem zcJ0a : zcm mJ0a 1 := ⟨z_in (List.mem_of_getElem? (i := 6) (by decide +kernel)) rfl, z_in (List.mem_of_getElem? (i := 175) (by decide +kernel)) rfl, by decide +kernel, by decide +kernel, by decide +kernel⟩
theorem lJ0_335 : zlV RJ0 335 mJ0c 0 := ⟨z_in (List.mem_of_getElem? (i := 166) (by decide +kernel)) rfl, z_in (List.mem_of_getElem? (i := 167) (by decide +kernel)) rfl, z_in (List.mem_of_getElem? (i := 168) (by decide +kernel)) rfl, zcJ0c⟩
theorem lJ0_492 : zlV RJ0 492 mJ0i 0 := ⟨z_in (List.mem_of_getElem? (i := 176) (by decide +kernel)) rfl, z_in (List.mem_of_getElem? (i := 177) (by decide +kernel)) rfl, z_in (List.mem_of_getElem? (i := 178) (by decide +kernel)) rfl, zcJ0i⟩
theorem lJ0_495 : zlS RJ0 495 mJ1a 2 := ⟨z_in (List.mem_of_getElem? (i := 180) (by decide +kernel)) rfl, z_in (List.mem_of_getElem? (i := 181) (by decide +kernel)) rfl, zcJ1a⟩
theorem lJ1_9 : zlS RJ1 9 mJ0k 2 := ⟨z_in (List.mem_of_getElem? (i := 183) (by decide +kernel)) rfl, z_in (List.mem_of_getElem? (i := 184) (by decide +kernel)) rfl, zcJ0k⟩
theorem lJ0_1059 : zlS RJ0 1059 mJ3k 3 := ⟨z_in (List.mem_of_getElem? (i := 188) (by decide +kernel)) rfl, z_in (List.mem_of_getElem? (i := 189) (by decide +kernel)) rfl, zcJ3k⟩
theorem lX6_70 : zlV RX6 70 mJ0l 0 := ⟨z_in (List.mem_of_getElem? (i := 162) (by decide +kernel)) rfl, z_in (List.mem_of_getElem? (i := 163) (by decide +kernel)) rfl, z_in (List.mem_of_getElem? (i := 164) (by decide +kernel)) rfl, zcJ0l⟩
theorem lX6_76 : zlV RX6 76 mJ0a 1 := ⟨z_in (List.mem_of_getElem? (i := 172) (by decide +kernel)) rfl, z_in (List.mem_of_getElem? (i := 173) (by decide +kernel)) rfl, z_in (List.mem_of_getElem? (i := 174) (by decide +kernel)) rfl, zcJ0a⟩
theorem lX1_114 : zlV RX1 114 mJ0l 0 := ⟨z_in (List.mem_of_getElem? (i := 254) (by decide +kernel)) rfl, z_in (List.mem_of_getElem? (i := 163) (by decide +kernel)) rfl, z_in (List.mem_of_getElem? (i := 164) (by decide +kernel)) rfl, zcJ0l⟩
theorem lX1_120 : zlV RX1 120 mJ0a 1 := ⟨z_in (List.mem_of_getElem? (i := 255) (by decide +kernel)) rfl, z_in (List.mem_of_getElem? (i := 173) (by decide +kernel)) rfl, z_in (List.mem_of_getElem? (i := 174) (by decide +kernel)) rfl, zcJ0a⟩
section
variable {l : Launch} {M M' : zM} {b : Bool} {hs0 hs : List zE} {R : Room} {F : zF} {nc ns mc ms pc n idx nx tg d' mc' ms' : Nat} {T : zT} {lv : zL} {st : List Value}
theorem zxo {ad ad0 : Nat → Nat} (xa : zadx b n ad0 ad) (k : Nat) : ad (2 * k + 1) = ad0 (2 * k + 1) := by
  cases b with
  | true => exact xa.2 k
  | false => rw [show ad = ad0 from xa]
theorem V.ldcS (hM : zmok M) (hat : zins M pc = some (.ldc idx, nx, tg)) (i : Nat) (hi : i < 13) (ho : zsown i = (zy M).cls) (hx : zsidx i = idx) (h : V l M b hs0 R F nc ns nx lv (.ref (2 * i + 1) :: st) hs) : V l M b hs0 R F nc ns pc lv st hs := by
  obtain ⟨hd, e0, -⟩ := zgd_dec (hM.2.1 pc _ hat) (k := 1) rfl
  subst e0
  subst hx
  intro p en s m args below meth c D tc ad0 ad ls H locs X E xa P A S L
  have hZ := E.2.2.1 i hi
  rw [← zxo xa i] at hZ
  exact va_ldcS X.1 X.2.1 (by rw [ho]; exact X.2.2.2.2.1) hZ hd (h p en s m args below meth c D tc ad0 ad ls H locs X E xa P A S L)
theorem V.getC (hM : zmok M) (hat : zins M pc = some (.getfield idx, nx, tg)) (hlk : Cond.fieldLink (zy M).cls idx "java/lang/String" "coder" "B" ∈ z_tbl) (i : Nat) (hi : i < 13) (h : V l M b hs0 R F nc ns nx lv (.int (nI 0) :: st) hs) : V l M b hs0 R F nc ns pc lv (.ref (2 * i + 1) :: st) hs := by
  obtain ⟨hd, e0, -⟩ := zgd_dec (hM.2.1 pc _ hat) (k := 2) rfl
  subst e0
  intro p en s m args below meth c D tc ad0 ad ls H locs X E xa P A S L
  have hZ := (E.2.1.1 i hi).2.1
  dsimp only at hZ
  rw [← zxo xa i] at hZ
  exact vk_getf X.1 X.2.1 hZ S X.2.2.2.2.1 (X.2.2.2.2.2.1 _ hlk) (fun x h => h) hd (h p en s m args below meth c D tc ad0 ad ls H locs X E xa P A S L)
theorem V.getB (hM : zmok M) (hat : zins M pc = some (.getfield idx, nx, tg)) (hlk : Cond.fieldLink (zy M).cls idx "java/lang/String" "value" "[B" ∈ z_tbl) (i : Nat) (hi : i < 13) (h : V l M b hs0 R F nc ns nx lv (.ref (2 * (13 + i) + 1) :: st) hs) : V l M b hs0 R F nc ns pc lv (.ref (2 * i + 1) :: st) hs := by
  obtain ⟨hd, e0, -⟩ := zgd_dec (hM.2.1 pc _ hat) (k := 2) rfl
  subst e0
  intro p en s m args below meth c D tc ad0 ad ls H locs X E xa P A S L
  have hZ := (E.2.1.1 i hi).2.2.1
  dsimp only at hZ
  rw [← zxo xa i, ← zxo xa (13 + i)] at hZ
  exact vk_getf X.1 X.2.1 hZ S X.2.2.2.2.1 (X.2.2.2.2.2.1 _ hlk) (fun x h => h) hd (h p en s m args below meth c D tc ad0 ad ls H locs X E xa P A S L)
theorem V.lenB (hM : zmok M) (hat : zins M pc = some (.arraylength, nx, tg)) (i : Nat) (hi : i < 13) (h : V l M b hs0 R F nc ns nx lv (.int (nI (zslen.getD i 0)) :: st) hs) : V l M b hs0 R F nc ns pc lv (.ref (2 * (13 + i) + 1) :: st) hs := by
  obtain ⟨hd, e0, -⟩ := zgd_dec (hM.2.1 pc _ hat) (k := 0) rfl
  subst e0
  intro p en s m args below meth c D tc ad0 ad ls H locs X E xa P A S L
  have hZ := (E.2.1.1 i hi).2.2.2
  dsimp only at hZ
  rw [← zxo xa (13 + i)] at hZ
  exact va_tlen X.1 X.2.1 hZ S rfl hd (h p en s m args below meth c D tc ad0 ad ls H locs X E xa P A S L)
theorem V.aldB (hM : zmok M) (hat : zins M pc = some (.baload, nx, tg)) (i j : Nat) (hi : i < 13) (hj : j < zslen.getD i 0) (h : V l M b hs0 R F nc ns nx lv (.int ((zsbyt.getD i []).getD j 0) :: st) hs) : V l M b hs0 R F nc ns pc lv (.int (nI j) :: .ref (2 * (13 + i) + 1) :: st) hs := by
  obtain ⟨hd, e0, -⟩ := zgd_dec (hM.2.1 pc _ hat) (k := 0) rfl
  subst e0
  intro p en s m args below meth c D tc ad0 ad ls H locs X E xa P A S L
  have hZ := (E.2.1.1 i hi).2.2.2
  dsimp only at hZ
  rw [← zxo xa (13 + i)] at hZ
  have hl : zslen.getD i 0 ≤ 43 := (show ∀ i, i < 13 → zslen.getD i 0 ≤ 43 by decide) i hi
  exact va_tb X.1 X.2.1 hZ S (pk_in j _ hj rfl (by omega)) (v := .int ((zsbyt.getD i []).getD j 0)) (by rw [pk_cl (x := nI j) j rfl (by omega)]) hd (h p en s m args below meth c D tc ad0 ad ls H locs X E xa P A S L)
theorem V.getK (hM : zmok M) (hat : zins M pc = some (.getstatic idx, nx, tg)) (hlk : Cond.fieldLink (zy M).cls idx "java/lang/String" "COMPACT_STRINGS" "Z" ∈ z_tbl) (h : V l M b hs0 R F nc ns nx lv (.int (nI 1) :: st) hs) : V l M b hs0 R F nc ns pc lv st hs := by
  obtain ⟨hd, e0, -⟩ := zgd_dec (hM.2.1 pc _ hat) (k := 2) rfl
  subst e0
  intro p en s m args below meth c D tc ad0 ad ls H locs X E xa P A S L
  exact va_gets X.1 X.2.1 E.2.2.2.1 S X.2.2.2.2.1 (X.2.2.2.2.2.1 _ hlk) (fun x h => h) hd (h p en s m args below meth c D tc ad0 ad ls H locs X E xa P A S L)
theorem V.getQ (hM : zmok M) (hat : zins M pc = some (.getstatic idx, nx, tg)) (hlk : Cond.fieldLink (zy M).cls idx "jdk/internal/util/Preconditions" "SIOOBE_FORMATTER" "Ljava/util/function/BiFunction;" ∈ z_tbl) (h0 : V l M b hs0 R F nc ns nx lv (.null :: st) hs) (h1 : V l M b hs0 R F nc ns nx lv (.ref 53 :: st) hs) : V l M b hs0 R F nc ns pc lv st hs := by
  obtain ⟨hd, e0, -⟩ := zgd_dec (hM.2.1 pc _ hat) (k := 2) rfl
  subst e0
  intro p en s m args below meth c D tc ad0 ad ls H locs X E xa P A S L
  rcases E.2.2.2.2.1 with hZ | hZ
  · exact va_gets X.1 X.2.1 hZ S X.2.2.2.2.1 (X.2.2.2.2.2.1 _ hlk) (fun x h => h) hd (h0 p en s m args below meth c D tc ad0 ad ls H locs X E xa P A S L)
  · rw [← zxo xa 26] at hZ
    exact va_gets X.1 X.2.1 hZ S X.2.2.2.2.1 (X.2.2.2.2.2.1 _ hlk) (fun x h => h) hd (h1 p en s m args below meth c D tc ad0 ad ls H locs X E xa P A S L)
theorem V.i2c (hM : zmok M) (hat : zins M pc = some (.i2c, nx, tg)) {x y : Int32} (hv : (x.toUInt32 % 65536).toInt32 = y) (h : V l M b hs0 R F nc ns nx lv (.int y :: st) hs) : V l M b hs0 R F nc ns pc lv (.int x :: st) hs := by
  obtain ⟨hd, e0, -⟩ := zgd_dec (hM.2.1 pc _ hat) (k := 0) rfl
  subst e0
  exact V.pure h (fun ad hx hb k => lv_i2c hx hb hd hv k)
theorem V.retN {Post : Option Value → List zE → Prop} (hM : zmok M) (hnc : (Nat.ble nc mc && Nat.ble ns ms) = true) (hat : zins M pc = some (.ireturn, nx, tg)) {x : Int32} {ty : FieldType} (hr : zret M = some ty) (hn : narrow ty (.int x) = .int x) (hp : Post (some (.int x)) hs) : V l M b hs0 R (zFm b hs0 Post mc ms) nc ns pc lv [.int x] hs := by
  obtain ⟨hd, e0, -⟩ := zgd_dec (hM.2.1 pc _ hat) (k := 0) rfl
  rw [Bool.and_eq_true] at hnc
  intro p en s m args below meth c D tc ad0 ad ls H locs X E xa P A S L
  refine W.widen (k := mc) (n := ms) (Nat.le_of_ble_eq_true hnc.1) (Nat.le_of_ble_eq_true hnc.2) ?_
  have hq : ∀ t : State, t.heap = H → s.WarmedH t.vm → zQ b D tc ad0 hs0 Post s.heap.size args s (.returned (some (.int x))) t := fun t ht hW => ⟨⟨ad, some (.int x), hs, rfl, hp, xa, by rw [ht]; exact P, va_K.moved hW.alike X.2.2.2.2.2.2.2.2, A⟩, S.F ht⟩
  have hlocks : meth.locks = false := X.2.2.2.2.2.2.1
  exact W.zret X.1 X.2.1 (X.2.2.1.trans hr) hn hq S.2.2 hd
/-- a call on a name outside -/
theorem V.callO (hM : zmok M) (hat : zins M pc = some (.invokevirtual idx, nx, tg)) (hlk : zlV (zy M).cls idx M' n) (hcls : (zy M').cls = "java/lang/String") (hC : Ct l M' false d' mc' ms' T) (hR : (Nat.ble (d' + 1) R.frames && Nat.ble (8 + (zmax M' + 11) + 48 * d') R.locals && (Nat.ble (nc + mc') R.cells && Nat.ble (ns + ms') R.slots)) = true) (i : Nat) (hi : i < 13) (As rest : List Value) (hAs : ∀ f, As.map (zrv f) = As) (hn : As.length = n) (hst : st = As.reverse ++ .ref (2 * i + 1) :: rest) (hW : Nat.ble ((rest.map fun v => v.category).sum) 8 = true) (x : Int32) (hT : T (.ref (2 * i + 1) :: As) [] (fun v w => v = some (.int x) ∧ w = [])) (hV : V l M b hs0 R F (nc + mc') (ns + ms') nx lv (.int x :: rest) hs) : V l M b hs0 R F nc ns pc lv st hs := by
  obtain ⟨hd, e0, -⟩ := zgd_dec (hM.2.1 pc _ hat) (k := 2) rfl
  subst e0
  intro p en s m args below meth c D tc ad0 ad ls H locs X E xa P A S L
  have hrl : ((rest.map (zrv ad)).map fun v => v.category).sum ≤ 8 := by
    rw [List.map_map, show ((fun v => v.category) ∘ zrv ad) = (fun v : Value => v.category) from funext (fun v => zrv_cat ad v)]
    exact Nat.le_of_ble_eq_true hW
  have hcs : ([] : List Nat).map (fun i => hs[i]?) = ([] : List zE).map (fun x => some (zrc (ze hs.length [] (fun k => k)) x)) := rfl
  have hodd : ad (ze hs.length [] (fun k => k) (2 * i + 1)) = ad0 (2 * i + 1) := by rw [ze_odd, zxo xa i]
  have hpre := zpre X E xa P A S rfl hcs rfl (fun _ _ => rfl) ((Value.ref (2 * i + 1) :: As).map (zrv (fun k => ad (ze hs.length [] (fun k => k) k))))
  have hMet := hC D tc (fun k => ad (ze hs.length [] (fun k => k) k)) (.ref (2 * i + 1) :: As) [] _ H.size hT
  have hfix : CallFix p m c (zcode M) (zmax M) s args z_tbl (zy M).cls := ⟨X.1, X.2.1, X.2.2.2.1, X.2.2.2.2.1, X.2.2.2.2.2.1⟩
  simp only [Bool.and_eq_true] at hR
  have hR1 : (zrm d' mc' ms').frames + 1 ≤ R.frames ∧ 8 + (zmax M' + 11) + (zrm d' mc' ms').locals ≤ R.locals := ⟨Nat.le_of_ble_eq_true hR.1.1, Nat.le_of_ble_eq_true hR.1.2⟩
  have hR2 : nc + mc' ≤ R.cells ∧ ns + ms' ≤ R.slots := ⟨Nat.le_of_ble_eq_true hR.2.1, Nat.le_of_ble_eq_true hR.2.2⟩
  obtain ⟨hl, hin, hsel, hcm⟩ := hlk
  have hrv := vk_recv E.2.1 hi S
  rw [← hodd, ← hcls] at hrv
  have hrun := va_runV (g := F0 m pc ls (As.reverse ++ .ref (ad (ze hs.length [] (fun k => k) (2 * i + 1))) :: rest.map (zrv ad))) (b := ad (ze hs.length [] (fun k => k) (2 * i + 1))) (As := As) (rest := rest.map (zrv ad)) (p := p) (l := l) (e := en) (R := R) (m := m) (below := below) (meth := meth) (locs := locs) (cells := nc) (slots := ns) hfix hMet (C := (zy M').cls) ⟨callB_of n X.2.2.2.2.2.1 (zgoodM hcm) rfl rfl rfl (zwords X hcm.1) (zwords X hl) hcm.2.2 hR1, zwords X hin, zwords X hsel⟩ ⟨zblind, hrv, fun U h1 h2 => by
      have q := hpre U h1 h2
      rw [List.map_cons, hAs] at q ⊢
      exact q⟩ rfl hn L.1 rfl (lv_room hrl) hd hR2
  have est : st.map (zrv ad) = As.reverse ++ .ref (ad (ze hs.length [] (fun k => k) (2 * i + 1))) :: rest.map (zrv ad) := by
    rw [hst, List.map_append, List.map_reverse, hAs, List.map_cons, hodd, ← zxo xa i]
    rfl
  rw [est]
  have hA : ∀ q, s.heap.size ≤ q → zA tc ad0 hs0 s q := fun q hq => Or.inr hq
  have hfree := va_free A S hA [] (zsubw (tc := tc) (ad := ad) rfl hcs)
  refine z_call hrun S (fun q _ h => hfree q h) hfree (fun _ _ _ h => h.2) (fun v st1 t H1 locs1 h0 ht hvm hq hz hk S1 => ?_)
  obtain ⟨⟨ad', v', wc', hv, hpost, xa', P1, K1, D1⟩, -⟩ := hq
  cases hv
  rw [ht] at P1
  have xe : ad' = fun k => ad (ze hs.length [] (fun k => k) k) := xa'
  subst xe
  obtain ⟨rfl, rfl⟩ := hpost
  obtain ⟨P2, A2⟩ := zafter rfl hcs rfl rfl P A hk P1
  exact hV p en s m args below meth c D tc ad0 ad ls H1 locs1 X E xa P2 A2 S1 L
end
theorem lSc : Cond.fieldLink RJ0 15 "java/lang/String" "coder" "B" ∈ z_tbl := z_in (List.mem_of_getElem? (i := 1505) (by decide +kernel)) rfl
theorem lSv : Cond.fieldLink RJ0 9 "java/lang/String" "value" "[B" ∈ z_tbl := z_in (List.mem_of_getElem? (i := 1504) (by decide +kernel)) rfl
theorem lSk : Cond.fieldLink RJ0 38 "java/lang/String" "COMPACT_STRINGS" "Z" ∈ z_tbl := z_in (List.mem_of_getElem? (i := 170) (by decide +kernel)) rfl
theorem lSq : Cond.fieldLink RJ0 1053 "jdk/internal/util/Preconditions" "SIOOBE_FORMATTER" "Ljava/util/function/BiFunction;" ∈ z_tbl := z_in (List.mem_of_getElem? (i := 186) (by decide +kernel)) rfl
def TJ0c : zT := fun args hs Q => ∃ i, i < 13 ∧ args = [.ref (2 * i + 1)] ∧ hs = [] ∧ Q (some (.int (nI 0))) []
theorem cJ0c (l : Launch) : Ct l mJ0c false 1 0 0 TJ0c := by
  refine Ct.intro mJ0c_ok ?_
  rintro args hs Q ⟨i, hi, rfl, rfl, h⟩
  refine ⟨Nat.le_of_ble_eq_true rfl, ?_⟩
  refine V.getK mJ0c_ok rfl lSk ?_
  refine V.g 10 [7, 14] mJ0c_ok rfl ?_
  refine And.intro (fun q => absurd q (by decide)) (fun _ => ?_)
  refine V.getC mJ0c_ok rfl lSc i hi ?_
  refine V.g 1 [14] mJ0c_ok rfl ?_
  exact V.retN mJ0c_ok rfl rfl rfl rfl h
def TJ0l : zT := fun args hs Q => ∃ i, i < 13 ∧ args = [.ref (2 * i + 1)] ∧ hs = [] ∧ Q (some (.int (nI (zslen.getD i 0)))) []
theorem cJ0l (l : Launch) : Ct l mJ0l false 2 0 0 TJ0l := by
  refine Ct.intro mJ0l_ok ?_
  rintro args hs Q ⟨i, hi, rfl, rfl, h⟩
  refine ⟨Nat.le_of_ble_eq_true rfl, ?_⟩
  refine V.g 1 [1] mJ0l_ok rfl ?_
  refine V.getB mJ0l_ok rfl lSv i hi ?_
  refine V.lenB mJ0l_ok rfl i hi ?_
  refine V.g 1 [6] mJ0l_ok rfl ?_
  refine V.callO mJ0l_ok rfl lJ0_335 rfl (cJ0c l) rfl i hi [] [.int (nI (zslen.getD i 0))] (fun _ => rfl) rfl rfl rfl (nI 0) ⟨i, hi, rfl, rfl, rfl, rfl⟩ ?_
  refine V.g 10 [] mJ0l_ok rfl ?_
  refine ⟨_, zsim_rfl _, ?_⟩
  rw [show nI (zslen.getD i 0) >>> (nI 0 &&& 31) = nI (zslen.getD i 0) from (show ∀ i, i < 13 → nI (zslen.getD i 0) >>> (nI 0 &&& 31) = nI (zslen.getD i 0) by decide +kernel) i hi]
  exact h
def TJ0i : zT := fun args hs Q => ∃ i, i < 13 ∧ args = [.ref (2 * i + 1)] ∧ hs = [] ∧ Q (some (.int (nI 1))) []
theorem cJ0i (l : Launch) : Ct l mJ0i false 1 0 0 TJ0i := by
  refine Ct.intro mJ0i_ok ?_
  rintro args hs Q ⟨i, hi, rfl, rfl, h⟩
  refine ⟨Nat.le_of_ble_eq_true rfl, ?_⟩
  refine V.getK mJ0i_ok rfl lSk ?_
  refine V.g 1 [] mJ0i_ok rfl ?_
  refine And.intro (fun q => absurd q (by decide)) (fun _ => ?_)
  refine V.g 1 [7] mJ0i_ok rfl ?_
  refine V.getC mJ0i_ok rfl lSc i hi ?_
  refine V.g 10 [] mJ0i_ok rfl ?_
  refine And.intro (fun q => absurd rfl q) (fun _ => ?_)
  exact And.intro (Or.inr rfl) ⟨_, zsim_rfl _, h⟩
def TJ3k : zT := fun args hs Q => ∃ (i n : Nat) (o : Value), i < n ∧ n < 100 ∧ (o = .null ∨ ∃ k, o = .ref k) ∧ args = [.int (nI i), .int (nI n), o] ∧ hs = [] ∧ Q (some (.int (nI i))) []
theorem cJ3k (l : Launch) : Ct l mJ3k false 1 0 0 TJ3k := by
  refine Ct.intro mJ3k_ok ?_
  rintro args hs Q ⟨i, n, o, hi, hn, ho, rfl, rfl, h⟩
  have ho : o.category = 1 := by
    rcases ho with rfl | ⟨k, rfl⟩ <;> rfl
  refine ⟨by simp only [lg_sl, List.flatMap_cons, List.flatMap_nil, ho]; exact Nat.le_of_ble_eq_true rfl, ?_⟩
  refine V.key [0, 1] ?_
  refine V.g 2 [4, 9] mJ3k_ok rfl ?_
  refine pk_lt i 0 (fun q => absurd q (by omega)) (fun _ => ?_) rfl rfl (by omega) (by omega)
  refine V.g 10 [9] mJ3k_ok rfl ?_
  refine pk_lt i n (fun _ => ?_) (fun q => absurd hi (by omega)) rfl rfl (by omega) (by omega)
  exact ⟨_, zsim_rfl _, h⟩
def TJ0k : zT := fun args hs Q => ∃ (i n : Nat), i < n ∧ n < 100 ∧ args = [.int (nI i), .int (nI n)] ∧ hs = [] ∧ Q none []
theorem cJ0k (l : Launch) : Ct l mJ0k false 2 0 0 TJ0k := by
  refine Ct.intro mJ0k_ok ?_
  rintro args hs Q ⟨i, n, hi, hn, rfl, rfl, h⟩
  refine ⟨Nat.le_of_ble_eq_true rfl, ?_⟩
  refine V.g 2 [2] mJ0k_ok rfl ?_
  refine V.getQ mJ0k_ok rfl lSq ?_ ?_
  · refine V.cS0 mJ0k_ok rfl lJ0_1059 (cJ3k l) rfl [.int (nI i), .int (nI n), .null] [] rfl rfl rfl (some (.int (nI i))) ⟨i, n, _, hi, hn, Or.inl rfl, rfl, rfl, rfl, rfl⟩ ?_
    refine V.g 10 [] mJ0k_ok rfl ?_
    exact ⟨_, zsim_rfl _, h⟩
  · refine V.cS0 mJ0k_ok rfl lJ0_1059 (cJ3k l) rfl [.int (nI i), .int (nI n), .ref 53] [] rfl rfl rfl (some (.int (nI i))) ⟨i, n, _, hi, hn, Or.inr ⟨_, rfl⟩, rfl, rfl, rfl, rfl⟩ ?_
    refine V.g 10 [] mJ0k_ok rfl ?_
    exact ⟨_, zsim_rfl _, h⟩
def TJ1a : zT := fun args hs Q => ∃ (i j : Nat), i < 13 ∧ j < zslen.getD i 0 ∧ args = [.ref (2 * (13 + i) + 1), .int (nI j)] ∧ hs = [] ∧ Q (some (.int ((zsbyt.getD i []).getD j 0))) []
theorem zsb_c : ∀ i, i < 13 → ∀ j, j < zslen.getD i 0 → (((zsbyt.getD i []).getD j 0 &&& 255).toUInt32 % 65536).toInt32 = (zsbyt.getD i []).getD j 0 ∧ narrow .char (.int ((zsbyt.getD i []).getD j 0)) = .int ((zsbyt.getD i []).getD j 0) := by decide +kernel
theorem zsl_le : ∀ i, i < 13 → zslen.getD i 0 < 100 := by decide +kernel
theorem cJ1a (l : Launch) : Ct l mJ1a false 3 0 0 TJ1a := by
  refine Ct.intro mJ1a_ok ?_
  rintro args hs Q ⟨i, j, hi, hj, rfl, rfl, h⟩
  refine ⟨Nat.le_of_ble_eq_true rfl, ?_⟩
  refine V.g 2 [2] mJ1a_ok rfl ?_
  refine V.lenB mJ1a_ok rfl i hi ?_
  refine V.cS0 mJ1a_ok rfl lJ1_9 (cJ0k l) rfl [.int (nI j), .int (nI (zslen.getD i 0))] [] rfl rfl rfl none ⟨j, _, hj, zsl_le i hi, rfl, rfl, rfl, rfl⟩ ?_
  refine V.g 2 [8] mJ1a_ok rfl ?_
  refine V.aldB mJ1a_ok rfl i j hi hj ?_
  refine V.g 2 [13] mJ1a_ok rfl ?_
  refine V.i2c mJ1a_ok rfl (zsb_c i hi j hj).1 ?_
  exact V.retN mJ1a_ok rfl rfl rfl (zsb_c i hi j hj).2 h
def TJ0a : zT := fun args hs Q => ∃ (i j : Nat), i < 13 ∧ j < zslen.getD i 0 ∧ args = [.ref (2 * i + 1), .int (nI j)] ∧ hs = [] ∧ Q (some (.int ((zsbyt.getD i []).getD j 0))) []
theorem cJ0a (l : Launch) : Ct l mJ0a false 4 0 0 TJ0a := by
  refine Ct.intro mJ0a_ok ?_
  rintro args hs Q ⟨i, j, hi, hj, rfl, rfl, h⟩
  refine ⟨Nat.le_of_ble_eq_true rfl, ?_⟩
  refine V.g 1 [1] mJ0a_ok rfl ?_
  refine V.callO mJ0a_ok rfl lJ0_492 rfl (cJ0i l) rfl i hi [] [] (fun _ => rfl) rfl rfl rfl (nI 1) ⟨i, hi, rfl, rfl, rfl, rfl⟩ ?_
  refine V.g 1 [7, 16] mJ0a_ok rfl ?_
  refine And.intro (fun q => absurd q (by decide)) (fun _ => ?_)
  refine V.g 1 [8] mJ0a_ok rfl ?_
  refine V.getB mJ0a_ok rfl lSv i hi ?_
  refine V.g 1 [12] mJ0a_ok rfl ?_
  refine V.cS0 mJ0a_ok rfl lJ0_495 (cJ1a l) rfl [.ref (2 * (13 + i) + 1), .int (nI j)] [] rfl (by show [Value.int (nI j), Value.ref (2 * (13 + i) + 1)] = [Value.int (nI j), Value.ref (ze 0 [] (fun k => k) (2 * (13 + i) + 1))]; rw [ze_odd]) rfl (some (.int ((zsbyt.getD i []).getD j 0))) ⟨i, j, hi, hj, rfl, rfl, rfl, rfl⟩ ?_
  exact V.retN mJ0a_ok rfl rfl rfl (zsb_c i hi j hj).2 h
