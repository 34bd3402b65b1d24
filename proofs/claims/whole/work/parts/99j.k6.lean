/-! ===== a text made of what the reader holds (Arrays.copyOf as a premise) ===== -/
def tJ7c : List (Nat × List (Nat × zI)) := [(19, [(0, .iload_n 1, 1, 0), (1, .aload_n 0, 2, 0), (2, .arraylength, 3, 0), (3, .if_icmp .ne 11, 6, 14), (6, .aload_n 0, 7, 0), (7, .invokevirtual 316, 10, 0), (13, .areturn, 14, 0), (14, .iload_n 1, 15, 0), (15, .newarray .int, 17, 0), (17, .astore_n 2, 18, 0), (18, .aload_n 0, 19, 0), (19, .iconst 0, 20, 0)]), (32, [(20, .aload_n 2, 21, 0), (21, .iconst 0, 22, 0), (22, .aload_n 0, 23, 0), (23, .arraylength, 24, 0), (24, .iload_n 1, 25, 0), (25, .invokestatic 304, 28, 0), (28, .invokestatic 150, 31, 0), (31, .aload_n 2, 32, 0), (32, .areturn, 33, 0)])]
def mJ7c : zM := (yJ7_copyOf_59c91, cJ7_copyOf_59c91, 3, some (.array .int), zf2 tJ7c, [], [], [])
theorem mJ7c_ok : zmok mJ7c := zmok_of (L := tJ7c) (by decide +kernel) rfl (by decide +kernel) (fun _ h => by cases h) (fun _ h => by cases h) (fun _ h => by cases h)
theorem zcJ7c : zcm mJ7c 2 := ⟨z_in (List.mem_of_getElem? (i := 3) (by decide +kernel)) rfl, z_in (List.mem_of_getElem? (i := 316) (by decide +kernel)) rfl, by decide +kernel, by decide +kernel, by decide +kernel⟩
theorem lX5_24 : zlS RX5 24 mJ7c 2 := ⟨z_in (List.mem_of_getElem? (i := 314) (by decide +kernel)) rfl, z_in (List.mem_of_getElem? (i := 315) (by decide +kernel)) rfl, zcJ7c⟩
def T_copyOf : zT := fun args hs Q => ∃ (f : fI) (n m : Nat), m ≤ n ∧ n ≤ 160 ∧ args = [.ref 0, .int (nI m)] ∧ hs = [.inl (0, n, .inl f)] ∧ Q (some (.ref 2)) [.inl (0, n, .inl f), .inl (0, m, .inl f)]
theorem V.wide {l : Launch} {M : zM} {b : Bool} {hs0 hs : List zE} {R : Room} {F : zF} {nc ns nc2 ns2 pc : Nat} {lv : zL} {st : List Value} (h1 : nc ≤ nc2) (h2 : ns ≤ ns2) (h : V l M b hs0 R F nc2 ns2 pc lv st hs) : V l M b hs0 R F nc ns pc lv st hs :=
  fun p e s m args below meth c D tc ad0 ad ls H locs X E xa P A S L => W.widen (k := nc2) (n := ns2) h1 h2 (h p e s m args below meth c D tc ad0 ad ls H locs X E xa P A S L)
/-- the tenth is named among the first n codes -/
def hasT (cd : fI) : Nat → Bool
  | 0 => false
  | n + 1 => hasT cd n || decide (cd n = -1 - nI 3)
theorem lobX5 : Cond.methodLink RX5 3 Lib.objectInit ∈ z_tbl := z_in (List.mem_of_getElem? (i := 313) (by decide +kernel)) rfl
def T_iX5 : zT := fun args hs Q => ∃ (tp : fI) (sz pla tok tpl num flt : Int32) (cod : fI) (eds : fI) (n : Nat), n ≤ 160 ∧ args = [.ref 0, .ref 2] ∧ hs = .inr (5, [.int 0, .null, .null, .null, .null]) :: pRd 1 (tp, sz, pla, tok, tpl, num, flt, cod, nI n, eds) ∧ Q none (.inr (5, [.int (bI (hasT cod n)), .ref 10, .ref 12, .ref 14, .ref 16]) :: (pRd 1 (tp, sz, pla, tok, tpl, num, flt, cod, nI n, eds) ++ [.inl (0, n, .inl cod), .inl (0, 3, .inl eds), .inl (0, 6, .inl fz), .inl (0, n, .inl fz)]))
set_option maxHeartbeats 4000000 in
theorem c_iX5 (l : Launch) (hcp : ∀ l, Ct l mJ7c true 2 1 160 T_copyOf) : Ct l mX5_init true 3 4 486 T_iX5 := by
  refine Ct.intro mX5_init_ok ?_
  rintro args hs Q ⟨tp, sz, pla, tok, tpl, num, flt, cod, eds, n, hn, rfl, rfl, h⟩
  refine ⟨Nat.le_of_ble_eq_true rfl, ?_⟩
  refine V.g 1 [1] mX5_init_ok rfl ?_
  refine V.obj mX5_init_ok rfl lobX5 rfl rfl 0 ?_
  refine V.nm [(0, .ref 0), (1, .ref 2)] [] [.inr (5, [.int 0, .null, .null, .null, .null]), .inr (1, [.ref 4, .int sz, .int pla, .int tok, .int tpl, .int num, .int flt, .ref 6, .int (nI n), .ref 8]), .inl (0, 160, .inl tp), .inl (0, 160, .inl cod), .inl (0, 3, .inl eds)] rfl rfl rfl ?_
  refine V.g 2 [] mX5_init_ok rfl ?_
  refine V.newI mX5_init_ok rfl 5 6 rfl rfl rfl rfl (zlowW_of rfl) ?_
  refine V.nm [(0, .ref 0), (1, .ref 2)] [.ref 10, .ref 0] [.inr (5, [.int 0, .null, .null, .null, .null]), .inr (1, [.ref 4, .int sz, .int pla, .int tok, .int tpl, .int num, .int flt, .ref 6, .int (nI n), .ref 8]), .inl (0, 160, .inl tp), .inl (0, 160, .inl cod), .inl (0, 3, .inl eds), .inl (0, 6, .inl fz)] rfl rfl rfl ?_
  refine V.g 1 [] mX5_init_ok rfl ?_
  refine And.intro rfl ?_
  refine V.nm [(0, .ref 0), (1, .ref 2)] [] [.inr (5, [.int 0, .null, .null, .ref 10, .null]), .inr (1, [.ref 4, .int sz, .int pla, .int tok, .int tpl, .int num, .int flt, .ref 6, .int (nI n), .ref 8]), .inl (0, 160, .inl tp), .inl (0, 160, .inl cod), .inl (0, 3, .inl eds), .inl (0, 6, .inl fz)] rfl rfl rfl ?_
  refine V.g 9 [21] mX5_init_ok rfl ?_
  refine V.nm [(0, .ref 0), (1, .ref 2)] [.int (nI n), .ref 6, .ref 0] [.inr (5, [.int 0, .null, .null, .ref 10, .null]), .inr (1, [.ref 4, .int sz, .int pla, .int tok, .int tpl, .int num, .int flt, .ref 6, .int (nI n), .ref 8]), .inl (0, 160, .inl tp), .inl (0, 160, .inl cod), .inl (0, 3, .inl eds), .inl (0, 6, .inl fz)] rfl rfl rfl ?_
  refine V.mkS mX5_init_ok rfl lX5_24 (hcp l) rfl 6 rfl rfl (fun k => k) (fun _ _ => rfl) (fun j => by unfold zlk; rw [show (2 * j + 1) % 2 = 1 by omega]; rfl) [3] [.inl (0, 160, .inl cod)] [.ref 0, .int (nI n)] [.ref 0] rfl rfl rfl rfl rfl (zlowW_of rfl) ⟨cod, 160, n, hn, by decide, rfl, rfl, (show 1 ≤ 2 by decide), ?_⟩
  refine V.nm [(0, .ref 0), (1, .ref 2)] [.ref 12, .ref 0] [.inr (5, [.int 0, .null, .null, .ref 10, .null]), .inr (1, [.ref 4, .int sz, .int pla, .int tok, .int tpl, .int num, .int flt, .ref 6, .int (nI n), .ref 8]), .inl (0, 160, .inl tp), .inl (0, 160, .inl cod), .inl (0, 3, .inl eds), .inl (0, 6, .inl fz), .inl (0, n, .inl cod)] rfl rfl rfl ?_
  refine V.g 1 [] mX5_init_ok rfl ?_
  refine And.intro rfl ?_
  refine V.nm [(0, .ref 0), (1, .ref 2)] [] [.inr (5, [.int 0, .ref 12, .null, .ref 10, .null]), .inr (1, [.ref 4, .int sz, .int pla, .int tok, .int tpl, .int num, .int flt, .ref 6, .int (nI n), .ref 8]), .inl (0, 160, .inl tp), .inl (0, 160, .inl cod), .inl (0, 3, .inl eds), .inl (0, 6, .inl fz), .inl (0, n, .inl cod)] rfl rfl rfl ?_
  refine V.g 9 [33] mX5_init_ok rfl ?_
  refine V.nm [(0, .ref 0), (1, .ref 2)] [.int (nI 3), .ref 8, .ref 0] [.inr (5, [.int 0, .ref 12, .null, .ref 10, .null]), .inr (1, [.ref 4, .int sz, .int pla, .int tok, .int tpl, .int num, .int flt, .ref 6, .int (nI n), .ref 8]), .inl (0, 160, .inl tp), .inl (0, 160, .inl cod), .inl (0, 3, .inl eds), .inl (0, 6, .inl fz), .inl (0, n, .inl cod)] rfl rfl rfl ?_
  refine V.mkS mX5_init_ok rfl lX5_24 (hcp l) rfl 7 rfl rfl (fun k => k) (fun _ _ => rfl) (fun j => by unfold zlk; rw [show (2 * j + 1) % 2 = 1 by omega]; rfl) [4] [.inl (0, 3, .inl eds)] [.ref 0, .int (nI 3)] [.ref 0] rfl rfl rfl rfl rfl (zlowW_of rfl) ⟨eds, 3, 3, by decide, by decide, rfl, rfl, (show 1 ≤ 2 by decide), ?_⟩
  refine V.nm [(0, .ref 0), (1, .ref 2)] [.ref 14, .ref 0] [.inr (5, [.int 0, .ref 12, .null, .ref 10, .null]), .inr (1, [.ref 4, .int sz, .int pla, .int tok, .int tpl, .int num, .int flt, .ref 6, .int (nI n), .ref 8]), .inl (0, 160, .inl tp), .inl (0, 160, .inl cod), .inl (0, 3, .inl eds), .inl (0, 6, .inl fz), .inl (0, n, .inl cod), .inl (0, 3, .inl eds)] rfl rfl rfl ?_
  refine V.g 1 [] mX5_init_ok rfl ?_
  refine And.intro rfl ?_
  refine V.nm [(0, .ref 0), (1, .ref 2)] [] [.inr (5, [.int 0, .ref 12, .ref 14, .ref 10, .null]), .inr (1, [.ref 4, .int sz, .int pla, .int tok, .int tpl, .int num, .int flt, .ref 6, .int (nI n), .ref 8]), .inl (0, 160, .inl tp), .inl (0, 160, .inl cod), .inl (0, 3, .inl eds), .inl (0, 6, .inl fz), .inl (0, n, .inl cod), .inl (0, 3, .inl eds)] rfl rfl rfl ?_
  refine V.g 9 [45] mX5_init_ok rfl ?_
  refine V.nm [(0, .ref 0), (1, .ref 2)] [.int (nI n), .ref 0] [.inr (5, [.int 0, .ref 12, .ref 14, .ref 10, .null]), .inr (1, [.ref 4, .int sz, .int pla, .int tok, .int tpl, .int num, .int flt, .ref 6, .int (nI n), .ref 8]), .inl (0, 160, .inl tp), .inl (0, 160, .inl cod), .inl (0, 3, .inl eds), .inl (0, 6, .inl fz), .inl (0, n, .inl cod), .inl (0, 3, .inl eds)] rfl rfl rfl ?_
  refine V.newI mX5_init_ok rfl 8 n rfl rfl (Nat.ble_eq_true_of_le (by omega)) (by rw [Bool.and_eq_true]; exact ⟨rfl, Nat.ble_eq_true_of_le (by show 0 + 6 + 160 + 160 + n ≤ 486; omega)⟩) (zlowW_of rfl) ?_
  refine V.wide (nc2 := 4) (ns2 := 486) (by decide) (by omega) ?_
  refine V.nm [(0, .ref 0), (1, .ref 2)] [.ref 16, .ref 0] [.inr (5, [.int 0, .ref 12, .ref 14, .ref 10, .null]), .inr (1, [.ref 4, .int sz, .int pla, .int tok, .int tpl, .int num, .int flt, .ref 6, .int (nI n), .ref 8]), .inl (0, 160, .inl tp), .inl (0, 160, .inl cod), .inl (0, 3, .inl eds), .inl (0, 6, .inl fz), .inl (0, n, .inl cod), .inl (0, 3, .inl eds), .inl (0, n, .inl fz)] rfl rfl rfl ?_
  refine V.g 1 [] mX5_init_ok rfl ?_
  refine And.intro rfl ?_
  refine V.nm [(0, .ref 0), (1, .ref 2)] [] [.inr (5, [.int 0, .ref 12, .ref 14, .ref 10, .ref 16]), .inr (1, [.ref 4, .int sz, .int pla, .int tok, .int tpl, .int num, .int flt, .ref 6, .int (nI n), .ref 8]), .inl (0, 160, .inl tp), .inl (0, 160, .inl cod), .inl (0, 3, .inl eds), .inl (0, 6, .inl fz), .inl (0, n, .inl cod), .inl (0, 3, .inl eds), .inl (0, n, .inl fz)] rfl rfl rfl ?_
  have loop : ∀ (m i : Nat) (x : Int32), i + m = n → x = nI i → V l mX5_init true (.inr (5, [.int 0, .null, .null, .null, .null]) :: pRd 1 (tp, sz, pla, tok, tpl, num, flt, cod, nI n, eds)) (zrm 3 4 486) (zFm true (.inr (5, [.int 0, .null, .null, .null, .null]) :: pRd 1 (tp, sz, pla, tok, tpl, num, flt, cod, nI n, eds)) Q 4 486) 4 486 54 [(0, .ref 0), (2, .int (bI (hasT cod i))), (3, .int x)] [] ([.inr (5, [.int 0, .ref 12, .ref 14, .ref 10, .ref 16]), .inr (1, [.ref 4, .int sz, .int pla, .int tok, .int tpl, .int num, .int flt, .ref 6, .int (nI n), .ref 8]), .inl (0, 160, .inl tp), .inl (0, 160, .inl cod), .inl (0, 3, .inl eds), .inl (0, 6, .inl fz), .inl (0, n, .inl cod), .inl (0, 3, .inl eds), .inl (0, n, .inl fz)]) := by
    intro m
    induction m with
    | zero =>
      intro i x hi hx
      refine V.g2 60 [54, 63, 80, 85, 92] mX5_init_ok rfl ?_
      refine pk_le n i (fun e1 => ?_) (fun e1 => absurd e1 (by omega)) rfl hx
      have hs0 : i = n := hi
      subst hs0
      refine V.g 3 [] mX5_init_ok rfl ?_
      refine And.intro rfl (And.intro (by cases hasT cod i <;> first | exact Or.inl rfl | exact Or.inr rfl) ?_)
      refine V.nm [(0, .ref 0), (2, .int (bI (hasT cod i))), (3, .int x)] [] [.inr (5, [.int (bI (hasT cod i)), .ref 12, .ref 14, .ref 10, .ref 16]), .inr (1, [.ref 4, .int sz, .int pla, .int tok, .int tpl, .int num, .int flt, .ref 6, .int (nI i), .ref 8]), .inl (0, 160, .inl tp), .inl (0, 160, .inl cod), .inl (0, 3, .inl eds), .inl (0, 6, .inl fz), .inl (0, i, .inl cod), .inl (0, 3, .inl eds), .inl (0, i, .inl fz)] rfl rfl rfl ?_
      refine V.reord (N := 9) (hs' := .inr (5, [.int (bI (hasT cod i)), .ref 10, .ref 12, .ref 14, .ref 16]) :: (pRd 1 (tp, sz, pla, tok, tpl, num, flt, cod, nI i, eds) ++ [.inl (0, i, .inl cod), .inl (0, 3, .inl eds), .inl (0, 6, .inl fz), .inl (0, i, .inl fz)])) [0, 1, 2, 3, 4, 6, 7, 5, 8] rfl rfl rfl rfl ?_
      exact V.g 1 [] mX5_init_ok rfl ⟨_, zsim_rfl _, h⟩
    | succ m ih =>
      intro i x hi hx
      refine V.g2 60 [54, 63, 80, 85, 92] mX5_init_ok rfl ?_
      refine pk_le n i (fun e1 => absurd e1 (by omega)) (fun e1 => ?_) rfl hx
      refine V.nm [(0, .ref 0), (2, .int (bI (hasT cod i))), (3, .int x)] [] [.inr (5, [.int 0, .ref 12, .ref 14, .ref 10, .ref 16]), .inr (1, [.ref 4, .int sz, .int pla, .int tok, .int tpl, .int num, .int flt, .ref 6, .int (nI n), .ref 8]), .inl (0, 160, .inl tp), .inl (0, 160, .inl cod), .inl (0, 3, .inl eds), .inl (0, 6, .inl fz), .inl (0, n, .inl cod), .inl (0, 3, .inl eds), .inl (0, n, .inl fz)] rfl rfl rfl ?_
      have t85 : V l mX5_init true (.inr (5, [.int 0, .null, .null, .null, .null]) :: pRd 1 (tp, sz, pla, tok, tpl, num, flt, cod, nI n, eds)) (zrm 3 4 486) (zFm true (.inr (5, [.int 0, .null, .null, .null, .null]) :: pRd 1 (tp, sz, pla, tok, tpl, num, flt, cod, nI n, eds)) Q 4 486) 4 486 85 [(0, .ref 0), (2, .int (bI (hasT cod i))), (3, .int x)] [.int (bI (hasT cod (i + 1)))] ([.inr (5, [.int 0, .ref 12, .ref 14, .ref 10, .ref 16]), .inr (1, [.ref 4, .int sz, .int pla, .int tok, .int tpl, .int num, .int flt, .ref 6, .int (nI n), .ref 8]), .inl (0, 160, .inl tp), .inl (0, 160, .inl cod), .inl (0, 3, .inl eds), .inl (0, 6, .inl fz), .inl (0, n, .inl cod), .inl (0, 3, .inl eds), .inl (0, n, .inl fz)]) := by
        refine V.g2 60 [54] mX5_init_ok rfl ?_
        refine V.kn [0, 2, 3] [(0, .ref 0), (2, .int (bI (hasT cod (i + 1)))), (3, .int (x + zi 1))] [] ([.inr (5, [.int 0, .ref 12, .ref 14, .ref 10, .ref 16]), .inr (1, [.ref 4, .int sz, .int pla, .int tok, .int tpl, .int num, .int flt, .ref 6, .int (nI n), .ref 8]), .inl (0, 160, .inl tp), .inl (0, 160, .inl cod), .inl (0, 3, .inl eds), .inl (0, 6, .inl fz), .inl (0, n, .inl cod), .inl (0, 3, .inl eds), .inl (0, n, .inl fz)]) rfl rfl rfl ?_
        exact ih (i + 1) _ (by omega) (ninc hx)
      have e80 : hasT cod (i + 1) = (hasT cod i || decide (cod i = -1 - nI 3)) := rfl
      cases hb : hasT cod i with
      | true =>
        rw [e80, hb, Bool.true_or] at t85
        refine V.g 9 [85] mX5_init_ok rfl ?_
        refine And.intro (fun _ => ?_) (fun q => absurd q (by decide))
        exact t85
      | false =>
        rw [e80, hb, Bool.false_or] at t85
        refine V.g 9 [67] mX5_init_ok rfl ?_
        refine And.intro (fun q => absurd rfl q) (fun _ => ?_)
        refine V.nm [(0, .ref 0), (2, .int (bI false)), (3, .int x)] [] [.inr (5, [.int 0, .ref 12, .ref 14, .ref 10, .ref 16]), .inr (1, [.ref 4, .int sz, .int pla, .int tok, .int tpl, .int num, .int flt, .ref 6, .int (nI n), .ref 8]), .inl (0, 160, .inl tp), .inl (0, 160, .inl cod), .inl (0, 3, .inl eds), .inl (0, 6, .inl fz), .inl (0, n, .inl cod), .inl (0, 3, .inl eds), .inl (0, n, .inl fz)] rfl rfl rfl ?_
        refine V.g2 60 [74] mX5_init_ok rfl ?_
        refine ⟨i, by omega, hx, Nat.ble_eq_true_of_le (by omega), ?_⟩
        refine V.cs mX5_init_ok rfl lX5_38 (c7_ofName l) rfl rfl rfl rfl ⟨_, rfl, ⟨rfl, ?_⟩⟩
        refine V.g 9 [85] mX5_init_ok rfl ?_
        refine And.intro (fun (q : ¬ cod i = -1 - nI 3) => ?_) (fun (q : cod i = -1 - nI 3) => ?_)
        · rw [decide_eq_false q] at t85
          exact t85
        · rw [decide_eq_true q] at t85
          exact t85
  refine V.g 9 [54] mX5_init_ok rfl ?_
  refine V.kn [0, 2, 3] [(0, .ref 0), (2, .int (bI (hasT cod 0))), (3, .int (nI 0))] [] [.inr (5, [.int 0, .ref 12, .ref 14, .ref 10, .ref 16]), .inr (1, [.ref 4, .int sz, .int pla, .int tok, .int tpl, .int num, .int flt, .ref 6, .int (nI n), .ref 8]), .inl (0, 160, .inl tp), .inl (0, 160, .inl cod), .inl (0, 3, .inl eds), .inl (0, 6, .inl fz), .inl (0, n, .inl cod), .inl (0, 3, .inl eds), .inl (0, n, .inl fz)] rfl rfl rfl ?_
  exact loop n 0 _ (by omega) rfl
