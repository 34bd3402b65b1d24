/-! ===== the small constructors ===== -/
def zlowB (n : Nat) : zE → Bool
  | .inl (_, _, .inl _) => true
  | .inl (_, _, .inr _) => false
  | .inr (_, fs) => fs.all (zlow n)
theorem zlowL_of {n : Nat} : ∀ {hs : List zE}, hs.all (zlowB n) = true → zlowL n hs
  | [], _ => trivial
  | .inl (_, _, .inl _) :: hs, h => ⟨trivial, zlowL_of (hs := hs) h⟩
  | .inl (_, _, .inr _) :: hs, h => by cases h
  | .inr (_, fs) :: hs, h => by
    rw [List.all_cons, Bool.and_eq_true] at h
    exact ⟨h.1, zlowL_of (hs := hs) h.2⟩
theorem zlowW_of {n : Nat} {hs : List zE} {lv : zL} {st : List Value} (h : (hs.all (zlowB n) && (lv.all (fun q => zlow n q.2) && st.all (zlow n))) = true) : zlowW n hs lv st := by
  rw [Bool.and_eq_true, Bool.and_eq_true] at h
  exact ⟨zlowL_of h.1, h.2.1, h.2.2⟩
abbrev fz : fI := fun _ => 0
abbrev cart0 : zCart := (fz, fz, fz, fz, fz, fun _ => nI 20, nI 3)
abbrev row0 : zRow := (fz, fz, 0, nI 1, nI 30, nI 2, 0, fz, 0, 0, 0)
abbrev rd0 : zRd := (fz, 0, 0, 0, 0, 0, 0, fz, 0, fz)
theorem lobX0 : Cond.methodLink RX0 3 Lib.objectInit ∈ z_tbl := z_in (List.mem_of_getElem? (i := 29) (by decide +kernel)) rfl
theorem lobX1 : Cond.methodLink RX1 3 Lib.objectInit ∈ z_tbl := z_in (List.mem_of_getElem? (i := 121) (by decide +kernel)) rfl
theorem lobX2 : Cond.methodLink RX2 3 Lib.objectInit ∈ z_tbl := z_in (List.mem_of_getElem? (i := 358) (by decide +kernel)) rfl
theorem lobX3 : Cond.methodLink RX3 3 Lib.objectInit ∈ z_tbl := z_in (List.mem_of_getElem? (i := 72) (by decide +kernel)) rfl
theorem lobX4 : Cond.methodLink RX4 3 Lib.objectInit ∈ z_tbl := z_in (List.mem_of_getElem? (i := 416) (by decide +kernel)) rfl
def T_iX0 : zT := fun args hs Q => args = [.ref 0] ∧ hs = [.inr (0, [.null, .null, .null, .null, .null, .null, .int 0])] ∧ Q none (pCart 0 cart0)
theorem c_iX0 (l : Launch) : Ct l mX0_init true 2 6 52 T_iX0 := by
  refine Ct.intro mX0_init_ok ?_
  rintro args hs Q ⟨rfl, rfl, h⟩
  refine ⟨Nat.le_of_ble_eq_true rfl, ?_⟩
  refine V.g 1 [1] mX0_init_ok rfl ?_
  refine V.obj mX0_init_ok rfl lobX0 rfl rfl 0 ?_
  refine V.nm [(0, .ref 0)] [] [.inr (0, [.null, .null, .null, .null, .null, .null, .int 0])] rfl rfl rfl ?_
  refine V.g 2 [] mX0_init_ok rfl ?_
  refine V.newI mX0_init_ok rfl 1 4 rfl rfl rfl rfl (zlowW_of rfl) ?_
  refine V.nm [(0, .ref 0)] [.ref 2, .ref 0] [.inr (0, [.null, .null, .null, .null, .null, .null, .int 0]), .inl (0, 4, .inl fz)] rfl rfl rfl ?_
  refine V.g 1 [] mX0_init_ok rfl ?_
  refine And.intro rfl ?_
  refine V.nm [(0, .ref 0)] [] [.inr (0, [.ref 2, .null, .null, .null, .null, .null, .int 0]), .inl (0, 4, .inl fz)] rfl rfl rfl ?_
  refine V.g 2 [] mX0_init_ok rfl ?_
  refine V.newI mX0_init_ok rfl 2 4 rfl rfl rfl rfl (zlowW_of rfl) ?_
  refine V.nm [(0, .ref 0)] [.ref 4, .ref 0] [.inr (0, [.ref 2, .null, .null, .null, .null, .null, .int 0]), .inl (0, 4, .inl fz), .inl (0, 4, .inl fz)] rfl rfl rfl ?_
  refine V.g 1 [] mX0_init_ok rfl ?_
  refine And.intro rfl ?_
  refine V.nm [(0, .ref 0)] [] [.inr (0, [.ref 2, .ref 4, .null, .null, .null, .null, .int 0]), .inl (0, 4, .inl fz), .inl (0, 4, .inl fz)] rfl rfl rfl ?_
  refine V.g 2 [] mX0_init_ok rfl ?_
  refine V.newI mX0_init_ok rfl 3 4 rfl rfl rfl rfl (zlowW_of rfl) ?_
  refine V.nm [(0, .ref 0)] [.ref 6, .ref 0] [.inr (0, [.ref 2, .ref 4, .null, .null, .null, .null, .int 0]), .inl (0, 4, .inl fz), .inl (0, 4, .inl fz), .inl (0, 4, .inl fz)] rfl rfl rfl ?_
  refine V.g 1 [] mX0_init_ok rfl ?_
  refine And.intro rfl ?_
  refine V.nm [(0, .ref 0)] [] [.inr (0, [.ref 2, .ref 4, .ref 6, .null, .null, .null, .int 0]), .inl (0, 4, .inl fz), .inl (0, 4, .inl fz), .inl (0, 4, .inl fz)] rfl rfl rfl ?_
  refine V.g 2 [] mX0_init_ok rfl ?_
  refine V.newI mX0_init_ok rfl 4 8 rfl rfl rfl rfl (zlowW_of rfl) ?_
  refine V.nm [(0, .ref 0)] [.ref 8, .ref 0] [.inr (0, [.ref 2, .ref 4, .ref 6, .null, .null, .null, .int 0]), .inl (0, 4, .inl fz), .inl (0, 4, .inl fz), .inl (0, 4, .inl fz), .inl (0, 8, .inl fz)] rfl rfl rfl ?_
  refine V.g 1 [] mX0_init_ok rfl ?_
  refine And.intro rfl ?_
  refine V.nm [(0, .ref 0)] [] [.inr (0, [.ref 2, .ref 4, .ref 6, .ref 8, .null, .null, .int 0]), .inl (0, 4, .inl fz), .inl (0, 4, .inl fz), .inl (0, 4, .inl fz), .inl (0, 8, .inl fz)] rfl rfl rfl ?_
  refine V.g 2 [] mX0_init_ok rfl ?_
  refine V.newI mX0_init_ok rfl 5 2 rfl rfl rfl rfl (zlowW_of rfl) ?_
  refine V.nm [(0, .ref 0)] [.ref 10, .ref 0] [.inr (0, [.ref 2, .ref 4, .ref 6, .ref 8, .null, .null, .int 0]), .inl (0, 4, .inl fz), .inl (0, 4, .inl fz), .inl (0, 4, .inl fz), .inl (0, 8, .inl fz), .inl (0, 2, .inl fz)] rfl rfl rfl ?_
  refine V.g 1 [] mX0_init_ok rfl ?_
  refine And.intro rfl ?_
  refine V.nm [(0, .ref 0)] [] [.inr (0, [.ref 2, .ref 4, .ref 6, .ref 8, .ref 10, .null, .int 0]), .inl (0, 4, .inl fz), .inl (0, 4, .inl fz), .inl (0, 4, .inl fz), .inl (0, 8, .inl fz), .inl (0, 2, .inl fz)] rfl rfl rfl ?_
  refine V.g 2 [] mX0_init_ok rfl ?_
  refine V.newI mX0_init_ok rfl 6 30 rfl rfl rfl rfl (zlowW_of rfl) ?_
  refine V.nm [(0, .ref 0)] [.ref 12, .ref 0] [.inr (0, [.ref 2, .ref 4, .ref 6, .ref 8, .ref 10, .null, .int 0]), .inl (0, 4, .inl fz), .inl (0, 4, .inl fz), .inl (0, 4, .inl fz), .inl (0, 8, .inl fz), .inl (0, 2, .inl fz), .inl (0, 30, .inl fz)] rfl rfl rfl ?_
  refine V.g 1 [] mX0_init_ok rfl ?_
  refine And.intro rfl ?_
  refine V.nm [(0, .ref 0)] [] [.inr (0, [.ref 2, .ref 4, .ref 6, .ref 8, .ref 10, .ref 12, .int 0]), .inl (0, 4, .inl fz), .inl (0, 4, .inl fz), .inl (0, 4, .inl fz), .inl (0, 8, .inl fz), .inl (0, 2, .inl fz), .inl (0, 30, .inl fz)] rfl rfl rfl ?_
  refine V.g 3 [] mX0_init_ok rfl ?_
  refine V.nm [(0, .ref 0)] [] [.inr (0, [.ref 2, .ref 4, .ref 6, .ref 8, .ref 10, .ref 12, .int (nI 3)]), .inl (0, 4, .inl fz), .inl (0, 4, .inl fz), .inl (0, 4, .inl fz), .inl (0, 8, .inl fz), .inl (0, 2, .inl fz), .inl (0, 30, .inl fz)] rfl rfl rfl ?_
  refine V.g 3 [] mX0_init_ok rfl ?_
  refine V.nm [(0, .ref 0)] [.int (nI 20), .ref 12] [.inr (0, [.ref 2, .ref 4, .ref 6, .ref 8, .ref 10, .ref 12, .int (nI 3)]), .inl (0, 4, .inl fz), .inl (0, 4, .inl fz), .inl (0, 4, .inl fz), .inl (0, 8, .inl fz), .inl (0, 2, .inl fz), .inl (0, 30, .inl fz)] rfl rfl rfl ?_
  refine V.callS mX0_init_ok rfl lX0_34 (ct_fill l) rfl (fun k => k) (fun _ _ => rfl) [6] [.inl (0, 30, .inl fz)] [.ref 0, .int (nI 20)] [] (fun v w => v = none ∧ w = [.inl (0, 30, .inl (fun _ => nI 20))]) rfl rfl rfl rfl rfl ⟨30, _, _, by decide, rfl, rfl, rfl, rfl⟩ (fun v w hv => ?_)
  obtain ⟨rfl, rfl⟩ := hv
  refine ⟨rfl, ?_⟩
  refine V.nm [(0, .ref 0)] [] [.inr (0, [.ref 2, .ref 4, .ref 6, .ref 8, .ref 10, .ref 12, .int (nI 3)]), .inl (0, 4, .inl fz), .inl (0, 4, .inl fz), .inl (0, 4, .inl fz), .inl (0, 8, .inl fz), .inl (0, 2, .inl fz), .inl (0, 30, .inl (fun _ => nI 20))] rfl rfl rfl ?_
  exact V.g 1 [] mX0_init_ok rfl ⟨_, zsim_rfl _, h⟩
def T_iX1 : zT := fun args hs Q => args = [.ref 0] ∧ hs = [.inr (1, [.null, .int 0, .int 0, .int 0, .int 0, .int 0, .int 0, .null, .int 0, .null])] ∧ Q none (pRd 0 rd0)
theorem c_iX1 (l : Launch) : Ct l mX1_init true 1 3 323 T_iX1 := by
  refine Ct.intro mX1_init_ok ?_
  rintro args hs Q ⟨rfl, rfl, h⟩
  refine ⟨Nat.le_of_ble_eq_true rfl, ?_⟩
  refine V.g 1 [1] mX1_init_ok rfl ?_
  refine V.obj mX1_init_ok rfl lobX1 rfl rfl 0 ?_
  refine V.nm [(0, .ref 0)] [] [.inr (1, [.null, .int 0, .int 0, .int 0, .int 0, .int 0, .int 0, .null, .int 0, .null])] rfl rfl rfl ?_
  refine V.g 2 [] mX1_init_ok rfl ?_
  refine V.newI mX1_init_ok rfl 1 160 rfl rfl rfl rfl (zlowW_of rfl) ?_
  refine V.nm [(0, .ref 0)] [.ref 2, .ref 0] [.inr (1, [.null, .int 0, .int 0, .int 0, .int 0, .int 0, .int 0, .null, .int 0, .null]), .inl (0, 160, .inl fz)] rfl rfl rfl ?_
  refine V.g 1 [] mX1_init_ok rfl ?_
  refine And.intro rfl ?_
  refine V.nm [(0, .ref 0)] [] [.inr (1, [.ref 2, .int 0, .int 0, .int 0, .int 0, .int 0, .int 0, .null, .int 0, .null]), .inl (0, 160, .inl fz)] rfl rfl rfl ?_
  refine V.g 2 [] mX1_init_ok rfl ?_
  refine V.newI mX1_init_ok rfl 2 160 rfl rfl rfl rfl (zlowW_of rfl) ?_
  refine V.nm [(0, .ref 0)] [.ref 4, .ref 0] [.inr (1, [.ref 2, .int 0, .int 0, .int 0, .int 0, .int 0, .int 0, .null, .int 0, .null]), .inl (0, 160, .inl fz), .inl (0, 160, .inl fz)] rfl rfl rfl ?_
  refine V.g 1 [] mX1_init_ok rfl ?_
  refine And.intro rfl ?_
  refine V.nm [(0, .ref 0)] [] [.inr (1, [.ref 2, .int 0, .int 0, .int 0, .int 0, .int 0, .int 0, .ref 4, .int 0, .null]), .inl (0, 160, .inl fz), .inl (0, 160, .inl fz)] rfl rfl rfl ?_
  refine V.g 2 [] mX1_init_ok rfl ?_
  refine V.newI mX1_init_ok rfl 3 3 rfl rfl rfl rfl (zlowW_of rfl) ?_
  refine V.nm [(0, .ref 0)] [.ref 6, .ref 0] [.inr (1, [.ref 2, .int 0, .int 0, .int 0, .int 0, .int 0, .int 0, .ref 4, .int 0, .null]), .inl (0, 160, .inl fz), .inl (0, 160, .inl fz), .inl (0, 3, .inl fz)] rfl rfl rfl ?_
  refine V.g 1 [] mX1_init_ok rfl ?_
  refine And.intro rfl ?_
  refine V.nm [(0, .ref 0)] [] [.inr (1, [.ref 2, .int 0, .int 0, .int 0, .int 0, .int 0, .int 0, .ref 4, .int 0, .ref 6]), .inl (0, 160, .inl fz), .inl (0, 160, .inl fz), .inl (0, 3, .inl fz)] rfl rfl rfl ?_
  exact V.g 1 [] mX1_init_ok rfl ⟨_, zsim_rfl _, h⟩
def T_iX2 : zT := fun args hs Q => args = [.ref 0, .ref 101, .ref 103] ∧ hs = [.inr (2, [.null, .null, .int 0, .long 0, .int 0, .null, .null, .int 0, .int 0, .int 0, .int 0, .int 0, .int 0, .int 0, .int 0])] ∧ Q none (pRide 101 103 0 0 0 fz fz 0 0 0 0 0 0 0 0)
theorem c_iX2 (l : Launch) : Ct l mX2_init true 1 2 6 T_iX2 := by
  refine Ct.intro mX2_init_ok ?_
  rintro args hs Q ⟨rfl, rfl, h⟩
  refine ⟨Nat.le_of_ble_eq_true rfl, ?_⟩
  refine V.g 1 [1] mX2_init_ok rfl ?_
  refine V.obj mX2_init_ok rfl lobX2 rfl rfl 0 ?_
  refine V.nm [(0, .ref 0), (1, .ref 101), (2, .ref 103)] [] [.inr (2, [.null, .null, .int 0, .long 0, .int 0, .null, .null, .int 0, .int 0, .int 0, .int 0, .int 0, .int 0, .int 0, .int 0])] rfl rfl rfl ?_
  refine V.g 2 [] mX2_init_ok rfl ?_
  refine V.newI mX2_init_ok rfl 1 2 rfl rfl rfl rfl (zlowW_of rfl) ?_
  refine V.nm [(0, .ref 0), (1, .ref 101), (2, .ref 103)] [.ref 2, .ref 0] [.inr (2, [.null, .null, .int 0, .long 0, .int 0, .null, .null, .int 0, .int 0, .int 0, .int 0, .int 0, .int 0, .int 0, .int 0]), .inl (0, 2, .inl fz)] rfl rfl rfl ?_
  refine V.g 1 [] mX2_init_ok rfl ?_
  refine And.intro rfl ?_
  refine V.nm [(0, .ref 0), (1, .ref 101), (2, .ref 103)] [] [.inr (2, [.null, .null, .int 0, .long 0, .int 0, .ref 2, .null, .int 0, .int 0, .int 0, .int 0, .int 0, .int 0, .int 0, .int 0]), .inl (0, 2, .inl fz)] rfl rfl rfl ?_
  refine V.g 2 [] mX2_init_ok rfl ?_
  refine V.newI mX2_init_ok rfl 2 4 rfl rfl rfl rfl (zlowW_of rfl) ?_
  refine V.nm [(0, .ref 0), (1, .ref 101), (2, .ref 103)] [.ref 4, .ref 0] [.inr (2, [.null, .null, .int 0, .long 0, .int 0, .ref 2, .null, .int 0, .int 0, .int 0, .int 0, .int 0, .int 0, .int 0, .int 0]), .inl (0, 2, .inl fz), .inl (0, 4, .inl fz)] rfl rfl rfl ?_
  refine V.g 1 [] mX2_init_ok rfl ?_
  refine And.intro rfl ?_
  refine V.nm [(0, .ref 0), (1, .ref 101), (2, .ref 103)] [] [.inr (2, [.null, .null, .int 0, .long 0, .int 0, .ref 2, .ref 4, .int 0, .int 0, .int 0, .int 0, .int 0, .int 0, .int 0, .int 0]), .inl (0, 2, .inl fz), .inl (0, 4, .inl fz)] rfl rfl rfl ?_
  refine V.g 3 [] mX2_init_ok rfl ?_
  refine V.nm [(0, .ref 0), (1, .ref 101), (2, .ref 103)] [] [.inr (2, [.ref 101, .null, .int 0, .long 0, .int 0, .ref 2, .ref 4, .int 0, .int 0, .int 0, .int 0, .int 0, .int 0, .int 0, .int 0]), .inl (0, 2, .inl fz), .inl (0, 4, .inl fz)] rfl rfl rfl ?_
  refine V.g 3 [] mX2_init_ok rfl ?_
  refine V.nm [(0, .ref 0), (1, .ref 101), (2, .ref 103)] [] [.inr (2, [.ref 101, .ref 103, .int 0, .long 0, .int 0, .ref 2, .ref 4, .int 0, .int 0, .int 0, .int 0, .int 0, .int 0, .int 0, .int 0]), .inl (0, 2, .inl fz), .inl (0, 4, .inl fz)] rfl rfl rfl ?_
  exact V.g 1 [] mX2_init_ok rfl ⟨_, zsim_rfl _, h⟩
def T_iX3 : zT := fun args hs Q => args = [.ref 0] ∧ hs = [.inr (3, [.null, .null, .int 0, .int 0, .int 0, .int 0, .int 0, .null, .int 0, .int 0, .int 0])] ∧ Q none (pRowT 0 row0)
theorem c_iX3 (l : Launch) : Ct l mX3_init true 1 3 40 T_iX3 := by
  refine Ct.intro mX3_init_ok ?_
  rintro args hs Q ⟨rfl, rfl, h⟩
  refine ⟨Nat.le_of_ble_eq_true rfl, ?_⟩
  refine V.g 1 [1] mX3_init_ok rfl ?_
  refine V.obj mX3_init_ok rfl lobX3 rfl rfl 0 ?_
  refine V.nm [(0, .ref 0)] [] [.inr (3, [.null, .null, .int 0, .int 0, .int 0, .int 0, .int 0, .null, .int 0, .int 0, .int 0])] rfl rfl rfl ?_
  refine V.g 2 [] mX3_init_ok rfl ?_
  refine V.newI mX3_init_ok rfl 1 8 rfl rfl rfl rfl (zlowW_of rfl) ?_
  refine V.nm [(0, .ref 0)] [.ref 2, .ref 0] [.inr (3, [.null, .null, .int 0, .int 0, .int 0, .int 0, .int 0, .null, .int 0, .int 0, .int 0]), .inl (0, 8, .inl fz)] rfl rfl rfl ?_
  refine V.g 1 [] mX3_init_ok rfl ?_
  refine And.intro rfl ?_
  refine V.nm [(0, .ref 0)] [] [.inr (3, [.ref 2, .null, .int 0, .int 0, .int 0, .int 0, .int 0, .null, .int 0, .int 0, .int 0]), .inl (0, 8, .inl fz)] rfl rfl rfl ?_
  refine V.g 2 [] mX3_init_ok rfl ?_
  refine V.newI mX3_init_ok rfl 2 8 rfl rfl rfl rfl (zlowW_of rfl) ?_
  refine V.nm [(0, .ref 0)] [.ref 4, .ref 0] [.inr (3, [.ref 2, .null, .int 0, .int 0, .int 0, .int 0, .int 0, .null, .int 0, .int 0, .int 0]), .inl (0, 8, .inl fz), .inl (0, 8, .inl fz)] rfl rfl rfl ?_
  refine V.g 1 [] mX3_init_ok rfl ?_
  refine And.intro rfl ?_
  refine V.nm [(0, .ref 0)] [] [.inr (3, [.ref 2, .ref 4, .int 0, .int 0, .int 0, .int 0, .int 0, .null, .int 0, .int 0, .int 0]), .inl (0, 8, .inl fz), .inl (0, 8, .inl fz)] rfl rfl rfl ?_
  refine V.g 3 [] mX3_init_ok rfl ?_
  refine V.nm [(0, .ref 0)] [] [.inr (3, [.ref 2, .ref 4, .int 0, .int (nI 1), .int 0, .int 0, .int 0, .null, .int 0, .int 0, .int 0]), .inl (0, 8, .inl fz), .inl (0, 8, .inl fz)] rfl rfl rfl ?_
  refine V.g 3 [] mX3_init_ok rfl ?_
  refine V.nm [(0, .ref 0)] [] [.inr (3, [.ref 2, .ref 4, .int 0, .int (nI 1), .int (nI 30), .int 0, .int 0, .null, .int 0, .int 0, .int 0]), .inl (0, 8, .inl fz), .inl (0, 8, .inl fz)] rfl rfl rfl ?_
  refine V.g 3 [] mX3_init_ok rfl ?_
  refine V.nm [(0, .ref 0)] [] [.inr (3, [.ref 2, .ref 4, .int 0, .int (nI 1), .int (nI 30), .int (nI 2), .int 0, .null, .int 0, .int 0, .int 0]), .inl (0, 8, .inl fz), .inl (0, 8, .inl fz)] rfl rfl rfl ?_
  refine V.g 2 [] mX3_init_ok rfl ?_
  refine V.newI mX3_init_ok rfl 3 24 rfl rfl rfl rfl (zlowW_of rfl) ?_
  refine V.nm [(0, .ref 0)] [.ref 6, .ref 0] [.inr (3, [.ref 2, .ref 4, .int 0, .int (nI 1), .int (nI 30), .int (nI 2), .int 0, .null, .int 0, .int 0, .int 0]), .inl (0, 8, .inl fz), .inl (0, 8, .inl fz), .inl (0, 24, .inl fz)] rfl rfl rfl ?_
  refine V.g 1 [] mX3_init_ok rfl ?_
  refine And.intro rfl ?_
  refine V.nm [(0, .ref 0)] [] [.inr (3, [.ref 2, .ref 4, .int 0, .int (nI 1), .int (nI 30), .int (nI 2), .int 0, .ref 6, .int 0, .int 0, .int 0]), .inl (0, 8, .inl fz), .inl (0, 8, .inl fz), .inl (0, 24, .inl fz)] rfl rfl rfl ?_
  exact V.g 1 [] mX3_init_ok rfl ⟨_, zsim_rfl _, h⟩
def T_iX4 : zT := fun args hs Q => args = [.ref 0] ∧ hs = [.inr (4, [.int 0, .int 0, .null])] ∧ Q none (pSheet 0 (-1) 0 fz)
theorem c_iX4 (l : Launch) : Ct l mX4_init true 1 1 40 T_iX4 := by
  refine Ct.intro mX4_init_ok ?_
  rintro args hs Q ⟨rfl, rfl, h⟩
  refine ⟨Nat.le_of_ble_eq_true rfl, ?_⟩
  refine V.g 1 [1] mX4_init_ok rfl ?_
  refine V.obj mX4_init_ok rfl lobX4 rfl rfl 0 ?_
  refine V.nm [(0, .ref 0)] [] [.inr (4, [.int 0, .int 0, .null])] rfl rfl rfl ?_
  refine V.g 3 [] mX4_init_ok rfl ?_
  refine V.nm [(0, .ref 0)] [] [.inr (4, [.int (-1), .int 0, .null])] rfl rfl rfl ?_
  refine V.g 2 [] mX4_init_ok rfl ?_
  refine V.newI mX4_init_ok rfl 1 40 rfl rfl rfl rfl (zlowW_of rfl) ?_
  refine V.nm [(0, .ref 0)] [.ref 2, .ref 0] [.inr (4, [.int (-1), .int 0, .null]), .inl (0, 40, .inl fz)] rfl rfl rfl ?_
  refine V.g 1 [] mX4_init_ok rfl ?_
  refine And.intro rfl ?_
  refine V.nm [(0, .ref 0)] [] [.inr (4, [.int (-1), .int 0, .ref 2]), .inl (0, 40, .inl fz)] rfl rfl rfl ?_
  exact V.g 1 [] mX4_init_ok rfl ⟨_, zsim_rfl _, h⟩
