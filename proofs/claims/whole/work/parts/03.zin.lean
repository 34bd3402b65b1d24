/-- the words that a callee may be given, whatever the state -/
def z_tbl : List Cond := lw_tbl.filter goodWord
theorem z_in {w : Cond} (h : w ∈ tables_1) (g : goodWord w = true) : w ∈ z_tbl := List.mem_filter.mpr ⟨z_tb h, g⟩
theorem z_inS {w : Cond} (h : w ∈ k2_sels lw_privs) (g : goodWord w = true) : w ∈ z_tbl := List.mem_filter.mpr ⟨List.mem_append_left _ h, g⟩
theorem zin_x {ws : List Cond} (h : ws.all (fun w => decide (w ∈ tables_1) && goodWord w) = true) : ∀ w ∈ ws, w ∈ z_tbl := fun w hw => by
  have := List.all_eq_true.mp h w hw
  rw [Bool.and_eq_true] at this
  exact z_in (of_decide_eq_true this.1) this.2
theorem inX0 : ∀ w ∈ wsX00, w ∈ z_tbl := zin_x (by decide +kernel)
theorem inX1 : ∀ w ∈ wsX10, w ∈ z_tbl := zin_x (by decide +kernel)
theorem inX2 : ∀ w ∈ wsX20, w ∈ z_tbl := zin_x (by decide +kernel)
theorem inX3 : ∀ w ∈ wsX30, w ∈ z_tbl := zin_x (by decide +kernel)
theorem inX4 : ∀ w ∈ wsX40, w ∈ z_tbl := zin_x (by decide +kernel)
theorem inX5 : ∀ w ∈ wsX50, w ∈ z_tbl := zin_x (by decide +kernel)
theorem inX6 : ∀ w ∈ wsX60, w ∈ z_tbl := zin_x (by decide +kernel)
theorem inX7 : ∀ w ∈ wsX70, w ∈ z_tbl := zin_x (by decide +kernel)
theorem z_good : GoodIn z_tbl z_tbl := fun w hw => ⟨hw, good_of_word (List.mem_filter.mp hw).2⟩
abbrev zcl : List vw_C := [(RX0, TX0, 7), (RX1, TX1, 10), (RX2, TX2, 15), (RX3, TX3, 11), (RX4, TX4, 3), (RX5, TX5, 5), (RX6, TX6, 15), (RX7, TX7, 60)]
def zcl_ok (C : String) (T : u_T) (N : Nat) : Prop := (∀ w ∈ u_ws C T N, w ∈ z_tbl) ∧ (∃ ty0 : Nat → FieldType, ∀ k, k < N → parseFieldDescriptor (T k).2.2.1 = some (ty0 k)) ∧ ∀ a, a < N → ∀ b, b < N → a ≠ b → (T a).2.1 ≠ (T b).2.1
theorem zcl_all : ∀ (ci : Nat) (q : vw_C), zcl[ci]? = some q → zcl_ok q.1 q.2.1 q.2.2
  | 0, _, h => by cases h; exact ⟨inX0, ⟨tyX0, tyX0_ok⟩, nmX0⟩
  | 1, _, h => by cases h; exact ⟨inX1, ⟨tyX1, tyX1_ok⟩, nmX1⟩
  | 2, _, h => by cases h; exact ⟨inX2, ⟨tyX2, tyX2_ok⟩, nmX2⟩
  | 3, _, h => by cases h; exact ⟨inX3, ⟨tyX3, tyX3_ok⟩, nmX3⟩
  | 4, _, h => by cases h; exact ⟨inX4, ⟨tyX4, tyX4_ok⟩, nmX4⟩
  | 5, _, h => by cases h; exact ⟨inX5, ⟨tyX5, tyX5_ok⟩, nmX5⟩
  | 6, _, h => by cases h; exact ⟨inX6, ⟨tyX6, tyX6_ok⟩, nmX6⟩
  | 7, _, h => by cases h; exact ⟨inX7, ⟨tyX7, tyX7_ok⟩, nmX7⟩
  | k + 8, _, h => by cases h
