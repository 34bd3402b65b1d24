/-! ===== what the Statement gives of the start ===== -/
abbrev sFl : List Cond := flatC (Jvm.Cond.and given_1 narrow_1)
abbrev sTm (i : Nat) : Term := Term.string (zsown i) (zsidx i)
abbrev sVl (i : Nat) : Term := Term.field (sTm i) "java/lang/String" "value" "[B"
abbrev sKa : Term := Term.static "PullsToTheLeft" "KIND_ABOVE" "[I"
set_option maxRecDepth 100000 in
theorem sf_ex : ∀ i, i < 13 → Cond.exactly (sTm i) "java/lang/String" ∈ sFl := by decide +kernel
set_option maxRecDepth 100000 in
theorem sf_co : ∀ i, i < 13 → Cond.eq (.field (sTm i) "java/lang/String" "coder" "B") (.int 0) ∈ sFl := by decide +kernel
set_option maxRecDepth 100000 in
theorem sf_ar : ∀ i, i < 13 → Cond.arrayOf (sVl i) .byte ∈ sFl := by decide +kernel
set_option maxRecDepth 100000 in
theorem sf_le : ∀ i, i < 13 → Cond.eq (.length (sVl i)) (.int (Int32.ofNat (zslen.getD i 0))) ∈ sFl := by decide +kernel
set_option maxRecDepth 100000 in
theorem sf_e0 : ∀ i, i < 1 → ∀ j, j < zslen.getD i 0 → Cond.eq (.elem (sVl i) (.int (Int32.ofNat j))) (.int ((zsbyt.getD i []).getD j 0)) ∈ sFl := by decide +kernel
set_option maxRecDepth 100000 in
theorem sf_e1 : ∀ i, i < 12 → ∀ j, j < zslen.getD (i + 1) 0 → Cond.eq (.elem (sVl (i + 1)) (.int (Int32.ofNat j))) (.int ((zsbyt.getD (i + 1) []).getD j 0)) ∈ sFl := by decide +kernel
theorem sf_el : ∀ i, i < 13 → ∀ j, j < zslen.getD i 0 → Cond.eq (.elem (sVl i) (.int (Int32.ofNat j))) (.int ((zsbyt.getD i []).getD j 0)) ∈ sFl := fun i hi => by
  cases i with
  | zero => exact sf_e0 0 (by omega)
  | succ i => exact sf_e1 i (by omega)
set_option maxRecDepth 100000 in
theorem sf_n0 : ∀ i, i < 13 → ∀ j, j < i → Cond.not (Cond.eq (sTm j) (sTm i)) ∈ sFl := by decide +kernel
theorem sf_ne : ∀ i j, i < 13 → j < 13 → i ≠ j → Cond.not (Cond.eq (sTm i) (sTm j)) ∈ sFl ∨ Cond.not (Cond.eq (sTm j) (sTm i)) ∈ sFl := fun i j hi hj h => by
  rcases Nat.lt_trichotomy i j with q | q | q
  · exact Or.inl (sf_n0 j hj i q)
  · exact absurd q h
  · exact Or.inr (sf_n0 i hi j q)
set_option maxRecDepth 100000 in
theorem sf_ka : Cond.arrayOf sKa .int ∈ sFl := by decide +kernel
set_option maxRecDepth 100000 in
theorem sf_kl : Cond.eq (.length sKa) (.int (Int32.ofNat 6)) ∈ sFl := by decide +kernel
set_option maxRecDepth 100000 in
theorem sf_ke : ∀ j, j < 6 → Cond.eq (.elem sKa (.int (Int32.ofNat j))) (.int ([0, 0, 0, 1, 2, 0].getD j 0)) ∈ sFl := by decide +kernel
set_option maxRecDepth 100000 in
theorem sf_cs : Cond.eq (.static "java/lang/String" "COMPACT_STRINGS" "Z") (.int 1) ∈ sFl := by decide +kernel
set_option maxRecDepth 100000 in
theorem sf_sf : Cond.isRef (.static "jdk/internal/util/Preconditions" "SIOOBE_FORMATTER" "Ljava/util/function/BiFunction;") ∈ sFl := by decide +kernel
theorem sf_sr : ∀ i, i < 13 → tables_1[if i = 0 then 161 else 237 + i]? = some (Cond.stringRef (zsown i) (zsidx i) (zstx.getD i "")) := by decide +kernel
theorem sf_len : ∀ i, i < 13 → zslen.getD i 0 < 2 ^ 31 := by decide +kernel
section
variable {s : State} {b : Nat}
theorem sZN (hts : ∀ w ∈ lw_tbl, w.before #[Value.ref b] s = true) : ∀ w ∈ ZN, va_Nw w s := by
  have hz : ∀ (i : Nat) (w : Cond), tables_1[i]? = some w → w.before #[Value.ref b] s = true := fun i w h => hts _ (z_tb (List.mem_of_getElem? h))
  intro w hw
  simp only [ZN, List.mem_cons, List.not_mem_nil, or_false] at hw
  rcases hw with rfl | rfl | rfl | rfl | rfl | rfl | rfl | rfl | rfl | rfl
  · exact va_Nw.of rfl (hz 69 _ (by decide +kernel))
  · exact va_Nw.of rfl (hz 118 _ (by decide +kernel))
  · exact va_Nw.of rfl (hz 228 _ (by decide +kernel))
  · exact va_Nw.of rfl (hz 413 _ (by decide +kernel))
  · exact va_Nw.of rfl (hz 604 _ (by decide +kernel))
  · exact va_Nw.of rfl (hz 788 _ (by decide +kernel))
  · exact va_Nw.of rfl (hz 556 _ (by decide +kernel))
  · exact va_Nw.of rfl (hz 322 _ (by decide +kernel))
  · exact va_AO.of (hz 158 _ (by decide +kernel))
  · exact va_AO.of (hz 160 _ (by decide +kernel))
theorem sZE (hts : ∀ w ∈ lw_tbl, w.before #[Value.ref b] s = true) (hgv : (Jvm.Cond.and given_1 narrow_1).before #[Value.ref b] s = true) : ∃ ad0 : Nat → Nat, ad0 301 = b ∧ ZE ad0 (fun q => s.heap.size ≤ q) s s.heap := by
  have hz : ∀ (i : Nat) (w : Cond), tables_1[i]? = some w → w.before #[Value.ref b] s = true := fun i w h => hts _ (z_tb (List.mem_of_getElem? h))
  have hs := flat_of_before _ hgv
  have hA : ∀ a : Nat, a < s.heap.size → ¬ (fun q : Nat => s.heap.size ≤ q) a := fun a h => Nat.not_le.mpr h
  obtain ⟨t, ht, hT⟩ := va_Tof (tm := sKa) (ty := .int) (N := 6) (f := fun j => .int ([0, 0, 0, 1, 2, 0].getD j 0)) (A := fun q : Nat => s.heap.size ≤ q) (by omega) (hs _ sf_ka) (va_eqt (hs _ sf_kl)) (fun j hj => va_eqt (hs _ (sf_ke j hj))) hA
  obtain ⟨adK, adV, hS, hK⟩ := vk_Sof (N := 13) (tm := sTm) (len := zslen) (byt := zsbyt) (A := fun q : Nat => s.heap.size ≤ q) sf_len (fun i hi => hs _ (sf_ex i hi)) (fun i hi => hs _ (sf_co i hi)) (fun i hi => hs _ (sf_ar i hi)) (fun i hi => hs _ (sf_le i hi)) (fun i hi j hj => hs _ (sf_el i hi j hj)) (fun i j hi hj h => (sf_ne i j hi hj h).imp (hs _) (hs _)) hA
  have hZ1 := va_Zref (A := fun q : Nat => s.heap.size ≤ q) (hz 557 _ (by decide +kernel)) (hz 1 _ (by decide +kernel)) ht hA
  have hZ2 := va_Zof (A := fun q : Nat => s.heap.size ≤ q) (hz 171 _ (by decide +kernel)) (hz 6 _ (by decide +kernel)) (va_eqi (hs _ sf_cs)) hA
  have hZ3 := va_Zqof (A := fun q : Nat => s.heap.size ≤ q) (hz 187 _ (by decide +kernel)) (hz 8 _ (by decide +kernel)) (hs _ sf_sf) hA
  have key : ∀ t0 : Nat, (va_Z "jdk/internal/util/Preconditions" "SIOOBE_FORMATTER" "Ljava/util/function/BiFunction;" .null (fun q : Nat => s.heap.size ≤ q) s s.heap ∨ va_Z "jdk/internal/util/Preconditions" "SIOOBE_FORMATTER" "Ljava/util/function/BiFunction;" (.ref t0) (fun q : Nat => s.heap.size ≤ q) s s.heap) → ∃ ad0 : Nat → Nat, ad0 301 = b ∧ ZE ad0 (fun q => s.heap.size ≤ q) s s.heap := by
    intro t0 h0
    obtain ⟨ad0, hd⟩ : ∃ ad0 : Nat → Nat, ad0 = fun k => if k = 301 then b else if k = 53 then t0 else if k < 26 then adK (k / 2) else adV (k / 2 - 13) := ⟨_, rfl⟩
    have e1 : ad0 301 = b := by rw [hd]; rfl
    have e2 : ad0 (2 * 26 + 1) = t0 := by rw [hd]; rfl
    have e3 : ∀ i, i < 13 → ad0 (2 * i + 1) = adK i := fun i hi => by
      rw [hd]
      show (if 2 * i + 1 = 301 then b else if 2 * i + 1 = 53 then t0 else if 2 * i + 1 < 26 then adK ((2 * i + 1) / 2) else adV ((2 * i + 1) / 2 - 13)) = _
      rw [if_neg (by omega), if_neg (by omega), if_pos (by omega), show (2 * i + 1) / 2 = i by omega]
    have e4 : ∀ i, i < 13 → ad0 (2 * (13 + i) + 1) = adV i := fun i hi => by
      rw [hd]
      show (if 2 * (13 + i) + 1 = 301 then b else if 2 * (13 + i) + 1 = 53 then t0 else if 2 * (13 + i) + 1 < 26 then adK ((2 * (13 + i) + 1) / 2) else adV ((2 * (13 + i) + 1) / 2 - 13)) = _
      rw [if_neg (by omega), if_neg (by omega), if_neg (by omega), show (2 * (13 + i) + 1) / 2 - 13 = i by omega]
    clear hd
    refine ⟨ad0, e1, ⟨t, hZ1, hT⟩, ⟨fun i hi => ?_, fun i j hi hj e => ?_⟩, fun i hi => ?_, hZ2, ?_, sZN hts⟩
    · have := hS.1 i hi
      simp only [e3 i hi, e4 i hi]
      exact this
    · simp only [e3 i hi, e3 j hj] at e
      exact hS.2 i j hi hj e
    · rw [e3 i hi]
      exact vk_R.of (hz _ _ (sf_sr i hi)) (hK i hi)
    · unfold ZQ
      rw [e2]
      exact h0
  rcases hZ3 with h | ⟨t0, h⟩
  · exact key 0 (Or.inl h)
  · exact key t0 (Or.inr h)
theorem linX6 : Cond.instantiable RX6 15 ∈ z_tbl := z_in (List.mem_of_getElem? (i := 17) (by decide +kernel)) rfl
theorem linX7 : Cond.instantiable RX7 60 ∈ z_tbl := z_in (List.mem_of_getElem? (i := 921) (by decide +kernel)) rfl
theorem zcl_in : ∀ (c : Nat) (q : vw_C), zcl[c]? = some q → Cond.instantiable q.1 q.2.2 ∈ z_tbl
  | 0, _, h => by cases h; exact linX0
  | 1, _, h => by cases h; exact linX1
  | 2, _, h => by cases h; exact linX2
  | 3, _, h => by cases h; exact linX3
  | 4, _, h => by cases h; exact linX4
  | 5, _, h => by cases h; exact linX5
  | 6, _, h => by cases h; exact linX6
  | 7, _, h => by cases h; exact linX7
  | k + 8, _, h => by cases h
theorem sK (hts : ∀ w ∈ lw_tbl, w.before #[Value.ref b] s = true) : ∃ (D : va_G) (tc : Nat → ClassId), va_K D zcl (zty tc) s := by
  have hz : ∀ (i : Nat) (w : Cond), tables_1[i]? = some w → w.before #[Value.ref b] s = true := fun i w h => hts _ (z_tb (List.mem_of_getElem? h))
  have htz : ∀ w ∈ z_tbl, w.before #[Value.ref b] s = true := fun w hw => hts w (List.mem_filter.mp hw).1
  obtain ⟨c0, i0, -⟩ := u_known (ws := z_tbl) htz (zcl_all 0 _ rfl).1 (htz _ linX0)
  have h0 : ∀ c : Nat, ∃ r : ClassId × (Nat → Nat), ∀ q : vw_C, zcl[c]? = some q → u_Kn s q.1 q.2.1 q.2.2 r.1 r.2 := fun c => by
    cases hq : zcl[c]? with
    | none => exact ⟨(c0, i0), fun q h => by cases h⟩
    | some q =>
      obtain ⟨cC, iS, h⟩ := u_known (ws := z_tbl) htz (zcl_all c q hq).1 (htz _ (zcl_in c q hq))
      exact ⟨(cC, iS), fun q2 e => by cases e; exact h⟩
  obtain ⟨f, hf⟩ := Classical.axiomOfChoice h0
  obtain ⟨cI, kI, compI, a1, a2, a3⟩ := Cond.arrayClass_spec (hz 66 (.arrayClass .int) (by decide +kernel))
  obtain ⟨compT, cT, kT, t1, -, t2, t3, t4⟩ := Cond.arrayOver_spec (hz 158 (.arrayOver (.object RX5)) (by decide +kernel))
  obtain ⟨compS, cS, kS, s1, -, s2, s3, s4⟩ := Cond.arrayOver_spec (hz 160 (.arrayOver (.object RX4)) (by decide +kernel))
  refine ⟨(fun c => (f c).1, fun c => (f c).2), fun i => if i = 0 then cI else if i = 1 then cT else cS, fun c q hq => hf c q hq, fun k q hq => ?_⟩
  match k, hq with
  | 0, hq =>
    cases hq
    exact ⟨fun N z => ⟨(fun k h => by cases h), kI, a2, compI, a3⟩, a1⟩
  | 1, hq =>
    cases hq
    exact ⟨fun N z => ⟨(fun k h => by cases h), kT, t2, compT, t3⟩, kT, compT, t2, t3, t1, t4⟩
  | 2, hq =>
    cases hq
    exact ⟨fun N z => ⟨(fun k h => by cases h), kS, s2, compS, s3⟩, kS, compS, s2, s3, s1, s4⟩
  | k + 3, hq => cases hq
end
