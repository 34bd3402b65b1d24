/-! ===== the law: its start ===== -/
theorem dfX6 : ∀ j, j < 15 → defaultValue (tyX6 j) = vp_V [.null, .null, .null, .null, .null, .null, .null, .null, .null, .int 0, .int 0, .int 0, .int 0, .null, .null] j
  | 0, _ => rfl
  | 1, _ => rfl
  | 2, _ => rfl
  | 3, _ => rfl
  | 4, _ => rfl
  | 5, _ => rfl
  | 6, _ => rfl
  | 7, _ => rfl
  | 8, _ => rfl
  | 9, _ => rfl
  | 10, _ => rfl
  | 11, _ => rfl
  | 12, _ => rfl
  | 13, _ => rfl
  | 14, _ => rfl
  | j + 15, h => absurd h (by omega)
theorem dfX7 : ∀ j, j < 60 → defaultValue (tyX7 j) = vp_V [.null, .null, .null, .null, .null, .int 0, .null, .int 0, .null, .null, .int 0, .int 0, .int 0, .null, .int 0, .null, .null, .int 0, .int 0, .int 0, .int 0, .int 0, .null, .null, .null, .null, .null, .int 0, .int 0, .int 0, .int 0, .null, .null, .int 0, .int 0, .int 0, .null, .null, .null, .null, .null, .int 0, .int 0, .int 0, .int 0, .int 0, .int 0, .int 0, .int 0, .null, .null, .null, .null, .int 0, .null, .null, .int 0, .int 0, .int 0, .int 0] j
  | 0, _ => rfl
  | 1, _ => rfl
  | 2, _ => rfl
  | 3, _ => rfl
  | 4, _ => rfl
  | 5, _ => rfl
  | 6, _ => rfl
  | 7, _ => rfl
  | 8, _ => rfl
  | 9, _ => rfl
  | 10, _ => rfl
  | 11, _ => rfl
  | 12, _ => rfl
  | 13, _ => rfl
  | 14, _ => rfl
  | 15, _ => rfl
  | 16, _ => rfl
  | 17, _ => rfl
  | 18, _ => rfl
  | 19, _ => rfl
  | 20, _ => rfl
  | 21, _ => rfl
  | 22, _ => rfl
  | 23, _ => rfl
  | 24, _ => rfl
  | 25, _ => rfl
  | 26, _ => rfl
  | 27, _ => rfl
  | 28, _ => rfl
  | 29, _ => rfl
  | 30, _ => rfl
  | 31, _ => rfl
  | 32, _ => rfl
  | 33, _ => rfl
  | 34, _ => rfl
  | 35, _ => rfl
  | 36, _ => rfl
  | 37, _ => rfl
  | 38, _ => rfl
  | 39, _ => rfl
  | 40, _ => rfl
  | 41, _ => rfl
  | 42, _ => rfl
  | 43, _ => rfl
  | 44, _ => rfl
  | 45, _ => rfl
  | 46, _ => rfl
  | 47, _ => rfl
  | 48, _ => rfl
  | 49, _ => rfl
  | 50, _ => rfl
  | 51, _ => rfl
  | 52, _ => rfl
  | 53, _ => rfl
  | 54, _ => rfl
  | 55, _ => rfl
  | 56, _ => rfl
  | 57, _ => rfl
  | 58, _ => rfl
  | 59, _ => rfl
  | j + 60, h => absurd h (by omega)
theorem lclL6 : Cond.classLink RL 7 RX6 ∈ z_tbl := z_in (List.mem_of_getElem? (i := 16) (by decide +kernel)) rfl
theorem lclL7 : Cond.classLink RL 10 RX7 ∈ z_tbl := z_in (List.mem_of_getElem? (i := 920) (by decide +kernel)) rfl
theorem liiX6 : Cond.initialized RX6 ∈ z_tbl := z_in (List.mem_of_getElem? (i := 1) (by decide +kernel)) rfl
theorem liiX7 : Cond.initialized RX7 ∈ z_tbl := z_in (List.mem_of_getElem? (i := 15) (by decide +kernel)) rfl
theorem ze_id1 : ze 1 [0] (fun k => k) = fun k => k := by
  funext k
  by_cases h : k % 2 = 0
  · obtain ⟨j, rfl⟩ : ∃ j, k = 2 * j := ⟨k / 2, by omega⟩
    cases j with
    | zero => rfl
    | succ j =>
      rw [ze_out (show [0].length ≤ j + 1 from Nat.succ_le_succ (Nat.zero_le j))]
      show 2 * (1 + (j + 1 - 1)) = 2 * (j + 1)
      omega
  · obtain ⟨j, rfl⟩ : ∃ j, k = 2 * j + 1 := ⟨k / 2, by omega⟩
    exact ze_odd
theorem zsg_zlk {N : Nat} (hN : 51 ≤ N) : ∀ i k, zsg i = some k → zlk N k = true := fun i k h => by
  unfold zsg at h
  cases hb : Nat.ble 4 i with
  | true =>
    rw [hb] at h
    cases h
  | false =>
    rw [hb] at h
    have e : k = 2 * (43 + 2 * i) := (Option.some.inj h).symm
    have h4 : i < 4 := by
      rcases Nat.lt_or_ge i 4 with q | q
      · exact q
      · rw [Nat.ble_eq_true_of_le q] at hb
        cases hb
    exact zlk_e e (by omega)
section
variable {l : Launch} {b0 L : Nat} {xs : Nat → Int32}
abbrev pF (rd : zRd) (tx : zTx) : List zE := pX cart0 cart0 cart0 row0 row0 row0 rd 102 (va_up (fun _ => none) 0 (some 102)) (nI 1) (nI 0) (nI 0) (nI 0) (2, 102, 0, 0, 0, fz, fz, 0, r0) (-1, 0, fz) (-1, 0, fz) (-1, 0, fz) (-1, 0, fz) tx
/-- both objects stand: their cells told in the loop's order -/
theorem lw_two (hL : L ≤ 3584) {rd : zRd} {tx : zTx} {fv : Nat → Int32} {ar : Nat → fI} {P : zP} (hT : tTx tx.1 tx.2.1 tx.2.2.1 tx.2.2.2.1 P) (hR : Rel cartI cart0 row0 row0 rd (nI 0) (nI 0) (nI 0) (-1, 0, fz) (-1, 0, fz) (-1, 0, fz) (-1, 0, fz) fv ar 1 (fun _ => P)) : VL l b0 L xs 91 5442 16 [(2, .ref 112), (1, .ref 0), (0, .ref 301)] [] (pF rd tx ++ (pM fv ar).map (zrc (fun k => k + 112))) := by
  have hw : pF rd tx ++ (pM fv ar).map (zrc (fun k => k + 112)) = lB cart0 cart0 cart0 row0 row0 row0 rd 102 (va_up (fun _ => none) 0 (some 102)) (nI 1) (nI 0) (nI 0) (nI 0) (2, 102, 0, 0, 0, fz, fz, 0, r0) (-1, 0, fz) (-1, 0, fz) (-1, 0, fz) (-1, 0, fz) ++ (pTextT 51 tx ++ (pM fv ar).map (zrc (fun k => k + 112))) := by
    show pX cart0 cart0 cart0 row0 row0 row0 rd 102 (va_up (fun _ => none) 0 (some 102)) (nI 1) (nI 0) (nI 0) (nI 0) (2, 102, 0, 0, 0, fz, fz, 0, r0) (-1, 0, fz) (-1, 0, fz) (-1, 0, fz) (-1, 0, fz) tx ++ (pM fv ar).map (zrc (fun k => k + 112)) = _
    rw [pX_lB, List.append_assoc]
  refine V.w _ hw ?_
  refine V.sim (zsim_app lB_cart (zsim_rfl _)) ?_
  have eT : (pTextT 81 tx).map (zrc eR) = pTextT 51 tx := pT_map (fun _ hj => eR_3 hj)
  refine V.reordL (N := 86) (lv2 := [(2, .ref 102), (1, .ref 0), (0, .ref 301)]) (st2 := []) sR rfl rfl (by decide +kernel) (sR_map (A2 := lB cartI cart0 cart0 row0 row0 row0 rd (2 * 81) (tgW 81 1) (nI 1) (nI 0) (nI 0) (nI 0) (2, 162, 0, 0, 0, fz, fz, 0, r0) (-1, 0, fz) (-1, 0, fz) (-1, 0, fz) (-1, 0, fz)) (T2 := pTextT 81 tx) (Mo2 := pMo fv ar) lB_len rfl (by rw [List.length_map]; rfl) eR_lB eT eR_M) rfl rfl ?_
  have h1 : VL l b0 L xs 91 5442 16 [(2, .ref 102), (1, .ref 0), (0, .ref 301)] [] (lW cartI cart0 cart0 row0 row0 row0 rd 1 (nI 0) (nI 0) (nI 0) (0, 0, 0, fz, fz, 0, r0) (-1, 0, fz) (-1, 0, fz) (-1, 0, fz) (-1, 0, fz) fv ar [tx]) := by
    refine V.gl 40 [18] ?_
    refine V.kn [3, 0, 1, 2] (lv0 0) [] _ rfl rfl rfl ?_
    refine lc_loop hL 512 0 91 5442 1 _ _ _ _ _ _ _ _ _ _ _ _ _ _ _ _ _ _ _ (by omega) (Nat.zero_le L) (by omega) (by omega) hR ⟨rfl, fun t ht => ?_⟩
    obtain rfl : t = 0 := by omega
    exact ⟨tx, rfl, hT⟩
  have h2 := V.ren (e3 2 162) (fun i _ => e3_e i) (fun i hi => by unfold e3; rw [if_neg (by omega), if_neg (by omega)]) rfl (lwF_re b0 L xs) h1
  rw [lW_e3] at h2
  have e5 : pMo fv ar ++ lT 81 [tx] = pMo fv ar ++ pTextT 81 tx := congrArg (fun z => pMo fv ar ++ z) (List.append_nil (pTextT 81 tx))
  rw [e5] at h2
  exact h2
set_option maxHeartbeats 4000000 in
theorem lw_V (hL : L ≤ 3584) : VL l b0 L xs 0 0 0 [(0, .ref 301)] [] [] := by
  refine V.gl 1 [] ?_
  refine V.newO mLw_ok rfl 6 15 [.null, .null, .null, .null, .null, .null, .null, .null, .null, .int 0, .int 0, .int 0, .int 0, .null, .null] rfl lclL6 linX6 liiX6 tyX6 tyX6_ok dfX6 (fun _ => rfl) 0 rfl rfl rfl (zlowW_of rfl) ?_
  refine V.nm [(0, .ref 301)] [.ref 0] [.inr (6, [.null, .null, .null, .null, .null, .null, .null, .null, .null, .int 0, .int 0, .int 0, .int 0, .null, .null])] rfl rfl rfl ?_
  refine V.gl 1 [] ?_
  refine V.mkI mLw_ok rfl lL_9 (k6_init l) rfl 1 rfl rfl (fun k => k) (fun _ _ => rfl) (zdd_id _) [0] [.inr (6, [.null, .null, .null, .null, .null, .null, .null, .null, .null, .int 0, .int 0, .int 0, .int 0, .null, .null])] [.ref 0] [.ref 0] rfl (j := 0) rfl rfl rfl rfl rfl (zlowW_of rfl) ⟨rfl, rfl, fun R0 hR0 cod2 ed hrd hed => ⟨rfl, Nat.succ_le_succ (Nat.zero_le _), ?_⟩⟩
  rw [ze_id1, zrc_ids, zrc_ids]
  refine V.nm [(0, .ref 301)] [.ref 0] (pF ((tpS 43), 0, nI R0.2.2.2.1, R0.2.2.2.2.1, nI R0.2.2.2.2.2.1, R0.2.2.2.2.2.2.1, R0.2.2.2.2.2.2.2.1, cod2, nI R0.2.2.2.2.2.2.2.2.length, ed) (bI (hasT cod2 R0.2.2.2.2.2.2.2.2.length), R0.2.2.2.2.2.2.2.2.length, cod2, ed, fz, fz)) rfl rfl rfl ?_
  refine V.gl 1 [8] ?_
  refine V.gl 1 [] ?_
  refine V.newO mLw_ok rfl 7 60 [.null, .null, .null, .null, .null, .int 0, .null, .int 0, .null, .null, .int 0, .int 0, .int 0, .null, .int 0, .null, .null, .int 0, .int 0, .int 0, .int 0, .int 0, .null, .null, .null, .null, .null, .int 0, .int 0, .int 0, .int 0, .null, .null, .int 0, .int 0, .int 0, .null, .null, .null, .null, .null, .int 0, .int 0, .int 0, .int 0, .int 0, .int 0, .int 0, .int 0, .null, .null, .null, .null, .int 0, .null, .null, .int 0, .int 0, .int 0, .int 0] rfl lclL7 linX7 liiX7 tyX7 tyX7_ok dfX7 (fun _ => rfl) 56 rfl rfl rfl (zlowW_of2 rfl [(va_up (fun _ => none) 0 (some 102)), zsg] rfl (And.intro (zlg_up zlg_none rfl) (And.intro (zsg_zlk (by omega)) trivial))) ?_
  refine V.gl 1 [] ?_
  refine V.mkI mLw_ok rfl lL_12 (c_iX7 l) rfl 57 rfl rfl (fun k => k) (fun _ _ => rfl) (zdd_id _) [56] [.inr (7, [.null, .null, .null, .null, .null, .int 0, .null, .int 0, .null, .null, .int 0, .int 0, .int 0, .null, .int 0, .null, .null, .int 0, .int 0, .int 0, .int 0, .int 0, .null, .null, .null, .null, .null, .int 0, .int 0, .int 0, .int 0, .null, .null, .int 0, .int 0, .int 0, .null, .null, .null, .null, .null, .int 0, .int 0, .int 0, .int 0, .int 0, .int 0, .int 0, .int 0, .null, .null, .null, .null, .int 0, .null, .null, .int 0, .int 0, .int 0, .int 0])] [.ref 0] [.ref 112] rfl (j := 0) rfl rfl rfl rfl rfl (zlowW_of2 rfl [(va_up (fun _ => none) 0 (some 102)), zsg] rfl (And.intro (zlg_up zlg_none rfl) (And.intro (zsg_zlk (by omega)) trivial))) ⟨rfl, rfl, fun p1 p2 p3 hp fv2 ar2 q g17 g14 w0 w1 w2 w3 w4 w5 => ⟨rfl, Nat.succ_le_succ (Nat.zero_le _), ?_⟩⟩
  obtain ⟨P, hP, hRl⟩ := fr_Rel (k := cart0) hR0 hrd hed hp q g17 g14 w0 w1 w2 w3 w4 w5
  refine V.nm [(1, .ref 0), (0, .ref 301)] [.ref 112] (pF ((tpS 43), 0, nI R0.2.2.2.1, R0.2.2.2.2.1, nI R0.2.2.2.2.2.1, R0.2.2.2.2.2.2.1, R0.2.2.2.2.2.2.2.1, cod2, nI R0.2.2.2.2.2.2.2.2.length, ed) (bI (hasT cod2 R0.2.2.2.2.2.2.2.2.length), R0.2.2.2.2.2.2.2.2.length, cod2, ed, fz, fz) ++ (pM fv2 ar2).map (zrc (fun k => k + 112))) rfl rfl rfl ?_
  refine V.gl 1 [16] ?_
  exact lw_two hL (tx := (bI (hasT cod2 R0.2.2.2.2.2.2.2.2.length), R0.2.2.2.2.2.2.2.2.length, cod2, ed, fz, fz)) hP hRl
end
/-- from the entry, for every script of at most 3584 ints, the law comes to its end with true -/
theorem whole_start {p : Program} {e : Env} {s : State} {m : MethodId} {below : List Frame} {meth : Method} {c : Code} (l : Launch) (hflags : l.flags = flags0) {b L : Nat} {xs : Nat → Int32} (hL : L ≤ 3584) (C0 : lw_At p s m meth c b L xs) (hnm : meth.name = "law") : W p l e room_1 s m #[Value.ref b] below meth c s.heap [] 0 0 (lw_Z below #[Value.ref b] s) (entryFrame m ([Value.ref b] : List Value).toArray 4) := by
  obtain ⟨hx, hb, hr, hml, hown, hts, hX, hbl, hlocks, hgv⟩ := C0
  obtain ⟨ad0, h301, hE⟩ := sZE hts hgv
  obtain ⟨D, tc, hK⟩ := sK hts
  have hl := lv_entry ([.ref b]) (n := 4) (Nat.le_of_ble_eq_true rfl)
  rw [lg_entry_eq]
  generalize (lg_sl ([.ref b]) ++ List.replicate (4 - (lg_sl ([.ref b])).length) Slot.unset).toArray = ls at hl ⊢
  have hl : lv_has ls 4 (zl ad0 [(0, .ref 301)]) := by
    show lv_has ls 4 [(0, .ref (ad0 301))]
    rw [h301]
    exact hl
  have hzX : zX mLw p s m #[Value.ref b] meth c D tc := ⟨hx, hb, hr, hml, hown, fun w hw => hts w (List.mem_filter.mp hw).1, hlocks, hnm, hK⟩
  have hV := lw_V (l := l) (b0 := b) (xs := xs) hL p e s m #[Value.ref b] below meth c D tc ad0 ad0 ls s.heap [] hzX (hE.narrow (fun q h => zA_nil h)) ⟨fun k hk => rfl, fun k => rfl⟩ (fun k q h => (by cases h)) ⟨fun i j p q h => (by cases h), fun k q h => (by cases h)⟩ va_S.rf hl
  intro T hT X
  obtain ⟨t, a1, a2⟩ := hV T hT X
  exact ⟨t, a1, a2 ⟨h301, rfl, hX, hbl⟩⟩
