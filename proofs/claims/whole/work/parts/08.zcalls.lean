/-! ===== calls: the callee's cells are named anew ===== -/
/-- the callee's names, told in the caller's: cs the places of its cells, dl what odd ones are; what it makes lies behind n -/
def ze (n : Nat) (cs : List Nat) (dl : Nat → Nat) (k : Nat) : Nat := bif Nat.beq (k % 2) 0 then 2 * (match cs[k / 2]? with
  | some i => i
  | none => n + (k / 2 - cs.length)) else dl k
theorem ze_in {n : Nat} {cs : List Nat} {dl : Nat → Nat} {j i : Nat} (h : cs[j]? = some i) : ze n cs dl (2 * j) = 2 * i := by
  have h1 : 2 * j % 2 = 0 := by omega
  have h2 : 2 * j / 2 = j := by omega
  rw [ze, h1, h2, h]
  rfl
theorem ze_odd {n : Nat} {cs : List Nat} {dl : Nat → Nat} {j : Nat} : ze n cs dl (2 * j + 1) = dl (2 * j + 1) := by
  have h1 : (2 * j + 1) % 2 = 1 := by omega
  rw [ze, h1]
  rfl
theorem ze_out {n : Nat} {cs : List Nat} {dl : Nat → Nat} {j : Nat} (h : cs.length ≤ j) : ze n cs dl (2 * j) = 2 * (n + (j - cs.length)) := by
  have h1 : 2 * j % 2 = 0 := by omega
  have h2 : 2 * j / 2 = j := by omega
  rw [ze, h1, h2, List.getElem?_eq_none h]
  rfl
def zrc (e : Nat → Nat) : zE → zE
  | .inl (t, n, .inl f) => .inl (t, n, .inl f)
  | .inl (t, n, .inr g) => .inl (t, n, .inr (fun i => (g i).map e))
  | .inr (ci, fs) => .inr (ci, fs.map (zrv e))
theorem zc_comp (tc : Nat → ClassId) (ad e : Nat → Nat) (x : zE) : zc tc ad (zrc e x) = zc tc (fun k => ad (e k)) x := by
  rcases x with ⟨t, n, f | g⟩ | ⟨ci, fs⟩
  · rfl
  · simp only [zrc, zc, Option.map_map]
    rfl
  · simp only [zrc, zc, List.map_map]
    congr 3
    funext v
    exact zrv_comp ad e v
def zputA : List Nat → List zE → List zE → List zE
  | [], hs, _ => hs
  | _ :: _, hs, [] => hs
  | c :: cs, hs, x :: xs => zputA cs (hs.set c x) xs
abbrev zput (hs : List zE) (cs : List Nat) (xs : List zE) : List zE := zputA cs hs xs
theorem zput_len : ∀ (cs : List Nat) (hs xs : List zE), (zput hs cs xs).length = hs.length
  | [], _, _ => rfl
  | _ :: _, _, [] => rfl
  | c :: cs, hs, x :: xs => by show (zput (hs.set c x) cs xs).length = _; rw [zput_len cs, List.length_set]
theorem zput_out : ∀ (cs : List Nat) (hs xs : List zE) (k : Nat), k ∉ cs → (zput hs cs xs)[k]? = hs[k]?
  | [], _, _, _, _ => rfl
  | _ :: _, _, [], _, _ => rfl
  | c :: cs, hs, x :: xs, k, h => by
    show (zput (hs.set c x) cs xs)[k]? = _
    rw [zput_out cs _ xs k (fun q => h (List.mem_cons_of_mem _ q)), List.getElem?_set_ne]
    exact fun q => h (by rw [q]; exact List.mem_cons_self)
theorem zput_in : ∀ (cs : List Nat) (hs xs : List zE) (j k : Nat) (x : zE), va_nd cs = true → cs[j]? = some k → xs[j]? = some x → k < hs.length → (zput hs cs xs)[k]? = some x
  | [], _, _, _, _, _, _, h, _, _ => by cases h
  | _ :: _, _, [], _, _, _, _, _, h, _ => by cases h
  | c :: cs, hs, y :: xs, 0, k, x, hn, h1, h2, hk => by
    cases h1
    cases h2
    simp only [va_nd, Bool.and_eq_true, decide_eq_true_eq] at hn
    show (zput (hs.set c y) cs xs)[c]? = _
    rw [zput_out cs _ xs _ hn.1, List.getElem?_set_self hk]
  | c :: cs, hs, y :: xs, j + 1, k, x, hn, h1, h2, hk => by
    simp only [va_nd, Bool.and_eq_true, decide_eq_true_eq] at hn
    show (zput (hs.set c y) cs xs)[k]? = _
    exact zput_in cs _ xs j k x hn.2 h1 h2 (by rw [List.length_set]; exact hk)
theorem zD_same {tc : Nat → ClassId} {ad : Nat → Nat} {A : Nat → Prop} {hs hs' : List zE} (he : hs'.length = hs.length) (h : va_D A (zw tc ad hs)) : va_D A (zw tc ad hs') := by
  have key : ∀ (k : Nat) (q : Nat × va_E), (zw tc ad hs')[k]? = some q → ∃ q2, (zw tc ad hs)[k]? = some q2 ∧ q2.1 = q.1 := by
    intro k q hq
    obtain ⟨x, hx, rfl⟩ := zw_inv hq
    have hk : k < hs.length := by rw [← he]; exact (List.getElem?_eq_some_iff.mp hx).1
    exact ⟨_, zw_get (List.getElem?_eq_getElem hk), rfl⟩
  refine ⟨fun i j p q hi hj hpq => ?_, fun k q hk => ?_⟩
  · obtain ⟨p2, h1, e1⟩ := key i p hi
    obtain ⟨q2, h2, e2⟩ := key j q hj
    exact h.1 i j p2 q2 h1 h2 (by rw [e1, e2, hpq])
  · obtain ⟨q2, h1, e1⟩ := key k q hk
    rw [← e1]
    exact h.2 k q2 h1
/-- the callee's world is a part of the caller's -/
theorem zsubw {tc : Nat → ClassId} {ad e : Nat → Nat} {hs wc : List zE} {cs : List Nat} {n : Nat} {dl : Nat → Nat} (he : e = ze n cs dl) (hcs : cs.map (fun i => hs[i]?) = wc.map (fun x => some (zrc e x))) : cs.map (fun i => (zw tc ad hs)[i]?) = (zw tc (fun k => ad (e k)) wc).map some := by
  have hl : cs.length = wc.length := by simpa using congrArg List.length hcs
  apply List.ext_getElem?
  intro j
  rw [List.getElem?_map, List.getElem?_map]
  have hj := congrArg (fun l => l[j]?) hcs
  simp only [List.getElem?_map] at hj
  cases hc : cs[j]? with
  | none =>
    have : wc[j]? = none := by
      rw [List.getElem?_eq_none_iff] at hc ⊢
      omega
    simp [zw, List.getElem?_mapIdx, this]
  | some i =>
    rw [hc] at hj
    cases hx : wc[j]? with
    | none => rw [hx] at hj; cases hj
    | some x =>
      rw [hx] at hj
      simp only [Option.map_some, Option.some.injEq] at hj
      rw [zw_get hx]
      simp only [Option.map_some]
      rw [zw_get hj, zc_comp, he, ze_in hc]
section ZCALL
variable {p : Program} {l : Launch} {en : Env} {R : Room} {s : State} {m : MethodId} {args : Array Value} {below : List Frame} {meth : Method} {c : Code} {H : Heap} {locs : List Loc} {cells slots : Nat} {Q : State → Prop}
variable {pc : Nat} {ls : Array Slot} {rest st0 : List Value} {a : Array Value} {A0 A1 : Nat → Prop} {H0 : Heap} {mc ms : Nat} {free : Addr → Prop}
theorem z_call {Qc : Array Value → State → Outcome → State → Prop} (hr : va_Run p l en R s m args below meth c H locs cells slots mc ms (F0 m pc ls st0) rest (Qc a) free) (hS : va_S A0 H0 H locs) (hA : ∀ q, q < H.size → A1 q → A0 q) (hf : ∀ q, free q → A0 q) (hF : ∀ st v t, Qc a st (.returned v) t → va_F A1 st t)
    (kk : ∀ (v : Option Value) (st t : State) (H1 : Heap) (locs1 : List Loc), st.heap = H → t.heap = H1 → s.vm.Alike t.vm → Qc a st (.returned v) t → H.size ≤ H1.size → (∀ q : Nat, q < H.size → ¬ A1 q → H1[q]? = H[q]?) → va_S A0 H0 H1 locs1 → W p l en R s m args below meth c H1 locs1 (cells + mc) (slots + ms) Q (F0 m (pc + 3) ls (v.toList ++ rest))) : W p l en R s m args below meth c H locs cells slots Q (F0 m pc ls st0) := by
  intro T hT X
  obtain ⟨v, st₀, t, T', L, h0, X', hL, e1, e2, hq, st⟩ := hr T hT X
  obtain ⟨hz, hk⟩ := hF _ _ _ hq
  rw [h0] at hz hk
  obtain ⟨t2, a1, b1⟩ := kk v st₀ t T'.heap (locs ++ L) h0 e1.symm (by rw [← e2]; exact X'.warmed.alike) hq (by rw [e1]; exact hz) (fun q h1 h2 => by rw [e1]; exact hk q h1 h2)
    ⟨Nat.le_trans hS.1 (by rw [e1]; exact hz), fun q h1 h2 => by rw [e1, hk q (Nat.lt_of_lt_of_le h1 hS.1) (fun z => h2 (hA q (Nat.lt_of_lt_of_le h1 hS.1) z))]; exact hS.2.1 q h1 h2, fun q hq => by
      rcases List.mem_append.mp hq with h | h
      · exact hS.2.2 q h
      · exact hf _ (hL q h)⟩ T' rfl X'
  exact ⟨t2, st t2 a1, b1⟩
end ZCALL
theorem zblind {D : va_G} {tc : Nat → ClassId} {ad : Nat → Nat} {hs : List zE} {sz : Nat} {av : List Value} : FrameBlind (va_Pc av (zPc D tc ad hs sz)) := by
  intro a U g mk hq
  obtain ⟨h0, h1, h2, h3, h4, h5⟩ := hq
  exact ⟨h0, h1, h2, va_K.moved (u := U) (U := U.calling g mk a) (Vm.Alike.refl U.vm) h3, h4, ZE.same (s := U) (U := U.calling g mk a) rfl h5⟩
/-- behind a call that makes nothing: the caller's world -/
theorem zafter {D : va_G} {tc : Nat → ClassId} {ad e : Nat → Nat} {hs wc wc' : List zE} {cs : List Nat} {n : Nat} {dl : Nat → Nat} {A : Nat → Prop} {H H1 : Heap} (he : e = ze n cs dl) (hcs : cs.map (fun i => hs[i]?) = wc.map (fun x => some (zrc e x))) (hnd : va_nd cs = true) (hl : wc'.length = wc.length) (P : va_P D zcl (zw tc ad hs) H) (hA : va_D A (zw tc ad hs)) (hk : ∀ q : Nat, q < H.size → ¬ va_A (zw tc (fun k => ad (e k)) wc) H.size q → H1[q]? = H[q]?) (P1 : va_P D zcl (zw tc (fun k => ad (e k)) wc') H1) :
    va_P D zcl (zw tc ad (zput hs cs (wc'.map (zrc e)))) H1 ∧ va_D A (zw tc ad (zput hs cs (wc'.map (zrc e)))) := by
  have hcl : cs.length = wc.length := by simpa using congrArg List.length hcs
  refine ⟨fun k q hq => ?_, zD_same (zput_len _ _ _) hA⟩
  obtain ⟨x, hx, rfl⟩ := zw_inv hq
  have hkl : k < hs.length := by
    have := (List.getElem?_eq_some_iff.mp hx).1
    rwa [zput_len] at this
  by_cases hin : k ∈ cs
  · obtain ⟨j, hj⟩ := List.getElem?_of_mem hin
    have hjl : j < wc'.length := by rw [hl, ← hcl]; exact (List.getElem?_eq_some_iff.mp hj).1
    have hx2 := zput_in cs hs (wc'.map (zrc e)) j k (zrc e wc'[j]) hnd hj (by rw [List.getElem?_map, List.getElem?_eq_getElem hjl]; rfl) hkl
    rw [hx] at hx2
    cases hx2
    have hp := P1 j _ (zw_get (List.getElem?_eq_getElem hjl))
    rw [zc_comp]
    rw [he, ze_in hj] at hp
    rw [he]
    exact hp
  · rw [zput_out _ _ _ _ hin] at hx
    have hw := zw_get (tc := tc) (ad := ad) hx
    have hp := P k _ hw
    refine hp.kept (hk _ hp.lt (fun hz => ?_))
    rcases hz with ⟨j, e0, hz⟩ | hz
    · have hs1 := zsubw (tc := tc) (ad := ad) he hcs
      have h1 : (cs.map (fun i => (zw tc ad hs)[i]?))[j]? = some (some (ad (2 * k), e0)) := by rw [hs1, List.getElem?_map, hz]; rfl
      rw [List.getElem?_map] at h1
      cases hc : cs[j]? with
      | none => rw [hc] at h1; cases h1
      | some i =>
        rw [hc] at h1
        have hij := hA.1 i k (ad (2 * k), e0) (ad (2 * k), zc tc ad x) (Option.some.inj h1) hw rfl
        subst hij
        exact hin (List.mem_of_getElem? hc)
    · exact absurd hp.lt (Nat.not_lt.mpr hz)
