/-! ===== both lexers say the same ===== -/
theorem clB_iff {tp : fI} {b i : Nat} : ∀ k, clB tp b i k = true ↔ ∀ c, c < k → tp (b + c) = (zsbyt.getD (i + 1) []).getD c 0
  | 0 => ⟨fun _ c h => absurd h (Nat.not_lt_zero c), fun _ => rfl⟩
  | k + 1 => by
    rw [clB, Bool.and_eq_true, decide_eq_true_eq, clB_iff k]
    constructor
    · rintro ⟨h1, h2⟩ c hc
      rcases Nat.lt_succ_iff_lt_or_eq.mp hc with h | rfl
      · exact h1 c h
      · exact h2
    · exact fun h => ⟨fun c hc => h c (by omega), h k (by omega)⟩
theorem alB_iff {p : Nat → Bool} : ∀ n, alB p n = true ↔ ∀ c, c < n → p c = true
  | 0 => ⟨fun _ c h => absurd h (Nat.not_lt_zero c), fun _ => rfl⟩
  | k + 1 => by
    rw [alB, Bool.and_eq_true, alB_iff k]
    constructor
    · rintro ⟨h1, h2⟩ c hc
      rcases Nat.lt_succ_iff_lt_or_eq.mp hc with h | rfl
      · exact h1 c h
      · exact h2
    · exact fun h => ⟨fun c hc => h c (by omega), h k (by omega)⟩
/-- the class's number of the reference's word k -/
def pmI (k : Nat) : Nat := if k < 3 then k + 6 else if k < 9 then k - 3 else k
/-- the bytes of a word, blanks behind -/
def wby (i c : Nat) : Int32 := (zsbyt.getD (i + 1) []).getD c 32
def wOkW (wo : fI) : Prop := ∀ k, k < 12 → ∀ c, c < 8 → wo (8 * k + c) = wby (pmI k) c
theorem wfact : ∀ i, i < 12 → zslen.getD (i + 1) 0 ≤ 5 ∧ ∀ c, c < 8 → (c < zslen.getD (i + 1) 0 → ¬ wby i c = nI 32 ∧ (zsbyt.getD (i + 1) []).getD c 0 = wby i c) ∧ (zslen.getD (i + 1) 0 ≤ c → wby i c = nI 32) := by decide +kernel
theorem wdiff : ∀ i, i < 12 → ∀ j, j < 12 → i = j ∨ ¬ zslen.getD (i + 1) 0 = zslen.getD (j + 1) 0 ∨ ∃ c, c < 5 ∧ c < zslen.getD (i + 1) 0 ∧ ¬ (zsbyt.getD (i + 1) []).getD c 0 = (zsbyt.getD (j + 1) []).getD c 0 := by decide +kernel
theorem isLt_32 : isLt (nI 32) = false := by decide
theorem clW_iff {tp : fI} {b e i : Nat} : clW tp b e i = true ↔ e - b = zslen.getD (i + 1) 0 ∧ ∀ c, c < zslen.getD (i + 1) 0 → tp (b + c) = (zsbyt.getD (i + 1) []).getD c 0 := by
  unfold clW
  rw [Bool.and_eq_true, decide_eq_true_eq, clB_iff]
theorem wd_cl {wo tp : fI} {b e k : Nat} (hk : k < 12) (hbe : b ≤ e) (hl : ∀ j, b ≤ j → j < e → isLt (tp j) = true) (hW : wOkW wo) : wdP wo tp b e k = clW tp b e (pmI k) := by
  have hi : pmI k < 12 := by unfold pmI; split <;> (try split) <;> omega
  obtain ⟨f1, f2⟩ := wfact (pmI k) hi
  rw [Bool.eq_iff_iff, clW_iff]
  unfold wdP
  rw [Bool.and_eq_true, decide_eq_true_eq, alB_iff]
  have hw : ∀ c, wdC wo tp b e k c = true ↔ wo (8 * k + c) = (if b + c < e then tp (b + c) else nI 32) := fun c => by
    unfold wdC
    rw [decide_eq_true_eq]
  constructor
  · rintro ⟨h8, h⟩
    have hc : ∀ c, c < 8 → wby (pmI k) c = (if b + c < e then tp (b + c) else nI 32) := fun c hc => by
      have := (hw c).mp (h c hc)
      rwa [hW k hk c hc] at this
    have hL : e - b = zslen.getD (pmI k + 1) 0 := by
      rcases Nat.lt_trichotomy (e - b) (zslen.getD (pmI k + 1) 0) with hh | hh | hh
      · exfalso
        have h1 := hc (e - b) (by omega)
        rw [if_neg (by omega)] at h1
        exact ((f2 (e - b) (by omega)).1 hh).1 h1
      · exact hh
      · exfalso
        have h1 := hc (zslen.getD (pmI k + 1) 0) (by omega)
        rw [if_pos (by omega), (f2 (zslen.getD (pmI k + 1) 0) (by omega)).2 (Nat.le_refl _)] at h1
        have h2 := hl (b + zslen.getD (pmI k + 1) 0) (by omega) (by omega)
        rw [← h1, isLt_32] at h2
        cases h2
    refine ⟨hL, fun c hcl => ?_⟩
    have h1 := hc c (by omega)
    rw [if_pos (by omega)] at h1
    rw [← h1, ((f2 c (by omega)).1 hcl).2]
  · rintro ⟨hL, h⟩
    refine ⟨by omega, fun c hc => (hw c).mpr ?_⟩
    rw [hW k hk c hc]
    rcases Nat.lt_or_ge c (zslen.getD (pmI k + 1) 0) with q | q
    · rw [if_pos (by omega), h c q, ((f2 c hc).1 q).2]
    · rw [if_neg (by omega), (f2 c hc).2 q]
theorem clW_one {tp : fI} {b e i j : Nat} (hi : i < 12) (hj : j < 12) (h1 : clW tp b e i = true) (h2 : clW tp b e j = true) : i = j := by
  obtain ⟨a1, a2⟩ := clW_iff.mp h1
  obtain ⟨b1, b2⟩ := clW_iff.mp h2
  rcases wdiff i hi j hj with h | h | ⟨c, _, h3, h4⟩
  · exact h
  · exact absurd (a1.symm.trans b1) h
  · exact absurd ((a2 c h3).symm.trans (b2 c (by omega))) h4
theorem cwZ_some {tp : fI} {b e i : Nat} (hi : i < 12) (h : clW tp b e i = true) : ∀ m, m ≤ 12 → i < m → cwZ tp b e m = nI (310 + i)
  | 0, _, hm => absurd hm (Nat.not_lt_zero i)
  | m + 1, h12, hm => by
    rw [cwZ]
    split
    · rename_i hc
      rw [clW_one (by omega) hi hc h]
    · rename_i hc
      rcases Nat.lt_succ_iff_lt_or_eq.mp hm with hh | rfl
      · exact cwZ_some hi h m (by omega) hh
      · exact absurd h hc
theorem cwZ_none {tp : fI} {b e : Nat} : ∀ m, (∀ i, i < m → clW tp b e i = false) → cwZ tp b e m = nI 300
  | 0, _ => rfl
  | m + 1, h => by
    rw [cwZ, h m (by omega)]
    exact cwZ_none m (fun i hi => h i (by omega))
theorem fsF_t {p : Nat → Bool} {j : Nat} : ∀ {n : Nat}, fsF p n = some j → p j = true
  | 0, h => by cases h
  | n + 1, h => by
    rw [fsF] at h
    cases hq : fsF p n with
    | some i => rw [hq] at h; cases h; exact fsF_t hq
    | none =>
      rw [hq] at h
      simp only [] at h
      split at h
      · rename_i hp; cases h; exact hp
      · cases h
theorem fsF_n {p : Nat → Bool} : ∀ {n : Nat}, fsF p n = none → ∀ j, j < n → p j = false
  | 0, _, j, hj => absurd hj (Nat.not_lt_zero j)
  | n + 1, h, j, hj => by
    cases hp : p j with
    | false => rfl
    | true =>
      cases hq : fsF p j with
      | some i =>
        have h1 := fsF_up hq (n + 1 - j)
        rw [show j + (n + 1 - j) = n + 1 by omega, h] at h1
        cases h1
      | none =>
        have h1 := fsF_hit hq hp hj
        rw [h] at h1
        cases h1
theorem cw_wo {wo tp : fI} {b e : Nat} (hbe : b ≤ e) (hl : ∀ j, b ≤ j → j < e → isLt (tp j) = true) (hW : wOkW wo) : cwZ tp b e 12 = nI (if woF wo tp b e = 12 then 300 else 310 + pmI (woF wo tp b e)) := by
  unfold woF
  split
  · rename_i h
    rw [if_pos rfl]
    refine cwZ_none 12 (fun i hi => ?_)
    have key : ∀ i, i < 12 → ∃ k, k < 12 ∧ pmI k = i := by decide +kernel
    obtain ⟨k, hk, rfl⟩ := key i hi
    rw [← wd_cl hk hbe hl hW]
    exact fsF_n h k hk
  · rename_i k h
    have hk := fsF_lt h
    rw [if_neg (by omega)]
    have h1 := fsF_t h
    rw [wd_cl hk hbe hl hW] at h1
    exact cwZ_some (by unfold pmI; split <;> (try split) <;> omega) h1 12 (Nat.le_refl _) (by unfold pmI; split <;> (try split) <;> omega)
theorem nvC_M {tp : fI} : ∀ {m a q : Nat} {v : Int32}, q + m ≤ 4 → nvC tp m a v = nvM tp m a q v
  | 0, _, _, _, _ => rfl
  | m + 1, a, q, v, h => by
    rw [nvC, nvM, if_pos (by omega), Int32.mul_comm v (nI 10)]
    exact nvC_M (by omega)
/-- the reference's token for the class's -/
def tkM (k : Nat) : Int32 := if k = 300 then -1 else if k = 301 then nI 0 else if k = 302 then nI 1 else if k < 310 then nI k else if k < 316 then nI 2 else if k < 319 then nI 3 else nI (k - 315)
def tkL : List Nat := [40, 41, 42, 43, 45, 59, 60, 61, 300, 301, 302, 310, 311, 312, 313, 314, 315, 316, 317, 318, 319, 320, 321]
def tkR (k : Nat) (num mv : Int32) : Prop := (k = 302 → ∃ v, v < 10000 ∧ num = nI v ∧ mv = nI v) ∧ (310 ≤ k → k < 316 → mv = nI (k - 310)) ∧ (316 ≤ k → k < 319 → mv = nI (k - 316))
/-- the class has read the token k behind the reference's place a, no fault so far -/
def cln (wo tp : fI) (n : Nat) (s : zS) (a k : Nat) : Prop := a ≤ n ∧ k ∈ tkL ∧ s.1 = (nxF wo tp n a).1 ∧ s.2.1 = nI k ∧ s.2.2.1 = (nxF wo tp n a).2.1 ∧ (nxF wo tp n a).2.2.1 = tkM k ∧ tkR k s.2.2.2.1 (nxF wo tp n a).2.2.2 ∧ s.2.2.2.2.1 = -1
theorem isSg_k {x : Int32} (h : isSg x = true) : ∃ k, k ∈ [40, 41, 42, 43, 45, 59, 60, 61] ∧ x = nI k := by
  unfold isSg at h
  simp only [Bool.or_eq_true, decide_eq_true_eq] at h
  rcases h with h | h | h | h | h | h | h | h
  · exact ⟨40, by decide, h⟩
  · exact ⟨41, by decide, h⟩
  · exact ⟨59, by decide, h⟩
  · exact ⟨43, by decide, h⟩
  · exact ⟨45, by decide, h⟩
  · exact ⟨42, by decide, h⟩
  · exact ⟨60, by decide, h⟩
  · exact ⟨61, by decide, h⟩
theorem tkR_o {k : Nat} {x y : Int32} (h : k < 302) : tkR k x y := ⟨fun e => by omega, fun e => by omega, fun e => by omega⟩
theorem tk_wo : ∀ K, K ≤ 12 → (if K = 12 then 300 else 310 + pmI K) ∈ tkL ∧ tkW K = tkM (if K = 12 then 300 else 310 + pmI K) ∧ ((310 ≤ (if K = 12 then 300 else 310 + pmI K)) → (if K = 12 then 300 else 310 + pmI K) < 316 → vaW K = nI ((if K = 12 then 300 else 310 + pmI K) - 310)) ∧ ((316 ≤ (if K = 12 then 300 else 310 + pmI K)) → (if K = 12 then 300 else 310 + pmI K) < 319 → vaW K = nI ((if K = 12 then 300 else 310 + pmI K) - 316)) ∧ ¬ (if K = 12 then 300 else 310 + pmI K) = 302 := by decide +kernel
theorem nx_cln {wo tp : fI} {n a : Nat} {s : zS} (hW : wOkW wo) (ha : a ≤ n) (hs : s.1 = a) (hf : s.2.2.2.2.1 = -1) : ∃ k, cln wo tp n (nxS tp n s) a k := by
  have ht := nx_ok (wo := wo) (tp := tp) (n := n) (a := a) rfl ha
  obtain ⟨s1, s2, s3, s4, s5, s6⟩ := s
  subst hs
  have hB := skP_le (p := isBl) (tp := tp) (m := n - s1) (a := s1)
  unfold cln
  unfold nxF at ht ⊢
  show ∃ k, s1 ≤ n ∧ k ∈ tkL ∧ (nxK tp n (skP isBl tp (n - s1) s1) (s1, s2, s3, s4, s5, s6)).1 = _ ∧ _
  unfold nxS
  dsimp only
  generalize skP isBl tp (n - s1) s1 = B at ht hB ⊢
  unfold nxK nxG at ⊢
  unfold nxG at ht
  by_cases hBn : n ≤ B
  · rw [if_pos hBn, if_pos hBn]
    exact ⟨301, ha, by decide, rfl, rfl, rfl, rfl, tkR_o (by omega), hf⟩
  · rw [if_neg hBn, if_neg hBn]
    rw [if_neg hBn] at ht
    by_cases hl : isLt (tp B) = true
    · rw [if_pos hl, if_pos hl]
      have hE := skP_le (p := isLt) (tp := tp) (m := n - B) (a := B)
      have e1 := cw_wo (wo := wo) (tp := tp) (b := B) (e := skP isLt tp (n - B) B) hE.1 (fun j h1 h2 => skP_all h1 h2) hW
      obtain ⟨t1, t2, t3, t4, t5⟩ := tk_wo (woF wo tp B (skP isLt tp (n - B) B)) woF_le
      exact ⟨_, ha, t1, rfl, e1, rfl, t2, ⟨fun e => absurd e t5, t3, t4⟩, hf⟩
    · rw [if_neg hl, if_neg hl]
      rw [if_neg hl] at ht
      by_cases hd : isDg (tp B) = true
      · rw [if_pos hd, if_pos hd]
        rw [if_pos hd] at ht
        by_cases h4 : 4 < skP isDg tp (n - B) B - B
        · exact ⟨300, ha, by decide, rfl, if_pos h4, rfl, if_pos h4, tkR_o (by omega), hf⟩
        · obtain ⟨v, hv, e⟩ := ht.2.2.2.1 (if_neg h4)
          refine ⟨302, ha, by decide, rfl, if_neg h4, rfl, if_neg h4, ⟨fun _ => ⟨v, hv, ?_, e⟩, fun e => by omega, fun e => by omega⟩, hf⟩
          exact (nvC_M (q := 0) (by omega)).trans e
      · rw [if_neg hd, if_neg hd]
        cases hg : isSg (tp B) with
        | false => exact ⟨300, ha, by decide, rfl, by rfl, rfl, by rfl, tkR_o (by omega), hf⟩
        | true =>
          obtain ⟨k, hk, e⟩ := isSg_k hg
          have key : ∀ k, k ∈ [40, 41, 42, 43, 45, 59, 60, 61] → k ∈ tkL ∧ tkM k = nI k ∧ k < 302 := by decide
          obtain ⟨k1, k2, k3⟩ := key k hk
          exact ⟨k, ha, k1, rfl, e, rfl, by rw [k2]; exact e, tkR_o k3, hf⟩
