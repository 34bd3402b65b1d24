/-! ===== what both objects share ===== -/
def cOk (c : zCart) : Prop := kOk c ∧ wOk c ∧ loN0 (loC c) ∧ (¬ haC c 0 < 0 ∧ ¬ haC c 1 < 0) ∧ ¬ paC c < 0 ∧ ∀ j, j < 4 → wiB (kiC c j) 9 = true
def rwOk (r : zRow) (sz : Nat) : Prop := sz ≤ 8 ∧ r.2.2.1 = nI sz ∧ (∃ lk, lk ≤ 8 ∧ r.2.2.2.1 = nI lk) ∧ (∃ aw, aw ≤ 5 ∧ r.2.2.2.2.2.1 = nI aw) ∧ oOk r.2.1 ∧ bOk r.1
def RelC (c : zCart) (fv : Nat → Int32) (ar : Nat → fI) : Prop := c = cM fv ar ∧ cOk c
def RelR (r : zRow) (fv : Nat → Int32) (ar : Nat → fI) : Prop := ∃ sz, rwOk r sz ∧ fv 7 = nI sz ∧ r.1 = ar 8 ∧ (∀ i, i < sz → ar 9 i = r.2.1 i) ∧ r.2.2.2.1 = fv 10 ∧ r.2.2.2.2.1 = fv 11 ∧ r.2.2.2.2.2.1 = fv 12
def RelT (rd : zRd) (fv : Nat → Int32) (ar : Nat → fI) : Prop := rd.1 = ar 13 ∧ (∃ t, t ≤ 160 ∧ rd.2.1 = nI t ∧ fv 14 = nI t) ∧ ∃ q0, rd.2.2.2.2.1 = nI q0
def RelS (s0 s1 s2 s3 : zSh) (ar : Nat → fI) : Prop := shOk ar ∧ ∀ s, s < 4 → (shW s0 s1 s2 s3 s).1 = ar 23 s ∧ (shW s0 s1 s2 s3 s).2.1 = ar 24 s ∧ ∀ i, i < 40 → (shW s0 s1 s2 s3 s).2.2 i = ar 25 (40 * s + i)
def gvI (k : zCart) (kr : zRow) (j : Nat) : Int32 := if j = 5 then paC k else if j = 10 then kr.2.2.2.1 else if j = 11 then kr.2.2.2.2.1 else kr.2.2.2.2.2.1
def brI (k : zCart) (kr : zRow) (od : fI) (j : Nat) : fI := if j = 0 then kdC k else if j = 1 then moC k else if j = 2 then kiC k else if j = 3 then loC k else if j = 4 then haC k else if j = 6 then wiC k else if j = 8 then kr.1 else od
def RelI (k : zCart) (kr : zRow) (kl ik : Int32) (fv : Nat → Int32) (ar : Nat → fI) (n : Nat) : Prop := ik = fv 19 ∧ (¬ fv 19 = 0 → ∃ (od : fI) (sz li : Nat), cOk k ∧ rwOk kr sz ∧ (∀ i, i < sz → od i = kr.2.1 i) ∧ fv 20 = nI sz ∧ li < n ∧ kl = nI li ∧ fv 21 = nI li ∧ imK (ar 22) (gvI k kr) (brI k kr od))
def RelX (lw : Int32) (fv : Nat → Int32) (ar : Nat → fI) (n : Nat) (Ps : Nat → zP) : Prop := 1 ≤ n ∧ n ≤ 6 ∧ fv 17 = nI n ∧ (∃ li, li < n ∧ lw = nI li ∧ fv 18 = nI li) ∧ mTs ar Ps n ∧ wOkW (ar 31)
def Rel (c k : zCart) (r kr : zRow) (rd : zRd) (lw kl ik : Int32) (s0 s1 s2 s3 : zSh) (fv : Nat → Int32) (ar : Nat → fI) (n : Nat) (Ps : Nat → zP) : Prop := RelC c fv ar ∧ RelR r fv ar ∧ RelT rd fv ar ∧ RelS s0 s1 s2 s3 ar ∧ RelI k kr kl ik fv ar n ∧ RelX lw fv ar n Ps
/-- the sheets as the reference has them -/
def shM (ar : Nat → fI) (s : Nat) : zSh := (ar 23 s, ar 24 s, ceF (ar 25) s)
section
variable {c k : zCart} {r kr : zRow} {rd : zRd} {lw kl ik : Int32} {s0 s1 s2 s3 : zSh} {fv fv2 : Nat → Int32} {ar ar2 : Nat → fI} {n : Nat} {Ps : Nat → zP}
theorem RelC.kM (h : RelC c fv ar) (q : kM fv ar fv2 ar2) : RelC c fv2 ar2 := by
  obtain ⟨⟨a5, a7, a10, a11, a12, a14, a17, a18, a19, a20, a21⟩, b0, b1, b2, b3, b4, b6, b8, b9, b13, b15, b16, b22, b23, b24, b25, b31⟩ := q
  refine ⟨?_, h.2⟩
  rw [h.1]
  show (ar 0, ar 1, ar 2, ar 3, ar 4, ar 6, fv 5) = (ar2 0, ar2 1, ar2 2, ar2 3, ar2 4, ar2 6, fv2 5)
  rw [a5, b0, b1, b2, b3, b4, b6]
theorem RelR.kM (h : RelR r fv ar) (q : kM fv ar fv2 ar2) : RelR r fv2 ar2 := by
  obtain ⟨⟨a5, a7, a10, a11, a12, a14, a17, a18, a19, a20, a21⟩, b0, b1, b2, b3, b4, b6, b8, b9, b13, b15, b16, b22, b23, b24, b25, b31⟩ := q
  obtain ⟨sz, h1, h2, h3, h4, h5, h6, h7⟩ := h
  exact ⟨sz, h1, by rw [a7]; exact h2, by rw [b8]; exact h3, by rw [b9]; exact h4, by rw [a10]; exact h5, by rw [a11]; exact h6, by rw [a12]; exact h7⟩
theorem RelT.kM (h : RelT rd fv ar) (q : kM fv ar fv2 ar2) : RelT rd fv2 ar2 := by
  obtain ⟨⟨a5, a7, a10, a11, a12, a14, a17, a18, a19, a20, a21⟩, b0, b1, b2, b3, b4, b6, b8, b9, b13, b15, b16, b22, b23, b24, b25, b31⟩ := q
  obtain ⟨h1, ⟨t, h2, h3, h4⟩, h5⟩ := h
  exact ⟨by rw [b13]; exact h1, ⟨t, h2, h3, by rw [a14]; exact h4⟩, h5⟩
theorem RelS.kM (h : RelS s0 s1 s2 s3 ar) (q : kM fv ar fv2 ar2) : RelS s0 s1 s2 s3 ar2 := by
  obtain ⟨⟨a5, a7, a10, a11, a12, a14, a17, a18, a19, a20, a21⟩, b0, b1, b2, b3, b4, b6, b8, b9, b13, b15, b16, b22, b23, b24, b25, b31⟩ := q
  unfold RelS shOk at h ⊢
  rw [b23, b24, b25]
  exact h
theorem RelI.kM (h : RelI k kr kl ik fv ar n) (q : kM fv ar fv2 ar2) : RelI k kr kl ik fv2 ar2 n := by
  obtain ⟨⟨a5, a7, a10, a11, a12, a14, a17, a18, a19, a20, a21⟩, b0, b1, b2, b3, b4, b6, b8, b9, b13, b15, b16, b22, b23, b24, b25, b31⟩ := q
  unfold RelI at h ⊢
  rw [a19, a20, a21, b22]
  exact h
theorem RelX.kM (h : RelX lw fv ar n Ps) (q : kM fv ar fv2 ar2) : RelX lw fv2 ar2 n Ps := by
  obtain ⟨⟨a5, a7, a10, a11, a12, a14, a17, a18, a19, a20, a21⟩, b0, b1, b2, b3, b4, b6, b8, b9, b13, b15, b16, b22, b23, b24, b25, b31⟩ := q
  unfold RelX mTs at h ⊢
  rw [a17, a18, b15, b16, b31]
  exact h
theorem Rel.kM (h : Rel c k r kr rd lw kl ik s0 s1 s2 s3 fv ar n Ps) (q : kM fv ar fv2 ar2) : Rel c k r kr rd lw kl ik s0 s1 s2 s3 fv2 ar2 n Ps := ⟨h.1.kM q, h.2.1.kM q, h.2.2.1.kM q, h.2.2.2.1.kM q, h.2.2.2.2.1.kM q, h.2.2.2.2.2.kM q⟩
/-- from here on the sheets are the reference's -/
theorem RelS.m (h : RelS s0 s1 s2 s3 ar) : RelS (shM ar 0) (shM ar 1) (shM ar 2) (shM ar 3) ar := ⟨h.1, fun s hs => by
  rcases (show s = 0 ∨ s = 1 ∨ s = 2 ∨ s = 3 by omega) with rfl | rfl | rfl | rfl <;> exact ⟨rfl, rfl, fun i _ => rfl⟩⟩
theorem shM_W {s : Nat} (hs : s < 4) : shW (shM ar 0) (shM ar 1) (shM ar 2) (shM ar 3) s = shM ar s := by
  rcases (show s = 0 ∨ s = 1 ∨ s = 2 ∨ s = 3 by omega) with rfl | rfl | rfl | rfl <;> rfl
theorem wib_c {x : Int32} {m j : Nat} (h : wiB x m = false) (e : x = nI j) (hj : j ≤ m) (hm : m < 2 ^ 31) : False := by
  rw [e, wiB_n hj hm] at h
  cases h
theorem nI_i {x : Int32} {a b : Nat} (e1 : x = nI a) (e2 : x = nI b) (ha : a < 2 ^ 31) (hb : b < 2 ^ 31) : a = b := (nI_eq ha hb).mp (e1.symm.trans e2)
theorem mOk_of {li : Nat} (h : Rel c k r kr rd lw kl ik s0 s1 s2 s3 fv ar n Ps) (hl : li < n) (he : lw = nI li) : mOk fv ar (Ps li) := by
  obtain ⟨⟨h1, h2⟩, -, -, -, -, -, h6, -, ⟨l2, l3, l4, l5⟩, h7, -⟩ := h
  have e : li = l2 := nI_i he l4 (by omega) (by omega)
  subst e
  exact ⟨by rw [← h1]; exact h2.1, by rw [← h1]; exact h2.2.1, li, l5, h7 li hl⟩
end
/-- an int, or a long -/
def vkd : Bool → Value → Bool
  | false, .int _ => true
  | true, .long _ => true
  | _, _ => false
/-- what is asked of the answer in the class's world: the reference answers so, too -/
def HQ (b : Bool) (T7 : zT) (args : List Value) (n : Nat) (Ps : Nat → zP) (fv : Nat → Int32) (ar : Nat → fI) (ft : Nat) (tg : Nat → Option Nat) (tc : Int32) (tx : zTx) (Q : Option Value → List zE → Prop) : Prop :=
  ∀ (c d k : zCart) (r tr kr : zRow) (rd : zRd) (lw kl ik : Int32) (ri : zRi) (s0 s1 s2 s3 : zSh) (nm sk : fI) (v : Value), vkd b v = true → (∀ Q7 : Option Value → List zE → Prop, (∀ (fv2 : Nat → Int32) (ar2 : Nat → fI), Rel c k r kr rd lw kl ik s0 s1 s2 s3 fv2 ar2 n Ps → Q7 (some v) (pM fv2 ar2)) → T7 args (pM fv ar) Q7) → Q (some v) (pX c d k r tr kr rd ft tg tc lw kl ik ri s0 s1 s2 s3 (txS tx nm sk))
def PR (b : Bool) (T6 T7 : zT) (args : List Value) : Prop :=
  ∀ (c d k : zCart) (r tr kr : zRow) (rd : zRd) (lw kl ik : Int32) (ri : zRi) (fv : Nat → Int32) (ar : Nat → fI) (n li : Nat) (Ps : Nat → zP) (ft : Nat) (tg : Nat → Option Nat) (tx : zTx) (Q : Option Value → List zE → Prop), Rel c k r kr rd lw kl ik (shM ar 0) (shM ar 1) (shM ar 2) (shM ar 3) fv ar n Ps → lOk tg lw tx (Ps li) → li < n → lw = nI li → HQ b T7 args n Ps fv ar ft tg (nI n) tx Q → T6 args (pX c d k r tr kr rd ft tg (nI n) lw kl ik ri (shM ar 0) (shM ar 1) (shM ar 2) (shM ar 3) tx) Q
