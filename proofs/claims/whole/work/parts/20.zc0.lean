theorem V.g {l : Launch} {M : zM} {b : Bool} {hs0 : List zE} {R : Room} {nc ns mc ms : Nat} {Post : Option Value → List zE → Prop} (n : Nat) (stops : List Nat) (hM : zmok M) (hb : (Nat.ble nc mc && Nat.ble ns ms) = true) {pc : Nat} {lv : zL} {st : List Value} {hs : List zE} (h : zrun M (fun v hs => ∃ hs', zsim hs hs' ∧ Post v hs') (V l M b hs0 R (zFm b hs0 Post mc ms) nc ns) stops n pc lv st hs) : V l M b hs0 R (zFm b hs0 Post mc ms) nc ns pc lv st hs := by
  rw [Bool.and_eq_true] at hb
  refine V.run n stops hM (fun v hs pc lv i hr hd hp => ?_) h
  obtain ⟨hs', h1, h2⟩ := hp
  exact V.sim h1 (zret_ok (Nat.le_of_ble_eq_true hb.1) (Nat.le_of_ble_eq_true hb.2) v hs' pc lv i hr hd h2)
def T_within : zT := fun args hs Q => ∃ v a b : Int32, args = [.int v, .int a, .int b] ∧ (a ≤ v → v ≤ b → Q (some (.int 1)) hs) ∧ (¬ (a ≤ v ∧ v ≤ b) → Q (some (.int 0)) hs)
theorem ct_within (l : Launch) : Ct l mX6_within false 1 0 0 T_within := by
  refine Ct.intro mX6_within_ok ?_
  rintro args hs Q ⟨v, a, b, rfl, h1, h0⟩
  refine ⟨Nat.le_of_ble_eq_true rfl, ?_⟩
  refine V.g 20 [] mX6_within_ok rfl ?_
  refine And.intro (fun c => ?_) (fun c => ?_)
  · refine And.intro (Or.inl rfl) ⟨_, zsim_rfl _, h0 (fun q => ?_)⟩
    exact absurd c (Int32.not_lt.mpr q.1)
  · refine And.intro (fun c2 => ?_) (fun c2 => ?_)
    · refine And.intro (Or.inl rfl) ⟨_, zsim_rfl _, h0 (fun q => ?_)⟩
      exact absurd c2 (Int32.not_lt.mpr q.2)
    · exact And.intro (Or.inr rfl) ⟨_, zsim_rfl _, h1 (Int32.not_lt.mp c) (Int32.not_lt.mp c2)⟩
