/-! ===== the premises of the making rows, met ===== -/
theorem zcastI : Cond.castable "[I" "java/lang/Cloneable" ∈ ZN := List.mem_of_getElem? (i := 7) rfl
theorem zaoT : Cond.arrayOver (.object RX5) ∈ ZN := List.mem_of_getElem? (i := 8) rfl
theorem zaoS : Cond.arrayOver (.object RX4) ∈ ZN := List.mem_of_getElem? (i := 9) rfl
theorem hcpI : ∀ l, Ct l mJ7c true 2 1 160 T_copyOf := fun l => cJ7c l zcastI
theorem k6_init (l : Launch) : Ct l mX6_init true 53 60 3000 T_iX6 := c_iX6 l hcpI zaoT zaoS
theorem k6_text (l : Launch) : Ct l mX6_text true 53 5 491 T6_text := c6_text l hcpI
