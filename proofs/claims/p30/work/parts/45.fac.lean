/-! ===== the face ===== -/
theorem aRes_x {I : MI} {C : AC} {Q : AQ} {nx pc : Nat} {lv : AL} {rest : List AV} {h' : AH} {N k n : Nat} {X : String} (hh : I.hnd = []) (hq : Q (.inr X) h' N) (hk : k ≤ I.mc) (hn : n ≤ I.ms) : aRes I Q (Run I C Q) true nx pc lv rest N k n (.inr X) h' N := ⟨Or.inl rfl, rfl, by
  unfold aThr
  rw [hh]
  exact ⟨rfl, hq, hk, hn⟩⟩
abbrev Sy : Type := Gr × List Gr × (Nat → Option Gr) × Nat × (Nat → Int)
/-- the whole object of the class: the grid, what is remembered, the slots, the text -/
def isFace (h : AH) (y : Sy) : Prop := h 0 = eO 6 [vR 1, vR 8, vR 20, vR 32, vR 116, vR 119] ∧ (∃ p, isTx h y.2.2.2.1 y.2.2.2.2 p) ∧ (∃ G, isSt h 2 G) ∧ isPz h 8 y.1 ∧ okG y.1 ∧ (∃ G, isPa h 20 G) ∧ isMem h y.2.1 y.2.2.1 ∧ isSe h ∧ isFl h ∧ isStp h
theorem requireCell_T {d N : Nat} {h : AH} {y : Sy} {Q : AQ} (hF : isFace h y) (hN : 122 ≤ N) {c : Int} (hc : inR c) (hQ1 : 0 ≤ c ∧ c < qM y.1 → Q (.inl none) h N) (hQ0 : ¬ (0 ≤ c ∧ c < qM y.1) → Q (.inr "java/lang/IndexOutOfBoundsException") h N) : T (d + 2) 118 [vR 0, vI c] h N Q := by
  obtain ⟨hc1, hc2⟩ := hc
  obtain ⟨b0, ⟨px, hT⟩, ⟨Gt, hSt⟩, hP, hG, ⟨Gr9, hPt⟩, hM, hSe, hFl, hst⟩ := id hF
  obtain ⟨F, Ln, Dn, Ac, Dw, Cl, ⟨p0, hS, -⟩, -⟩ := id hP
  obtain ⟨hm4, hm36⟩ := hG.m
  have hn36 := nE36 hG
  have hW8 := hG.2.2.2.2.1
  obtain ⟨rb, bb, s0⟩ := hS.e0
  refine T_body (I := mi_X8_requireCell) (lv := [_, _]) rfl (Nat.le_of_ble_eq_true rfl) rfl ?_
  refine R_aload_n rfl rfl ?_
  refine R_getfield rfl rfl (by omega) b0 rfl ?_
  refine R_getfield rfl rfl (by omega) p0 rfl ?_
  refine R_iload_n rfl rfl ?_
  refine R_vcall rfl rfl ⟨(by omega), hS.rcv⟩ ⟨Nat.le_of_ble_eq_true rfl, Nat.le_of_ble_eq_true rfl, Nat.zero_le _, Nat.zero_le _⟩ (hasCell_T hS hG (by omega) ⟨by omega, by omega⟩ (fun z8 hz8 => aRes_i (rest := []) ?_))
  refine R_ifne rfl ⟨by omega, by omega⟩ (fun c11 => ?_) (fun c11 => ?_)
  · exact R_return rfl (Nat.zero_le _) (Nat.zero_le _) (hQ1 (by omega))
  · exact R_throw rfl rfl (Nat.le_of_ble_eq_true rfl) (Nat.le_of_ble_eq_true rfl) (Nat.le_of_ble_eq_true rfl) rfl (hQ0 (by omega))
theorem requireEntry_T {d N : Nat} {h : AH} {y : Sy} {Q : AQ} (hF : isFace h y) (hN : 122 ≤ N) {c : Int} (hc : inR c) (hQ1 : 0 ≤ c ∧ c < nE y.1 → Q (.inl none) h N) (hQ0 : ¬ (0 ≤ c ∧ c < nE y.1) → Q (.inr "java/lang/IndexOutOfBoundsException") h N) : T (d + 2) 119 [vR 0, vI c] h N Q := by
  obtain ⟨hc1, hc2⟩ := hc
  obtain ⟨b0, ⟨px, hT⟩, ⟨Gt, hSt⟩, hP, hG, ⟨Gr9, hPt⟩, hM, hSe, hFl, hst⟩ := id hF
  obtain ⟨F, Ln, Dn, Ac, Dw, Cl, ⟨p0, hS, -⟩, -⟩ := id hP
  obtain ⟨hm4, hm36⟩ := hG.m
  have hn36 := nE36 hG
  have hW8 := hG.2.2.2.2.1
  obtain ⟨rb, bb, s0⟩ := hS.e0
  refine T_body (I := mi_X8_requireEntry) (lv := [_, _]) rfl (Nat.le_of_ble_eq_true rfl) rfl ?_
  refine R_aload_n rfl rfl ?_
  refine R_getfield rfl rfl (by omega) b0 rfl ?_
  refine R_iload_n rfl rfl ?_
  refine R_vcall rfl rfl ⟨(by omega), _, p0⟩ ⟨Nat.le_of_ble_eq_true rfl, Nat.le_of_ble_eq_true rfl, Nat.zero_le _, Nat.zero_le _⟩ (hasEntry_T hP hG (by omega) ⟨by omega, by omega⟩ (fun z5 hz5 => aRes_i (rest := []) ?_))
  refine R_ifne rfl ⟨by omega, by omega⟩ (fun c8 => ?_) (fun c8 => ?_)
  · exact R_return rfl (Nat.zero_le _) (Nat.zero_le _) (hQ1 (by omega))
  · exact R_throw rfl rfl (Nat.le_of_ble_eq_true rfl) (Nat.le_of_ble_eq_true rfl) (Nat.le_of_ble_eq_true rfl) rfl (hQ0 (by omega))
