/-! ===== the face: about, load ===== -/
def abG (G : Gr) (k : Nat) : Int := match k with
  | 0 => (qR G : Nat)
  | 1 => (qC G : Nat)
  | 2 => (nE G : Nat)
  | 3 => (cntA G (qM G) : Nat)
  | 4 => (ciG G 2 : Nat)
  | 5 => (ciG G 1 : Nat)
  | 6 => (ecG G : Nat)
  | 7 => (brG G : Nat)
  | 8 => (qW G : Nat)
  | 9 => (qN G : Nat)
  | _ => (clu G (qM G) : Nat)
theorem about_T {d N : Nat} {h : AH} {y : Sy} {Q : AQ} (hF : isFace h y) (hN : 122 ≤ N) {c : Int} (hc : inR c) (hQa : ¬ (0 ≤ c ∧ c ≤ 10) → Q (.inr "java/lang/IllegalArgumentException") h N) (hQ : ∀ n : Nat, c = n → n ≤ 10 → Q (.inl (some (vI (abG y.1 n)))) h N) : T (d + 5) 95 [vR 0, vI c] h N Q := by
  obtain ⟨hc1, hc2⟩ := hc
  obtain ⟨b0, ⟨px, hT⟩, ⟨Gt, hSt⟩, hP, hG, ⟨Gr9, hPt⟩, hM, hSe, hFl, hst⟩ := id hF
  obtain ⟨F, Ln, Dn, Ac, Dw, Cl, ⟨p0, hS, -⟩, -⟩ := id hP
  obtain ⟨hm4, hm36⟩ := hG.m
  have hn36 := nE36 hG
  have hW8 := hG.2.2.2.2.1
  obtain ⟨rb, bb, s0⟩ := hS.e0
  refine T_body (I := mi_X8_about) (lv := [_, _]) rfl (Nat.le_of_ble_eq_true rfl) rfl ?_
  refine R_iload_n rfl rfl ?_
  refine R_switch rfl ⟨by omega, by omega⟩ (fun cd1 => ?_) ⟨fun c1 => ?_, fun c1 => ?_, fun c1 => ?_, fun c1 => ?_, fun c1 => ?_, fun c1 => ?_, fun c1 => ?_, fun c1 => ?_, fun c1 => ?_, fun c1 => ?_, fun c1 => ?_, trivial⟩
  · exact R_throw rfl rfl (Nat.le_of_ble_eq_true rfl) (Nat.le_of_ble_eq_true rfl) (Nat.le_of_ble_eq_true rfl) rfl (hQa (by omega))
  · have hQ9 := hQ 0 (by omega) (by decide)
    refine R_aload_n rfl rfl ?_
    refine R_getfield rfl rfl (by omega) b0 rfl ?_
    refine R_getfield rfl rfl (by omega) p0 rfl ?_
    refine R_getfield rfl rfl (by omega) s0 rfl ?_
    exact R_ireturn rfl (fun q => absurd q (by decide)) (Nat.zero_le _) (Nat.zero_le _) hQ9
  · have hQ9 := hQ 1 (by omega) (by decide)
    refine R_aload_n rfl rfl ?_
    refine R_getfield rfl rfl (by omega) b0 rfl ?_
    refine R_getfield rfl rfl (by omega) p0 rfl ?_
    refine R_getfield rfl rfl (by omega) s0 rfl ?_
    exact R_ireturn rfl (fun q => absurd q (by decide)) (Nat.zero_le _) (Nat.zero_le _) hQ9
  · have hQ9 := hQ 2 (by omega) (by decide)
    refine R_aload_n rfl rfl ?_
    refine R_getfield rfl rfl (by omega) b0 rfl ?_
    refine R_getfield rfl rfl (by omega) p0 rfl ?_
    exact R_ireturn rfl (fun q => absurd q (by decide)) (Nat.zero_le _) (Nat.zero_le _) hQ9
  · have hQ9 := hQ 3 (by omega) (by decide)
    refine R_aload_n rfl rfl ?_
    refine R_getfield rfl rfl (by omega) b0 rfl ?_
    refine R_getfield rfl rfl (by omega) p0 rfl ?_
    exact R_ireturn rfl (fun q => absurd q (by decide)) (Nat.zero_le _) (Nat.zero_le _) hQ9
  · have hQ9 := hQ 4 (by omega) (by decide)
    refine R_aload_n rfl rfl ?_
    refine R_getfield rfl rfl (by omega) b0 rfl ?_
    refine R_iconst rfl ?_
    refine R_vcall rfl rfl ⟨(by omega), _, p0⟩ ⟨Nat.le_of_ble_eq_true rfl, Nat.le_of_ble_eq_true rfl, Nat.zero_le _, Nat.zero_le _⟩ (cellsInEntries_T (n := 2) hP hG (by omega) (by decide) (fun z103 hz103 => aRes_i (rest := []) ?_))
    rw [hz103]
    exact R_ireturn rfl (fun q => absurd q (by decide)) (Nat.zero_le _) (Nat.zero_le _) hQ9
  · have hQ9 := hQ 5 (by omega) (by decide)
    refine R_aload_n rfl rfl ?_
    refine R_getfield rfl rfl (by omega) b0 rfl ?_
    refine R_iconst rfl ?_
    refine R_vcall rfl rfl ⟨(by omega), _, p0⟩ ⟨Nat.le_of_ble_eq_true rfl, Nat.le_of_ble_eq_true rfl, Nat.zero_le _, Nat.zero_le _⟩ (cellsInEntries_T (n := 1) hP hG (by omega) (by decide) (fun z112 hz112 => aRes_i (rest := []) ?_))
    rw [hz112]
    exact R_ireturn rfl (fun q => absurd q (by decide)) (Nat.zero_le _) (Nat.zero_le _) hQ9
  · have hQ9 := hQ 6 (by omega) (by decide)
    refine R_aload_n rfl rfl ?_
    refine R_getfield rfl rfl (by omega) b0 rfl ?_
    refine R_getfield rfl rfl (by omega) p0 rfl ?_
    refine R_vcall rfl rfl ⟨(by omega), hS.rcv⟩ ⟨Nat.le_of_ble_eq_true rfl, Nat.le_of_ble_eq_true rfl, Nat.zero_le _, Nat.zero_le _⟩ (emptyCells_T hS hG (by omega) (fun z123 hz123 => aRes_i (rest := []) ?_))
    rw [hz123]
    exact R_ireturn rfl (fun q => absurd q (by decide)) (Nat.zero_le _) (Nat.zero_le _) hQ9
  · have hQ9 := hQ 7 (by omega) (by decide)
    refine R_aload_n rfl rfl ?_
    refine R_getfield rfl rfl (by omega) b0 rfl ?_
    refine R_getfield rfl rfl (by omega) p0 rfl ?_
    refine R_vcall rfl rfl ⟨(by omega), hS.rcv⟩ ⟨Nat.le_of_ble_eq_true rfl, Nat.le_of_ble_eq_true rfl, Nat.zero_le _, Nat.zero_le _⟩ (barCount_T hS hG (by omega) (fun z134 hz134 => aRes_i (rest := []) ?_))
    rw [hz134]
    exact R_ireturn rfl (fun q => absurd q (by decide)) (Nat.zero_le _) (Nat.zero_le _) hQ9
  · have hQ9 := hQ 8 (by omega) (by decide)
    refine R_aload_n rfl rfl ?_
    refine R_getfield rfl rfl (by omega) b0 rfl ?_
    refine R_getfield rfl rfl (by omega) p0 rfl ?_
    refine R_getfield rfl rfl (by omega) s0 rfl ?_
    exact R_ireturn rfl (fun q => absurd q (by decide)) (Nat.zero_le _) (Nat.zero_le _) hQ9
  · have hQ9 := hQ 9 (by omega) (by decide)
    refine R_aload_n rfl rfl ?_
    refine R_getfield rfl rfl (by omega) b0 rfl ?_
    refine R_getfield rfl rfl (by omega) p0 rfl ?_
    refine R_getfield rfl rfl (by omega) s0 rfl ?_
    exact R_ireturn rfl (fun q => absurd q (by decide)) (Nat.zero_le _) (Nat.zero_le _) hQ9
  · have hQ9 := hQ 10 (by omega) (by decide)
    refine R_aload_n rfl rfl ?_
    refine R_getfield rfl rfl (by omega) b0 rfl ?_
    refine R_getfield rfl rfl (by omega) p0 rfl ?_
    exact R_ireturn rfl (fun q => absurd q (by decide)) (Nat.zero_le _) (Nat.zero_le _) hQ9
