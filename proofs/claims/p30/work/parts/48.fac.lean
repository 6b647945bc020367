/-! ===== the face: what it answers ===== -/
def celG (G : Gr) (x k : Nat) : Int := match k with
  | 0 => qL G x
  | 1 => bI (qE G x)
  | 2 => bI (qS G x)
  | 3 => acr G false x
  | 4 => acr G true x
  | 5 => (enC G x : Nat)
  | _ => clue G x
def entG (G : Gr) (e k : Nat) : Int := match k with
  | 0 => (eC G e : Nat)
  | 1 => bI (eB G e)
  | 2 => (eN G e : Nat)
  | 3 => (unG G e : Nat)
  | 4 => (emG G e : Nat)
  | 5 => clue G (eC G e)
  | _ => wiG G e
theorem cell_T {d N : Nat} {h : AH} {y : Sy} {Q : AQ} (hF : isFace h y) (hN : 122 ≤ N) {c k : Int} (hc : inR c) (hk : inR k) (hQI : ¬ (0 ≤ c ∧ c < qM y.1) → Q (.inr "java/lang/IndexOutOfBoundsException") h N) (hQa : (0 ≤ c ∧ c < qM y.1) → ¬ (0 ≤ k ∧ k ≤ 6) → Q (.inr "java/lang/IllegalArgumentException") h N) (hQ : ∀ x n : Nat, c = x → x < qM y.1 → k = n → n ≤ 6 → Q (.inl (some (vI (celG y.1 x n)))) h N) : T (d + 4) 96 [vR 0, vI c, vI k] h N Q := by
  obtain ⟨hc1, hc2⟩ := id hc
  obtain ⟨hk1, hk2⟩ := hk
  obtain ⟨b0, ⟨px, hT⟩, ⟨Gt, hSt⟩, hP, hG, ⟨Gr9, hPt⟩, hM, hSe, hFl, hst⟩ := id hF
  obtain ⟨F, Ln, Dn, Ac, Dw, Cl, ⟨p0, hS, -⟩, -⟩ := id hP
  obtain ⟨hm4, hm36⟩ := hG.m
  have hn36 := nE36 hG
  have hW8 := hG.2.2.2.2.1
  obtain ⟨rb, bb, s0⟩ := hS.e0
  refine T_body (I := mi_X8_cell) (lv := [_, _, _]) rfl (Nat.le_of_ble_eq_true rfl) rfl ?_
  refine R_aload_n rfl rfl ?_
  refine R_iload_n rfl rfl ?_
  refine R_vcall rfl rfl ⟨(by omega), _, b0⟩ ⟨Nat.le_of_ble_eq_true rfl, Nat.le_of_ble_eq_true rfl, Nat.le_of_ble_eq_true rfl, Nat.le_of_ble_eq_true rfl⟩ (requireCell_T hF hN ⟨by omega, by omega⟩ (fun hok => aRes_v (rest := []) ?_) (fun hno => aRes_x rfl (hQI hno) (Nat.le_of_ble_eq_true rfl) (Nat.le_of_ble_eq_true rfl)))
  obtain ⟨x, rfl⟩ := Int.eq_ofNat_of_zero_le hok.1
  have hx : x < qM y.1 := by omega
  refine R_iload_n rfl rfl ?_
  refine R_switch rfl ⟨by omega, by omega⟩ (fun cd6 => ?_) ⟨fun c6 => ?_, fun c6 => ?_, fun c6 => ?_, fun c6 => ?_, fun c6 => ?_, fun c6 => ?_, fun c6 => ?_, trivial⟩
  · exact R_throw rfl rfl (Nat.le_of_ble_eq_true rfl) (Nat.le_of_ble_eq_true rfl) (Nat.le_of_ble_eq_true rfl) rfl (hQa (by omega) (by omega))
  · have hQ9 := hQ x 0 rfl hx (by omega) (by decide)
    refine R_aload_n rfl rfl ?_
    refine R_getfield rfl rfl (by omega) b0 rfl ?_
    refine R_getfield rfl rfl (by omega) p0 rfl ?_
    refine R_iload_n rfl rfl ?_
    refine R_vcall rfl rfl ⟨(by omega), hS.rcv⟩ ⟨Nat.le_of_ble_eq_true rfl, Nat.le_of_ble_eq_true rfl, Nat.le_of_ble_eq_true rfl, Nat.le_of_ble_eq_true rfl⟩ (letterAt_T hS hG (by omega) ⟨by omega, by omega⟩ (fun z56 hz56 => aRes_i (rest := []) ?_))
    have hl : z56 = qL y.1 x := by
      rcases hz56 with ⟨-, -, q⟩ | ⟨q, -⟩
      · exact q
      · exact absurd (by omega) q
    rw [hl]
    exact R_ireturn rfl (fun q => absurd q (by decide)) (Nat.le_of_ble_eq_true rfl) (Nat.le_of_ble_eq_true rfl) hQ9
  · have hQ9 := hQ x 1 rfl hx (by omega) (by decide)
    refine R_aload_n rfl rfl ?_
    refine R_getfield rfl rfl (by omega) b0 rfl ?_
    refine R_getfield rfl rfl (by omega) p0 rfl ?_
    refine R_iload_n rfl rfl ?_
    refine R_iconst rfl ?_
    refine R_vcall rfl rfl ⟨(by omega), hS.rcv⟩ ⟨Nat.le_of_ble_eq_true rfl, Nat.le_of_ble_eq_true rfl, Nat.le_of_ble_eq_true rfl, Nat.le_of_ble_eq_true rfl⟩ (hasBar_T (b := false) hS hG (by omega) ⟨by omega, by omega⟩ (fun z69 hz69 => aRes_i (rest := []) ?_))
    have hb : z69 = bI (qE y.1 x) := by
      rcases hz69 with ⟨q1, -, -, q2⟩ | ⟨q1, q2⟩
      · have q3 : qE y.1 x = true := q2
        rw [q1, q3]
        rfl
      · cases q : qE y.1 x with
        | false => exact q1
        | true => exact absurd ⟨by omega, by omega, q⟩ q2
    have hb01 := bI01 (qE y.1 x)
    refine R_ifeq rfl ⟨by omega, by omega⟩ (fun c72 => ?_) (fun c72 => ?_)
    · have hq9 : qE y.1 x = false := bI_f hb (by omega)
      replace hQ9 : Q (.inl (some (vI (bI (qE y.1 x))))) h N := hQ9
      rw [hq9] at hQ9
      refine R_iconst rfl ?_
      exact R_ireturn rfl (fun q => absurd q (by decide)) (Nat.le_of_ble_eq_true rfl) (Nat.le_of_ble_eq_true rfl) hQ9
    · have hq9 : qE y.1 x = true := bI_t hb c72
      replace hQ9 : Q (.inl (some (vI (bI (qE y.1 x))))) h N := hQ9
      rw [hq9] at hQ9
      refine R_iconst rfl ?_
      refine R_goto rfl ?_
      exact R_ireturn rfl (fun q => absurd q (by decide)) (Nat.le_of_ble_eq_true rfl) (Nat.le_of_ble_eq_true rfl) hQ9
  · have hQ9 := hQ x 2 rfl hx (by omega) (by decide)
    refine R_aload_n rfl rfl ?_
    refine R_getfield rfl rfl (by omega) b0 rfl ?_
    refine R_getfield rfl rfl (by omega) p0 rfl ?_
    refine R_iload_n rfl rfl ?_
    refine R_iconst rfl ?_
    refine R_vcall rfl rfl ⟨(by omega), hS.rcv⟩ ⟨Nat.le_of_ble_eq_true rfl, Nat.le_of_ble_eq_true rfl, Nat.le_of_ble_eq_true rfl, Nat.le_of_ble_eq_true rfl⟩ (hasBar_T (b := true) hS hG (by omega) ⟨by omega, by omega⟩ (fun z90 hz90 => aRes_i (rest := []) ?_))
    have hb : z90 = bI (qS y.1 x) := by
      rcases hz90 with ⟨q1, -, -, q2⟩ | ⟨q1, q2⟩
      · have q3 : qS y.1 x = true := q2
        rw [q1, q3]
        rfl
      · cases q : qS y.1 x with
        | false => exact q1
        | true => exact absurd ⟨by omega, by omega, q⟩ q2
    have hb01 := bI01 (qS y.1 x)
    refine R_ifeq rfl ⟨by omega, by omega⟩ (fun c93 => ?_) (fun c93 => ?_)
    · have hq9 : qS y.1 x = false := bI_f hb (by omega)
      replace hQ9 : Q (.inl (some (vI (bI (qS y.1 x))))) h N := hQ9
      rw [hq9] at hQ9
      refine R_iconst rfl ?_
      exact R_ireturn rfl (fun q => absurd q (by decide)) (Nat.le_of_ble_eq_true rfl) (Nat.le_of_ble_eq_true rfl) hQ9
    · have hq9 : qS y.1 x = true := bI_t hb c93
      replace hQ9 : Q (.inl (some (vI (bI (qS y.1 x))))) h N := hQ9
      rw [hq9] at hQ9
      refine R_iconst rfl ?_
      refine R_goto rfl ?_
      exact R_ireturn rfl (fun q => absurd q (by decide)) (Nat.le_of_ble_eq_true rfl) (Nat.le_of_ble_eq_true rfl) hQ9
  · have hQ9 := hQ x 3 rfl hx (by omega) (by decide)
    refine R_aload_n rfl rfl ?_
    refine R_getfield rfl rfl (by omega) b0 rfl ?_
    refine R_iload_n rfl rfl ?_
    refine R_iconst rfl ?_
    refine R_vcall rfl rfl ⟨(by omega), _, p0⟩ ⟨Nat.le_of_ble_eq_true rfl, Nat.le_of_ble_eq_true rfl, Nat.le_of_ble_eq_true rfl, Nat.le_of_ble_eq_true rfl⟩ (entryAt_T (b := false) hP hG (by omega) rfl hx (fun z108 hz108 => aRes_i (rest := []) ?_))
    rw [hz108]
    exact R_ireturn rfl (fun q => absurd q (by decide)) (Nat.le_of_ble_eq_true rfl) (Nat.le_of_ble_eq_true rfl) hQ9
  · have hQ9 := hQ x 4 rfl hx (by omega) (by decide)
    refine R_aload_n rfl rfl ?_
    refine R_getfield rfl rfl (by omega) b0 rfl ?_
    refine R_iload_n rfl rfl ?_
    refine R_iconst rfl ?_
    refine R_vcall rfl rfl ⟨(by omega), _, p0⟩ ⟨Nat.le_of_ble_eq_true rfl, Nat.le_of_ble_eq_true rfl, Nat.le_of_ble_eq_true rfl, Nat.le_of_ble_eq_true rfl⟩ (entryAt_T (b := true) hP hG (by omega) rfl hx (fun z118 hz118 => aRes_i (rest := []) ?_))
    rw [hz118]
    exact R_ireturn rfl (fun q => absurd q (by decide)) (Nat.le_of_ble_eq_true rfl) (Nat.le_of_ble_eq_true rfl) hQ9
  · have hQ9 := hQ x 5 rfl hx (by omega) (by decide)
    refine R_aload_n rfl rfl ?_
    refine R_getfield rfl rfl (by omega) b0 rfl ?_
    refine R_iload_n rfl rfl ?_
    refine R_vcall rfl rfl ⟨(by omega), _, p0⟩ ⟨Nat.le_of_ble_eq_true rfl, Nat.le_of_ble_eq_true rfl, Nat.le_of_ble_eq_true rfl, Nat.le_of_ble_eq_true rfl⟩ (entriesAt_T hP hG (by omega) rfl hx (fun z127 hz127 => aRes_i (rest := []) ?_))
    rw [hz127]
    exact R_ireturn rfl (fun q => absurd q (by decide)) (Nat.le_of_ble_eq_true rfl) (Nat.le_of_ble_eq_true rfl) hQ9
  · have hQ9 := hQ x 6 rfl hx (by omega) (by decide)
    refine R_aload_n rfl rfl ?_
    refine R_getfield rfl rfl (by omega) b0 rfl ?_
    refine R_iload_n rfl rfl ?_
    refine R_vcall rfl rfl ⟨(by omega), _, p0⟩ ⟨Nat.le_of_ble_eq_true rfl, Nat.le_of_ble_eq_true rfl, Nat.le_of_ble_eq_true rfl, Nat.le_of_ble_eq_true rfl⟩ (clueAt_T hP hG (by omega) rfl hx (fun z136 hz136 => aRes_i (rest := []) ?_))
    rw [hz136]
    exact R_ireturn rfl (fun q => absurd q (by decide)) (Nat.le_of_ble_eq_true rfl) (Nat.le_of_ble_eq_true rfl) hQ9
theorem entry_T {d N : Nat} {h : AH} {y : Sy} {Q : AQ} (hF : isFace h y) (hN : 122 ≤ N) {c k : Int} (hc : inR c) (hk : inR k) (hQI : ¬ (0 ≤ c ∧ c < nE y.1) → Q (.inr "java/lang/IndexOutOfBoundsException") h N) (hQa : (0 ≤ c ∧ c < nE y.1) → ¬ (0 ≤ k ∧ k ≤ 6) → Q (.inr "java/lang/IllegalArgumentException") h N) (hQ : ∀ x n : Nat, c = x → x < nE y.1 → k = n → n ≤ 6 → Q (.inl (some (vI (entG y.1 x n)))) h N) : T (d + 6) 97 [vR 0, vI c, vI k] h N Q := by
  obtain ⟨hc1, hc2⟩ := id hc
  obtain ⟨hk1, hk2⟩ := hk
  obtain ⟨b0, ⟨px, hT⟩, ⟨Gt, hSt⟩, hP, hG, ⟨Gr9, hPt⟩, hM, hSe, hFl, hst⟩ := id hF
  obtain ⟨F, Ln, Dn, Ac, Dw, Cl, ⟨p0, hS, -⟩, -⟩ := id hP
  obtain ⟨hm4, hm36⟩ := hG.m
  have hn36 := nE36 hG
  have hW8 := hG.2.2.2.2.1
  obtain ⟨rb, bb, s0⟩ := hS.e0
  refine T_body (I := mi_X8_entry) (lv := [_, _, _]) rfl (Nat.le_of_ble_eq_true rfl) rfl ?_
  refine R_aload_n rfl rfl ?_
  refine R_iload_n rfl rfl ?_
  refine R_vcall rfl rfl ⟨(by omega), _, b0⟩ ⟨Nat.le_of_ble_eq_true rfl, Nat.le_of_ble_eq_true rfl, Nat.le_of_ble_eq_true rfl, Nat.le_of_ble_eq_true rfl⟩ (requireEntry_T hF hN ⟨by omega, by omega⟩ (fun hok => aRes_v (rest := []) ?_) (fun hno => aRes_x rfl (hQI hno) (Nat.le_of_ble_eq_true rfl) (Nat.le_of_ble_eq_true rfl)))
  obtain ⟨e, rfl⟩ := Int.eq_ofNat_of_zero_le hok.1
  have he : e < nE y.1 := by omega
  have he6 := eN_6 hG he
  refine R_iload_n rfl rfl ?_
  refine R_switch rfl ⟨by omega, by omega⟩ (fun cd6 => ?_) ⟨fun c6 => ?_, fun c6 => ?_, fun c6 => ?_, fun c6 => ?_, fun c6 => ?_, fun c6 => ?_, fun c6 => ?_, trivial⟩
  · exact R_throw rfl rfl (Nat.le_of_ble_eq_true rfl) (Nat.le_of_ble_eq_true rfl) (Nat.le_of_ble_eq_true rfl) rfl (hQa (by omega) (by omega))
  · have hQ9 := hQ e 0 rfl he (by omega) (by decide)
    refine R_aload_n rfl rfl ?_
    refine R_getfield rfl rfl (by omega) b0 rfl ?_
    refine R_iload_n rfl rfl ?_
    refine R_iconst rfl ?_
    refine R_vcall rfl rfl ⟨(by omega), _, p0⟩ ⟨Nat.le_of_ble_eq_true rfl, Nat.le_of_ble_eq_true rfl, Nat.le_of_ble_eq_true rfl, Nat.le_of_ble_eq_true rfl⟩ (cellOf_T (i := 0) hP hG (by omega) he rfl (fun z54 hz54 => aRes_i (rest := []) ?_))
    have hc0 : cel y.1 e 0 = eC y.1 e := by
      unfold cel
      rw [Nat.zero_mul, Nat.add_zero]
    rw [hz54, hc0]
    exact R_ireturn rfl (fun q => absurd q (by decide)) (Nat.le_of_ble_eq_true rfl) (Nat.le_of_ble_eq_true rfl) hQ9
  · have hQ9 := hQ e 1 rfl he (by omega) (by decide)
    refine R_aload_n rfl rfl ?_
    refine R_getfield rfl rfl (by omega) b0 rfl ?_
    refine R_iload_n rfl rfl ?_
    refine R_vcall rfl rfl ⟨(by omega), _, p0⟩ ⟨Nat.le_of_ble_eq_true rfl, Nat.le_of_ble_eq_true rfl, Nat.le_of_ble_eq_true rfl, Nat.le_of_ble_eq_true rfl⟩ (isDown_T hP hG (by omega) he (fun z63 hz63 => aRes_i (rest := []) ?_))
    rw [hz63]
    have h01 := bI01 (eB y.1 e)
    refine R_ifeq rfl ⟨by omega, by omega⟩ (fun c66 => ?_) (fun c66 => ?_)
    · have hq9 : eB y.1 e = false := bI_f rfl (show bI (eB y.1 e) = 0 by omega)
      replace hQ9 : Q (.inl (some (vI (bI (eB y.1 e))))) h N := hQ9
      rw [hq9] at hQ9
      refine R_iconst rfl ?_
      exact R_ireturn rfl (fun q => absurd q (by decide)) (Nat.le_of_ble_eq_true rfl) (Nat.le_of_ble_eq_true rfl) hQ9
    · have hq9 : eB y.1 e = true := bI_t rfl c66
      replace hQ9 : Q (.inl (some (vI (bI (eB y.1 e))))) h N := hQ9
      rw [hq9] at hQ9
      refine R_iconst rfl ?_
      refine R_goto rfl ?_
      exact R_ireturn rfl (fun q => absurd q (by decide)) (Nat.le_of_ble_eq_true rfl) (Nat.le_of_ble_eq_true rfl) hQ9
  · have hQ9 := hQ e 2 rfl he (by omega) (by decide)
    refine R_aload_n rfl rfl ?_
    refine R_getfield rfl rfl (by omega) b0 rfl ?_
    refine R_iload_n rfl rfl ?_
    refine R_vcall rfl rfl ⟨(by omega), _, p0⟩ ⟨Nat.le_of_ble_eq_true rfl, Nat.le_of_ble_eq_true rfl, Nat.le_of_ble_eq_true rfl, Nat.le_of_ble_eq_true rfl⟩ (lengthOf_T hP hG (by omega) he (fun z80 hz80 => aRes_i (rest := []) ?_))
    rw [hz80]
    exact R_ireturn rfl (fun q => absurd q (by decide)) (Nat.le_of_ble_eq_true rfl) (Nat.le_of_ble_eq_true rfl) hQ9
  · have hQ9 := hQ e 3 rfl he (by omega) (by decide)
    refine R_aload_n rfl rfl ?_
    refine R_getfield rfl rfl (by omega) b0 rfl ?_
    refine R_iload_n rfl rfl ?_
    refine R_vcall rfl rfl ⟨(by omega), _, p0⟩ ⟨Nat.le_of_ble_eq_true rfl, Nat.le_of_ble_eq_true rfl, Nat.le_of_ble_eq_true rfl, Nat.le_of_ble_eq_true rfl⟩ (uncheckedIn_T hP hG (by omega) he (fun z89 hz89 => aRes_i (rest := []) ?_))
    rw [hz89]
    exact R_ireturn rfl (fun q => absurd q (by decide)) (Nat.le_of_ble_eq_true rfl) (Nat.le_of_ble_eq_true rfl) hQ9
  · have hQ9 := hQ e 4 rfl he (by omega) (by decide)
    refine R_aload_n rfl rfl ?_
    refine R_getfield rfl rfl (by omega) b0 rfl ?_
    refine R_iload_n rfl rfl ?_
    refine R_vcall rfl rfl ⟨(by omega), _, p0⟩ ⟨Nat.le_of_ble_eq_true rfl, Nat.le_of_ble_eq_true rfl, Nat.le_of_ble_eq_true rfl, Nat.le_of_ble_eq_true rfl⟩ (emptyIn_T hP hG (by omega) he (fun z98 hz98 => aRes_i (rest := []) ?_))
    rw [hz98]
    exact R_ireturn rfl (fun q => absurd q (by decide)) (Nat.le_of_ble_eq_true rfl) (Nat.le_of_ble_eq_true rfl) hQ9
  · have hQ9 := hQ e 5 rfl he (by omega) (by decide)
    refine R_aload_n rfl rfl ?_
    refine R_getfield rfl rfl (by omega) b0 rfl ?_
    refine R_aload_n rfl rfl ?_
    refine R_getfield rfl rfl (by omega) b0 rfl ?_
    refine R_iload_n rfl rfl ?_
    refine R_iconst rfl ?_
    refine R_vcall rfl rfl ⟨(by omega), _, p0⟩ ⟨Nat.le_of_ble_eq_true rfl, Nat.le_of_ble_eq_true rfl, Nat.le_of_ble_eq_true rfl, Nat.le_of_ble_eq_true rfl⟩ (cellOf_T (i := 0) hP hG (by omega) he rfl (fun z112 hz112 => aRes_i (rest := [_]) ?_))
    have hc0 : cel y.1 e 0 = eC y.1 e := by
      unfold cel
      rw [Nat.zero_mul, Nat.add_zero]
    rw [hz112, hc0]
    refine R_vcall rfl rfl ⟨(by omega), _, p0⟩ ⟨Nat.le_of_ble_eq_true rfl, Nat.le_of_ble_eq_true rfl, Nat.le_of_ble_eq_true rfl, Nat.le_of_ble_eq_true rfl⟩ (clueAt_T (x := eC y.1 e) hP hG (by omega) rfl (eST he).1 (fun z115 hz115 => aRes_i (rest := []) ?_))
    rw [hz115]
    exact R_ireturn rfl (fun q => absurd q (by decide)) (Nat.le_of_ble_eq_true rfl) (Nat.le_of_ble_eq_true rfl) hQ9
  · have hQ9 := hQ e 6 rfl he (by omega) (by decide)
    refine R_aload_n rfl rfl ?_
    refine R_getfield rfl rfl (by omega) b0 rfl ?_
    refine R_iload_n rfl rfl ?_
    refine R_vcall rfl rfl ⟨(by omega), _, p0⟩ ⟨Nat.le_of_ble_eq_true rfl, Nat.le_of_ble_eq_true rfl, Nat.le_of_ble_eq_true rfl, Nat.le_of_ble_eq_true rfl⟩ (wordIn_T hP hG (by omega) he (fun z124 hz124 => aRes_i (rest := []) ?_))
    rw [hz124]
    exact R_ireturn rfl (fun q => absurd q (by decide)) (Nat.le_of_ble_eq_true rfl) (Nat.le_of_ble_eq_true rfl) hQ9
theorem fits_T {d N : Nat} {h : AH} {y : Sy} {Q : AQ} (hF : isFace h y) (hN : 122 ≤ N) {c : Int} (hc : inR c) (hQI : ¬ (0 ≤ c ∧ c < nE y.1) → Q (.inr "java/lang/IndexOutOfBoundsException") h N) (hQ : ∀ e : Nat, c = e → e < nE y.1 → Q (.inl (some (vI ((fcG y.1 e : Nat) : Int)))) h N) : T (d + 6) 99 [vR 0, vI c] h N Q := by
  obtain ⟨hc1, hc2⟩ := id hc
  obtain ⟨b0, ⟨px, hT⟩, ⟨Gt, hSt⟩, hP, hG, ⟨Gr9, hPt⟩, hM, hSe, hFl, hst⟩ := id hF
  obtain ⟨F, Ln, Dn, Ac, Dw, Cl, ⟨p0, hS, -⟩, -⟩ := id hP
  obtain ⟨hm4, hm36⟩ := hG.m
  have hn36 := nE36 hG
  have hW8 := hG.2.2.2.2.1
  obtain ⟨rb, bb, s0⟩ := hS.e0
  refine T_body (I := mi_X8_fits) (lv := [_, _]) rfl (Nat.le_of_ble_eq_true rfl) rfl ?_
  refine R_aload_n rfl rfl ?_
  refine R_iload_n rfl rfl ?_
  refine R_vcall rfl rfl ⟨(by omega), _, b0⟩ ⟨Nat.le_of_ble_eq_true rfl, Nat.le_of_ble_eq_true rfl, Nat.le_of_ble_eq_true rfl, Nat.le_of_ble_eq_true rfl⟩ (requireEntry_T hF hN ⟨by omega, by omega⟩ (fun hok => aRes_v (rest := []) ?_) (fun hno => aRes_x rfl (hQI hno) (Nat.le_of_ble_eq_true rfl) (Nat.le_of_ble_eq_true rfl)))
  obtain ⟨e, rfl⟩ := Int.eq_ofNat_of_zero_le hok.1
  have he : e < nE y.1 := by omega
  have he6 := eN_6 hG he
  refine R_aload_n rfl rfl ?_
  refine R_getfield rfl rfl (by omega) b0 rfl ?_
  refine R_iload_n rfl rfl ?_
  refine R_vcall rfl rfl ⟨(by omega), _, p0⟩ ⟨Nat.le_of_ble_eq_true rfl, Nat.le_of_ble_eq_true rfl, Nat.le_of_ble_eq_true rfl, Nat.le_of_ble_eq_true rfl⟩ (fitCount_T hP hG (by omega) he (fun z10 hz10 => aRes_i (rest := []) ?_))
  rw [hz10]
  exact R_ireturn rfl (fun q => absurd q (by decide)) (Nat.le_of_ble_eq_true rfl) (Nat.le_of_ble_eq_true rfl) (hQ e rfl he)
