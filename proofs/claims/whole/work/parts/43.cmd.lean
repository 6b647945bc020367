/-! ===== the commands of a script ===== -/
def ltO (n : Nat) : Int := if n = 99 then 0 else 97 + n
def plF (G : Gr) (c n : Nat) : Bool × Gr := if c < qM G ∧ (ltO n = 0 ∨ isLb (ltO n) = true) then (true, setL G c (ltO n)) else (false, G)
def feF (G : Gr) (e w : Nat) : Bool × Gr := if e < nE G ∧ w < qW G ∧ fiG G e w = true then (true, setLs G (filL G e w (eN G e) 0 (qL G))) else (false, G)
def ceF (G : Gr) (e : Nat) : Bool × Gr := if e < nE G then (true, setLs G (claF G e (eN G e) 0 (qL G) 0).1) else (false, G)
theorem okG_L {G : Gr} (hG : okG G) {L : Nat → Int} (hL : okL G L) : okG (setLs G L) := ok_setLs hG hL
theorem putsLetter_T {d k N : Nat} {h : AH} {G : Gr} {Q : AQ} (hP : isPz h k G) (hG : okG G) (hN : k + 12 ≤ N) {c n : Nat} (hc : c < 100) (hn : n < 100) (hQ : ∀ h', isPz h' k (plF G c n).2 → fr h h' k 12 → Q (.inl (some (vI (bI (plF G c n).1)))) h' N) : T (d + 3) 1 [vR k, vI c, vI n] h N Q := by
  obtain ⟨F, Ln, Dn, Ac, Dw, Cl, ⟨p0, hS, p2, p3, p4, p5, p6, p7⟩, hE, hAc, hDw, hCl⟩ := id hP
  obtain ⟨hm4, hm36⟩ := hG.m
  have hn36 := nE36 hG
  have hnE : cnt G (qM G) = nE G := rfl
  obtain ⟨rb, bb, s0⟩ := hS.e0
  have hl99 : 0 ≤ ltO n ∧ ltO n < 200 := by
    unfold ltO
    split <;> omega
  have hJ : ∀ y : Int, y = ltO n → Run mi_X0_putsLetter (T (d + 2)) Q 15 [some (vR k), some (vI c), some (vI n), some (vI y)] [] h N 0 0 := by
    intro y hy
    refine R_aload_n rfl rfl ?_
    refine R_getfield rfl rfl (by omega) p0 rfl ?_
    refine R_iload_n rfl rfl ?_
    refine R_vcall rfl rfl ⟨(by omega), hS.rcv⟩ ⟨Nat.le_of_ble_eq_true rfl, Nat.le_of_ble_eq_true rfl, Nat.zero_le _, Nat.zero_le _⟩ (hasCell_T hS hG (by omega) ⟨by omega, by omega⟩ (fun z20 hz20 => aRes_i (rest := []) ?_))
    refine R_ifeq rfl ⟨by omega, by omega⟩ (fun c23 => ?_) (fun c23 => ?_)
    · have hq : plF G c n = (false, G) := if_neg (fun q => by omega)
      rw [hq] at hQ
      refine R_iconst rfl ?_
      exact R_ireturn rfl (fun _ => by omega) (Nat.zero_le _) (Nat.zero_le _) (hQ h hP fr.refl)
    · have hcm : c < qM G := by omega
      refine R_iload_n rfl rfl ?_
      refine R_ifeq rfl ⟨by omega, by omega⟩ (fun c27 => ?_) (fun c27 => ?_)
      · have hok : ltO n = 0 ∨ isLb (ltO n) = true := Or.inl (by omega)
        refine R_aload_n rfl rfl ?_
        refine R_getfield rfl rfl (by omega) p0 rfl ?_
        refine R_iload_n rfl rfl ?_
        refine R_iload_n rfl rfl ?_
        refine R_vcall rfl rfl ⟨(by omega), hS.rcv⟩ ⟨Nat.le_of_ble_eq_true rfl, Nat.le_of_ble_eq_true rfl, Nat.zero_le _, Nat.zero_le _⟩ (setLetter_T hS hG (by omega) ⟨by omega, by omega⟩ (fun h1 hS1 f1 => aRes_v (rest := []) ?_))
        rw [hy] at hS1
        have hS1 : isSt h1 (k + 1) (setL G c (ltO n)) := hS1
        have hq : plF G c n = (true, setL G c (ltO n)) := if_pos ⟨hcm, hok⟩
        rw [hq] at hQ
        refine R_iconst rfl ?_
        exact R_ireturn rfl (fun _ => by omega) (Nat.zero_le _) (Nat.zero_le _) (hQ h1 (isPz_S (G' := setL G c (ltO n)) (G := G) ⟨rfl, rfl, rfl, rfl⟩ hP hS1 f1) (f1.wide (by omega)))
      · refine R_iload_n rfl rfl ?_
        refine R_s3call rfl rfl ⟨Nat.le_of_ble_eq_true rfl, Nat.le_of_ble_eq_true rfl, Nat.zero_le _, Nat.zero_le _⟩ (isLetter_T ⟨by omega, by omega⟩ (fun z31 hz31 => aRes_i (rest := []) ?_))
        have h01 := bI01 (isLb y)
        have hzl : z31 = bI (isLb (ltO n)) := by rw [← hy]; exact hz31
        refine R_ifne rfl ⟨by omega, by omega⟩ (fun c34 => ?_) (fun c34 => ?_)
        · have hok : ltO n = 0 ∨ isLb (ltO n) = true := Or.inr (bI_t hzl c34)
          refine R_aload_n rfl rfl ?_
          refine R_getfield rfl rfl (by omega) p0 rfl ?_
          refine R_iload_n rfl rfl ?_
          refine R_iload_n rfl rfl ?_
          refine R_vcall rfl rfl ⟨(by omega), hS.rcv⟩ ⟨Nat.le_of_ble_eq_true rfl, Nat.le_of_ble_eq_true rfl, Nat.zero_le _, Nat.zero_le _⟩ (setLetter_T hS hG (by omega) ⟨by omega, by omega⟩ (fun h1 hS1 f1 => aRes_v (rest := []) ?_))
          rw [hy] at hS1
          have hS1 : isSt h1 (k + 1) (setL G c (ltO n)) := hS1
          have hq : plF G c n = (true, setL G c (ltO n)) := if_pos ⟨hcm, hok⟩
          rw [hq] at hQ
          refine R_iconst rfl ?_
          exact R_ireturn rfl (fun _ => by omega) (Nat.zero_le _) (Nat.zero_le _) (hQ h1 (isPz_S (G' := setL G c (ltO n)) (G := G) ⟨rfl, rfl, rfl, rfl⟩ hP hS1 f1) (f1.wide (by omega)))
        · have hq : plF G c n = (false, G) := if_neg (fun q => by
            rcases q.2 with q2 | q2
            · omega
            · exact absurd (q2.symm.trans (bI_f hzl (by omega))) (by decide))
          rw [hq] at hQ
          refine R_iconst rfl ?_
          exact R_ireturn rfl (fun _ => by omega) (Nat.zero_le _) (Nat.zero_le _) (hQ h hP fr.refl)
  refine T_body (I := mi_X0_putsLetter) (lv := [_, _, _, _]) rfl (Nat.le_of_ble_eq_true rfl) rfl ?_
  refine R_iload_n rfl rfl ?_
  refine R_bipush rfl ?_
  refine R_icmpne rfl ⟨by omega, by omega⟩ ⟨by decide, by decide⟩ (fun c3 => ?_) (fun c3 => ?_)
  · refine R_bipush rfl ?_
    refine R_iload_n rfl rfl ?_
    refine R_iadd rfl ?_
    refine R_istore_n (lv' := [_, _, _, _]) rfl rfl ?_
    exact hJ _ (by unfold ltO; rw [if_neg (by omega)])
  · refine R_iconst rfl ?_
    refine R_goto rfl ?_
    refine R_istore_n (lv' := [_, _, _, _]) rfl rfl ?_
    exact hJ _ (by unfold ltO; rw [if_pos (by omega)])
theorem fillsEntry_T {d k N : Nat} {h : AH} {G : Gr} {Q : AQ} (hP : isPz h k G) (hG : okG G) (hN : k + 12 ≤ N) {e w : Nat} (he : e < 100) (hw : w < 100) (hQ : ∀ h', isPz h' k (feF G e w).2 → fr h h' k 12 → Q (.inl (some (vI (bI (feF G e w).1)))) h' N) : T (d + 5) 2 [vR k, vI e, vI w] h N Q := by
  obtain ⟨F, Ln, Dn, Ac, Dw, Cl, ⟨p0, hS, p2, p3, p4, p5, p6, p7⟩, hE, hAc, hDw, hCl⟩ := id hP
  obtain ⟨hm4, hm36⟩ := hG.m
  have hn36 := nE36 hG
  have hnE : cnt G (qM G) = nE G := rfl
  obtain ⟨rb, bb, s0⟩ := hS.e0
  refine T_body (I := mi_X0_fillsEntry) (lv := [_, _, _]) rfl (Nat.le_of_ble_eq_true rfl) rfl ?_
  refine R_aload_n rfl rfl ?_
  refine R_iload_n rfl rfl ?_
  refine R_iload_n rfl rfl ?_
  refine R_vcall rfl rfl ⟨(by omega), _, p0⟩ ⟨Nat.le_of_ble_eq_true rfl, Nat.le_of_ble_eq_true rfl, Nat.zero_le _, Nat.zero_le _⟩ (fitsWord_T hP hG hN ⟨by omega, by omega⟩ ⟨by omega, by omega⟩ (fun z3 hz3 => aRes_i (rest := []) ?_))
  refine R_ifne rfl ⟨by omega, by omega⟩ (fun c6 => ?_) (fun c6 => ?_)
  · have hok : e < nE G ∧ w < qW G ∧ fiG G e w = true := by
      rcases hz3 with ⟨-, -, q1, -, q2, q3⟩ | ⟨q, -⟩
      · exact ⟨by omega, by omega, q3⟩
      · omega
    refine R_aload_n rfl rfl ?_
    refine R_iload_n rfl rfl ?_
    refine R_iload_n rfl rfl ?_
    refine R_vcall rfl rfl ⟨(by omega), _, p0⟩ ⟨Nat.le_of_ble_eq_true rfl, Nat.le_of_ble_eq_true rfl, Nat.zero_le _, Nat.zero_le _⟩ (fillEntry_T hP hG hN hok.1 hok.2.1 (fiG_len hok.2.2) (fun h1 hP1 f1 => aRes_i (rest := []) ?_))
    have hq : feF G e w = (true, setLs G (filL G e w (eN G e) 0 (qL G))) := if_pos hok
    rw [hq] at hQ
    refine R_pop rfl rfl ?_
    refine R_iconst rfl ?_
    exact R_ireturn rfl (fun _ => by omega) (Nat.zero_le _) (Nat.zero_le _) (hQ h1 hP1 f1)
  · have hq : feF G e w = (false, G) := if_neg (fun q => (by
      rcases hz3 with ⟨q1, -⟩ | ⟨-, q2⟩
      · omega
      · exact q2 ⟨by omega, by have := q.1; omega, by omega, by have := q.2.1; omega, q.2.2⟩))
    rw [hq] at hQ
    refine R_iconst rfl ?_
    exact R_ireturn rfl (fun _ => by omega) (Nat.zero_le _) (Nat.zero_le _) (hQ h hP fr.refl)
theorem clearsEntry_T {d k N : Nat} {h : AH} {G : Gr} {Q : AQ} (hP : isPz h k G) (hG : okG G) (hN : k + 12 ≤ N) {e : Nat} (he : e < 100) (hQ : ∀ h', isPz h' k (ceF G e).2 → fr h h' k 12 → Q (.inl (some (vI (bI (ceF G e).1)))) h' N) : T (d + 6) 3 [vR k, vI e] h N Q := by
  obtain ⟨F, Ln, Dn, Ac, Dw, Cl, ⟨p0, hS, p2, p3, p4, p5, p6, p7⟩, hE, hAc, hDw, hCl⟩ := id hP
  obtain ⟨hm4, hm36⟩ := hG.m
  have hn36 := nE36 hG
  have hnE : cnt G (qM G) = nE G := rfl
  obtain ⟨rb, bb, s0⟩ := hS.e0
  refine T_body (I := mi_X0_clearsEntry) (lv := [_, _]) rfl (Nat.le_of_ble_eq_true rfl) rfl ?_
  refine R_aload_n rfl rfl ?_
  refine R_iload_n rfl rfl ?_
  refine R_vcall rfl rfl ⟨(by omega), _, p0⟩ ⟨Nat.le_of_ble_eq_true rfl, Nat.le_of_ble_eq_true rfl, Nat.zero_le _, Nat.zero_le _⟩ (hasEntry_T hP hG hN ⟨by omega, by omega⟩ (fun z2 hz2 => aRes_i (rest := []) ?_))
  refine R_ifne rfl ⟨by omega, by omega⟩ (fun c5 => ?_) (fun c5 => ?_)
  · have hok : e < nE G := by omega
    refine R_aload_n rfl rfl ?_
    refine R_iload_n rfl rfl ?_
    refine R_vcall rfl rfl ⟨(by omega), _, p0⟩ ⟨Nat.le_of_ble_eq_true rfl, Nat.le_of_ble_eq_true rfl, Nat.zero_le _, Nat.zero_le _⟩ (clearEntry_T hP hG hN hok (fun h1 hP1 f1 => aRes_i (rest := []) ?_))
    have hq : ceF G e = (true, setLs G (claF G e (eN G e) 0 (qL G) 0).1) := if_pos hok
    rw [hq] at hQ
    refine R_pop rfl rfl ?_
    refine R_iconst rfl ?_
    exact R_ireturn rfl (fun _ => by omega) (Nat.zero_le _) (Nat.zero_le _) (hQ h1 hP1 f1)
  · have hq : ceF G e = (false, G) := if_neg (by omega)
    rw [hq] at hQ
    refine R_iconst rfl ?_
    exact R_ireturn rfl (fun _ => by omega) (Nat.zero_le _) (Nat.zero_le _) (hQ h hP fr.refl)
theorem areKept_X {d k N r : Nat} {h : AH} {Q : AQ} (hr : 5 ≤ r ∧ r < 100) (hQ : Q (.inl (some (vI 0))) h N) : T (d + 1) 48 [vR k, vI r] h N Q := by
  refine T_body (I := mi_X5_areKept) (lv := [_, _]) rfl (Nat.le_of_ble_eq_true rfl) rfl ?_
  refine R_iload_n rfl rfl ?_
  refine R_switch rfl ⟨by omega, by omega⟩ (fun cd1 => ?_) ⟨fun c1 => ?_, fun c1 => ?_, fun c1 => ?_, fun c1 => ?_, fun c1 => ?_, trivial⟩
  · refine R_iconst rfl ?_
    exact R_ireturn rfl (fun _ => by omega) (Nat.zero_le _) (Nat.zero_le _) hQ
  · exact absurd c1 (by omega)
  · exact absurd c1 (by omega)
  · exact absurd c1 (by omega)
  · exact absurd c1 (by omega)
  · exact absurd c1 (by omega)
