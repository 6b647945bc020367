/-! ===== the text: parts, size, the whole grid ===== -/
def rpF (n : Nat) (tx : Nat → Int) : Nat → Nat → Gr → Bool × Nat × Gr
  | 0, p, G => (false, p, G)
  | f + 1, p, G => if n ≤ p then (true, p, G) else
      if qW G < 8 ∧ sg n tx p = 47 then
        (if 2 ≤ (rwF n tx 6 (p + 1) (begW G) 0).1 then rpF n tx f (rwF n tx 6 (p + 1) (begW G) 0).2.1 (rwF n tx 6 (p + 1) (begW G) 0).2.2 else (false, (rwF n tx 6 (p + 1) (begW G) 0).2.1, (rwF n tx 6 (p + 1) (begW G) 0).2.2))
      else if qN G = 0 ∧ sg n tx p = 61 then
        (if 1 ≤ (rlF n tx 6 (p + 1) G 0).1 then rpF n tx f (rlF n tx 6 (p + 1) G 0).2.1 (rlF n tx 6 (p + 1) G 0).2.2 else (false, (rlF n tx 6 (p + 1) G 0).2.1, (rlF n tx 6 (p + 1) G 0).2.2))
      else (false, p, G)
theorem rp_ok {n : Nat} {tx : Nat → Int} : ∀ f p G, okG G → p ≤ n → (rpF n tx f p G).1 = true → okG (rpF n tx f p G).2.2
  | 0, _, _, _, _, h => by cases h
  | f + 1, p, G, hG, hp, h => by
    simp only [rpF] at h ⊢
    by_cases q1 : n ≤ p
    · rw [if_pos q1]
      exact hG
    · rw [if_neg q1] at h ⊢
      by_cases q2 : qW G < 8 ∧ sg n tx p = 47
      · rw [if_pos q2] at h ⊢
        have k := rw_ok (n := n) (tx := tx) 6 (p + 1) (begW G) 0 rfl (by omega) (okW_beg hG q2.1)
        by_cases q3 : 2 ≤ (rwF n tx 6 (p + 1) (begW G) 0).1
        · rw [if_pos q3] at h ⊢
          exact rp_ok f _ _ (okW_ok k.1 q3) k.2 h
        · rw [if_neg q3] at h
          cases h
      · rw [if_neg q2] at h ⊢
        by_cases q3 : qN G = 0 ∧ sg n tx p = 61
        · rw [if_pos q3] at h ⊢
          have k := rl_ok (n := n) (tx := tx) 6 (p + 1) G 0 rfl (by omega) hG q3.1
          by_cases q4 : 1 ≤ (rlF n tx 6 (p + 1) G 0).1
          · rw [if_pos q4] at h ⊢
            exact rp_ok f _ _ k.1 k.2 h
          · rw [if_neg q4] at h
            cases h
        · rw [if_neg q3] at h
          cases h
def szO (n : Nat) (tx : Nat → Int) (i : Nat) : Bool := decide (50 ≤ sg n tx i) && decide (sg n tx i ≤ 54)
theorem szO_t {n : Nat} {tx : Nat → Int} {i : Nat} : szO n tx i = true ↔ 50 ≤ sg n tx i ∧ sg n tx i ≤ 54 := by
  unfold szO
  rw [Bool.and_eq_true_iff, decide_eq_true_eq, decide_eq_true_eq]
def szN (n : Nat) (tx : Nat → Int) (i : Nat) : Nat := (sg n tx i - 48).toNat
def gdF (n : Nat) (tx : Nat → Int) : Bool × Nat × Gr := if sg n tx 0 = 71 then (if szO n tx 1 = true then (if szO n tx 2 = true then
    (if (rcF n tx (szN n tx 1 * szN n tx 2) 0 3 (newG (szN n tx 1) (szN n tx 2))).1 = true then rpF n tx 10 (rcF n tx (szN n tx 1 * szN n tx 2) 0 3 (newG (szN n tx 1) (szN n tx 2))).2.1 (rcF n tx (szN n tx 1 * szN n tx 2) 0 3 (newG (szN n tx 1) (szN n tx 2))).2.2
    else rcF n tx (szN n tx 1 * szN n tx 2) 0 3 (newG (szN n tx 1) (szN n tx 2)))
  else (false, 2, newG 3 3)) else (false, 1, newG 3 3)) else (false, 0, newG 3 3)
theorem rp_loop {d N n : Nat} {tx : Nat → Int} {Q : AQ} (hN : 8 ≤ N) : ∀ (r i p : Nat) (h : AH) (G : Gr) (l : Option AV), i + r = 10 → p ≤ n → isTx h n tx p → isSt h 2 G → okG G → (∀ h', isTx h' n tx (rpF n tx r p G).2.1 → isSt h' 2 (rpF n tx r p G).2.2 → fr h h' 1 6 → Q (.inl (some (vI (bI (rpF n tx r p G).1)))) h' N) → Run mi_X7_readParts (T (d + 4)) Q 2 [some (vR 1), some (vI i), l] [] h N 0 0 := by
  intro r
  induction r using Nat.strongRecOn with
  | ind r ih =>
  intro i p h G l hr hp hT hS hG hQ
  obtain ⟨f, t0, t1, hn, hf⟩ := id hT
  have hW8 := hG.2.2.2.2.1
  have hN6 := hG.2.2.2.2.2.2.2.1
  obtain ⟨rb, bb, s0⟩ := hS.e0
  refine R_iload_n rfl rfl ?_
  refine R_bipush rfl ?_
  refine R_icmpgt rfl ⟨by omega, by omega⟩ ⟨by decide, by decide⟩ (fun c5 => ?_) (fun c5 => ?_)
  · have hr0 : r = 0 := by omega
    subst hr0
    refine R_iconst rfl ?_
    exact R_ireturn rfl (fun _ => by omega) (Nat.zero_le _) (Nat.zero_le _) (hQ h hT hS fr.refl)
  · obtain ⟨r, rfl⟩ : ∃ r1, r = r1 + 1 := ⟨r - 1, by omega⟩
    refine R_aload_n rfl rfl ?_
    refine R_getfield rfl rfl (by omega) t0 rfl ?_
    refine R_aload_n rfl rfl ?_
    refine R_getfield rfl rfl (by omega) t0 rfl ?_
    refine R_icmplt rfl ⟨by omega, by omega⟩ ⟨by omega, by omega⟩ (fun c16 => ?_) (fun c16 => ?_)
    · refine R_iconst rfl ?_
      refine R_istore_n (lv' := [_, _, _]) rfl rfl ?_
      refine R_aload_n rfl rfl ?_
      refine R_getfield rfl rfl (by omega) t0 rfl ?_
      refine R_getfield rfl rfl (by omega) s0 rfl ?_
      refine R_bipush rfl ?_
      refine R_icmpge rfl ⟨by omega, by omega⟩ ⟨by decide, by decide⟩ (fun c32 => ?_) (fun c32 => ?_)
      · refine R_aload_n rfl rfl ?_
        refine R_getfield rfl rfl (by omega) t0 rfl ?_
        refine R_getfield rfl rfl (by omega) s0 rfl ?_
        refine R_ifne rfl ⟨by omega, by omega⟩ (fun c59 => ?_) (fun c59 => ?_)
        · have hq : rpF n tx (r + 1) p G = (false, p, G) := by
            simp only [rpF]
            rw [if_neg (by omega), if_neg (by omega), if_neg (by omega)]
          rw [hq] at hQ
          refine R_iload_n rfl rfl ?_
          refine R_ifne rfl ⟨by decide, by decide⟩ (fun c0 => absurd c0 (by decide)) (fun _ => ?_)
          refine R_iconst rfl ?_
          exact R_ireturn rfl (fun _ => by omega) (Nat.zero_le _) (Nat.zero_le _) (hQ h hT hS fr.refl)
        · refine R_aload_n rfl rfl ?_
          refine R_bipush rfl ?_
          refine R_vcall rfl rfl ⟨(by omega), _, t0⟩ ⟨Nat.le_of_ble_eq_true rfl, Nat.le_of_ble_eq_true rfl, Nat.zero_le _, Nat.zero_le _⟩ (goesPast_T hT hN hp ⟨by decide, by decide⟩ (fun hsg h1 hT1 g1 => aRes_i (rest := []) ?_) (fun hsg65 => aRes_i (rest := []) ?_))
          · have hS1 : isSt h1 2 G := isSt_fr hS (fun j h1 h2 => g1 j (by omega))
            obtain ⟨ff, t0b, -⟩ := id hT1
            refine R_ifeq rfl ⟨by decide, by decide⟩ (fun c0 => absurd c0 (by decide)) (fun _ => ?_)
            refine R_aload_n rfl rfl ?_
            refine R_vcall rfl rfl ⟨(by omega), _, t0b⟩ ⟨Nat.le_of_ble_eq_true rfl, Nat.le_of_ble_eq_true rfl, Nat.zero_le _, Nat.zero_le _⟩ (readLine_T hT1 hN (by omega) hS1 hG (by omega) (fun h2 hT2 hS2 g2 => aRes_i (rest := []) ?_))
            have hq : rpF n tx (r + 1) p G = (if 1 ≤ (rlF n tx 6 (p + 1) G 0).1 then rpF n tx r (rlF n tx 6 (p + 1) G 0).2.1 (rlF n tx 6 (p + 1) G 0).2.2 else (false, (rlF n tx 6 (p + 1) G 0).2.1, (rlF n tx 6 (p + 1) G 0).2.2)) := by
              simp only [rpF]
              rw [if_neg (by omega), if_neg (fun q => by have := q.2; omega), if_pos ⟨by omega, hsg⟩]
            rw [hq] at hQ
            have k := rl_ok (n := n) (tx := tx) 6 (p + 1) G 0 rfl (by omega) hG (by omega)
            generalize rlF n tx 6 (p + 1) G 0 = w at *
            have h01 := bI01 (decide (1 ≤ w.1))
            refine R_istore_n (lv' := [_, _, _]) rfl rfl ?_
            refine R_iload_n rfl rfl ?_
            refine R_ifne rfl ⟨by first | omega | decide, by first | omega | decide⟩ (fun c77 => ?_) (fun c77 => ?_)
            · have hw2 : 1 ≤ w.1 := of_decide_eq_true (bI_t rfl c77)
              rw [if_pos hw2] at hQ
              refine R_iinc (lv' := [_, _, _]) rfl rfl rfl ?_
              refine R_goto rfl ?_
              exact ih r (by omega) (i + 1) w.2.1 h2 w.2.2 _ (by omega) k.2 hT2 hS2 k.1 (fun h4 q1 q2 q3 => hQ h4 q1 q2 (fun j hj => (q3 j hj).trans ((g2 j (by omega)).trans (g1 j (by omega)))))
            · have hw2 : ¬ 1 ≤ w.1 := of_decide_eq_false (bI_f rfl (by omega))
              rw [if_neg hw2] at hQ
              refine R_iconst rfl ?_
              exact R_ireturn rfl (fun _ => by omega) (Nat.zero_le _) (Nat.zero_le _) (hQ h2 hT2 hS2 (fun j hj => (g2 j (by omega)).trans (g1 j (by omega))))
          · refine R_ifeq rfl ⟨by decide, by decide⟩ (fun _ => ?_) (fun c0 => absurd c0 (by decide))
            have hq : rpF n tx (r + 1) p G = (false, p, G) := by
              simp only [rpF]
              rw [if_neg (by omega), if_neg (by omega), if_neg (by omega)]
            rw [hq] at hQ
            refine R_iload_n rfl rfl ?_
            refine R_ifne rfl ⟨by decide, by decide⟩ (fun c0 => absurd c0 (by decide)) (fun _ => ?_)
            refine R_iconst rfl ?_
            exact R_ireturn rfl (fun _ => by omega) (Nat.zero_le _) (Nat.zero_le _) (hQ h hT hS fr.refl)
      · refine R_aload_n rfl rfl ?_
        refine R_bipush rfl ?_
        refine R_vcall rfl rfl ⟨(by omega), _, t0⟩ ⟨Nat.le_of_ble_eq_true rfl, Nat.le_of_ble_eq_true rfl, Nat.zero_le _, Nat.zero_le _⟩ (goesPast_T hT hN hp ⟨by decide, by decide⟩ (fun hsg h1 hT1 g1 => aRes_i (rest := []) ?_) (fun hsg38 => aRes_i (rest := []) ?_))
        · have hS1 : isSt h1 2 G := isSt_fr hS (fun j h1 h2 => g1 j (by omega))
          obtain ⟨ff, t0b, -⟩ := id hT1
          refine R_ifeq rfl ⟨by decide, by decide⟩ (fun c0 => absurd c0 (by decide)) (fun _ => ?_)
          refine R_aload_n rfl rfl ?_
          refine R_vcall rfl rfl ⟨(by omega), _, t0b⟩ ⟨Nat.le_of_ble_eq_true rfl, Nat.le_of_ble_eq_true rfl, Nat.zero_le _, Nat.zero_le _⟩ (readWord_T hT1 hN (by omega) hS1 hG (by omega) (fun h2 hT2 hS2 g2 => aRes_i (rest := []) ?_))
          have hq : rpF n tx (r + 1) p G = (if 2 ≤ (rwF n tx 6 (p + 1) (begW G) 0).1 then rpF n tx r (rwF n tx 6 (p + 1) (begW G) 0).2.1 (rwF n tx 6 (p + 1) (begW G) 0).2.2 else (false, (rwF n tx 6 (p + 1) (begW G) 0).2.1, (rwF n tx 6 (p + 1) (begW G) 0).2.2)) := by
            simp only [rpF]
            rw [if_neg (by omega), if_pos ⟨by omega, hsg⟩]
          rw [hq] at hQ
          have k := rw_ok (n := n) (tx := tx) 6 (p + 1) (begW G) 0 rfl (by omega) (okW_beg hG (by omega))
          generalize rwF n tx 6 (p + 1) (begW G) 0 = w at *
          have h01 := bI01 (decide (2 ≤ w.1))
          refine R_istore_n (lv' := [_, _, _]) rfl rfl ?_
          refine R_goto rfl ?_
          refine R_iload_n rfl rfl ?_
          refine R_ifne rfl ⟨by first | omega | decide, by first | omega | decide⟩ (fun c77 => ?_) (fun c77 => ?_)
          · have hw2 : 2 ≤ w.1 := of_decide_eq_true (bI_t rfl c77)
            rw [if_pos hw2] at hQ
            refine R_iinc (lv' := [_, _, _]) rfl rfl rfl ?_
            refine R_goto rfl ?_
            exact ih r (by omega) (i + 1) w.2.1 h2 w.2.2 _ (by omega) k.2 hT2 hS2 (okW_ok k.1 hw2) (fun h4 q1 q2 q3 => hQ h4 q1 q2 (fun j hj => (q3 j hj).trans ((g2 j (by omega)).trans (g1 j (by omega)))))
          · have hw2 : ¬ 2 ≤ w.1 := of_decide_eq_false (bI_f rfl (by omega))
            rw [if_neg hw2] at hQ
            refine R_iconst rfl ?_
            exact R_ireturn rfl (fun _ => by omega) (Nat.zero_le _) (Nat.zero_le _) (hQ h2 hT2 hS2 (fun j hj => (g2 j (by omega)).trans (g1 j (by omega))))
        · refine R_ifeq rfl ⟨by decide, by decide⟩ (fun _ => ?_) (fun c0 => absurd c0 (by decide))
          refine R_aload_n rfl rfl ?_
          refine R_getfield rfl rfl (by omega) t0 rfl ?_
          refine R_getfield rfl rfl (by omega) s0 rfl ?_
          refine R_ifne rfl ⟨by omega, by omega⟩ (fun c59 => ?_) (fun c59 => ?_)
          · have hq : rpF n tx (r + 1) p G = (false, p, G) := by
              simp only [rpF]
              rw [if_neg (by omega), if_neg (by omega), if_neg (by omega)]
            rw [hq] at hQ
            refine R_iload_n rfl rfl ?_
            refine R_ifne rfl ⟨by decide, by decide⟩ (fun c0 => absurd c0 (by decide)) (fun _ => ?_)
            refine R_iconst rfl ?_
            exact R_ireturn rfl (fun _ => by omega) (Nat.zero_le _) (Nat.zero_le _) (hQ h hT hS fr.refl)
          · refine R_aload_n rfl rfl ?_
            refine R_bipush rfl ?_
            refine R_vcall rfl rfl ⟨(by omega), _, t0⟩ ⟨Nat.le_of_ble_eq_true rfl, Nat.le_of_ble_eq_true rfl, Nat.zero_le _, Nat.zero_le _⟩ (goesPast_T hT hN hp ⟨by decide, by decide⟩ (fun hsg h1 hT1 g1 => aRes_i (rest := []) ?_) (fun hsg65 => aRes_i (rest := []) ?_))
            · have hS1 : isSt h1 2 G := isSt_fr hS (fun j h1 h2 => g1 j (by omega))
              obtain ⟨ff, t0b, -⟩ := id hT1
              refine R_ifeq rfl ⟨by decide, by decide⟩ (fun c0 => absurd c0 (by decide)) (fun _ => ?_)
              refine R_aload_n rfl rfl ?_
              refine R_vcall rfl rfl ⟨(by omega), _, t0b⟩ ⟨Nat.le_of_ble_eq_true rfl, Nat.le_of_ble_eq_true rfl, Nat.zero_le _, Nat.zero_le _⟩ (readLine_T hT1 hN (by omega) hS1 hG (by omega) (fun h2 hT2 hS2 g2 => aRes_i (rest := []) ?_))
              have hq : rpF n tx (r + 1) p G = (if 1 ≤ (rlF n tx 6 (p + 1) G 0).1 then rpF n tx r (rlF n tx 6 (p + 1) G 0).2.1 (rlF n tx 6 (p + 1) G 0).2.2 else (false, (rlF n tx 6 (p + 1) G 0).2.1, (rlF n tx 6 (p + 1) G 0).2.2)) := by
                simp only [rpF]
                rw [if_neg (by omega), if_neg (fun q => by have := q.2; omega), if_pos ⟨by omega, hsg⟩]
              rw [hq] at hQ
              have k := rl_ok (n := n) (tx := tx) 6 (p + 1) G 0 rfl (by omega) hG (by omega)
              generalize rlF n tx 6 (p + 1) G 0 = w at *
              have h01 := bI01 (decide (1 ≤ w.1))
              refine R_istore_n (lv' := [_, _, _]) rfl rfl ?_
              refine R_iload_n rfl rfl ?_
              refine R_ifne rfl ⟨by first | omega | decide, by first | omega | decide⟩ (fun c77 => ?_) (fun c77 => ?_)
              · have hw2 : 1 ≤ w.1 := of_decide_eq_true (bI_t rfl c77)
                rw [if_pos hw2] at hQ
                refine R_iinc (lv' := [_, _, _]) rfl rfl rfl ?_
                refine R_goto rfl ?_
                exact ih r (by omega) (i + 1) w.2.1 h2 w.2.2 _ (by omega) k.2 hT2 hS2 k.1 (fun h4 q1 q2 q3 => hQ h4 q1 q2 (fun j hj => (q3 j hj).trans ((g2 j (by omega)).trans (g1 j (by omega)))))
              · have hw2 : ¬ 1 ≤ w.1 := of_decide_eq_false (bI_f rfl (by omega))
                rw [if_neg hw2] at hQ
                refine R_iconst rfl ?_
                exact R_ireturn rfl (fun _ => by omega) (Nat.zero_le _) (Nat.zero_le _) (hQ h2 hT2 hS2 (fun j hj => (g2 j (by omega)).trans (g1 j (by omega))))
            · refine R_ifeq rfl ⟨by decide, by decide⟩ (fun _ => ?_) (fun c0 => absurd c0 (by decide))
              have hq : rpF n tx (r + 1) p G = (false, p, G) := by
                simp only [rpF]
                rw [if_neg (by omega), if_neg (by omega), if_neg (by omega)]
              rw [hq] at hQ
              refine R_iload_n rfl rfl ?_
              refine R_ifne rfl ⟨by decide, by decide⟩ (fun c0 => absurd c0 (by decide)) (fun _ => ?_)
              refine R_iconst rfl ?_
              exact R_ireturn rfl (fun _ => by omega) (Nat.zero_le _) (Nat.zero_le _) (hQ h hT hS fr.refl)
    · have hq : rpF n tx (r + 1) p G = (true, p, G) := by
        simp only [rpF]
        rw [if_pos (by omega)]
      rw [hq] at hQ
      refine R_iconst rfl ?_
      exact R_ireturn rfl (fun _ => by omega) (Nat.zero_le _) (Nat.zero_le _) (hQ h hT hS fr.refl)
theorem readParts_T {d N n p : Nat} {h : AH} {tx : Nat → Int} {Q : AQ} (hT : isTx h n tx p) (hN : 8 ≤ N) (hp : p ≤ n) {G : Gr} (hS : isSt h 2 G) (hG : okG G) (hQ : ∀ h', isTx h' n tx (rpF n tx 10 p G).2.1 → isSt h' 2 (rpF n tx 10 p G).2.2 → fr h h' 1 6 → Q (.inl (some (vI (bI (rpF n tx 10 p G).1)))) h' N) : T (d + 5) 87 [vR 1] h N Q := by
  refine T_body (I := mi_X7_readParts) (lv := [_, _, _]) rfl (Nat.le_of_ble_eq_true rfl) rfl ?_
  refine R_iconst rfl ?_
  refine R_istore_n (lv' := [_, _, _]) rfl rfl ?_
  exact rp_loop hN 10 0 p h G _ rfl hp hT hS hG hQ
theorem readSize_T {d N n p : Nat} {h : AH} {tx : Nat → Int} {Q : AQ} (hT : isTx h n tx p) (hN : 8 ≤ N) (hp : p ≤ n) {G0 : Gr} (hS : isSt h 2 G0) (hQ0 : szO n tx p = false → Q (.inl (some (vI 0))) h N) (hQ1 : szO n tx p = true → szO n tx (p + 1) = false → ∀ h', isTx h' n tx (p + 1) → fr h h' 1 1 → Q (.inl (some (vI 0))) h' N) (hQ2 : szO n tx p = true → szO n tx (p + 1) = true → ∀ h', isTx h' n tx (p + 2) → isSt h' 2 (newG (szN n tx p) (szN n tx (p + 1))) → fr h h' 1 6 → Q (.inl (some (vI 1))) h' N) : T (d + 3) 84 [vR 1] h N Q := by
  obtain ⟨f, t0, t1, hn, hf⟩ := id hT
  refine T_body (I := mi_X7_readSize) (lv := [_, _, _]) rfl (Nat.le_of_ble_eq_true rfl) rfl ?_
  refine R_aload_n rfl rfl ?_
  refine R_aload_n rfl rfl ?_
  refine R_getfield rfl rfl (by omega) t0 rfl ?_
  refine R_vcall rfl rfl ⟨(by omega), _, t0⟩ ⟨Nat.le_of_ble_eq_true rfl, Nat.le_of_ble_eq_true rfl, Nat.zero_le _, Nat.zero_le _⟩ (signAt_T (i := p) hT hN (by omega) (fun z5 hz5 => aRes_i (rest := []) ?_))
  have hr5 := sg_r hT (p)
  refine R_bipush rfl ?_
  refine R_isub rfl ?_
  refine R_istore_n (lv' := [_, _, _]) rfl rfl ?_
  refine R_iload_n rfl rfl ?_
  refine R_iconst rfl ?_
  refine R_icmplt rfl ⟨by omega, by omega⟩ ⟨by decide, by decide⟩ (fun c14 => ?_) (fun c14 => ?_)
  · refine R_iconst rfl ?_
    exact R_ireturn rfl (fun _ => by omega) (Nat.zero_le _) (Nat.zero_le _) (by first | exact hQ0 (Bool.eq_false_iff.mpr (fun q => by have := szO_t.mp q; omega)) | exact hQ1 (szO_t.mpr ⟨by omega, by omega⟩) (Bool.eq_false_iff.mpr (fun q => by have := szO_t.mp q; omega)) _ (isTx_pos (p + 1) hT) (fun j hj => va_up_ne _ _ (by omega)))
  · refine R_iload_n rfl rfl ?_
    refine R_bipush rfl ?_
    refine R_icmple rfl ⟨by omega, by omega⟩ ⟨by decide, by decide⟩ (fun c20 => ?_) (fun c20 => ?_)
    · refine R_aload_n rfl rfl ?_
      refine R_dup rfl rfl ?_
      refine R_getfield rfl rfl (by omega) t0 rfl ?_
      refine R_iconst rfl ?_
      refine R_iadd rfl ?_
      refine R_putfield rfl rfl (by omega) t0 (Nat.le_of_ble_eq_true rfl) (by first | trivial | exact trivial | omega) ?_
      refine R_aload_n rfl rfl ?_
      refine R_aload_n rfl rfl ?_
      refine R_getfield rfl rfl (by omega) (va_up_self _ _ _) rfl ?_
      refine R_vcall rfl rfl ⟨(by omega), _, (va_up_self _ _ _)⟩ ⟨Nat.le_of_ble_eq_true rfl, Nat.le_of_ble_eq_true rfl, Nat.zero_le _, Nat.zero_le _⟩ (signAt_T (i := p + 1) (isTx_pos (p + 1) hT) hN (by omega) (fun z40 hz40 => aRes_i (rest := []) ?_))
      have hr40 := sg_r hT (p + 1)
      refine R_bipush rfl ?_
      refine R_isub rfl ?_
      refine R_istore_n (lv' := [_, _, _]) rfl rfl ?_
      refine R_iload_n rfl rfl ?_
      refine R_iconst rfl ?_
      refine R_icmplt rfl ⟨by omega, by omega⟩ ⟨by decide, by decide⟩ (fun c49 => ?_) (fun c49 => ?_)
      · refine R_iconst rfl ?_
        exact R_ireturn rfl (fun _ => by omega) (Nat.zero_le _) (Nat.zero_le _) (by first | exact hQ0 (Bool.eq_false_iff.mpr (fun q => by have := szO_t.mp q; omega)) | exact hQ1 (szO_t.mpr ⟨by omega, by omega⟩) (Bool.eq_false_iff.mpr (fun q => by have := szO_t.mp q; omega)) _ (isTx_pos (p + 1) hT) (fun j hj => va_up_ne _ _ (by omega)))
      · refine R_iload_n rfl rfl ?_
        refine R_bipush rfl ?_
        refine R_icmple rfl ⟨by omega, by omega⟩ ⟨by decide, by decide⟩ (fun c55 => ?_) (fun c55 => ?_)
        · refine R_aload_n rfl rfl ?_
          refine R_dup rfl rfl ?_
          refine R_getfield rfl rfl (by omega) (va_up_self _ _ _) rfl ?_
          refine R_iconst rfl ?_
          refine R_iadd rfl ?_
          refine R_putfield rfl rfl (by omega) (va_up_self _ _ _) (Nat.le_of_ble_eq_true rfl) (by first | trivial | exact trivial | omega) ?_
          refine R_aload_n rfl rfl ?_
          refine R_getfield rfl rfl (by omega) (va_up_self _ _ _) rfl ?_
          refine R_iload_n rfl rfl ?_
          refine R_iload_n rfl rfl ?_
          rw [show z5 - 48 = ((szN n tx p : Nat) : Int) by unfold szN; omega, show z40 - 48 = ((szN n tx (p + 1) : Nat) : Int) by unfold szN; omega]
          refine R_vcall rfl rfl ⟨(by omega), (isSt_fr hS (fun j h1 h2 => (va_up_ne _ _ (by omega)).trans (va_up_ne _ _ (by omega)))).rcv⟩ ⟨Nat.le_of_ble_eq_true rfl, Nat.le_of_ble_eq_true rfl, Nat.zero_le _, Nat.zero_le _⟩ (begin_T (r := szN n tx p) (c0 := szN n tx (p + 1)) (isSt_fr hS (fun j h1 h2 => (va_up_ne _ _ (by omega)).trans (va_up_ne _ _ (by omega)))) (by omega) (by unfold szN; omega) (by unfold szN; omega) (fun h1 hS1 f1 => aRes_v (rest := []) ?_))
          refine R_iconst rfl ?_
          exact R_ireturn rfl (fun _ => by omega) (Nat.zero_le _) (Nat.zero_le _) (hQ2 (szO_t.mpr ⟨by omega, by omega⟩) (szO_t.mpr ⟨by omega, by omega⟩) h1 (isTx_fr (isTx_pos (p + 2) (isTx_pos (p + 1) hT)) (f1 1 (by omega)) (f1 7 (by omega))) hS1 (fun j hj => (f1 j (by omega)).trans ((va_up_ne _ _ (by omega)).trans (va_up_ne _ _ (by omega)))))
        · refine R_iconst rfl ?_
          exact R_ireturn rfl (fun _ => by omega) (Nat.zero_le _) (Nat.zero_le _) (by first | exact hQ0 (Bool.eq_false_iff.mpr (fun q => by have := szO_t.mp q; omega)) | exact hQ1 (szO_t.mpr ⟨by omega, by omega⟩) (Bool.eq_false_iff.mpr (fun q => by have := szO_t.mp q; omega)) _ (isTx_pos (p + 1) hT) (fun j hj => va_up_ne _ _ (by omega)))
    · refine R_iconst rfl ?_
      exact R_ireturn rfl (fun _ => by omega) (Nat.zero_le _) (Nat.zero_le _) (by first | exact hQ0 (Bool.eq_false_iff.mpr (fun q => by have := szO_t.mp q; omega)) | exact hQ1 (szO_t.mpr ⟨by omega, by omega⟩) (Bool.eq_false_iff.mpr (fun q => by have := szO_t.mp q; omega)) _ (isTx_pos (p + 1) hT) (fun j hj => va_up_ne _ _ (by omega)))
theorem readGrid_T {d N n p : Nat} {h : AH} {tx : Nat → Int} {Q : AQ} (hT : isTx h n tx p) (hN : 8 ≤ N) {G0 : Gr} (hS : isSt h 2 G0) (hQ : ∀ h' G' p', isTx h' n tx p' → isSt h' 2 G' → ((gdF n tx).1 = true → G' = (gdF n tx).2.2 ∧ okG G') → fr h h' 1 6 → Q (.inl (some (vI (if (gdF n tx).1 = true then -9 else ((gdF n tx).2.1 : Int))))) h' N) : T (d + 6) 82 [vR 1] h N Q := by
  obtain ⟨f, t0, t1, hn, hf⟩ := id hT
  refine T_body (I := mi_X7_readGrid) (lv := [_]) rfl (Nat.le_of_ble_eq_true rfl) rfl ?_
  refine R_aload_n rfl rfl ?_
  refine R_iconst rfl ?_
  refine R_putfield rfl rfl (by omega) t0 (Nat.le_of_ble_eq_true rfl) (by first | trivial | exact trivial | omega) ?_
  refine R_aload_n rfl rfl ?_
  refine R_bipush rfl ?_
  refine R_vcall rfl rfl ⟨(by omega), _, (va_up_self _ _ _)⟩ ⟨Nat.le_of_ble_eq_true rfl, Nat.le_of_ble_eq_true rfl, Nat.zero_le _, Nat.zero_le _⟩ (goesPast_T (isTx_pos 0 hT) hN (Nat.zero_le _) ⟨by decide, by decide⟩ (fun hsg h1 hT1 g1 => aRes_i (rest := []) ?_) (fun hsg => aRes_i (rest := []) ?_))
  · have hS1 : isSt h1 2 G0 := isSt_fr hS (fun j h1 h2 => (g1 j (by omega)).trans (va_up_ne _ _ (by omega)))
    obtain ⟨ff, t0b, -⟩ := id hT1
    have hn1 : 0 + 1 ≤ n := sg_lt (tx := tx) (i := 0) (by rw [hsg]; decide)
    have gd1 : gdF n tx = _ := if_pos hsg
    refine R_ifeq rfl ⟨by decide, by decide⟩ (fun c0 => absurd c0 (by decide)) (fun _ => ?_)
    refine R_aload_n rfl rfl ?_
    refine R_vcall rfl rfl ⟨(by omega), _, t0b⟩ ⟨Nat.le_of_ble_eq_true rfl, Nat.le_of_ble_eq_true rfl, Nat.zero_le _, Nat.zero_le _⟩ (readSize_T hT1 hN hn1 hS1 (fun z0 => aRes_i (rest := []) ?_) (fun z1 z2 h2 hT2 g2 => aRes_i (rest := []) ?_) (fun z1 z2 h2 hT2 hS2 g2 => aRes_i (rest := []) ?_))
    · have hq : gdF n tx = (false, 1, newG 3 3) := by
        rw [gd1, if_neg (by rw [z0]; decide)]
      rw [hq] at hQ
      have fin := hQ _ G0 1 hT1 hS1 (fun q => by cases q) (fun j hj => (g1 j (by omega)).trans (va_up_ne _ _ (by omega)))
      refine R_ifeq rfl ⟨by decide, by decide⟩ (fun _ => ?_) (fun c0 => absurd c0 (by decide))
      refine R_aload_n rfl rfl ?_
      refine R_getfield rfl rfl (by omega) t0b rfl ?_
      exact R_ireturn rfl (fun q => absurd q (by decide)) (Nat.zero_le _) (Nat.zero_le _) fin
    · have hq : gdF n tx = (false, 2, newG 3 3) := by
        rw [gd1, if_pos z1, if_neg (by rw [z2]; decide)]
      rw [hq] at hQ
      obtain ⟨fg, t0c, -⟩ := id hT2
      have hS2 : isSt h2 2 G0 := isSt_fr hS1 (fun j h1 h2 => g2 j (by omega))
      have fin := hQ _ G0 2 hT2 hS2 (fun q => by cases q) (fun j hj => (g2 j (by omega)).trans ((g1 j (by omega)).trans (va_up_ne _ _ (by omega))))
      refine R_ifeq rfl ⟨by decide, by decide⟩ (fun _ => ?_) (fun c0 => absurd c0 (by decide))
      refine R_aload_n rfl rfl ?_
      refine R_getfield rfl rfl (by omega) t0c rfl ?_
      exact R_ireturn rfl (fun q => absurd q (by decide)) (Nat.zero_le _) (Nat.zero_le _) fin
    · obtain ⟨fg, t0c, -⟩ := id hT2
      have hs1 := szO_t.mp z1
      have hs2 := szO_t.mp z2
      have hs1 : 50 ≤ sg n tx 1 ∧ sg n tx 1 ≤ 54 := hs1
      have hs2 : 50 ≤ sg n tx 2 ∧ sg n tx 2 ≤ 54 := hs2
      have okN : okG (newG (szN n tx 1) (szN n tx 2)) := ok_newG (by unfold szN; omega) (by unfold szN; omega)
      have hn3 : 3 ≤ n := sg_lt (tx := tx) (i := 2) (by omega)
      have hT2 : isTx h2 n tx 3 := hT2
      have hS2 : isSt h2 2 (newG (szN n tx 1) (szN n tx 2)) := hS2
      refine R_ifeq rfl ⟨by decide, by decide⟩ (fun c0 => absurd c0 (by decide)) (fun _ => ?_)
      refine R_aload_n rfl rfl ?_
      refine R_vcall rfl rfl ⟨(by omega), _, t0c⟩ ⟨Nat.le_of_ble_eq_true rfl, Nat.le_of_ble_eq_true rfl, Nat.zero_le _, Nat.zero_le _⟩ (readCells_T hT2 hN hn3 hS2 okN (fun h3 hT3 hS3 g3 => aRes_i (rest := []) ?_))
      have gd2 : gdF n tx = if (rcF n tx (szN n tx 1 * szN n tx 2) 0 3 (newG (szN n tx 1) (szN n tx 2))).1 = true then rpF n tx 10 (rcF n tx (szN n tx 1 * szN n tx 2) 0 3 (newG (szN n tx 1) (szN n tx 2))).2.1 (rcF n tx (szN n tx 1 * szN n tx 2) 0 3 (newG (szN n tx 1) (szN n tx 2))).2.2 else rcF n tx (szN n tx 1 * szN n tx 2) 0 3 (newG (szN n tx 1) (szN n tx 2)) := by
        rw [gd1, if_pos z1, if_pos z2]
      have k := rc_ok (n := n) (tx := tx) (szN n tx 1 * szN n tx 2) 0 3 (newG (szN n tx 1) (szN n tx 2)) okN hn3
      obtain ⟨w, hw⟩ : ∃ w, rcF n tx (szN n tx 1 * szN n tx 2) 0 3 (newG (szN n tx 1) (szN n tx 2)) = w := ⟨_, rfl⟩
      have hw' : rcF n tx (qM (newG (szN n tx 1) (szN n tx 2))) 0 3 (newG (szN n tx 1) (szN n tx 2)) = w := hw
      rw [hw'] at hT3 hS3 ⊢
      rw [hw] at gd2 k
      have h01 := bI01 w.1
      obtain ⟨fh, t0d, -⟩ := id hT3
      refine R_ifeq rfl ⟨by omega, by omega⟩ (fun c25 => ?_) (fun c25 => ?_)
      · have hwf := bI_f rfl (show bI w.1 = 0 by omega)
        rw [if_neg (by rw [hwf]; decide)] at gd2
        rw [gd2] at hQ
        have fin := hQ _ w.2.2 w.2.1 hT3 hS3 (fun q => absurd (hwf.symm.trans q) (by decide)) (fun j hj => (g3 j (by omega)).trans ((g2 j (by omega)).trans ((g1 j (by omega)).trans (va_up_ne _ _ (by omega)))))
        rw [if_neg (by rw [hwf]; decide)] at fin
        refine R_aload_n rfl rfl ?_
        refine R_getfield rfl rfl (by omega) t0d rfl ?_
        exact R_ireturn rfl (fun q => absurd q (by decide)) (Nat.zero_le _) (Nat.zero_le _) fin
      · have hwt := bI_t rfl c25
        rw [if_pos hwt] at gd2
        refine R_aload_n rfl rfl ?_
        refine R_vcall rfl rfl ⟨(by omega), _, t0d⟩ ⟨Nat.le_of_ble_eq_true rfl, Nat.le_of_ble_eq_true rfl, Nat.zero_le _, Nat.zero_le _⟩ (readParts_T hT3 hN k.2 hS3 k.1 (fun h4 hT4 hS4 g4 => aRes_i (rest := []) ?_))
        have k2 := rp_ok (n := n) (tx := tx) 10 w.2.1 w.2.2 k.1 k.2
        obtain ⟨w2, hw2⟩ : ∃ w2, rpF n tx 10 w.2.1 w.2.2 = w2 := ⟨_, rfl⟩
        rw [hw2] at gd2 k2 hT4 hS4 ⊢
        rw [gd2] at hQ
        have h01b := bI01 w2.1
        obtain ⟨fk, t0e, -⟩ := id hT4
        refine R_ifeq rfl ⟨by omega, by omega⟩ (fun c32 => ?_) (fun c32 => ?_)
        · have hwf := bI_f rfl (show bI w2.1 = 0 by omega)
          have fin := hQ _ w2.2.2 w2.2.1 hT4 hS4 (fun q => absurd (hwf.symm.trans q) (by decide)) (fun j hj => (g4 j (by omega)).trans ((g3 j (by omega)).trans ((g2 j (by omega)).trans ((g1 j (by omega)).trans (va_up_ne _ _ (by omega))))))
          rw [if_neg (by rw [hwf]; decide)] at fin
          refine R_aload_n rfl rfl ?_
          refine R_getfield rfl rfl (by omega) t0e rfl ?_
          exact R_ireturn rfl (fun q => absurd q (by decide)) (Nat.zero_le _) (Nat.zero_le _) fin
        · have hwt2 := bI_t rfl c32
          have fin := hQ _ w2.2.2 w2.2.1 hT4 hS4 (fun q => ⟨rfl, k2 q⟩) (fun j hj => (g4 j (by omega)).trans ((g3 j (by omega)).trans ((g2 j (by omega)).trans ((g1 j (by omega)).trans (va_up_ne _ _ (by omega))))))
          rw [if_pos hwt2] at fin
          refine R_bipush rfl ?_
          refine R_goto rfl ?_
          exact R_ireturn rfl (fun q => absurd q (by decide)) (Nat.zero_le _) (Nat.zero_le _) fin
  · have hq : gdF n tx = (false, 0, newG 3 3) := if_neg hsg
    rw [hq] at hQ
    have fin := hQ _ G0 0 (isTx_pos 0 hT) (isSt_fr hS (fun j h1 h2 => va_up_ne _ _ (by omega))) (fun q => by cases q) (fun j hj => va_up_ne _ _ (by omega))
    refine R_ifeq rfl ⟨by decide, by decide⟩ (fun _ => ?_) (fun c0 => absurd c0 (by decide))
    refine R_aload_n rfl rfl ?_
    refine R_getfield rfl rfl (by omega) (va_up_self _ _ _) rfl ?_
    exact R_ireturn rfl (fun q => absurd q (by decide)) (Nat.zero_le _) (Nat.zero_le _) fin
