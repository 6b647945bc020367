/-! ===== the model's face: actions ===== -/
theorem opUndo_c {G G2 : Gr} {l : List Gr} {r : (Nat → Option Gr) × Nat × (Nat → Int)} : opUndo (G, l ++ [G2], r) = (0, (l.length : Int), (G2, l, r)) := by
  simp [opUndo]
theorem cat_of {α : Type} (l : List α) (h : 0 < l.length) : ∃ m a, l = m ++ [a] := by
  refine ⟨l.dropLast, l.getLast (fun q => by rw [q] at h; exact Nat.lt_irrefl 0 h), ?_⟩
  exact (List.dropLast_concat_getLast _).symm
theorem isHi_pre {h : AH} {l : List Gr} {G : Gr} (hH : isHi h (l ++ [G])) : isHi h l := by
  obtain ⟨H, e0, h1, h2⟩ := hH
  rw [List.length_append] at h1
  exact ⟨H, e0, by omega, fun j G2 hj => h2 j G2 (by
    have hlt : j < l.length := by
      rcases Nat.lt_or_ge j l.length with q | q
      · exact q
      · rw [List.getElem?_eq_none q] at hj
        cases hj
    rw [List.getElem?_append_left hlt]
    exact hj)⟩
theorem mPut_T {d N : Nat} {h : AH} {th : Int} {Q : AQ} {G : Gr} {hist : List Gr} {sl : Nat → Option Gr} {n : Nat} {tx : Nat → Int} (hY : isMo h (G, hist, sl, n, tx) th) (hN : 139 ≤ N) {c l : Int} (hc : inR c) (hl : inR l) (hQ : moQ (opPut (G, hist, sl, n, tx) c l) h N Q) : T (d + 3) 177 [vR 122, vI c, vI l] h N Q := by
  obtain ⟨hM, hG, hT, hHi, hSv, hRw⟩ := id hY
  have hM : isMg h G th n hist.length := hM
  have hG : okG G := hG
  have hT : isMt h n tx := hT
  have hHi : isHi h hist := hHi
  have hSv : isSv h sl := hSv
  obtain ⟨F, D, L, A, W, C, hZ, m11, m12, m13, m14, m15, m16, hE, hA, hW, hC⟩ := id hM
  obtain ⟨S, m0, m3, hR⟩ := id hZ
  obtain ⟨hr0, hr1, rL, rE, rS, hr110, rWn, rWl, hr167, rNl⟩ := id hR
  have r0 : S (0 : Int).toNat = (qR G : Int) := hr0
  have r1 : S (1 : Int).toNat = (qC G : Int) := hr1
  have r110 : S (110 : Int).toNat = (qW G : Int) := hr110
  have r167 : S (167 : Int).toNat = (qN G : Int) := hr167
  obtain ⟨hm4, hm36⟩ := hG.m
  have hmi := qM_int G
  obtain ⟨⟨hr2, hr6⟩, ⟨hc2, hc6⟩, gL, gB, gW, gWn, gWl, gN, gNl⟩ := id hG
  have hn36 := nE36 hG
  obtain ⟨tf, m1, hn150, htf⟩ := id hT
  obtain ⟨hc1, hc2⟩ := hc
  obtain ⟨hl1, hl2⟩ := hl
  refine T_body (I := mi_X9_put) (lv := [_, _, _, _]) rfl (Nat.le_of_ble_eq_true rfl) rfl ?_
  refine R_aload_n rfl rfl ?_
  refine R_aload_n rfl rfl ?_
  refine R_iload_n rfl rfl ?_
  refine R_vcall rfl rfl ⟨(by omega), _, m0⟩ ⟨Nat.le_of_ble_eq_true rfl, Nat.le_of_ble_eq_true rfl, Nat.zero_le _, Nat.zero_le _⟩ (mIsCell_T hZ hG hN ⟨by omega, by omega⟩ (fun z3 hz3 => aRes_i (rest := [_]) ?_))
  refine R_ifne rfl ⟨by omega, by omega⟩ (fun c6 => ?_) (fun c6 => ?_)
  · refine R_iload_n rfl rfl ?_
    refine R_scall rfl rfl ⟨Nat.le_of_ble_eq_true rfl, Nat.le_of_ble_eq_true rfl, Nat.zero_le _, Nat.zero_le _⟩ (mIsWritable_T ⟨by omega, by omega⟩ (fun z14 hz14 => aRes_i (rest := [_]) ?_))
    have h01 := bI01 (decide (l = 0) || isLb l)
    rw [← hz14] at h01
    refine R_ifeq rfl ⟨by omega, by omega⟩ (fun c17 => ?_) (fun c17 => ?_)
    · have hnl : ¬ (l = 0 ∨ isLb l = true) := fun q => by
        have h9 := bI_f hz14 (by omega)
        rw [Bool.or_eq_false_iff] at h9
        rcases q with q | q
        · exact of_decide_eq_false h9.1 q
        · rw [h9.2] at q
          cases q
      have ho : opPut (G, hist, sl, n, tx) c l = (1 + 1, 0, (G, hist, sl, n, tx)) := (if_pos (show 0 ≤ c ∧ c < qM G by omega)).trans (if_neg hnl)
      refine R_iconst rfl ?_
      refine R_putfield rfl rfl (by omega) m0 (Nat.le_of_ble_eq_true rfl) (by first | trivial | exact trivial | omega) ?_
      have hM1 : isMg _ G 2 n hist.length := isMg_o (th' := 2) (tl' := n) (rm' := hist.length) hM
      refine R_aload_n rfl rfl ?_
      refine R_getfield rfl rfl (by omega) (va_up_self _ _ _) rfl ?_
      refine R_ifle rfl ⟨by decide, by decide⟩ (fun c0 => absurd c0 (by decide)) (fun _ => ?_)
      refine R_iconst rfl ?_
      exact R_ireturn rfl (fun q => absurd q (by decide)) (Nat.zero_le _) (Nat.zero_le _) (moQ_t hQ ho rfl (isMo_th hY) (fr_up fr.refl (by omega)))
    · have hl9 : l = 0 ∨ isLb l = true := by
        have h9 := bI_t hz14 (by omega)
        rw [Bool.or_eq_true] at h9
        rcases h9 with q | q
        · exact Or.inl (of_decide_eq_true q)
        · exact Or.inr q
      obtain ⟨x, rfl⟩ := Int.eq_ofNat_of_zero_le (show 0 ≤ c by omega)
      have hx : x < qM G := by omega
      have ho : opPut (G, hist, sl, n, tx) x l = (0, qL G x, (setL G x l, rem14 hist G, sl, n, tx)) := (if_pos (show 0 ≤ (x : Int) ∧ (x : Int) < qM G by omega)).trans (if_pos hl9)
      refine R_iconst rfl ?_
      refine R_goto rfl ?_
      refine R_putfield rfl rfl (by omega) m0 (Nat.le_of_ble_eq_true rfl) (by first | trivial | exact trivial | omega) ?_
      have hM1 : isMg _ G 0 n hist.length := isMg_o (th' := 0) (tl' := n) (rm' := hist.length) hM
      refine R_aload_n rfl rfl ?_
      refine R_getfield rfl rfl (by omega) (va_up_self _ _ _) rfl ?_
      refine R_ifle rfl ⟨by decide, by decide⟩ (fun _ => ?_) (fun c0 => absurd c0 (by decide))
      refine R_aload_n rfl rfl ?_
      refine R_vcall rfl rfl ⟨(by omega), _, (va_up_self _ _ _)⟩ ⟨Nat.le_of_ble_eq_true rfl, Nat.le_of_ble_eq_true rfl, Nat.zero_le _, Nat.zero_le _⟩ (mRemember_T hM1 hG hN (isHi_fr hHi (va_up_ne _ _ (by decide))) (fun h2 hM2 hH2 f2 => aRes_v (rest := []) ?_))
      obtain ⟨S2, n0, n3, hR2⟩ := hM2.z
      refine R_aload_n rfl rfl ?_
      refine R_getfield rfl rfl (by omega) n0 rfl ?_
      refine R_iconst rfl ?_
      refine R_iload_n rfl rfl ?_
      refine R_iadd rfl ?_
      refine R_iaload rfl (Or.inl (by omega)) n3 ⟨by omega, by omega, by omega⟩ ?_
      refine R_istore_n (lv' := [_, _, _, _]) rfl rfl ?_
      refine R_aload_n rfl rfl ?_
      refine R_getfield rfl rfl (by omega) n0 rfl ?_
      refine R_iconst rfl ?_
      refine R_iload_n rfl rfl ?_
      refine R_iadd rfl ?_
      refine R_iload_n rfl rfl ?_
      refine R_iastore rfl (by omega) n3 ⟨by omega, by omega, by omega⟩ ?_
      refine R_iload_n rfl rfl ?_
      exact R_ireturn rfl (fun q => absurd q (by decide)) (Nat.zero_le _) (Nat.zero_le _) (moQ_v hQ ho (isMo_g hY (isMg_S (G := G) (G' := setL G x l) ⟨rfl, rfl, rfl, rfl⟩ hM2 ⟨_, (va_up_ne _ _ (by decide)).trans n0, va_up_self _ _ _, by
    rw [show (2 + (x : Int)).toNat = 2 + x by omega]
    exact rw_let hR2 hm36 hx⟩ (fun j h1 h2 => va_up_ne _ _ (by omega))) (ok_setL hG (hl9.imp_right isLb_let)) (isHi_fr hH2 (va_up_ne _ _ (by decide))) (fun j hj => (va_up_ne _ _ (by omega)).trans ((f2 j (by omega)).trans (va_up_ne _ _ (by omega))))) (fun j hj => (va_up_ne _ _ (by omega)).trans ((f2 j (by omega)).trans (va_up_ne _ _ (by omega)))) (by
    rw [show (2 + (x : Int)).toNat = 2 + x by omega]
    exact hR2.2.2.1 x hx))
  · have ho : opPut (G, hist, sl, n, tx) c l = (0 + 1, 0, (G, hist, sl, n, tx)) := if_neg (show ¬ (0 ≤ c ∧ c < qM G) by omega)
    refine R_iconst rfl ?_
    refine R_goto rfl ?_
    refine R_putfield rfl rfl (by omega) m0 (Nat.le_of_ble_eq_true rfl) (by first | trivial | exact trivial | omega) ?_
    have hM1 : isMg _ G 1 n hist.length := isMg_o (th' := 1) (tl' := n) (rm' := hist.length) hM
    refine R_aload_n rfl rfl ?_
    refine R_getfield rfl rfl (by omega) (va_up_self _ _ _) rfl ?_
    refine R_ifle rfl ⟨by decide, by decide⟩ (fun c0 => absurd c0 (by decide)) (fun _ => ?_)
    refine R_iconst rfl ?_
    exact R_ireturn rfl (fun q => absurd q (by decide)) (Nat.zero_le _) (Nat.zero_le _) (moQ_t hQ ho rfl (isMo_th hY) (fr_up fr.refl (by omega)))
theorem mSetBar_false_false {d N : Nat} {h : AH} {th : Int} {Q : AQ} {G : Gr} {hist : List Gr} {sl : Nat → Option Gr} {n : Nat} {tx : Nat → Int} (hY : isMo h (G, hist, sl, n, tx) th) (hN : 139 ≤ N) {c : Int} (hc : inR c) (hQ : moQ (opSetBar (G, hist, sl, n, tx) c false false) h N Q) : T (d + 5) 180 [vR 122, vI c, vI (bI false), vI (bI false)] h N Q := by
  obtain ⟨hM, hG, hT, hHi, hSv, hRw⟩ := id hY
  have hM : isMg h G th n hist.length := hM
  have hG : okG G := hG
  have hT : isMt h n tx := hT
  have hHi : isHi h hist := hHi
  have hSv : isSv h sl := hSv
  obtain ⟨F, D, L, A, W, C, hZ, m11, m12, m13, m14, m15, m16, hE, hA, hW, hC⟩ := id hM
  obtain ⟨S, m0, m3, hR⟩ := id hZ
  obtain ⟨hr0, hr1, rL, rE, rS, hr110, rWn, rWl, hr167, rNl⟩ := id hR
  have r0 : S (0 : Int).toNat = (qR G : Int) := hr0
  have r1 : S (1 : Int).toNat = (qC G : Int) := hr1
  have r110 : S (110 : Int).toNat = (qW G : Int) := hr110
  have r167 : S (167 : Int).toNat = (qN G : Int) := hr167
  obtain ⟨hm4, hm36⟩ := hG.m
  have hmi := qM_int G
  obtain ⟨⟨hr2, hr6⟩, ⟨hc2, hc6⟩, gL, gB, gW, gWn, gWl, gN, gNl⟩ := id hG
  have hn36 := nE36 hG
  obtain ⟨tf, m1, hn150, htf⟩ := id hT
  obtain ⟨hc1, hc2⟩ := hc
  refine T_body (I := mi_X9_setBar) (lv := [_, _, _, _]) rfl (Nat.le_of_ble_eq_true rfl) rfl ?_
  refine R_aload_n rfl rfl ?_
  refine R_aload_n rfl rfl ?_
  refine R_iload_n rfl rfl ?_
  refine R_vcall rfl rfl ⟨(by omega), _, m0⟩ ⟨Nat.le_of_ble_eq_true rfl, Nat.le_of_ble_eq_true rfl, Nat.zero_le _, Nat.zero_le _⟩ (mIsCell_T hZ hG hN ⟨by omega, by omega⟩ (fun z3 hz3 => aRes_i (rest := [_]) ?_))
  refine R_ifne rfl ⟨by omega, by omega⟩ (fun c6 => ?_) (fun c6 => ?_)
  · obtain ⟨x, rfl⟩ := Int.eq_ofNat_of_zero_le (show 0 ≤ c by omega)
    have hx : x < qM G := by omega
    refine R_aload_n rfl rfl ?_
    refine R_iload_n rfl rfl ?_
    refine R_iload_n rfl rfl ?_
    refine R_vcall rfl rfl ⟨(by omega), _, m0⟩ ⟨Nat.le_of_ble_eq_true rfl, Nat.le_of_ble_eq_true rfl, Nat.zero_le _, Nat.zero_le _⟩ (mIsRim_T (b := false) hZ hG hN rfl hx (fun z16 hz16 => aRes_i (rest := [_]) ?_))
    have h01 := bI01 (!qPb G x false)
    rw [← hz16] at h01
    refine R_ifeq rfl ⟨by omega, by omega⟩ (fun c19 => ?_) (fun c19 => ?_)
    · have hp9 : qPb G x false = true := bI_nf hz16 (by omega)
      have ho : opSetBar (G, hist, sl, n, tx) x false false = (0, ((nE (setBr G x false false) : Nat) : Int), (setBr G x false false, rem14 hist G, sl, n, tx)) := (if_pos (show 0 ≤ (x : Int) ∧ (x : Int) < qM G by omega)).trans (if_pos hp9)
      refine R_iconst rfl ?_
      refine R_putfield rfl rfl (by omega) m0 (Nat.le_of_ble_eq_true rfl) (by first | trivial | exact trivial | omega) ?_
      have hM1 : isMg _ G 0 n hist.length := isMg_o (th' := 0) (tl' := n) (rm' := hist.length) hM
      refine R_aload_n rfl rfl ?_
      refine R_getfield rfl rfl (by omega) (va_up_self _ _ _) rfl ?_
      refine R_ifle rfl ⟨by decide, by decide⟩ (fun _ => ?_) (fun c0 => absurd c0 (by decide))
      refine R_aload_n rfl rfl ?_
      refine R_vcall rfl rfl ⟨(by omega), _, (va_up_self _ _ _)⟩ ⟨Nat.le_of_ble_eq_true rfl, Nat.le_of_ble_eq_true rfl, Nat.zero_le _, Nat.zero_le _⟩ (mRemember_T hM1 hG hN (isHi_fr hHi (va_up_ne _ _ (by decide))) (fun h2 hM2 hH2 f2 => aRes_v (rest := []) ?_))
      obtain ⟨S2, n0, n3, hR2⟩ := hM2.z
      refine R_aload_n rfl rfl ?_
      refine R_iload_n rfl rfl ?_
      refine R_iload_n rfl rfl ?_
      refine R_iload_n rfl rfl ?_
      refine R_ifeq rfl ⟨by decide, by decide⟩ (fun _ => ?_) (fun c0 => absurd c0 (by decide))
      refine R_iconst rfl ?_
      refine R_vcall rfl rfl ⟨(by omega), _, n0⟩ ⟨Nat.le_of_ble_eq_true rfl, Nat.le_of_ble_eq_true rfl, Nat.zero_le _, Nat.zero_le _⟩ (mBar_T (b := false) (v := false) (c := x) hM2.a hG hN rfl hp9 (fun h3 hM3 f3 => aRes_v (rest := []) ?_))
      obtain ⟨S3, k0, k3, hR3⟩ := hM3.z
      refine R_aload_n rfl rfl ?_
      refine R_getfield rfl rfl (by omega) k0 rfl ?_
      exact R_ireturn rfl (fun q => absurd q (by decide)) (Nat.zero_le _) (Nat.zero_le _) (moQ_v hQ ho (isMo_g hY hM3 (ok_setBr hG (qPb_iff.mp hp9)) (isHi_fr hH2 (f3 _ (by omega))) (fun j hj => (f3 j (by omega)).trans ((f2 j (by omega)).trans (va_up_ne _ _ (by omega))))) (fun j hj => (f3 j (by omega)).trans ((f2 j (by omega)).trans (va_up_ne _ _ (by omega)))) rfl)
    · have hp9 : qPb G x false = false := bI_nt hz16 (by omega)
      have ho : opSetBar (G, hist, sl, n, tx) x false false = (1 + 1, 0, (G, hist, sl, n, tx)) := (if_pos (show 0 ≤ (x : Int) ∧ (x : Int) < qM G by omega)).trans (if_neg (fun q => by have q : qPb G x false = true := q; rw [hp9] at q; cases q))
      refine R_iconst rfl ?_
      refine R_goto rfl ?_
      refine R_putfield rfl rfl (by omega) m0 (Nat.le_of_ble_eq_true rfl) (by first | trivial | exact trivial | omega) ?_
      have hM1 : isMg _ G 2 n hist.length := isMg_o (th' := 2) (tl' := n) (rm' := hist.length) hM
      refine R_aload_n rfl rfl ?_
      refine R_getfield rfl rfl (by omega) (va_up_self _ _ _) rfl ?_
      refine R_ifle rfl ⟨by decide, by decide⟩ (fun c0 => absurd c0 (by decide)) (fun _ => ?_)
      refine R_iconst rfl ?_
      exact R_ireturn rfl (fun q => absurd q (by decide)) (Nat.zero_le _) (Nat.zero_le _) (moQ_t hQ ho rfl (isMo_th hY) (fr_up fr.refl (by omega)))
  · have ho : opSetBar (G, hist, sl, n, tx) c false false = (0 + 1, 0, (G, hist, sl, n, tx)) := if_neg (show ¬ (0 ≤ c ∧ c < qM G) by omega)
    refine R_iconst rfl ?_
    refine R_goto rfl ?_
    refine R_putfield rfl rfl (by omega) m0 (Nat.le_of_ble_eq_true rfl) (by first | trivial | exact trivial | omega) ?_
    have hM1 : isMg _ G 1 n hist.length := isMg_o (th' := 1) (tl' := n) (rm' := hist.length) hM
    refine R_aload_n rfl rfl ?_
    refine R_getfield rfl rfl (by omega) (va_up_self _ _ _) rfl ?_
    refine R_ifle rfl ⟨by decide, by decide⟩ (fun c0 => absurd c0 (by decide)) (fun _ => ?_)
    refine R_iconst rfl ?_
    exact R_ireturn rfl (fun q => absurd q (by decide)) (Nat.zero_le _) (Nat.zero_le _) (moQ_t hQ ho rfl (isMo_th hY) (fr_up fr.refl (by omega)))
theorem mSetBar_false_true {d N : Nat} {h : AH} {th : Int} {Q : AQ} {G : Gr} {hist : List Gr} {sl : Nat → Option Gr} {n : Nat} {tx : Nat → Int} (hY : isMo h (G, hist, sl, n, tx) th) (hN : 139 ≤ N) {c : Int} (hc : inR c) (hQ : moQ (opSetBar (G, hist, sl, n, tx) c false true) h N Q) : T (d + 5) 180 [vR 122, vI c, vI (bI false), vI (bI true)] h N Q := by
  obtain ⟨hM, hG, hT, hHi, hSv, hRw⟩ := id hY
  have hM : isMg h G th n hist.length := hM
  have hG : okG G := hG
  have hT : isMt h n tx := hT
  have hHi : isHi h hist := hHi
  have hSv : isSv h sl := hSv
  obtain ⟨F, D, L, A, W, C, hZ, m11, m12, m13, m14, m15, m16, hE, hA, hW, hC⟩ := id hM
  obtain ⟨S, m0, m3, hR⟩ := id hZ
  obtain ⟨hr0, hr1, rL, rE, rS, hr110, rWn, rWl, hr167, rNl⟩ := id hR
  have r0 : S (0 : Int).toNat = (qR G : Int) := hr0
  have r1 : S (1 : Int).toNat = (qC G : Int) := hr1
  have r110 : S (110 : Int).toNat = (qW G : Int) := hr110
  have r167 : S (167 : Int).toNat = (qN G : Int) := hr167
  obtain ⟨hm4, hm36⟩ := hG.m
  have hmi := qM_int G
  obtain ⟨⟨hr2, hr6⟩, ⟨hc2, hc6⟩, gL, gB, gW, gWn, gWl, gN, gNl⟩ := id hG
  have hn36 := nE36 hG
  obtain ⟨tf, m1, hn150, htf⟩ := id hT
  obtain ⟨hc1, hc2⟩ := hc
  refine T_body (I := mi_X9_setBar) (lv := [_, _, _, _]) rfl (Nat.le_of_ble_eq_true rfl) rfl ?_
  refine R_aload_n rfl rfl ?_
  refine R_aload_n rfl rfl ?_
  refine R_iload_n rfl rfl ?_
  refine R_vcall rfl rfl ⟨(by omega), _, m0⟩ ⟨Nat.le_of_ble_eq_true rfl, Nat.le_of_ble_eq_true rfl, Nat.zero_le _, Nat.zero_le _⟩ (mIsCell_T hZ hG hN ⟨by omega, by omega⟩ (fun z3 hz3 => aRes_i (rest := [_]) ?_))
  refine R_ifne rfl ⟨by omega, by omega⟩ (fun c6 => ?_) (fun c6 => ?_)
  · obtain ⟨x, rfl⟩ := Int.eq_ofNat_of_zero_le (show 0 ≤ c by omega)
    have hx : x < qM G := by omega
    refine R_aload_n rfl rfl ?_
    refine R_iload_n rfl rfl ?_
    refine R_iload_n rfl rfl ?_
    refine R_vcall rfl rfl ⟨(by omega), _, m0⟩ ⟨Nat.le_of_ble_eq_true rfl, Nat.le_of_ble_eq_true rfl, Nat.zero_le _, Nat.zero_le _⟩ (mIsRim_T (b := false) hZ hG hN rfl hx (fun z16 hz16 => aRes_i (rest := [_]) ?_))
    have h01 := bI01 (!qPb G x false)
    rw [← hz16] at h01
    refine R_ifeq rfl ⟨by omega, by omega⟩ (fun c19 => ?_) (fun c19 => ?_)
    · have hp9 : qPb G x false = true := bI_nf hz16 (by omega)
      have ho : opSetBar (G, hist, sl, n, tx) x false true = (0, ((nE (setBr G x false true) : Nat) : Int), (setBr G x false true, rem14 hist G, sl, n, tx)) := (if_pos (show 0 ≤ (x : Int) ∧ (x : Int) < qM G by omega)).trans (if_pos hp9)
      refine R_iconst rfl ?_
      refine R_putfield rfl rfl (by omega) m0 (Nat.le_of_ble_eq_true rfl) (by first | trivial | exact trivial | omega) ?_
      have hM1 : isMg _ G 0 n hist.length := isMg_o (th' := 0) (tl' := n) (rm' := hist.length) hM
      refine R_aload_n rfl rfl ?_
      refine R_getfield rfl rfl (by omega) (va_up_self _ _ _) rfl ?_
      refine R_ifle rfl ⟨by decide, by decide⟩ (fun _ => ?_) (fun c0 => absurd c0 (by decide))
      refine R_aload_n rfl rfl ?_
      refine R_vcall rfl rfl ⟨(by omega), _, (va_up_self _ _ _)⟩ ⟨Nat.le_of_ble_eq_true rfl, Nat.le_of_ble_eq_true rfl, Nat.zero_le _, Nat.zero_le _⟩ (mRemember_T hM1 hG hN (isHi_fr hHi (va_up_ne _ _ (by decide))) (fun h2 hM2 hH2 f2 => aRes_v (rest := []) ?_))
      obtain ⟨S2, n0, n3, hR2⟩ := hM2.z
      refine R_aload_n rfl rfl ?_
      refine R_iload_n rfl rfl ?_
      refine R_iload_n rfl rfl ?_
      refine R_iload_n rfl rfl ?_
      refine R_ifeq rfl ⟨by decide, by decide⟩ (fun c0 => absurd c0 (by decide)) (fun _ => ?_)
      refine R_iconst rfl ?_
      refine R_goto rfl ?_
      refine R_vcall rfl rfl ⟨(by omega), _, n0⟩ ⟨Nat.le_of_ble_eq_true rfl, Nat.le_of_ble_eq_true rfl, Nat.zero_le _, Nat.zero_le _⟩ (mBar_T (b := false) (v := true) (c := x) hM2.a hG hN rfl hp9 (fun h3 hM3 f3 => aRes_v (rest := []) ?_))
      obtain ⟨S3, k0, k3, hR3⟩ := hM3.z
      refine R_aload_n rfl rfl ?_
      refine R_getfield rfl rfl (by omega) k0 rfl ?_
      exact R_ireturn rfl (fun q => absurd q (by decide)) (Nat.zero_le _) (Nat.zero_le _) (moQ_v hQ ho (isMo_g hY hM3 (ok_setBr hG (qPb_iff.mp hp9)) (isHi_fr hH2 (f3 _ (by omega))) (fun j hj => (f3 j (by omega)).trans ((f2 j (by omega)).trans (va_up_ne _ _ (by omega))))) (fun j hj => (f3 j (by omega)).trans ((f2 j (by omega)).trans (va_up_ne _ _ (by omega)))) rfl)
    · have hp9 : qPb G x false = false := bI_nt hz16 (by omega)
      have ho : opSetBar (G, hist, sl, n, tx) x false true = (1 + 1, 0, (G, hist, sl, n, tx)) := (if_pos (show 0 ≤ (x : Int) ∧ (x : Int) < qM G by omega)).trans (if_neg (fun q => by have q : qPb G x false = true := q; rw [hp9] at q; cases q))
      refine R_iconst rfl ?_
      refine R_goto rfl ?_
      refine R_putfield rfl rfl (by omega) m0 (Nat.le_of_ble_eq_true rfl) (by first | trivial | exact trivial | omega) ?_
      have hM1 : isMg _ G 2 n hist.length := isMg_o (th' := 2) (tl' := n) (rm' := hist.length) hM
      refine R_aload_n rfl rfl ?_
      refine R_getfield rfl rfl (by omega) (va_up_self _ _ _) rfl ?_
      refine R_ifle rfl ⟨by decide, by decide⟩ (fun c0 => absurd c0 (by decide)) (fun _ => ?_)
      refine R_iconst rfl ?_
      exact R_ireturn rfl (fun q => absurd q (by decide)) (Nat.zero_le _) (Nat.zero_le _) (moQ_t hQ ho rfl (isMo_th hY) (fr_up fr.refl (by omega)))
  · have ho : opSetBar (G, hist, sl, n, tx) c false true = (0 + 1, 0, (G, hist, sl, n, tx)) := if_neg (show ¬ (0 ≤ c ∧ c < qM G) by omega)
    refine R_iconst rfl ?_
    refine R_goto rfl ?_
    refine R_putfield rfl rfl (by omega) m0 (Nat.le_of_ble_eq_true rfl) (by first | trivial | exact trivial | omega) ?_
    have hM1 : isMg _ G 1 n hist.length := isMg_o (th' := 1) (tl' := n) (rm' := hist.length) hM
    refine R_aload_n rfl rfl ?_
    refine R_getfield rfl rfl (by omega) (va_up_self _ _ _) rfl ?_
    refine R_ifle rfl ⟨by decide, by decide⟩ (fun c0 => absurd c0 (by decide)) (fun _ => ?_)
    refine R_iconst rfl ?_
    exact R_ireturn rfl (fun q => absurd q (by decide)) (Nat.zero_le _) (Nat.zero_le _) (moQ_t hQ ho rfl (isMo_th hY) (fr_up fr.refl (by omega)))
theorem mSetBar_true_false {d N : Nat} {h : AH} {th : Int} {Q : AQ} {G : Gr} {hist : List Gr} {sl : Nat → Option Gr} {n : Nat} {tx : Nat → Int} (hY : isMo h (G, hist, sl, n, tx) th) (hN : 139 ≤ N) {c : Int} (hc : inR c) (hQ : moQ (opSetBar (G, hist, sl, n, tx) c true false) h N Q) : T (d + 5) 180 [vR 122, vI c, vI (bI true), vI (bI false)] h N Q := by
  obtain ⟨hM, hG, hT, hHi, hSv, hRw⟩ := id hY
  have hM : isMg h G th n hist.length := hM
  have hG : okG G := hG
  have hT : isMt h n tx := hT
  have hHi : isHi h hist := hHi
  have hSv : isSv h sl := hSv
  obtain ⟨F, D, L, A, W, C, hZ, m11, m12, m13, m14, m15, m16, hE, hA, hW, hC⟩ := id hM
  obtain ⟨S, m0, m3, hR⟩ := id hZ
  obtain ⟨hr0, hr1, rL, rE, rS, hr110, rWn, rWl, hr167, rNl⟩ := id hR
  have r0 : S (0 : Int).toNat = (qR G : Int) := hr0
  have r1 : S (1 : Int).toNat = (qC G : Int) := hr1
  have r110 : S (110 : Int).toNat = (qW G : Int) := hr110
  have r167 : S (167 : Int).toNat = (qN G : Int) := hr167
  obtain ⟨hm4, hm36⟩ := hG.m
  have hmi := qM_int G
  obtain ⟨⟨hr2, hr6⟩, ⟨hc2, hc6⟩, gL, gB, gW, gWn, gWl, gN, gNl⟩ := id hG
  have hn36 := nE36 hG
  obtain ⟨tf, m1, hn150, htf⟩ := id hT
  obtain ⟨hc1, hc2⟩ := hc
  refine T_body (I := mi_X9_setBar) (lv := [_, _, _, _]) rfl (Nat.le_of_ble_eq_true rfl) rfl ?_
  refine R_aload_n rfl rfl ?_
  refine R_aload_n rfl rfl ?_
  refine R_iload_n rfl rfl ?_
  refine R_vcall rfl rfl ⟨(by omega), _, m0⟩ ⟨Nat.le_of_ble_eq_true rfl, Nat.le_of_ble_eq_true rfl, Nat.zero_le _, Nat.zero_le _⟩ (mIsCell_T hZ hG hN ⟨by omega, by omega⟩ (fun z3 hz3 => aRes_i (rest := [_]) ?_))
  refine R_ifne rfl ⟨by omega, by omega⟩ (fun c6 => ?_) (fun c6 => ?_)
  · obtain ⟨x, rfl⟩ := Int.eq_ofNat_of_zero_le (show 0 ≤ c by omega)
    have hx : x < qM G := by omega
    refine R_aload_n rfl rfl ?_
    refine R_iload_n rfl rfl ?_
    refine R_iload_n rfl rfl ?_
    refine R_vcall rfl rfl ⟨(by omega), _, m0⟩ ⟨Nat.le_of_ble_eq_true rfl, Nat.le_of_ble_eq_true rfl, Nat.zero_le _, Nat.zero_le _⟩ (mIsRim_T (b := true) hZ hG hN rfl hx (fun z16 hz16 => aRes_i (rest := [_]) ?_))
    have h01 := bI01 (!qPb G x true)
    rw [← hz16] at h01
    refine R_ifeq rfl ⟨by omega, by omega⟩ (fun c19 => ?_) (fun c19 => ?_)
    · have hp9 : qPb G x true = true := bI_nf hz16 (by omega)
      have ho : opSetBar (G, hist, sl, n, tx) x true false = (0, ((nE (setBr G x true false) : Nat) : Int), (setBr G x true false, rem14 hist G, sl, n, tx)) := (if_pos (show 0 ≤ (x : Int) ∧ (x : Int) < qM G by omega)).trans (if_pos hp9)
      refine R_iconst rfl ?_
      refine R_putfield rfl rfl (by omega) m0 (Nat.le_of_ble_eq_true rfl) (by first | trivial | exact trivial | omega) ?_
      have hM1 : isMg _ G 0 n hist.length := isMg_o (th' := 0) (tl' := n) (rm' := hist.length) hM
      refine R_aload_n rfl rfl ?_
      refine R_getfield rfl rfl (by omega) (va_up_self _ _ _) rfl ?_
      refine R_ifle rfl ⟨by decide, by decide⟩ (fun _ => ?_) (fun c0 => absurd c0 (by decide))
      refine R_aload_n rfl rfl ?_
      refine R_vcall rfl rfl ⟨(by omega), _, (va_up_self _ _ _)⟩ ⟨Nat.le_of_ble_eq_true rfl, Nat.le_of_ble_eq_true rfl, Nat.zero_le _, Nat.zero_le _⟩ (mRemember_T hM1 hG hN (isHi_fr hHi (va_up_ne _ _ (by decide))) (fun h2 hM2 hH2 f2 => aRes_v (rest := []) ?_))
      obtain ⟨S2, n0, n3, hR2⟩ := hM2.z
      refine R_aload_n rfl rfl ?_
      refine R_iload_n rfl rfl ?_
      refine R_iload_n rfl rfl ?_
      refine R_iload_n rfl rfl ?_
      refine R_ifeq rfl ⟨by decide, by decide⟩ (fun _ => ?_) (fun c0 => absurd c0 (by decide))
      refine R_iconst rfl ?_
      refine R_vcall rfl rfl ⟨(by omega), _, n0⟩ ⟨Nat.le_of_ble_eq_true rfl, Nat.le_of_ble_eq_true rfl, Nat.zero_le _, Nat.zero_le _⟩ (mBar_T (b := true) (v := false) (c := x) hM2.a hG hN rfl hp9 (fun h3 hM3 f3 => aRes_v (rest := []) ?_))
      obtain ⟨S3, k0, k3, hR3⟩ := hM3.z
      refine R_aload_n rfl rfl ?_
      refine R_getfield rfl rfl (by omega) k0 rfl ?_
      exact R_ireturn rfl (fun q => absurd q (by decide)) (Nat.zero_le _) (Nat.zero_le _) (moQ_v hQ ho (isMo_g hY hM3 (ok_setBr hG (qPb_iff.mp hp9)) (isHi_fr hH2 (f3 _ (by omega))) (fun j hj => (f3 j (by omega)).trans ((f2 j (by omega)).trans (va_up_ne _ _ (by omega))))) (fun j hj => (f3 j (by omega)).trans ((f2 j (by omega)).trans (va_up_ne _ _ (by omega)))) rfl)
    · have hp9 : qPb G x true = false := bI_nt hz16 (by omega)
      have ho : opSetBar (G, hist, sl, n, tx) x true false = (1 + 1, 0, (G, hist, sl, n, tx)) := (if_pos (show 0 ≤ (x : Int) ∧ (x : Int) < qM G by omega)).trans (if_neg (fun q => by have q : qPb G x true = true := q; rw [hp9] at q; cases q))
      refine R_iconst rfl ?_
      refine R_goto rfl ?_
      refine R_putfield rfl rfl (by omega) m0 (Nat.le_of_ble_eq_true rfl) (by first | trivial | exact trivial | omega) ?_
      have hM1 : isMg _ G 2 n hist.length := isMg_o (th' := 2) (tl' := n) (rm' := hist.length) hM
      refine R_aload_n rfl rfl ?_
      refine R_getfield rfl rfl (by omega) (va_up_self _ _ _) rfl ?_
      refine R_ifle rfl ⟨by decide, by decide⟩ (fun c0 => absurd c0 (by decide)) (fun _ => ?_)
      refine R_iconst rfl ?_
      exact R_ireturn rfl (fun q => absurd q (by decide)) (Nat.zero_le _) (Nat.zero_le _) (moQ_t hQ ho rfl (isMo_th hY) (fr_up fr.refl (by omega)))
  · have ho : opSetBar (G, hist, sl, n, tx) c true false = (0 + 1, 0, (G, hist, sl, n, tx)) := if_neg (show ¬ (0 ≤ c ∧ c < qM G) by omega)
    refine R_iconst rfl ?_
    refine R_goto rfl ?_
    refine R_putfield rfl rfl (by omega) m0 (Nat.le_of_ble_eq_true rfl) (by first | trivial | exact trivial | omega) ?_
    have hM1 : isMg _ G 1 n hist.length := isMg_o (th' := 1) (tl' := n) (rm' := hist.length) hM
    refine R_aload_n rfl rfl ?_
    refine R_getfield rfl rfl (by omega) (va_up_self _ _ _) rfl ?_
    refine R_ifle rfl ⟨by decide, by decide⟩ (fun c0 => absurd c0 (by decide)) (fun _ => ?_)
    refine R_iconst rfl ?_
    exact R_ireturn rfl (fun q => absurd q (by decide)) (Nat.zero_le _) (Nat.zero_le _) (moQ_t hQ ho rfl (isMo_th hY) (fr_up fr.refl (by omega)))
theorem mSetBar_true_true {d N : Nat} {h : AH} {th : Int} {Q : AQ} {G : Gr} {hist : List Gr} {sl : Nat → Option Gr} {n : Nat} {tx : Nat → Int} (hY : isMo h (G, hist, sl, n, tx) th) (hN : 139 ≤ N) {c : Int} (hc : inR c) (hQ : moQ (opSetBar (G, hist, sl, n, tx) c true true) h N Q) : T (d + 5) 180 [vR 122, vI c, vI (bI true), vI (bI true)] h N Q := by
  obtain ⟨hM, hG, hT, hHi, hSv, hRw⟩ := id hY
  have hM : isMg h G th n hist.length := hM
  have hG : okG G := hG
  have hT : isMt h n tx := hT
  have hHi : isHi h hist := hHi
  have hSv : isSv h sl := hSv
  obtain ⟨F, D, L, A, W, C, hZ, m11, m12, m13, m14, m15, m16, hE, hA, hW, hC⟩ := id hM
  obtain ⟨S, m0, m3, hR⟩ := id hZ
  obtain ⟨hr0, hr1, rL, rE, rS, hr110, rWn, rWl, hr167, rNl⟩ := id hR
  have r0 : S (0 : Int).toNat = (qR G : Int) := hr0
  have r1 : S (1 : Int).toNat = (qC G : Int) := hr1
  have r110 : S (110 : Int).toNat = (qW G : Int) := hr110
  have r167 : S (167 : Int).toNat = (qN G : Int) := hr167
  obtain ⟨hm4, hm36⟩ := hG.m
  have hmi := qM_int G
  obtain ⟨⟨hr2, hr6⟩, ⟨hc2, hc6⟩, gL, gB, gW, gWn, gWl, gN, gNl⟩ := id hG
  have hn36 := nE36 hG
  obtain ⟨tf, m1, hn150, htf⟩ := id hT
  obtain ⟨hc1, hc2⟩ := hc
  refine T_body (I := mi_X9_setBar) (lv := [_, _, _, _]) rfl (Nat.le_of_ble_eq_true rfl) rfl ?_
  refine R_aload_n rfl rfl ?_
  refine R_aload_n rfl rfl ?_
  refine R_iload_n rfl rfl ?_
  refine R_vcall rfl rfl ⟨(by omega), _, m0⟩ ⟨Nat.le_of_ble_eq_true rfl, Nat.le_of_ble_eq_true rfl, Nat.zero_le _, Nat.zero_le _⟩ (mIsCell_T hZ hG hN ⟨by omega, by omega⟩ (fun z3 hz3 => aRes_i (rest := [_]) ?_))
  refine R_ifne rfl ⟨by omega, by omega⟩ (fun c6 => ?_) (fun c6 => ?_)
  · obtain ⟨x, rfl⟩ := Int.eq_ofNat_of_zero_le (show 0 ≤ c by omega)
    have hx : x < qM G := by omega
    refine R_aload_n rfl rfl ?_
    refine R_iload_n rfl rfl ?_
    refine R_iload_n rfl rfl ?_
    refine R_vcall rfl rfl ⟨(by omega), _, m0⟩ ⟨Nat.le_of_ble_eq_true rfl, Nat.le_of_ble_eq_true rfl, Nat.zero_le _, Nat.zero_le _⟩ (mIsRim_T (b := true) hZ hG hN rfl hx (fun z16 hz16 => aRes_i (rest := [_]) ?_))
    have h01 := bI01 (!qPb G x true)
    rw [← hz16] at h01
    refine R_ifeq rfl ⟨by omega, by omega⟩ (fun c19 => ?_) (fun c19 => ?_)
    · have hp9 : qPb G x true = true := bI_nf hz16 (by omega)
      have ho : opSetBar (G, hist, sl, n, tx) x true true = (0, ((nE (setBr G x true true) : Nat) : Int), (setBr G x true true, rem14 hist G, sl, n, tx)) := (if_pos (show 0 ≤ (x : Int) ∧ (x : Int) < qM G by omega)).trans (if_pos hp9)
      refine R_iconst rfl ?_
      refine R_putfield rfl rfl (by omega) m0 (Nat.le_of_ble_eq_true rfl) (by first | trivial | exact trivial | omega) ?_
      have hM1 : isMg _ G 0 n hist.length := isMg_o (th' := 0) (tl' := n) (rm' := hist.length) hM
      refine R_aload_n rfl rfl ?_
      refine R_getfield rfl rfl (by omega) (va_up_self _ _ _) rfl ?_
      refine R_ifle rfl ⟨by decide, by decide⟩ (fun _ => ?_) (fun c0 => absurd c0 (by decide))
      refine R_aload_n rfl rfl ?_
      refine R_vcall rfl rfl ⟨(by omega), _, (va_up_self _ _ _)⟩ ⟨Nat.le_of_ble_eq_true rfl, Nat.le_of_ble_eq_true rfl, Nat.zero_le _, Nat.zero_le _⟩ (mRemember_T hM1 hG hN (isHi_fr hHi (va_up_ne _ _ (by decide))) (fun h2 hM2 hH2 f2 => aRes_v (rest := []) ?_))
      obtain ⟨S2, n0, n3, hR2⟩ := hM2.z
      refine R_aload_n rfl rfl ?_
      refine R_iload_n rfl rfl ?_
      refine R_iload_n rfl rfl ?_
      refine R_iload_n rfl rfl ?_
      refine R_ifeq rfl ⟨by decide, by decide⟩ (fun c0 => absurd c0 (by decide)) (fun _ => ?_)
      refine R_iconst rfl ?_
      refine R_goto rfl ?_
      refine R_vcall rfl rfl ⟨(by omega), _, n0⟩ ⟨Nat.le_of_ble_eq_true rfl, Nat.le_of_ble_eq_true rfl, Nat.zero_le _, Nat.zero_le _⟩ (mBar_T (b := true) (v := true) (c := x) hM2.a hG hN rfl hp9 (fun h3 hM3 f3 => aRes_v (rest := []) ?_))
      obtain ⟨S3, k0, k3, hR3⟩ := hM3.z
      refine R_aload_n rfl rfl ?_
      refine R_getfield rfl rfl (by omega) k0 rfl ?_
      exact R_ireturn rfl (fun q => absurd q (by decide)) (Nat.zero_le _) (Nat.zero_le _) (moQ_v hQ ho (isMo_g hY hM3 (ok_setBr hG (qPb_iff.mp hp9)) (isHi_fr hH2 (f3 _ (by omega))) (fun j hj => (f3 j (by omega)).trans ((f2 j (by omega)).trans (va_up_ne _ _ (by omega))))) (fun j hj => (f3 j (by omega)).trans ((f2 j (by omega)).trans (va_up_ne _ _ (by omega)))) rfl)
    · have hp9 : qPb G x true = false := bI_nt hz16 (by omega)
      have ho : opSetBar (G, hist, sl, n, tx) x true true = (1 + 1, 0, (G, hist, sl, n, tx)) := (if_pos (show 0 ≤ (x : Int) ∧ (x : Int) < qM G by omega)).trans (if_neg (fun q => by have q : qPb G x true = true := q; rw [hp9] at q; cases q))
      refine R_iconst rfl ?_
      refine R_goto rfl ?_
      refine R_putfield rfl rfl (by omega) m0 (Nat.le_of_ble_eq_true rfl) (by first | trivial | exact trivial | omega) ?_
      have hM1 : isMg _ G 2 n hist.length := isMg_o (th' := 2) (tl' := n) (rm' := hist.length) hM
      refine R_aload_n rfl rfl ?_
      refine R_getfield rfl rfl (by omega) (va_up_self _ _ _) rfl ?_
      refine R_ifle rfl ⟨by decide, by decide⟩ (fun c0 => absurd c0 (by decide)) (fun _ => ?_)
      refine R_iconst rfl ?_
      exact R_ireturn rfl (fun q => absurd q (by decide)) (Nat.zero_le _) (Nat.zero_le _) (moQ_t hQ ho rfl (isMo_th hY) (fr_up fr.refl (by omega)))
  · have ho : opSetBar (G, hist, sl, n, tx) c true true = (0 + 1, 0, (G, hist, sl, n, tx)) := if_neg (show ¬ (0 ≤ c ∧ c < qM G) by omega)
    refine R_iconst rfl ?_
    refine R_goto rfl ?_
    refine R_putfield rfl rfl (by omega) m0 (Nat.le_of_ble_eq_true rfl) (by first | trivial | exact trivial | omega) ?_
    have hM1 : isMg _ G 1 n hist.length := isMg_o (th' := 1) (tl' := n) (rm' := hist.length) hM
    refine R_aload_n rfl rfl ?_
    refine R_getfield rfl rfl (by omega) (va_up_self _ _ _) rfl ?_
    refine R_ifle rfl ⟨by decide, by decide⟩ (fun c0 => absurd c0 (by decide)) (fun _ => ?_)
    refine R_iconst rfl ?_
    exact R_ireturn rfl (fun q => absurd q (by decide)) (Nat.zero_le _) (Nat.zero_le _) (moQ_t hQ ho rfl (isMo_th hY) (fr_up fr.refl (by omega)))
theorem mSetBar_T {d N : Nat} {h : AH} {th : Int} {Q : AQ} {G : Gr} {hist : List Gr} {sl : Nat → Option Gr} {n : Nat} {tx : Nat → Int} (hY : isMo h (G, hist, sl, n, tx) th) (hN : 139 ≤ N) {c : Int} {b v : Bool} (hc : inR c) (hQ : moQ (opSetBar (G, hist, sl, n, tx) c b v) h N Q) : T (d + 5) 180 [vR 122, vI c, vI (bI b), vI (bI v)] h N Q := by
  cases b <;> cases v
  · exact mSetBar_false_false hY hN hc hQ
  · exact mSetBar_false_true hY hN hc hQ
  · exact mSetBar_true_false hY hN hc hQ
  · exact mSetBar_true_true hY hN hc hQ
theorem mWrite_T {d N : Nat} {h : AH} {th : Int} {Q : AQ} {G : Gr} {hist : List Gr} {sl : Nat → Option Gr} {n : Nat} {tx : Nat → Int} (hY : isMo h (G, hist, sl, n, tx) th) (hN : 139 ≤ N) {c l : Int} (hc : inR c) (hl : inR l) (hQ : moQ (opWrite (G, hist, sl, n, tx) c l) h N Q) : T (d + 3) 185 [vR 122, vI c, vI l] h N Q := by
  obtain ⟨hM, hG, hT, hHi, hSv, hRw⟩ := id hY
  have hM : isMg h G th n hist.length := hM
  have hG : okG G := hG
  have hT : isMt h n tx := hT
  have hHi : isHi h hist := hHi
  have hSv : isSv h sl := hSv
  obtain ⟨F, D, L, A, W, C, hZ, m11, m12, m13, m14, m15, m16, hE, hA, hW, hC⟩ := id hM
  obtain ⟨S, m0, m3, hR⟩ := id hZ
  obtain ⟨hr0, hr1, rL, rE, rS, hr110, rWn, rWl, hr167, rNl⟩ := id hR
  have r0 : S (0 : Int).toNat = (qR G : Int) := hr0
  have r1 : S (1 : Int).toNat = (qC G : Int) := hr1
  have r110 : S (110 : Int).toNat = (qW G : Int) := hr110
  have r167 : S (167 : Int).toNat = (qN G : Int) := hr167
  obtain ⟨hm4, hm36⟩ := hG.m
  have hmi := qM_int G
  obtain ⟨⟨hr2, hr6⟩, ⟨hc2, hc6⟩, gL, gB, gW, gWn, gWl, gN, gNl⟩ := id hG
  have hn36 := nE36 hG
  obtain ⟨tf, m1, hn150, htf⟩ := id hT
  obtain ⟨hc1, hc2⟩ := hc
  obtain ⟨hl1, hl2⟩ := hl
  refine T_body (I := mi_X9_write) (lv := [_, _, _, _]) rfl (Nat.le_of_ble_eq_true rfl) rfl ?_
  refine R_aload_n rfl rfl ?_
  refine R_aload_n rfl rfl ?_
  refine R_iload_n rfl rfl ?_
  refine R_vcall rfl rfl ⟨(by omega), _, m0⟩ ⟨Nat.le_of_ble_eq_true rfl, Nat.le_of_ble_eq_true rfl, Nat.zero_le _, Nat.zero_le _⟩ (mIsEntry_T hM hG hN ⟨by omega, by omega⟩ (fun z3 hz3 => aRes_i (rest := [_]) ?_))
  refine R_ifeq rfl ⟨by omega, by omega⟩ (fun c6 => ?_) (fun c6 => ?_)
  · have ho : opWrite (G, hist, sl, n, tx) c l = (0 + 1, 0, (G, hist, sl, n, tx)) := if_neg (show ¬ ((0 ≤ c ∧ c < nE G) ∧ 0 ≤ l ∧ l < qW G) by omega)
    refine R_iconst rfl ?_
    refine R_goto rfl ?_
    refine R_putfield rfl rfl (by omega) m0 (Nat.le_of_ble_eq_true rfl) (by first | trivial | exact trivial | omega) ?_
    have hM1 : isMg _ G 1 n hist.length := isMg_o (th' := 1) (tl' := n) (rm' := hist.length) hM
    refine R_aload_n rfl rfl ?_
    refine R_getfield rfl rfl (by omega) (va_up_self _ _ _) rfl ?_
    refine R_ifle rfl ⟨by decide, by decide⟩ (fun c0 => absurd c0 (by decide)) (fun _ => ?_)
    refine R_iconst rfl ?_
    exact R_ireturn rfl (fun q => absurd q (by decide)) (Nat.zero_le _) (Nat.zero_le _) (moQ_t hQ ho rfl (isMo_th hY) (fr_up fr.refl (by omega)))
  · refine R_aload_n rfl rfl ?_
    refine R_iload_n rfl rfl ?_
    refine R_vcall rfl rfl ⟨(by omega), _, m0⟩ ⟨Nat.le_of_ble_eq_true rfl, Nat.le_of_ble_eq_true rfl, Nat.zero_le _, Nat.zero_le _⟩ (mIsWord_T hZ hG hN ⟨by omega, by omega⟩ (fun z11 hz11 => aRes_i (rest := [_]) ?_))
    refine R_ifne rfl ⟨by omega, by omega⟩ (fun c14 => ?_) (fun c14 => ?_)
    · obtain ⟨e, rfl⟩ := Int.eq_ofNat_of_zero_le (show 0 ≤ c by omega)
      obtain ⟨w, rfl⟩ := Int.eq_ofNat_of_zero_le (show 0 ≤ l by omega)
      have he : e < nE G := by omega
      have hw : w < qW G := by omega
      refine R_aload_n rfl rfl ?_
      refine R_iload_n rfl rfl ?_
      refine R_iload_n rfl rfl ?_
      refine R_vcall rfl rfl ⟨(by omega), _, m0⟩ ⟨Nat.le_of_ble_eq_true rfl, Nat.le_of_ble_eq_true rfl, Nat.zero_le _, Nat.zero_le _⟩ (mIsFitting_T (e := e) (w := w) hM hG hN rfl he rfl hw (fun z24 hz24 => aRes_i (rest := [_]) ?_))
      have h01 := bI01 (fiG G e w)
      rw [← hz24] at h01
      refine R_ifeq rfl ⟨by omega, by omega⟩ (fun c27 => ?_) (fun c27 => ?_)
      · have hf9 : fiG G e w = false := bI_f hz24 (by omega)
        have ho : opWrite (G, hist, sl, n, tx) e w = (1 + 1, 0, (G, hist, sl, n, tx)) := (if_pos (show (0 ≤ (e : Int) ∧ (e : Int) < nE G) ∧ 0 ≤ (w : Int) ∧ (w : Int) < qW G by omega)).trans (if_neg (fun q => by have q : fiG G e w = true := q; rw [hf9] at q; cases q))
        refine R_iconst rfl ?_
        refine R_putfield rfl rfl (by omega) m0 (Nat.le_of_ble_eq_true rfl) (by first | trivial | exact trivial | omega) ?_
        have hM1 : isMg _ G 2 n hist.length := isMg_o (th' := 2) (tl' := n) (rm' := hist.length) hM
        refine R_aload_n rfl rfl ?_
        refine R_getfield rfl rfl (by omega) (va_up_self _ _ _) rfl ?_
        refine R_ifle rfl ⟨by decide, by decide⟩ (fun c0 => absurd c0 (by decide)) (fun _ => ?_)
        refine R_iconst rfl ?_
        exact R_ireturn rfl (fun q => absurd q (by decide)) (Nat.zero_le _) (Nat.zero_le _) (moQ_t hQ ho rfl (isMo_th hY) (fr_up fr.refl (by omega)))
      · have hf9 : fiG G e w = true := bI_t hz24 (by omega)
        have hlen := fiG_len hf9
        have ho : opWrite (G, hist, sl, n, tx) e w = (0, ((emG G e : Nat) : Int), (setLs G (filL G e w (eN G e) 0 (qL G)), rem14 hist G, sl, n, tx)) := (if_pos (show (0 ≤ (e : Int) ∧ (e : Int) < nE G) ∧ 0 ≤ (w : Int) ∧ (w : Int) < qW G by omega)).trans (if_pos hf9)
        refine R_iconst rfl ?_
        refine R_goto rfl ?_
        refine R_putfield rfl rfl (by omega) m0 (Nat.le_of_ble_eq_true rfl) (by first | trivial | exact trivial | omega) ?_
        have hM1 : isMg _ G 0 n hist.length := isMg_o (th' := 0) (tl' := n) (rm' := hist.length) hM
        refine R_aload_n rfl rfl ?_
        refine R_getfield rfl rfl (by omega) (va_up_self _ _ _) rfl ?_
        refine R_ifle rfl ⟨by decide, by decide⟩ (fun _ => ?_) (fun c0 => absurd c0 (by decide))
        refine R_aload_n rfl rfl ?_
        refine R_vcall rfl rfl ⟨(by omega), _, (va_up_self _ _ _)⟩ ⟨Nat.le_of_ble_eq_true rfl, Nat.le_of_ble_eq_true rfl, Nat.zero_le _, Nat.zero_le _⟩ (mRemember_T hM1 hG hN (isHi_fr hHi (va_up_ne _ _ (by decide))) (fun h2 hM2 hH2 f2 => aRes_v (rest := []) ?_))
        obtain ⟨S2, n0, n3, hR2⟩ := hM2.z
        refine R_aload_n rfl rfl ?_
        refine R_iload_n rfl rfl ?_
        refine R_vcall rfl rfl ⟨(by omega), _, n0⟩ ⟨Nat.le_of_ble_eq_true rfl, Nat.le_of_ble_eq_true rfl, Nat.zero_le _, Nat.zero_le _⟩ (mEmptyIn_T (e := e) hM2 hG hN rfl he (fun z53 hz53 => aRes_i (rest := []) ?_))
        refine R_istore_n (lv' := [_, _, _, _]) rfl rfl ?_
        refine R_aload_n rfl rfl ?_
        refine R_iload_n rfl rfl ?_
        refine R_iload_n rfl rfl ?_
        refine R_vcall rfl rfl ⟨(by omega), _, n0⟩ ⟨Nat.le_of_ble_eq_true rfl, Nat.le_of_ble_eq_true rfl, Nat.zero_le _, Nat.zero_le _⟩ (mWriteWord_T (e := e) (w := w) hM2 hG hN rfl he rfl hw hlen (fun h3 hM3 f3 => aRes_v (rest := []) ?_))
        refine R_iload_n rfl rfl ?_
        exact R_ireturn rfl (fun q => absurd q (by decide)) (Nat.zero_le _) (Nat.zero_le _) (moQ_v hQ ho (isMo_g hY hM3 (ok_setLs hG (ok_fil hG hw _ _ _ (by omega) hG.2.2.1)) (isHi_fr hH2 (f3 _ (by omega))) (fun j hj => (f3 j (by omega)).trans ((f2 j (by omega)).trans (va_up_ne _ _ (by omega))))) (fun j hj => (f3 j (by omega)).trans ((f2 j (by omega)).trans (va_up_ne _ _ (by omega)))) hz53)
    · have ho : opWrite (G, hist, sl, n, tx) c l = (0 + 1, 0, (G, hist, sl, n, tx)) := if_neg (show ¬ ((0 ≤ c ∧ c < nE G) ∧ 0 ≤ l ∧ l < qW G) by omega)
      refine R_iconst rfl ?_
      refine R_goto rfl ?_
      refine R_putfield rfl rfl (by omega) m0 (Nat.le_of_ble_eq_true rfl) (by first | trivial | exact trivial | omega) ?_
      have hM1 : isMg _ G 1 n hist.length := isMg_o (th' := 1) (tl' := n) (rm' := hist.length) hM
      refine R_aload_n rfl rfl ?_
      refine R_getfield rfl rfl (by omega) (va_up_self _ _ _) rfl ?_
      refine R_ifle rfl ⟨by decide, by decide⟩ (fun c0 => absurd c0 (by decide)) (fun _ => ?_)
      refine R_iconst rfl ?_
      exact R_ireturn rfl (fun q => absurd q (by decide)) (Nat.zero_le _) (Nat.zero_le _) (moQ_t hQ ho rfl (isMo_th hY) (fr_up fr.refl (by omega)))
theorem mErase_T {d N : Nat} {h : AH} {th : Int} {Q : AQ} {G : Gr} {hist : List Gr} {sl : Nat → Option Gr} {n : Nat} {tx : Nat → Int} (hY : isMo h (G, hist, sl, n, tx) th) (hN : 139 ≤ N) {c : Int} (hc : inR c) (hQ : moQ (opErase (G, hist, sl, n, tx) c) h N Q) : T (d + 4) 187 [vR 122, vI c] h N Q := by
  obtain ⟨hM, hG, hT, hHi, hSv, hRw⟩ := id hY
  have hM : isMg h G th n hist.length := hM
  have hG : okG G := hG
  have hT : isMt h n tx := hT
  have hHi : isHi h hist := hHi
  have hSv : isSv h sl := hSv
  obtain ⟨F, D, L, A, W, C, hZ, m11, m12, m13, m14, m15, m16, hE, hA, hW, hC⟩ := id hM
  obtain ⟨S, m0, m3, hR⟩ := id hZ
  obtain ⟨hr0, hr1, rL, rE, rS, hr110, rWn, rWl, hr167, rNl⟩ := id hR
  have r0 : S (0 : Int).toNat = (qR G : Int) := hr0
  have r1 : S (1 : Int).toNat = (qC G : Int) := hr1
  have r110 : S (110 : Int).toNat = (qW G : Int) := hr110
  have r167 : S (167 : Int).toNat = (qN G : Int) := hr167
  obtain ⟨hm4, hm36⟩ := hG.m
  have hmi := qM_int G
  obtain ⟨⟨hr2, hr6⟩, ⟨hc2, hc6⟩, gL, gB, gW, gWn, gWl, gN, gNl⟩ := id hG
  have hn36 := nE36 hG
  obtain ⟨tf, m1, hn150, htf⟩ := id hT
  obtain ⟨hc1, hc2⟩ := hc
  refine T_body (I := mi_X9_erase) (lv := [_, _]) rfl (Nat.le_of_ble_eq_true rfl) rfl ?_
  refine R_aload_n rfl rfl ?_
  refine R_aload_n rfl rfl ?_
  refine R_iload_n rfl rfl ?_
  refine R_vcall rfl rfl ⟨(by omega), _, m0⟩ ⟨Nat.le_of_ble_eq_true rfl, Nat.le_of_ble_eq_true rfl, Nat.zero_le _, Nat.zero_le _⟩ (mIsEntry_T hM hG hN ⟨by omega, by omega⟩ (fun z3 hz3 => aRes_i (rest := [_]) ?_))
  refine R_ifeq rfl ⟨by omega, by omega⟩ (fun c6 => ?_) (fun c6 => ?_)
  · have ho : opErase (G, hist, sl, n, tx) c = (0 + 1, 0, (G, hist, sl, n, tx)) := if_neg (show ¬ (0 ≤ c ∧ c < nE G) by omega)
    refine R_iconst rfl ?_
    refine R_putfield rfl rfl (by omega) m0 (Nat.le_of_ble_eq_true rfl) (by first | trivial | exact trivial | omega) ?_
    have hM1 : isMg _ G 1 n hist.length := isMg_o (th' := 1) (tl' := n) (rm' := hist.length) hM
    refine R_aload_n rfl rfl ?_
    refine R_getfield rfl rfl (by omega) (va_up_self _ _ _) rfl ?_
    refine R_ifle rfl ⟨by decide, by decide⟩ (fun c0 => absurd c0 (by decide)) (fun _ => ?_)
    refine R_iconst rfl ?_
    exact R_ireturn rfl (fun q => absurd q (by decide)) (Nat.zero_le _) (Nat.zero_le _) (moQ_t hQ ho rfl (isMo_th hY) (fr_up fr.refl (by omega)))
  · obtain ⟨e, rfl⟩ := Int.eq_ofNat_of_zero_le (show 0 ≤ c by omega)
    have he : e < nE G := by omega
    have ho : opErase (G, hist, sl, n, tx) e = (0, (((claF G e (eN G e) 0 (qL G) 0).2 : Nat) : Int), (setLs G (claF G e (eN G e) 0 (qL G) 0).1, rem14 hist G, sl, n, tx)) := if_pos (show 0 ≤ (e : Int) ∧ (e : Int) < nE G by omega)
    refine R_iconst rfl ?_
    refine R_goto rfl ?_
    refine R_putfield rfl rfl (by omega) m0 (Nat.le_of_ble_eq_true rfl) (by first | trivial | exact trivial | omega) ?_
    have hM1 : isMg _ G 0 n hist.length := isMg_o (th' := 0) (tl' := n) (rm' := hist.length) hM
    refine R_aload_n rfl rfl ?_
    refine R_getfield rfl rfl (by omega) (va_up_self _ _ _) rfl ?_
    refine R_ifle rfl ⟨by decide, by decide⟩ (fun _ => ?_) (fun c0 => absurd c0 (by decide))
    refine R_aload_n rfl rfl ?_
    refine R_vcall rfl rfl ⟨(by omega), _, (va_up_self _ _ _)⟩ ⟨Nat.le_of_ble_eq_true rfl, Nat.le_of_ble_eq_true rfl, Nat.zero_le _, Nat.zero_le _⟩ (mRemember_T hM1 hG hN (isHi_fr hHi (va_up_ne _ _ (by decide))) (fun h2 hM2 hH2 f2 => aRes_v (rest := []) ?_))
    obtain ⟨S2, n0, n3, hR2⟩ := hM2.z
    refine R_aload_n rfl rfl ?_
    refine R_iload_n rfl rfl ?_
    refine R_vcall rfl rfl ⟨(by omega), _, n0⟩ ⟨Nat.le_of_ble_eq_true rfl, Nat.le_of_ble_eq_true rfl, Nat.zero_le _, Nat.zero_le _⟩ (mEraseEntry_T (e := e) hM2 hG hN rfl he (fun h3 hM3 f3 => aRes_i (rest := []) ?_))
    exact R_ireturn rfl (fun q => absurd q (by decide)) (Nat.zero_le _) (Nat.zero_le _) (moQ_v hQ ho (isMo_g hY hM3 (ok_setLs hG (ok_cla _ _ _ _ hG.2.2.1)) (isHi_fr hH2 (f3 _ (by omega))) (fun j hj => (f3 j (by omega)).trans ((f2 j (by omega)).trans (va_up_ne _ _ (by omega))))) (fun j hj => (f3 j (by omega)).trans ((f2 j (by omega)).trans (va_up_ne _ _ (by omega)))) rfl)
theorem mUndo_T {d N : Nat} {h : AH} {th : Int} {Q : AQ} {G : Gr} {hist : List Gr} {sl : Nat → Option Gr} {n : Nat} {tx : Nat → Int} (hY : isMo h (G, hist, sl, n, tx) th) (hN : 139 ≤ N) (hQ : moQ (opUndo (G, hist, sl, n, tx)) h N Q) : T (d + 4) 188 [vR 122] h N Q := by
  obtain ⟨hM, hG, hT, hHi, hSv, hRw⟩ := id hY
  have hM : isMg h G th n hist.length := hM
  have hG : okG G := hG
  have hT : isMt h n tx := hT
  have hHi : isHi h hist := hHi
  have hSv : isSv h sl := hSv
  obtain ⟨F, D, L, A, W, C, hZ, m11, m12, m13, m14, m15, m16, hE, hA, hW, hC⟩ := id hM
  obtain ⟨S, m0, m3, hR⟩ := id hZ
  obtain ⟨hr0, hr1, rL, rE, rS, hr110, rWn, rWl, hr167, rNl⟩ := id hR
  have r0 : S (0 : Int).toNat = (qR G : Int) := hr0
  have r1 : S (1 : Int).toNat = (qC G : Int) := hr1
  have r110 : S (110 : Int).toNat = (qW G : Int) := hr110
  have r167 : S (167 : Int).toNat = (qN G : Int) := hr167
  obtain ⟨hm4, hm36⟩ := hG.m
  have hmi := qM_int G
  obtain ⟨⟨hr2, hr6⟩, ⟨hc2, hc6⟩, gL, gB, gW, gWn, gWl, gN, gNl⟩ := id hG
  have hn36 := nE36 hG
  obtain ⟨tf, m1, hn150, htf⟩ := id hT
  have hl14 : hist.length ≤ 14 := by
    obtain ⟨H, -, h1, -⟩ := hHi
    exact h1
  refine T_body (I := mi_X9_undo) (lv := [_]) rfl (Nat.le_of_ble_eq_true rfl) rfl ?_
  refine R_aload_n rfl rfl ?_
  refine R_aload_n rfl rfl ?_
  refine R_getfield rfl rfl (by omega) m0 rfl ?_
  refine R_ifle rfl ⟨by omega, by omega⟩ (fun c5 => ?_) (fun c5 => ?_)
  · have ho : opUndo (G, hist, sl, n, tx) = (0 + 1, 0, (G, hist, sl, n, tx)) := by
      rw [show hist = [] from List.eq_nil_of_length_eq_zero (by omega)]
      rfl
    refine R_iconst rfl ?_
    refine R_putfield rfl rfl (by omega) m0 (Nat.le_of_ble_eq_true rfl) (by first | trivial | exact trivial | omega) ?_
    refine R_aload_n rfl rfl ?_
    refine R_getfield rfl rfl (by omega) (va_up_self _ _ _) rfl ?_
    refine R_ifle rfl ⟨by decide, by decide⟩ (fun c0 => absurd c0 (by decide)) (fun _ => ?_)
    refine R_iconst rfl ?_
    exact R_ireturn rfl (fun q => absurd q (by decide)) (Nat.zero_le _) (Nat.zero_le _) (moQ_t hQ ho rfl (isMo_th hY) (fr_up fr.refl (by omega)))
  · obtain ⟨l, G2, rfl⟩ := cat_of hist (by omega)
    have ho := opUndo_c (G := G) (G2 := G2) (l := l) (r := (sl, n, tx))
    have hlen : (l ++ [G2]).length = l.length + 1 := by
      rw [List.length_append]
      rfl
    obtain ⟨H, m6, hh14, hhi⟩ := id hHi
    have hg2 := hhi l.length G2 (by rw [List.getElem?_append_right (Nat.le_refl _), Nat.sub_self]; rfl)
    obtain ⟨hrow, hG2⟩ := hg2
    refine R_iconst rfl ?_
    refine R_goto rfl ?_
    refine R_putfield rfl rfl (by omega) m0 (Nat.le_of_ble_eq_true rfl) (by first | trivial | exact trivial | omega) ?_
    refine R_aload_n rfl rfl ?_
    refine R_getfield rfl rfl (by omega) (va_up_self _ _ _) rfl ?_
    refine R_ifle rfl ⟨by decide, by decide⟩ (fun _ => ?_) (fun c0 => absurd c0 (by decide))
    refine R_aload_n rfl rfl ?_
    refine R_dup rfl rfl ?_
    refine R_getfield rfl rfl (by omega) (va_up_self _ _ _) rfl ?_
    refine R_iconst rfl ?_
    refine R_isub rfl ?_
    refine R_putfield rfl rfl (by omega) (va_up_self _ _ _) (Nat.le_of_ble_eq_true rfl) (by first | trivial | exact trivial | omega) ?_
    refine R_aload_n rfl rfl ?_
    refine R_getfield rfl rfl (by omega) (va_up_self _ _ _) rfl ?_
    refine R_aload_n rfl rfl ?_
    refine R_getfield rfl rfl (by omega) (va_up_self _ _ _) rfl ?_
    refine R_sipush rfl ?_
    refine R_imul rfl ?_
    refine R_aload_n rfl rfl ?_
    refine R_getfield rfl rfl (by omega) (va_up_self _ _ _) rfl ?_
    refine R_iconst rfl ?_
    refine R_scall rfl rfl ⟨Nat.le_of_ble_eq_true rfl, Nat.le_of_ble_eq_true rfl, Nat.zero_le _, Nat.zero_le _⟩ (mMove_T (s := 174 * l.length) (t := 0) (by omega) (by omega) (by decide) (by omega) (by decide) (by decide) (by decide) ((va_up_ne _ _ (by first | exact kne rfl | exact kz | exact kz.symm | omega)).trans ((va_up_ne _ _ (by first | exact kne rfl | exact kz | exact kz.symm | omega)).trans m6)) ((va_up_ne _ _ (by first | exact kne rfl | exact kz | exact kz.symm | omega)).trans ((va_up_ne _ _ (by first | exact kne rfl | exact kz | exact kz.symm | omega)).trans m3)) (by omega) rfl (fun h2 g2 e2 w1 w2 f2 => aRes_v (rest := []) ?_))
    refine R_aload_n rfl rfl ?_
    refine R_vcall rfl rfl ⟨(by omega), _, ((f2 _ (by omega)).trans (va_up_self _ _ _))⟩ ⟨Nat.le_of_ble_eq_true rfl, Nat.le_of_ble_eq_true rfl, Nat.zero_le _, Nat.zero_le _⟩ (mFindEntries_T (isMa_st (isMg_o (th' := 0) (tl' := n) (rm' := ((l ++ [G2]).length : Int) - 1) (isMg_o (th' := 0) (tl' := n) (rm' := ((l ++ [G2]).length : Int)) hM)).a e2 (rw_congr hrow hG2 (fun k hk => (congrArg g2 (Nat.zero_add k).symm).trans (w1 k hk))) (fun j hj => f2 j (by omega))) hG2 hN (fun h3 hM3 f3 => aRes_v (rest := []) ?_))
    obtain ⟨S3, k0, k3, hR3⟩ := hM3.z
    refine R_aload_n rfl rfl ?_
    refine R_getfield rfl rfl (by omega) k0 rfl ?_
    exact R_ireturn rfl (fun q => absurd q (by decide)) (Nat.zero_le _) (Nat.zero_le _) (moQ_v hQ ho (isMo_g hY (by rw [show (l.length : Int) = ((l ++ [G2]).length : Int) - 1 by omega]; exact hM3) hG2 (isHi_fr (isHi_pre hHi) ((f3 _ (by omega)).trans ((f2 _ (by omega)).trans ((va_up_ne _ _ (by omega)).trans (va_up_ne _ _ (by omega)))))) (fun j hj => (f3 j (by omega)).trans ((f2 j (by omega)).trans ((va_up_ne _ _ (by omega)).trans (va_up_ne _ _ (by omega)))))) (fun j hj => (f3 j (by omega)).trans ((f2 j (by omega)).trans ((va_up_ne _ _ (by omega)).trans (va_up_ne _ _ (by omega))))) (by omega))
theorem mSave_T {d N : Nat} {h : AH} {th : Int} {Q : AQ} {G : Gr} {hist : List Gr} {sl : Nat → Option Gr} {n : Nat} {tx : Nat → Int} (hY : isMo h (G, hist, sl, n, tx) th) (hN : 139 ≤ N) {c : Int} (hc : inR c) (hQ : moQ (opSave (G, hist, sl, n, tx) c) h N Q) : T (d + 2) 203 [vR 122, vI c] h N Q := by
  obtain ⟨hM, hG, hT, hHi, hSv, hRw⟩ := id hY
  have hM : isMg h G th n hist.length := hM
  have hG : okG G := hG
  have hT : isMt h n tx := hT
  have hHi : isHi h hist := hHi
  have hSv : isSv h sl := hSv
  obtain ⟨F, D, L, A, W, C, hZ, m11, m12, m13, m14, m15, m16, hE, hA, hW, hC⟩ := id hM
  obtain ⟨S, m0, m3, hR⟩ := id hZ
  obtain ⟨hr0, hr1, rL, rE, rS, hr110, rWn, rWl, hr167, rNl⟩ := id hR
  have r0 : S (0 : Int).toNat = (qR G : Int) := hr0
  have r1 : S (1 : Int).toNat = (qC G : Int) := hr1
  have r110 : S (110 : Int).toNat = (qW G : Int) := hr110
  have r167 : S (167 : Int).toNat = (qN G : Int) := hr167
  obtain ⟨hm4, hm36⟩ := hG.m
  have hmi := qM_int G
  obtain ⟨⟨hr2, hr6⟩, ⟨hc2, hc6⟩, gL, gB, gW, gWn, gWl, gN, gNl⟩ := id hG
  have hn36 := nE36 hG
  obtain ⟨tf, m1, hn150, htf⟩ := id hT
  obtain ⟨hc1, hc2⟩ := hc
  refine T_body (I := mi_X9_save) (lv := [_, _]) rfl (Nat.le_of_ble_eq_true rfl) rfl ?_
  refine R_aload_n rfl rfl ?_
  refine R_iload_n rfl rfl ?_
  refine R_scall rfl rfl ⟨Nat.le_of_ble_eq_true rfl, Nat.le_of_ble_eq_true rfl, Nat.zero_le _, Nat.zero_le _⟩ (mIsSlot_T ⟨by omega, by omega⟩ (fun z2 hz2 => aRes_i (rest := [_]) ?_))
  refine R_ifeq rfl ⟨by omega, by omega⟩ (fun c5 => ?_) (fun c5 => ?_)
  · have ho : opSave (G, hist, sl, n, tx) c = (0 + 1, 0, (G, hist, sl, n, tx)) := if_neg (by omega)
    refine R_iconst rfl ?_
    refine R_putfield rfl rfl (by omega) m0 (Nat.le_of_ble_eq_true rfl) (by first | trivial | exact trivial | omega) ?_
    have hM1 : isMg _ G 1 n hist.length := isMg_o (th' := 1) (tl' := n) (rm' := hist.length) hM
    refine R_aload_n rfl rfl ?_
    refine R_getfield rfl rfl (by omega) (va_up_self _ _ _) rfl ?_
    refine R_ifle rfl ⟨by decide, by decide⟩ (fun c0 => absurd c0 (by decide)) (fun _ => ?_)
    refine R_iconst rfl ?_
    exact R_ireturn rfl (fun q => absurd q (by decide)) (Nat.zero_le _) (Nat.zero_le _) (moQ_t hQ ho rfl (isMo_th hY) (fr_up fr.refl (by omega)))
  · obtain ⟨x, rfl⟩ := Int.eq_ofNat_of_zero_le (show 0 ≤ c by omega)
    have hx : x < 2 := by omega
    have ho : opSave (G, hist, sl, n, tx) x = (0, ((nE G : Nat) : Int), (G, hist, va_up sl x (some G), n, tx)) := if_pos (by omega)
    obtain ⟨X, U, m8, m9, hsv⟩ := id hSv
    refine R_iconst rfl ?_
    refine R_goto rfl ?_
    refine R_putfield rfl rfl (by omega) m0 (Nat.le_of_ble_eq_true rfl) (by first | trivial | exact trivial | omega) ?_
    have hM1 : isMg _ G 0 n hist.length := isMg_o (th' := 0) (tl' := n) (rm' := hist.length) hM
    refine R_aload_n rfl rfl ?_
    refine R_getfield rfl rfl (by omega) (va_up_self _ _ _) rfl ?_
    refine R_ifle rfl ⟨by decide, by decide⟩ (fun _ => ?_) (fun c0 => absurd c0 (by decide))
    refine R_aload_n rfl rfl ?_
    refine R_getfield rfl rfl (by omega) (va_up_self _ _ _) rfl ?_
    refine R_iconst rfl ?_
    refine R_aload_n rfl rfl ?_
    refine R_getfield rfl rfl (by omega) (va_up_self _ _ _) rfl ?_
    refine R_sipush rfl ?_
    refine R_iload_n rfl rfl ?_
    refine R_imul rfl ?_
    refine R_scall rfl rfl ⟨Nat.le_of_ble_eq_true rfl, Nat.le_of_ble_eq_true rfl, Nat.zero_le _, Nat.zero_le _⟩ (mMove_T (s := 0) (t := 174 * x) (by omega) (by omega) (by decide) (by decide) (by omega) (by decide) (by decide) ((va_up_ne _ _ (by first | exact kne rfl | exact kz | exact kz.symm | omega)).trans m3) ((va_up_ne _ _ (by first | exact kne rfl | exact kz | exact kz.symm | omega)).trans m8) rfl (by omega) (fun h2 g2 e2 w1 w2 f2 => aRes_v (rest := []) ?_))
    refine R_aload_n rfl rfl ?_
    refine R_getfield rfl rfl (by omega) ((f2 _ (by omega)).trans (va_up_self _ _ _)) rfl ?_
    refine R_iload_n rfl rfl ?_
    refine R_iconst rfl ?_
    refine R_iastore rfl (by omega) ((f2 _ (by omega)).trans ((va_up_ne _ _ (by decide)).trans m9)) ⟨by omega, by omega, by omega⟩ ?_
    refine R_aload_n rfl rfl ?_
    refine R_getfield rfl rfl (by omega) ((va_up_ne _ _ (by first | exact kne rfl | exact kz | exact kz.symm | omega)).trans ((f2 _ (by omega)).trans (va_up_self _ _ _))) rfl ?_
    exact R_ireturn rfl (fun q => absurd q (by decide)) (Nat.zero_le _) (Nat.zero_le _) (moQ_v hQ ho ⟨isMg_fr hM1 (fun j hj => (va_up_ne _ _ (by omega)).trans (f2 j (by omega))), hG, isMt_fr hT ((va_up_ne _ _ (by decide)).trans ((f2 _ (by omega)).trans (va_up_ne _ _ (by decide)))), isHi_fr hHi ((va_up_ne _ _ (by decide)).trans ((f2 _ (by omega)).trans (va_up_ne _ _ (by decide)))), ⟨g2, va_up U x 1, (va_up_ne _ _ (by decide)).trans e2, va_up_self _ _ _, fun i hi => by
    by_cases q : i = x
    · subst q
      exact Or.inr ⟨G, va_up_self _ _ _, va_up_self _ _ _, rw_congr hR hG (fun k hk => (w1 k hk).trans (congrArg S (Nat.zero_add k))), hG⟩
    · rcases hsv i hi with ⟨q1, q2⟩ | ⟨G2, q1, q2, q3, q4⟩
      · exact Or.inl ⟨(va_up_ne _ _ q).trans q1, (va_up_ne _ _ q).trans q2⟩
      · exact Or.inr ⟨G2, (va_up_ne _ _ q).trans q1, (va_up_ne _ _ q).trans q2, rw_congr q3 q4 (fun k hk => w2 _ (by omega)), q4⟩⟩, isRows_fr hRw (fun j hj => (va_up_ne _ _ (by omega)).trans ((f2 j (by omega)).trans (va_up_ne _ _ (by omega))))⟩ (fun j hj => (va_up_ne _ _ (by omega)).trans ((f2 j (by omega)).trans (va_up_ne _ _ (by omega)))) rfl)
theorem isMa_o {h h' : AH} {G : Gr} {th tl rm th' tl' rm' E' : Int} (hA : isMa h G th tl rm) (e : h' 122 = moO th' tl' rm' E') (ho : ∀ j, ¬ j = 122 → h' j = h j) : isMa h' G th' tl' rm' := by
  obtain ⟨E, F, D, L, A, W, C, ⟨S, m0, m3, hR⟩, m11, m12, m13, m14, m15, m16⟩ := hA
  exact ⟨E', F, D, L, A, W, C, ⟨S, e, (ho _ (by decide)).trans m3, hR⟩, (ho _ (by decide)).trans m11, (ho _ (by decide)).trans m12, (ho _ (by decide)).trans m13, (ho _ (by decide)).trans m14, (ho _ (by decide)).trans m15, (ho _ (by decide)).trans m16⟩
theorem mRestore_T {d N : Nat} {h : AH} {th : Int} {Q : AQ} {G : Gr} {hist : List Gr} {sl : Nat → Option Gr} {n : Nat} {tx : Nat → Int} (hY : isMo h (G, hist, sl, n, tx) th) (hN : 139 ≤ N) {c : Int} (hc : inR c) (hQ : moQ (opRestore (G, hist, sl, n, tx) c) h N Q) : T (d + 4) 204 [vR 122, vI c] h N Q := by
  obtain ⟨hM, hG, hT, hHi, hSv, hRw⟩ := id hY
  have hM : isMg h G th n hist.length := hM
  have hG : okG G := hG
  have hT : isMt h n tx := hT
  have hHi : isHi h hist := hHi
  have hSv : isSv h sl := hSv
  obtain ⟨F, D, L, A, W, C, hZ, m11, m12, m13, m14, m15, m16, hE, hA, hW, hC⟩ := id hM
  obtain ⟨S, m0, m3, hR⟩ := id hZ
  obtain ⟨hr0, hr1, rL, rE, rS, hr110, rWn, rWl, hr167, rNl⟩ := id hR
  have r0 : S (0 : Int).toNat = (qR G : Int) := hr0
  have r1 : S (1 : Int).toNat = (qC G : Int) := hr1
  have r110 : S (110 : Int).toNat = (qW G : Int) := hr110
  have r167 : S (167 : Int).toNat = (qN G : Int) := hr167
  obtain ⟨hm4, hm36⟩ := hG.m
  have hmi := qM_int G
  obtain ⟨⟨hr2, hr6⟩, ⟨hc2, hc6⟩, gL, gB, gW, gWn, gWl, gN, gNl⟩ := id hG
  have hn36 := nE36 hG
  obtain ⟨tf, m1, hn150, htf⟩ := id hT
  obtain ⟨hc1, hc2⟩ := hc
  refine T_body (I := mi_X9_restore) (lv := [_, _]) rfl (Nat.le_of_ble_eq_true rfl) rfl ?_
  refine R_aload_n rfl rfl ?_
  refine R_iload_n rfl rfl ?_
  refine R_scall rfl rfl ⟨Nat.le_of_ble_eq_true rfl, Nat.le_of_ble_eq_true rfl, Nat.zero_le _, Nat.zero_le _⟩ (mIsSlot_T ⟨by omega, by omega⟩ (fun z2 hz2 => aRes_i (rest := [_]) ?_))
  refine R_ifne rfl ⟨by omega, by omega⟩ (fun c5 => ?_) (fun c5 => ?_)
  · obtain ⟨x, rfl⟩ := Int.eq_ofNat_of_zero_le (show 0 ≤ c by omega)
    have hx : x < 2 := by omega
    obtain ⟨X, U, m8, m9, hsv⟩ := id hSv
    have hUx : U ((x : Int)).toNat = bI (sl x).isSome := by
      rcases hsv x hx with ⟨q1, q2⟩ | ⟨G2, q1, q2, -⟩
      · rw [q1]
        exact q2
      · rw [q1]
        exact q2
    have hU01 := bI01 (sl x).isSome
    rw [← hUx] at hU01
    refine R_aload_n rfl rfl ?_
    refine R_getfield rfl rfl (by omega) m0 rfl ?_
    refine R_iload_n rfl rfl ?_
    refine R_iaload rfl (Or.inl (by omega)) m9 ⟨by omega, by omega, by omega⟩ ?_
    refine R_iconst rfl ?_
    refine R_icmpne rfl ⟨by omega, by omega⟩ ⟨by decide, by decide⟩ (fun c19 => ?_) (fun c19 => ?_)
    · have hno : sl x = none := Option.not_isSome_iff_eq_none.mp (fun q => by have := bI_f hUx (by omega); rw [this] at q; cases q)
      have ho : opRestore (G, hist, sl, n, tx) x = (1 + 1, 0, (G, hist, sl, n, tx)) := (if_pos (by omega)).trans (by show (match sl x with | some G => _ | none => _) = _; rw [hno])
      refine R_iconst rfl ?_
      refine R_putfield rfl rfl (by omega) m0 (Nat.le_of_ble_eq_true rfl) (by first | trivial | exact trivial | omega) ?_
      have hM1 : isMg _ G 2 n hist.length := isMg_o (th' := 2) (tl' := n) (rm' := hist.length) hM
      refine R_aload_n rfl rfl ?_
      refine R_getfield rfl rfl (by omega) (va_up_self _ _ _) rfl ?_
      refine R_ifle rfl ⟨by decide, by decide⟩ (fun c0 => absurd c0 (by decide)) (fun _ => ?_)
      refine R_iconst rfl ?_
      exact R_ireturn rfl (fun q => absurd q (by decide)) (Nat.zero_le _) (Nat.zero_le _) (moQ_t hQ ho rfl (isMo_th hY) (fr_up fr.refl (by omega)))
    · obtain ⟨G2, hg2, hrow, hG2⟩ : ∃ G2, sl x = some G2 ∧ rwG (fun k => X (174 * x + k)) G2 ∧ okG G2 := by
        rcases hsv x hx with ⟨q1, q2⟩ | ⟨G2, q1, q2, q3, q4⟩
        · exact absurd ((show U ((x : Int)).toNat = 0 from q2).symm.trans (show U ((x : Int)).toNat = 1 by omega)) (by decide)
        · exact ⟨G2, q1, q3, q4⟩
      have ho : opRestore (G, hist, sl, n, tx) x = (0, ((nE G2 : Nat) : Int), (G2, [], sl, n, tx)) := (if_pos (by omega)).trans (by show (match sl x with | some G => _ | none => _) = _; rw [hg2])
      refine R_iconst rfl ?_
      refine R_goto rfl ?_
      refine R_putfield rfl rfl (by omega) m0 (Nat.le_of_ble_eq_true rfl) (by first | trivial | exact trivial | omega) ?_
      have hM1 : isMg _ G 0 n hist.length := isMg_o (th' := 0) (tl' := n) (rm' := hist.length) hM
      refine R_aload_n rfl rfl ?_
      refine R_getfield rfl rfl (by omega) (va_up_self _ _ _) rfl ?_
      refine R_ifle rfl ⟨by decide, by decide⟩ (fun _ => ?_) (fun c0 => absurd c0 (by decide))
      refine R_aload_n rfl rfl ?_
      refine R_getfield rfl rfl (by omega) (va_up_self _ _ _) rfl ?_
      refine R_sipush rfl ?_
      refine R_iload_n rfl rfl ?_
      refine R_imul rfl ?_
      refine R_aload_n rfl rfl ?_
      refine R_getfield rfl rfl (by omega) (va_up_self _ _ _) rfl ?_
      refine R_iconst rfl ?_
      refine R_scall rfl rfl ⟨Nat.le_of_ble_eq_true rfl, Nat.le_of_ble_eq_true rfl, Nat.zero_le _, Nat.zero_le _⟩ (mMove_T (s := 174 * x) (t := 0) (by omega) (by omega) (by decide) (by omega) (by decide) (by decide) (by decide) ((va_up_ne _ _ (by first | exact kne rfl | exact kz | exact kz.symm | omega)).trans m8) ((va_up_ne _ _ (by first | exact kne rfl | exact kz | exact kz.symm | omega)).trans m3) (by omega) rfl (fun h2 g2 e2 w1 w2 f2 => aRes_v (rest := []) ?_))
      refine R_aload_n rfl rfl ?_
      refine R_iconst rfl ?_
      refine R_putfield rfl rfl (by omega) ((f2 _ (by omega)).trans (va_up_self _ _ _)) (Nat.le_of_ble_eq_true rfl) (by first | trivial | exact trivial | omega) ?_
      refine R_aload_n rfl rfl ?_
      refine R_vcall rfl rfl ⟨(by omega), _, (va_up_self _ _ _)⟩ ⟨Nat.le_of_ble_eq_true rfl, Nat.le_of_ble_eq_true rfl, Nat.zero_le _, Nat.zero_le _⟩ (mFindEntries_T (isMa_o (th' := 0) (tl' := n) (rm' := 0) (E' := nE G) (isMa_st hM1.a e2 (rw_congr hrow hG2 (fun k hk => (congrArg g2 (Nat.zero_add k).symm).trans (w1 k hk))) (fun j hj => f2 j (by omega))) (va_up_self _ _ _) (fun j hj => va_up_ne _ _ hj)) hG2 hN (fun h3 hM3 f3 => aRes_v (rest := []) ?_))
      obtain ⟨S3, k0, k3, hR3⟩ := hM3.z
      refine R_aload_n rfl rfl ?_
      refine R_getfield rfl rfl (by omega) k0 rfl ?_
      exact R_ireturn rfl (fun q => absurd q (by decide)) (Nat.zero_le _) (Nat.zero_le _) (moQ_v hQ ho (isMo_g hY hM3 hG2 (by obtain ⟨H, e9, -⟩ := hHi; exact ⟨H, (f3 _ (by omega)).trans ((va_up_ne _ _ (by decide)).trans ((f2 _ (by omega)).trans ((va_up_ne _ _ (by decide)).trans e9))), Nat.zero_le _, fun j G9 hj => by rw [List.getElem?_nil] at hj; cases hj⟩) (fun j hj => (f3 j (by omega)).trans ((va_up_ne _ _ (by omega)).trans ((f2 j (by omega)).trans (va_up_ne _ _ (by omega)))))) (fun j hj => (f3 j (by omega)).trans ((va_up_ne _ _ (by omega)).trans ((f2 j (by omega)).trans (va_up_ne _ _ (by omega))))) rfl)
  · have ho : opRestore (G, hist, sl, n, tx) c = (0 + 1, 0, (G, hist, sl, n, tx)) := if_neg (by omega)
    refine R_iconst rfl ?_
    refine R_goto rfl ?_
    refine R_putfield rfl rfl (by omega) m0 (Nat.le_of_ble_eq_true rfl) (by first | trivial | exact trivial | omega) ?_
    have hM1 : isMg _ G 1 n hist.length := isMg_o (th' := 1) (tl' := n) (rm' := hist.length) hM
    refine R_aload_n rfl rfl ?_
    refine R_getfield rfl rfl (by omega) (va_up_self _ _ _) rfl ?_
    refine R_ifle rfl ⟨by decide, by decide⟩ (fun c0 => absurd c0 (by decide)) (fun _ => ?_)
    refine R_iconst rfl ?_
    exact R_ireturn rfl (fun q => absurd q (by decide)) (Nat.zero_le _) (Nat.zero_le _) (moQ_t hQ ho rfl (isMo_th hY) (fr_up fr.refl (by omega)))
