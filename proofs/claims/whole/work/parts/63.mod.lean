/-! ===== the model: connected; which rules are kept ===== -/
theorem spr_0 {G : Gr} {b : Bool} {c : Nat} {U : Nat → Bool} (h : (jn G b c && (U c || U (c + sp G b))) = false) : spr G b c U = U := if_neg (by rw [h]; decide)
theorem spr_1 {G : Gr} {b : Bool} {c : Nat} {U : Nat → Bool} (h : (jn G b c && (U c || U (c + sp G b))) = true) : spr G b c U = va_up (va_up U c true) (c + sp G b) true := if_pos h
theorem up1_b {R : Nat → Int} {U : Nat → Bool} {m a a' : Nat} {v : Bool} {z : Int} (ha : a' = a) (hz : z = bI v) (h : ∀ j, j < m → R j = bI (U j)) : ∀ j, j < m → va_up R a' z j = bI (va_up U a v j) := by
  subst ha
  intro j hj
  by_cases q : j = a'
  · rw [q, va_up_self, va_up_self, hz]
  · rw [va_up_ne _ _ q, va_up_ne _ _ q]
    exact h j hj
theorem isM0_f {h h' : AH} {G : Gr} {th tl rm en : Int} {a n : Nat} (hZ : isM0 h G th tl rm en) (hf : fr h h' a n) (ha : 125 ≤ a) : isM0 h' G th tl rm en := isM0_fr hZ (hf _ (by omega)) (hf _ (by omega))
theorem isMg_f {h h' : AH} {G : Gr} {th tl rm : Int} {a n : Nat} (hM : isMg h G th tl rm) (hf : fr h h' a n) (ha : 136 ≤ a) : isMg h' G th tl rm := isMg_fr hM (fun j hj => hf j (by omega))
theorem fr_2 {h : AH} {a : Nat} {u v : AE} : fr h (va_up (va_up h a u) a v) a 1 := fun j hj => (va_up_ne _ _ (by omega)).trans (va_up_ne _ _ (by omega))
theorem fr_0 {h : AH} {a : Nat} {u : AE} : fr h (va_up h a u) a 1 := fun j hj => va_up_ne _ _ (by omega)
theorem mco_r {d N : Nat} {G : Gr} {th tl rm en : Int} {Q : AQ} (hG : okG G) (hN : 139 ≤ N) {h : AH} (hZ : isM0 h G th tl rm en) {c : Nat} {zr : Int} {l3 : Option AV} (hc : c < qM G) {R : Nat → Int} {U : Nat → Bool} (m17 : h 136 = eI 36 R) (hRS : ∀ j, j < qM G → R j = bI (U j)) (k : ∀ h' R', isM0 h' G th tl rm en → h' 136 = eI 36 R' → (∀ j, j < qM G → R' j = bI (spr G false c U j)) → fr h h' 136 1 → Run mi_X9_isConnected (T (d + 2)) Q 93 [some (vR 122), some (vI zr), some (vI c), l3] [] h' N 0 0) : Run mi_X9_isConnected (T (d + 2)) Q 51 [some (vR 122), some (vI zr), some (vI c), l3] [] h N 0 0 := by
  obtain ⟨S, m0, m3, hR⟩ := id hZ
  obtain ⟨hr0, hr1, rL, rE, rS, hr110, rWn, rWl, hr167, rNl⟩ := id hR
  have r0 : S (0 : Int).toNat = (qR G : Int) := hr0
  have r1 : S (1 : Int).toNat = (qC G : Int) := hr1
  have r110 : S (110 : Int).toNat = (qW G : Int) := hr110
  have r167 : S (167 : Int).toNat = (qN G : Int) := hr167
  obtain ⟨hm4, hm36⟩ := hG.m
  have hmi := qM_int G
  obtain ⟨⟨hr2, hr6⟩, ⟨hc2, hc6⟩, gL, gB, gW, gWn, gWl, gN, gNl⟩ := id hG
  refine R_aload_n rfl rfl ?_
  refine R_iload_n rfl rfl ?_
  refine R_vcall rfl rfl ⟨(by omega), _, m0⟩ ⟨Nat.le_of_ble_eq_true rfl, Nat.le_of_ble_eq_true rfl, Nat.zero_le _, Nat.zero_le _⟩ (mEndsRight_T hZ hG hN rfl hc (fun z53 hz53 => aRes_i (rest := []) ?_))
  have hz9 := bI01 (!jn G false c)
  rw [← hz53] at hz9
  refine R_ifne rfl ⟨by omega, by omega⟩ (fun c56 => ?_) (fun c56 => ?_)
  · have hs : spr G false c U = U := spr_0 (by rw [bI_nt hz53 c56]; rfl)
    first | exact k _ _ hZ m17 (by rw [hs]; exact hRS) fr.refl | exact k _ _ (isM0_f hZ fr_2 (by decide)) (va_up_self _ _ _) (by rw [hs]; exact up1_b (by omega) rfl (up1_b (by omega) rfl hRS)) fr_2
  · have hj : jn G false c = true := bI_nf hz53 (by omega)
    obtain ⟨-, hlt, -⟩ := pos_next hG (jn_qP hj)
    have hlt : c + 1 < qM G := hlt
    have e1 : R ((c : Int)).toNat = bI (U c) := hRS c hc
    have e2 : R ((c : Int) + 1).toNat = bI (U (c + 1)) := by
      rw [show ((c : Int) + 1).toNat = c + 1 by omega]
      exact hRS _ hlt
    have e3 := bI01 (U c)
    have e4 := bI01 (U (c + 1))
    rw [← e1] at e3
    rw [← e2] at e4
    refine R_aload_n rfl rfl ?_
    refine R_getfield rfl rfl (by omega) m0 rfl ?_
    refine R_iload_n rfl rfl ?_
    refine R_iaload rfl (Or.inl (by omega)) m17 ⟨by omega, by omega, by omega⟩ ?_
    refine R_aload_n rfl rfl ?_
    refine R_getfield rfl rfl (by omega) m0 rfl ?_
    refine R_iload_n rfl rfl ?_
    refine R_iconst rfl ?_
    refine R_iadd rfl ?_
    refine R_iaload rfl (Or.inl (by omega)) m17 ⟨by omega, by omega, by omega⟩ ?_
    refine R_iadd rfl ?_
    refine R_ifle rfl ⟨by omega, by omega⟩ (fun c74 => ?_) (fun c74 => ?_)
    · have hs : spr G false c U = U := spr_0 (by
        show (jn G false c && (U c || U (c + 1))) = false
        rw [bI_f e1 (by omega), bI_f e2 (by omega)]
        exact Bool.and_false _)
      first | exact k _ _ hZ m17 (by rw [hs]; exact hRS) fr.refl | exact k _ _ (isM0_f hZ fr_2 (by decide)) (va_up_self _ _ _) (by rw [hs]; exact up1_b (by omega) rfl (up1_b (by omega) rfl hRS)) fr_2
    · have hs : spr G false c U = va_up (va_up U c true) (c + 1) true := spr_1 (by
        show (jn G false c && (U c || U (c + 1))) = true
        rw [hj]
        rcases e3 with q3 | q3
        · rw [bI_t e2 (by omega)]
          cases U c <;> rfl
        · rw [bI_t e1 (by omega)]
          rfl)
      refine R_aload_n rfl rfl ?_
      refine R_getfield rfl rfl (by omega) m0 rfl ?_
      refine R_iload_n rfl rfl ?_
      refine R_iconst rfl ?_
      refine R_iastore rfl (by omega) m17 ⟨by omega, by omega, by omega⟩ ?_
      refine R_aload_n rfl rfl ?_
      refine R_getfield rfl rfl (by omega) ((va_up_ne _ _ (by first | exact kne rfl | exact kz | exact kz.symm | omega)).trans m0) rfl ?_
      refine R_iload_n rfl rfl ?_
      refine R_iconst rfl ?_
      refine R_iadd rfl ?_
      refine R_iconst rfl ?_
      refine R_iastore rfl (by omega) (va_up_self _ _ _) ⟨by omega, by omega, by omega⟩ ?_
      first | exact k _ _ hZ m17 (by rw [hs]; exact hRS) fr.refl | exact k _ _ (isM0_f hZ fr_2 (by decide)) (va_up_self _ _ _) (by rw [hs]; exact up1_b (by omega) rfl (up1_b (by omega) rfl hRS)) fr_2
theorem mco_d {d N : Nat} {G : Gr} {th tl rm en : Int} {Q : AQ} (hG : okG G) (hN : 139 ≤ N) {h : AH} (hZ : isM0 h G th tl rm en) {c : Nat} {zr : Int} {zu : Int} (hzu : zu = c + qC G) (hc : c < qM G) {R : Nat → Int} {U : Nat → Bool} (m17 : h 136 = eI 36 R) (hRS : ∀ j, j < qM G → R j = bI (U j)) (k : ∀ h' R', isM0 h' G th tl rm en → h' 136 = eI 36 R' → (∀ j, j < qM G → R' j = bI (spr G true c U j)) → fr h h' 136 1 → Run mi_X9_isConnected (T (d + 2)) Q 140 [some (vR 122), some (vI zr), some (vI c), some (vI zu)] [] h' N 0 0) : Run mi_X9_isConnected (T (d + 2)) Q 102 [some (vR 122), some (vI zr), some (vI c), some (vI zu)] [] h N 0 0 := by
  obtain ⟨S, m0, m3, hR⟩ := id hZ
  obtain ⟨hr0, hr1, rL, rE, rS, hr110, rWn, rWl, hr167, rNl⟩ := id hR
  have r0 : S (0 : Int).toNat = (qR G : Int) := hr0
  have r1 : S (1 : Int).toNat = (qC G : Int) := hr1
  have r110 : S (110 : Int).toNat = (qW G : Int) := hr110
  have r167 : S (167 : Int).toNat = (qN G : Int) := hr167
  obtain ⟨hm4, hm36⟩ := hG.m
  have hmi := qM_int G
  obtain ⟨⟨hr2, hr6⟩, ⟨hc2, hc6⟩, gL, gB, gW, gWn, gWl, gN, gNl⟩ := id hG
  refine R_aload_n rfl rfl ?_
  refine R_iload_n rfl rfl ?_
  refine R_vcall rfl rfl ⟨(by omega), _, m0⟩ ⟨Nat.le_of_ble_eq_true rfl, Nat.le_of_ble_eq_true rfl, Nat.zero_le _, Nat.zero_le _⟩ (mEndsBelow_T hZ hG hN rfl hc (fun z104 hz104 => aRes_i (rest := []) ?_))
  have hz9 := bI01 (!jn G true c)
  rw [← hz104] at hz9
  refine R_ifne rfl ⟨by omega, by omega⟩ (fun c107 => ?_) (fun c107 => ?_)
  · have hs : spr G true c U = U := spr_0 (by rw [bI_nt hz104 c107]; rfl)
    first | exact k _ _ hZ m17 (by rw [hs]; exact hRS) fr.refl | exact k _ _ (isM0_f hZ fr_2 (by decide)) (va_up_self _ _ _) (by rw [hs]; exact up1_b (by omega) rfl (up1_b (by omega) rfl hRS)) fr_2
  · have hj : jn G true c = true := bI_nf hz104 (by omega)
    obtain ⟨-, hlt, -⟩ := pos_next hG (jn_qP hj)
    have hlt : c + qC G < qM G := hlt
    have e1 : R ((c : Int)).toNat = bI (U c) := hRS c hc
    have e2 : R (zu).toNat = bI (U (c + qC G)) := by
      rw [show (zu).toNat = c + qC G by omega]
      exact hRS _ hlt
    have e3 := bI01 (U c)
    have e4 := bI01 (U (c + qC G))
    rw [← e1] at e3
    rw [← e2] at e4
    refine R_aload_n rfl rfl ?_
    refine R_getfield rfl rfl (by omega) m0 rfl ?_
    refine R_iload_n rfl rfl ?_
    refine R_iaload rfl (Or.inl (by omega)) m17 ⟨by omega, by omega, by omega⟩ ?_
    refine R_aload_n rfl rfl ?_
    refine R_getfield rfl rfl (by omega) m0 rfl ?_
    refine R_iload_n rfl rfl ?_
    refine R_iaload rfl (Or.inl (by omega)) m17 ⟨by omega, by omega, by omega⟩ ?_
    refine R_iadd rfl ?_
    refine R_ifle rfl ⟨by omega, by omega⟩ (fun c123 => ?_) (fun c123 => ?_)
    · have hs : spr G true c U = U := spr_0 (by
        show (jn G true c && (U c || U (c + qC G))) = false
        rw [bI_f e1 (by omega), bI_f e2 (by omega)]
        exact Bool.and_false _)
      first | exact k _ _ hZ m17 (by rw [hs]; exact hRS) fr.refl | exact k _ _ (isM0_f hZ fr_2 (by decide)) (va_up_self _ _ _) (by rw [hs]; exact up1_b (by omega) rfl (up1_b (by omega) rfl hRS)) fr_2
    · have hs : spr G true c U = va_up (va_up U c true) (c + qC G) true := spr_1 (by
        show (jn G true c && (U c || U (c + qC G))) = true
        rw [hj]
        rcases e3 with q3 | q3
        · rw [bI_t e2 (by omega)]
          cases U c <;> rfl
        · rw [bI_t e1 (by omega)]
          rfl)
      refine R_aload_n rfl rfl ?_
      refine R_getfield rfl rfl (by omega) m0 rfl ?_
      refine R_iload_n rfl rfl ?_
      refine R_iconst rfl ?_
      refine R_iastore rfl (by omega) m17 ⟨by omega, by omega, by omega⟩ ?_
      refine R_aload_n rfl rfl ?_
      refine R_getfield rfl rfl (by omega) ((va_up_ne _ _ (by first | exact kne rfl | exact kz | exact kz.symm | omega)).trans m0) rfl ?_
      refine R_iload_n rfl rfl ?_
      refine R_iconst rfl ?_
      refine R_iastore rfl (by omega) (va_up_self _ _ _) ⟨by omega, by omega, by omega⟩ ?_
      first | exact k _ _ hZ m17 (by rw [hs]; exact hRS) fr.refl | exact k _ _ (isM0_f hZ fr_2 (by decide)) (va_up_self _ _ _) (by rw [hs]; exact up1_b (by omega) rfl (up1_b (by omega) rfl hRS)) fr_2
theorem mco_sw {d N : Nat} {G : Gr} {th tl rm en : Int} {Q : AQ} (hG : okG G) (hN : 139 ≤ N) {zr : Int} : ∀ (r i : Nat) (h : AH) (R : Nat → Int) (U : Nat → Bool) (zi : Int) (l3 : Option AV), i + r = qM G → zi = i → isM0 h G th tl rm en → h 136 = eI 36 R → (∀ j, j < qM G → R j = bI (U j)) → (∀ h' R' z' l', isM0 h' G th tl rm en → h' 136 = eI 36 R' → (∀ j, j < qM G → R' j = bI (swp G r i U j)) → fr h h' 136 1 → Run mi_X9_isConnected (T (d + 2)) Q 146 [some (vR 122), some (vI zr), some (vI z'), l'] [] h' N 0 0) → Run mi_X9_isConnected (T (d + 2)) Q 43 [some (vR 122), some (vI zr), some (vI zi), l3] [] h N 0 0 := by
  intro r
  induction r using Nat.strongRecOn with
  | ind r ih =>
  intro i h R U zi l3 hr hzi hZ m17 hRS k
  obtain ⟨S, m0, m3, hR⟩ := id hZ
  obtain ⟨hr0, hr1, rL, rE, rS, hr110, rWn, rWl, hr167, rNl⟩ := id hR
  have r0 : S (0 : Int).toNat = (qR G : Int) := hr0
  have r1 : S (1 : Int).toNat = (qC G : Int) := hr1
  have r110 : S (110 : Int).toNat = (qW G : Int) := hr110
  have r167 : S (167 : Int).toNat = (qN G : Int) := hr167
  obtain ⟨hm4, hm36⟩ := hG.m
  have hmi := qM_int G
  obtain ⟨⟨hr2, hr6⟩, ⟨hc2, hc6⟩, gL, gB, gW, gWn, gWl, gN, gNl⟩ := id hG
  refine R_iload_n rfl rfl ?_
  refine R_aload_n rfl rfl ?_
  refine R_vcall rfl rfl ⟨(by omega), _, m0⟩ ⟨Nat.le_of_ble_eq_true rfl, Nat.le_of_ble_eq_true rfl, Nat.zero_le _, Nat.zero_le _⟩ (mSize_T hZ hG hN (fun z45 hz45 => aRes_i (rest := [_]) ?_))
  refine R_icmpge rfl ⟨by omega, by omega⟩ ⟨by omega, by omega⟩ (fun c48 => ?_) (fun c48 => ?_)
  · have hr0 : r = 0 := by omega
    subst hr0
    exact k _ _ _ _ hZ m17 hRS fr.refl
  · obtain ⟨r, rfl⟩ : ∃ r1, r = r1 + 1 := ⟨r - 1, by omega⟩
    subst hzi
    refine mco_r hG hN hZ (c := i) (by omega) m17 hRS (fun h1 R1 hZ1 g1 hR1 f1 => ?_)
    obtain ⟨S1, n0, n3, hR9⟩ := id hZ1
    have r1n : S1 (1 : Int).toNat = (qC G : Int) := hR9.2.1
    refine R_iload_n rfl rfl ?_
    refine R_aload_n rfl rfl ?_
    refine R_getfield rfl rfl (by omega) n0 rfl ?_
    refine R_iconst rfl ?_
    refine R_iaload rfl (Or.inl (by omega)) n3 ⟨by omega, by omega, by omega⟩ ?_
    rw [r1n]
    refine R_iadd rfl ?_
    refine R_istore_n (lv' := [_, _, _, _]) rfl rfl ?_
    refine mco_d hG hN hZ1 (c := i) rfl (by omega) g1 hR1 (fun h2 R2 hZ2 g2 hR2 f2 => ?_)
    refine R_iinc (lv' := [_, _, _, _]) rfl rfl rfl ?_
    refine R_goto rfl ?_
    exact ih r (by omega) (i + 1) h2 R2 _ _ _ (by omega) (by omega) hZ2 g2 hR2 (fun h3 R3 z3 l3 hZ3 g3 hR3 f3 => k h3 R3 z3 l3 hZ3 g3 hR3 ((f1.trans f2).trans f3))
theorem mco_it {d N : Nat} {G : Gr} {th tl rm en : Int} {Q : AQ} (hG : okG G) (hN : 139 ≤ N) : ∀ (r i : Nat) (h : AH) (R : Nat → Int) (U : Nat → Bool) (zi : Int) (l2 l3 : Option AV), i + r = qM G → zi = i → isM0 h G th tl rm en → h 136 = eI 36 R → (∀ j, j < qM G → R j = bI (U j)) → (∀ h' R' z' l2' l3', isM0 h' G th tl rm en → h' 136 = eI 36 R' → (∀ j, j < qM G → R' j = bI (itr G r U j)) → fr h h' 136 1 → Run mi_X9_isConnected (T (d + 2)) Q 152 [some (vR 122), some (vI z'), l2', l3'] [] h' N 0 0) → Run mi_X9_isConnected (T (d + 2)) Q 33 [some (vR 122), some (vI zi), l2, l3] [] h N 0 0 := by
  intro r
  induction r using Nat.strongRecOn with
  | ind r ih =>
  intro i h R U zi l2 l3 hr hzi hZ m17 hRS k
  obtain ⟨S, m0, m3, hR⟩ := id hZ
  obtain ⟨hr0, hr1, rL, rE, rS, hr110, rWn, rWl, hr167, rNl⟩ := id hR
  have r0 : S (0 : Int).toNat = (qR G : Int) := hr0
  have r1 : S (1 : Int).toNat = (qC G : Int) := hr1
  have r110 : S (110 : Int).toNat = (qW G : Int) := hr110
  have r167 : S (167 : Int).toNat = (qN G : Int) := hr167
  obtain ⟨hm4, hm36⟩ := hG.m
  have hmi := qM_int G
  obtain ⟨⟨hr2, hr6⟩, ⟨hc2, hc6⟩, gL, gB, gW, gWn, gWl, gN, gNl⟩ := id hG
  refine R_iload_n rfl rfl ?_
  refine R_aload_n rfl rfl ?_
  refine R_vcall rfl rfl ⟨(by omega), _, m0⟩ ⟨Nat.le_of_ble_eq_true rfl, Nat.le_of_ble_eq_true rfl, Nat.zero_le _, Nat.zero_le _⟩ (mSize_T hZ hG hN (fun z35 hz35 => aRes_i (rest := [_]) ?_))
  refine R_icmpge rfl ⟨by omega, by omega⟩ ⟨by omega, by omega⟩ (fun c38 => ?_) (fun c38 => ?_)
  · have hr0 : r = 0 := by omega
    subst hr0
    exact k _ _ _ _ _ hZ m17 hRS fr.refl
  · obtain ⟨r, rfl⟩ : ∃ r1, r = r1 + 1 := ⟨r - 1, by omega⟩
    refine R_iconst rfl ?_
    refine R_istore_n (lv' := [_, _, _, _]) rfl rfl ?_
    refine mco_sw hG hN (qM G) 0 h R U _ _ (Nat.zero_add _) rfl hZ m17 hRS (fun h2 R2 z2 l2 hZ2 g2 hR2 f2 => ?_)
    refine R_iinc (lv' := [_, _, _, _]) rfl rfl rfl ?_
    refine R_goto rfl ?_
    exact ih r (by omega) (i + 1) h2 R2 _ _ _ _ (by omega) (by omega) hZ2 g2 hR2 (fun h3 R3 z3 l2 l3 hZ3 g3 hR3 f3 => k h3 R3 z3 l2 l3 hZ3 g3 hR3 (f2.trans f3))
theorem mco_i {d N : Nat} {G : Gr} {th tl rm en : Int} {Q : AQ} (hG : okG G) (hN : 139 ≤ N) {l2 l3 : Option AV} : ∀ (r i : Nat) (h : AH) (R : Nat → Int) (zi : Int), i + r = qM G → zi = i → isM0 h G th tl rm en → h 136 = eI 36 R → (∀ j, j < i → R j = bI (coS j)) → (∀ h' R' z', isM0 h' G th tl rm en → h' 136 = eI 36 R' → (∀ j, j < qM G → R' j = bI (coS j)) → fr h h' 136 1 → Run mi_X9_isConnected (T (d + 2)) Q 31 [some (vR 122), some (vI z'), l2, l3] [] h' N 0 0) → Run mi_X9_isConnected (T (d + 2)) Q 2 [some (vR 122), some (vI zi), l2, l3] [] h N 0 0 := by
  intro r
  induction r using Nat.strongRecOn with
  | ind r ih =>
  intro i h R zi hr hzi hZ m17 hRS k
  obtain ⟨S, m0, m3, hR⟩ := id hZ
  obtain ⟨hr0, hr1, rL, rE, rS, hr110, rWn, rWl, hr167, rNl⟩ := id hR
  have r0 : S (0 : Int).toNat = (qR G : Int) := hr0
  have r1 : S (1 : Int).toNat = (qC G : Int) := hr1
  have r110 : S (110 : Int).toNat = (qW G : Int) := hr110
  have r167 : S (167 : Int).toNat = (qN G : Int) := hr167
  obtain ⟨hm4, hm36⟩ := hG.m
  have hmi := qM_int G
  obtain ⟨⟨hr2, hr6⟩, ⟨hc2, hc6⟩, gL, gB, gW, gWn, gWl, gN, gNl⟩ := id hG
  refine R_iload_n rfl rfl ?_
  refine R_aload_n rfl rfl ?_
  refine R_vcall rfl rfl ⟨(by omega), _, m0⟩ ⟨Nat.le_of_ble_eq_true rfl, Nat.le_of_ble_eq_true rfl, Nat.zero_le _, Nat.zero_le _⟩ (mSize_T hZ hG hN (fun z4 hz4 => aRes_i (rest := [_]) ?_))
  refine R_icmpge rfl ⟨by omega, by omega⟩ ⟨by omega, by omega⟩ (fun c7 => ?_) (fun c7 => ?_)
  · have hr0 : r = 0 := by omega
    subst hr0
    have hRS2 : ∀ j, j < qM G → R j = bI (coS j) := fun j hj => hRS j (by omega)
    exact k _ _ _ hZ m17 hRS2 fr.refl
  · obtain ⟨r, rfl⟩ : ∃ r1, r = r1 + 1 := ⟨r - 1, by omega⟩
    refine R_aload_n rfl rfl ?_
    refine R_getfield rfl rfl (by omega) m0 rfl ?_
    refine R_iload_n rfl rfl ?_
    refine R_iload_n rfl rfl ?_
    refine R_ifne rfl ⟨by omega, by omega⟩ (fun c16 => ?_) (fun c16 => ?_)
    · have hv : bI (coS i) = 0 := by
        unfold coS
        rw [decide_eq_false (by omega)]
        rfl
      refine R_iconst rfl ?_
      refine R_iastore rfl (by omega) m17 ⟨by omega, by omega, by omega⟩ ?_
      refine R_iinc (lv' := [_, _, _, _]) rfl rfl rfl ?_
      refine R_goto rfl ?_
      exact ih r (by omega) (i + 1) _ _ _ (by omega) (by omega) (isM0_f hZ fr_0 (by decide)) (va_up_self _ _ _) (fun j hj => by
        by_cases q : j = zi.toNat
        · rw [q, va_up_self, show zi.toNat = i by omega, hv]
        · rw [va_up_ne _ _ q]
          exact hRS j (by omega)) (fun h1 R1 z1 hZ1 g1 hR1 f1 => k h1 R1 z1 hZ1 g1 hR1 (fr_0.trans f1))
    · have hv : bI (coS i) = 1 := by
        unfold coS
        rw [decide_eq_true (by omega)]
        rfl
      refine R_iconst rfl ?_
      refine R_goto rfl ?_
      refine R_iastore rfl (by omega) m17 ⟨by omega, by omega, by omega⟩ ?_
      refine R_iinc (lv' := [_, _, _, _]) rfl rfl rfl ?_
      refine R_goto rfl ?_
      exact ih r (by omega) (i + 1) _ _ _ (by omega) (by omega) (isM0_f hZ fr_0 (by decide)) (va_up_self _ _ _) (fun j hj => by
        by_cases q : j = zi.toNat
        · rw [q, va_up_self, show zi.toNat = i by omega, hv]
        · rw [va_up_ne _ _ q]
          exact hRS j (by omega)) (fun h1 R1 z1 hZ1 g1 hR1 f1 => k h1 R1 z1 hZ1 g1 hR1 (fr_0.trans f1))
theorem mco_F {d N : Nat} {G : Gr} {th tl rm en : Int} {Q : AQ} (hG : okG G) (hN : 139 ≤ N) {h : AH} (hZ : isM0 h G th tl rm en) {R : Nat → Int} {U : Nat → Bool} {l3 : Option AV} (m17 : h 136 = eI 36 R) (hRS : ∀ j, j < qM G → R j = bI (U j)) : ∀ (r i : Nat) (zi : Int), i + r = qM G → zi = i → (∀ z : Int, z = 0 → Q (.inl (some (vI z))) h N) → Run mi_X9_isConnected (T (d + 2)) Q 156 [some (vR 122), some (vI 0), some (vI zi), l3] [] h N 0 0 := by
  intro r
  induction r using Nat.strongRecOn with
  | ind r ih =>
  intro i zi hr hzi hQ
  obtain ⟨S, m0, m3, hR⟩ := id hZ
  obtain ⟨hr0, hr1, rL, rE, rS, hr110, rWn, rWl, hr167, rNl⟩ := id hR
  have r0 : S (0 : Int).toNat = (qR G : Int) := hr0
  have r1 : S (1 : Int).toNat = (qC G : Int) := hr1
  have r110 : S (110 : Int).toNat = (qW G : Int) := hr110
  have r167 : S (167 : Int).toNat = (qN G : Int) := hr167
  obtain ⟨hm4, hm36⟩ := hG.m
  have hmi := qM_int G
  obtain ⟨⟨hr2, hr6⟩, ⟨hc2, hc6⟩, gL, gB, gW, gWn, gWl, gN, gNl⟩ := id hG
  refine R_iload_n rfl rfl ?_
  refine R_aload_n rfl rfl ?_
  refine R_vcall rfl rfl ⟨(by omega), _, m0⟩ ⟨Nat.le_of_ble_eq_true rfl, Nat.le_of_ble_eq_true rfl, Nat.zero_le _, Nat.zero_le _⟩ (mSize_T hZ hG hN (fun z158 hz158 => aRes_i (rest := [_]) ?_))
  refine R_icmpge rfl ⟨by omega, by omega⟩ ⟨by omega, by omega⟩ (fun c161 => ?_) (fun c161 => ?_)
  · have hr0 : r = 0 := by omega
    subst hr0
    refine R_iload_n rfl rfl ?_
    exact R_ireturn rfl (fun _ => by omega) (Nat.zero_le _) (Nat.zero_le _) (hQ _ rfl)
  · obtain ⟨r, rfl⟩ : ∃ r1, r = r1 + 1 := ⟨r - 1, by omega⟩
    have e1 : R zi.toNat = bI (U i) := by
      rw [show zi.toNat = i by omega]
      exact hRS i (by omega)
    have e3 := bI01 (U i)
    rw [← e1] at e3
    refine R_iload_n rfl rfl ?_
    refine R_ifeq rfl ⟨by decide, by decide⟩ (fun _ => ?_) (fun c0 => absurd c0 (by decide))
    refine R_iconst rfl ?_
    refine R_istore_n (lv' := [_, _, _, _]) rfl rfl ?_
    refine R_iinc (lv' := [_, _, _, _]) rfl rfl rfl ?_
    refine R_goto rfl ?_
    exact ih r (by omega) (i + 1) _ (by omega) (by omega) hQ
theorem mco_T {d N : Nat} {G : Gr} {th tl rm en : Int} {Q : AQ} (hG : okG G) (hN : 139 ≤ N) {h : AH} (hZ : isM0 h G th tl rm en) {R : Nat → Int} {U : Nat → Bool} {l3 : Option AV} (m17 : h 136 = eI 36 R) (hRS : ∀ j, j < qM G → R j = bI (U j)) : ∀ (r i : Nat) (zi : Int), i + r = qM G → zi = i → (∀ z : Int, z = bI (alF U r i) → Q (.inl (some (vI z))) h N) → Run mi_X9_isConnected (T (d + 2)) Q 156 [some (vR 122), some (vI 1), some (vI zi), l3] [] h N 0 0 := by
  intro r
  induction r using Nat.strongRecOn with
  | ind r ih =>
  intro i zi hr hzi hQ
  obtain ⟨S, m0, m3, hR⟩ := id hZ
  obtain ⟨hr0, hr1, rL, rE, rS, hr110, rWn, rWl, hr167, rNl⟩ := id hR
  have r0 : S (0 : Int).toNat = (qR G : Int) := hr0
  have r1 : S (1 : Int).toNat = (qC G : Int) := hr1
  have r110 : S (110 : Int).toNat = (qW G : Int) := hr110
  have r167 : S (167 : Int).toNat = (qN G : Int) := hr167
  obtain ⟨hm4, hm36⟩ := hG.m
  have hmi := qM_int G
  obtain ⟨⟨hr2, hr6⟩, ⟨hc2, hc6⟩, gL, gB, gW, gWn, gWl, gN, gNl⟩ := id hG
  refine R_iload_n rfl rfl ?_
  refine R_aload_n rfl rfl ?_
  refine R_vcall rfl rfl ⟨(by omega), _, m0⟩ ⟨Nat.le_of_ble_eq_true rfl, Nat.le_of_ble_eq_true rfl, Nat.zero_le _, Nat.zero_le _⟩ (mSize_T hZ hG hN (fun z158 hz158 => aRes_i (rest := [_]) ?_))
  refine R_icmpge rfl ⟨by omega, by omega⟩ ⟨by omega, by omega⟩ (fun c161 => ?_) (fun c161 => ?_)
  · have hr0 : r = 0 := by omega
    subst hr0
    refine R_iload_n rfl rfl ?_
    exact R_ireturn rfl (fun _ => by omega) (Nat.zero_le _) (Nat.zero_le _) (hQ _ rfl)
  · obtain ⟨r, rfl⟩ : ∃ r1, r = r1 + 1 := ⟨r - 1, by omega⟩
    have e1 : R zi.toNat = bI (U i) := by
      rw [show zi.toNat = i by omega]
      exact hRS i (by omega)
    have e3 := bI01 (U i)
    rw [← e1] at e3
    refine R_iload_n rfl rfl ?_
    refine R_ifeq rfl ⟨by decide, by decide⟩ (fun c0 => absurd c0 (by decide)) (fun _ => ?_)
    refine R_aload_n rfl rfl ?_
    refine R_getfield rfl rfl (by omega) m0 rfl ?_
    refine R_iload_n rfl rfl ?_
    refine R_iaload rfl (Or.inl (by omega)) m17 ⟨by omega, by omega, by omega⟩ ?_
    refine R_iconst rfl ?_
    refine R_icmpne rfl ⟨by omega, by omega⟩ ⟨by decide, by decide⟩ (fun c175 => ?_) (fun c175 => ?_)
    · have hp : U i = false := bI_f e1 (by omega)
      refine R_iconst rfl ?_
      refine R_istore_n (lv' := [_, _, _, _]) rfl rfl ?_
      refine R_iinc (lv' := [_, _, _, _]) rfl rfl rfl ?_
      refine R_goto rfl ?_
      exact mco_F hG hN hZ m17 hRS r (i + 1) _ (by omega) (by omega) (fun z hz => hQ z (hz.trans (congrArg bI (al_hit (p := U) hp))))
    · have hp : U i = true := bI_t e1 (by omega)
      refine R_iconst rfl ?_
      refine R_goto rfl ?_
      refine R_istore_n (lv' := [_, _, _, _]) rfl rfl ?_
      refine R_iinc (lv' := [_, _, _, _]) rfl rfl rfl ?_
      refine R_goto rfl ?_
      exact ih r (by omega) (i + 1) _ (by omega) (by omega) (fun z hz => hQ z (hz.trans (congrArg bI (al_skip (p := U) hp))))
def isRe (h : AH) : Prop := ∃ R, h 136 = eI 36 R
theorem mIsConnected_T {d N : Nat} {h : AH} {G : Gr} {th tl rm en : Int} {Q : AQ} (hZ : isM0 h G th tl rm en) (hG : okG G) (hN : 139 ≤ N) (hE : isRe h) (hQ : ∀ h', isRe h' → fr h h' 136 1 → ∀ z : Int, z = bI (coG G) → Q (.inl (some (vI z))) h' N) : T (d + 3) 165 [vR 122] h N Q := by
  obtain ⟨S, m0, m3, hR⟩ := id hZ
  obtain ⟨hr0, hr1, rL, rE, rS, hr110, rWn, rWl, hr167, rNl⟩ := id hR
  have r0 : S (0 : Int).toNat = (qR G : Int) := hr0
  have r1 : S (1 : Int).toNat = (qC G : Int) := hr1
  have r110 : S (110 : Int).toNat = (qW G : Int) := hr110
  have r167 : S (167 : Int).toNat = (qN G : Int) := hr167
  obtain ⟨hm4, hm36⟩ := hG.m
  have hmi := qM_int G
  obtain ⟨⟨hr2, hr6⟩, ⟨hc2, hc6⟩, gL, gB, gW, gWn, gWl, gN, gNl⟩ := id hG
  obtain ⟨R, m17⟩ := hE
  refine T_body (I := mi_X9_isConnected) (lv := [_, _, _, _]) rfl (Nat.le_of_ble_eq_true rfl) rfl ?_
  refine R_iconst rfl ?_
  refine R_istore_n (lv' := [_, _, _, _]) rfl rfl ?_
  refine mco_i hG hN (qM G) 0 h R _ (Nat.zero_add _) rfl hZ m17 (fun j hj => absurd hj (by omega)) (fun h1 R1 z1 hZ1 g1 hR1 f1 => ?_)
  refine R_iconst rfl ?_
  refine R_istore_n (lv' := [_, _, _, _]) rfl rfl ?_
  refine mco_it hG hN (qM G) 0 h1 R1 coS _ _ _ (Nat.zero_add _) rfl hZ1 g1 hR1 (fun h2 R2 z2 l2 l3 hZ2 g2 hR2 f2 => ?_)
  refine R_iconst rfl ?_
  refine R_istore_n (lv' := [_, _, _, _]) rfl rfl ?_
  refine R_iconst rfl ?_
  refine R_istore_n (lv' := [_, _, _, _]) rfl rfl ?_
  exact mco_T hG hN hZ2 g2 hR2 (qM G) 0 _ (Nat.zero_add _) rfl (fun z hz => hQ h2 ⟨R2, g2⟩ (f1.trans f2) z hz)
theorem mKeeps_T {d N : Nat} {h : AH} {G : Gr} {th tl rm : Int} {Q : AQ} (hM : isMg h G th tl rm) (hG : okG G) (hN : 139 ≤ N) (hE : isRe h) {r : Nat} {rz : Int} (hrz : rz = r) (hr5 : r < 5) (hQ : ∀ h', isRe h' → fr h h' 136 1 → ∀ z : Int, z = bI (ruG G r) → Q (.inl (some (vI z))) h' N) : T (d + 4) 166 [vR 122, vI rz] h N Q := by
  obtain ⟨F, D, L, A, W, C, hZ, m11, m12, m13, m14, m15, m16, hE9, hA, hW, hC⟩ := id hM
  obtain ⟨S, m0, m3, hR⟩ := id hZ
  obtain ⟨hr0, hr1, rL, rE, rS, hr110, rWn, rWl, hr167, rNl⟩ := id hR
  have r0 : S (0 : Int).toNat = (qR G : Int) := hr0
  have r1 : S (1 : Int).toNat = (qC G : Int) := hr1
  have r110 : S (110 : Int).toNat = (qW G : Int) := hr110
  have r167 : S (167 : Int).toNat = (qN G : Int) := hr167
  obtain ⟨hm4, hm36⟩ := hG.m
  have hmi := qM_int G
  obtain ⟨⟨hr2, hr6⟩, ⟨hc2, hc6⟩, gL, gB, gW, gWn, gWl, gN, gNl⟩ := id hG
  have hn36 := nE36 hG
  refine T_body (I := mi_X9_keeps) (lv := [_, _]) rfl (Nat.le_of_ble_eq_true rfl) rfl ?_
  refine R_iload_n rfl rfl ?_
  refine R_switch rfl ⟨by omega, by omega⟩ (fun cd1 => ?_) ⟨fun c1 => ?_, fun c1 => ?_, fun c1 => ?_, fun c1 => ?_, trivial⟩
  · have hr : r = 4 := by omega
    refine R_aload_n rfl rfl ?_
    refine R_vcall rfl rfl ⟨(by omega), _, m0⟩ ⟨Nat.le_of_ble_eq_true rfl, Nat.le_of_ble_eq_true rfl, Nat.zero_le _, Nat.zero_le _⟩ (mIsConnected_T hM.z hG hN hE (fun h1 hE1 f1 z62 hz62 => aRes_i (rest := []) ?_))
    have hq : z62 = bI (ruG G r) := by
      rw [hr]
      exact hz62
    have h01 := bI01 (ruG G r)
    rw [← hq] at h01
    exact R_ireturn rfl (fun _ => by omega) (Nat.zero_le _) (Nat.zero_le _) (by first | exact hQ _ hE fr.refl _ hq | exact hQ h1 hE1 f1 _ hq)
  · have hr : r = 0 := by omega
    refine R_aload_n rfl rfl ?_
    refine R_vcall rfl rfl ⟨(by omega), _, m0⟩ ⟨Nat.le_of_ble_eq_true rfl, Nat.le_of_ble_eq_true rfl, Nat.zero_le _, Nat.zero_le _⟩ (mIsTurned_T hM.z hG hN (fun z33 hz33 => aRes_i (rest := []) ?_))
    have hq : z33 = bI (ruG G r) := by
      rw [hr]
      exact hz33
    have h01 := bI01 (ruG G r)
    rw [← hq] at h01
    exact R_ireturn rfl (fun _ => by omega) (Nat.zero_le _) (Nat.zero_le _) (by first | exact hQ _ hE fr.refl _ hq | exact hQ h1 hE1 f1 _ hq)
  · have hr : r = 1 := by omega
    refine R_aload_n rfl rfl ?_
    refine R_iconst rfl ?_
    refine R_vcall rfl rfl ⟨(by omega), _, m0⟩ ⟨Nat.le_of_ble_eq_true rfl, Nat.le_of_ble_eq_true rfl, Nat.zero_le _, Nat.zero_le _⟩ (mCellsIn_T (n := 0) hM hG hN rfl (by decide) (fun z39 hz39 => aRes_i (rest := []) ?_))
    have hle := ct_le (p := fun x => decide (enC G x = 0)) (qM G) 0
    have hci : ciG G 0 = ctF (fun x => decide (enC G x = 0)) (qM G) 0 := rfl
    refine R_ifne rfl ⟨by omega, by omega⟩ (fun c42 => ?_) (fun c42 => ?_)
    · have hq : (0 : Int) = bI (ruG G r) := by
        rw [hr]
        show (0 : Int) = bI (decide (ciG G 0 = 0))
        rw [decide_eq_false (by omega)]
        rfl
      refine R_iconst rfl ?_
      exact R_ireturn rfl (fun _ => by omega) (Nat.zero_le _) (Nat.zero_le _) (by first | exact hQ _ hE fr.refl _ hq | exact hQ h1 hE1 f1 _ hq)
    · have hq : (1 : Int) = bI (ruG G r) := by
        rw [hr]
        show (1 : Int) = bI (decide (ciG G 0 = 0))
        rw [decide_eq_true (by omega)]
        rfl
      refine R_iconst rfl ?_
      refine R_goto rfl ?_
      exact R_ireturn rfl (fun _ => by omega) (Nat.zero_le _) (Nat.zero_le _) (by first | exact hQ _ hE fr.refl _ hq | exact hQ h1 hE1 f1 _ hq)
  · have hr : r = 2 := by omega
    refine R_aload_n rfl rfl ?_
    refine R_vcall rfl rfl ⟨(by omega), _, m0⟩ ⟨Nat.le_of_ble_eq_true rfl, Nat.le_of_ble_eq_true rfl, Nat.zero_le _, Nat.zero_le _⟩ (mIsWellChecked_T hM hG hN (fun z52 hz52 => aRes_i (rest := []) ?_))
    have hq : z52 = bI (ruG G r) := by
      rw [hr]
      exact hz52
    have h01 := bI01 (ruG G r)
    rw [← hq] at h01
    exact R_ireturn rfl (fun _ => by omega) (Nat.zero_le _) (Nat.zero_le _) (by first | exact hQ _ hE fr.refl _ hq | exact hQ h1 hE1 f1 _ hq)
  · have hr : r = 3 := by omega
    refine R_aload_n rfl rfl ?_
    refine R_vcall rfl rfl ⟨(by omega), _, m0⟩ ⟨Nat.le_of_ble_eq_true rfl, Nat.le_of_ble_eq_true rfl, Nat.zero_le _, Nat.zero_le _⟩ (mIsWithoutPairs_T hM hG hN (fun z57 hz57 => aRes_i (rest := []) ?_))
    have hq : z57 = bI (ruG G r) := by
      rw [hr]
      exact hz57
    have h01 := bI01 (ruG G r)
    rw [← hq] at h01
    exact R_ireturn rfl (fun _ => by omega) (Nat.zero_le _) (Nat.zero_le _) (by first | exact hQ _ hE fr.refl _ hq | exact hQ h1 hE1 f1 _ hq)
theorem mkp_loop {d N : Nat} {G : Gr} {th tl rm : Int} {Q : AQ} (hG : okG G) (hN : 139 ≤ N) : ∀ (r i a : Nat) (h : AH) (za zi : Int), i + r = 5 → za = a → zi = i → isMg h G th tl rm → isRe h → (∀ h', isRe h' → fr h h' 136 1 → ∀ z : Int, z = ((a + ctF (ruG G) r i : Nat) : Int) → Q (.inl (some (vI z))) h' N) → Run mi_X9_kept (T (d + 4)) Q 4 [some (vR 122), some (vI za), some (vI zi)] [] h N 0 0 := by
  intro r
  induction r using Nat.strongRecOn with
  | ind r ih =>
  intro i a h za zi hr hza hzi hM hE hQ
  obtain ⟨F, D, L, A, W, C, hZ, m11, m12, m13, m14, m15, m16, hE9, hA, hW, hC⟩ := id hM
  obtain ⟨S, m0, m3, hR⟩ := id hZ
  obtain ⟨hr0, hr1, rL, rE, rS, hr110, rWn, rWl, hr167, rNl⟩ := id hR
  have r0 : S (0 : Int).toNat = (qR G : Int) := hr0
  have r1 : S (1 : Int).toNat = (qC G : Int) := hr1
  have r110 : S (110 : Int).toNat = (qW G : Int) := hr110
  have r167 : S (167 : Int).toNat = (qN G : Int) := hr167
  obtain ⟨hm4, hm36⟩ := hG.m
  have hmi := qM_int G
  obtain ⟨⟨hr2, hr6⟩, ⟨hc2, hc6⟩, gL, gB, gW, gWn, gWl, gN, gNl⟩ := id hG
  have hn36 := nE36 hG
  refine R_iload_n rfl rfl ?_
  refine R_iconst rfl ?_
  refine R_icmpge rfl ⟨by omega, by omega⟩ ⟨by decide, by decide⟩ (fun c6 => ?_) (fun c6 => ?_)
  · have hr0 : r = 0 := by omega
    subst hr0
    refine R_iload_n rfl rfl ?_
    exact R_ireturn rfl (fun q => absurd q (by decide)) (Nat.zero_le _) (Nat.zero_le _) (hQ _ hE fr.refl _ (by rw [hza]; rfl))
  · obtain ⟨r, rfl⟩ : ∃ r1, r = r1 + 1 := ⟨r - 1, by omega⟩
    refine R_iload_n rfl rfl ?_
    refine R_aload_n rfl rfl ?_
    refine R_iload_n rfl rfl ?_
    refine R_vcall rfl rfl ⟨(by omega), _, m0⟩ ⟨Nat.le_of_ble_eq_true rfl, Nat.le_of_ble_eq_true rfl, Nat.zero_le _, Nat.zero_le _⟩ (mKeeps_T (r := i) hM hG hN hE (by omega) (by omega) (fun h1 hE1 f1 z12 hz12 => aRes_i (rest := [_]) ?_))
    have h01 := bI01 (ruG G i)
    rw [← hz12] at h01
    refine R_ifeq rfl ⟨by omega, by omega⟩ (fun c15 => ?_) (fun c15 => ?_)
    · have hp : ruG G i = false := bI_f hz12 (by omega)
      refine R_iconst rfl ?_
      refine R_iadd rfl ?_
      refine R_istore_n (lv' := [_, _, _]) rfl rfl ?_
      refine R_iinc (lv' := [_, _, _]) rfl rfl rfl ?_
      refine R_goto rfl ?_
      first | exact ih r (by omega) (i + 1) (a + 1) h1 _ _ (by omega) (by omega) (by omega) (isMg_f hM f1 (by decide)) hE1 (fun h2 hE2 f2 z hz => hQ h2 hE2 (f1.trans f2) z (hz.trans (congrArg Nat.cast (ct_hit (p := ruG G) hp)))) | exact ih r (by omega) (i + 1) a h1 _ _ (by omega) (by omega) (by omega) (isMg_f hM f1 (by decide)) hE1 (fun h2 hE2 f2 z hz => hQ h2 hE2 (f1.trans f2) z (hz.trans (congrArg Nat.cast (ct_skip (p := ruG G) hp))))
    · have hp : ruG G i = true := bI_t hz12 (by omega)
      refine R_iconst rfl ?_
      refine R_goto rfl ?_
      refine R_iadd rfl ?_
      refine R_istore_n (lv' := [_, _, _]) rfl rfl ?_
      refine R_iinc (lv' := [_, _, _]) rfl rfl rfl ?_
      refine R_goto rfl ?_
      first | exact ih r (by omega) (i + 1) (a + 1) h1 _ _ (by omega) (by omega) (by omega) (isMg_f hM f1 (by decide)) hE1 (fun h2 hE2 f2 z hz => hQ h2 hE2 (f1.trans f2) z (hz.trans (congrArg Nat.cast (ct_hit (p := ruG G) hp)))) | exact ih r (by omega) (i + 1) a h1 _ _ (by omega) (by omega) (by omega) (isMg_f hM f1 (by decide)) hE1 (fun h2 hE2 f2 z hz => hQ h2 hE2 (f1.trans f2) z (hz.trans (congrArg Nat.cast (ct_skip (p := ruG G) hp))))
theorem mKept_T {d N : Nat} {h : AH} {G : Gr} {th tl rm : Int} {Q : AQ} (hM : isMg h G th tl rm) (hG : okG G) (hN : 139 ≤ N) (hE : isRe h) (hQ : ∀ h', isRe h' → fr h h' 136 1 → ∀ z : Int, z = (kpG G : Nat) → Q (.inl (some (vI z))) h' N) : T (d + 5) 167 [vR 122] h N Q := by
  obtain ⟨F, D, L, A, W, C, hZ, m11, m12, m13, m14, m15, m16, hE9, hA, hW, hC⟩ := id hM
  obtain ⟨S, m0, m3, hR⟩ := id hZ
  obtain ⟨hr0, hr1, rL, rE, rS, hr110, rWn, rWl, hr167, rNl⟩ := id hR
  have r0 : S (0 : Int).toNat = (qR G : Int) := hr0
  have r1 : S (1 : Int).toNat = (qC G : Int) := hr1
  have r110 : S (110 : Int).toNat = (qW G : Int) := hr110
  have r167 : S (167 : Int).toNat = (qN G : Int) := hr167
  obtain ⟨hm4, hm36⟩ := hG.m
  have hmi := qM_int G
  obtain ⟨⟨hr2, hr6⟩, ⟨hc2, hc6⟩, gL, gB, gW, gWn, gWl, gN, gNl⟩ := id hG
  have hn36 := nE36 hG
  refine T_body (I := mi_X9_kept) (lv := [_, _, _]) rfl (Nat.le_of_ble_eq_true rfl) rfl ?_
  refine R_iconst rfl ?_
  refine R_istore_n (lv' := [_, _, _]) rfl rfl ?_
  refine R_iconst rfl ?_
  refine R_istore_n (lv' := [_, _, _]) rfl rfl ?_
  exact mkp_loop hG hN 5 0 0 h _ _ rfl rfl rfl hM hE (fun h1 hE1 f1 z hz => hQ h1 hE1 f1 z (hz.trans (congrArg Nat.cast (Nat.zero_add _))))
