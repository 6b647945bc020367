/-! ===== the state: what writes ===== -/
def setL (G : Gr) (c : Nat) (z : Int) : Gr := (qR G, qC G, va_up (qL G) c z, qE G, qS G, qW G, qWn G, qWl G, qN G, qNl G)
def setBr (G : Gr) (c : Nat) (b : Bool) (v : Bool) : Gr := match b with
  | true => (qR G, qC G, qL G, qE G, va_up (qS G) c v, qW G, qWn G, qWl G, qN G, qNl G)
  | false => (qR G, qC G, qL G, va_up (qE G) c v, qS G, qW G, qWn G, qWl G, qN G, qNl G)
def begW (G : Gr) : Gr := (qR G, qC G, qL G, qE G, qS G, qW G + 1, va_up (qWn G) (qW G) 0, qWl G, qN G, qNl G)
/-- all else stays -/
def fr (h h' : AH) (a n : Nat) : Prop := ∀ j, (j < a ∨ a + n ≤ j) → h' j = h j
theorem ok_setL {G : Gr} (hG : okG G) {c : Nat} {z : Int} (hz : z = 0 ∨ isLet z) : okG (setL G c z) := by
  obtain ⟨g1, g2, g3, g4⟩ := hG
  refine ⟨g1, g2, fun j hj => ?_, g4⟩
  show va_up (qL G) c z j = 0 ∨ isLet (va_up (qL G) c z j)
  by_cases h : j = c
  · subst h
    rw [va_up_self]
    exact hz
  · rw [va_up_ne _ _ h]
    exact g3 j hj
theorem qP_setBr {G : Gr} {c : Nat} {b v : Bool} {c' : Nat} {b' : Bool} : qP (setBr G c b v) c' b' ↔ qP G c' b' := by
  cases b <;> exact Iff.rfl
theorem ok_setBr {G : Gr} (hG : okG G) {c : Nat} {b v : Bool} (hp : qP G c b) : okG (setBr G c b v) := by
  obtain ⟨g1, g2, g3, g4, g5⟩ := hG
  have key : ∀ b' c', qB (setBr G c b v) b' c' = true → qP G c' b' := by
    intro b' c' h
    cases b <;> cases b'
    · have h : va_up (qE G) c v c' = true := h
      by_cases hc : c' = c
      · subst hc; exact hp
      · rw [va_up_ne _ _ hc] at h; exact g4 false c' h
    · exact g4 true c' h
    · exact g4 false c' h
    · have h : va_up (qS G) c v c' = true := h
      by_cases hc : c' = c
      · subst hc; exact hp
      · rw [va_up_ne _ _ hc] at h; exact g4 true c' h
  cases b
  · exact ⟨g1, g2, g3, fun b' c' h => key b' c' h, g5⟩
  · exact ⟨g1, g2, g3, fun b' c' h => key b' c' h, g5⟩
theorem setLetter_T {d k N : Nat} {h : AH} {G : Gr} {Q : AQ} (hS : isSt h k G) (hG : okG G) (hN : k + 5 ≤ N) {c z : Int} (hc : 0 ≤ c ∧ c < qM G) (hQ : ∀ h', isSt h' k (setL G c.toNat z) → fr h h' k 5 → Q (.inl none) h' N) : T (d + 2) 62 [vR k, vI c, vI z] h N Q := by
  obtain ⟨rb, bb, L, WL, WT, LN, e0, e1, e2, e3, e4, hrb, hbb, hL, hWL, hWT, hLN⟩ := id hS
  obtain ⟨hm4, hm36⟩ := hG.m
  have hmi := qM_int G
  obtain ⟨⟨hr2, hr6⟩, ⟨hc2, hc6⟩, gL, gB, gW, gWn, gWl, gN, gNl⟩ := id hG
  obtain ⟨hc1, hcx⟩ := id hc
  refine T_body (I := mi_X6_setLetter) (lv := [_, _, _]) rfl (Nat.le_of_ble_eq_true rfl) rfl ?_
  refine R_aload_n rfl rfl ?_
  refine R_iload_n rfl rfl ?_
  refine R_vcall rfl rfl ⟨(by omega), _, e0⟩ ⟨Nat.le_of_ble_eq_true rfl, Nat.le_of_ble_eq_true rfl, Nat.zero_le _, Nat.zero_le _⟩ (hasCell_T hS hG hN ⟨by omega, by omega⟩ (fun z2 hz2 => aRes_i (rest := []) ?_))
  refine R_ifeq rfl ⟨by omega, by omega⟩ (fun c5 => ?_) (fun c5 => ?_)
  · exact absurd c5 (by omega)
  · refine R_aload_n rfl rfl ?_
    refine R_getfield rfl rfl (by omega) e0 rfl ?_
    refine R_iload_n rfl rfl ?_
    refine R_iload_n rfl rfl ?_
    refine R_iastore rfl (by omega) e1 ⟨by omega, by omega, by omega⟩ ?_
    exact R_return rfl (Nat.zero_le _) (Nat.zero_le _) (hQ _ ⟨rb, bb, va_up L c.toNat z, WL, WT, LN, (by rw [va_up_ne _ _ (by omega)]; exact e0), va_up_self _ _ _, (by rw [va_up_ne _ _ (by omega)]; exact e2), (by rw [va_up_ne _ _ (by omega)]; exact e3), (by rw [va_up_ne _ _ (by omega)]; exact e4), hrb, hbb, fun j hj => (by
      show va_up L c.toNat z j = va_up (qL G) c.toNat z j
      by_cases hq : j = c.toNat
      · rw [hq, va_up_self, va_up_self]
      · rw [va_up_ne _ _ hq, va_up_ne _ _ hq]; exact hL j hj), hWL, hWT, hLN⟩ (fun j hj => va_up_ne _ _ (by omega)))
theorem aCpy_full {f g : Nat → Int} {n j : Nat} (h : j < n) : aCpy f g 0 0 n j = f j := by
  simp [aCpy, h]
theorem copyFrom_T {d k k2 N : Nat} {h : AH} {G G0 : Gr} {Q : AQ} (hS0 : isSt h k G0) (hS : isSt h k2 G) (hG : okG G) (hN : k + 5 ≤ N ∧ k2 + 5 ≤ N) (hk : k + 5 ≤ k2 ∨ k2 + 5 ≤ k) (hQ : ∀ h', isSt h' k G → fr h h' k 5 → Q (.inl none) h' N) : T (d + 1) 55 [vR k, vR k2] h N Q := by
  obtain ⟨rb, bb, L, WL, WT, LN, e0, e1, e2, e3, e4, hrb, hbb, hL, hWL, hWT, hLN⟩ := id hS
  obtain ⟨hm4, hm36⟩ := hG.m
  have hmi := qM_int G
  obtain ⟨⟨hr2, hr6⟩, ⟨hc2, hc6⟩, gL, gB, gW, gWn, gWl, gN, gNl⟩ := id hG
  obtain ⟨rb0, bb0, L0, WL0, WT0, LN0, d0, d1, d2, d3, d4, -⟩ := hS0
  refine T_body (I := mi_X6_copyFrom) (lv := [_, _]) rfl (Nat.le_of_ble_eq_true rfl) rfl ?_
  refine R_aload_n rfl rfl ?_
  refine R_aload_n rfl rfl ?_
  refine R_getfield rfl rfl (by omega) e0 rfl ?_
  refine R_putfield rfl rfl (by omega) d0 (Nat.le_of_ble_eq_true rfl) (by first | trivial | exact trivial | omega) ?_
  refine R_aload_n rfl rfl ?_
  refine R_aload_n rfl rfl ?_
  refine R_getfield rfl rfl (by omega) ((va_up_ne _ _ (by first | exact kne rfl | exact kz | exact kz.symm | omega)).trans e0) rfl ?_
  refine R_putfield rfl rfl (by omega) (va_up_self _ _ _) (Nat.le_of_ble_eq_true rfl) (by first | trivial | exact trivial | omega) ?_
  refine R_aload_n rfl rfl ?_
  refine R_aload_n rfl rfl ?_
  refine R_getfield rfl rfl (by omega) ((va_up_ne _ _ (by first | exact kne rfl | exact kz | exact kz.symm | omega)).trans ((va_up_ne _ _ (by first | exact kne rfl | exact kz | exact kz.symm | omega)).trans e0)) rfl ?_
  refine R_putfield rfl rfl (by omega) (va_up_self _ _ _) (Nat.le_of_ble_eq_true rfl) (by first | trivial | exact trivial | omega) ?_
  refine R_aload_n rfl rfl ?_
  refine R_aload_n rfl rfl ?_
  refine R_getfield rfl rfl (by omega) ((va_up_ne _ _ (by first | exact kne rfl | exact kz | exact kz.symm | omega)).trans ((va_up_ne _ _ (by first | exact kne rfl | exact kz | exact kz.symm | omega)).trans ((va_up_ne _ _ (by first | exact kne rfl | exact kz | exact kz.symm | omega)).trans e0))) rfl ?_
  refine R_putfield rfl rfl (by omega) (va_up_self _ _ _) (Nat.le_of_ble_eq_true rfl) (by first | trivial | exact trivial | omega) ?_
  refine R_aload_n rfl rfl ?_
  refine R_aload_n rfl rfl ?_
  refine R_getfield rfl rfl (by omega) ((va_up_ne _ _ (by first | exact kne rfl | exact kz | exact kz.symm | omega)).trans ((va_up_ne _ _ (by first | exact kne rfl | exact kz | exact kz.symm | omega)).trans ((va_up_ne _ _ (by first | exact kne rfl | exact kz | exact kz.symm | omega)).trans ((va_up_ne _ _ (by first | exact kne rfl | exact kz | exact kz.symm | omega)).trans e0)))) rfl ?_
  refine R_putfield rfl rfl (by omega) (va_up_self _ _ _) (Nat.le_of_ble_eq_true rfl) (by first | trivial | exact trivial | omega) ?_
  refine R_aload_n rfl rfl ?_
  refine R_aload_n rfl rfl ?_
  refine R_getfield rfl rfl (by omega) ((va_up_ne _ _ (by first | exact kne rfl | exact kz | exact kz.symm | omega)).trans ((va_up_ne _ _ (by first | exact kne rfl | exact kz | exact kz.symm | omega)).trans ((va_up_ne _ _ (by first | exact kne rfl | exact kz | exact kz.symm | omega)).trans ((va_up_ne _ _ (by first | exact kne rfl | exact kz | exact kz.symm | omega)).trans ((va_up_ne _ _ (by first | exact kne rfl | exact kz | exact kz.symm | omega)).trans e0))))) rfl ?_
  refine R_putfield rfl rfl (by omega) (va_up_self _ _ _) (Nat.le_of_ble_eq_true rfl) (by first | trivial | exact trivial | omega) ?_
  refine R_aload_n rfl rfl ?_
  refine R_getfield rfl rfl (by omega) ((va_up_ne _ _ (by first | exact kne rfl | exact kz | exact kz.symm | omega)).trans ((va_up_ne _ _ (by first | exact kne rfl | exact kz | exact kz.symm | omega)).trans ((va_up_ne _ _ (by first | exact kne rfl | exact kz | exact kz.symm | omega)).trans ((va_up_ne _ _ (by first | exact kne rfl | exact kz | exact kz.symm | omega)).trans ((va_up_ne _ _ (by first | exact kne rfl | exact kz | exact kz.symm | omega)).trans ((va_up_ne _ _ (by first | exact kne rfl | exact kz | exact kz.symm | omega)).trans e0)))))) rfl ?_
  refine R_iconst rfl ?_
  refine R_aload_n rfl rfl ?_
  refine R_getfield rfl rfl (by omega) (va_up_self _ _ _) rfl ?_
  refine R_iconst rfl ?_
  refine R_bipush rfl ?_
  refine R_copy rfl rfl (by omega) (by omega) (Nat.le_of_ble_eq_true rfl) ((va_up_ne _ _ (by first | exact kne rfl | exact kz | exact kz.symm | omega)).trans ((va_up_ne _ _ (by first | exact kne rfl | exact kz | exact kz.symm | omega)).trans ((va_up_ne _ _ (by first | exact kne rfl | exact kz | exact kz.symm | omega)).trans ((va_up_ne _ _ (by first | exact kne rfl | exact kz | exact kz.symm | omega)).trans ((va_up_ne _ _ (by first | exact kne rfl | exact kz | exact kz.symm | omega)).trans ((va_up_ne _ _ (by first | exact kne rfl | exact kz | exact kz.symm | omega)).trans e1)))))) ((va_up_ne _ _ (by first | exact kne rfl | exact kz | exact kz.symm | omega)).trans ((va_up_ne _ _ (by first | exact kne rfl | exact kz | exact kz.symm | omega)).trans ((va_up_ne _ _ (by first | exact kne rfl | exact kz | exact kz.symm | omega)).trans ((va_up_ne _ _ (by first | exact kne rfl | exact kz | exact kz.symm | omega)).trans ((va_up_ne _ _ (by first | exact kne rfl | exact kz | exact kz.symm | omega)).trans ((va_up_ne _ _ (by first | exact kne rfl | exact kz | exact kz.symm | omega)).trans d1)))))) ⟨by omega, by omega, by omega, by omega, by omega, by omega, by omega⟩ ?_
  refine R_aload_n rfl rfl ?_
  refine R_getfield rfl rfl (by omega) ((va_up_ne _ _ (by first | exact kne rfl | exact kz | exact kz.symm | omega)).trans ((va_up_ne _ _ (by first | exact kne rfl | exact kz | exact kz.symm | omega)).trans ((va_up_ne _ _ (by first | exact kne rfl | exact kz | exact kz.symm | omega)).trans ((va_up_ne _ _ (by first | exact kne rfl | exact kz | exact kz.symm | omega)).trans ((va_up_ne _ _ (by first | exact kne rfl | exact kz | exact kz.symm | omega)).trans ((va_up_ne _ _ (by first | exact kne rfl | exact kz | exact kz.symm | omega)).trans ((va_up_ne _ _ (by first | exact kne rfl | exact kz | exact kz.symm | omega)).trans e0))))))) rfl ?_
  refine R_iconst rfl ?_
  refine R_aload_n rfl rfl ?_
  refine R_getfield rfl rfl (by omega) ((va_up_ne _ _ (by first | exact kne rfl | exact kz | exact kz.symm | omega)).trans (va_up_self _ _ _)) rfl ?_
  refine R_iconst rfl ?_
  refine R_bipush rfl ?_
  refine R_copy rfl rfl (by omega) (by omega) (Nat.le_of_ble_eq_true rfl) ((va_up_ne _ _ (by first | exact kne rfl | exact kz | exact kz.symm | omega)).trans ((va_up_ne _ _ (by first | exact kne rfl | exact kz | exact kz.symm | omega)).trans ((va_up_ne _ _ (by first | exact kne rfl | exact kz | exact kz.symm | omega)).trans ((va_up_ne _ _ (by first | exact kne rfl | exact kz | exact kz.symm | omega)).trans ((va_up_ne _ _ (by first | exact kne rfl | exact kz | exact kz.symm | omega)).trans ((va_up_ne _ _ (by first | exact kne rfl | exact kz | exact kz.symm | omega)).trans ((va_up_ne _ _ (by first | exact kne rfl | exact kz | exact kz.symm | omega)).trans e2))))))) ((va_up_ne _ _ (by first | exact kne rfl | exact kz | exact kz.symm | omega)).trans ((va_up_ne _ _ (by first | exact kne rfl | exact kz | exact kz.symm | omega)).trans ((va_up_ne _ _ (by first | exact kne rfl | exact kz | exact kz.symm | omega)).trans ((va_up_ne _ _ (by first | exact kne rfl | exact kz | exact kz.symm | omega)).trans ((va_up_ne _ _ (by first | exact kne rfl | exact kz | exact kz.symm | omega)).trans ((va_up_ne _ _ (by first | exact kne rfl | exact kz | exact kz.symm | omega)).trans ((va_up_ne _ _ (by first | exact kne rfl | exact kz | exact kz.symm | omega)).trans d2))))))) ⟨by omega, by omega, by omega, by omega, by omega, by omega, by omega⟩ ?_
  refine R_aload_n rfl rfl ?_
  refine R_getfield rfl rfl (by omega) ((va_up_ne _ _ (by first | exact kne rfl | exact kz | exact kz.symm | omega)).trans ((va_up_ne _ _ (by first | exact kne rfl | exact kz | exact kz.symm | omega)).trans ((va_up_ne _ _ (by first | exact kne rfl | exact kz | exact kz.symm | omega)).trans ((va_up_ne _ _ (by first | exact kne rfl | exact kz | exact kz.symm | omega)).trans ((va_up_ne _ _ (by first | exact kne rfl | exact kz | exact kz.symm | omega)).trans ((va_up_ne _ _ (by first | exact kne rfl | exact kz | exact kz.symm | omega)).trans ((va_up_ne _ _ (by first | exact kne rfl | exact kz | exact kz.symm | omega)).trans ((va_up_ne _ _ (by first | exact kne rfl | exact kz | exact kz.symm | omega)).trans e0)))))))) rfl ?_
  refine R_iconst rfl ?_
  refine R_aload_n rfl rfl ?_
  refine R_getfield rfl rfl (by omega) ((va_up_ne _ _ (by first | exact kne rfl | exact kz | exact kz.symm | omega)).trans ((va_up_ne _ _ (by first | exact kne rfl | exact kz | exact kz.symm | omega)).trans (va_up_self _ _ _))) rfl ?_
  refine R_iconst rfl ?_
  refine R_bipush rfl ?_
  refine R_copy rfl rfl (by omega) (by omega) (Nat.le_of_ble_eq_true rfl) ((va_up_ne _ _ (by first | exact kne rfl | exact kz | exact kz.symm | omega)).trans ((va_up_ne _ _ (by first | exact kne rfl | exact kz | exact kz.symm | omega)).trans ((va_up_ne _ _ (by first | exact kne rfl | exact kz | exact kz.symm | omega)).trans ((va_up_ne _ _ (by first | exact kne rfl | exact kz | exact kz.symm | omega)).trans ((va_up_ne _ _ (by first | exact kne rfl | exact kz | exact kz.symm | omega)).trans ((va_up_ne _ _ (by first | exact kne rfl | exact kz | exact kz.symm | omega)).trans ((va_up_ne _ _ (by first | exact kne rfl | exact kz | exact kz.symm | omega)).trans ((va_up_ne _ _ (by first | exact kne rfl | exact kz | exact kz.symm | omega)).trans e3)))))))) ((va_up_ne _ _ (by first | exact kne rfl | exact kz | exact kz.symm | omega)).trans ((va_up_ne _ _ (by first | exact kne rfl | exact kz | exact kz.symm | omega)).trans ((va_up_ne _ _ (by first | exact kne rfl | exact kz | exact kz.symm | omega)).trans ((va_up_ne _ _ (by first | exact kne rfl | exact kz | exact kz.symm | omega)).trans ((va_up_ne _ _ (by first | exact kne rfl | exact kz | exact kz.symm | omega)).trans ((va_up_ne _ _ (by first | exact kne rfl | exact kz | exact kz.symm | omega)).trans ((va_up_ne _ _ (by first | exact kne rfl | exact kz | exact kz.symm | omega)).trans ((va_up_ne _ _ (by first | exact kne rfl | exact kz | exact kz.symm | omega)).trans d3)))))))) ⟨by omega, by omega, by omega, by omega, by omega, by omega, by omega⟩ ?_
  refine R_aload_n rfl rfl ?_
  refine R_getfield rfl rfl (by omega) ((va_up_ne _ _ (by first | exact kne rfl | exact kz | exact kz.symm | omega)).trans ((va_up_ne _ _ (by first | exact kne rfl | exact kz | exact kz.symm | omega)).trans ((va_up_ne _ _ (by first | exact kne rfl | exact kz | exact kz.symm | omega)).trans ((va_up_ne _ _ (by first | exact kne rfl | exact kz | exact kz.symm | omega)).trans ((va_up_ne _ _ (by first | exact kne rfl | exact kz | exact kz.symm | omega)).trans ((va_up_ne _ _ (by first | exact kne rfl | exact kz | exact kz.symm | omega)).trans ((va_up_ne _ _ (by first | exact kne rfl | exact kz | exact kz.symm | omega)).trans ((va_up_ne _ _ (by first | exact kne rfl | exact kz | exact kz.symm | omega)).trans ((va_up_ne _ _ (by first | exact kne rfl | exact kz | exact kz.symm | omega)).trans e0))))))))) rfl ?_
  refine R_iconst rfl ?_
  refine R_aload_n rfl rfl ?_
  refine R_getfield rfl rfl (by omega) ((va_up_ne _ _ (by first | exact kne rfl | exact kz | exact kz.symm | omega)).trans ((va_up_ne _ _ (by first | exact kne rfl | exact kz | exact kz.symm | omega)).trans ((va_up_ne _ _ (by first | exact kne rfl | exact kz | exact kz.symm | omega)).trans (va_up_self _ _ _)))) rfl ?_
  refine R_iconst rfl ?_
  refine R_bipush rfl ?_
  refine R_copy rfl rfl (by omega) (by omega) (Nat.le_of_ble_eq_true rfl) ((va_up_ne _ _ (by first | exact kne rfl | exact kz | exact kz.symm | omega)).trans ((va_up_ne _ _ (by first | exact kne rfl | exact kz | exact kz.symm | omega)).trans ((va_up_ne _ _ (by first | exact kne rfl | exact kz | exact kz.symm | omega)).trans ((va_up_ne _ _ (by first | exact kne rfl | exact kz | exact kz.symm | omega)).trans ((va_up_ne _ _ (by first | exact kne rfl | exact kz | exact kz.symm | omega)).trans ((va_up_ne _ _ (by first | exact kne rfl | exact kz | exact kz.symm | omega)).trans ((va_up_ne _ _ (by first | exact kne rfl | exact kz | exact kz.symm | omega)).trans ((va_up_ne _ _ (by first | exact kne rfl | exact kz | exact kz.symm | omega)).trans ((va_up_ne _ _ (by first | exact kne rfl | exact kz | exact kz.symm | omega)).trans e4))))))))) ((va_up_ne _ _ (by first | exact kne rfl | exact kz | exact kz.symm | omega)).trans ((va_up_ne _ _ (by first | exact kne rfl | exact kz | exact kz.symm | omega)).trans ((va_up_ne _ _ (by first | exact kne rfl | exact kz | exact kz.symm | omega)).trans ((va_up_ne _ _ (by first | exact kne rfl | exact kz | exact kz.symm | omega)).trans ((va_up_ne _ _ (by first | exact kne rfl | exact kz | exact kz.symm | omega)).trans ((va_up_ne _ _ (by first | exact kne rfl | exact kz | exact kz.symm | omega)).trans ((va_up_ne _ _ (by first | exact kne rfl | exact kz | exact kz.symm | omega)).trans ((va_up_ne _ _ (by first | exact kne rfl | exact kz | exact kz.symm | omega)).trans ((va_up_ne _ _ (by first | exact kne rfl | exact kz | exact kz.symm | omega)).trans d4))))))))) ⟨by omega, by omega, by omega, by omega, by omega, by omega, by omega⟩ ?_
  exact R_return rfl (Nat.zero_le _) (Nat.zero_le _) (hQ _ ⟨rb, bb, aCpy L L0 0 0 36, aCpy WL WL0 0 0 8, aCpy WT WT0 0 0 48, aCpy LN LN0 0 0 6, (by (repeat rw [va_up_ne _ _ (by omega)]); first | exact va_up_self _ _ _ | exact d0), (by (repeat rw [va_up_ne _ _ (by omega)]); first | exact va_up_self _ _ _ | exact d1), (by (repeat rw [va_up_ne _ _ (by omega)]); first | exact va_up_self _ _ _ | exact d2), (by (repeat rw [va_up_ne _ _ (by omega)]); first | exact va_up_self _ _ _ | exact d3), (by (repeat rw [va_up_ne _ _ (by omega)]); first | exact va_up_self _ _ _ | exact d4), hrb, hbb, fun c hc => (aCpy_full (by omega)).trans (hL c hc), fun w hw => (aCpy_full (by omega)).trans (hWL w hw), fun w i hw hi => (aCpy_full (by have := (gWn w hw).2; omega)).trans (hWT w i hw hi), fun i hi => (aCpy_full (by omega)).trans (hLN i hi)⟩ (fun j hj => by repeat rw [va_up_ne _ _ (by omega)]))
theorem drawBar_T {d k N : Nat} {h : AH} {G : Gr} {Q : AQ} (hS : isSt h k G) (hG : okG G) (hN : k + 5 ≤ N) {c : Int} {b v : Bool} (hc : 0 ≤ c) (hp : qP G c.toNat b) (hQ : ∀ h', isSt h' k (setBr G c.toNat b v) → fr h h' k 5 → Q (.inl none) h' N) : T (d + 2) 66 [vR k, vI c, vI (bI b), vI (bI v)] h N Q := by
  obtain ⟨rb, bb, L, WL, WT, LN, e0, e1, e2, e3, e4, hrb, hbb, hL, hWL, hWT, hLN⟩ := id hS
  obtain ⟨hm4, hm36⟩ := hG.m
  have hmi := qM_int G
  obtain ⟨⟨hr2, hr6⟩, ⟨hc2, hc6⟩, gL, gB, gW, gWn, gWl, gN, gNl⟩ := id hG
  have hcm : c.toNat < qM G := hp.1
  obtain ⟨n, rfl⟩ := Int.eq_ofNat_of_zero_le hc
  have hcm : n < qM G := hcm
  refine T_body (I := mi_X6_drawBar) (lv := [_, _, _, _, _, _]) rfl (Nat.le_of_ble_eq_true rfl) rfl ?_
  cases b <;> cases v
  · refine R_aload_n rfl rfl ?_
    refine R_iload_n rfl rfl ?_
    refine R_iload_n rfl rfl ?_
    refine R_vcall rfl rfl ⟨(by omega), _, e0⟩ ⟨Nat.le_of_ble_eq_true rfl, Nat.le_of_ble_eq_true rfl, Nat.zero_le _, Nat.zero_le _⟩ (isPlace_T hS hG hN ⟨by omega, by omega⟩ (fun z3 hz3 => aRes_i (rest := []) ?_))
    refine R_ifne rfl ⟨by omega, by omega⟩ (fun c6 => ?_) (fun c6 => ?_)
    · refine R_lconst rfl ?_
      refine R_iload_n rfl rfl ?_
      refine R_lshl rfl ?_
      refine R_lstore (lv' := [_, _, _, _, _, _]) rfl rfl ?_
      refine R_iload_n rfl rfl ?_
      refine R_ifeq rfl ⟨by decide, by decide⟩ (fun _ => ?_) (fun c0 => absurd c0 (by decide))
      refine R_aload_n rfl rfl ?_
      refine R_iload_n rfl rfl ?_
      refine R_ifeq rfl ⟨by decide, by decide⟩ (fun _ => ?_) (fun c0 => absurd c0 (by decide))
      refine R_aload_n rfl rfl ?_
      refine R_getfield rfl rfl (by omega) e0 rfl ?_
      refine R_lload rfl rfl ?_
      refine R_ldc2_w rfl rfl ?_
      refine R_lxor rfl ?_
      refine R_land rfl ?_
      refine R_putfield rfl rfl (by omega) e0 (Nat.le_of_ble_eq_true rfl) (by first | trivial | exact trivial | omega) ?_
      exact R_return rfl (Nat.zero_le _) (Nat.zero_le _) (hQ _ ⟨(rb &&& ((Int64.ofNat (1 : Fin 2) <<< ((iI (n : Int)).toInt64 &&& 63)) ^^^ (-1))), bb, L, WL, WT, LN, va_up_self _ _ _, (by rw [va_up_ne _ _ (by omega)]; exact e1), (by rw [va_up_ne _ _ (by omega)]; exact e2), (by rw [va_up_ne _ _ (by omega)]; exact e3), (by rw [va_up_ne _ _ (by omega)]; exact e4), (bits_andn hrb (n := n) (by omega)), hbb, hL, hWL, hWT, hLN⟩ (fun j hj => va_up_ne _ _ (by omega)))
    · exact absurd c6 (by
        rcases hz3 with ⟨q1, q2⟩ | ⟨q1, q2⟩
        · omega
        · exact absurd ⟨by omega, hp⟩ q2)
  · refine R_aload_n rfl rfl ?_
    refine R_iload_n rfl rfl ?_
    refine R_iload_n rfl rfl ?_
    refine R_vcall rfl rfl ⟨(by omega), _, e0⟩ ⟨Nat.le_of_ble_eq_true rfl, Nat.le_of_ble_eq_true rfl, Nat.zero_le _, Nat.zero_le _⟩ (isPlace_T hS hG hN ⟨by omega, by omega⟩ (fun z3 hz3 => aRes_i (rest := []) ?_))
    refine R_ifne rfl ⟨by omega, by omega⟩ (fun c6 => ?_) (fun c6 => ?_)
    · refine R_lconst rfl ?_
      refine R_iload_n rfl rfl ?_
      refine R_lshl rfl ?_
      refine R_lstore (lv' := [_, _, _, _, _, _]) rfl rfl ?_
      refine R_iload_n rfl rfl ?_
      refine R_ifeq rfl ⟨by decide, by decide⟩ (fun _ => ?_) (fun c0 => absurd c0 (by decide))
      refine R_aload_n rfl rfl ?_
      refine R_iload_n rfl rfl ?_
      refine R_ifeq rfl ⟨by decide, by decide⟩ (fun c0 => absurd c0 (by decide)) (fun _ => ?_)
      refine R_aload_n rfl rfl ?_
      refine R_getfield rfl rfl (by omega) e0 rfl ?_
      refine R_lload rfl rfl ?_
      refine R_lor rfl ?_
      refine R_goto rfl ?_
      refine R_putfield rfl rfl (by omega) e0 (Nat.le_of_ble_eq_true rfl) (by first | trivial | exact trivial | omega) ?_
      exact R_return rfl (Nat.zero_le _) (Nat.zero_le _) (hQ _ ⟨(rb ||| (Int64.ofNat (1 : Fin 2) <<< ((iI (n : Int)).toInt64 &&& 63))), bb, L, WL, WT, LN, va_up_self _ _ _, (by rw [va_up_ne _ _ (by omega)]; exact e1), (by rw [va_up_ne _ _ (by omega)]; exact e2), (by rw [va_up_ne _ _ (by omega)]; exact e3), (by rw [va_up_ne _ _ (by omega)]; exact e4), (bits_or hrb (n := n) (by omega)), hbb, hL, hWL, hWT, hLN⟩ (fun j hj => va_up_ne _ _ (by omega)))
    · exact absurd c6 (by
        rcases hz3 with ⟨q1, q2⟩ | ⟨q1, q2⟩
        · omega
        · exact absurd ⟨by omega, hp⟩ q2)
  · refine R_aload_n rfl rfl ?_
    refine R_iload_n rfl rfl ?_
    refine R_iload_n rfl rfl ?_
    refine R_vcall rfl rfl ⟨(by omega), _, e0⟩ ⟨Nat.le_of_ble_eq_true rfl, Nat.le_of_ble_eq_true rfl, Nat.zero_le _, Nat.zero_le _⟩ (isPlace_T hS hG hN ⟨by omega, by omega⟩ (fun z3 hz3 => aRes_i (rest := []) ?_))
    refine R_ifne rfl ⟨by omega, by omega⟩ (fun c6 => ?_) (fun c6 => ?_)
    · refine R_lconst rfl ?_
      refine R_iload_n rfl rfl ?_
      refine R_lshl rfl ?_
      refine R_lstore (lv' := [_, _, _, _, _, _]) rfl rfl ?_
      refine R_iload_n rfl rfl ?_
      refine R_ifeq rfl ⟨by decide, by decide⟩ (fun c0 => absurd c0 (by decide)) (fun _ => ?_)
      refine R_aload_n rfl rfl ?_
      refine R_iload_n rfl rfl ?_
      refine R_ifeq rfl ⟨by decide, by decide⟩ (fun _ => ?_) (fun c0 => absurd c0 (by decide))
      refine R_aload_n rfl rfl ?_
      refine R_getfield rfl rfl (by omega) e0 rfl ?_
      refine R_lload rfl rfl ?_
      refine R_ldc2_w rfl rfl ?_
      refine R_lxor rfl ?_
      refine R_land rfl ?_
      refine R_putfield rfl rfl (by omega) e0 (Nat.le_of_ble_eq_true rfl) (by first | trivial | exact trivial | omega) ?_
      refine R_goto rfl ?_
      exact R_return rfl (Nat.zero_le _) (Nat.zero_le _) (hQ _ ⟨rb, (bb &&& ((Int64.ofNat (1 : Fin 2) <<< ((iI (n : Int)).toInt64 &&& 63)) ^^^ (-1))), L, WL, WT, LN, va_up_self _ _ _, (by rw [va_up_ne _ _ (by omega)]; exact e1), (by rw [va_up_ne _ _ (by omega)]; exact e2), (by rw [va_up_ne _ _ (by omega)]; exact e3), (by rw [va_up_ne _ _ (by omega)]; exact e4), hrb, (bits_andn hbb (n := n) (by omega)), hL, hWL, hWT, hLN⟩ (fun j hj => va_up_ne _ _ (by omega)))
    · exact absurd c6 (by
        rcases hz3 with ⟨q1, q2⟩ | ⟨q1, q2⟩
        · omega
        · exact absurd ⟨by omega, hp⟩ q2)
  · refine R_aload_n rfl rfl ?_
    refine R_iload_n rfl rfl ?_
    refine R_iload_n rfl rfl ?_
    refine R_vcall rfl rfl ⟨(by omega), _, e0⟩ ⟨Nat.le_of_ble_eq_true rfl, Nat.le_of_ble_eq_true rfl, Nat.zero_le _, Nat.zero_le _⟩ (isPlace_T hS hG hN ⟨by omega, by omega⟩ (fun z3 hz3 => aRes_i (rest := []) ?_))
    refine R_ifne rfl ⟨by omega, by omega⟩ (fun c6 => ?_) (fun c6 => ?_)
    · refine R_lconst rfl ?_
      refine R_iload_n rfl rfl ?_
      refine R_lshl rfl ?_
      refine R_lstore (lv' := [_, _, _, _, _, _]) rfl rfl ?_
      refine R_iload_n rfl rfl ?_
      refine R_ifeq rfl ⟨by decide, by decide⟩ (fun c0 => absurd c0 (by decide)) (fun _ => ?_)
      refine R_aload_n rfl rfl ?_
      refine R_iload_n rfl rfl ?_
      refine R_ifeq rfl ⟨by decide, by decide⟩ (fun c0 => absurd c0 (by decide)) (fun _ => ?_)
      refine R_aload_n rfl rfl ?_
      refine R_getfield rfl rfl (by omega) e0 rfl ?_
      refine R_lload rfl rfl ?_
      refine R_lor rfl ?_
      refine R_goto rfl ?_
      refine R_putfield rfl rfl (by omega) e0 (Nat.le_of_ble_eq_true rfl) (by first | trivial | exact trivial | omega) ?_
      refine R_goto rfl ?_
      exact R_return rfl (Nat.zero_le _) (Nat.zero_le _) (hQ _ ⟨rb, (bb ||| (Int64.ofNat (1 : Fin 2) <<< ((iI (n : Int)).toInt64 &&& 63))), L, WL, WT, LN, va_up_self _ _ _, (by rw [va_up_ne _ _ (by omega)]; exact e1), (by rw [va_up_ne _ _ (by omega)]; exact e2), (by rw [va_up_ne _ _ (by omega)]; exact e3), (by rw [va_up_ne _ _ (by omega)]; exact e4), hrb, (bits_or hbb (n := n) (by omega)), hL, hWL, hWT, hLN⟩ (fun j hj => va_up_ne _ _ (by omega)))
    · exact absurd c6 (by
        rcases hz3 with ⟨q1, q2⟩ | ⟨q1, q2⟩
        · omega
        · exact absurd ⟨by omega, hp⟩ q2)
