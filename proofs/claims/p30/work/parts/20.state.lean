/-! ===== the grid, as both systems have it ===== -/
theorem aRes_i {I : MI} {C : AC} {Q : AQ} {thr : Bool} {nx pc : Nat} {lv : AL} {rest : List AV} {h' : AH} {N k n : Nat} {v : AV} (hr : Run I C Q nx lv (v :: rest) h' N k n) : aRes I Q (Run I C Q) thr nx pc lv rest N (k + 0) (n + 0) (.inl (some v)) h' N := ⟨Or.inl rfl, hr⟩
theorem aRes_v {I : MI} {C : AC} {Q : AQ} {thr : Bool} {nx pc : Nat} {lv : AL} {rest : List AV} {h' : AH} {N k n : Nat} (hr : Run I C Q nx lv rest h' N k n) : aRes I Q (Run I C Q) thr nx pc lv rest N (k + 0) (n + 0) (.inl none) h' N := ⟨Or.inl rfl, hr⟩
/-- rows, columns, letters, bars to the right, bars below, words: how many, lengths, letters; the line: length, letters -/
abbrev Gr : Type := Nat × Nat × (Nat → Int) × (Nat → Bool) × (Nat → Bool) × Nat × (Nat → Nat) × (Nat → Nat → Int) × Nat × (Nat → Int)
abbrev qR (G : Gr) : Nat := G.1
abbrev qC (G : Gr) : Nat := G.2.1
abbrev qL (G : Gr) : Nat → Int := G.2.2.1
abbrev qE (G : Gr) : Nat → Bool := G.2.2.2.1
abbrev qS (G : Gr) : Nat → Bool := G.2.2.2.2.1
abbrev qW (G : Gr) : Nat := G.2.2.2.2.2.1
abbrev qWn (G : Gr) : Nat → Nat := G.2.2.2.2.2.2.1
abbrev qWl (G : Gr) : Nat → Nat → Int := G.2.2.2.2.2.2.2.1
abbrev qN (G : Gr) : Nat := G.2.2.2.2.2.2.2.2.1
abbrev qNl (G : Gr) : Nat → Int := G.2.2.2.2.2.2.2.2.2
/-- how many cells -/
def qM (G : Gr) : Nat := qR G * qC G
def isLet (z : Int) : Prop := 97 ≤ z ∧ z ≤ 122
/-- is there a place to the right (below: below) of cell c? -/
def qP (G : Gr) (c : Nat) (below : Bool) : Prop := c < qM G ∧ match below with
  | true => c + qC G < qM G
  | false => c % qC G + 1 < qC G
theorem qP_f {G : Gr} {c : Nat} : qP G c false ↔ (c < qM G ∧ c % qC G + 1 < qC G) := Iff.rfl
theorem qP_t {G : Gr} {c : Nat} : qP G c true ↔ (c < qM G ∧ c + qC G < qM G) := Iff.rfl
/-- the bar there -/
def qB (G : Gr) (below : Bool) : Nat → Bool := match below with
  | true => qS G
  | false => qE G
def okG (G : Gr) : Prop := (2 ≤ qR G ∧ qR G ≤ 6) ∧ (2 ≤ qC G ∧ qC G ≤ 6) ∧ (∀ c, c < qM G → qL G c = 0 ∨ isLet (qL G c)) ∧ (∀ b c, qB G b c = true → qP G c b) ∧ qW G ≤ 8 ∧ (∀ w, w < qW G → 2 ≤ qWn G w ∧ qWn G w ≤ 6) ∧ (∀ w i, w < qW G → i < qWn G w → isLet (qWl G w i)) ∧ qN G ≤ 6 ∧ ∀ i, i < qN G → isLet (qNl G i)
theorem okG.m {G : Gr} (h : okG G) : 4 ≤ qM G ∧ qM G ≤ 36 := by
  obtain ⟨⟨a, b⟩, ⟨c, d⟩, -⟩ := h
  unfold qM
  constructor
  · calc 4 = 2 * 2 := rfl
      _ ≤ _ := Nat.mul_le_mul a c
  · calc _ ≤ 6 * 6 := Nat.mul_le_mul b d
      _ = 36 := rfl
theorem qM_int (G : Gr) : (qR G : Int) * (qC G : Int) = (qM G : Int) := by
  unfold qM
  rw [Int.natCast_mul]
/-- a row of bits -/
def isBits (x : Int64) (f : Nat → Bool) : Prop := ∀ j, j < 64 → x.toBitVec.getLsbD j = f j
/-- a state's picture at place k -/
def isSt (h : AH) (k : Nat) (G : Gr) : Prop := ∃ (rb bb : Int64) (L WL WT LN : Nat → Int),
  h k = eO 4 [vI (qR G), vI (qC G), vI (qW G), vI (qN G), vL rb, vL bb, vR (k + 1), vR (k + 2), vR (k + 3), vR (k + 4)] ∧ h (k + 1) = eI 36 L ∧ h (k + 2) = eI 8 WL ∧ h (k + 3) = eI 48 WT ∧ h (k + 4) = eI 6 LN ∧
  isBits rb (qE G) ∧ isBits bb (qS G) ∧ (∀ c, c < qM G → L c = qL G c) ∧ (∀ w, w < qW G → WL w = qWn G w) ∧ (∀ w i, w < qW G → i < qWn G w → WT (w * 6 + i) = qWl G w i) ∧ ∀ i, i < qN G → LN i = qNl G i
theorem cells_T {d k N : Nat} {h : AH} {G : Gr} {Q : AQ} (hS : isSt h k G) (hG : okG G) (hN : k + 5 ≤ N) (hQ : ∀ z : Int, z = qM G → Q (.inl (some (vI z))) h N) : T (d + 1) 57 [vR k] h N Q := by
  obtain ⟨rb, bb, L, WL, WT, LN, e0, e1, e2, e3, e4, hrb, hbb, hL, hWL, hWT, hLN⟩ := hS
  obtain ⟨hm4, hm36⟩ := hG.m
  have hmi := qM_int G
  obtain ⟨⟨hr2, hr6⟩, ⟨hc2, hc6⟩, gL, gB, gW, gWn, gWl, gN, gNl⟩ := hG
  refine T_body (I := mi_X6_cells) (lv := [_]) rfl (Nat.le_of_ble_eq_true rfl) rfl ?_
  refine R_aload_n rfl rfl ?_
  refine R_getfield rfl rfl (by omega) e0 rfl ?_
  refine R_aload_n rfl rfl ?_
  refine R_getfield rfl rfl (by omega) e0 rfl ?_
  refine R_imul rfl ?_
  exact R_ireturn rfl (fun q => absurd q (by decide)) (Nat.zero_le _) (Nat.zero_le _) (hQ _ (by omega))
theorem hasCell_T {d k N : Nat} {h : AH} {G : Gr} {Q : AQ} (hS : isSt h k G) (hG : okG G) (hN : k + 5 ≤ N) {c : Int} (hc : inR c) (hQ : ∀ z : Int, (z = 1 ∧ 0 ≤ c ∧ c < qM G) ∨ (z = 0 ∧ ¬ (0 ≤ c ∧ c < qM G)) → Q (.inl (some (vI z))) h N) : T (d + 1) 58 [vR k, vI c] h N Q := by
  obtain ⟨rb, bb, L, WL, WT, LN, e0, e1, e2, e3, e4, hrb, hbb, hL, hWL, hWT, hLN⟩ := hS
  obtain ⟨hm4, hm36⟩ := hG.m
  have hmi := qM_int G
  obtain ⟨⟨hr2, hr6⟩, ⟨hc2, hc6⟩, gL, gB, gW, gWn, gWl, gN, gNl⟩ := hG
  obtain ⟨hc1, hc2⟩ := hc
  refine T_body (I := mi_X6_hasCell) (lv := [_, _]) rfl (Nat.le_of_ble_eq_true rfl) rfl ?_
  refine R_iload_n rfl rfl ?_
  refine R_iflt rfl ⟨by omega, by omega⟩ (fun c1 => ?_) (fun c1 => ?_)
  · refine R_iconst rfl ?_
    exact R_ireturn rfl (fun _ => by omega) (Nat.zero_le _) (Nat.zero_le _) (hQ _ (by omega))
  · refine R_iload_n rfl rfl ?_
    refine R_aload_n rfl rfl ?_
    refine R_getfield rfl rfl (by omega) e0 rfl ?_
    refine R_aload_n rfl rfl ?_
    refine R_getfield rfl rfl (by omega) e0 rfl ?_
    refine R_imul rfl ?_
    refine R_icmpge rfl ⟨by omega, by omega⟩ ⟨by omega, by omega⟩ (fun c14 => ?_) (fun c14 => ?_)
    · refine R_iconst rfl ?_
      exact R_ireturn rfl (fun _ => by omega) (Nat.zero_le _) (Nat.zero_le _) (hQ _ (by omega))
    · refine R_iload_n rfl rfl ?_
      refine R_bipush rfl ?_
      refine R_icmpge rfl ⟨by omega, by omega⟩ ⟨by decide, by decide⟩ (fun c20 => ?_) (fun c20 => ?_)
      · refine R_iconst rfl ?_
        exact R_ireturn rfl (fun _ => by omega) (Nat.zero_le _) (Nat.zero_le _) (hQ _ (by omega))
      · refine R_iconst rfl ?_
        refine R_goto rfl ?_
        exact R_ireturn rfl (fun _ => by omega) (Nat.zero_le _) (Nat.zero_le _) (hQ _ (by omega))
theorem letterAt_T {d k N : Nat} {h : AH} {G : Gr} {Q : AQ} (hS : isSt h k G) (hG : okG G) (hN : k + 5 ≤ N) {c : Int} (hc : inR c) (hQ : ∀ z : Int, (0 ≤ c ∧ c < qM G ∧ z = qL G c.toNat) ∨ (¬ (0 ≤ c ∧ c < qM G) ∧ z = 0) → Q (.inl (some (vI z))) h N) : T (d + 2) 61 [vR k, vI c] h N Q := by
  obtain ⟨rb, bb, L, WL, WT, LN, e0, e1, e2, e3, e4, hrb, hbb, hL, hWL, hWT, hLN⟩ := id hS
  obtain ⟨hm4, hm36⟩ := hG.m
  have hmi := qM_int G
  obtain ⟨⟨hr2, hr6⟩, ⟨hc2, hc6⟩, gL, gB, gW, gWn, gWl, gN, gNl⟩ := id hG
  obtain ⟨hc1, hc2⟩ := id hc
  refine T_body (I := mi_X6_letterAt) (lv := [_, _]) rfl (Nat.le_of_ble_eq_true rfl) rfl ?_
  refine R_aload_n rfl rfl ?_
  refine R_iload_n rfl rfl ?_
  refine R_vcall rfl rfl ⟨(by omega), _, e0⟩ ⟨Nat.le_of_ble_eq_true rfl, Nat.le_of_ble_eq_true rfl, Nat.zero_le _, Nat.zero_le _⟩ (hasCell_T hS hG hN ⟨by omega, by omega⟩ (fun z2 hz2 => aRes_i (rest := []) ?_))
  refine R_ifeq rfl ⟨by omega, by omega⟩ (fun c5 => ?_) (fun c5 => ?_)
  · refine R_iconst rfl ?_
    exact R_ireturn rfl (fun q => absurd q (by decide)) (Nat.zero_le _) (Nat.zero_le _) (hQ _ (by omega))
  · refine R_aload_n rfl rfl ?_
    refine R_getfield rfl rfl (by omega) e0 rfl ?_
    refine R_iload_n rfl rfl ?_
    refine R_iaload rfl (Or.inl (by omega)) e1 ⟨by omega, by omega, by omega⟩ ?_
    refine R_goto rfl ?_
    exact R_ireturn rfl (fun q => absurd q (by decide)) (Nat.zero_le _) (Nat.zero_le _) (hQ _ (Or.inl ⟨by omega, by omega, hL _ (by omega)⟩))
theorem columnOf_T {d k N : Nat} {h : AH} {G : Gr} {Q : AQ} (hS : isSt h k G) (hG : okG G) (hN : k + 5 ≤ N) {c : Int} (hc : 0 ≤ c ∧ c < 36) (hQ : ∀ z : Int, z = ((c.toNat % qC G : Nat) : Int) → Q (.inl (some (vI z))) h N) : T (d + 1) 59 [vR k, vI c] h N Q := by
  obtain ⟨rb, bb, L, WL, WT, LN, e0, e1, e2, e3, e4, hrb, hbb, hL, hWL, hWT, hLN⟩ := hS
  obtain ⟨hm4, hm36⟩ := hG.m
  have hmi := qM_int G
  obtain ⟨⟨hr2, hr6⟩, ⟨hc2, hc6⟩, gL, gB, gW, gWn, gWl, gN, gNl⟩ := hG
  refine T_body (I := mi_X6_columnOf) (lv := [_, _]) rfl (Nat.le_of_ble_eq_true rfl) rfl ?_
  refine R_aload_n rfl rfl ?_
  refine R_getfield rfl rfl (by omega) e0 rfl ?_
  refine R_ifle rfl ⟨by omega, by omega⟩ (fun c4 => ?_) (fun c4 => ?_)
  · refine R_iconst rfl ?_
    exact R_ireturn rfl (fun q => absurd q (by decide)) (Nat.zero_le _) (Nat.zero_le _) (hQ _ (by omega))
  · refine R_iload_n rfl rfl ?_
    refine R_aload_n rfl rfl ?_
    refine R_getfield rfl rfl (by omega) e0 rfl ?_
    refine R_irem rfl ⟨by omega, by omega, by omega, by omega⟩ ?_
    refine R_goto rfl ?_
    exact R_ireturn rfl (fun q => absurd q (by decide)) (Nat.zero_le _) (Nat.zero_le _) (hQ _ (emod_nat hc.1 _))
theorem rowOf_T {d k N : Nat} {h : AH} {G : Gr} {Q : AQ} (hS : isSt h k G) (hG : okG G) (hN : k + 5 ≤ N) {c : Int} (hc : 0 ≤ c ∧ c < 36) (hQ : ∀ z : Int, z = ((c.toNat / qC G : Nat) : Int) → Q (.inl (some (vI z))) h N) : T (d + 1) 60 [vR k, vI c] h N Q := by
  obtain ⟨rb, bb, L, WL, WT, LN, e0, e1, e2, e3, e4, hrb, hbb, hL, hWL, hWT, hLN⟩ := hS
  obtain ⟨hm4, hm36⟩ := hG.m
  have hmi := qM_int G
  obtain ⟨⟨hr2, hr6⟩, ⟨hc2, hc6⟩, gL, gB, gW, gWn, gWl, gN, gNl⟩ := hG
  refine T_body (I := mi_X6_rowOf) (lv := [_, _]) rfl (Nat.le_of_ble_eq_true rfl) rfl ?_
  refine R_aload_n rfl rfl ?_
  refine R_getfield rfl rfl (by omega) e0 rfl ?_
  refine R_ifle rfl ⟨by omega, by omega⟩ (fun c4 => ?_) (fun c4 => ?_)
  · refine R_iconst rfl ?_
    exact R_ireturn rfl (fun q => absurd q (by decide)) (Nat.zero_le _) (Nat.zero_le _) (hQ _ (by omega))
  · refine R_iload_n rfl rfl ?_
    refine R_aload_n rfl rfl ?_
    refine R_getfield rfl rfl (by omega) e0 rfl ?_
    refine R_idiv rfl ⟨by omega, by omega, by omega, by omega⟩ ?_
    refine R_goto rfl ?_
    exact R_ireturn rfl (fun q => absurd q (by decide)) (Nat.zero_le _) (Nat.zero_le _) (hQ _ (ediv_nat hc.1 _))
theorem hasWord_T {d k N : Nat} {h : AH} {G : Gr} {Q : AQ} (hS : isSt h k G) (hG : okG G) (hN : k + 5 ≤ N) {c : Int} (hc : inR c) (hQ : ∀ z : Int, (z = 1 ∧ 0 ≤ c ∧ c < qW G) ∨ (z = 0 ∧ ¬ (0 ≤ c ∧ c < qW G)) → Q (.inl (some (vI z))) h N) : T (d + 1) 69 [vR k, vI c] h N Q := by
  obtain ⟨rb, bb, L, WL, WT, LN, e0, e1, e2, e3, e4, hrb, hbb, hL, hWL, hWT, hLN⟩ := id hS
  obtain ⟨hm4, hm36⟩ := hG.m
  have hmi := qM_int G
  obtain ⟨⟨hr2, hr6⟩, ⟨hc2, hc6⟩, gL, gB, gW, gWn, gWl, gN, gNl⟩ := id hG
  obtain ⟨hc1, hcx⟩ := id hc
  refine T_body (I := mi_X6_hasWord) (lv := [_, _]) rfl (Nat.le_of_ble_eq_true rfl) rfl ?_
  refine R_iload_n rfl rfl ?_
  refine R_iflt rfl ⟨by omega, by omega⟩ (fun c1 => ?_) (fun c1 => ?_)
  · refine R_iconst rfl ?_
    exact R_ireturn rfl (fun _ => by omega) (Nat.zero_le _) (Nat.zero_le _) (hQ _ (by omega))
  · refine R_iload_n rfl rfl ?_
    refine R_aload_n rfl rfl ?_
    refine R_getfield rfl rfl (by omega) e0 rfl ?_
    refine R_icmpge rfl ⟨by omega, by omega⟩ ⟨by omega, by omega⟩ (fun c9 => ?_) (fun c9 => ?_)
    · refine R_iconst rfl ?_
      exact R_ireturn rfl (fun _ => by omega) (Nat.zero_le _) (Nat.zero_le _) (hQ _ (by omega))
    · refine R_iload_n rfl rfl ?_
      refine R_bipush rfl ?_
      refine R_icmpge rfl ⟨by omega, by omega⟩ ⟨by decide, by decide⟩ (fun c15 => ?_) (fun c15 => ?_)
      · refine R_iconst rfl ?_
        exact R_ireturn rfl (fun _ => by omega) (Nat.zero_le _) (Nat.zero_le _) (hQ _ (by omega))
      · refine R_iconst rfl ?_
        refine R_goto rfl ?_
        exact R_ireturn rfl (fun _ => by omega) (Nat.zero_le _) (Nat.zero_le _) (hQ _ (by omega))
theorem lengthOfWord_T {d k N : Nat} {h : AH} {G : Gr} {Q : AQ} (hS : isSt h k G) (hG : okG G) (hN : k + 5 ≤ N) {c : Int} (hc : inR c) (hQ : ∀ z : Int, (0 ≤ c ∧ c < qW G ∧ z = qWn G c.toNat) ∨ (¬ (0 ≤ c ∧ c < qW G) ∧ z = 0) → Q (.inl (some (vI z))) h N) : T (d + 2) 70 [vR k, vI c] h N Q := by
  obtain ⟨rb, bb, L, WL, WT, LN, e0, e1, e2, e3, e4, hrb, hbb, hL, hWL, hWT, hLN⟩ := id hS
  obtain ⟨hm4, hm36⟩ := hG.m
  have hmi := qM_int G
  obtain ⟨⟨hr2, hr6⟩, ⟨hc2, hc6⟩, gL, gB, gW, gWn, gWl, gN, gNl⟩ := id hG
  obtain ⟨hc1, hcx⟩ := id hc
  refine T_body (I := mi_X6_lengthOfWord) (lv := [_, _]) rfl (Nat.le_of_ble_eq_true rfl) rfl ?_
  refine R_aload_n rfl rfl ?_
  refine R_iload_n rfl rfl ?_
  refine R_vcall rfl rfl ⟨(by omega), _, e0⟩ ⟨Nat.le_of_ble_eq_true rfl, Nat.le_of_ble_eq_true rfl, Nat.zero_le _, Nat.zero_le _⟩ (hasWord_T hS hG hN ⟨by omega, by omega⟩ (fun z2 hz2 => aRes_i (rest := []) ?_))
  refine R_ifeq rfl ⟨by omega, by omega⟩ (fun c5 => ?_) (fun c5 => ?_)
  · refine R_iconst rfl ?_
    exact R_ireturn rfl (fun q => absurd q (by decide)) (Nat.zero_le _) (Nat.zero_le _) (hQ _ (by omega))
  · refine R_aload_n rfl rfl ?_
    refine R_getfield rfl rfl (by omega) e0 rfl ?_
    refine R_iload_n rfl rfl ?_
    refine R_iaload rfl (Or.inl (by omega)) e2 ⟨by omega, by omega, by omega⟩ ?_
    refine R_goto rfl ?_
    exact R_ireturn rfl (fun q => absurd q (by decide)) (Nat.zero_le _) (Nat.zero_le _) (hQ _ (Or.inl ⟨by omega, by omega, hWL _ (by omega)⟩))
theorem letterOfWord_T {d k N : Nat} {h : AH} {G : Gr} {Q : AQ} (hS : isSt h k G) (hG : okG G) (hN : k + 5 ≤ N) {c i : Int} (hc : inR c) (hi : inR i) (hQ : ∀ z : Int, (0 ≤ c ∧ c < qW G ∧ 0 ≤ i ∧ i < qWn G c.toNat ∧ z = qWl G c.toNat i.toNat) ∨ (¬ (0 ≤ c ∧ c < qW G ∧ 0 ≤ i ∧ i < qWn G c.toNat) ∧ z = -9) → Q (.inl (some (vI z))) h N) : T (d + 3) 71 [vR k, vI c, vI i] h N Q := by
  obtain ⟨rb, bb, L, WL, WT, LN, e0, e1, e2, e3, e4, hrb, hbb, hL, hWL, hWT, hLN⟩ := id hS
  obtain ⟨hm4, hm36⟩ := hG.m
  have hmi := qM_int G
  obtain ⟨⟨hr2, hr6⟩, ⟨hc2, hc6⟩, gL, gB, gW, gWn, gWl, gN, gNl⟩ := id hG
  obtain ⟨hc1, hcx⟩ := id hc
  obtain ⟨hi1, hi2⟩ := id hi
  have hw9 : 0 ≤ c ∧ c < qW G → qWn G c.toNat ≤ 6 := fun q => (gWn c.toNat (by omega)).2
  refine T_body (I := mi_X6_letterOfWord) (lv := [_, _, _]) rfl (Nat.le_of_ble_eq_true rfl) rfl ?_
  refine R_iload_n rfl rfl ?_
  refine R_iflt rfl ⟨by omega, by omega⟩ (fun c1 => ?_) (fun c1 => ?_)
  · refine R_bipush rfl ?_
    exact R_ireturn rfl (fun q => absurd q (by decide)) (Nat.zero_le _) (Nat.zero_le _) (hQ _ (Or.inr ⟨by omega, rfl⟩))
  · refine R_iload_n rfl rfl ?_
    refine R_bipush rfl ?_
    refine R_icmpge rfl ⟨by omega, by omega⟩ ⟨by decide, by decide⟩ (fun c7 => ?_) (fun c7 => ?_)
    · refine R_bipush rfl ?_
      exact R_ireturn rfl (fun q => absurd q (by decide)) (Nat.zero_le _) (Nat.zero_le _) (hQ _ (Or.inr ⟨by omega, rfl⟩))
    · refine R_iload_n rfl rfl ?_
      refine R_aload_n rfl rfl ?_
      refine R_iload_n rfl rfl ?_
      refine R_vcall rfl rfl ⟨(by omega), _, e0⟩ ⟨Nat.le_of_ble_eq_true rfl, Nat.le_of_ble_eq_true rfl, Nat.zero_le _, Nat.zero_le _⟩ (lengthOfWord_T hS hG hN hc (fun z13 hz13 => aRes_i (rest := [_]) ?_))
      have hz13b : 0 ≤ z13 ∧ z13 ≤ 6 := by
              rcases hz13 with ⟨q1, q2, q3⟩ | ⟨q1, q3⟩
              · have := gWn c.toNat (by omega)
                omega
              · omega
      refine R_icmplt rfl ⟨by omega, by omega⟩ ⟨by omega, by omega⟩ (fun c16 => ?_) (fun c16 => ?_)
      · have hi13 : 0 ≤ c ∧ c < qW G ∧ i < qWn G c.toNat := by
          rcases hz13 with ⟨q1, q2, q3⟩ | ⟨q1, q3⟩ <;> omega
        have hw6 := gWn c.toNat (by omega)
        refine R_aload_n rfl rfl ?_
        refine R_getfield rfl rfl (by omega) e0 rfl ?_
        refine R_iload_n rfl rfl ?_
        refine R_bipush rfl ?_
        refine R_imul rfl ?_
        refine R_iload_n rfl rfl ?_
        refine R_iadd rfl ?_
        refine R_iaload rfl (Or.inl (by omega)) e3 ⟨by omega, by omega, by omega⟩ ?_
        exact R_ireturn rfl (fun q => absurd q (by decide)) (Nat.zero_le _) (Nat.zero_le _) (hQ _ (Or.inl ⟨hi13.1, hi13.2.1, by omega, hi13.2.2, (congrArg WT (show _ = c.toNat * 6 + i.toNat by omega)).trans (hWT _ _ (by omega) (by omega))⟩))
      · refine R_bipush rfl ?_
        exact R_ireturn rfl (fun q => absurd q (by decide)) (Nat.zero_le _) (Nat.zero_le _) (hQ _ (Or.inr ⟨by omega, rfl⟩))
theorem letterOfLine_T {d k N : Nat} {h : AH} {G : Gr} {Q : AQ} (hS : isSt h k G) (hG : okG G) (hN : k + 5 ≤ N) {c : Int} (hc : inR c) (hQ : ∀ z : Int, (0 ≤ c ∧ c < qN G ∧ z = qNl G c.toNat) ∨ (¬ (0 ≤ c ∧ c < qN G) ∧ z = -9) → Q (.inl (some (vI z))) h N) : T (d + 1) 74 [vR k, vI c] h N Q := by
  obtain ⟨rb, bb, L, WL, WT, LN, e0, e1, e2, e3, e4, hrb, hbb, hL, hWL, hWT, hLN⟩ := id hS
  obtain ⟨hm4, hm36⟩ := hG.m
  have hmi := qM_int G
  obtain ⟨⟨hr2, hr6⟩, ⟨hc2, hc6⟩, gL, gB, gW, gWn, gWl, gN, gNl⟩ := id hG
  obtain ⟨hc1, hcx⟩ := id hc
  refine T_body (I := mi_X6_letterOfLine) (lv := [_, _]) rfl (Nat.le_of_ble_eq_true rfl) rfl ?_
  refine R_iload_n rfl rfl ?_
  refine R_iflt rfl ⟨by omega, by omega⟩ (fun c1 => ?_) (fun c1 => ?_)
  · refine R_bipush rfl ?_
    exact R_ireturn rfl (fun q => absurd q (by decide)) (Nat.zero_le _) (Nat.zero_le _) (hQ _ (Or.inr ⟨by omega, rfl⟩))
  · refine R_iload_n rfl rfl ?_
    refine R_aload_n rfl rfl ?_
    refine R_getfield rfl rfl (by omega) e0 rfl ?_
    refine R_icmpge rfl ⟨by omega, by omega⟩ ⟨by omega, by omega⟩ (fun c9 => ?_) (fun c9 => ?_)
    · refine R_bipush rfl ?_
      exact R_ireturn rfl (fun q => absurd q (by decide)) (Nat.zero_le _) (Nat.zero_le _) (hQ _ (Or.inr ⟨by omega, rfl⟩))
    · refine R_iload_n rfl rfl ?_
      refine R_bipush rfl ?_
      refine R_icmpge rfl ⟨by omega, by omega⟩ ⟨by decide, by decide⟩ (fun c15 => ?_) (fun c15 => ?_)
      · refine R_bipush rfl ?_
        exact R_ireturn rfl (fun q => absurd q (by decide)) (Nat.zero_le _) (Nat.zero_le _) (hQ _ (Or.inr ⟨by omega, rfl⟩))
      · refine R_aload_n rfl rfl ?_
        refine R_getfield rfl rfl (by omega) e0 rfl ?_
        refine R_iload_n rfl rfl ?_
        refine R_iaload rfl (Or.inl (by omega)) e4 ⟨by omega, by omega, by omega⟩ ?_
        refine R_goto rfl ?_
        exact R_ireturn rfl (fun q => absurd q (by decide)) (Nat.zero_le _) (Nat.zero_le _) (hQ _ (Or.inl ⟨by omega, by omega, hLN _ (by omega)⟩))
theorem isPlace_T {d k N : Nat} {h : AH} {G : Gr} {Q : AQ} (hS : isSt h k G) (hG : okG G) (hN : k + 5 ≤ N) {c : Int} {b : Bool} (hc : inR c) (hQ : ∀ z : Int, (z = 1 ∧ 0 ≤ c ∧ qP G c.toNat b) ∨ (z = 0 ∧ ¬ (0 ≤ c ∧ qP G c.toNat b)) → Q (.inl (some (vI z))) h N) : T (d + 1) 64 [vR k, vI c, vI (bI b)] h N Q := by
  obtain ⟨rb, bb, L, WL, WT, LN, e0, e1, e2, e3, e4, hrb, hbb, hL, hWL, hWT, hLN⟩ := id hS
  obtain ⟨hm4, hm36⟩ := hG.m
  have hmi := qM_int G
  obtain ⟨⟨hr2, hr6⟩, ⟨hc2, hc6⟩, gL, gB, gW, gWn, gWl, gN, gNl⟩ := id hG
  obtain ⟨hc1, hcx⟩ := id hc
  refine T_body (I := mi_X6_isPlace) (lv := [_, _, _]) rfl (Nat.le_of_ble_eq_true rfl) rfl ?_
  cases b
  · refine R_iload_n rfl rfl ?_
    refine R_iflt rfl ⟨by omega, by omega⟩ (fun c1 => ?_) (fun c1 => ?_)
    · refine R_iconst rfl ?_
      exact R_ireturn rfl (fun _ => by omega) (Nat.zero_le _) (Nat.zero_le _) (hQ _ (Or.inr ⟨rfl, fun q => by
      have q1 := q.1
      have q2 := qP_f.mp q.2
      omega⟩))
    · refine R_iload_n rfl rfl ?_
      refine R_aload_n rfl rfl ?_
      refine R_getfield rfl rfl (by omega) e0 rfl ?_
      refine R_aload_n rfl rfl ?_
      refine R_getfield rfl rfl (by omega) e0 rfl ?_
      refine R_imul rfl ?_
      refine R_icmpge rfl ⟨by omega, by omega⟩ ⟨by omega, by omega⟩ (fun c14 => ?_) (fun c14 => ?_)
      · refine R_iconst rfl ?_
        exact R_ireturn rfl (fun _ => by omega) (Nat.zero_le _) (Nat.zero_le _) (hQ _ (Or.inr ⟨rfl, fun q => by
      have q1 := q.1
      have q2 := qP_f.mp q.2
      omega⟩))
      · refine R_aload_n rfl rfl ?_
        refine R_getfield rfl rfl (by omega) e0 rfl ?_
        refine R_iconst rfl ?_
        refine R_icmpge rfl ⟨by omega, by omega⟩ ⟨by decide, by decide⟩ (fun c22 => ?_) (fun c22 => ?_)
        · refine R_iload_n rfl rfl ?_
          refine R_ifeq rfl ⟨by decide, by decide⟩ (fun _ => ?_) (fun c0 => absurd c0 (by decide))
          refine R_iload_n rfl rfl ?_
          refine R_aload_n rfl rfl ?_
          refine R_getfield rfl rfl (by omega) e0 rfl ?_
          refine R_irem rfl ⟨by omega, by omega, by omega, by omega⟩ ?_
          have hmd := emod_nat (c := c) (by omega) (qC G)
          have hml := Nat.mod_lt c.toNat (show 0 < qC G by omega)
          refine R_aload_n rfl rfl ?_
          refine R_getfield rfl rfl (by omega) e0 rfl ?_
          refine R_iconst rfl ?_
          refine R_isub rfl ?_
          refine R_icmpge rfl ⟨by omega, by omega⟩ ⟨by omega, by omega⟩ (fun c69 => ?_) (fun c69 => ?_)
          · refine R_iconst rfl ?_
            exact R_ireturn rfl (fun _ => by omega) (Nat.zero_le _) (Nat.zero_le _) (hQ _ (Or.inr ⟨rfl, fun q => by
      have q1 := q.1
      have q2 := qP_f.mp q.2
      omega⟩))
          · refine R_iconst rfl ?_
            refine R_goto rfl ?_
            exact R_ireturn rfl (fun _ => by omega) (Nat.zero_le _) (Nat.zero_le _) (hQ _ (Or.inl ⟨rfl, by omega, qP_f.mpr ⟨by omega, by omega⟩⟩))
        · refine R_iconst rfl ?_
          exact R_ireturn rfl (fun _ => by omega) (Nat.zero_le _) (Nat.zero_le _) (hQ _ (Or.inr ⟨rfl, fun q => by
      have q1 := q.1
      have q2 := qP_f.mp q.2
      omega⟩))
  · refine R_iload_n rfl rfl ?_
    refine R_iflt rfl ⟨by omega, by omega⟩ (fun c1 => ?_) (fun c1 => ?_)
    · refine R_iconst rfl ?_
      exact R_ireturn rfl (fun _ => by omega) (Nat.zero_le _) (Nat.zero_le _) (hQ _ (Or.inr ⟨rfl, fun q => by
      have q1 := q.1
      have q2 := qP_t.mp q.2
      omega⟩))
    · refine R_iload_n rfl rfl ?_
      refine R_aload_n rfl rfl ?_
      refine R_getfield rfl rfl (by omega) e0 rfl ?_
      refine R_aload_n rfl rfl ?_
      refine R_getfield rfl rfl (by omega) e0 rfl ?_
      refine R_imul rfl ?_
      refine R_icmpge rfl ⟨by omega, by omega⟩ ⟨by omega, by omega⟩ (fun c14 => ?_) (fun c14 => ?_)
      · refine R_iconst rfl ?_
        exact R_ireturn rfl (fun _ => by omega) (Nat.zero_le _) (Nat.zero_le _) (hQ _ (Or.inr ⟨rfl, fun q => by
      have q1 := q.1
      have q2 := qP_t.mp q.2
      omega⟩))
      · refine R_aload_n rfl rfl ?_
        refine R_getfield rfl rfl (by omega) e0 rfl ?_
        refine R_iconst rfl ?_
        refine R_icmpge rfl ⟨by omega, by omega⟩ ⟨by decide, by decide⟩ (fun c22 => ?_) (fun c22 => ?_)
        · refine R_iload_n rfl rfl ?_
          refine R_ifeq rfl ⟨by decide, by decide⟩ (fun c0 => absurd c0 (by decide)) (fun _ => ?_)
          refine R_iload_n rfl rfl ?_
          refine R_aload_n rfl rfl ?_
          refine R_getfield rfl rfl (by omega) e0 rfl ?_
          refine R_iadd rfl ?_
          refine R_aload_n rfl rfl ?_
          refine R_getfield rfl rfl (by omega) e0 rfl ?_
          refine R_aload_n rfl rfl ?_
          refine R_getfield rfl rfl (by omega) e0 rfl ?_
          refine R_imul rfl ?_
          refine R_icmpge rfl ⟨by omega, by omega⟩ ⟨by omega, by omega⟩ (fun c46 => ?_) (fun c46 => ?_)
          · refine R_iconst rfl ?_
            refine R_goto rfl ?_
            exact R_ireturn rfl (fun _ => by omega) (Nat.zero_le _) (Nat.zero_le _) (hQ _ (Or.inr ⟨rfl, fun q => by
      have q1 := q.1
      have q2 := qP_t.mp q.2
      omega⟩))
          · refine R_iconst rfl ?_
            refine R_goto rfl ?_
            exact R_ireturn rfl (fun _ => by omega) (Nat.zero_le _) (Nat.zero_le _) (hQ _ (Or.inl ⟨rfl, by omega, qP_t.mpr ⟨by omega, by omega⟩⟩))
        · refine R_iconst rfl ?_
          exact R_ireturn rfl (fun _ => by omega) (Nat.zero_le _) (Nat.zero_le _) (hQ _ (Or.inr ⟨rfl, fun q => by
      have q1 := q.1
      have q2 := qP_t.mp q.2
      omega⟩))
theorem hasBar_T {d k N : Nat} {h : AH} {G : Gr} {Q : AQ} (hS : isSt h k G) (hG : okG G) (hN : k + 5 ≤ N) {c : Int} {b : Bool} (hc : inR c) (hQ : ∀ z : Int, (z = 1 ∧ 0 ≤ c ∧ c < 36 ∧ qB G b c.toNat = true) ∨ (z = 0 ∧ ¬ (0 ≤ c ∧ c < 36 ∧ qB G b c.toNat = true)) → Q (.inl (some (vI z))) h N) : T (d + 1) 65 [vR k, vI c, vI (bI b)] h N Q := by
  obtain ⟨rb, bb, L, WL, WT, LN, e0, e1, e2, e3, e4, hrb, hbb, hL, hWL, hWT, hLN⟩ := id hS
  obtain ⟨hm4, hm36⟩ := hG.m
  have hmi := qM_int G
  obtain ⟨⟨hr2, hr6⟩, ⟨hc2, hc6⟩, gL, gB, gW, gWn, gWl, gN, gNl⟩ := id hG
  obtain ⟨hc1, hcx⟩ := id hc
  refine T_body (I := mi_X6_hasBar) (lv := [_, _, _, _, _]) rfl (Nat.le_of_ble_eq_true rfl) rfl ?_
  cases b
  · refine R_iload_n rfl rfl ?_
    refine R_ifeq rfl ⟨by decide, by decide⟩ (fun _ => ?_) (fun c0 => absurd c0 (by decide))
    refine R_aload_n rfl rfl ?_
    refine R_getfield rfl rfl (by omega) e0 rfl ?_
    refine R_lstore_n (lv' := [_, _, _, _, _]) rfl rfl ?_
    refine R_iload_n rfl rfl ?_
    refine R_iflt rfl ⟨by first | omega | (split <;> omega), by first | omega | (split <;> omega)⟩ (fun c17 => ?_) (fun c17 => ?_)
    · refine R_iconst rfl ?_
      exact R_ireturn rfl (fun _ => by omega) (Nat.zero_le _) (Nat.zero_le _) (hQ _ (Or.inr ⟨rfl, by first | (intro q; omega) | (intro q; rw [show ((n : Int)).toNat = n from rfl, hv] at q; exact absurd q.2.2 (by decide))⟩))
    · refine R_iload_n rfl rfl ?_
      refine R_bipush rfl ?_
      refine R_icmpge rfl ⟨by first | omega | (split <;> omega), by first | omega | (split <;> omega)⟩ ⟨by decide, by decide⟩ (fun c23 => ?_) (fun c23 => ?_)
      · refine R_iconst rfl ?_
        exact R_ireturn rfl (fun _ => by omega) (Nat.zero_le _) (Nat.zero_le _) (hQ _ (Or.inr ⟨rfl, by first | (intro q; omega) | (intro q; rw [show ((n : Int)).toNat = n from rfl, hv] at q; exact absurd q.2.2 (by decide))⟩))
      · refine R_lload_n rfl rfl ?_
        obtain ⟨n, rfl⟩ := Int.eq_ofNat_of_zero_le (show 0 ≤ c by omega)
        have hbc := bit_cmp (x := rb) (n := n) (by omega)
        refine R_iload_n rfl rfl ?_
        refine R_lshr rfl ?_
        refine R_lconst rfl ?_
        refine R_land rfl ?_
        refine R_lconst rfl ?_
        refine R_lcmp rfl ?_
        rw [hbc, hrb n (by omega)]
        refine R_ifne rfl ⟨by first | omega | (split <;> omega), by first | omega | (split <;> omega)⟩ (fun c33 => ?_) (fun c33 => ?_)
        · have hv : qB G false n = false := by
            cases hv : qB G false n with
            | false => rfl
            | true => exact absurd (show (if qB G false n = true then (0 : Int) else -1) = 0 by rw [hv]; rfl) c33
          refine R_iconst rfl ?_
          exact R_ireturn rfl (fun _ => by omega) (Nat.zero_le _) (Nat.zero_le _) (hQ _ (Or.inr ⟨rfl, by first | (intro q; omega) | (intro q; rw [show ((n : Int)).toNat = n from rfl, hv] at q; exact absurd q.2.2 (by decide))⟩))
        · have hv : qB G false n = true := by
            cases hv : qB G false n with
            | true => rfl
            | false => exact absurd (show ¬ (if qB G false n = true then (0 : Int) else -1) = 0 by rw [hv]; decide) c33
          refine R_iconst rfl ?_
          refine R_goto rfl ?_
          exact R_ireturn rfl (fun _ => by omega) (Nat.zero_le _) (Nat.zero_le _) (hQ _ (Or.inl ⟨rfl, by omega, by omega, hv⟩))
  · refine R_iload_n rfl rfl ?_
    refine R_ifeq rfl ⟨by decide, by decide⟩ (fun c0 => absurd c0 (by decide)) (fun _ => ?_)
    refine R_aload_n rfl rfl ?_
    refine R_getfield rfl rfl (by omega) e0 rfl ?_
    refine R_goto rfl ?_
    refine R_lstore_n (lv' := [_, _, _, _, _]) rfl rfl ?_
    refine R_iload_n rfl rfl ?_
    refine R_iflt rfl ⟨by first | omega | (split <;> omega), by first | omega | (split <;> omega)⟩ (fun c17 => ?_) (fun c17 => ?_)
    · refine R_iconst rfl ?_
      exact R_ireturn rfl (fun _ => by omega) (Nat.zero_le _) (Nat.zero_le _) (hQ _ (Or.inr ⟨rfl, by first | (intro q; omega) | (intro q; rw [show ((n : Int)).toNat = n from rfl, hv] at q; exact absurd q.2.2 (by decide))⟩))
    · refine R_iload_n rfl rfl ?_
      refine R_bipush rfl ?_
      refine R_icmpge rfl ⟨by first | omega | (split <;> omega), by first | omega | (split <;> omega)⟩ ⟨by decide, by decide⟩ (fun c23 => ?_) (fun c23 => ?_)
      · refine R_iconst rfl ?_
        exact R_ireturn rfl (fun _ => by omega) (Nat.zero_le _) (Nat.zero_le _) (hQ _ (Or.inr ⟨rfl, by first | (intro q; omega) | (intro q; rw [show ((n : Int)).toNat = n from rfl, hv] at q; exact absurd q.2.2 (by decide))⟩))
      · refine R_lload_n rfl rfl ?_
        obtain ⟨n, rfl⟩ := Int.eq_ofNat_of_zero_le (show 0 ≤ c by omega)
        have hbc := bit_cmp (x := bb) (n := n) (by omega)
        refine R_iload_n rfl rfl ?_
        refine R_lshr rfl ?_
        refine R_lconst rfl ?_
        refine R_land rfl ?_
        refine R_lconst rfl ?_
        refine R_lcmp rfl ?_
        rw [hbc, hbb n (by omega)]
        refine R_ifne rfl ⟨by first | omega | (split <;> omega), by first | omega | (split <;> omega)⟩ (fun c33 => ?_) (fun c33 => ?_)
        · have hv : qB G true n = false := by
            cases hv : qB G true n with
            | false => rfl
            | true => exact absurd (show (if qB G true n = true then (0 : Int) else -1) = 0 by rw [hv]; rfl) c33
          refine R_iconst rfl ?_
          exact R_ireturn rfl (fun _ => by omega) (Nat.zero_le _) (Nat.zero_le _) (hQ _ (Or.inr ⟨rfl, by first | (intro q; omega) | (intro q; rw [show ((n : Int)).toNat = n from rfl, hv] at q; exact absurd q.2.2 (by decide))⟩))
        · have hv : qB G true n = true := by
            cases hv : qB G true n with
            | true => rfl
            | false => exact absurd (show ¬ (if qB G true n = true then (0 : Int) else -1) = 0 by rw [hv]; decide) c33
          refine R_iconst rfl ?_
          refine R_goto rfl ?_
          exact R_ireturn rfl (fun _ => by omega) (Nat.zero_le _) (Nat.zero_le _) (hQ _ (Or.inl ⟨rfl, by omega, by omega, hv⟩))
/-- joined with the cell to the right (below) -/
def qJ (G : Gr) (c : Nat) (b : Bool) : Prop := qP G c b ∧ qB G b c = false
theorem isJoined_T {d k N : Nat} {h : AH} {G : Gr} {Q : AQ} (hS : isSt h k G) (hG : okG G) (hN : k + 5 ≤ N) {c : Int} {b : Bool} (hc : inR c) (hQ : ∀ z : Int, (z = 1 ∧ 0 ≤ c ∧ qJ G c.toNat b) ∨ (z = 0 ∧ ¬ (0 ≤ c ∧ qJ G c.toNat b)) → Q (.inl (some (vI z))) h N) : T (d + 2) 68 [vR k, vI c, vI (bI b)] h N Q := by
  obtain ⟨rb, bb, L, WL, WT, LN, e0, e1, e2, e3, e4, hrb, hbb, hL, hWL, hWT, hLN⟩ := id hS
  obtain ⟨hm4, hm36⟩ := hG.m
  have hmi := qM_int G
  obtain ⟨⟨hr2, hr6⟩, ⟨hc2, hc6⟩, gL, gB, gW, gWn, gWl, gN, gNl⟩ := id hG
  obtain ⟨hc1, hcx⟩ := id hc
  refine T_body (I := mi_X6_isJoined) (lv := [_, _, _]) rfl (Nat.le_of_ble_eq_true rfl) rfl ?_
  refine R_aload_n rfl rfl ?_
  refine R_iload_n rfl rfl ?_
  refine R_iload_n rfl rfl ?_
  refine R_vcall rfl rfl ⟨(by omega), _, e0⟩ ⟨Nat.le_of_ble_eq_true rfl, Nat.le_of_ble_eq_true rfl, Nat.zero_le _, Nat.zero_le _⟩ (isPlace_T hS hG hN ⟨by omega, by omega⟩ (fun z3 hz3 => aRes_i (rest := []) ?_))
  refine R_ifeq rfl ⟨by omega, by omega⟩ (fun c6 => ?_) (fun c6 => ?_)
  · have hv : ¬ (0 ≤ c ∧ qP G c.toNat b) := by
      rcases hz3 with ⟨q1, q2⟩ | ⟨q1, q2⟩
      · omega
      · exact q2
    refine R_iconst rfl ?_
    exact R_ireturn rfl (fun _ => by omega) (Nat.zero_le _) (Nat.zero_le _) (hQ _ (Or.inr ⟨rfl, fun q => by first | exact hv ⟨q.1, q.2.1⟩ | exact absurd (hw.symm.trans q.2.2) (by decide)⟩))
  · have hv : 0 ≤ c ∧ qP G c.toNat b := by
      rcases hz3 with ⟨q1, q2⟩ | ⟨q1, q2⟩
      · exact q2
      · omega
    have hv36 : c.toNat < qM G := hv.2.1
    refine R_aload_n rfl rfl ?_
    refine R_iload_n rfl rfl ?_
    refine R_iload_n rfl rfl ?_
    refine R_vcall rfl rfl ⟨(by omega), _, e0⟩ ⟨Nat.le_of_ble_eq_true rfl, Nat.le_of_ble_eq_true rfl, Nat.zero_le _, Nat.zero_le _⟩ (hasBar_T hS hG hN ⟨by omega, by omega⟩ (fun z12 hz12 => aRes_i (rest := []) ?_))
    refine R_ifne rfl ⟨by omega, by omega⟩ (fun c15 => ?_) (fun c15 => ?_)
    · have hw : qB G b c.toNat = true := by
        rcases hz12 with ⟨q1, q2, q3, q4⟩ | ⟨q1, q2⟩
        · exact q4
        · omega
      refine R_iconst rfl ?_
      exact R_ireturn rfl (fun _ => by omega) (Nat.zero_le _) (Nat.zero_le _) (hQ _ (Or.inr ⟨rfl, fun q => by first | exact hv ⟨q.1, q.2.1⟩ | exact absurd (hw.symm.trans q.2.2) (by decide)⟩))
    · have hw : qB G b c.toNat = false := by
        rcases hz12 with ⟨q1, q2, q3, q4⟩ | ⟨q1, q2⟩
        · omega
        · cases hq : qB G b c.toNat with
          | false => rfl
          | true => exact (q2 ⟨hv.1, by omega, hq⟩).elim
      refine R_iconst rfl ?_
      refine R_goto rfl ?_
      exact R_ireturn rfl (fun _ => by omega) (Nat.zero_le _) (Nat.zero_le _) (hQ _ (Or.inl ⟨rfl, hv.1, hv.2, hw⟩))
