/-! ===== the law types its text ===== -/
theorem app_9 {d N n : Nat} {tx : Nat → Int} {h : AH} {Q : AQ} {z : Int} (hF : isFace h (ys n tx)) (hN : 122 ≤ N) (hn : n < 150) (hz : 0 ≤ z ∧ z ≤ 255) (hQ : ∀ (h1 : AH) (z1 : Int), z1 = ((n + 1 : Nat) : Int) → isFace h1 (ys (n + 1) (va_up tx n z)) → (∀ j, 122 ≤ j → h1 j = h j) → Q (.inl (some (vI z1))) h1 N) : T (d + 2) 91 [vR 0, vI z] h N Q := append_T hF hN ⟨by omega, by omega⟩ (fun q => absurd hz q) (fun _ q => absurd (show n = 150 from q) (by omega)) (fun _ _ h1 hF1 ho => hQ h1 _ rfl hF1 ho)
def txB (n : Nat) (tx : Nat → Int) (e : Bool) (z : Int) : Nat → Int := match e with
  | true => va_up tx n z
  | false => tx
theorem txC_B {n : Nat} {tx : Nat → Int} {z : Int} {e s : Bool} : txB (n + 1 + tn e) (txB (n + 1) (va_up tx n (sgn z)) e 124) s 95 = txC n tx z e s := by cases e <;> cases s <;> rfl
theorem pb_A {R C c : Nat} {w : Nat → Int} {G : Gr} {x : Nat} (hp : pic R C x w G) (hc : c < R * C) (h : c % C + 1 < C) : qPb G c false = true := by
  obtain ⟨-, ⟨p2, p3, -, -⟩, -⟩ := hp
  have hm : qM G = R * C := by unfold qM; rw [p2, p3]
  show (decide (c < qM G) && decide (c % qC G + 1 < qC G)) = true
  rw [hm, p3, decide_eq_true hc, decide_eq_true h]
  rfl
theorem pb_B {R C c : Nat} {w : Nat → Int} {G : Gr} {x : Nat} (hp : pic R C x w G) (hc : c < R * C) (hC : 0 < C) (h : c / C + 1 < R) : qPb G c true = true := by
  obtain ⟨-, ⟨p2, p3, -, -⟩, -⟩ := hp
  have hm : qM G = R * C := by unfold qM; rw [p2, p3]
  have h2 : c + C < R * C := by
    have e : (c + C) / C = c / C + 1 := Nat.add_div_right c hC
    exact (Nat.div_lt_iff_lt_mul hC).mp (by rw [e]; exact h)
  show (decide (c < qM G) && decide (c + qC G < qM G)) = true
  rw [hm, p3, decide_eq_true hc, decide_eq_true h2]
  rfl
set_option maxRecDepth 20000 in
theorem tc1 {d N k s R C c : Nat} {h : AH} {Q : AQ} {w : Nat → Int} {zw zn : Int} (m0 : h 122 = eI 64 w) (hw : w 0 = R ∧ w 1 = C) (hR : 2 ≤ R ∧ R ≤ 4) (hC : 2 ≤ C ∧ C ≤ 4) (hc : c < R * C) (hN : 126 ≤ N) (hk : k ≤ 80) (hs9 : s ≤ 480) {L : Nat} {xs : Nat → Int} (hs : h aRO = eI L xs) (hL : L < 1000) (k0 : ∀ (h1 : AH) (zl x8 : Int), (zl = 0 ∨ (97 ≤ zl ∧ zl ≤ 98)) → h1 122 = eI 64 (va_up w (2 + c) zl) → (∀ j, j ≠ 122 → h1 j = h j) → Run mi_L_typed (T (d + 7)) Q 98 [some (vR 0), some (vR aRO), some (vI zw), some (vR 122), some (vR 123), some (vR 124), some (vI zn), some (vI (c : Int)), some (vI x8), none] [] h1 N k s) : Run mi_L_typed (T (d + 7)) Q 58 [some (vR 0), some (vR aRO), some (vI zw), some (vR 122), some (vR 123), some (vR 124), some (vI zn), some (vI (c : Int)), none, none] [] h N k s := by
  obtain ⟨hw0, hw1⟩ := hw
  have r0 : w (0 : Int).toNat = (R : Int) := hw0
  have r1 : w (1 : Int).toNat = (C : Int) := hw1
  obtain ⟨hR2, hR4⟩ := hR
  obtain ⟨hC2, hC4⟩ := hC
  have hM : R * C ≤ 16 := Nat.mul_le_mul hR4 hC4
  have hix : ((2 : Int) + (c : Int)).toNat = 2 + c := by omega
  refine R_aload_n rfl rfl ?_
  refine R_bipush rfl ?_
  refine R_iload rfl rfl ?_
  refine R_iadd rfl ?_
  refine R_scall rfl rfl ⟨Nat.le_of_ble_eq_true rfl, Nat.le_of_ble_eq_true rfl, (show _ ≤ 80 by omega), (show _ ≤ 480 by omega)⟩ (cell_L hs hL ⟨by omega, by omega⟩ (fun z64 => aRes_g (Or.inl rfl) ?_))
  
  refine R_istore (lv' := [_, _, _, _, _, _, _, _, _, _]) rfl rfl ?_
  refine R_aload_n rfl rfl ?_
  refine R_iconst rfl ?_
  refine R_iload rfl rfl ?_
  refine R_iadd rfl ?_
  refine R_iload rfl rfl ?_
  refine R_iconst rfl ?_
  refine R_scall rfl rfl ⟨Nat.le_of_ble_eq_true rfl, Nat.le_of_ble_eq_true rfl, (show _ ≤ 80 by omega), (show _ ≤ 480 by omega)⟩ (low_T ⟨by omega, by omega⟩ (fun z77 hz77 => aRes_g (Or.inl rfl) ?_))
  have hb77 : 0 ≤ z77 ∧ z77 < 5 := by
    rw [hz77]
    exact lowI_b _ (by decide)
  refine R_iconst rfl ?_
  refine R_icmpge rfl ⟨by omega, by omega⟩ ⟨by decide, by decide⟩ (fun c81 => ?_) (fun c81 => ?_)
  · refine R_bipush rfl ?_
    refine R_iload rfl rfl ?_
    refine R_iconst rfl ?_
    refine R_scall rfl rfl ⟨Nat.le_of_ble_eq_true rfl, Nat.le_of_ble_eq_true rfl, (show _ ≤ 80 by omega), (show _ ≤ 480 by omega)⟩ (low_T ⟨by omega, by omega⟩ (fun z93 hz93 => aRes_g (Or.inl rfl) ?_))
    have hb93 : 0 ≤ z93 ∧ z93 < 2 := by
      rw [hz93]
      exact lowI_b _ (by decide)
    refine R_iadd rfl ?_
    refine R_iastore rfl (by omega) m0 ⟨by omega, by omega, by omega⟩ ?_
    first | exact k0 _ 0 _ (Or.inl rfl) (by rw [← hix]; exact va_up_self _ _ _) (fun j hj => va_up_ne _ _ hj) | exact k0 _ (97 + z93) _ (Or.inr ⟨by omega, by omega⟩) (by rw [← hix]; exact va_up_self _ _ _) (fun j hj => va_up_ne _ _ hj)
  · refine R_iconst rfl ?_
    refine R_goto rfl ?_
    refine R_iastore rfl (by omega) m0 ⟨by omega, by omega, by omega⟩ ?_
    first | exact k0 _ 0 _ (Or.inl rfl) (by rw [← hix]; exact va_up_self _ _ _) (fun j hj => va_up_ne _ _ hj) | exact k0 _ (97 + z93) _ (Or.inr ⟨by omega, by omega⟩) (by rw [← hix]; exact va_up_self _ _ _) (fun j hj => va_up_ne _ _ hj)
set_option maxRecDepth 20000 in
theorem tc2 {d N k s R C c : Nat} {h : AH} {Q : AQ} {w : Nat → Int} {zw zn : Int} (m0 : h 122 = eI 64 w) (hw : w 0 = R ∧ w 1 = C) (hR : 2 ≤ R ∧ R ≤ 4) (hC : 2 ≤ C ∧ C ≤ 4) (hc : c < R * C) (hN : 126 ≤ N) (hk : k ≤ 80) (hs9 : s ≤ 480) {x8 : Int} (k0 : ∀ (h1 : AH) (e : Bool), (e = true → c % C + 1 < C) → h1 122 = eI 64 (va_up w (18 + c) (bI e)) → (∀ j, j ≠ 122 → h1 j = h j) → Run mi_L_typed (T (d + 7)) Q 135 [some (vR 0), some (vR aRO), some (vI zw), some (vR 122), some (vR 123), some (vR 124), some (vI zn), some (vI (c : Int)), some (vI x8), none] [] h1 N k s) : Run mi_L_typed (T (d + 7)) Q 98 [some (vR 0), some (vR aRO), some (vI zw), some (vR 122), some (vR 123), some (vR 124), some (vI zn), some (vI (c : Int)), some (vI x8), none] [] h N k s := by
  obtain ⟨hw0, hw1⟩ := hw
  have r0 : w (0 : Int).toNat = (R : Int) := hw0
  have r1 : w (1 : Int).toNat = (C : Int) := hw1
  obtain ⟨hR2, hR4⟩ := hR
  obtain ⟨hC2, hC4⟩ := hC
  have hM : R * C ≤ 16 := Nat.mul_le_mul hR4 hC4
  have hmd : (c : Int) % (C : Int) = ((c % C : Nat) : Int) := rfl
  have hdd : (c : Int) / (C : Int) = ((c / C : Nat) : Int) := rfl
  have hml := Nat.mod_lt c (show 0 < C by omega)
  have hdl : c / C < R := (Nat.div_lt_iff_lt_mul (show 0 < C by omega)).mpr hc
  have hd0 : (0 : Int) ≤ ((c / C : Nat) : Int) := Int.natCast_nonneg _
  have hix : ((18 : Int) + (c : Int)).toNat = 18 + c := by omega
  refine R_aload_n rfl rfl ?_
  refine R_bipush rfl ?_
  refine R_iload rfl rfl ?_
  refine R_iadd rfl ?_
  refine R_iload rfl rfl ?_
  refine R_aload_n rfl rfl ?_
  refine R_iconst rfl ?_
  refine R_iaload rfl (Or.inl (by omega)) m0 ⟨by omega, by omega, by omega⟩ ?_
  rw [r1]
  refine R_irem rfl ⟨by omega, by omega, by omega, by omega⟩ ?_
  rw [hmd]
  refine R_aload_n rfl rfl ?_
  refine R_iconst rfl ?_
  refine R_iaload rfl (Or.inl (by omega)) m0 ⟨by omega, by omega, by omega⟩ ?_
  rw [r1]
  refine R_iconst rfl ?_
  refine R_isub rfl ?_
  refine R_icmpge rfl ⟨by omega, by omega⟩ ⟨by omega, by omega⟩ (fun c115 => ?_) (fun c115 => ?_)
  · refine R_iconst rfl ?_
    refine R_iastore rfl (by omega) m0 ⟨by omega, by omega, by omega⟩ ?_
    first | exact k0 _ true (fun _ => by omega) (by rw [← hix]; exact va_up_self _ _ _) (fun j hj => va_up_ne _ _ hj) | exact k0 _ false (fun q => by cases q) (by rw [← hix]; exact va_up_self _ _ _) (fun j hj => va_up_ne _ _ hj)
  · refine R_iload rfl rfl ?_
    refine R_iconst rfl ?_
    refine R_ishr rfl ?_
    refine R_iconst rfl ?_
    refine R_scall rfl rfl ⟨Nat.le_of_ble_eq_true rfl, Nat.le_of_ble_eq_true rfl, (show _ ≤ 80 by omega), (show _ ≤ 480 by omega)⟩ (low_T ⟨by omega, by omega⟩ (fun z123 hz123 => aRes_g (Or.inl rfl) ?_))
    have hb123 : 0 ≤ z123 ∧ z123 < 3 := by
      rw [hz123]
      exact lowI_b _ (by decide)
    refine R_ifne rfl ⟨by omega, by omega⟩ (fun c126 => ?_) (fun c126 => ?_)
    · refine R_iconst rfl ?_
      refine R_iastore rfl (by omega) m0 ⟨by omega, by omega, by omega⟩ ?_
      first | exact k0 _ true (fun _ => by omega) (by rw [← hix]; exact va_up_self _ _ _) (fun j hj => va_up_ne _ _ hj) | exact k0 _ false (fun q => by cases q) (by rw [← hix]; exact va_up_self _ _ _) (fun j hj => va_up_ne _ _ hj)
    · refine R_iconst rfl ?_
      refine R_goto rfl ?_
      refine R_iastore rfl (by omega) m0 ⟨by omega, by omega, by omega⟩ ?_
      first | exact k0 _ true (fun _ => by omega) (by rw [← hix]; exact va_up_self _ _ _) (fun j hj => va_up_ne _ _ hj) | exact k0 _ false (fun q => by cases q) (by rw [← hix]; exact va_up_self _ _ _) (fun j hj => va_up_ne _ _ hj)
set_option maxRecDepth 20000 in
theorem tc3 {d N k s R C c : Nat} {h : AH} {Q : AQ} {w : Nat → Int} {zw zn : Int} (m0 : h 122 = eI 64 w) (hw : w 0 = R ∧ w 1 = C) (hR : 2 ≤ R ∧ R ≤ 4) (hC : 2 ≤ C ∧ C ≤ 4) (hc : c < R * C) (hN : 126 ≤ N) (hk : k ≤ 80) (hs9 : s ≤ 480) {x8 : Int} (k0 : ∀ (h1 : AH) (e : Bool), (e = true → c / C + 1 < R) → h1 122 = eI 64 (va_up w (34 + c) (bI e)) → (∀ j, j ≠ 122 → h1 j = h j) → Run mi_L_typed (T (d + 7)) Q 172 [some (vR 0), some (vR aRO), some (vI zw), some (vR 122), some (vR 123), some (vR 124), some (vI zn), some (vI (c : Int)), some (vI x8), none] [] h1 N k s) : Run mi_L_typed (T (d + 7)) Q 135 [some (vR 0), some (vR aRO), some (vI zw), some (vR 122), some (vR 123), some (vR 124), some (vI zn), some (vI (c : Int)), some (vI x8), none] [] h N k s := by
  obtain ⟨hw0, hw1⟩ := hw
  have r0 : w (0 : Int).toNat = (R : Int) := hw0
  have r1 : w (1 : Int).toNat = (C : Int) := hw1
  obtain ⟨hR2, hR4⟩ := hR
  obtain ⟨hC2, hC4⟩ := hC
  have hM : R * C ≤ 16 := Nat.mul_le_mul hR4 hC4
  have hmd : (c : Int) % (C : Int) = ((c % C : Nat) : Int) := rfl
  have hdd : (c : Int) / (C : Int) = ((c / C : Nat) : Int) := rfl
  have hml := Nat.mod_lt c (show 0 < C by omega)
  have hdl : c / C < R := (Nat.div_lt_iff_lt_mul (show 0 < C by omega)).mpr hc
  have hd0 : (0 : Int) ≤ ((c / C : Nat) : Int) := Int.natCast_nonneg _
  have hix : ((34 : Int) + (c : Int)).toNat = 34 + c := by omega
  refine R_aload_n rfl rfl ?_
  refine R_bipush rfl ?_
  refine R_iload rfl rfl ?_
  refine R_iadd rfl ?_
  refine R_iload rfl rfl ?_
  refine R_aload_n rfl rfl ?_
  refine R_iconst rfl ?_
  refine R_iaload rfl (Or.inl (by omega)) m0 ⟨by omega, by omega, by omega⟩ ?_
  rw [r1]
  refine R_idiv rfl ⟨by omega, by omega, by omega, by omega⟩ ?_
  rw [hdd]
  refine R_aload_n rfl rfl ?_
  refine R_iconst rfl ?_
  refine R_iaload rfl (Or.inl (by omega)) m0 ⟨by omega, by omega, by omega⟩ ?_
  rw [r0]
  refine R_iconst rfl ?_
  refine R_isub rfl ?_
  refine R_icmpge rfl ⟨by omega, by omega⟩ ⟨by omega, by omega⟩ (fun c152 => ?_) (fun c152 => ?_)
  · refine R_iconst rfl ?_
    refine R_iastore rfl (by omega) m0 ⟨by omega, by omega, by omega⟩ ?_
    first | exact k0 _ true (fun _ => by omega) (by rw [← hix]; exact va_up_self _ _ _) (fun j hj => va_up_ne _ _ hj) | exact k0 _ false (fun q => by cases q) (by rw [← hix]; exact va_up_self _ _ _) (fun j hj => va_up_ne _ _ hj)
  · refine R_iload rfl rfl ?_
    refine R_iconst rfl ?_
    refine R_ishr rfl ?_
    refine R_iconst rfl ?_
    refine R_scall rfl rfl ⟨Nat.le_of_ble_eq_true rfl, Nat.le_of_ble_eq_true rfl, (show _ ≤ 80 by omega), (show _ ≤ 480 by omega)⟩ (low_T ⟨by omega, by omega⟩ (fun z160 hz160 => aRes_g (Or.inl rfl) ?_))
    have hb160 : 0 ≤ z160 ∧ z160 < 3 := by
      rw [hz160]
      exact lowI_b _ (by decide)
    refine R_ifne rfl ⟨by omega, by omega⟩ (fun c163 => ?_) (fun c163 => ?_)
    · refine R_iconst rfl ?_
      refine R_iastore rfl (by omega) m0 ⟨by omega, by omega, by omega⟩ ?_
      first | exact k0 _ true (fun _ => by omega) (by rw [← hix]; exact va_up_self _ _ _) (fun j hj => va_up_ne _ _ hj) | exact k0 _ false (fun q => by cases q) (by rw [← hix]; exact va_up_self _ _ _) (fun j hj => va_up_ne _ _ hj)
    · refine R_iconst rfl ?_
      refine R_goto rfl ?_
      refine R_iastore rfl (by omega) m0 ⟨by omega, by omega, by omega⟩ ?_
      first | exact k0 _ true (fun _ => by omega) (by rw [← hix]; exact va_up_self _ _ _) (fun j hj => va_up_ne _ _ hj) | exact k0 _ false (fun q => by cases q) (by rw [← hix]; exact va_up_self _ _ _) (fun j hj => va_up_ne _ _ hj)
set_option maxRecDepth 20000 in
theorem tc4 {d N k s R C c : Nat} {h : AH} {Q : AQ} {w : Nat → Int} {zw zn : Int} (m0 : h 122 = eI 64 w) (hw : w 0 = R ∧ w 1 = C) (hR : 2 ≤ R ∧ R ≤ 4) (hC : 2 ≤ C ∧ C ≤ 4) (hc : c < R * C) (hN : 126 ≤ N) (hk : k ≤ 80) (hs9 : s ≤ 480) {n : Nat} {tx : Nat → Int} (hF : isFace h (ys n tx)) (hzn : zn = (n : Nat)) (hn79 : n ≤ 79) (hk1 : k + 1 ≤ 80) (hs1 : s + 6 ≤ 480) {x8 zl : Int} (hzl : zl = 0 ∨ (97 ≤ zl ∧ zl ≤ 98)) (hwl : w (2 + c) = zl) (k0 : ∀ h1 : AH, isFace h1 (ys (n + 1) (va_up tx n (sgn zl))) → (∀ j, 122 ≤ j → h1 j = h j) → Run mi_L_typed (T (d + 7)) Q 204 [some (vR 0), some (vR aRO), some (vI zw), some (vR 122), some (vR 123), some (vR 124), some (vI (zn + 1)), some (vI (c : Int)), some (vI x8), none] [] h1 N (k + 1) (s + 6)) : Run mi_L_typed (T (d + 7)) Q 172 [some (vR 0), some (vR aRO), some (vI zw), some (vR 122), some (vR 123), some (vR 124), some (vI zn), some (vI (c : Int)), some (vI x8), none] [] h N k s := by
  obtain ⟨hw0, hw1⟩ := hw
  have r0 : w (0 : Int).toNat = (R : Int) := hw0
  have r1 : w (1 : Int).toNat = (C : Int) := hw1
  obtain ⟨hR2, hR4⟩ := hR
  obtain ⟨hC2, hC4⟩ := hC
  have hM : R * C ≤ 16 := Nat.mul_le_mul hR4 hC4
  have hwz : w ((2 : Int) + (c : Int)).toNat = zl := by
    rw [show ((2 : Int) + (c : Int)).toNat = 2 + c by omega]
    exact hwl
  refine R_aload_n rfl rfl ?_
  refine R_aload_n rfl rfl ?_
  refine R_iconst rfl ?_
  refine R_iload rfl rfl ?_
  refine R_iadd rfl ?_
  refine R_iaload rfl (Or.inl (by omega)) m0 ⟨by omega, by omega, by omega⟩ ?_
  rw [hwz]
  refine R_ifne rfl ⟨by omega, by omega⟩ (fun c179 => ?_) (fun c179 => ?_)
  · refine R_aload_n rfl rfl ?_
    refine R_iconst rfl ?_
    refine R_iload rfl rfl ?_
    refine R_iadd rfl ?_
    refine R_iaload rfl (Or.inl (by omega)) m0 ⟨by omega, by omega, by omega⟩ ?_
    try rw [hwz]
    refine R_vcall rfl rfl ⟨(by omega), _, hF.1⟩ ⟨Nat.le_of_ble_eq_true rfl, Nat.le_of_ble_eq_true rfl, (show _ ≤ 80 by omega), (show _ ≤ 480 by omega)⟩ (app_9 hF (by omega) (by omega) ⟨by omega, by omega⟩ (fun h193 z193 hz193 hF193 ho193 => aRes_g (Or.inl rfl) ?_))
    
    refine R_iinc (lv' := [_, _, _, _, _, _, _, _, _, _]) rfl rfl rfl ?_
    refine R_iload rfl rfl ?_
    refine R_icmpne rfl ⟨by omega, by omega⟩ ⟨by omega, by omega⟩ (fun c201 => ?_) (fun c201 => ?_)
    · exact absurd (by omega) c201
    · first | exact k0 _ (by rw [show sgn zl = 46 from if_pos (by omega)]; exact hF193) ho193 | exact k0 _ (by rw [show sgn zl = zl from if_neg c179]; exact hF193) ho193
  · refine R_bipush rfl ?_
    refine R_goto rfl ?_
    try rw [hwz]
    refine R_vcall rfl rfl ⟨(by omega), _, hF.1⟩ ⟨Nat.le_of_ble_eq_true rfl, Nat.le_of_ble_eq_true rfl, (show _ ≤ 80 by omega), (show _ ≤ 480 by omega)⟩ (app_9 hF (by omega) (by omega) ⟨by omega, by omega⟩ (fun h193 z193 hz193 hF193 ho193 => aRes_g (Or.inl rfl) ?_))
    
    refine R_iinc (lv' := [_, _, _, _, _, _, _, _, _, _]) rfl rfl rfl ?_
    refine R_iload rfl rfl ?_
    refine R_icmpne rfl ⟨by omega, by omega⟩ ⟨by omega, by omega⟩ (fun c201 => ?_) (fun c201 => ?_)
    · exact absurd (by omega) c201
    · first | exact k0 _ (by rw [show sgn zl = 46 from if_pos (by omega)]; exact hF193) ho193 | exact k0 _ (by rw [show sgn zl = zl from if_neg c179]; exact hF193) ho193
set_option maxRecDepth 20000 in
theorem tc5_true {d N k s R C c : Nat} {h : AH} {Q : AQ} {w : Nat → Int} {zw zn : Int} (m0 : h 122 = eI 64 w) (hw : w 0 = R ∧ w 1 = C) (hR : 2 ≤ R ∧ R ≤ 4) (hC : 2 ≤ C ∧ C ≤ 4) (hc : c < R * C) (hN : 126 ≤ N) (hk : k ≤ 80) (hs9 : s ≤ 480) {n : Nat} {tx : Nat → Int} (hF : isFace h (ys n tx)) (hzn : zn = (n : Nat)) (hn79 : n ≤ 79) (hk1 : k + 1 ≤ 80) (hs1 : s + 6 ≤ 480) {x8 : Int} (hwb : w (18 + c) = 1) (k0 : ∀ (h1 : AH) (zn1 : Int) (k1 s1 : Nat), zn1 = ((n + tn true : Nat) : Int) → isFace h1 (ys (n + tn true) (txB n tx true 124)) → (∀ j, 122 ≤ j → h1 j = h j) → k1 ≤ k + tn true → s1 ≤ s + 6 * tn true → Run mi_L_typed (T (d + 7)) Q 229 [some (vR 0), some (vR aRO), some (vI zw), some (vR 122), some (vR 123), some (vR 124), some (vI zn1), some (vI (c : Int)), some (vI x8), none] [] h1 N k1 s1) : Run mi_L_typed (T (d + 7)) Q 204 [some (vR 0), some (vR aRO), some (vI zw), some (vR 122), some (vR 123), some (vR 124), some (vI zn), some (vI (c : Int)), some (vI x8), none] [] h N k s := by
  obtain ⟨hw0, hw1⟩ := hw
  have r0 : w (0 : Int).toNat = (R : Int) := hw0
  have r1 : w (1 : Int).toNat = (C : Int) := hw1
  obtain ⟨hR2, hR4⟩ := hR
  obtain ⟨hC2, hC4⟩ := hC
  have hM : R * C ≤ 16 := Nat.mul_le_mul hR4 hC4
  have hwe : w ((18 : Int) + (c : Int)).toNat = 1 := by
    rw [show ((18 : Int) + (c : Int)).toNat = 18 + c by omega]
    exact hwb
  refine R_aload_n rfl rfl ?_
  refine R_bipush rfl ?_
  refine R_iload rfl rfl ?_
  refine R_iadd rfl ?_
  refine R_iaload rfl (Or.inl (by omega)) m0 ⟨by omega, by omega, by omega⟩ ?_
  rw [hwe]
  refine R_iconst rfl ?_
  refine R_icmpne rfl ⟨by omega, by omega⟩ ⟨by decide, by decide⟩ (fun c212 => ?_) (fun c212 => ?_)
  · exact absurd rfl c212
  · refine R_aload_n rfl rfl ?_
    refine R_bipush rfl ?_
    refine R_vcall rfl rfl ⟨(by omega), _, hF.1⟩ ⟨Nat.le_of_ble_eq_true rfl, Nat.le_of_ble_eq_true rfl, (show _ ≤ 80 by omega), (show _ ≤ 480 by omega)⟩ (app_9 hF (by omega) (by omega) ⟨by omega, by omega⟩ (fun h218 z218 hz218 hF218 ho218 => aRes_g (Or.inl rfl) ?_))
    
    refine R_iinc (lv' := [_, _, _, _, _, _, _, _, _, _]) rfl rfl rfl ?_
    refine R_iload rfl rfl ?_
    refine R_icmpne rfl ⟨by omega, by omega⟩ ⟨by omega, by omega⟩ (fun c226 => ?_) (fun c226 => ?_)
    · exact absurd (by omega) c226
    · exact k0 _ _ _ _ (by show _ = ((n + 1 : Nat) : Int); omega) hF218 ho218 (by show _ ≤ k + 1; omega) (by show _ ≤ s + 6 * 1; omega)
set_option maxRecDepth 20000 in
theorem tc5_false {d N k s R C c : Nat} {h : AH} {Q : AQ} {w : Nat → Int} {zw zn : Int} (m0 : h 122 = eI 64 w) (hw : w 0 = R ∧ w 1 = C) (hR : 2 ≤ R ∧ R ≤ 4) (hC : 2 ≤ C ∧ C ≤ 4) (hc : c < R * C) (hN : 126 ≤ N) (hk : k ≤ 80) (hs9 : s ≤ 480) {n : Nat} {tx : Nat → Int} (hF : isFace h (ys n tx)) (hzn : zn = (n : Nat)) (hn79 : n ≤ 79) (hk1 : k + 1 ≤ 80) (hs1 : s + 6 ≤ 480) {x8 : Int} (hwb : w (18 + c) = 0) (k0 : ∀ (h1 : AH) (zn1 : Int) (k1 s1 : Nat), zn1 = ((n + tn false : Nat) : Int) → isFace h1 (ys (n + tn false) (txB n tx false 124)) → (∀ j, 122 ≤ j → h1 j = h j) → k1 ≤ k + tn false → s1 ≤ s + 6 * tn false → Run mi_L_typed (T (d + 7)) Q 229 [some (vR 0), some (vR aRO), some (vI zw), some (vR 122), some (vR 123), some (vR 124), some (vI zn1), some (vI (c : Int)), some (vI x8), none] [] h1 N k1 s1) : Run mi_L_typed (T (d + 7)) Q 204 [some (vR 0), some (vR aRO), some (vI zw), some (vR 122), some (vR 123), some (vR 124), some (vI zn), some (vI (c : Int)), some (vI x8), none] [] h N k s := by
  obtain ⟨hw0, hw1⟩ := hw
  have r0 : w (0 : Int).toNat = (R : Int) := hw0
  have r1 : w (1 : Int).toNat = (C : Int) := hw1
  obtain ⟨hR2, hR4⟩ := hR
  obtain ⟨hC2, hC4⟩ := hC
  have hM : R * C ≤ 16 := Nat.mul_le_mul hR4 hC4
  have hwe : w ((18 : Int) + (c : Int)).toNat = 0 := by
    rw [show ((18 : Int) + (c : Int)).toNat = 18 + c by omega]
    exact hwb
  refine R_aload_n rfl rfl ?_
  refine R_bipush rfl ?_
  refine R_iload rfl rfl ?_
  refine R_iadd rfl ?_
  refine R_iaload rfl (Or.inl (by omega)) m0 ⟨by omega, by omega, by omega⟩ ?_
  rw [hwe]
  refine R_iconst rfl ?_
  refine R_icmpne rfl ⟨by omega, by omega⟩ ⟨by decide, by decide⟩ (fun c212 => ?_) (fun c212 => ?_)
  · exact k0 h _ k s hzn hF (fun _ _ => rfl) (Nat.le_refl _) (Nat.le_refl _)
  · exact absurd (show (0 : Int) = 1 by omega) (by decide)
set_option maxRecDepth 20000 in
theorem tc5 {d N k s R C c : Nat} {h : AH} {Q : AQ} {w : Nat → Int} {zw zn : Int} (m0 : h 122 = eI 64 w) (hw : w 0 = R ∧ w 1 = C) (hR : 2 ≤ R ∧ R ≤ 4) (hC : 2 ≤ C ∧ C ≤ 4) (hc : c < R * C) (hN : 126 ≤ N) (hk : k ≤ 80) (hs9 : s ≤ 480) {n : Nat} {tx : Nat → Int} (hF : isFace h (ys n tx)) (hzn : zn = (n : Nat)) (hn79 : n ≤ 79) (hk1 : k + 1 ≤ 80) (hs1 : s + 6 ≤ 480) {x8 : Int} {e : Bool} (hwb : w (18 + c) = bI e) (k0 : ∀ (h1 : AH) (zn1 : Int) (k1 s1 : Nat), zn1 = ((n + tn e : Nat) : Int) → isFace h1 (ys (n + tn e) (txB n tx e 124)) → (∀ j, 122 ≤ j → h1 j = h j) → k1 ≤ k + tn e → s1 ≤ s + 6 * tn e → Run mi_L_typed (T (d + 7)) Q 229 [some (vR 0), some (vR aRO), some (vI zw), some (vR 122), some (vR 123), some (vR 124), some (vI zn1), some (vI (c : Int)), some (vI x8), none] [] h1 N k1 s1) : Run mi_L_typed (T (d + 7)) Q 204 [some (vR 0), some (vR aRO), some (vI zw), some (vR 122), some (vR 123), some (vR 124), some (vI zn), some (vI (c : Int)), some (vI x8), none] [] h N k s := by
  cases e
  · exact tc5_false m0 hw hR hC hc hN hk hs9 hF hzn hn79 hk1 hs1 hwb k0
  · exact tc5_true m0 hw hR hC hc hN hk hs9 hF hzn hn79 hk1 hs1 hwb k0
set_option maxRecDepth 20000 in
theorem tc6_true {d N k s R C c : Nat} {h : AH} {Q : AQ} {w : Nat → Int} {zw zn : Int} (m0 : h 122 = eI 64 w) (hw : w 0 = R ∧ w 1 = C) (hR : 2 ≤ R ∧ R ≤ 4) (hC : 2 ≤ C ∧ C ≤ 4) (hc : c < R * C) (hN : 126 ≤ N) (hk : k ≤ 80) (hs9 : s ≤ 480) {n : Nat} {tx : Nat → Int} (hF : isFace h (ys n tx)) (hzn : zn = (n : Nat)) (hn79 : n ≤ 79) (hk1 : k + 1 ≤ 80) (hs1 : s + 6 ≤ 480) {x8 : Int} (hwb : w (34 + c) = 1) (k0 : ∀ (h1 : AH) (zn1 : Int) (k1 s1 : Nat), zn1 = ((n + tn true : Nat) : Int) → isFace h1 (ys (n + tn true) (txB n tx true 95)) → (∀ j, 122 ≤ j → h1 j = h j) → k1 ≤ k + tn true → s1 ≤ s + 6 * tn true → Run mi_L_typed (T (d + 7)) Q 256 [some (vR 0), some (vR aRO), some (vI zw), some (vR 122), some (vR 123), some (vR 124), some (vI zn1), some (vI (c : Int)), some (vI x8), none] [] h1 N k1 s1) : Run mi_L_typed (T (d + 7)) Q 229 [some (vR 0), some (vR aRO), some (vI zw), some (vR 122), some (vR 123), some (vR 124), some (vI zn), some (vI (c : Int)), some (vI x8), none] [] h N k s := by
  obtain ⟨hw0, hw1⟩ := hw
  have r0 : w (0 : Int).toNat = (R : Int) := hw0
  have r1 : w (1 : Int).toNat = (C : Int) := hw1
  obtain ⟨hR2, hR4⟩ := hR
  obtain ⟨hC2, hC4⟩ := hC
  have hM : R * C ≤ 16 := Nat.mul_le_mul hR4 hC4
  have hwe : w ((34 : Int) + (c : Int)).toNat = 1 := by
    rw [show ((34 : Int) + (c : Int)).toNat = 34 + c by omega]
    exact hwb
  refine R_aload_n rfl rfl ?_
  refine R_bipush rfl ?_
  refine R_iload rfl rfl ?_
  refine R_iadd rfl ?_
  refine R_iaload rfl (Or.inl (by omega)) m0 ⟨by omega, by omega, by omega⟩ ?_
  rw [hwe]
  refine R_iconst rfl ?_
  refine R_icmpne rfl ⟨by omega, by omega⟩ ⟨by decide, by decide⟩ (fun c237 => ?_) (fun c237 => ?_)
  · exact absurd rfl c237
  · refine R_aload_n rfl rfl ?_
    refine R_bipush rfl ?_
    refine R_vcall rfl rfl ⟨(by omega), _, hF.1⟩ ⟨Nat.le_of_ble_eq_true rfl, Nat.le_of_ble_eq_true rfl, (show _ ≤ 80 by omega), (show _ ≤ 480 by omega)⟩ (app_9 hF (by omega) (by omega) ⟨by omega, by omega⟩ (fun h243 z243 hz243 hF243 ho243 => aRes_g (Or.inl rfl) ?_))
    
    refine R_iinc (lv' := [_, _, _, _, _, _, _, _, _, _]) rfl rfl rfl ?_
    refine R_iload rfl rfl ?_
    refine R_icmpeq rfl ⟨by omega, by omega⟩ ⟨by omega, by omega⟩ (fun c251 => ?_) (fun c251 => ?_)
    · exact k0 _ _ _ _ (by show _ = ((n + 1 : Nat) : Int); omega) hF243 ho243 (by show _ ≤ k + 1; omega) (by show _ ≤ s + 6 * 1; omega)
    · exact absurd (by omega) c251
set_option maxRecDepth 20000 in
theorem tc6_false {d N k s R C c : Nat} {h : AH} {Q : AQ} {w : Nat → Int} {zw zn : Int} (m0 : h 122 = eI 64 w) (hw : w 0 = R ∧ w 1 = C) (hR : 2 ≤ R ∧ R ≤ 4) (hC : 2 ≤ C ∧ C ≤ 4) (hc : c < R * C) (hN : 126 ≤ N) (hk : k ≤ 80) (hs9 : s ≤ 480) {n : Nat} {tx : Nat → Int} (hF : isFace h (ys n tx)) (hzn : zn = (n : Nat)) (hn79 : n ≤ 79) (hk1 : k + 1 ≤ 80) (hs1 : s + 6 ≤ 480) {x8 : Int} (hwb : w (34 + c) = 0) (k0 : ∀ (h1 : AH) (zn1 : Int) (k1 s1 : Nat), zn1 = ((n + tn false : Nat) : Int) → isFace h1 (ys (n + tn false) (txB n tx false 95)) → (∀ j, 122 ≤ j → h1 j = h j) → k1 ≤ k + tn false → s1 ≤ s + 6 * tn false → Run mi_L_typed (T (d + 7)) Q 256 [some (vR 0), some (vR aRO), some (vI zw), some (vR 122), some (vR 123), some (vR 124), some (vI zn1), some (vI (c : Int)), some (vI x8), none] [] h1 N k1 s1) : Run mi_L_typed (T (d + 7)) Q 229 [some (vR 0), some (vR aRO), some (vI zw), some (vR 122), some (vR 123), some (vR 124), some (vI zn), some (vI (c : Int)), some (vI x8), none] [] h N k s := by
  obtain ⟨hw0, hw1⟩ := hw
  have r0 : w (0 : Int).toNat = (R : Int) := hw0
  have r1 : w (1 : Int).toNat = (C : Int) := hw1
  obtain ⟨hR2, hR4⟩ := hR
  obtain ⟨hC2, hC4⟩ := hC
  have hM : R * C ≤ 16 := Nat.mul_le_mul hR4 hC4
  have hwe : w ((34 : Int) + (c : Int)).toNat = 0 := by
    rw [show ((34 : Int) + (c : Int)).toNat = 34 + c by omega]
    exact hwb
  refine R_aload_n rfl rfl ?_
  refine R_bipush rfl ?_
  refine R_iload rfl rfl ?_
  refine R_iadd rfl ?_
  refine R_iaload rfl (Or.inl (by omega)) m0 ⟨by omega, by omega, by omega⟩ ?_
  rw [hwe]
  refine R_iconst rfl ?_
  refine R_icmpne rfl ⟨by omega, by omega⟩ ⟨by decide, by decide⟩ (fun c237 => ?_) (fun c237 => ?_)
  · exact k0 h _ k s hzn hF (fun _ _ => rfl) (Nat.le_refl _) (Nat.le_refl _)
  · exact absurd (show (0 : Int) = 1 by omega) (by decide)
set_option maxRecDepth 20000 in
theorem tc6 {d N k s R C c : Nat} {h : AH} {Q : AQ} {w : Nat → Int} {zw zn : Int} (m0 : h 122 = eI 64 w) (hw : w 0 = R ∧ w 1 = C) (hR : 2 ≤ R ∧ R ≤ 4) (hC : 2 ≤ C ∧ C ≤ 4) (hc : c < R * C) (hN : 126 ≤ N) (hk : k ≤ 80) (hs9 : s ≤ 480) {n : Nat} {tx : Nat → Int} (hF : isFace h (ys n tx)) (hzn : zn = (n : Nat)) (hn79 : n ≤ 79) (hk1 : k + 1 ≤ 80) (hs1 : s + 6 ≤ 480) {x8 : Int} {e : Bool} (hwb : w (34 + c) = bI e) (k0 : ∀ (h1 : AH) (zn1 : Int) (k1 s1 : Nat), zn1 = ((n + tn e : Nat) : Int) → isFace h1 (ys (n + tn e) (txB n tx e 95)) → (∀ j, 122 ≤ j → h1 j = h j) → k1 ≤ k + tn e → s1 ≤ s + 6 * tn e → Run mi_L_typed (T (d + 7)) Q 256 [some (vR 0), some (vR aRO), some (vI zw), some (vR 122), some (vR 123), some (vR 124), some (vI zn1), some (vI (c : Int)), some (vI x8), none] [] h1 N k1 s1) : Run mi_L_typed (T (d + 7)) Q 229 [some (vR 0), some (vR aRO), some (vI zw), some (vR 122), some (vR 123), some (vR 124), some (vI zn), some (vI (c : Int)), some (vI x8), none] [] h N k s := by
  cases e
  · exact tc6_false m0 hw hR hC hc hN hk hs9 hF hzn hn79 hk1 hs1 hwb k0
  · exact tc6_true m0 hw hR hC hc hN hk hs9 hF hzn hn79 hk1 hs1 hwb k0
theorem isFace_up {h h' : AH} {y : Sy} (hF : isFace h y) (ho : ∀ j, j ≠ 122 → h' j = h j) : isFace h' y := by
  obtain ⟨b0, ⟨px, hT⟩, ⟨Gt, hSt⟩, hP, hG, ⟨Gr9, hPt⟩, hM, hSe, hFl, hst⟩ := hF
  refine ⟨(ho _ (by decide)).trans b0, ⟨px, isTx_fr hT (ho _ (by decide)) (ho _ (by decide))⟩, ⟨Gt, isSt_fr hSt (fun j _ _ => ho j (by omega))⟩, isPz_fr hP (fun j _ _ => ho j (by omega)), hG, ⟨Gr9, isPa_fr hPt (fun j _ _ => ho j (by omega))⟩, isMem_fr hM (fun j _ _ => ho j (by omega)), ?_, ?_, ?_⟩
  · obtain ⟨e, l, f, g, us, P, FP, s0, s1, s2⟩ := hSe
    exact ⟨e, l, f, g, us, P, FP, (ho _ (by decide)).trans s0, (ho _ (by decide)).trans s1, (ho _ (by decide)).trans s2⟩
  · obtain ⟨w, u, FT, GV, s0, s1, s2⟩ := hFl
    exact ⟨w, u, FT, GV, (ho _ (by decide)).trans s0, (ho _ (by decide)).trans s1, (ho _ (by decide)).trans s2⟩
  · exact ⟨(ho _ (by decide)).trans hst.1, (ho _ (by decide)).trans hst.2⟩
set_option maxRecDepth 20000 in
theorem tc_loop {d N R C : Nat} {h0 : AH} {Q : AQ} {zw : Int} {L : Nat} {xs : Nat → Int} (hs : h0 aRO = eI L xs) (hL : L < 1000) (hR : 2 ≤ R ∧ R ≤ 4) (hC : 2 ≤ C ∧ C ≤ 4) (hN : 126 ≤ N) : ∀ (r c n : Nat) (tx w : Nat → Int) (G : Gr) (h : AH) (k s : Nat) (zn zc : Int), c + r = R * C → zc = c → zn = (n : Nat) → n ≤ 3 + 3 * c → 3 ≤ n → k ≤ n → s ≤ 6 * n → isFace h (ys n tx) → h 122 = eI 64 w → (∀ j, 123 ≤ j → h j = h0 j) → pic R C c w G → invC R C c n tx G → hdr R C tx → (∀ (h1 : AH) (n1 : Nat) (tx1 w1 : Nat → Int) (G1 : Gr) (k1 s1 : Nat) (zn1 zc1 : Int), zn1 = (n1 : Nat) → n1 ≤ 51 → 3 ≤ n1 → k1 ≤ n1 → s1 ≤ 6 * n1 → isFace h1 (ys n1 tx1) → h1 122 = eI 64 w1 → (∀ j, 123 ≤ j → h1 j = h0 j) → pic R C (R * C) w1 G1 → invC R C (R * C) n1 tx1 G1 → hdr R C tx1 → Run mi_L_typed (T (d + 7)) Q 262 [some (vR 0), some (vR aRO), some (vI zw), some (vR 122), some (vR 123), some (vR 124), some (vI zn1), some (vI zc1), none, none] [] h1 N k1 s1) → Run mi_L_typed (T (d + 7)) Q 46 [some (vR 0), some (vR aRO), some (vI zw), some (vR 122), some (vR 123), some (vR 124), some (vI zn), some (vI zc), none, none] [] h N k s := by
  intro r
  induction r using Nat.strongRecOn with
  | ind r ih =>
  intro c n tx w G h k s zn zc hr hzc hzn hn hn3 hk hs9 hF m0 hoo hp hi hh k0
  have r0 : w (0 : Int).toNat = (R : Int) := hp.1.1
  have r1 : w (1 : Int).toNat = (C : Int) := hp.1.2
  have hM : R * C ≤ 16 := Nat.mul_le_mul hR.2 hC.2
  have hR4 := hR.2
  have hC4 := hC.2
  refine R_iload rfl rfl ?_
  refine R_aload_n rfl rfl ?_
  refine R_iconst rfl ?_
  refine R_iaload rfl (Or.inl (by omega)) m0 ⟨by omega, by omega, by omega⟩ ?_
  rw [r0]
  refine R_aload_n rfl rfl ?_
  refine R_iconst rfl ?_
  refine R_iaload rfl (Or.inl (by omega)) m0 ⟨by omega, by omega, by omega⟩ ?_
  rw [r1]
  refine R_imul rfl ?_
  rw [show (R : Int) * (C : Int) = ((R * C : Nat) : Int) from rfl]
  refine R_icmpge rfl ⟨by omega, by omega⟩ ⟨by omega, by omega⟩ (fun c55 => ?_) (fun c55 => ?_)
  · have hr0 : r = 0 := by omega
    subst hr0
    obtain rfl : c = R * C := by omega
    exact k0 h n tx w G k s _ _ hzn (by omega) hn3 hk hs9 hF m0 hoo hp hi hh
  · obtain ⟨r, rfl⟩ : ∃ r1, r = r1 + 1 := ⟨r - 1, by omega⟩
    subst hzc
    obtain ⟨hR2, hR4⟩ := id hR
    obtain ⟨hC2, hC4⟩ := id hC
    obtain ⟨hw0, hw1⟩ := id hp.1
    refine tc1 m0 ⟨hw0, hw1⟩ hR hC (c := c) (by omega) hN (by omega) (by omega) (hs := (hoo _ (by decide)).trans hs) hL (fun h1 zl x8 hzl d2 d3 => ?_)
    refine tc2 d2 ⟨(va_up_ne _ _ (by omega)).trans hw0, (va_up_ne _ _ (by omega)).trans hw1⟩ hR hC (c := c) (by omega) hN (by omega) (by omega) (fun h2 e he e2 e3 => ?_)
    refine tc3 e2 ⟨(va_up_ne _ _ (by omega)).trans ((va_up_ne _ _ (by omega)).trans hw0), (va_up_ne _ _ (by omega)).trans ((va_up_ne _ _ (by omega)).trans hw1)⟩ hR hC (c := c) (by omega) hN (by omega) (by omega) (fun h3 b hb g2 f3 => ?_)
    have hzl9 := hzl
    have hzl : zl = 0 ∨ isLb zl = true := by
      rcases hzl with q | ⟨q1, q2⟩
      · exact Or.inl q
      · exact Or.inr (isLb_t.mpr ⟨q1, by omega⟩)
    have hea : e = true → qPb G c false = true := fun q => pb_A hp (by omega) (he q)
    have heb : b = true → qPb G c true = true := fun q => pb_B hp (by omega) (by omega) (hb q)
    have hF3 : isFace h3 (ys n tx) := isFace_up (isFace_up (isFace_up hF d3) e3) f3
    have hwl : va_up (va_up (va_up w (2 + c) zl) (18 + c) (bI e)) (34 + c) (bI b) (2 + c) = zl := by
      rw [va_up_ne _ _ (by omega), va_up_ne _ _ (by omega), va_up_self]
    have hwe : va_up (va_up (va_up w (2 + c) zl) (18 + c) (bI e)) (34 + c) (bI b) (18 + c) = bI e := by
      rw [va_up_ne _ _ (by omega), va_up_self]
    have hwb : va_up (va_up (va_up w (2 + c) zl) (18 + c) (bI e)) (34 + c) (bI b) (34 + c) = bI b := va_up_self _ _ _
    have hww : va_up (va_up (va_up w (2 + c) zl) (18 + c) (bI e)) (34 + c) (bI b) 0 = (R : Int) ∧ va_up (va_up (va_up w (2 + c) zl) (18 + c) (bI e)) (34 + c) (bI b) 1 = (C : Int) := by
      refine ⟨?_, ?_⟩
      · rw [va_up_ne _ _ (by omega), va_up_ne _ _ (by omega), va_up_ne _ _ (by omega), hw0]
      · rw [va_up_ne _ _ (by omega), va_up_ne _ _ (by omega), va_up_ne _ _ (by omega), hw1]
    have hte : tn e ≤ 1 := by cases e <;> decide
    refine tc4 g2 hww hR hC (c := c) (by omega) hN (by omega) (by omega) hF3 hzn (by omega) (by omega) (by omega) hzl9 hwl (fun h4 n2 n3 => ?_)
    refine tc5 ((n3 _ (by omega)).trans g2) hww hR hC (c := c) (by omega) hN (by omega) (by omega) n2 (by omega) (by omega) (by omega) (by omega) hwe (fun h5 zn5 k5 s5 o1 o3 o4 o5 o6 => ?_)
    refine tc6 ((o4 _ (by omega)).trans ((n3 _ (by omega)).trans g2)) hww hR hC (c := c) (by omega) hN (by omega) (by omega) o3 o1 (by omega) (by omega) (by omega) hwb (fun h6 zn6 k6 s6 p1 p3 p4 p5 p6 => ?_)
    refine R_iinc (lv' := [_, _, _, _, _, _, _, _, _, _]) rfl rfl rfl ?_
    refine R_goto rfl ?_
    refine Run.lv (lv' := [_, _, _, _, _, _, _, _, none, none]) ?_ ⟨Or.inr rfl, Or.inr rfl, Or.inr rfl, Or.inr rfl, Or.inr rfl, Or.inr rfl, Or.inr rfl, Or.inr rfl, Or.inl rfl, Or.inl rfl, trivial⟩
    rw [txC_B] at p3
    have hw6 : ∀ j, va_up (va_up (va_up w (2 + c) zl) (18 + c) (bI e)) (34 + c) (bI b) j = if j = 2 + c then zl else if j = 18 + c then bI e else if j = 34 + c then bI b else w j := fun j => by
      by_cases q3 : j = 34 + c
      · rw [q3, va_up_self, if_neg (by omega), if_neg (by omega), if_pos rfl]
      · rw [va_up_ne _ _ q3]
        by_cases q2 : j = 18 + c
        · rw [q2, va_up_self, if_neg (by omega), if_pos rfl]
        · rw [va_up_ne _ _ q2]
          by_cases q1 : j = 2 + c
          · rw [q1, va_up_self, if_pos rfl]
          · rw [va_up_ne _ _ q1, if_neg q1, if_neg q2, if_neg q3]
    have hte : tn e ≤ 1 ∧ tn b ≤ 1 := ⟨by cases e <;> decide, by cases b <;> decide⟩
    exact ih r (by omega) (c + 1) (nC n e b) _ _ _ h6 k6 s6 _ _ (by omega) (by omega) p1 (by show n + 1 + tn e + tn b ≤ _; omega) (by show 3 ≤ n + 1 + tn e + tn b; omega) (by show k6 ≤ n + 1 + tn e + tn b; omega) (by show s6 ≤ 6 * (n + 1 + tn e + tn b); omega) p3 ((p4 _ (by omega)).trans ((o4 _ (by omega)).trans ((n3 _ (by omega)).trans g2))) (fun j hj => (p4 j (by omega)).trans ((o4 j (by omega)).trans ((n3 j (by omega)).trans ((f3 j (by omega)).trans ((e3 j (by omega)).trans ((d3 j (by omega)).trans (hoo j hj))))))) (pic_s hp (by omega) hw6) (invC_s hi (by omega) hzl hea heb) (by cases e <;> cases b <;> exact (by first | exact hdr_up hh (by omega) | exact hdr_up (hdr_up hh (by omega)) (by omega) | exact hdr_up (hdr_up (hdr_up hh (by omega)) (by omega)) (by omega))) k0
