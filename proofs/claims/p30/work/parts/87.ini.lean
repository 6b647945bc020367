/-! ===== the constructors of the puzzle, the memory, the class, the model ===== -/
theorem wfH_pz {h h' : AH} {k : Nat} {G : Gr} (hw : wfH (k + 12) h) (hP : isPz h' k G) (f : fr h h' k 12) : wfH (k + 12) h' := by
  intro j hj
  by_cases q : j < k
  · rw [f j (Or.inl q)]
    exact hw j hj
  · obtain ⟨F, Ln, Dn, Ac, Dw, Cl, ⟨p0, ⟨rb, bb, L, WL, WT, LN, e0, e1, e2, e3, e4, -⟩, p2, p3, p4, p5, p6, p7⟩, -⟩ := hP
    have hc : j = k ∨ j = k + 1 ∨ j = k + 1 + 1 ∨ j = k + 1 + 2 ∨ j = k + 1 + 3 ∨ j = k + 1 + 4 ∨ j = k + 6 ∨ j = k + 7 ∨ j = k + 8 ∨ j = k + 9 ∨ j = k + 10 ∨ j = k + 11 := by omega
    rcases hc with w | w | w | w | w | w | w | w | w | w | w | w
    · rw [w, p0]
      exact List.forall_mem_cons.mpr ⟨Or.inl (by omega), List.forall_mem_cons.mpr ⟨trivial, List.forall_mem_cons.mpr ⟨trivial, List.forall_mem_cons.mpr ⟨trivial, List.forall_mem_cons.mpr ⟨Or.inl (by omega), List.forall_mem_cons.mpr ⟨Or.inl (by omega), List.forall_mem_cons.mpr ⟨Or.inl (by omega), List.forall_mem_cons.mpr ⟨Or.inl (by omega), List.forall_mem_cons.mpr ⟨Or.inl (by omega), List.forall_mem_cons.mpr ⟨Or.inl (by omega), fun _ h9 => absurd h9 List.not_mem_nil⟩⟩⟩⟩⟩⟩⟩⟩⟩⟩
    · rw [w, e0]
      exact List.forall_mem_cons.mpr ⟨trivial, List.forall_mem_cons.mpr ⟨trivial, List.forall_mem_cons.mpr ⟨trivial, List.forall_mem_cons.mpr ⟨trivial, List.forall_mem_cons.mpr ⟨trivial, List.forall_mem_cons.mpr ⟨trivial, List.forall_mem_cons.mpr ⟨Or.inl (by omega), List.forall_mem_cons.mpr ⟨Or.inl (by omega), List.forall_mem_cons.mpr ⟨Or.inl (by omega), List.forall_mem_cons.mpr ⟨Or.inl (by omega), fun _ h9 => absurd h9 List.not_mem_nil⟩⟩⟩⟩⟩⟩⟩⟩⟩⟩
    · rw [w, e1]; exact trivial
    · rw [w, e2]; exact trivial
    · rw [w, e3]; exact trivial
    · rw [w, e4]; exact trivial
    · rw [w, p2]; exact trivial
    · rw [w, p3]; exact trivial
    · rw [w, p4]; exact trivial
    · rw [w, p5]; exact trivial
    · rw [w, p6]; exact trivial
    · rw [w, p7]; exact trivial
theorem ini3_T {d k : Nat} {h : AH} {Q : AQ} (hk : k + 12 ≤ 1000) (he : h k = eO 3 (aFs 3)) (hw : wfH (k + 1) h) (hQ : ∀ h', isPz h' k (newG 3 3) → fr h h' k 12 → wfH (k + 12) h' → Q (.inl none) h' (k + 12)) : T (d + 5) 26 [vR k] h (k + 1) Q := by
  have hRO : aRO = 1000 := rfl
  refine T_body (I := mi_X4_init) (lv := [_]) rfl (Nat.le_of_ble_eq_true rfl) rfl ?_
  refine R_aload_n rfl rfl ?_
  refine R_objinit rfl rfl (Nat.le_of_ble_eq_true rfl) ?_
  refine R_aload_n rfl rfl ?_
  refine C_new rfl rfl rfl (by decide) rfl (by omega) hw ⟨List.forall_mem_cons.mpr ⟨(fun v hv => by cases hv; exact Or.inl (by omega)), fun _ h9 => absurd h9 List.not_mem_nil⟩, List.forall_mem_cons.mpr ⟨Or.inl (by omega), fun _ h9 => absurd h9 List.not_mem_nil⟩⟩ (Nat.le_of_ble_eq_true rfl) (Nat.le_of_ble_eq_true rfl) (fun xh1 xe1 xo1 xw1 => ?_)
  refine R_dup rfl rfl ?_
  refine R_c4call rfl rfl trivial ⟨Nat.le_of_ble_eq_true rfl, Nat.le_of_ble_eq_true rfl, Nat.le_of_ble_eq_true rfl, Nat.le_of_ble_eq_true rfl⟩ (ini6_T (k := k + 1) (by omega) xe1 xw1 (fun xh2 xS2 xo2 xw2 => aRes_n ⟨List.forall_mem_cons.mpr ⟨(fun v hv => by cases hv; exact Or.inl (by omega)), fun _ h9 => absurd h9 List.not_mem_nil⟩, List.forall_mem_cons.mpr ⟨Or.inl (by omega), List.forall_mem_cons.mpr ⟨Or.inl (by omega), fun _ h9 => absurd h9 List.not_mem_nil⟩⟩⟩ ?_))
  refine C_put rfl rfl (by omega) ((xo2 _ (by omega)).trans ((xo1 _ (by omega)).trans he)) (Nat.le_of_ble_eq_true rfl) (by first | trivial | exact trivial | exact Or.inl rfl) xw2 (Or.inl (by omega)) rfl (fun xh3 xe3 xo3 xw3 => ?_)
  refine R_aload_n rfl rfl ?_
  refine R_iconst rfl ?_
  refine C_put rfl rfl (by omega) xe3 (Nat.le_of_ble_eq_true rfl) (by first | trivial | exact trivial | exact Or.inl rfl) xw3 trivial rfl (fun xh4 xe4 xo4 xw4 => ?_)
  refine R_aload_n rfl rfl ?_
  refine R_iconst rfl ?_
  refine C_put rfl rfl (by omega) xe4 (Nat.le_of_ble_eq_true rfl) (by first | trivial | exact trivial | exact Or.inl rfl) xw4 trivial rfl (fun xh5 xe5 xo5 xw5 => ?_)
  refine R_aload_n rfl rfl ?_
  refine R_iconst rfl ?_
  refine C_put rfl rfl (by omega) xe5 (Nat.le_of_ble_eq_true rfl) (by first | trivial | exact trivial | exact Or.inl rfl) xw5 trivial rfl (fun xh6 xe6 xo6 xw6 => ?_)
  refine R_aload_n rfl rfl ?_
  refine R_bipush rfl ?_
  refine C_newI rfl ⟨by decide, by decide⟩ (by omega) xw6 ⟨List.forall_mem_cons.mpr ⟨(fun v hv => by cases hv; exact Or.inl (by omega)), fun _ h9 => absurd h9 List.not_mem_nil⟩, List.forall_mem_cons.mpr ⟨Or.inl (by omega), fun _ h9 => absurd h9 List.not_mem_nil⟩⟩ (Nat.le_of_ble_eq_true rfl) (Nat.le_of_ble_eq_true rfl) (fun xh7 xe7 xo7 xw7 => ?_)
  refine C_put rfl rfl (by omega) ((xo7 _ (by omega)).trans xe6) (Nat.le_of_ble_eq_true rfl) (by first | trivial | exact trivial | exact Or.inl rfl) xw7 (Or.inl (by omega)) rfl (fun xh8 xe8 xo8 xw8 => ?_)
  refine R_aload_n rfl rfl ?_
  refine R_bipush rfl ?_
  refine C_newI rfl ⟨by decide, by decide⟩ (by omega) xw8 ⟨List.forall_mem_cons.mpr ⟨(fun v hv => by cases hv; exact Or.inl (by omega)), fun _ h9 => absurd h9 List.not_mem_nil⟩, List.forall_mem_cons.mpr ⟨Or.inl (by omega), fun _ h9 => absurd h9 List.not_mem_nil⟩⟩ (Nat.le_of_ble_eq_true rfl) (Nat.le_of_ble_eq_true rfl) (fun xh9 xe9 xo9 xw9 => ?_)
  refine C_put rfl rfl (by omega) ((xo9 _ (by omega)).trans xe8) (Nat.le_of_ble_eq_true rfl) (by first | trivial | exact trivial | exact Or.inl rfl) xw9 (Or.inl (by omega)) rfl (fun xh10 xe10 xo10 xw10 => ?_)
  refine R_aload_n rfl rfl ?_
  refine R_bipush rfl ?_
  refine C_newZ rfl ⟨by decide, by decide⟩ (by omega) xw10 ⟨List.forall_mem_cons.mpr ⟨(fun v hv => by cases hv; exact Or.inl (by omega)), fun _ h9 => absurd h9 List.not_mem_nil⟩, List.forall_mem_cons.mpr ⟨Or.inl (by omega), fun _ h9 => absurd h9 List.not_mem_nil⟩⟩ (Nat.le_of_ble_eq_true rfl) (Nat.le_of_ble_eq_true rfl) (fun xh11 xe11 xo11 xw11 => ?_)
  refine C_put rfl rfl (by omega) ((xo11 _ (by omega)).trans xe10) (Nat.le_of_ble_eq_true rfl) (by first | trivial | exact trivial | exact Or.inl rfl) xw11 (Or.inl (by omega)) rfl (fun xh12 xe12 xo12 xw12 => ?_)
  refine R_aload_n rfl rfl ?_
  refine R_bipush rfl ?_
  refine C_newI rfl ⟨by decide, by decide⟩ (by omega) xw12 ⟨List.forall_mem_cons.mpr ⟨(fun v hv => by cases hv; exact Or.inl (by omega)), fun _ h9 => absurd h9 List.not_mem_nil⟩, List.forall_mem_cons.mpr ⟨Or.inl (by omega), fun _ h9 => absurd h9 List.not_mem_nil⟩⟩ (Nat.le_of_ble_eq_true rfl) (Nat.le_of_ble_eq_true rfl) (fun xh13 xe13 xo13 xw13 => ?_)
  refine C_put rfl rfl (by omega) ((xo13 _ (by omega)).trans xe12) (Nat.le_of_ble_eq_true rfl) (by first | trivial | exact trivial | exact Or.inl rfl) xw13 (Or.inl (by omega)) rfl (fun xh14 xe14 xo14 xw14 => ?_)
  refine R_aload_n rfl rfl ?_
  refine R_bipush rfl ?_
  refine C_newI rfl ⟨by decide, by decide⟩ (by omega) xw14 ⟨List.forall_mem_cons.mpr ⟨(fun v hv => by cases hv; exact Or.inl (by omega)), fun _ h9 => absurd h9 List.not_mem_nil⟩, List.forall_mem_cons.mpr ⟨Or.inl (by omega), fun _ h9 => absurd h9 List.not_mem_nil⟩⟩ (Nat.le_of_ble_eq_true rfl) (Nat.le_of_ble_eq_true rfl) (fun xh15 xe15 xo15 xw15 => ?_)
  refine C_put rfl rfl (by omega) ((xo15 _ (by omega)).trans xe14) (Nat.le_of_ble_eq_true rfl) (by first | trivial | exact trivial | exact Or.inl rfl) xw15 (Or.inl (by omega)) rfl (fun xh16 xe16 xo16 xw16 => ?_)
  refine R_aload_n rfl rfl ?_
  refine R_bipush rfl ?_
  refine C_newI rfl ⟨by decide, by decide⟩ (by omega) xw16 ⟨List.forall_mem_cons.mpr ⟨(fun v hv => by cases hv; exact Or.inl (by omega)), fun _ h9 => absurd h9 List.not_mem_nil⟩, List.forall_mem_cons.mpr ⟨Or.inl (by omega), fun _ h9 => absurd h9 List.not_mem_nil⟩⟩ (Nat.le_of_ble_eq_true rfl) (Nat.le_of_ble_eq_true rfl) (fun xh17 xe17 xo17 xw17 => ?_)
  refine C_put rfl rfl (by omega) ((xo17 _ (by omega)).trans xe16) (Nat.le_of_ble_eq_true rfl) (by first | trivial | exact trivial | exact Or.inl rfl) xw17 (Or.inl (by omega)) rfl (fun xh18 xe18 xo18 xw18 => ?_)
  refine R_aload_n rfl rfl ?_
  have fr0 : fr h xh18 k 12 := (fun j hj => (xo18 _ (by omega)).trans ((xo17 _ (by omega)).trans ((xo16 _ (by omega)).trans ((xo15 _ (by omega)).trans ((xo14 _ (by omega)).trans ((xo13 _ (by omega)).trans ((xo12 _ (by omega)).trans ((xo11 _ (by omega)).trans ((xo10 _ (by omega)).trans ((xo9 _ (by omega)).trans ((xo8 _ (by omega)).trans ((xo7 _ (by omega)).trans ((xo6 _ (by omega)).trans ((xo5 _ (by omega)).trans ((xo4 _ (by omega)).trans ((xo3 _ (by omega)).trans ((xo2 _ (by omega)).trans (xo1 _ (by omega)))))))))))))))))))
  refine R_vcall rfl rfl ⟨(by omega), _, xe18⟩ ⟨Nat.le_of_ble_eq_true rfl, Nat.le_of_ble_eq_true rfl, Nat.le_of_ble_eq_true rfl, Nat.le_of_ble_eq_true rfl⟩ (layOut_T (G := newG 3 3) (dd := d) ⟨_, _, _, _, _, _, _, _, _, xe18, (isSt_fr (isSt_fr (isSt_fr (isSt_fr (isSt_fr (isSt_fr (isSt_fr (isSt_fr (isSt_fr (isSt_fr (isSt_fr (isSt_fr (isSt_fr (isSt_fr (isSt_fr (isSt_fr xS2 (fun j _ _ => xo3 j (by omega))) (fun j _ _ => xo4 j (by omega))) (fun j _ _ => xo5 j (by omega))) (fun j _ _ => xo6 j (by omega))) (fun j _ _ => xo7 j (by omega))) (fun j _ _ => xo8 j (by omega))) (fun j _ _ => xo9 j (by omega))) (fun j _ _ => xo10 j (by omega))) (fun j _ _ => xo11 j (by omega))) (fun j _ _ => xo12 j (by omega))) (fun j _ _ => xo13 j (by omega))) (fun j _ _ => xo14 j (by omega))) (fun j _ _ => xo15 j (by omega))) (fun j _ _ => xo16 j (by omega))) (fun j _ _ => xo17 j (by omega))) (fun j _ _ => xo18 j (by omega))), ((xo18 _ (by omega)).trans ((xo17 _ (by omega)).trans ((xo16 _ (by omega)).trans ((xo15 _ (by omega)).trans ((xo14 _ (by omega)).trans ((xo13 _ (by omega)).trans ((xo12 _ (by omega)).trans ((xo11 _ (by omega)).trans ((xo10 _ (by omega)).trans ((xo9 _ (by omega)).trans ((xo8 _ (by omega)).trans xe7))))))))))), ((xo18 _ (by omega)).trans ((xo17 _ (by omega)).trans ((xo16 _ (by omega)).trans ((xo15 _ (by omega)).trans ((xo14 _ (by omega)).trans ((xo13 _ (by omega)).trans ((xo12 _ (by omega)).trans ((xo11 _ (by omega)).trans ((xo10 _ (by omega)).trans xe9))))))))), ((xo18 _ (by omega)).trans ((xo17 _ (by omega)).trans ((xo16 _ (by omega)).trans ((xo15 _ (by omega)).trans ((xo14 _ (by omega)).trans ((xo13 _ (by omega)).trans ((xo12 _ (by omega)).trans xe11))))))), ((xo18 _ (by omega)).trans ((xo17 _ (by omega)).trans ((xo16 _ (by omega)).trans ((xo15 _ (by omega)).trans ((xo14 _ (by omega)).trans xe13))))), ((xo18 _ (by omega)).trans ((xo17 _ (by omega)).trans ((xo16 _ (by omega)).trans xe15))), ((xo18 _ (by omega)).trans xe17)⟩ (ok_newG (by omega) (by omega)) (Nat.le_refl _) (fun h2 P2 f2 => aRes_v ?_))
  exact R_return rfl (Nat.le_of_ble_eq_true rfl) (Nat.le_of_ble_eq_true rfl) (hQ h2 P2 (fr0.trans f2) (wfH_pz xw18 P2 f2))
theorem x3_l1 {d : Nat} {Q : AQ} {z0 z1 : Int} : ∀ (r i : Nat) (h : AH) (R : Nat → Option Nat) (zi : Int), zi = i → i + r = 14 → h 32 = eO 2 [vI z0, vI z1, vR 33, vR 34, vR 35] → h 33 = eR 14 R → (∀ j, j < i → R j = some (36 + 5 * j)) → (∀ j, j < i → ∃ G, isSt h (36 + 5 * j) G) → wfH (36 + 5 * i) h → (∀ h' R' z', h' 33 = eR 14 R' → (∀ j, j < 14 → R' j = some (36 + 5 * j)) → (∀ j, j < 14 → ∃ G, isSt h' (36 + 5 * j) G) → (∀ j, j < 36 → ¬ j = 33 → h' j = h j) → wfH 106 h' → (∀ j, 116 ≤ j → h' j = h j) → Run mi_X3_init (T (d + 1)) Q 65 [some (vR 32), some (vI z')] [] h' 106 73 1530) → Run mi_X3_init (T (d + 1)) Q 40 [some (vR 32), some (vI zi)] [] h (36 + 5 * i) (3 + 5 * i) (18 + 108 * i) := by
  have hRO : aRO = 1000 := rfl
  intro r
  induction r with
  | zero =>
    intro i h R zi hz hr e32 e33 hR hSt hw hQ
    have hi : i = 14 := by omega
    subst hi
    refine R_iload_n rfl rfl ?_
    refine R_bipush rfl ?_
    refine R_icmpge rfl ⟨by first | omega | decide, by first | omega | decide⟩ ⟨by first | omega | decide, by first | omega | decide⟩ (fun c1 => ?_) (fun c1 => absurd (show (14 : Int) ≤ zi by omega) c1)
    exact hQ h R zi e33 hR hSt (fun _ _ _ => rfl) hw (fun _ _ => rfl)
  | succ r ih =>
    intro i h R zi hz hr e32 e33 hR hSt hw hQ
    refine R_iload_n rfl rfl ?_
    refine R_bipush rfl ?_
    refine R_icmpge rfl ⟨by first | omega | decide, by first | omega | decide⟩ ⟨by first | omega | decide, by first | omega | decide⟩ (fun c1 => absurd (show (14 : Int) ≤ zi from c1) (by omega)) (fun c1 => ?_)
    refine R_aload_n rfl rfl ?_
    refine R_getfield rfl rfl (by omega) e32 rfl ?_
    refine R_iload_n rfl rfl ?_
    refine C_new rfl rfl rfl (by decide) rfl (by omega) hw ⟨List.forall_mem_cons.mpr ⟨fun v hv => by cases hv; exact Or.inl (by omega), List.forall_mem_cons.mpr ⟨fun v hv => by cases hv; trivial, fun _ h9 => absurd h9 List.not_mem_nil⟩⟩, List.forall_mem_cons.mpr ⟨trivial, List.forall_mem_cons.mpr ⟨Or.inl (by omega), fun _ h9 => absurd h9 List.not_mem_nil⟩⟩⟩ (show 3 + 5 * i + 1 ≤ 83 by omega) (show 18 + 108 * i + 10 ≤ 1746 by omega) (fun h1 q1 o1 w1 => ?_)
    refine R_dup rfl rfl ?_
    refine R_c4call rfl rfl trivial ⟨Nat.le_of_ble_eq_true rfl, Nat.le_of_ble_eq_true rfl, show 3 + 5 * i + 1 + 4 ≤ 83 by omega, show 18 + 108 * i + 10 + 98 ≤ 1746 by omega⟩ (ini6_T (k := 36 + 5 * i) (by omega) q1 w1 (fun h2 S2 o2 w2 => aRes_n ⟨List.forall_mem_cons.mpr ⟨fun v hv => by cases hv; exact Or.inl (by omega), List.forall_mem_cons.mpr ⟨fun v hv => by cases hv; trivial, fun _ h9 => absurd h9 List.not_mem_nil⟩⟩, List.forall_mem_cons.mpr ⟨Or.inl (by omega), List.forall_mem_cons.mpr ⟨trivial, List.forall_mem_cons.mpr ⟨Or.inl (by omega), fun _ h9 => absurd h9 List.not_mem_nil⟩⟩⟩⟩ ?_))
    obtain ⟨rb, bb, L, WL, WT, LN, s0, -⟩ := id S2
    have g33 : h2 33 = eR 14 R := (o2 _ (by omega)).trans ((o1 _ (by omega)).trans e33)
    refine C_ast (a := 33) rfl (by omega) (by omega) s0 g33 ⟨by omega, by omega, by omega⟩ w2 (fun h3 q3 o3 w3 => ?_)
    refine R_iinc rfl rfl rfl ?_
    refine R_goto rfl ?_
    have fx : ∀ j, j < 36 + 5 * i → ¬ j = 33 → h3 j = h j := fun j a b => (o3 j b).trans ((o2 j (by omega)).trans (o1 j (by omega)))
    have hzt : zi.toNat = i := by omega
    have a1 : 36 + 5 * (i + 1) = 36 + 5 * i + 5 := by omega
    have a2 : 3 + 5 * (i + 1) = 3 + 5 * i + 1 + 4 := by omega
    have a3 : 18 + 108 * (i + 1) = 18 + 108 * i + 10 + 98 := by omega
    have ih2 := ih (i + 1) h3 (va_up R zi.toNat (some (36 + 5 * i))) (zi + 1) (by omega) (by omega) ((fx 32 (by omega) (by omega)).trans e32) q3 (fun j hj => by
      by_cases q : j = i
      · rw [q, hzt]
        exact va_up_self _ _ _
      · rw [va_up_ne _ _ (by omega)]
        exact hR j (by omega)) (fun j hj => by
      by_cases q : j = i
      · rw [q]
        exact ⟨_, isSt_fr S2 (fun m ma mb => o3 m (by omega))⟩
      · obtain ⟨G, hG⟩ := hSt j (by omega)
        exact ⟨G, isSt_fr hG (fun m ma mb => fx m (by omega) (by omega))⟩) (by rw [a1]; exact w3) (fun h4 R4 z4 b1 b2 b3 b4 b5 b6 => hQ h4 R4 z4 b1 b2 b3 (fun j x y => (b4 j x y).trans (fx j (by omega) y)) b5 (fun j x => (b6 j x).trans ((o3 j (by omega)).trans ((o2 j (by omega)).trans (o1 j (by omega))))))
    rw [a1, a2, a3] at ih2
    exact ih2
theorem x3_l2 {d : Nat} {Q : AQ} {z0 z1 : Int} : ∀ (r i : Nat) (h : AH) (R : Nat → Option Nat) (zi : Int), zi = i → i + r = 2 → h 32 = eO 2 [vI z0, vI z1, vR 33, vR 34, vR 35] → h 34 = eR 2 R → (∀ j, j < i → R j = some (106 + 5 * j)) → (∀ j, j < i → ∃ G, isSt h (106 + 5 * j) G) → wfH (106 + 5 * i) h → (∀ h' R' z', h' 34 = eR 2 R' → (∀ j, j < 2 → R' j = some (106 + 5 * j)) → (∀ j, j < 2 → ∃ G, isSt h' (106 + 5 * j) G) → (∀ j, j < 106 → ¬ j = 34 → h' j = h j) → wfH 116 h' → (∀ j, 116 ≤ j → h' j = h j) → Run mi_X3_init (T (d + 1)) Q 91 [some (vR 32), some (vI z')] [] h' 116 83 1746) → Run mi_X3_init (T (d + 1)) Q 67 [some (vR 32), some (vI zi)] [] h (106 + 5 * i) (73 + 5 * i) (1530 + 108 * i) := by
  have hRO : aRO = 1000 := rfl
  intro r
  induction r with
  | zero =>
    intro i h R zi hz hr e32 e33 hR hSt hw hQ
    have hi : i = 2 := by omega
    subst hi
    refine R_iload_n rfl rfl ?_
    refine R_iconst rfl ?_
    refine R_icmpge rfl ⟨by first | omega | decide, by first | omega | decide⟩ ⟨by first | omega | decide, by first | omega | decide⟩ (fun c1 => ?_) (fun c1 => absurd (show (2 : Int) ≤ zi by omega) c1)
    exact hQ h R zi e33 hR hSt (fun _ _ _ => rfl) hw (fun _ _ => rfl)
  | succ r ih =>
    intro i h R zi hz hr e32 e33 hR hSt hw hQ
    refine R_iload_n rfl rfl ?_
    refine R_iconst rfl ?_
    refine R_icmpge rfl ⟨by first | omega | decide, by first | omega | decide⟩ ⟨by first | omega | decide, by first | omega | decide⟩ (fun c1 => absurd (show (2 : Int) ≤ zi from c1) (by omega)) (fun c1 => ?_)
    refine R_aload_n rfl rfl ?_
    refine R_getfield rfl rfl (by omega) e32 rfl ?_
    refine R_iload_n rfl rfl ?_
    refine C_new rfl rfl rfl (by decide) rfl (by omega) hw ⟨List.forall_mem_cons.mpr ⟨fun v hv => by cases hv; exact Or.inl (by omega), List.forall_mem_cons.mpr ⟨fun v hv => by cases hv; trivial, fun _ h9 => absurd h9 List.not_mem_nil⟩⟩, List.forall_mem_cons.mpr ⟨trivial, List.forall_mem_cons.mpr ⟨Or.inl (by omega), fun _ h9 => absurd h9 List.not_mem_nil⟩⟩⟩ (show 73 + 5 * i + 1 ≤ 83 by omega) (show 1530 + 108 * i + 10 ≤ 1746 by omega) (fun h1 q1 o1 w1 => ?_)
    refine R_dup rfl rfl ?_
    refine R_c4call rfl rfl trivial ⟨Nat.le_of_ble_eq_true rfl, Nat.le_of_ble_eq_true rfl, show 73 + 5 * i + 1 + 4 ≤ 83 by omega, show 1530 + 108 * i + 10 + 98 ≤ 1746 by omega⟩ (ini6_T (k := 106 + 5 * i) (by omega) q1 w1 (fun h2 S2 o2 w2 => aRes_n ⟨List.forall_mem_cons.mpr ⟨fun v hv => by cases hv; exact Or.inl (by omega), List.forall_mem_cons.mpr ⟨fun v hv => by cases hv; trivial, fun _ h9 => absurd h9 List.not_mem_nil⟩⟩, List.forall_mem_cons.mpr ⟨Or.inl (by omega), List.forall_mem_cons.mpr ⟨trivial, List.forall_mem_cons.mpr ⟨Or.inl (by omega), fun _ h9 => absurd h9 List.not_mem_nil⟩⟩⟩⟩ ?_))
    obtain ⟨rb, bb, L, WL, WT, LN, s0, -⟩ := id S2
    have g33 : h2 34 = eR 2 R := (o2 _ (by omega)).trans ((o1 _ (by omega)).trans e33)
    refine C_ast (a := 34) rfl (by omega) (by omega) s0 g33 ⟨by omega, by omega, by omega⟩ w2 (fun h3 q3 o3 w3 => ?_)
    refine R_iinc rfl rfl rfl ?_
    refine R_goto rfl ?_
    have fx : ∀ j, j < 106 + 5 * i → ¬ j = 34 → h3 j = h j := fun j a b => (o3 j b).trans ((o2 j (by omega)).trans (o1 j (by omega)))
    have hzt : zi.toNat = i := by omega
    have a1 : 106 + 5 * (i + 1) = 106 + 5 * i + 5 := by omega
    have a2 : 73 + 5 * (i + 1) = 73 + 5 * i + 1 + 4 := by omega
    have a3 : 1530 + 108 * (i + 1) = 1530 + 108 * i + 10 + 98 := by omega
    have ih2 := ih (i + 1) h3 (va_up R zi.toNat (some (106 + 5 * i))) (zi + 1) (by omega) (by omega) ((fx 32 (by omega) (by omega)).trans e32) q3 (fun j hj => by
      by_cases q : j = i
      · rw [q, hzt]
        exact va_up_self _ _ _
      · rw [va_up_ne _ _ (by omega)]
        exact hR j (by omega)) (fun j hj => by
      by_cases q : j = i
      · rw [q]
        exact ⟨_, isSt_fr S2 (fun m ma mb => o3 m (by omega))⟩
      · obtain ⟨G, hG⟩ := hSt j (by omega)
        exact ⟨G, isSt_fr hG (fun m ma mb => fx m (by omega) (by omega))⟩) (by rw [a1]; exact w3) (fun h4 R4 z4 b1 b2 b3 b4 b5 b6 => hQ h4 R4 z4 b1 b2 b3 (fun j x y => (b4 j x y).trans (fx j (by omega) y)) b5 (fun j x => (b6 j x).trans ((o3 j (by omega)).trans ((o2 j (by omega)).trans (o1 j (by omega))))))
    rw [a1, a2, a3] at ih2
    exact ih2
theorem ini2_T {d : Nat} {h : AH} {Q : AQ} (he : h 32 = eO 2 (aFs 2)) (hw : wfH 33 h) (hQ : ∀ h', isMem h' [] (fun _ => none) → fr h h' 32 84 → wfH 116 h' → Q (.inl none) h' 116) : T (d + 2) 17 [vR 32] h 33 Q := by
  have hRO : aRO = 1000 := rfl
  refine T_body (I := mi_X3_init) (lv := [_, _]) rfl (Nat.le_of_ble_eq_true rfl) rfl ?_
  refine R_aload_n rfl rfl ?_
  refine R_objinit rfl rfl (Nat.le_of_ble_eq_true rfl) ?_
  refine R_aload_n rfl rfl ?_
  refine R_iconst rfl ?_
  refine C_put rfl rfl (by omega) he (Nat.le_of_ble_eq_true rfl) (by first | trivial | exact trivial | exact Or.inl rfl) hw trivial rfl (fun xh1 xe1 xo1 xw1 => ?_)
  refine R_aload_n rfl rfl ?_
  refine R_iconst rfl ?_
  refine C_put rfl rfl (by omega) xe1 (Nat.le_of_ble_eq_true rfl) (by first | trivial | exact trivial | exact Or.inl rfl) xw1 trivial rfl (fun xh2 xe2 xo2 xw2 => ?_)
  refine R_aload_n rfl rfl ?_
  refine R_bipush rfl ?_
  refine C_newR rfl ⟨by decide, by decide⟩ (by omega) xw2 ⟨List.forall_mem_cons.mpr ⟨(fun v hv => by cases hv; exact Or.inl (by omega)), List.forall_mem_cons.mpr ⟨(fun v hv => by cases hv), fun _ h9 => absurd h9 List.not_mem_nil⟩⟩, List.forall_mem_cons.mpr ⟨Or.inl (by omega), fun _ h9 => absurd h9 List.not_mem_nil⟩⟩ (Nat.le_of_ble_eq_true rfl) (Nat.le_of_ble_eq_true rfl) (fun xh3 xe3 xo3 xw3 => ?_)
  refine C_put rfl rfl (by omega) ((xo3 _ (by omega)).trans xe2) (Nat.le_of_ble_eq_true rfl) (by first | trivial | exact trivial | exact Or.inl rfl) xw3 (Or.inl (by omega)) rfl (fun xh4 xe4 xo4 xw4 => ?_)
  refine R_aload_n rfl rfl ?_
  refine R_iconst rfl ?_
  refine C_newR rfl ⟨by decide, by decide⟩ (by omega) xw4 ⟨List.forall_mem_cons.mpr ⟨(fun v hv => by cases hv; exact Or.inl (by omega)), List.forall_mem_cons.mpr ⟨(fun v hv => by cases hv), fun _ h9 => absurd h9 List.not_mem_nil⟩⟩, List.forall_mem_cons.mpr ⟨Or.inl (by omega), fun _ h9 => absurd h9 List.not_mem_nil⟩⟩ (Nat.le_of_ble_eq_true rfl) (Nat.le_of_ble_eq_true rfl) (fun xh5 xe5 xo5 xw5 => ?_)
  refine C_put rfl rfl (by omega) ((xo5 _ (by omega)).trans xe4) (Nat.le_of_ble_eq_true rfl) (by first | trivial | exact trivial | exact Or.inl rfl) xw5 (Or.inl (by omega)) rfl (fun xh6 xe6 xo6 xw6 => ?_)
  refine R_aload_n rfl rfl ?_
  refine R_iconst rfl ?_
  refine C_newZ rfl ⟨by decide, by decide⟩ (by omega) xw6 ⟨List.forall_mem_cons.mpr ⟨(fun v hv => by cases hv; exact Or.inl (by omega)), List.forall_mem_cons.mpr ⟨(fun v hv => by cases hv), fun _ h9 => absurd h9 List.not_mem_nil⟩⟩, List.forall_mem_cons.mpr ⟨Or.inl (by omega), fun _ h9 => absurd h9 List.not_mem_nil⟩⟩ (Nat.le_of_ble_eq_true rfl) (Nat.le_of_ble_eq_true rfl) (fun xh7 xe7 xo7 xw7 => ?_)
  refine C_put rfl rfl (by omega) ((xo7 _ (by omega)).trans xe6) (Nat.le_of_ble_eq_true rfl) (by first | trivial | exact trivial | exact Or.inl rfl) xw7 (Or.inl (by omega)) rfl (fun xh8 xe8 xo8 xw8 => ?_)
  refine R_iconst rfl ?_
  refine R_istore_n (lv' := [_, _]) rfl rfl ?_
  have fr0 : ∀ j, ¬ (32 ≤ j ∧ j < 36) → xh8 j = h j := (fun j hj => (xo8 _ (by omega)).trans ((xo7 _ (by omega)).trans ((xo6 _ (by omega)).trans ((xo5 _ (by omega)).trans ((xo4 _ (by omega)).trans ((xo3 _ (by omega)).trans ((xo2 _ (by omega)).trans (xo1 _ (by omega)))))))))
  have f34 := ((xo8 _ (by omega)).trans ((xo7 _ (by omega)).trans ((xo6 _ (by omega)).trans xe5)))
  have f35 := ((xo8 _ (by omega)).trans xe7)
  have f32 := xe8
  refine x3_l1 14 0 _ _ _ rfl (Nat.zero_add _) f32 ((xo8 _ (by omega)).trans ((xo7 _ (by omega)).trans ((xo6 _ (by omega)).trans ((xo5 _ (by omega)).trans ((xo4 _ (by omega)).trans xe3))))) (fun j hj => absurd hj (Nat.not_lt_zero _)) (fun j hj => absurd hj (Nat.not_lt_zero _)) xw8 (fun h1 R1 z1 a1 a2 a3 f1 w1 g1 => ?_)
  refine R_iconst rfl ?_
  refine R_istore_n (lv' := [_, _]) rfl rfl ?_
  refine x3_l2 2 0 _ _ _ rfl (Nat.zero_add _) ((f1 _ (by omega) (by omega)).trans f32) ((f1 _ (by omega) (by omega)).trans f34) (fun j hj => absurd hj (Nat.not_lt_zero _)) (fun j hj => absurd hj (Nat.not_lt_zero _)) w1 (fun h2 R2 z2 b1 b2 b3 f2 w2 g2 => ?_)
  refine R_return rfl (Nat.le_of_ble_eq_true rfl) (Nat.le_of_ble_eq_true rfl) (hQ h2 ⟨0, fun _ => 0, R1, R2, by omega, Nat.zero_le _, (f2 _ (by omega) (by omega)).trans ((f1 _ (by omega) (by omega)).trans f32), (f2 _ (by omega) (by omega)).trans a1, a2, b1, ⟨fun i k hk => by have h9 := w2 33 (by omega); rw [(f2 _ (by omega) (by omega)).trans a1] at h9; exact h9 i k hk, fun i k hk => by have h9 := w2 34 (by omega); rw [b1] at h9; exact h9 i k hk⟩, (f2 _ (by omega) (by omega)).trans ((f1 _ (by omega) (by omega)).trans f35), fun i hi => ?_, fun i hi => b3 i hi, fun j G hj => absurd hj (by rw [List.getElem?_nil]; exact fun q => by cases q), fun i hi => Or.inl ⟨rfl, rfl⟩⟩ (fun j hj => ?_) w2)
  · obtain ⟨G, hG⟩ := a3 i hi
    exact ⟨G, isSt_fr hG (fun m ma mb => f2 m (by omega) (by omega))⟩
  · rcases hj with q | q
    · exact (f2 j (by omega) (by omega)).trans ((f1 j (by omega) (by omega)).trans (fr0 j (by omega)))
    · exact (g2 j (by omega)).trans ((g1 j (by omega)).trans (fr0 j (by omega)))
def y0 : Sy := (newG 3 3, [], fun _ => none, 0, fun _ => 0)
theorem iniF_T {d : Nat} {h : AH} {Q : AQ} (hP : isStp h) (he : h 0 = eO 6 (aFs 6)) (hw : wfH 1 h) (hQ : ∀ h', isFace h' y0 → (∀ j, 122 ≤ j → h' j = h j) → wfH 122 h' → Q (.inl none) h' 122) : T (d + 6) 90 [vR 0] h 1 Q := by
  have hRO : aRO = 1000 := rfl
  refine T_body (I := mi_X8_init) (lv := [_]) rfl (Nat.le_of_ble_eq_true rfl) rfl ?_
  refine R_aload_n rfl rfl ?_
  refine R_objinit rfl rfl (Nat.le_of_ble_eq_true rfl) ?_
  refine R_aload_n rfl rfl ?_
  refine C_new rfl rfl rfl (by decide) rfl (by omega) hw ⟨List.forall_mem_cons.mpr ⟨(fun v hv => by cases hv; exact Or.inl (by omega)), fun _ h9 => absurd h9 List.not_mem_nil⟩, List.forall_mem_cons.mpr ⟨Or.inl (by omega), fun _ h9 => absurd h9 List.not_mem_nil⟩⟩ (Nat.le_of_ble_eq_true rfl) (Nat.le_of_ble_eq_true rfl) (fun xh1 xe1 xo1 xw1 => ?_)
  refine R_dup rfl rfl ?_
  refine R_c4call rfl rfl trivial ⟨Nat.le_of_ble_eq_true rfl, Nat.le_of_ble_eq_true rfl, Nat.le_of_ble_eq_true rfl, Nat.le_of_ble_eq_true rfl⟩ (ini5_T xe1 xw1 (fun xh2 xT2 xS2 xo2 xw2 => aRes_n ⟨List.forall_mem_cons.mpr ⟨(fun v hv => by cases hv; exact Or.inl (by omega)), fun _ h9 => absurd h9 List.not_mem_nil⟩, List.forall_mem_cons.mpr ⟨Or.inl (by omega), List.forall_mem_cons.mpr ⟨Or.inl (by omega), fun _ h9 => absurd h9 List.not_mem_nil⟩⟩⟩ ?_))
  refine C_put rfl rfl (by omega) ((xo2 _ (by omega)).trans ((xo1 _ (by omega)).trans he)) (Nat.le_of_ble_eq_true rfl) (by first | trivial | exact trivial | exact Or.inl rfl) xw2 (Or.inl (by omega)) rfl (fun xh3 xe3 xo3 xw3 => ?_)
  refine R_aload_n rfl rfl ?_
  refine C_new rfl rfl rfl (by decide) rfl (by omega) xw3 ⟨List.forall_mem_cons.mpr ⟨(fun v hv => by cases hv; exact Or.inl (by omega)), fun _ h9 => absurd h9 List.not_mem_nil⟩, List.forall_mem_cons.mpr ⟨Or.inl (by omega), fun _ h9 => absurd h9 List.not_mem_nil⟩⟩ (Nat.le_of_ble_eq_true rfl) (Nat.le_of_ble_eq_true rfl) (fun xh4 xe4 xo4 xw4 => ?_)
  refine R_dup rfl rfl ?_
  refine R_ccall rfl rfl trivial ⟨Nat.le_of_ble_eq_true rfl, Nat.le_of_ble_eq_true rfl, Nat.le_of_ble_eq_true rfl, Nat.le_of_ble_eq_true rfl⟩ (ini3_T (k := 8) (by omega) xe4 xw4 (fun xh5 xS5 xo5 xw5 => aRes_n ⟨List.forall_mem_cons.mpr ⟨(fun v hv => by cases hv; exact Or.inl (by omega)), fun _ h9 => absurd h9 List.not_mem_nil⟩, List.forall_mem_cons.mpr ⟨Or.inl (by omega), List.forall_mem_cons.mpr ⟨Or.inl (by omega), fun _ h9 => absurd h9 List.not_mem_nil⟩⟩⟩ ?_))
  refine C_put rfl rfl (by omega) ((xo5 _ (by omega)).trans ((xo4 _ (by omega)).trans xe3)) (Nat.le_of_ble_eq_true rfl) (by first | trivial | exact trivial | exact Or.inl rfl) xw5 (Or.inl (by omega)) rfl (fun xh6 xe6 xo6 xw6 => ?_)
  refine R_aload_n rfl rfl ?_
  refine C_new rfl rfl rfl (by decide) rfl (by omega) xw6 ⟨List.forall_mem_cons.mpr ⟨(fun v hv => by cases hv; exact Or.inl (by omega)), fun _ h9 => absurd h9 List.not_mem_nil⟩, List.forall_mem_cons.mpr ⟨Or.inl (by omega), fun _ h9 => absurd h9 List.not_mem_nil⟩⟩ (Nat.le_of_ble_eq_true rfl) (Nat.le_of_ble_eq_true rfl) (fun xh7 xe7 xo7 xw7 => ?_)
  refine R_dup rfl rfl ?_
  refine R_ccall rfl rfl trivial ⟨Nat.le_of_ble_eq_true rfl, Nat.le_of_ble_eq_true rfl, Nat.le_of_ble_eq_true rfl, Nat.le_of_ble_eq_true rfl⟩ (ini3_T (k := 20) (by omega) xe7 xw7 (fun xh8 xS8 xo8 xw8 => aRes_n ⟨List.forall_mem_cons.mpr ⟨(fun v hv => by cases hv; exact Or.inl (by omega)), fun _ h9 => absurd h9 List.not_mem_nil⟩, List.forall_mem_cons.mpr ⟨Or.inl (by omega), List.forall_mem_cons.mpr ⟨Or.inl (by omega), fun _ h9 => absurd h9 List.not_mem_nil⟩⟩⟩ ?_))
  refine C_put rfl rfl (by omega) ((xo8 _ (by omega)).trans ((xo7 _ (by omega)).trans xe6)) (Nat.le_of_ble_eq_true rfl) (by first | trivial | exact trivial | exact Or.inl rfl) xw8 (Or.inl (by omega)) rfl (fun xh9 xe9 xo9 xw9 => ?_)
  refine R_aload_n rfl rfl ?_
  refine C_new rfl rfl rfl (by decide) rfl (by omega) xw9 ⟨List.forall_mem_cons.mpr ⟨(fun v hv => by cases hv; exact Or.inl (by omega)), fun _ h9 => absurd h9 List.not_mem_nil⟩, List.forall_mem_cons.mpr ⟨Or.inl (by omega), fun _ h9 => absurd h9 List.not_mem_nil⟩⟩ (Nat.le_of_ble_eq_true rfl) (Nat.le_of_ble_eq_true rfl) (fun xh10 xe10 xo10 xw10 => ?_)
  refine R_dup rfl rfl ?_
  refine R_ccall rfl rfl trivial ⟨Nat.le_of_ble_eq_true rfl, Nat.le_of_ble_eq_true rfl, Nat.le_of_ble_eq_true rfl, Nat.le_of_ble_eq_true rfl⟩ (ini2_T xe10 xw10 (fun xh11 xS11 xo11 xw11 => aRes_n ⟨List.forall_mem_cons.mpr ⟨(fun v hv => by cases hv; exact Or.inl (by omega)), fun _ h9 => absurd h9 List.not_mem_nil⟩, List.forall_mem_cons.mpr ⟨Or.inl (by omega), List.forall_mem_cons.mpr ⟨Or.inl (by omega), fun _ h9 => absurd h9 List.not_mem_nil⟩⟩⟩ ?_))
  refine C_put rfl rfl (by omega) ((xo11 _ (by omega)).trans ((xo10 _ (by omega)).trans xe9)) (Nat.le_of_ble_eq_true rfl) (by first | trivial | exact trivial | exact Or.inl rfl) xw11 (Or.inl (by omega)) rfl (fun xh12 xe12 xo12 xw12 => ?_)
  refine R_aload_n rfl rfl ?_
  refine C_new rfl rfl rfl (by decide) rfl (by omega) xw12 ⟨List.forall_mem_cons.mpr ⟨(fun v hv => by cases hv; exact Or.inl (by omega)), fun _ h9 => absurd h9 List.not_mem_nil⟩, List.forall_mem_cons.mpr ⟨Or.inl (by omega), fun _ h9 => absurd h9 List.not_mem_nil⟩⟩ (Nat.le_of_ble_eq_true rfl) (Nat.le_of_ble_eq_true rfl) (fun xh13 xe13 xo13 xw13 => ?_)
  refine R_dup rfl rfl ?_
  refine R_c4call rfl rfl trivial ⟨Nat.le_of_ble_eq_true rfl, Nat.le_of_ble_eq_true rfl, Nat.le_of_ble_eq_true rfl, Nat.le_of_ble_eq_true rfl⟩ (ini1_T xe13 xw13 (fun xh14 xS14 xo14 xw14 => aRes_n ⟨List.forall_mem_cons.mpr ⟨(fun v hv => by cases hv; exact Or.inl (by omega)), fun _ h9 => absurd h9 List.not_mem_nil⟩, List.forall_mem_cons.mpr ⟨Or.inl (by omega), List.forall_mem_cons.mpr ⟨Or.inl (by omega), fun _ h9 => absurd h9 List.not_mem_nil⟩⟩⟩ ?_))
  refine C_put rfl rfl (by omega) ((xo14 _ (by omega)).trans ((xo13 _ (by omega)).trans xe12)) (Nat.le_of_ble_eq_true rfl) (by first | trivial | exact trivial | exact Or.inl rfl) xw14 (Or.inl (by omega)) rfl (fun xh15 xe15 xo15 xw15 => ?_)
  refine R_aload_n rfl rfl ?_
  refine C_new rfl rfl rfl (by decide) rfl (by omega) xw15 ⟨List.forall_mem_cons.mpr ⟨(fun v hv => by cases hv; exact Or.inl (by omega)), fun _ h9 => absurd h9 List.not_mem_nil⟩, List.forall_mem_cons.mpr ⟨Or.inl (by omega), fun _ h9 => absurd h9 List.not_mem_nil⟩⟩ (Nat.le_of_ble_eq_true rfl) (Nat.le_of_ble_eq_true rfl) (fun xh16 xe16 xo16 xw16 => ?_)
  refine R_dup rfl rfl ?_
  refine R_c4call rfl rfl trivial ⟨Nat.le_of_ble_eq_true rfl, Nat.le_of_ble_eq_true rfl, Nat.le_of_ble_eq_true rfl, Nat.le_of_ble_eq_true rfl⟩ (ini0_T xe16 xw16 (fun xh17 xS17 xo17 xw17 => aRes_n ⟨List.forall_mem_cons.mpr ⟨(fun v hv => by cases hv; exact Or.inl (by omega)), fun _ h9 => absurd h9 List.not_mem_nil⟩, List.forall_mem_cons.mpr ⟨Or.inl (by omega), List.forall_mem_cons.mpr ⟨Or.inl (by omega), fun _ h9 => absurd h9 List.not_mem_nil⟩⟩⟩ ?_))
  refine C_put rfl rfl (by omega) ((xo17 _ (by omega)).trans ((xo16 _ (by omega)).trans xe15)) (Nat.le_of_ble_eq_true rfl) (by first | trivial | exact trivial | exact Or.inl rfl) xw17 (Or.inl (by omega)) rfl (fun xh18 xe18 xo18 xw18 => ?_)
  have fr9 : ∀ j, 122 ≤ j → xh18 j = h j := (fun j hj => (xo18 _ (by omega)).trans ((xo17 _ (by omega)).trans ((xo16 _ (by omega)).trans ((xo15 _ (by omega)).trans ((xo14 _ (by omega)).trans ((xo13 _ (by omega)).trans ((xo12 _ (by omega)).trans ((xo11 _ (by omega)).trans ((xo10 _ (by omega)).trans ((xo9 _ (by omega)).trans ((xo8 _ (by omega)).trans ((xo7 _ (by omega)).trans ((xo6 _ (by omega)).trans ((xo5 _ (by omega)).trans ((xo4 _ (by omega)).trans ((xo3 _ (by omega)).trans ((xo2 _ (by omega)).trans (xo1 _ (by omega)))))))))))))))))))
  exact R_return rfl (Nat.le_of_ble_eq_true rfl) (Nat.le_of_ble_eq_true rfl) (hQ _ ⟨xe18, ⟨_, (isTx_fr (isTx_fr (isTx_fr (isTx_fr (isTx_fr (isTx_fr (isTx_fr (isTx_fr (isTx_fr (isTx_fr (isTx_fr (isTx_fr (isTx_fr (isTx_fr (isTx_fr (isTx_fr xT2 (xo3 _ (by omega)) (xo3 _ (by omega))) (xo4 _ (by omega)) (xo4 _ (by omega))) (xo5 _ (by omega)) (xo5 _ (by omega))) (xo6 _ (by omega)) (xo6 _ (by omega))) (xo7 _ (by omega)) (xo7 _ (by omega))) (xo8 _ (by omega)) (xo8 _ (by omega))) (xo9 _ (by omega)) (xo9 _ (by omega))) (xo10 _ (by omega)) (xo10 _ (by omega))) (xo11 _ (by omega)) (xo11 _ (by omega))) (xo12 _ (by omega)) (xo12 _ (by omega))) (xo13 _ (by omega)) (xo13 _ (by omega))) (xo14 _ (by omega)) (xo14 _ (by omega))) (xo15 _ (by omega)) (xo15 _ (by omega))) (xo16 _ (by omega)) (xo16 _ (by omega))) (xo17 _ (by omega)) (xo17 _ (by omega))) (xo18 _ (by omega)) (xo18 _ (by omega)))⟩, ⟨_, (isSt_fr (isSt_fr (isSt_fr (isSt_fr (isSt_fr (isSt_fr (isSt_fr (isSt_fr (isSt_fr (isSt_fr (isSt_fr (isSt_fr (isSt_fr (isSt_fr (isSt_fr (isSt_fr xS2 (fun j _ _ => xo3 j (by omega))) (fun j _ _ => xo4 j (by omega))) (fun j _ _ => xo5 j (by omega))) (fun j _ _ => xo6 j (by omega))) (fun j _ _ => xo7 j (by omega))) (fun j _ _ => xo8 j (by omega))) (fun j _ _ => xo9 j (by omega))) (fun j _ _ => xo10 j (by omega))) (fun j _ _ => xo11 j (by omega))) (fun j _ _ => xo12 j (by omega))) (fun j _ _ => xo13 j (by omega))) (fun j _ _ => xo14 j (by omega))) (fun j _ _ => xo15 j (by omega))) (fun j _ _ => xo16 j (by omega))) (fun j _ _ => xo17 j (by omega))) (fun j _ _ => xo18 j (by omega)))⟩, (isPz_fr (isPz_fr (isPz_fr (isPz_fr (isPz_fr (isPz_fr (isPz_fr (isPz_fr (isPz_fr (isPz_fr (isPz_fr (isPz_fr (isPz_fr xS5 (fun j _ _ => xo6 j (by omega))) (fun j _ _ => xo7 j (by omega))) (fun j _ _ => xo8 j (by omega))) (fun j _ _ => xo9 j (by omega))) (fun j _ _ => xo10 j (by omega))) (fun j _ _ => xo11 j (by omega))) (fun j _ _ => xo12 j (by omega))) (fun j _ _ => xo13 j (by omega))) (fun j _ _ => xo14 j (by omega))) (fun j _ _ => xo15 j (by omega))) (fun j _ _ => xo16 j (by omega))) (fun j _ _ => xo17 j (by omega))) (fun j _ _ => xo18 j (by omega))), ok_newG (by omega) (by omega), ⟨_, (isPa_fr (isPa_fr (isPa_fr (isPa_fr (isPa_fr (isPa_fr (isPa_fr (isPa_fr (isPa_fr (isPa_fr xS8.a (fun j _ _ => xo9 j (by omega))) (fun j _ _ => xo10 j (by omega))) (fun j _ _ => xo11 j (by omega))) (fun j _ _ => xo12 j (by omega))) (fun j _ _ => xo13 j (by omega))) (fun j _ _ => xo14 j (by omega))) (fun j _ _ => xo15 j (by omega))) (fun j _ _ => xo16 j (by omega))) (fun j _ _ => xo17 j (by omega))) (fun j _ _ => xo18 j (by omega)))⟩, (isMem_fr (isMem_fr (isMem_fr (isMem_fr (isMem_fr (isMem_fr (isMem_fr xS11 (fun j _ _ => xo12 j (by omega))) (fun j _ _ => xo13 j (by omega))) (fun j _ _ => xo14 j (by omega))) (fun j _ _ => xo15 j (by omega))) (fun j _ _ => xo16 j (by omega))) (fun j _ _ => xo17 j (by omega))) (fun j _ _ => xo18 j (by omega))), (isSe_fr (isSe_fr (isSe_fr (isSe_fr xS14 (fun j _ _ => xo15 j (by omega))) (fun j _ _ => xo16 j (by omega))) (fun j _ _ => xo17 j (by omega))) (fun j _ _ => xo18 j (by omega))), (isFl_fr xS17 (fun j _ _ => xo18 j (by omega))), (fr9 1001 (by omega)).trans hP.1, (fr9 1002 (by omega)).trans hP.2⟩ fr9 xw18)
theorem wfH_mo {h h' : AH} {G : Gr} {th tl rm : Int} (hw : wfH 139 h) (hM : isMg h' G th tl rm) (f : frG h h') : wfH 139 h' := by
  intro j hj
  by_cases q : j = 122 ∨ j = 124 ∨ (130 ≤ j ∧ j ≤ 135)
  · obtain ⟨F, D, L, A, W, C, ⟨S, m0, m3, -⟩, m11, m12, m13, m14, m15, m16, -⟩ := hM
    have hc : j = 122 ∨ j = 124 ∨ j = 130 ∨ j = 131 ∨ j = 132 ∨ j = 133 ∨ j = 134 ∨ j = 135 := by omega
    rcases hc with w | w | w | w | w | w | w | w
    · rw [w, m0]
      exact List.forall_mem_cons.mpr ⟨trivial, List.forall_mem_cons.mpr ⟨Or.inl (by omega), List.forall_mem_cons.mpr ⟨trivial, List.forall_mem_cons.mpr ⟨Or.inl (by omega), List.forall_mem_cons.mpr ⟨Or.inl (by omega), List.forall_mem_cons.mpr ⟨Or.inl (by omega), List.forall_mem_cons.mpr ⟨Or.inl (by omega), List.forall_mem_cons.mpr ⟨trivial, List.forall_mem_cons.mpr ⟨Or.inl (by omega), List.forall_mem_cons.mpr ⟨Or.inl (by omega), List.forall_mem_cons.mpr ⟨trivial, List.forall_mem_cons.mpr ⟨Or.inl (by omega), List.forall_mem_cons.mpr ⟨Or.inl (by omega), List.forall_mem_cons.mpr ⟨Or.inl (by omega), List.forall_mem_cons.mpr ⟨Or.inl (by omega), List.forall_mem_cons.mpr ⟨Or.inl (by omega), List.forall_mem_cons.mpr ⟨Or.inl (by omega), List.forall_mem_cons.mpr ⟨Or.inl (by omega), List.forall_mem_cons.mpr ⟨Or.inl (by omega), List.forall_mem_cons.mpr ⟨Or.inl (by omega), fun _ h9 => absurd h9 List.not_mem_nil⟩⟩⟩⟩⟩⟩⟩⟩⟩⟩⟩⟩⟩⟩⟩⟩⟩⟩⟩⟩
    · rw [w, m3]; exact trivial
    · rw [w, m11]; exact trivial
    · rw [w, m12]; exact trivial
    · rw [w, m13]; exact trivial
    · rw [w, m14]; exact trivial
    · rw [w, m15]; exact trivial
    · rw [w, m16]; exact trivial
  · rw [f j q]
    exact hw j hj
theorem wfH_upI {N a n : Nat} {h : AH} {f : Nat → Int} (hw : wfH N h) : wfH N (va_up h a (eI n f)) := wfH_up hw trivial
theorem rw_ini {S : Nat → Int} (h0 : S 0 = 3) (h1 : S 1 = 3) (h2 : ∀ j, 2 ≤ j → S j = 0) : rwG S (newG 3 3) := ⟨h0, h1, fun c hc => h2 _ (by omega), fun c hc => h2 _ (by omega), fun c hc => h2 _ (by omega), h2 _ (by omega), fun w hw => absurd hw (Nat.not_lt_zero _), fun w i hw => absurd hw (Nat.not_lt_zero _), h2 _ (by omega), fun i hi => absurd hi (Nat.not_lt_zero _)⟩
