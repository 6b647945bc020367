/-! ===== the law's loop and its start ===== -/
set_option maxRecDepth 20000 in
theorem lw_loop {d L : Nat} {xs : Nat → Int32} (hL : L ≤ 2048) : ∀ (r : Nat) (h : AH) (y : Sy) (th zi : Int) (l5 l6 : Option AV) (k n : Nat), isLw h y th L xs → 0 ≤ zi → zi ≤ L → (L : Int) < zi + 4 * r + 4 → k + 3 * r ≤ 601024 → n + 18 * r ≤ 7293034 → Run mi_L_law (T (d + 40)) qLaw 23 [some (vR aRO), some (vR 0), some (vR 122), some (vR 139), some (vI zi), l5, l6] [] h 140 k n := by
  have hRO : aRO = 1000 := rfl
  intro r
  induction r with
  | zero =>
    intro h y th zi l5 l6 k n hS h0 hz hr hk hn
    obtain ⟨-, -, -, hX⟩ := id hS
    refine R_iload rfl rfl ?_
    refine R_aload_n rfl rfl ?_
    refine R_alen rfl (Or.inr (Or.inl rfl)) hX ?_
    refine R_iconst rfl ?_
    refine R_isub rfl ?_
    refine R_icmpgt rfl ⟨by omega, by omega⟩ ⟨by omega, by omega⟩ (fun c1 => ?_) (fun c1 => absurd (show (L : Int) - 4 < zi by omega) c1)
    refine R_iconst rfl ?_
    exact R_ireturn rfl (fun _ => Or.inr rfl) (show k ≤ 601024 by omega) (show n ≤ 7293034 by omega) rfl
  | succ r ih =>
    intro h y th zi l5 l6 k n hS h0 hz hr hk hn
    obtain ⟨-, -, -, hX⟩ := id hS
    have hK : ∀ (h' : AH) (y' : Sy) (th' : Int) (l5 l6 : Option AV) (k' n' : Nat), zi + 4 ≤ L → isLw h' y' th' L xs → k' ≤ k + 3 → n' ≤ n + 18 → Run mi_L_law (T (d + 40)) qLaw 1534 [some (vR aRO), some (vR 0), some (vR 122), some (vR 139), some (vI zi), l5, l6] [] h' 140 k' n' := fun h' y' th' l5 l6 k' n' hzz hS' hk' hn' =>
      R_iinc rfl rfl rfl (R_goto rfl (ih h' y' th' (zi + 4) l5 l6 k' n' hS' (by omega) (by omega) (by omega) (by omega) (by omega)))
    refine R_iload rfl rfl ?_
    refine R_aload_n rfl rfl ?_
    refine R_alen rfl (Or.inr (Or.inl rfl)) hX ?_
    refine R_iconst rfl ?_
    refine R_isub rfl ?_
    refine R_icmpgt rfl ⟨by omega, by omega⟩ ⟨by omega, by omega⟩ (fun c1 => ?_) (fun c1 => ?_)
    · refine R_iconst rfl ?_
      exact R_ireturn rfl (fun _ => Or.inr rfl) (show k ≤ 601024 by omega) (show n ≤ 7293034 by omega) rfl
    · have hzz : zi + 4 ≤ L := by omega
      have hK := fun (h' : AH) (y' : Sy) (th' : Int) (l5 l6 : Option AV) (k' n' : Nat) => hK h' y' th' l5 l6 k' n' hzz
      refine R_aload_n rfl rfl ?_
      refine R_iload rfl rfl ?_
      refine R_iaload rfl (Or.inr (Or.inl rfl)) hX ⟨by omega, by omega, by omega⟩ ?_
      refine R_bipush rfl ?_
      refine R_iand rfl ?_
      exact R_switch rfl (xs_r _) (fun _ => hK h y th l5 l6 k n hS (by omega) (by omega)) (And.intro (fun _ => lw_append hS ⟨by omega, by omega, by omega⟩ (by omega) (by omega) hK) (And.intro (fun _ => lw_clearText hS ⟨by omega, by omega, by omega⟩ (by omega) (by omega) hK) (And.intro (fun _ => lw_errorPosition hS ⟨by omega, by omega, by omega⟩ (by omega) (by omega) hK) (And.intro (fun _ => lw_load hS ⟨by omega, by omega, by omega⟩ (by omega) (by omega) hK) (And.intro (fun _ => lw_about hS ⟨by omega, by omega, by omega⟩ (by omega) (by omega) hK) (And.intro (fun _ => lw_cell hS ⟨by omega, by omega, by omega⟩ (by omega) (by omega) hK) (And.intro (fun _ => lw_entry hS ⟨by omega, by omega, by omega⟩ (by omega) (by omega) hK) (And.intro (fun _ => lw_word hS ⟨by omega, by omega, by omega⟩ (by omega) (by omega) hK) (And.intro (fun _ => lw_fits hS ⟨by omega, by omega, by omega⟩ (by omega) (by omega) hK) (And.intro (fun _ => lw_rule hS ⟨by omega, by omega, by omega⟩ (by omega) (by omega) hK) (And.intro (fun _ => lw_readings hS ⟨by omega, by omega, by omega⟩ (by omega) (by omega) hK) (And.intro (fun _ => lw_reading hS ⟨by omega, by omega, by omega⟩ (by omega) (by omega) hK) (And.intro (fun _ => lw_put hS ⟨by omega, by omega, by omega⟩ (by omega) (by omega) hK) (And.intro (fun _ => lw_setBar hS ⟨by omega, by omega, by omega⟩ (by omega) (by omega) hK) (And.intro (fun _ => lw_addWord hS ⟨by omega, by omega, by omega⟩ (by omega) (by omega) hK) (And.intro (fun _ => lw_setLine hS ⟨by omega, by omega, by omega⟩ (by omega) (by omega) hK) (And.intro (fun _ => lw_write hS ⟨by omega, by omega, by omega⟩ (by omega) (by omega) hK) (And.intro (fun _ => lw_erase hS ⟨by omega, by omega, by omega⟩ (by omega) (by omega) hK) (And.intro (fun _ => lw_undo hS ⟨by omega, by omega, by omega⟩ (by omega) (by omega) hK) (And.intro (fun _ => lw_possible hS ⟨by omega, by omega, by omega⟩ (by omega) (by omega) hK) (And.intro (fun _ => lw_fillings hS ⟨by omega, by omega, by omega⟩ (by omega) (by omega) hK) (And.intro (fun _ => lw_mend hS ⟨by omega, by omega, by omega⟩ (by omega) (by omega) hK) (And.intro (fun _ => lw_hardest hS ⟨by omega, by omega, by omega⟩ (by omega) (by omega) hK) (And.intro (fun _ => lw_runScript hS ⟨by omega, by omega, by omega⟩ (by omega) (by omega) hK) (And.intro (fun _ => lw_simulate hS ⟨by omega, by omega, by omega⟩ (by omega) (by omega) hK) (And.intro (fun _ => lw_save hS ⟨by omega, by omega, by omega⟩ (by omega) (by omega) hK) (And.intro (fun _ => lw_restore hS ⟨by omega, by omega, by omega⟩ (by omega) (by omega) hK) (trivial))))))))))))))))))))))))))))
set_option maxRecDepth 20000 in
theorem lw_run {d L : Nat} {xs : Nat → Int32} (hL : L ≤ 2048) : Run mi_L_law (T (d + 40)) qLaw 0 (aEnt 7 [vR aRO]) [] (hLaw L xs) 0 0 0 := by
  have hRO : aRO = 1000 := rfl
  show Run mi_L_law (T (d + 40)) qLaw 0 [some (vR aRO), none, none, none, none, none, none] [] (hLaw L xs) 0 0 0
  have hw0 : wfH 0 (hLaw L xs) := fun k hk => absurd hk (Nat.not_lt_zero _)
  have g1 : hLaw L xs 1001 = eI 8 stepRows := rfl
  have g2 : hLaw L xs 1002 = eI 8 stepCols := rfl
  have g0 : hLaw L xs aRO = eI L (fun j => (xs j).toInt) := rfl
  refine C_new rfl rfl rfl (by decide) rfl (by omega) hw0 ⟨List.forall_mem_cons.mpr ⟨(fun v hv => by cases hv; exact Or.inr (Nat.le_refl _)), List.forall_mem_cons.mpr ⟨(fun v hv => by cases hv), List.forall_mem_cons.mpr ⟨(fun v hv => by cases hv), List.forall_mem_cons.mpr ⟨(fun v hv => by cases hv), List.forall_mem_cons.mpr ⟨(fun v hv => by cases hv), List.forall_mem_cons.mpr ⟨(fun v hv => by cases hv), List.forall_mem_cons.mpr ⟨(fun v hv => by cases hv), fun _ h9 => absurd h9 List.not_mem_nil⟩⟩⟩⟩⟩⟩⟩, fun _ h9 => absurd h9 List.not_mem_nil⟩ (Nat.le_of_ble_eq_true rfl) (Nat.le_of_ble_eq_true rfl) (fun h1 e1 o1 x1 => ?_)
  refine R_dup rfl rfl ?_
  refine R_ccall rfl rfl trivial ⟨Nat.le_of_ble_eq_true rfl, Nat.le_of_ble_eq_true rfl, Nat.le_of_ble_eq_true rfl, Nat.le_of_ble_eq_true rfl⟩ (iniF_T ⟨(o1 1001 (by omega)).trans g1, (o1 1002 (by omega)).trans g2⟩ e1 x1 (fun h2 hF2 f2 x2 => aRes_n ⟨List.forall_mem_cons.mpr ⟨(fun v hv => by cases hv; exact Or.inr (Nat.le_refl _)), List.forall_mem_cons.mpr ⟨(fun v hv => by cases hv), List.forall_mem_cons.mpr ⟨(fun v hv => by cases hv), List.forall_mem_cons.mpr ⟨(fun v hv => by cases hv), List.forall_mem_cons.mpr ⟨(fun v hv => by cases hv), List.forall_mem_cons.mpr ⟨(fun v hv => by cases hv), List.forall_mem_cons.mpr ⟨(fun v hv => by cases hv), fun _ h9 => absurd h9 List.not_mem_nil⟩⟩⟩⟩⟩⟩⟩, List.forall_mem_cons.mpr ⟨Or.inl (by omega), fun _ h9 => absurd h9 List.not_mem_nil⟩⟩ ?_))
  refine R_astore_n (lv' := [_, _, _, _, _, _, _]) rfl rfl ?_
  refine C_new rfl rfl rfl (by decide) rfl (by omega) x2 ⟨List.forall_mem_cons.mpr ⟨(fun v hv => by cases hv; exact Or.inr (Nat.le_refl _)), List.forall_mem_cons.mpr ⟨(fun v hv => by cases hv; exact Or.inl (by omega)), List.forall_mem_cons.mpr ⟨(fun v hv => by cases hv), List.forall_mem_cons.mpr ⟨(fun v hv => by cases hv), List.forall_mem_cons.mpr ⟨(fun v hv => by cases hv), List.forall_mem_cons.mpr ⟨(fun v hv => by cases hv), List.forall_mem_cons.mpr ⟨(fun v hv => by cases hv), fun _ h9 => absurd h9 List.not_mem_nil⟩⟩⟩⟩⟩⟩⟩, fun _ h9 => absurd h9 List.not_mem_nil⟩ (Nat.le_of_ble_eq_true rfl) (Nat.le_of_ble_eq_true rfl) (fun h3 e3 o3 x3 => ?_)
  refine R_dup rfl rfl ?_
  refine R_ccall rfl rfl trivial ⟨Nat.le_of_ble_eq_true rfl, Nat.le_of_ble_eq_true rfl, Nat.le_of_ble_eq_true rfl, Nat.le_of_ble_eq_true rfl⟩ (iniM_T e3 x3 (fun h4 hM4 f4 x4 => aRes_n ⟨List.forall_mem_cons.mpr ⟨(fun v hv => by cases hv; exact Or.inr (Nat.le_refl _)), List.forall_mem_cons.mpr ⟨(fun v hv => by cases hv; exact Or.inl (by omega)), List.forall_mem_cons.mpr ⟨(fun v hv => by cases hv), List.forall_mem_cons.mpr ⟨(fun v hv => by cases hv), List.forall_mem_cons.mpr ⟨(fun v hv => by cases hv), List.forall_mem_cons.mpr ⟨(fun v hv => by cases hv), List.forall_mem_cons.mpr ⟨(fun v hv => by cases hv), fun _ h9 => absurd h9 List.not_mem_nil⟩⟩⟩⟩⟩⟩⟩, List.forall_mem_cons.mpr ⟨Or.inl (by omega), fun _ h9 => absurd h9 List.not_mem_nil⟩⟩ ?_))
  refine R_astore_n (lv' := [_, _, _, _, _, _, _]) rfl rfl ?_
  refine R_iconst rfl ?_
  refine C_newL rfl ⟨by decide, by decide⟩ (by omega) x4 ⟨List.forall_mem_cons.mpr ⟨(fun v hv => by cases hv; exact Or.inr (Nat.le_refl _)), List.forall_mem_cons.mpr ⟨(fun v hv => by cases hv; exact Or.inl (by omega)), List.forall_mem_cons.mpr ⟨(fun v hv => by cases hv; exact Or.inl (by omega)), List.forall_mem_cons.mpr ⟨(fun v hv => by cases hv), List.forall_mem_cons.mpr ⟨(fun v hv => by cases hv), List.forall_mem_cons.mpr ⟨(fun v hv => by cases hv), List.forall_mem_cons.mpr ⟨(fun v hv => by cases hv), fun _ h9 => absurd h9 List.not_mem_nil⟩⟩⟩⟩⟩⟩⟩, fun _ h9 => absurd h9 List.not_mem_nil⟩ (Nat.le_of_ble_eq_true rfl) (Nat.le_of_ble_eq_true rfl) (fun h5 e5 o5 x5 => ?_)
  refine R_astore_n (lv' := [_, _, _, _, _, _, _]) rfl rfl ?_
  refine R_iconst rfl ?_
  refine R_istore (lv' := [_, _, _, _, _, _, _]) rfl rfl ?_
  have hF5 : isFace h5 y0 := isFace_far hF2 (fun j hj => (o5 j (by omega)).trans ((f4 j (by omega)).trans (o3 j (by omega))))
  have hM5 : isMo h5 y0 0 := isMo_far hM4 (fun j a b => o5 j (by omega))
  have hX5 : h5 aRO = eI L (fun j => (xs j).toInt) := (o5 aRO (by omega)).trans ((f4 aRO (by omega)).trans ((o3 aRO (by omega)).trans ((f2 aRO (by omega)).trans ((o1 aRO (by omega)).trans g0))))
  exact lw_loop hL 512 h5 y0 0 _ _ _ _ _ ⟨hF5, hM5, ⟨_, e5⟩, hX5⟩ (by omega) (by omega) (by omega) (Nat.le_of_ble_eq_true rfl) (Nat.le_of_ble_eq_true rfl)
