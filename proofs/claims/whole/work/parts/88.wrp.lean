/-! ===== the law's wrappers: a call, or the code of what it throws ===== -/
theorem isFace_far {h h' : AH} {y : Sy} (hF : isFace h y) (f : ∀ j, (j < 122 ∨ 140 ≤ j) → h' j = h j) : isFace h' y := by
  obtain ⟨f0, ⟨p, ft⟩, ⟨G2, fs⟩, fp, fg, ⟨G3, fa⟩, fm, fe, fl, fst⟩ := hF
  exact ⟨(f 0 (by omega)).trans f0, ⟨p, isTx_fr ft (f _ (by omega)) (f _ (by omega))⟩, ⟨G2, isSt_fr fs (fun j _ _ => f j (by omega))⟩, isPz_fr fp (fun j _ _ => f j (by omega)), fg, ⟨G3, isPa_fr fa (fun j _ _ => f j (by omega))⟩, isMem_fr fm (fun j _ _ => f j (by omega)), isSe_fr fe (fun j _ _ => f j (by omega)), isFl_fr fl (fun j _ _ => f j (by omega)), (f 1001 (by omega)).trans fst.1, (f 1002 (by omega)).trans fst.2⟩
theorem isMo_far {h h' : AH} {y : Sy} {th : Int} (hY : isMo h y th) (f : ∀ j, 122 ≤ j → j < 139 → h' j = h j) : isMo h' y th := by
  obtain ⟨hM, hG, ⟨t, ht, ht2⟩, hH, hS, hR⟩ := hY
  exact ⟨isMg_fr hM (fun j hj => f j (by omega) (by omega)), hG, ⟨t, (f _ (by omega) (by omega)).trans ht, ht2⟩, isHi_fr hH (f _ (by omega) (by omega)), isSv_fr hS (f _ (by omega) (by omega)) (f _ (by omega) (by omega)), isRows_fr hR (fun j hj => f j (by omega) (by omega))⟩
def lwQ (p : Op) (v9 : Int64) (h : AH) (N : Nat) (Q : AQ) : Prop := ∀ (h' : AH) (o' : Nat → Int64) (z : Int), isFace h' p.2.2 → h' 139 = eL 1 o' → (∀ j, 122 ≤ j → ¬ j = 139 → h' j = h j) → (p.1 = 0 → o' 0 = v9) → z = (p.1 : Nat) → (0 ≤ z ∧ z ≤ 2) → Q (.inl (some (vI z))) h' N
theorem lwQ_1 {p : Op} {v9 : Int64} {h h' : AH} {N : Nat} {Q : AQ} {oo : Nat → Int64} (hQ : lwQ p v9 h N Q) (hF : isFace h' p.2.2) (hO : h 139 = eL 1 oo) (hf : ∀ j, 122 ≤ j → h' j = h j) (z : Int) (hz : z = (p.1 : Nat)) (hn : p.1 = 1 ∨ p.1 = 2) : Q (.inl (some (vI z))) h' N := hQ h' oo z hF ((hf 139 (by omega)).trans hO) (fun j a _ => hf j a) (fun q => absurd q (by omega)) hz (by omega)
theorem lwQ_0 {p : Op} {v9 : Int64} {h h' : AH} {N : Nat} {Q : AQ} {oo : Nat → Int64} (hQ : lwQ p v9 h N Q) (hF : isFace h' p.2.2) (hf : ∀ j, 122 ≤ j → h' j = h j) (z : Int) (hz : z = (p.1 : Nat)) (hn : p.1 = 0) {i : Int} (hi : i = 0) : Q (.inl (some (vI z))) (va_up h' 139 (eL 1 (va_up oo i.toNat v9))) N := by
  subst hi
  exact hQ _ _ z (isFace_far hF (fun j hj => va_up_ne _ _ (by omega))) (va_up_self _ _ _) (fun j a b => (va_up_ne _ _ b).trans (hf j a)) (fun _ => va_up_self _ _ _) hz (by omega)
theorem aThr_1 {I : MI} {Q : AQ} {J : AJ} {E : String} {pc a b t v : Nat} {tl : List (Nat × Nat × Nat × Nat × String)} {lv : AL} {h : AH} {N k n : Nat} (hh : I.hnd = (a, b, t, v, E) :: tl) (h1 : a ≤ pc) (h2 : pc < b) (k0 : J t (aUn v lv) [] h N k n) : aThr I Q J E pc lv h N k n := by
  unfold aThr
  rw [hh, List.find?_cons_of_pos (by simp [h1, h2])]
  exact k0
theorem aThr_2 {I : MI} {Q : AQ} {J : AJ} {E F : String} {pc a b t v a2 b2 t2 v2 : Nat} {tl : List (Nat × Nat × Nat × Nat × String)} {lv : AL} {h : AH} {N k n : Nat} (hh : I.hnd = (a, b, t, v, F) :: (a2, b2, t2, v2, E) :: tl) (hne : ¬ F = E) (h1 : a2 ≤ pc) (h2 : pc < b2) (k0 : J t2 (aUn v2 lv) [] h N k n) : aThr I Q J E pc lv h N k n := by
  unfold aThr
  rw [hh, List.find?_cons_of_neg (by simp [hne]), List.find?_cons_of_pos (by simp [h1, h2])]
  exact k0
theorem aRes_w {I : MI} {C : AC} {Q : AQ} {E1 E2 : String} {p : Op} {nx pc : Nat} {lv : AL} {rest : List AV} {h' : AH} {N k n : Nat} (h0 : p.1 = 0 → Run I C Q nx lv (vI p.2.1 :: rest) h' N k n) (h1 : p.1 = 1 → aThr I Q (Run I C Q) E1 pc lv h' N k n) (h2 : ¬ p.1 = 0 → ¬ p.1 = 1 → aThr I Q (Run I C Q) E2 pc lv h' N k n) : aRes I Q (Run I C Q) true nx pc lv rest N k n (rs9 E1 E2 p) h' N := by
  obtain ⟨t, b, y⟩ := p
  match t, h0, h1, h2 with
  | 0, h0, _, _ => exact ⟨Or.inl rfl, h0 rfl⟩
  | 1, _, h1, _ => exact ⟨Or.inl rfl, rfl, h1 rfl⟩
  | t + 2, _, _, h2 => exact ⟨Or.inl rfl, rfl, h2 (fun q => absurd (show t + 2 = 0 from q) (by omega)) (fun q => absurd (show t + 2 = 1 from q) (by omega))⟩
theorem R_bool {I : MI} {d : Nat} {Q : AQ} {pc n1 n2 n3 t j : Nat} {o1 o2 : Int} {ts t2 ts3 t4 : List Nat} {lv : AL} {r : List AV} {h : AH} {N k n : Nat} {a : Int} (h0 : lk I.code pc = some (.ifCond .eq o1, n1, t :: ts)) (h1 : lk I.code n1 = some (.iconst 1, n2, t2)) (h2 : lk I.code n2 = some (.goto o2, n3, j :: ts3)) (h3 : lk I.code t = some (.iconst 0, j, t4)) (ha : inR a) (k0 : Run I (T d) Q j lv (vI (bI (decide (¬ a = 0))) :: r) h N k n) : Run I (T d) Q pc lv (vI a :: r) h N k n := by
  refine R_ifeq h0 ha (fun c => R_iconst h3 ?_) (fun c => R_iconst h1 (R_goto h2 ?_))
  · rw [decide_eq_false (fun q => q c)] at k0
    exact k0
  · rw [decide_eq_true c] at k0
    exact k0
def lB (a : Int) : Int64 := if a = 0 then Int64.ofNat (0 : Fin 2) else Int64.ofNat (1 : Fin 2)
theorem R_lbool {I : MI} {d : Nat} {Q : AQ} {pc n1 n2 n3 t j : Nat} {o1 o2 : Int} {ts t2 ts3 t4 : List Nat} {lv : AL} {r : List AV} {h : AH} {N k n : Nat} {a : Int} (h0 : lk I.code pc = some (.ifCond .eq o1, n1, t :: ts)) (h1 : lk I.code n1 = some (.lconst 1, n2, t2)) (h2 : lk I.code n2 = some (.goto o2, n3, j :: ts3)) (h3 : lk I.code t = some (.lconst 0, j, t4)) (ha : inR a) (k0 : Run I (T d) Q j lv (vL (lB a) :: r) h N k n) : Run I (T d) Q pc lv (vI a :: r) h N k n := by
  refine R_ifeq h0 ha (fun c => R_lconst h3 ?_) (fun c => R_lconst h1 (R_goto h2 ?_))
  · rw [lB, if_pos c] at k0
    exact k0
  · rw [lB, if_neg c] at k0
    exact k0
theorem opAppend_lc {y : Sy} {c : Int} : (opAppend y c).1 = 0 ∨ (opAppend y c).1 = 1 ∨ (opAppend y c).1 = 2 := by
  unfold opAppend
  repeat' split
  all_goals first | exact Or.inl rfl | exact Or.inr (Or.inl rfl) | exact Or.inr (Or.inr rfl)
theorem lAppend_T {d N : Nat} {h : AH} {y : Sy} {oo : Nat → Int64} {Q : AQ} (hF : isFace h y) (hO : h 139 = eL 1 oo) (hN : 140 ≤ N) {c : Int} (hc : inR c) (hQ : lwQ (opAppend y c) ((iI (opAppend y c).2.1).toInt64) h N Q) : T (d + 3) 208 [vR 0, vI c, vR 139] h N Q := by
  refine T_body (I := mi_L_append) (lv := [_, _, _, _]) rfl (Nat.le_of_ble_eq_true rfl) rfl ?_
  refine R_aload_n rfl rfl ?_
  refine R_iconst rfl ?_
  refine R_aload_n rfl rfl ?_
  refine R_iload_n rfl rfl ?_
  refine R_vcall rfl rfl ⟨by omega, _, hF.1⟩ ⟨Nat.le_of_ble_eq_true rfl, Nat.le_of_ble_eq_true rfl, Nat.le_of_ble_eq_true rfl, Nat.le_of_ble_eq_true rfl⟩ (append_C (d := d) hF (by omega) hc (fun h1 hF1 f1 => aRes_w (fun q => ?_) (fun q => ?_) (fun q q2 => ?_)))
  · refine R_i2l rfl ?_
    refine R_lastore rfl (by omega) ((f1 139 (by omega)).trans hO) ⟨by omega, by omega, by omega⟩ ?_
    refine R_goto rfl ?_
    refine R_iconst rfl ?_
    exact R_ireturn rfl (fun h9 => absurd (show (0 : Nat) = 1 from h9) (by decide)) (Nat.le_of_ble_eq_true rfl) (Nat.le_of_ble_eq_true rfl) (lwQ_0 hQ hF1 f1 _ (by rw [q]; rfl) q rfl)
  · refine aThr_1 rfl (by decide) (by decide) ?_
    refine R_iconst rfl ?_
    exact R_ireturn rfl (fun h9 => absurd (show (0 : Nat) = 1 from h9) (by decide)) (Nat.le_of_ble_eq_true rfl) (Nat.le_of_ble_eq_true rfl) (lwQ_1 hQ hF1 hO f1 _ (by rw [q]; rfl) (by omega))
  · have hq2 : (opAppend y c).1 = 2 := by
      rcases opAppend_lc (y := y) (c := c) with w | w | w
      · exact absurd w q
      · exact absurd w q2
      · exact w
    refine aThr_2 rfl (by decide) (by decide) (by decide) ?_
    refine R_iconst rfl ?_
    exact R_ireturn rfl (fun h9 => absurd (show (0 : Nat) = 1 from h9) (by decide)) (Nat.le_of_ble_eq_true rfl) (Nat.le_of_ble_eq_true rfl) (lwQ_1 hQ hF1 hO f1 _ (by rw [hq2]; rfl) (by omega))
theorem opLoad_lc {y : Sy} : (opLoad y ).1 = 0 ∨ (opLoad y ).1 = 1 := by
  unfold opLoad
  repeat' split
  all_goals first | exact Or.inl rfl | exact Or.inr rfl
theorem lLoad_T {d N : Nat} {h : AH} {y : Sy} {oo : Nat → Int64} {Q : AQ} (hF : isFace h y) (hO : h 139 = eL 1 oo) (hN : 140 ≤ N)  (hQ : lwQ (opLoad y ) ((iI (opLoad y ).2.1).toInt64) h N Q) : T (d + 8) 209 [vR 0, vR 139] h N Q := by
  refine T_body (I := mi_L_load) (lv := [_, _, _]) rfl (Nat.le_of_ble_eq_true rfl) rfl ?_
  refine R_aload_n rfl rfl ?_
  refine R_iconst rfl ?_
  refine R_aload_n rfl rfl ?_
  refine R_vcall rfl rfl ⟨by omega, _, hF.1⟩ ⟨Nat.le_of_ble_eq_true rfl, Nat.le_of_ble_eq_true rfl, Nat.le_of_ble_eq_true rfl, Nat.le_of_ble_eq_true rfl⟩ (load_C (d := d) hF (by omega)  (fun h1 hF1 f1 => aRes_w (fun q => ?_) (fun q => ?_) (fun q q2 => ?_)))
  · refine R_i2l rfl ?_
    refine R_lastore rfl (by omega) ((f1 139 (by omega)).trans hO) ⟨by omega, by omega, by omega⟩ ?_
    refine R_goto rfl ?_
    refine R_iconst rfl ?_
    exact R_ireturn rfl (fun h9 => absurd (show (0 : Nat) = 1 from h9) (by decide)) (Nat.le_of_ble_eq_true rfl) (Nat.le_of_ble_eq_true rfl) (lwQ_0 hQ hF1 f1 _ (by rw [q]; rfl) q rfl)
  · refine aThr_1 rfl (by decide) (by decide) ?_
    refine R_iconst rfl ?_
    exact R_ireturn rfl (fun h9 => absurd (show (0 : Nat) = 1 from h9) (by decide)) (Nat.le_of_ble_eq_true rfl) (Nat.le_of_ble_eq_true rfl) (lwQ_1 hQ hF1 hO f1 _ (by rw [q]; rfl) (by omega))
  · rcases opLoad_lc (y := y)  with w | w
    · exact absurd w q
    · exact absurd w q2
theorem opAbout_lc {y : Sy} {c : Int} : (opAbout y c).1 = 0 ∨ (opAbout y c).1 = 1 := by
  unfold opAbout
  repeat' split
  all_goals first | exact Or.inl rfl | exact Or.inr rfl
theorem lAbout_T {d N : Nat} {h : AH} {y : Sy} {oo : Nat → Int64} {Q : AQ} (hF : isFace h y) (hO : h 139 = eL 1 oo) (hN : 140 ≤ N) {c : Int} (hc : inR c) (hQ : lwQ (opAbout y c) ((iI (opAbout y c).2.1).toInt64) h N Q) : T (d + 6) 210 [vR 0, vI c, vR 139] h N Q := by
  refine T_body (I := mi_L_about) (lv := [_, _, _, _]) rfl (Nat.le_of_ble_eq_true rfl) rfl ?_
  refine R_aload_n rfl rfl ?_
  refine R_iconst rfl ?_
  refine R_aload_n rfl rfl ?_
  refine R_iload_n rfl rfl ?_
  refine R_vcall rfl rfl ⟨by omega, _, hF.1⟩ ⟨Nat.le_of_ble_eq_true rfl, Nat.le_of_ble_eq_true rfl, Nat.le_of_ble_eq_true rfl, Nat.le_of_ble_eq_true rfl⟩ (about_C (d := d) hF (by omega) hc (fun h1 hF1 f1 => aRes_w (fun q => ?_) (fun q => ?_) (fun q q2 => ?_)))
  · refine R_i2l rfl ?_
    refine R_lastore rfl (by omega) ((f1 139 (by omega)).trans hO) ⟨by omega, by omega, by omega⟩ ?_
    refine R_goto rfl ?_
    refine R_iconst rfl ?_
    exact R_ireturn rfl (fun h9 => absurd (show (0 : Nat) = 1 from h9) (by decide)) (Nat.le_of_ble_eq_true rfl) (Nat.le_of_ble_eq_true rfl) (lwQ_0 hQ hF1 f1 _ (by rw [q]; rfl) q rfl)
  · refine aThr_1 rfl (by decide) (by decide) ?_
    refine R_iconst rfl ?_
    exact R_ireturn rfl (fun h9 => absurd (show (0 : Nat) = 1 from h9) (by decide)) (Nat.le_of_ble_eq_true rfl) (Nat.le_of_ble_eq_true rfl) (lwQ_1 hQ hF1 hO f1 _ (by rw [q]; rfl) (by omega))
  · rcases opAbout_lc (y := y) (c := c) with w | w
    · exact absurd w q
    · exact absurd w q2
theorem opCell_lc {y : Sy} {c k : Int} : (opCell y c k).1 = 0 ∨ (opCell y c k).1 = 1 ∨ (opCell y c k).1 = 2 := by
  unfold opCell
  repeat' split
  all_goals first | exact Or.inl rfl | exact Or.inr (Or.inl rfl) | exact Or.inr (Or.inr rfl)
theorem lCell_T {d N : Nat} {h : AH} {y : Sy} {oo : Nat → Int64} {Q : AQ} (hF : isFace h y) (hO : h 139 = eL 1 oo) (hN : 140 ≤ N) {c k : Int} (hc : inR c) (hk : inR k) (hQ : lwQ (opCell y c k) ((iI (opCell y c k).2.1).toInt64) h N Q) : T (d + 5) 211 [vR 0, vI c, vI k, vR 139] h N Q := by
  refine T_body (I := mi_L_cell) (lv := [_, _, _, _, _]) rfl (Nat.le_of_ble_eq_true rfl) rfl ?_
  refine R_aload_n rfl rfl ?_
  refine R_iconst rfl ?_
  refine R_aload_n rfl rfl ?_
  refine R_iload_n rfl rfl ?_
  refine R_iload_n rfl rfl ?_
  refine R_vcall rfl rfl ⟨by omega, _, hF.1⟩ ⟨Nat.le_of_ble_eq_true rfl, Nat.le_of_ble_eq_true rfl, Nat.le_of_ble_eq_true rfl, Nat.le_of_ble_eq_true rfl⟩ (cell_C (d := d) hF (by omega) hc hk (fun h1 hF1 f1 => aRes_w (fun q => ?_) (fun q => ?_) (fun q q2 => ?_)))
  · refine R_i2l rfl ?_
    refine R_lastore rfl (by omega) ((f1 139 (by omega)).trans hO) ⟨by omega, by omega, by omega⟩ ?_
    refine R_goto rfl ?_
    refine R_iconst rfl ?_
    exact R_ireturn rfl (fun h9 => absurd (show (0 : Nat) = 1 from h9) (by decide)) (Nat.le_of_ble_eq_true rfl) (Nat.le_of_ble_eq_true rfl) (lwQ_0 hQ hF1 f1 _ (by rw [q]; rfl) q rfl)
  · refine aThr_1 rfl (by decide) (by decide) ?_
    refine R_iconst rfl ?_
    exact R_ireturn rfl (fun h9 => absurd (show (0 : Nat) = 1 from h9) (by decide)) (Nat.le_of_ble_eq_true rfl) (Nat.le_of_ble_eq_true rfl) (lwQ_1 hQ hF1 hO f1 _ (by rw [q]; rfl) (by omega))
  · have hq2 : (opCell y c k).1 = 2 := by
      rcases opCell_lc (y := y) (c := c) (k := k) with w | w | w
      · exact absurd w q
      · exact absurd w q2
      · exact w
    refine aThr_2 rfl (by decide) (by decide) (by decide) ?_
    refine R_iconst rfl ?_
    exact R_ireturn rfl (fun h9 => absurd (show (0 : Nat) = 1 from h9) (by decide)) (Nat.le_of_ble_eq_true rfl) (Nat.le_of_ble_eq_true rfl) (lwQ_1 hQ hF1 hO f1 _ (by rw [hq2]; rfl) (by omega))
theorem opEntry_lc {y : Sy} {c k : Int} : (opEntry y c k).1 = 0 ∨ (opEntry y c k).1 = 1 ∨ (opEntry y c k).1 = 2 := by
  unfold opEntry
  repeat' split
  all_goals first | exact Or.inl rfl | exact Or.inr (Or.inl rfl) | exact Or.inr (Or.inr rfl)
theorem lEntry_T {d N : Nat} {h : AH} {y : Sy} {oo : Nat → Int64} {Q : AQ} (hF : isFace h y) (hO : h 139 = eL 1 oo) (hN : 140 ≤ N) {c k : Int} (hc : inR c) (hk : inR k) (hQ : lwQ (opEntry y c k) ((iI (opEntry y c k).2.1).toInt64) h N Q) : T (d + 7) 212 [vR 0, vI c, vI k, vR 139] h N Q := by
  refine T_body (I := mi_L_entry) (lv := [_, _, _, _, _]) rfl (Nat.le_of_ble_eq_true rfl) rfl ?_
  refine R_aload_n rfl rfl ?_
  refine R_iconst rfl ?_
  refine R_aload_n rfl rfl ?_
  refine R_iload_n rfl rfl ?_
  refine R_iload_n rfl rfl ?_
  refine R_vcall rfl rfl ⟨by omega, _, hF.1⟩ ⟨Nat.le_of_ble_eq_true rfl, Nat.le_of_ble_eq_true rfl, Nat.le_of_ble_eq_true rfl, Nat.le_of_ble_eq_true rfl⟩ (entry_C (d := d) hF (by omega) hc hk (fun h1 hF1 f1 => aRes_w (fun q => ?_) (fun q => ?_) (fun q q2 => ?_)))
  · refine R_i2l rfl ?_
    refine R_lastore rfl (by omega) ((f1 139 (by omega)).trans hO) ⟨by omega, by omega, by omega⟩ ?_
    refine R_goto rfl ?_
    refine R_iconst rfl ?_
    exact R_ireturn rfl (fun h9 => absurd (show (0 : Nat) = 1 from h9) (by decide)) (Nat.le_of_ble_eq_true rfl) (Nat.le_of_ble_eq_true rfl) (lwQ_0 hQ hF1 f1 _ (by rw [q]; rfl) q rfl)
  · refine aThr_1 rfl (by decide) (by decide) ?_
    refine R_iconst rfl ?_
    exact R_ireturn rfl (fun h9 => absurd (show (0 : Nat) = 1 from h9) (by decide)) (Nat.le_of_ble_eq_true rfl) (Nat.le_of_ble_eq_true rfl) (lwQ_1 hQ hF1 hO f1 _ (by rw [q]; rfl) (by omega))
  · have hq2 : (opEntry y c k).1 = 2 := by
      rcases opEntry_lc (y := y) (c := c) (k := k) with w | w | w
      · exact absurd w q
      · exact absurd w q2
      · exact w
    refine aThr_2 rfl (by decide) (by decide) (by decide) ?_
    refine R_iconst rfl ?_
    exact R_ireturn rfl (fun h9 => absurd (show (0 : Nat) = 1 from h9) (by decide)) (Nat.le_of_ble_eq_true rfl) (Nat.le_of_ble_eq_true rfl) (lwQ_1 hQ hF1 hO f1 _ (by rw [hq2]; rfl) (by omega))
theorem opWord_lc {y : Sy} {c k : Int} : (opWord y c k).1 = 0 ∨ (opWord y c k).1 = 1 ∨ (opWord y c k).1 = 2 := by
  unfold opWord
  repeat' split
  all_goals first | exact Or.inl rfl | exact Or.inr (Or.inl rfl) | exact Or.inr (Or.inr rfl)
theorem lWord_T {d N : Nat} {h : AH} {y : Sy} {oo : Nat → Int64} {Q : AQ} (hF : isFace h y) (hO : h 139 = eL 1 oo) (hN : 140 ≤ N) {c k : Int} (hc : inR c) (hk : inR k) (hQ : lwQ (opWord y c k) ((iI (opWord y c k).2.1).toInt64) h N Q) : T (d + 5) 213 [vR 0, vI c, vI k, vR 139] h N Q := by
  refine T_body (I := mi_L_word) (lv := [_, _, _, _, _]) rfl (Nat.le_of_ble_eq_true rfl) rfl ?_
  refine R_aload_n rfl rfl ?_
  refine R_iconst rfl ?_
  refine R_aload_n rfl rfl ?_
  refine R_iload_n rfl rfl ?_
  refine R_iload_n rfl rfl ?_
  refine R_vcall rfl rfl ⟨by omega, _, hF.1⟩ ⟨Nat.le_of_ble_eq_true rfl, Nat.le_of_ble_eq_true rfl, Nat.le_of_ble_eq_true rfl, Nat.le_of_ble_eq_true rfl⟩ (word_C (d := d) hF (by omega) hc hk (fun h1 hF1 f1 => aRes_w (fun q => ?_) (fun q => ?_) (fun q q2 => ?_)))
  · refine R_i2l rfl ?_
    refine R_lastore rfl (by omega) ((f1 139 (by omega)).trans hO) ⟨by omega, by omega, by omega⟩ ?_
    refine R_goto rfl ?_
    refine R_iconst rfl ?_
    exact R_ireturn rfl (fun h9 => absurd (show (0 : Nat) = 1 from h9) (by decide)) (Nat.le_of_ble_eq_true rfl) (Nat.le_of_ble_eq_true rfl) (lwQ_0 hQ hF1 f1 _ (by rw [q]; rfl) q rfl)
  · refine aThr_1 rfl (by decide) (by decide) ?_
    refine R_iconst rfl ?_
    exact R_ireturn rfl (fun h9 => absurd (show (0 : Nat) = 1 from h9) (by decide)) (Nat.le_of_ble_eq_true rfl) (Nat.le_of_ble_eq_true rfl) (lwQ_1 hQ hF1 hO f1 _ (by rw [q]; rfl) (by omega))
  · have hq2 : (opWord y c k).1 = 2 := by
      rcases opWord_lc (y := y) (c := c) (k := k) with w | w | w
      · exact absurd w q
      · exact absurd w q2
      · exact w
    refine aThr_2 rfl (by decide) (by decide) (by decide) ?_
    refine R_iconst rfl ?_
    exact R_ireturn rfl (fun h9 => absurd (show (0 : Nat) = 1 from h9) (by decide)) (Nat.le_of_ble_eq_true rfl) (Nat.le_of_ble_eq_true rfl) (lwQ_1 hQ hF1 hO f1 _ (by rw [hq2]; rfl) (by omega))
theorem opFits_lc {y : Sy} {c : Int} : (opFits y c).1 = 0 ∨ (opFits y c).1 = 1 := by
  unfold opFits
  repeat' split
  all_goals first | exact Or.inl rfl | exact Or.inr rfl
theorem lFits_T {d N : Nat} {h : AH} {y : Sy} {oo : Nat → Int64} {Q : AQ} (hF : isFace h y) (hO : h 139 = eL 1 oo) (hN : 140 ≤ N) {c : Int} (hc : inR c) (hQ : lwQ (opFits y c) ((iI (opFits y c).2.1).toInt64) h N Q) : T (d + 7) 214 [vR 0, vI c, vR 139] h N Q := by
  refine T_body (I := mi_L_fits) (lv := [_, _, _, _]) rfl (Nat.le_of_ble_eq_true rfl) rfl ?_
  refine R_aload_n rfl rfl ?_
  refine R_iconst rfl ?_
  refine R_aload_n rfl rfl ?_
  refine R_iload_n rfl rfl ?_
  refine R_vcall rfl rfl ⟨by omega, _, hF.1⟩ ⟨Nat.le_of_ble_eq_true rfl, Nat.le_of_ble_eq_true rfl, Nat.le_of_ble_eq_true rfl, Nat.le_of_ble_eq_true rfl⟩ (fits_C (d := d) hF (by omega) hc (fun h1 hF1 f1 => aRes_w (fun q => ?_) (fun q => ?_) (fun q q2 => ?_)))
  · refine R_i2l rfl ?_
    refine R_lastore rfl (by omega) ((f1 139 (by omega)).trans hO) ⟨by omega, by omega, by omega⟩ ?_
    refine R_goto rfl ?_
    refine R_iconst rfl ?_
    exact R_ireturn rfl (fun h9 => absurd (show (0 : Nat) = 1 from h9) (by decide)) (Nat.le_of_ble_eq_true rfl) (Nat.le_of_ble_eq_true rfl) (lwQ_0 hQ hF1 f1 _ (by rw [q]; rfl) q rfl)
  · refine aThr_1 rfl (by decide) (by decide) ?_
    refine R_iconst rfl ?_
    exact R_ireturn rfl (fun h9 => absurd (show (0 : Nat) = 1 from h9) (by decide)) (Nat.le_of_ble_eq_true rfl) (Nat.le_of_ble_eq_true rfl) (lwQ_1 hQ hF1 hO f1 _ (by rw [q]; rfl) (by omega))
  · rcases opFits_lc (y := y) (c := c) with w | w
    · exact absurd w q
    · exact absurd w q2
theorem opRule_lc {y : Sy} {c : Int} : (opRule y c).1 = 0 ∨ (opRule y c).1 = 1 := by
  unfold opRule
  repeat' split
  all_goals first | exact Or.inl rfl | exact Or.inr rfl
theorem lRule_T {d N : Nat} {h : AH} {y : Sy} {oo : Nat → Int64} {Q : AQ} (hF : isFace h y) (hO : h 139 = eL 1 oo) (hN : 140 ≤ N) {c : Int} (hc : inR c) (hQ : lwQ (opRule y c) (lB (opRule y c).2.1) h N Q) : T (d + 7) 215 [vR 0, vI c, vR 139] h N Q := by
  have hbi : inR (opRule y c).2.1 := by
    unfold opRule
    split
    · exact ⟨by rcases bI01 (ruG y.1 c.toNat) with w | w <;> (show -2147483648 ≤ bI (ruG y.1 c.toNat)) <;> omega, by rcases bI01 (ruG y.1 c.toNat) with w | w <;> (show bI (ruG y.1 c.toNat) < 2147483648) <;> omega⟩
    · exact ⟨by show (-2147483648 : Int) ≤ 0; decide, by show (0 : Int) < 2147483648; decide⟩
  refine T_body (I := mi_L_rule) (lv := [_, _, _, _]) rfl (Nat.le_of_ble_eq_true rfl) rfl ?_
  refine R_aload_n rfl rfl ?_
  refine R_iconst rfl ?_
  refine R_aload_n rfl rfl ?_
  refine R_iload_n rfl rfl ?_
  refine R_vcall rfl rfl ⟨by omega, _, hF.1⟩ ⟨Nat.le_of_ble_eq_true rfl, Nat.le_of_ble_eq_true rfl, Nat.le_of_ble_eq_true rfl, Nat.le_of_ble_eq_true rfl⟩ (rule_C (d := d) hF (by omega) hc (fun h1 hF1 f1 => aRes_w (fun q => ?_) (fun q => ?_) (fun q q2 => ?_)))
  · refine R_lbool rfl rfl rfl rfl hbi ?_
    refine R_lastore rfl (by omega) ((f1 139 (by omega)).trans hO) ⟨by omega, by omega, by omega⟩ ?_
    refine R_goto rfl ?_
    refine R_iconst rfl ?_
    exact R_ireturn rfl (fun h9 => absurd (show (0 : Nat) = 1 from h9) (by decide)) (Nat.le_of_ble_eq_true rfl) (Nat.le_of_ble_eq_true rfl) (lwQ_0 hQ hF1 f1 _ (by rw [q]; rfl) q rfl)
  · refine aThr_1 rfl (by decide) (by decide) ?_
    refine R_iconst rfl ?_
    exact R_ireturn rfl (fun h9 => absurd (show (0 : Nat) = 1 from h9) (by decide)) (Nat.le_of_ble_eq_true rfl) (Nat.le_of_ble_eq_true rfl) (lwQ_1 hQ hF1 hO f1 _ (by rw [q]; rfl) (by omega))
  · rcases opRule_lc (y := y) (c := c) with w | w
    · exact absurd w q
    · exact absurd w q2
theorem opReading_lc {y : Sy} {c : Int} : (opReading y c).1 = 0 ∨ (opReading y c).1 = 1 := by
  unfold opReading
  repeat' split
  all_goals first | exact Or.inl rfl | exact Or.inr rfl
theorem lReading_T {d N : Nat} {h : AH} {y : Sy} {oo : Nat → Int64} {Q : AQ} (hF : isFace h y) (hO : h 139 = eL 1 oo) (hN : 140 ≤ N) {c : Int} (hc : inR c) (hQ : lwQ (opReading y c) ((iI (opReading y c).2.1).toInt64) h N Q) : T (d + 19) 216 [vR 0, vI c, vR 139] h N Q := by
  refine T_body (I := mi_L_reading) (lv := [_, _, _, _]) rfl (Nat.le_of_ble_eq_true rfl) rfl ?_
  refine R_aload_n rfl rfl ?_
  refine R_iconst rfl ?_
  refine R_aload_n rfl rfl ?_
  refine R_iload_n rfl rfl ?_
  refine R_vcall rfl rfl ⟨by omega, _, hF.1⟩ ⟨Nat.le_of_ble_eq_true rfl, Nat.le_of_ble_eq_true rfl, Nat.le_of_ble_eq_true rfl, Nat.le_of_ble_eq_true rfl⟩ (reading_C (d := d) hF (by omega) hc (fun h1 hF1 f1 => aRes_w (fun q => ?_) (fun q => ?_) (fun q q2 => ?_)))
  · refine R_i2l rfl ?_
    refine R_lastore rfl (by omega) ((f1 139 (by omega)).trans hO) ⟨by omega, by omega, by omega⟩ ?_
    refine R_goto rfl ?_
    refine R_iconst rfl ?_
    exact R_ireturn rfl (fun h9 => absurd (show (0 : Nat) = 1 from h9) (by decide)) (Nat.le_of_ble_eq_true rfl) (Nat.le_of_ble_eq_true rfl) (lwQ_0 hQ hF1 f1 _ (by rw [q]; rfl) q rfl)
  · refine aThr_1 rfl (by decide) (by decide) ?_
    refine R_iconst rfl ?_
    exact R_ireturn rfl (fun h9 => absurd (show (0 : Nat) = 1 from h9) (by decide)) (Nat.le_of_ble_eq_true rfl) (Nat.le_of_ble_eq_true rfl) (lwQ_1 hQ hF1 hO f1 _ (by rw [q]; rfl) (by omega))
  · rcases opReading_lc (y := y) (c := c) with w | w
    · exact absurd w q
    · exact absurd w q2
theorem opPut_lc {y : Sy} {c k : Int} : (opPut y c k).1 = 0 ∨ (opPut y c k).1 = 1 ∨ (opPut y c k).1 = 2 := by
  unfold opPut
  repeat' split
  all_goals first | exact Or.inl rfl | exact Or.inr (Or.inl rfl) | exact Or.inr (Or.inr rfl)
theorem lPut_T {d N : Nat} {h : AH} {y : Sy} {oo : Nat → Int64} {Q : AQ} (hF : isFace h y) (hO : h 139 = eL 1 oo) (hN : 140 ≤ N) {c k : Int} (hc : inR c) (hk : inR k) (hQ : lwQ (opPut y c k) ((iI (opPut y c k).2.1).toInt64) h N Q) : T (d + 7) 217 [vR 0, vI c, vI k, vR 139] h N Q := by
  refine T_body (I := mi_L_put) (lv := [_, _, _, _, _]) rfl (Nat.le_of_ble_eq_true rfl) rfl ?_
  refine R_aload_n rfl rfl ?_
  refine R_iconst rfl ?_
  refine R_aload_n rfl rfl ?_
  refine R_iload_n rfl rfl ?_
  refine R_iload_n rfl rfl ?_
  refine R_vcall rfl rfl ⟨by omega, _, hF.1⟩ ⟨Nat.le_of_ble_eq_true rfl, Nat.le_of_ble_eq_true rfl, Nat.le_of_ble_eq_true rfl, Nat.le_of_ble_eq_true rfl⟩ (put_C (d := d) hF (by omega) hc hk (fun h1 hF1 f1 => aRes_w (fun q => ?_) (fun q => ?_) (fun q q2 => ?_)))
  · refine R_i2l rfl ?_
    refine R_lastore rfl (by omega) ((f1 139 (by omega)).trans hO) ⟨by omega, by omega, by omega⟩ ?_
    refine R_goto rfl ?_
    refine R_iconst rfl ?_
    exact R_ireturn rfl (fun h9 => absurd (show (0 : Nat) = 1 from h9) (by decide)) (Nat.le_of_ble_eq_true rfl) (Nat.le_of_ble_eq_true rfl) (lwQ_0 hQ hF1 f1 _ (by rw [q]; rfl) q rfl)
  · refine aThr_1 rfl (by decide) (by decide) ?_
    refine R_iconst rfl ?_
    exact R_ireturn rfl (fun h9 => absurd (show (0 : Nat) = 1 from h9) (by decide)) (Nat.le_of_ble_eq_true rfl) (Nat.le_of_ble_eq_true rfl) (lwQ_1 hQ hF1 hO f1 _ (by rw [q]; rfl) (by omega))
  · have hq2 : (opPut y c k).1 = 2 := by
      rcases opPut_lc (y := y) (c := c) (k := k) with w | w | w
      · exact absurd w q
      · exact absurd w q2
      · exact w
    refine aThr_2 rfl (by decide) (by decide) (by decide) ?_
    refine R_iconst rfl ?_
    exact R_ireturn rfl (fun h9 => absurd (show (0 : Nat) = 1 from h9) (by decide)) (Nat.le_of_ble_eq_true rfl) (Nat.le_of_ble_eq_true rfl) (lwQ_1 hQ hF1 hO f1 _ (by rw [hq2]; rfl) (by omega))
theorem opSetBar_lc {y : Sy} {c : Int} {b v : Bool} : (opSetBar y c b v).1 = 0 ∨ (opSetBar y c b v).1 = 1 ∨ (opSetBar y c b v).1 = 2 := by
  unfold opSetBar
  repeat' split
  all_goals first | exact Or.inl rfl | exact Or.inr (Or.inl rfl) | exact Or.inr (Or.inr rfl)
theorem lSetBar_T {d N : Nat} {h : AH} {y : Sy} {oo : Nat → Int64} {Q : AQ} (hF : isFace h y) (hO : h 139 = eL 1 oo) (hN : 140 ≤ N) {c : Int} {b v : Bool} (hc : inR c) (hQ : lwQ (opSetBar y c b v) ((iI (opSetBar y c b v).2.1).toInt64) h N Q) : T (d + 7) 218 [vR 0, vI c, vI (bI b), vI (bI v), vR 139] h N Q := by
  refine T_body (I := mi_L_setBar) (lv := [_, _, _, _, _, _]) rfl (Nat.le_of_ble_eq_true rfl) rfl ?_
  refine R_aload rfl rfl ?_
  refine R_iconst rfl ?_
  refine R_aload_n rfl rfl ?_
  refine R_iload_n rfl rfl ?_
  refine R_iload_n rfl rfl ?_
  refine R_iload_n rfl rfl ?_
  refine R_vcall rfl rfl ⟨by omega, _, hF.1⟩ ⟨Nat.le_of_ble_eq_true rfl, Nat.le_of_ble_eq_true rfl, Nat.le_of_ble_eq_true rfl, Nat.le_of_ble_eq_true rfl⟩ (setBar_C (d := d) hF (by omega) hc (fun h1 hF1 f1 => aRes_w (fun q => ?_) (fun q => ?_) (fun q q2 => ?_)))
  · refine R_i2l rfl ?_
    refine R_lastore rfl (by omega) ((f1 139 (by omega)).trans hO) ⟨by omega, by omega, by omega⟩ ?_
    refine R_goto rfl ?_
    refine R_iconst rfl ?_
    exact R_ireturn rfl (fun h9 => absurd (show (0 : Nat) = 1 from h9) (by decide)) (Nat.le_of_ble_eq_true rfl) (Nat.le_of_ble_eq_true rfl) (lwQ_0 hQ hF1 f1 _ (by rw [q]; rfl) q rfl)
  · refine aThr_1 rfl (by decide) (by decide) ?_
    refine R_iconst rfl ?_
    exact R_ireturn rfl (fun h9 => absurd (show (0 : Nat) = 1 from h9) (by decide)) (Nat.le_of_ble_eq_true rfl) (Nat.le_of_ble_eq_true rfl) (lwQ_1 hQ hF1 hO f1 _ (by rw [q]; rfl) (by omega))
  · have hq2 : (opSetBar y c b v).1 = 2 := by
      rcases opSetBar_lc (y := y) (c := c) (b := b) (v := v) with w | w | w
      · exact absurd w q
      · exact absurd w q2
      · exact w
    refine aThr_2 rfl (by decide) (by decide) (by decide) ?_
    refine R_iconst rfl ?_
    exact R_ireturn rfl (fun h9 => absurd (show (0 : Nat) = 1 from h9) (by decide)) (Nat.le_of_ble_eq_true rfl) (Nat.le_of_ble_eq_true rfl) (lwQ_1 hQ hF1 hO f1 _ (by rw [hq2]; rfl) (by omega))
theorem opAddWord_lc {y : Sy} : (opAddWord y ).1 = 0 ∨ (opAddWord y ).1 = 1 := by
  unfold opAddWord
  repeat' split
  all_goals first | exact Or.inl rfl | exact Or.inr rfl
theorem lAddWord_T {d N : Nat} {h : AH} {y : Sy} {oo : Nat → Int64} {Q : AQ} (hF : isFace h y) (hO : h 139 = eL 1 oo) (hN : 140 ≤ N)  (hQ : lwQ (opAddWord y ) ((iI (opAddWord y ).2.1).toInt64) h N Q) : T (d + 6) 219 [vR 0, vR 139] h N Q := by
  refine T_body (I := mi_L_addWord) (lv := [_, _, _]) rfl (Nat.le_of_ble_eq_true rfl) rfl ?_
  refine R_aload_n rfl rfl ?_
  refine R_iconst rfl ?_
  refine R_aload_n rfl rfl ?_
  refine R_vcall rfl rfl ⟨by omega, _, hF.1⟩ ⟨Nat.le_of_ble_eq_true rfl, Nat.le_of_ble_eq_true rfl, Nat.le_of_ble_eq_true rfl, Nat.le_of_ble_eq_true rfl⟩ (addWord_C (d := d) hF (by omega)  (fun h1 hF1 f1 => aRes_w (fun q => ?_) (fun q => ?_) (fun q q2 => ?_)))
  · refine R_i2l rfl ?_
    refine R_lastore rfl (by omega) ((f1 139 (by omega)).trans hO) ⟨by omega, by omega, by omega⟩ ?_
    refine R_goto rfl ?_
    refine R_iconst rfl ?_
    exact R_ireturn rfl (fun h9 => absurd (show (0 : Nat) = 1 from h9) (by decide)) (Nat.le_of_ble_eq_true rfl) (Nat.le_of_ble_eq_true rfl) (lwQ_0 hQ hF1 f1 _ (by rw [q]; rfl) q rfl)
  · refine aThr_1 rfl (by decide) (by decide) ?_
    refine R_iconst rfl ?_
    exact R_ireturn rfl (fun h9 => absurd (show (0 : Nat) = 1 from h9) (by decide)) (Nat.le_of_ble_eq_true rfl) (Nat.le_of_ble_eq_true rfl) (lwQ_1 hQ hF1 hO f1 _ (by rw [q]; rfl) (by omega))
  · rcases opAddWord_lc (y := y)  with w | w
    · exact absurd w q
    · exact absurd w q2
theorem opSetLine_lc {y : Sy} : (opSetLine y ).1 = 0 ∨ (opSetLine y ).1 = 1 := by
  unfold opSetLine
  repeat' split
  all_goals first | exact Or.inl rfl | exact Or.inr rfl
theorem lSetLine_T {d N : Nat} {h : AH} {y : Sy} {oo : Nat → Int64} {Q : AQ} (hF : isFace h y) (hO : h 139 = eL 1 oo) (hN : 140 ≤ N)  (hQ : lwQ (opSetLine y ) ((iI (opSetLine y ).2.1).toInt64) h N Q) : T (d + 6) 220 [vR 0, vR 139] h N Q := by
  refine T_body (I := mi_L_setLine) (lv := [_, _, _]) rfl (Nat.le_of_ble_eq_true rfl) rfl ?_
  refine R_aload_n rfl rfl ?_
  refine R_iconst rfl ?_
  refine R_aload_n rfl rfl ?_
  refine R_vcall rfl rfl ⟨by omega, _, hF.1⟩ ⟨Nat.le_of_ble_eq_true rfl, Nat.le_of_ble_eq_true rfl, Nat.le_of_ble_eq_true rfl, Nat.le_of_ble_eq_true rfl⟩ (setLine_C (d := d) hF (by omega)  (fun h1 hF1 f1 => aRes_w (fun q => ?_) (fun q => ?_) (fun q q2 => ?_)))
  · refine R_i2l rfl ?_
    refine R_lastore rfl (by omega) ((f1 139 (by omega)).trans hO) ⟨by omega, by omega, by omega⟩ ?_
    refine R_goto rfl ?_
    refine R_iconst rfl ?_
    exact R_ireturn rfl (fun h9 => absurd (show (0 : Nat) = 1 from h9) (by decide)) (Nat.le_of_ble_eq_true rfl) (Nat.le_of_ble_eq_true rfl) (lwQ_0 hQ hF1 f1 _ (by rw [q]; rfl) q rfl)
  · refine aThr_1 rfl (by decide) (by decide) ?_
    refine R_iconst rfl ?_
    exact R_ireturn rfl (fun h9 => absurd (show (0 : Nat) = 1 from h9) (by decide)) (Nat.le_of_ble_eq_true rfl) (Nat.le_of_ble_eq_true rfl) (lwQ_1 hQ hF1 hO f1 _ (by rw [q]; rfl) (by omega))
  · rcases opSetLine_lc (y := y)  with w | w
    · exact absurd w q
    · exact absurd w q2
theorem opWrite_lc {y : Sy} {c k : Int} : (opWrite y c k).1 = 0 ∨ (opWrite y c k).1 = 1 ∨ (opWrite y c k).1 = 2 := by
  unfold opWrite
  repeat' split
  all_goals first | exact Or.inl rfl | exact Or.inr (Or.inl rfl) | exact Or.inr (Or.inr rfl)
theorem lWrite_T {d N : Nat} {h : AH} {y : Sy} {oo : Nat → Int64} {Q : AQ} (hF : isFace h y) (hO : h 139 = eL 1 oo) (hN : 140 ≤ N) {c k : Int} (hc : inR c) (hk : inR k) (hQ : lwQ (opWrite y c k) ((iI (opWrite y c k).2.1).toInt64) h N Q) : T (d + 7) 221 [vR 0, vI c, vI k, vR 139] h N Q := by
  refine T_body (I := mi_L_write) (lv := [_, _, _, _, _]) rfl (Nat.le_of_ble_eq_true rfl) rfl ?_
  refine R_aload_n rfl rfl ?_
  refine R_iconst rfl ?_
  refine R_aload_n rfl rfl ?_
  refine R_iload_n rfl rfl ?_
  refine R_iload_n rfl rfl ?_
  refine R_vcall rfl rfl ⟨by omega, _, hF.1⟩ ⟨Nat.le_of_ble_eq_true rfl, Nat.le_of_ble_eq_true rfl, Nat.le_of_ble_eq_true rfl, Nat.le_of_ble_eq_true rfl⟩ (write_C (d := d) hF (by omega) hc hk (fun h1 hF1 f1 => aRes_w (fun q => ?_) (fun q => ?_) (fun q q2 => ?_)))
  · refine R_i2l rfl ?_
    refine R_lastore rfl (by omega) ((f1 139 (by omega)).trans hO) ⟨by omega, by omega, by omega⟩ ?_
    refine R_goto rfl ?_
    refine R_iconst rfl ?_
    exact R_ireturn rfl (fun h9 => absurd (show (0 : Nat) = 1 from h9) (by decide)) (Nat.le_of_ble_eq_true rfl) (Nat.le_of_ble_eq_true rfl) (lwQ_0 hQ hF1 f1 _ (by rw [q]; rfl) q rfl)
  · refine aThr_1 rfl (by decide) (by decide) ?_
    refine R_iconst rfl ?_
    exact R_ireturn rfl (fun h9 => absurd (show (0 : Nat) = 1 from h9) (by decide)) (Nat.le_of_ble_eq_true rfl) (Nat.le_of_ble_eq_true rfl) (lwQ_1 hQ hF1 hO f1 _ (by rw [q]; rfl) (by omega))
  · have hq2 : (opWrite y c k).1 = 2 := by
      rcases opWrite_lc (y := y) (c := c) (k := k) with w | w | w
      · exact absurd w q
      · exact absurd w q2
      · exact w
    refine aThr_2 rfl (by decide) (by decide) (by decide) ?_
    refine R_iconst rfl ?_
    exact R_ireturn rfl (fun h9 => absurd (show (0 : Nat) = 1 from h9) (by decide)) (Nat.le_of_ble_eq_true rfl) (Nat.le_of_ble_eq_true rfl) (lwQ_1 hQ hF1 hO f1 _ (by rw [hq2]; rfl) (by omega))
theorem opErase_lc {y : Sy} {c : Int} : (opErase y c).1 = 0 ∨ (opErase y c).1 = 1 := by
  unfold opErase
  repeat' split
  all_goals first | exact Or.inl rfl | exact Or.inr rfl
theorem lErase_T {d N : Nat} {h : AH} {y : Sy} {oo : Nat → Int64} {Q : AQ} (hF : isFace h y) (hO : h 139 = eL 1 oo) (hN : 140 ≤ N) {c : Int} (hc : inR c) (hQ : lwQ (opErase y c) ((iI (opErase y c).2.1).toInt64) h N Q) : T (d + 7) 222 [vR 0, vI c, vR 139] h N Q := by
  refine T_body (I := mi_L_erase) (lv := [_, _, _, _]) rfl (Nat.le_of_ble_eq_true rfl) rfl ?_
  refine R_aload_n rfl rfl ?_
  refine R_iconst rfl ?_
  refine R_aload_n rfl rfl ?_
  refine R_iload_n rfl rfl ?_
  refine R_vcall rfl rfl ⟨by omega, _, hF.1⟩ ⟨Nat.le_of_ble_eq_true rfl, Nat.le_of_ble_eq_true rfl, Nat.le_of_ble_eq_true rfl, Nat.le_of_ble_eq_true rfl⟩ (erase_C (d := d) hF (by omega) hc (fun h1 hF1 f1 => aRes_w (fun q => ?_) (fun q => ?_) (fun q q2 => ?_)))
  · refine R_i2l rfl ?_
    refine R_lastore rfl (by omega) ((f1 139 (by omega)).trans hO) ⟨by omega, by omega, by omega⟩ ?_
    refine R_goto rfl ?_
    refine R_iconst rfl ?_
    exact R_ireturn rfl (fun h9 => absurd (show (0 : Nat) = 1 from h9) (by decide)) (Nat.le_of_ble_eq_true rfl) (Nat.le_of_ble_eq_true rfl) (lwQ_0 hQ hF1 f1 _ (by rw [q]; rfl) q rfl)
  · refine aThr_1 rfl (by decide) (by decide) ?_
    refine R_iconst rfl ?_
    exact R_ireturn rfl (fun h9 => absurd (show (0 : Nat) = 1 from h9) (by decide)) (Nat.le_of_ble_eq_true rfl) (Nat.le_of_ble_eq_true rfl) (lwQ_1 hQ hF1 hO f1 _ (by rw [q]; rfl) (by omega))
  · rcases opErase_lc (y := y) (c := c) with w | w
    · exact absurd w q
    · exact absurd w q2
theorem opUndo_lc {y : Sy} : (opUndo y ).1 = 0 ∨ (opUndo y ).1 = 1 := by
  unfold opUndo
  repeat' split
  all_goals first | exact Or.inl rfl | exact Or.inr rfl
theorem lUndo_T {d N : Nat} {h : AH} {y : Sy} {oo : Nat → Int64} {Q : AQ} (hF : isFace h y) (hO : h 139 = eL 1 oo) (hN : 140 ≤ N)  (hQ : lwQ (opUndo y ) ((iI (opUndo y ).2.1).toInt64) h N Q) : T (d + 7) 223 [vR 0, vR 139] h N Q := by
  refine T_body (I := mi_L_undo) (lv := [_, _, _]) rfl (Nat.le_of_ble_eq_true rfl) rfl ?_
  refine R_aload_n rfl rfl ?_
  refine R_iconst rfl ?_
  refine R_aload_n rfl rfl ?_
  refine R_vcall rfl rfl ⟨by omega, _, hF.1⟩ ⟨Nat.le_of_ble_eq_true rfl, Nat.le_of_ble_eq_true rfl, Nat.le_of_ble_eq_true rfl, Nat.le_of_ble_eq_true rfl⟩ (undo_C (d := d) hF (by omega)  (fun h1 hF1 f1 => aRes_w (fun q => ?_) (fun q => ?_) (fun q q2 => ?_)))
  · refine R_i2l rfl ?_
    refine R_lastore rfl (by omega) ((f1 139 (by omega)).trans hO) ⟨by omega, by omega, by omega⟩ ?_
    refine R_goto rfl ?_
    refine R_iconst rfl ?_
    exact R_ireturn rfl (fun h9 => absurd (show (0 : Nat) = 1 from h9) (by decide)) (Nat.le_of_ble_eq_true rfl) (Nat.le_of_ble_eq_true rfl) (lwQ_0 hQ hF1 f1 _ (by rw [q]; rfl) q rfl)
  · refine aThr_1 rfl (by decide) (by decide) ?_
    refine R_iconst rfl ?_
    exact R_ireturn rfl (fun h9 => absurd (show (0 : Nat) = 1 from h9) (by decide)) (Nat.le_of_ble_eq_true rfl) (Nat.le_of_ble_eq_true rfl) (lwQ_1 hQ hF1 hO f1 _ (by rw [q]; rfl) (by omega))
  · rcases opUndo_lc (y := y)  with w | w
    · exact absurd w q
    · exact absurd w q2
theorem opRunScript_lc {y : Sy} {n9 : Int} {sc : Int64} : (opRunScript y n9 sc).1 = 0 ∨ (opRunScript y n9 sc).1 = 1 := by
  unfold opRunScript
  repeat' split
  all_goals first | exact Or.inl rfl | exact Or.inr rfl
theorem lRunScript_T {d N : Nat} {h : AH} {y : Sy} {oo : Nat → Int64} {Q : AQ} (hF : isFace h y) (hO : h 139 = eL 1 oo) (hN : 140 ≤ N) {n9 : Int} {sc : Int64} (hc : inR n9) (hQ : lwQ (opRunScript y n9 sc) ((iI (opRunScript y n9 sc).2.1).toInt64) h N Q) : T (d + 32) 224 [vR 0, vI n9, vL sc, vR 139] h N Q := by
  refine T_body (I := mi_L_runScript) (lv := [_, _, _, _, _, _]) rfl (Nat.le_of_ble_eq_true rfl) rfl ?_
  refine R_aload rfl rfl ?_
  refine R_iconst rfl ?_
  refine R_aload_n rfl rfl ?_
  refine R_iload_n rfl rfl ?_
  refine R_lload_n rfl rfl ?_
  refine R_vcall rfl rfl ⟨by omega, _, hF.1⟩ ⟨Nat.le_of_ble_eq_true rfl, Nat.le_of_ble_eq_true rfl, Nat.le_of_ble_eq_true rfl, Nat.le_of_ble_eq_true rfl⟩ (runScript_C (d := d) hF (by omega) hc (fun h1 hF1 f1 => aRes_w (fun q => ?_) (fun q => ?_) (fun q q2 => ?_)))
  · refine R_i2l rfl ?_
    refine R_lastore rfl (by omega) ((f1 139 (by omega)).trans hO) ⟨by omega, by omega, by omega⟩ ?_
    refine R_goto rfl ?_
    refine R_iconst rfl ?_
    exact R_ireturn rfl (fun h9 => absurd (show (0 : Nat) = 1 from h9) (by decide)) (Nat.le_of_ble_eq_true rfl) (Nat.le_of_ble_eq_true rfl) (lwQ_0 hQ hF1 f1 _ (by rw [q]; rfl) q rfl)
  · refine aThr_1 rfl (by decide) (by decide) ?_
    refine R_iconst rfl ?_
    exact R_ireturn rfl (fun h9 => absurd (show (0 : Nat) = 1 from h9) (by decide)) (Nat.le_of_ble_eq_true rfl) (Nat.le_of_ble_eq_true rfl) (lwQ_1 hQ hF1 hO f1 _ (by rw [q]; rfl) (by omega))
  · rcases opRunScript_lc (y := y) (n9 := n9) (sc := sc) with w | w
    · exact absurd w q
    · exact absurd w q2
theorem opSimulate_lc {y : Sy} {x0 : Int64} {m9 : Int} : (opSimulate y x0 m9).1 = 0 ∨ (opSimulate y x0 m9).1 = 1 := by
  unfold opSimulate
  repeat' split
  all_goals first | exact Or.inl rfl | exact Or.inr rfl
theorem lSimulate_T {d N : Nat} {h : AH} {y : Sy} {oo : Nat → Int64} {Q : AQ} (hF : isFace h y) (hO : h 139 = eL 1 oo) (hN : 140 ≤ N) {x0 : Int64} {m9 : Int} (hc : inR m9) (hQ : lwQ (opSimulate y x0 m9) ((iI (opSimulate y x0 m9).2.1).toInt64) h N Q) : T (d + 20) 225 [vR 0, vL x0, vI m9, vR 139] h N Q := by
  refine T_body (I := mi_L_simulate) (lv := [_, _, _, _, _, _]) rfl (Nat.le_of_ble_eq_true rfl) rfl ?_
  refine R_aload rfl rfl ?_
  refine R_iconst rfl ?_
  refine R_aload_n rfl rfl ?_
  refine R_lload_n rfl rfl ?_
  refine R_iload_n rfl rfl ?_
  refine R_vcall rfl rfl ⟨by omega, _, hF.1⟩ ⟨Nat.le_of_ble_eq_true rfl, Nat.le_of_ble_eq_true rfl, Nat.le_of_ble_eq_true rfl, Nat.le_of_ble_eq_true rfl⟩ (simulate_C (d := d) hF (by omega) hc (fun h1 hF1 f1 => aRes_w (fun q => ?_) (fun q => ?_) (fun q q2 => ?_)))
  · refine R_i2l rfl ?_
    refine R_lastore rfl (by omega) ((f1 139 (by omega)).trans hO) ⟨by omega, by omega, by omega⟩ ?_
    refine R_goto rfl ?_
    refine R_iconst rfl ?_
    exact R_ireturn rfl (fun h9 => absurd (show (0 : Nat) = 1 from h9) (by decide)) (Nat.le_of_ble_eq_true rfl) (Nat.le_of_ble_eq_true rfl) (lwQ_0 hQ hF1 f1 _ (by rw [q]; rfl) q rfl)
  · refine aThr_1 rfl (by decide) (by decide) ?_
    refine R_iconst rfl ?_
    exact R_ireturn rfl (fun h9 => absurd (show (0 : Nat) = 1 from h9) (by decide)) (Nat.le_of_ble_eq_true rfl) (Nat.le_of_ble_eq_true rfl) (lwQ_1 hQ hF1 hO f1 _ (by rw [q]; rfl) (by omega))
  · rcases opSimulate_lc (y := y) (x0 := x0) (m9 := m9) with w | w
    · exact absurd w q
    · exact absurd w q2
theorem opSave_lc {y : Sy} {c : Int} : (opSave y c).1 = 0 ∨ (opSave y c).1 = 1 := by
  unfold opSave
  repeat' split
  all_goals first | exact Or.inl rfl | exact Or.inr rfl
theorem lSave_T {d N : Nat} {h : AH} {y : Sy} {oo : Nat → Int64} {Q : AQ} (hF : isFace h y) (hO : h 139 = eL 1 oo) (hN : 140 ≤ N) {c : Int} (hc : inR c) (hQ : lwQ (opSave y c) ((iI (opSave y c).2.1).toInt64) h N Q) : T (d + 5) 226 [vR 0, vI c, vR 139] h N Q := by
  refine T_body (I := mi_L_save) (lv := [_, _, _, _]) rfl (Nat.le_of_ble_eq_true rfl) rfl ?_
  refine R_aload_n rfl rfl ?_
  refine R_iconst rfl ?_
  refine R_aload_n rfl rfl ?_
  refine R_iload_n rfl rfl ?_
  refine R_vcall rfl rfl ⟨by omega, _, hF.1⟩ ⟨Nat.le_of_ble_eq_true rfl, Nat.le_of_ble_eq_true rfl, Nat.le_of_ble_eq_true rfl, Nat.le_of_ble_eq_true rfl⟩ (save_C (d := d) hF (by omega) hc (fun h1 hF1 f1 => aRes_w (fun q => ?_) (fun q => ?_) (fun q q2 => ?_)))
  · refine R_i2l rfl ?_
    refine R_lastore rfl (by omega) ((f1 139 (by omega)).trans hO) ⟨by omega, by omega, by omega⟩ ?_
    refine R_goto rfl ?_
    refine R_iconst rfl ?_
    exact R_ireturn rfl (fun h9 => absurd (show (0 : Nat) = 1 from h9) (by decide)) (Nat.le_of_ble_eq_true rfl) (Nat.le_of_ble_eq_true rfl) (lwQ_0 hQ hF1 f1 _ (by rw [q]; rfl) q rfl)
  · refine aThr_1 rfl (by decide) (by decide) ?_
    refine R_iconst rfl ?_
    exact R_ireturn rfl (fun h9 => absurd (show (0 : Nat) = 1 from h9) (by decide)) (Nat.le_of_ble_eq_true rfl) (Nat.le_of_ble_eq_true rfl) (lwQ_1 hQ hF1 hO f1 _ (by rw [q]; rfl) (by omega))
  · rcases opSave_lc (y := y) (c := c) with w | w
    · exact absurd w q
    · exact absurd w q2
theorem opRestore_lc {y : Sy} {c : Int} : (opRestore y c).1 = 0 ∨ (opRestore y c).1 = 1 ∨ (opRestore y c).1 = 2 := by
  unfold opRestore
  repeat' split
  all_goals first | exact Or.inl rfl | exact Or.inr (Or.inl rfl) | exact Or.inr (Or.inr rfl)
theorem lRestore_T {d N : Nat} {h : AH} {y : Sy} {oo : Nat → Int64} {Q : AQ} (hF : isFace h y) (hO : h 139 = eL 1 oo) (hN : 140 ≤ N) {c : Int} (hc : inR c) (hQ : lwQ (opRestore y c) ((iI (opRestore y c).2.1).toInt64) h N Q) : T (d + 9) 227 [vR 0, vI c, vR 139] h N Q := by
  refine T_body (I := mi_L_restore) (lv := [_, _, _, _]) rfl (Nat.le_of_ble_eq_true rfl) rfl ?_
  refine R_aload_n rfl rfl ?_
  refine R_iconst rfl ?_
  refine R_aload_n rfl rfl ?_
  refine R_iload_n rfl rfl ?_
  refine R_vcall rfl rfl ⟨by omega, _, hF.1⟩ ⟨Nat.le_of_ble_eq_true rfl, Nat.le_of_ble_eq_true rfl, Nat.le_of_ble_eq_true rfl, Nat.le_of_ble_eq_true rfl⟩ (restore_C (d := d) hF (by omega) hc (fun h1 hF1 f1 => aRes_w (fun q => ?_) (fun q => ?_) (fun q q2 => ?_)))
  · refine R_i2l rfl ?_
    refine R_lastore rfl (by omega) ((f1 139 (by omega)).trans hO) ⟨by omega, by omega, by omega⟩ ?_
    refine R_goto rfl ?_
    refine R_iconst rfl ?_
    exact R_ireturn rfl (fun h9 => absurd (show (0 : Nat) = 1 from h9) (by decide)) (Nat.le_of_ble_eq_true rfl) (Nat.le_of_ble_eq_true rfl) (lwQ_0 hQ hF1 f1 _ (by rw [q]; rfl) q rfl)
  · refine aThr_1 rfl (by decide) (by decide) ?_
    refine R_iconst rfl ?_
    exact R_ireturn rfl (fun h9 => absurd (show (0 : Nat) = 1 from h9) (by decide)) (Nat.le_of_ble_eq_true rfl) (Nat.le_of_ble_eq_true rfl) (lwQ_1 hQ hF1 hO f1 _ (by rw [q]; rfl) (by omega))
  · have hq2 : (opRestore y c).1 = 2 := by
      rcases opRestore_lc (y := y) (c := c) with w | w | w
      · exact absurd w q
      · exact absurd w q2
      · exact w
    refine aThr_2 rfl (by decide) (by decide) (by decide) ?_
    refine R_iconst rfl ?_
    exact R_ireturn rfl (fun h9 => absurd (show (0 : Nat) = 1 from h9) (by decide)) (Nat.le_of_ble_eq_true rfl) (Nat.le_of_ble_eq_true rfl) (lwQ_1 hQ hF1 hO f1 _ (by rw [hq2]; rfl) (by omega))
theorem rd_le (G : Gr) (em : Bool) (lim : Nat) : (rdS G em lim).1 ≤ lim := seL_le _ _ (Nat.zero_le _)
theorem hd_r {G : Gr} : ∀ (r e : Nat) (b : Int) (l : Nat), -9 ≤ b → b < e + r → -9 ≤ hdF G r e b l ∧ hdF G r e b l < e + r
  | 0, e, b, l, h1, h2 => ⟨h1, h2⟩
  | r + 1, e, b, l, h1, h2 => by
    unfold hdF
    split
    · have := hd_r (G := G) r (e + 1) (e : Int) (fcG G e) (by omega) (by omega)
      omega
    · by_cases q : b < (e : Int) + 1 + r
      · have := hd_r (G := G) r (e + 1) b l h1 (by omega)
        omega
      · omega
theorem md_r {G : Gr} : ∀ (r e : Nat) (b : Int) (l : Nat), -9 ≤ b → b < e + r → -9 ≤ mdF G r e b l ∧ mdF G r e b l < e + r
  | 0, e, b, l, h1, h2 => ⟨h1, h2⟩
  | r + 1, e, b, l, h1, h2 => by
    unfold mdF
    split
    · have := md_r (G := G) r (e + 1) (e : Int) (kpB G e) (by omega) (by omega)
      omega
    · by_cases q : b < (e : Int) + 1 + r
      · have := md_r (G := G) r (e + 1) b l h1 (by omega)
        omega
      · omega
theorem opClear_r {h : AH} {y : Sy} (hF : isFace h y) : inR (opClear y).2.1 := by
  obtain ⟨-, ⟨p, t, -, -, hn, -⟩, -⟩ := hF
  exact ⟨by show (-2147483648 : Int) ≤ ((y.2.2.2.1 : Nat) : Int); omega, by show ((y.2.2.2.1 : Nat) : Int) < 2147483648; omega⟩
theorem opErr_r {h : AH} {y : Sy} (hF : isFace h y) : inR (opErr y).2.1 := by
  obtain ⟨-, ⟨p, t, -, -, hn, -⟩, -⟩ := hF
  have := gd_le y.2.2.2.1 y.2.2.2.2 hn
  unfold opErr
  by_cases q : (gdF y.2.2.2.1 y.2.2.2.2).1 = true
  · rw [if_pos q]
    exact ⟨by show (-2147483648 : Int) ≤ -9; decide, by show (-9 : Int) < 2147483648; decide⟩
  · rw [if_neg q]
    exact ⟨by show (-2147483648 : Int) ≤ (((gdF y.2.2.2.1 y.2.2.2.2).2.1 : Nat) : Int); omega, by show (((gdF y.2.2.2.1 y.2.2.2.2).2.1 : Nat) : Int) < 2147483648; omega⟩
theorem opReadings_r {h : AH} {y : Sy} (_hF : isFace h y) : inR (opReadings y).2.1 := by
  have := rd_le y.1 false 2147483647
  exact ⟨by show (-2147483648 : Int) ≤ (((rdS y.1 false 2147483647).1 : Nat) : Int); omega, by show (((rdS y.1 false 2147483647).1 : Nat) : Int) < 2147483648; omega⟩
theorem opPossible_r {h : AH} {y : Sy} (_hF : isFace h y) : inR (opPossible y).2.1 := by
  have := rd_le y.1 true 9999
  exact ⟨by show (-2147483648 : Int) ≤ (((rdS y.1 true 9999).1 : Nat) : Int); omega, by show (((rdS y.1 true 9999).1 : Nat) : Int) < 2147483648; omega⟩
theorem opFillings_r {h : AH} {y : Sy} (hF : isFace h y) : inR (opFillings y).2.1 := by
  have hG : okG y.1 := hF.2.2.2.2.1
  have h1 : flG y.1 ≤ 8 ^ 8 := by
    unfold flG
    split
    · exact Nat.zero_le _
    · rename_i q
      have h2 := hG.2.2.2.2.1
      exact Nat.le_trans (flF_le hG _ _) (Nat.pow_le_pow_right (by omega) (by omega))
  have h2 : (8 : Nat) ^ 8 = 16777216 := by decide
  exact ⟨by show (-2147483648 : Int) ≤ ((flG y.1 : Nat) : Int); omega, by show ((flG y.1 : Nat) : Int) < 2147483648; omega⟩
theorem opMend_r {h : AH} {y : Sy} (hF : isFace h y) : inR (opMend y).2.1 := by
  have hG : okG y.1 := hF.2.2.2.2.1
  obtain ⟨hm4, hm36⟩ := hG.m
  have := md_r (G := y.1) (2 * qM y.1) 0 (-9) (kpG y.1) (by omega) (by omega)
  exact ⟨by show (-2147483648 : Int) ≤ mdF y.1 (2 * qM y.1) 0 (-9) (kpG y.1); omega, by show mdF y.1 (2 * qM y.1) 0 (-9) (kpG y.1) < 2147483648; omega⟩
theorem opHardest_r {h : AH} {y : Sy} (hF : isFace h y) : inR (opHardest y).2.1 := by
  have hG : okG y.1 := hF.2.2.2.2.1
  have h36 := nE36 hG
  have := hd_r (G := y.1) (nE y.1) 0 (-9) 9 (by omega) (by omega)
  exact ⟨by show (-2147483648 : Int) ≤ hdF y.1 (nE y.1) 0 (-9) 9; omega, by show hdF y.1 (nE y.1) 0 (-9) 9 < 2147483648; omega⟩
