/-! ===== the law: its start, and the claim out of one pure statement ===== -/
theorem lwT1 {w : Jvm.Cond} (i : Nat) (h : tables_1_1[i]? = some w) : w ∈ lw_tbl := by
  have h := List.mem_of_getElem? h
  exact List.mem_append_right _ (show w ∈ tables_1 from (List.mem_append_left _ h))
theorem lwT2 {w : Jvm.Cond} (i : Nat) (h : tables_1_2[i]? = some w) : w ∈ lw_tbl := by
  have h := List.mem_of_getElem? h
  exact List.mem_append_right _ (show w ∈ tables_1 from (List.mem_append_right _ (List.mem_append_left _ h)))
theorem lwT3 {w : Jvm.Cond} (i : Nat) (h : tables_1_3[i]? = some w) : w ∈ lw_tbl := by
  have h := List.mem_of_getElem? h
  exact List.mem_append_right _ (show w ∈ tables_1 from (List.mem_append_right _ (List.mem_append_right _ (List.mem_append_left _ h))))
theorem lwT4 {w : Jvm.Cond} (i : Nat) (h : tables_1_4[i]? = some w) : w ∈ lw_tbl := by
  have h := List.mem_of_getElem? h
  exact List.mem_append_right _ (show w ∈ tables_1 from (List.mem_append_right _ (List.mem_append_right _ (List.mem_append_right _ (h)))))
theorem str_of {s : State} {args : Array Value} {tx : String} {k cur : Nat} (hc : s.vm.findClass RX8 = some cur) (h : (Jvm.Cond.stringRef RX8 k tx).before args s = true) : ∃ sa, vk_R RX8 k tx sa s := by
  obtain ⟨_, _, _, a, -, -, -, -, -, h9⟩ := Cond.stringRef_spec hc h
  exact ⟨a, vk_R.of h h9⟩
theorem acl_of {s : State} {args : Array Value} {ty : FieldType} (hp : ∀ C, ty ≠ .object C) (h : (Jvm.Cond.arrayClass ty).before args s = true) : ∃ cA, ArrOfT s cA ty ∧ va_RA s cA ty := by
  obtain ⟨c, k, comp, h1, h2, h3⟩ := Cond.arrayClass_spec h
  refine ⟨c, fun n z => ⟨fun k h => (by cases h), k, h2, comp, h3⟩, ?_⟩
  cases ty <;> first | exact h1 | exact absurd rfl (hp _)
theorem aov_of {s : State} {args : Array Value} {C : String} (h : (Jvm.Cond.arrayOver (.object C)).before args s = true) : ∃ cA, ArrOfT s cA (.object C) ∧ va_RA s cA (.object C) := by
  obtain ⟨comp, c, k, h1, -, h3, h4, h5⟩ := Cond.arrayOver_spec h
  exact ⟨c, fun n z => ⟨fun k h => (by cases h), k, h3, comp, h4⟩, k, comp, h3, h4, h1, h5⟩
theorem tab_of {s : State} {args : Array Value} {C n : String} {f : Nat → Int} (hl : (Jvm.Cond.laysStatic C n "[I").before args s = true) (hi : (Jvm.Cond.initialized C).before args s = true) (h1 : (Jvm.Cond.arrayOf (.static C n "[I") .int).before args s = true) (h2 : (Jvm.Cond.eq (.length (.static C n "[I")) (.int 8)).before args s = true) (h3 : ∀ j : Nat, j < 8 → (Jvm.Cond.eq (.elem (.static C n "[I") (.int (Int32.ofNat j))) (.int (iI (f j)))).before args s = true) {A : Nat → Prop} (hA : ∀ a : Nat, a < s.heap.size → ¬ A a) : ∃ t, va_Z C n "[I" (.ref t) A s s.heap ∧ va_T .int t 8 (fun j => .int (iI (f j))) A s s.heap := by
  obtain ⟨t, ht, hT⟩ := va_Tof (tm := .static C n "[I") (N := 8) (f := fun j => .int (iI (f j))) (by decide) h1 (va_eqt h2) (fun j hj => va_eqt (h3 j hj)) hA
  exact ⟨t, va_Zref hl hi ht hA, hT⟩
theorem lt8 {P : Nat → Prop} (h0 : P 0) (h1 : P 1) (h2 : P 2) (h3 : P 3) (h4 : P 4) (h5 : P 5) (h6 : P 6) (h7 : P 7) : ∀ j, j < 8 → P j := by
  intro j hj
  match j, hj with
  | 0, _ => exact h0
  | 1, _ => exact h1
  | 2, _ => exact h2
  | 3, _ => exact h3
  | 4, _ => exact h4
  | 5, _ => exact h5
  | 6, _ => exact h6
  | 7, _ => exact h7
def hLaw (L : Nat) (xs : Nat → Int32) : AH := fun k => if k = aRO then eI L (fun j => (xs j).toInt) else if k = aRO + 1 then eI 8 stepRows else if k = aRO + 2 then eI 8 stepCols else eO 0 []
def qLaw : AQ := fun r _ _ => r = .inl (some (vI 1))
theorem lw_amb {p : Program} {s : State} {m : MethodId} {meth : Method} {c : Code} {b L : Nat} {xs : Nat → Int32} (C0 : lw_At p s m meth c b L xs) : ∃ E : AEnv, Amb E s ∧ g0 E = s.heap.size ∧ gb E = b ∧ gL E = L ∧ gx E = xs := by
  obtain ⟨hx, hb, hr, hml, hown, hts, hX, hbl, hlocks, hgv⟩ := C0
  have hfl := flat_of_before _ hgv
  have hA : ∀ a : Nat, a < s.heap.size → ¬ (s.heap.size ≤ a) := fun a h => Nat.not_le.mpr h
  have hG : ∀ w ∈ wG, w.before #[Value.ref b] s = true := fun w hw => hts w (List.mem_filter.mp hw).1
  obtain ⟨c0, i0, k0⟩ := u_known (C := RX1) (T := TX1) (N := 4) (n := 4) hG cok_0.1 (hts _ (lwT1 233 (by decide +kernel)))
  obtain ⟨c1, i1, k1⟩ := u_known (C := RX2) (T := TX2) (N := 7) (n := 7) hG cok_1.1 (hts _ (lwT1 205 (by decide +kernel)))
  obtain ⟨c2, i2, k2⟩ := u_known (C := RX3) (T := TX3) (N := 5) (n := 5) hG cok_2.1 (hts _ (lwT1 179 (by decide +kernel)))
  obtain ⟨c3, i3, k3⟩ := u_known (C := RX4) (T := TX4) (N := 10) (n := 10) hG cok_3.1 (hts _ (lwT1 99 (by decide +kernel)))
  obtain ⟨c4, i4, k4⟩ := u_known (C := RX6) (T := TX6) (N := 10) (n := 10) hG cok_4.1 (hts _ (lwT1 34 (by decide +kernel)))
  obtain ⟨c5, i5, k5⟩ := u_known (C := RX7) (T := TX7) (N := 4) (n := 4) hG cok_5.1 (hts _ (lwT1 28 (by decide +kernel)))
  obtain ⟨c6, i6, k6⟩ := u_known (C := RX8) (T := TX8) (N := 6) (n := 6) hG cok_6.1 (hts _ (lwT1 20 (by decide +kernel)))
  obtain ⟨cI, hI1, hI2⟩ := acl_of (s := s) (ty := .int) (fun C h => by cases h) (hts _ (lwT1 83 (by decide +kernel)))
  obtain ⟨cZ, hZ1, hZ2⟩ := acl_of (s := s) (ty := .boolean) (fun C h => by cases h) (hts _ (lwT1 177 (by decide +kernel)))
  have hover : (Jvm.Cond.arrayOver (.object RX6)).before #[Value.ref b] s = true := hts _ (lwT1 185 (by decide +kernel))
  obtain ⟨cS, hS1, hS2⟩ := aov_of hover
  obtain ⟨tr, zr, ar⟩ := tab_of (C := RX8) (n := "STEP_ROWS") (f := stepRows) (A := fun q => s.heap.size ≤ q) (hts _ (lwT2 212 (by decide +kernel))) (hts _ (lwT1 1 (by decide +kernel))) (hfl _ (by decide +kernel)) (hfl _ (by decide +kernel)) (lt8 (hfl _ (by decide +kernel)) (hfl _ (by decide +kernel)) (hfl _ (by decide +kernel)) (hfl _ (by decide +kernel)) (hfl _ (by decide +kernel)) (hfl _ (by decide +kernel)) (hfl _ (by decide +kernel)) (hfl _ (by decide +kernel))) hA
  obtain ⟨tcc, zcc, acc⟩ := tab_of (C := RX8) (n := "STEP_COLUMNS") (f := stepCols) (A := fun q => s.heap.size ≤ q) (hts _ (lwT2 214 (by decide +kernel))) (hts _ (lwT1 1 (by decide +kernel))) (hfl _ (by decide +kernel)) (hfl _ (by decide +kernel)) (lt8 (hfl _ (by decide +kernel)) (hfl _ (by decide +kernel)) (hfl _ (by decide +kernel)) (hfl _ (by decide +kernel)) (hfl _ (by decide +kernel)) (hfl _ (by decide +kernel)) (hfl _ (by decide +kernel)) (hfl _ (by decide +kernel))) hA
  refine ⟨((fun k => match k with
    | 0 => c0
    | 1 => c1
    | 2 => c2
    | 3 => c3
    | 4 => c4
    | 5 => c5
    | _ => c6, fun k => match k with
    | 0 => i0
    | 1 => i1
    | 2 => i2
    | 3 => i3
    | 4 => i4
    | 5 => i5
    | _ => i6), (cI, cZ, cI, cS), (b, tr, tcc), (L, xs), s.heap.size), ⟨⟨Nat.le_refl _, ⟨hX, hbl, fun q => absurd q (Nat.not_le.mpr hbl)⟩, ar, acc⟩, ⟨?_, ?_⟩, va_AO.of hover, ?_, ⟨va_Nw.of rfl (hts _ (lwT2 211 (by decide +kernel))), zr⟩, ⟨va_Nw.of rfl (hts _ (lwT2 213 (by decide +kernel))), zcc⟩, ?_, ?_, ?_, ?_, ?_, ?_⟩, rfl, rfl, rfl, rfl⟩
  · intro k q hq
    match k, hq with
    | 0, hq => cases hq; exact k0
    | 1, hq => cases hq; exact k1
    | 2, hq => cases hq; exact k2
    | 3, hq => cases hq; exact k3
    | 4, hq => cases hq; exact k4
    | 5, hq => cases hq; exact k5
    | 6, hq => cases hq; exact k6
    | n + 7, hq => simp [vwCl] at hq
  · intro k q hq
    match k, hq with
    | 0, hq => cases hq; exact ⟨hI1, hI2⟩
    | 1, hq => cases hq; exact ⟨hZ1, hZ2⟩
    | 2, hq => cases hq; exact ⟨hI1, hI2⟩
    | 3, hq => cases hq; exact ⟨hS1, hS2⟩
    | n + 4, hq => simp at hq
  · exact List.forall_mem_cons.mpr ⟨va_Nw.of rfl (hts _ (lwT1 186 (by decide +kernel))), List.forall_mem_cons.mpr ⟨va_Nw.of rfl (hts _ (lwT1 105 (by decide +kernel))), List.forall_mem_cons.mpr ⟨va_Nw.of rfl (hts _ (lwT1 35 (by decide +kernel))), List.forall_mem_cons.mpr ⟨va_Nw.of rfl (hts _ (lwT4 68 (by decide +kernel))), List.forall_mem_cons.mpr ⟨va_Nw.of rfl (hts _ (lwT1 29 (by decide +kernel))), List.forall_mem_cons.mpr ⟨va_Nw.of rfl (hts _ (lwT1 206 (by decide +kernel))), List.forall_mem_cons.mpr ⟨va_Nw.of rfl (hts _ (lwT1 234 (by decide +kernel))), fun _ h => absurd h List.not_mem_nil⟩⟩⟩⟩⟩⟩⟩
  · exact vx_Zqof (hts _ (lwT2 88 (by decide +kernel))) (hts _ (lwT1 9 (by decide +kernel))) (hfl _ (by decide +kernel)) hA
  · exact vx_Zqof (hts _ (lwT2 90 (by decide +kernel))) (hts _ (lwT1 9 (by decide +kernel))) (hfl _ (by decide +kernel)) hA
  · exact List.forall_mem_cons.mpr ⟨str_of k6.2.1 (hts _ (lwT4 28 (by decide +kernel))), List.forall_mem_cons.mpr ⟨str_of k6.2.1 (hts _ (lwT4 33 (by decide +kernel))), List.forall_mem_cons.mpr ⟨str_of k6.2.1 (hts _ (lwT4 104 (by decide +kernel))), List.forall_mem_cons.mpr ⟨str_of k6.2.1 (hts _ (lwT2 102 (by decide +kernel))), List.forall_mem_cons.mpr ⟨str_of k6.2.1 (hts _ (lwT3 209 (by decide +kernel))), List.forall_mem_cons.mpr ⟨str_of k6.2.1 (hts _ (lwT2 133 (by decide +kernel))), List.forall_mem_cons.mpr ⟨str_of k6.2.1 (hts _ (lwT2 228 (by decide +kernel))), List.forall_mem_cons.mpr ⟨str_of k6.2.1 (hts _ (lwT3 21 (by decide +kernel))), List.forall_mem_cons.mpr ⟨str_of k6.2.1 (hts _ (lwT3 48 (by decide +kernel))), List.forall_mem_cons.mpr ⟨str_of k6.2.1 (hts _ (lwT3 72 (by decide +kernel))), List.forall_mem_cons.mpr ⟨str_of k6.2.1 (hts _ (lwT3 11 (by decide +kernel))), List.forall_mem_cons.mpr ⟨str_of k6.2.1 (hts _ (lwT3 228 (by decide +kernel))), fun _ h => absurd h List.not_mem_nil⟩⟩⟩⟩⟩⟩⟩⟩⟩⟩⟩⟩
  · exact List.forall_mem_cons.mpr ⟨va_Nw.of rfl (hts _ (lwT2 63 (by decide +kernel))), List.forall_mem_cons.mpr ⟨va_Nw.of rfl (hts _ (lwT3 65 (by decide +kernel))), List.forall_mem_cons.mpr ⟨va_Nw.of rfl (hts _ (lwT3 4 (by decide +kernel))), fun _ h => absurd h List.not_mem_nil⟩⟩⟩
  · trivial
  · exact List.forall_mem_cons.mpr ⟨va_Nw.of rfl (hts _ (lwT2 65 (by decide +kernel))), List.forall_mem_cons.mpr ⟨va_Nw.of rfl (hts _ (lwT2 67 (by decide +kernel))), List.forall_mem_cons.mpr ⟨va_Nw.of rfl (hts _ (lwT2 69 (by decide +kernel))), fun _ h => absurd h List.not_mem_nil⟩⟩⟩
theorem chk_nm {own : String} {cc : ByteArray} {nL : Nat} {nm nm' : String} {I : MI} {pc : Nat} {i : Instr} {nx : Nat} {tg : List Nat} (hp : ∀ x, i ≠ .putfield x) (h : chk own cc nL nm I pc i nx tg = true) : chk own cc nL nm' I pc i nx tg = true := by
  cases i <;> first | exact h | exact absurd rfl (hp _)
theorem law_nop : mi_L_law.code.all (fun r => match r.2.1 with
  | .putfield _ => false
  | _ => true) = true := by decide +kernel
theorem mo_law (nm : String) : MOk RL cL_law 14 nm mi_L_law [] := by
  obtain ⟨k1, k2⟩ := mo_L_law
  refine ⟨fun pc i nx tg hc ht => chk_nm (fun x hx => ?_) (k1 pc i nx tg hc ht), k2⟩
  have h1 := List.all_eq_true.mp law_nop _ (lk_mem _ hc)
  rw [hx] at h1
  cases h1
/-- the claim out of one statement about the small machine -/
theorem law_from {p : Program} {e : Env} {s : State} {m : MethodId} {below : List Frame} {meth : Method} {c : Code} (l : Launch) (hflags : l.flags = flags0) {b L : Nat} {xs : Nat → Int32} (C0 : lw_At p s m meth c b L xs) {d : Nat} (hd : d ≤ 2000) (hp : Run mi_L_law (T d) qLaw 0 (aEnt 14 [vR aRO]) [] (hLaw L xs) 0 0 0) : W p l e room_1 s m #[Value.ref b] below meth c s.heap [] 0 0 (lw_Z below #[Value.ref b] s) (entryFrame m ([Value.ref b] : List Value).toArray 14) := by
  obtain ⟨E, hA, e0, e1, e2, e3⟩ := lw_amb C0
  obtain ⟨hx, hb, hr, hml, hown, hts, hX, hbl, hlocks, hgv⟩ := C0
  have hG : ∀ w ∈ wG, w.before #[Value.ref b] s = true := fun w hw => hts w (List.mem_filter.mp hw).1
  have hst : l.stackTraces = false := by
    show Launch.stackTraces l = false
    unfold Launch.stackTraces
    rw [hflags]
    decide +kernel
  obtain ⟨ad, hd0, hd1, hd2⟩ : ∃ ad : Nat → Nat, ad aRO = gb E ∧ ad (aRO + 1) = gr E ∧ ad (aRO + 2) = gc E :=
    ⟨fun k => if k = aRO then gb E else if k = aRO + 1 then gr E else gc E, by simp, by simp, by simp⟩
  have hE : Ends p l e room_1 s m #[Value.ref b] below meth c (lw_Z below #[Value.ref b] s) E ad 0 14 mi_L_law (T d) qLaw := by
    refine ⟨fun pc lv st h N k n X hth => ?_, fun pc X h N k n ce q ad H locs ls rest _ hQ => ?_, fun pc i nx tg lv st h N k n hc hi hs => ?_⟩
    · have h9 : lk mi_L_law.thr pc = none := rfl
      rw [h9] at hth
      cases hth
    · have hQ : (Sum.inr X : ARes) = .inl (some (vI 1)) := hQ
      cases hQ
    · have hk := (mo_law "law").1 _ _ _ _ hc rfl
      obtain ⟨hdec, -, -⟩ := chk_spec hk (by
        intro d lo hh offs hz
        rw [hz] at hi
        rcases hi with hi | hi | hi | hi <;> cases hi)
      intro ad1 H locs ls hR hL
      rcases hi with rfl | rfl | rfl | rfl
      · simp only [stepI] at hs
        split at hs
        case h_2 => exact hs.elim
        rename_i a
        obtain ⟨-, h2, h3, h4⟩ := hs
        have h2 : (Sum.inl (some (vI a)) : ARes) = .inl (some (vI 1)) := h2
        have ha : a = 1 := Sum.inl.inj (Option.some.inj (Sum.inl.inj h2))
        subst ha
        refine va_forget (fun q hq => ?_) ?_
        · have := hR.2.1.2.2 q hq
          have h9 : g0 E ≤ q.base := this
          rw [e0] at h9
          exact h9
        · refine W.widen (k := 600130) (n := 7301079) h3 h4 ?_
          exact lw_ret hx hb hr hlocks hdec
      · simp only [stepI] at hs
        split at hs
        case h_2 => exact hs.elim
        obtain ⟨h2, -⟩ := hs
        cases h2
      · simp only [stepI] at hs
        split at hs
        case h_2 => exact hs.elim
        obtain ⟨h2, -⟩ := hs
        cases h2
      · simp only [stepI] at hs
        split at hs
        case h_2 => exact hs.elim
        obtain ⟨h2, -⟩ := hs
        cases h2
  have hclo := am_clo (own := RL) (cc := cL_law) (nL := 14) (hh := []) (R := room_1) (Qf := lw_Z below #[Value.ref b] s) (ad0 := ad) (N0 := 0) (I := mi_L_law) (Q := qLaw) (d := d) (C := T d) (below := below) (e := e) hx hb hml hown hG cok acw hA (by show d + 9 ≤ 2048; omega) (by show 140 + 40 * d ≤ 84000; omega) (Nat.le_refl _) (Nat.le_refl _) (mo_law meth.name) (fun h => absurd rfl h) (fun y as h N Qy hc => T_sound hst E gst d y as h N Qy hc) hE
  have hP : va_P (gD E) vwCl (wl E ad (hLaw L xs) 0) s.heap := fun k q h => by simp [wl] at h
  have hD : va_D (gA E) (wl E ad (hLaw L xs) 0) := ⟨fun i j p q h => by simp [wl] at h, fun k q h => by simp [wl] at h⟩
  have hRel : Rel E s ad 0 ad (hLaw L xs) 0 s.heap [] := ⟨⟨hP, hD, Nat.zero_le _, hd0, hd1, hd2, by rw [e2, e3]; rfl, rfl, rfl⟩, va_S.rf, Nat.le_refl _, fun _ _ => rfl⟩
  have hLh := aEnt_Lh (ad := ad) (as := [vR aRO]) (nL := 14) (by decide)
  have hgo := hp _ hclo ad s.heap [] _ hRel hLh
  rw [lg_entry_eq]
  have e9 : [vR aRO].map (cv ad) = [Value.ref b] := by
    show [va_rf (some (ad aRO))] = _
    rw [hd0, e1]
    rfl
  rw [e9] at hgo
  exact hgo
