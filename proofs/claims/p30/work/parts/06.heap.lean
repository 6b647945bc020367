/-! ===== rows of the heap: fields, arrays, what is made ===== -/
/-- what is decided of an object's kind -/
def ClOk (ci : Nat) (q : vw_C) : Prop :=
  (∀ w ∈ u_ws q.1 q.2.1 q.2.2, w ∈ wG) ∧ (∀ k, k < q.2.2 → parseFieldDescriptor (q.2.1 k).2.2.1 = some (aTy ci k)) ∧ (∀ a, a < q.2.2 → ∀ b, b < q.2.2 → a ≠ b → (q.2.1 a).2.1 ≠ (q.2.1 b).2.1) ∧ q.2.2 = aNf ci ∧ ∀ k, k < q.2.2 → ∀ ad, cv ad (aDef (aTy ci k)) = defaultValue (aTy ci k)
theorem RelS.put {E : AEnv} {ad : Nat → Nat} {h : AH} {N a : Nat} {H H1 : Heap} {e : AE} (hR : RelS E ad h N H) (ha : a < N) (hP : va_P (gD E) vwCl (wl E ad (va_up h a e) N) H1) (hD : va_D (gA E) (wl E ad (va_up h a e) N)) : RelS E ad (va_up h a e) N H1 := by
  obtain ⟨-, -, h3, h4, h5, h6, h7, h8, h9⟩ := hR
  exact ⟨hP, hD, h3, h4, h5, h6, by rw [va_up_ne _ _ (by omega)]; exact h7, by rw [va_up_ne _ _ (by omega)]; exact h8, by rw [va_up_ne _ _ (by omega)]; exact h9⟩
theorem Rel.put {E : AEnv} {s : State} {ad0 ad : Nat → Nat} {h : AH} {N0 N a : Nat} {H H1 : Heap} {locs locs1 : List Loc} {e : AE} (hR : Rel E s ad0 N0 ad h N H locs) (ha : a < N) (hP : va_P (gD E) vwCl (wl E ad (va_up h a e) N) H1) (hD : va_D (gA E) (wl E ad (va_up h a e) N)) (hS : va_S (gA E) s.heap H1 locs1) : Rel E s ad0 N0 ad (va_up h a e) N H1 locs1 :=
  ⟨hR.1.put ha hP hD, hS, hR.2.2.1, hR.2.2.2⟩
theorem Rel.push {E : AEnv} {s : State} {ad0 ad : Nat → Nat} {h : AH} {N0 N q : Nat} {H H1 : Heap} {locs : List Loc} {e : AE} {x : va_E} (hR : Rel E s ad0 N0 ad h N H locs) (hN : N < aRO) (hw : wfH N h) (hx : x = ce E (va_up ad N q) e) (hP : va_P (gD E) vwCl (wl E ad h N ++ [(q, x)]) H1) (hD : va_D (gA E) (wl E ad h N ++ [(q, x)])) (hS : va_S (gA E) s.heap H1 locs) : Rel E s ad0 N0 (va_up ad N q) (va_up h N e) (N + 1) H1 locs := by
  rw [wl_push hN hw hx] at hP hD
  obtain ⟨⟨-, -, h3, h4, h5, h6, h7, h8, h9⟩, -, h11, h12⟩ := hR
  refine ⟨⟨hP, hD, by omega, by rw [va_up_ne _ _ (by omega)]; exact h4, by rw [va_up_ne _ _ (by omega)]; exact h5, by rw [va_up_ne _ _ (by omega)]; exact h6, by rw [va_up_ne _ _ (by omega)]; exact h7, by rw [va_up_ne _ _ (by omega)]; exact h8, by rw [va_up_ne _ _ (by omega)]; exact h9⟩, hS, by omega, fun k hk => ?_⟩
  rw [va_up_ne _ _ (by omega)]
  exact h12 k (by omega)
theorem fit_cv {ty : FieldType} {v : AV} {ad : Nat → Nat} (h : aFit ty v) : narrow ty (cv ad v) = cv ad v ∧ fits ty (cv ad v) = true := by
  rcases v with z | x | r | r <;> cases ty <;> first | exact h.elim | exact ⟨rfl, rfl⟩ | (rcases h with h | h <;> subst h <;> exact ⟨rfl, rfl⟩)
theorem Lh.push {ad : Nat → Nat} {ls : Array Slot} {nL N q : Nat} {lv : AL} {st : List AV} (h : Lh ad ls nL lv) (hN : N < aRO) (hw : wfS N lv st) : Lh (va_up ad N q) ls nL lv := by
  refine h.moved (fun i v hv => cv_wf hN ?_)
  have hm : (some v) ∈ lv := by
    have hl := aLd_lt hv
    unfold aLd at hv
    rw [List.getD_eq_getElem?_getD] at hv
    cases hg : lv[i]? with
    | none => rw [hg] at hv; cases hv
    | some o =>
      rw [hg] at hv
      have hv : o = some v := hv
      exact hv ▸ List.mem_of_getElem? hg
  exact hw.1 _ hm _ rfl
theorem st_push {ad : Nat → Nat} {N q : Nat} {lv : AL} {st : List AV} (hN : N < aRO) (hw : wfS N lv st) : st.map (cv (va_up ad N q)) = st.map (cv ad) :=
  List.map_congr_left (fun v hv => cv_wf hN (hw.2 v hv))
theorem aSw_at {J : Nat → Prop} {a : Int} : ∀ (ts : List Nat) (lo : Int) (i t : Nat), aSw J a lo ts → ts[i]? = some t → a = lo + i → J t
  | [], lo, i, t, _, h, _ => by simp at h
  | u :: ts, lo, 0, t, hs, h, e => by
    simp at h
    subst h
    exact hs.1 (by omega)
  | u :: ts, lo, i + 1, t, hs, h, e => by
    rw [List.getElem?_cons_succ] at h
    exact aSw_at ts (lo + 1) i t hs.2 h (by omega)
section AMH
variable {p : Program} {l : Launch} {e : Env} {R : Room} {s : State} {m : MethodId} {args : Array Value} {below : List Frame} {meth : Method} {c : Code} {Qf : State → Prop}
variable {cc : ByteArray} {E : AEnv} {ad0 : Nat → Nat} {N0 nL pc : Nat} {lv : AL} {st r : List AV} {h : AH} {N k n : Nat}
theorem r_switch (hx : p.tables.exec = Jvm.exec) (hb : c.code = cc) {dflt lo hi : Int} {offs : Array Int} {len t : Nat} {ts : List Nat} {a : Int} (ha : inR a) (hd : decode cc pc = .ok (.tableswitch dflt lo hi offs, len)) (h0 : (pc : Int) + dflt = (t : Int)) (hz : offs.size = ts.length ∧ (ts.length : Int) = hi - lo + 1) (ht : ∀ (i : Nat) (o : Int) (u : Nat), offs[i]? = some o → ts[i]? = some u → (pc : Int) + o = (u : Int))
    (h1 : a < lo ∨ hi < a → amJ p l e R s m args below meth c Qf E ad0 N0 nL t lv r h N k n) (h2 : aSw (fun u => amJ p l e R s m args below meth c Qf E ad0 N0 nL u lv r h N k n) a lo ts) : amJ p l e R s m args below meth c Qf E ad0 N0 nL pc lv (vI a :: r) h N k n := by
  intro ad H locs ls hR hL
  have ea := iI_toInt ha
  by_cases hq : a < lo ∨ hi < a
  · exact lv_tableOut (x := iI a) hx hb hd (by rw [ea]; exact hq) h0 (h1 hq ad H locs ls hR hL)
  · have hi : (a - lo).toNat < ts.length := by omega
    have e1 : offs[(a - lo).toNat]? = some offs[(a - lo).toNat] := Array.getElem?_eq_getElem (by omega)
    have e2 : ts[(a - lo).toNat]? = some ts[(a - lo).toNat] := List.getElem?_eq_getElem hi
    refine lv_tableIn (x := iI a) hx hb hd (by rw [ea]; omega) (by rw [ea]; omega) (by rw [ea]; exact e1) (ht _ _ _ e1 e2) ?_
    exact aSw_at ts lo _ _ h2 e2 (by omega) ad H locs ls hR hL
theorem ro_len {t n9 : Nat} {f : Nat → Value} {H : Heap} {locs : List Loc} {ls : Array Slot} {rest : List Value} (hx : p.tables.exec = Jvm.exec) (hb : c.code = cc) (hT : va_T .int t n9 f (gA E) s s.heap) (hS : va_S (gA E) s.heap H locs) (hd : decode cc pc = .ok (.arraylength, 1)) (kk : W p l e R s m args below meth c H locs k n Qf (F0 m (pc + 1) ls (.int (Int32.ofNat n9) :: rest))) : W p l e R s m args below meth c H locs k n Qf (F0 m pc ls (.ref t :: rest)) := by
  obtain ⟨cell, h1, h2, h3, h4, h5, h6, h7⟩ := hT
  exact W.alen (n := Int32.ofNat n9) hx hb (by rw [hS.2.1 t (Array.getElem?_eq_some_iff.mp h1).1 h7]; exact h1) h2 h5 rfl rfl hd kk
theorem r_getfield (hx : p.tables.exec = Jvm.exec) (hb : c.code = cc) (hG : ∀ w ∈ wG, w.before args s = true) (hCl : ∀ ci q, vwCl[ci]? = some q → ClOk ci q) (hK : va_K (gD E) vwCl (gT E) s) {own : String} (hown : s.vm.findClass own = some m.cls) {x ci j a : Nat} {fs : List AV} {v : AV} (hf : ∃ q, vwCl[ci]? = some q ∧ j < q.2.2 ∧ Jvm.Cond.fieldLink own x (q.2.1 j).1 (q.2.1 j).2.1 (q.2.1 j).2.2.1 ∈ wG) (hd : decode cc pc = .ok (.getfield x, 3)) (ha : a < N) (he : h a = eO ci fs) (hv : fs[j]? = some v) (hj : amJ p l e R s m args below meth c Qf E ad0 N0 nL (pc + 3) lv (v :: r) h N k n) : amJ p l e R s m args below meth c Qf E ad0 N0 nL pc lv (vR a :: r) h N k n := by
  intro ad H locs ls hR hL
  obtain ⟨⟨C, T, Nn⟩, hq, hjn, hw⟩ := hf
  exact va_get hx hb hG (hCl _ _ hq).1 hown hK hR.1.1 a (fs := fs.map (cv ad)) (by rw [wl_get ha, he]; rfl) hq j hjn (hG _ hw) (fun _ h => h) (v := cv ad v) (by rw [List.getElem?_map, hv]; rfl) hd (hj ad H locs ls hR hL)

theorem r_putfield (hx : p.tables.exec = Jvm.exec) (hb : c.code = cc) (hG : ∀ w ∈ wG, w.before args s = true) (hCl : ∀ ci q, vwCl[ci]? = some q → ClOk ci q) (hK : va_K (gD E) vwCl (gT E) s) {own : String} (hown : s.vm.findClass own = some m.cls) {x ci j a : Nat} {fs : List AV} {v : AV} (hf : ∃ q, vwCl[ci]? = some q ∧ j < q.2.2 ∧ Jvm.Cond.fieldLink own x (q.2.1 j).1 (q.2.1 j).2.1 (q.2.1 j).2.2.1 ∈ wG ∧ ((q.2.1 j).2.2.2 = true → meth.name = "<init>" ∧ (q.2.1 j).1 = own)) (hd : decode cc pc = .ok (.putfield x, 3)) (ha : a < N) (he : h a = eO ci fs) (hl : j < fs.length) (hfit : aFit (aTy ci j) v) (hj : amJ p l e R s m args below meth c Qf E ad0 N0 nL (pc + 3) lv r (va_up h a (eO ci (fs.set j v))) N k n) : amJ p l e R s m args below meth c Qf E ad0 N0 nL pc lv (v :: vR a :: r) h N k n := by
  intro ad H locs ls hR hL
  obtain ⟨⟨C, T, Nn⟩, hq, hjn, hw, hfin⟩ := hf
  obtain ⟨c1, c2, c3, c4, -⟩ := hCl _ _ hq
  obtain ⟨f1, f2⟩ := fit_cv (ad := ad) hfit
  have hset : ∀ X : va_W, X = (wl E ad h N).set a (ad a, .inr (ci, (fs.map (cv ad)).set j (cv ad v))) → X = wl E ad (va_up h a (eO ci (fs.set j v))) N := by
    intro X hX
    rw [hX, ← wl_set]
    simp only [ce, List.map_set]
  by_cases hz : (T j).2.2.2 = true
  · obtain ⟨g1, g2⟩ := hfin hz
    exact va_putF hx hb hG c1 (aTy ci) c2 c3 hown hK hR.1.1 hR.1.2.1 hR.2.1 a (fs := fs.map (cv ad)) (by rw [wl_get ha, he]; rfl) hq j hjn (hG _ hw) (fun _ h => h) hz g1 g2 (c2 j hjn) f1 f2 (by rw [List.length_map]; exact hl) hd
      (fun H1 locs1 hP hD hS => hj ad H1 locs1 ls (hR.put ha (by rw [← hset _ rfl]; exact hP) (by rw [← hset _ rfl]; exact hD) hS) hL)
  · exact va_put hx hb hG c1 (aTy ci) c2 c3 hown hK hR.1.1 hR.1.2.1 hR.2.1 a (fs := fs.map (cv ad)) (by rw [wl_get ha, he]; rfl) hq j hjn (hG _ hw) (fun _ h => h) (by simpa using hz) (c2 j hjn) f1 f2 (by rw [List.length_map]; exact hl) hd
      (fun H1 locs1 hP hD hS => hj ad H1 locs1 ls (hR.put ha (by rw [← hset _ rfl]; exact hP) (by rw [← hset _ rfl]; exact hD) hS) hL)

theorem r_iaload (hx : p.tables.exec = Jvm.exec) (hb : c.code = cc) (hK : va_K (gD E) vwCl (gT E) s) (hAm : AmbH E s) {a mm : Nat} {i : Int} {f : Nat → Int} (hd : decode cc pc = .ok (.iaload, 1)) (ha : aRd N a) (he : h a = eI mm f) (hi : 0 ≤ i ∧ i < mm ∧ mm < 2147483648) (hj : amJ p l e R s m args below meth c Qf E ad0 N0 nL (pc + 1) lv (vI (f i.toNat) :: r) h N k n) : amJ p l e R s m args below meth c Qf E ad0 N0 nL pc lv (vI i :: vR a :: r) h N k n := by
  intro ad H locs ls hR hL
  have hin := iI_in hi.1 hi.2.1 hi.2.2
  have ec : (iI i).toNatClampNeg = i.toNat := iI_cl hi.1 (by omega)
  rcases ha with ha | ha | ha | ha
  · refine va_iald (f := fun j => iI (f j)) hx hb hK hR.1.1 a 0 (by rw [wl_get ha, he]; rfl) rfl hin hd ?_
    rw [ec]
    exact hj ad H locs ls hR hL
  · obtain ⟨-, -, -, e4, -, -, e7, -, -⟩ := hR.1
    rw [ha, e7] at he
    cases he
    have := va_sld hx hb (rest := r.map (cv ad)) (ls := ls) hAm.2.1.1 hAm.2.1.2.1 hAm.2.1.2.2 hR.2.1 hin hd (by
      rw [ec]
      have := hj ad H locs ls hR hL
      simp only [List.map_cons, cv, iI_of] at this
      exact this)
    rw [← e4, ← ha] at this
    exact this
  · obtain ⟨-, -, -, -, e4, -, -, e7, -⟩ := hR.1
    rw [ha, e7] at he
    cases he
    have := va_ti hx hb (rest := r.map (cv ad)) (ls := ls) hAm.2.2.1 hR.2.1 hin (v := .int (iI (stepRows i.toNat))) (by rw [ec]) hd (hj ad H locs ls hR hL)
    rw [← e4, ← ha] at this
    exact this
  · obtain ⟨-, -, -, -, -, e4, -, -, e7⟩ := hR.1
    rw [ha, e7] at he
    cases he
    have := va_ti hx hb (rest := r.map (cv ad)) (ls := ls) hAm.2.2.2 hR.2.1 hin (v := .int (iI (stepCols i.toNat))) (by rw [ec]) hd (hj ad H locs ls hR hL)
    rw [← e4, ← ha] at this
    exact this

theorem r_baload (hx : p.tables.exec = Jvm.exec) (hb : c.code = cc) (hK : va_K (gD E) vwCl (gT E) s) {a mm : Nat} {i : Int} {f : Nat → Int} (hd : decode cc pc = .ok (.baload, 1)) (ha : a < N) (he : h a = eZ mm f) (hi : 0 ≤ i ∧ i < mm ∧ mm < 2147483648) (hj : amJ p l e R s m args below meth c Qf E ad0 N0 nL (pc + 1) lv (vI (f i.toNat) :: r) h N k n) : amJ p l e R s m args below meth c Qf E ad0 N0 nL pc lv (vI i :: vR a :: r) h N k n := by
  intro ad H locs ls hR hL
  have hin := iI_in hi.1 hi.2.1 hi.2.2
  have ec : (iI i).toNatClampNeg = i.toNat := iI_cl hi.1 (by omega)
  refine va_zald (f := (fun j => iI (f j))) hx hb hK hR.1.1 a 1 (by rw [wl_get ha, he]; rfl) rfl hin hd ?_
  rw [ec]
  exact hj ad H locs ls hR hL

theorem r_aaload (hx : p.tables.exec = Jvm.exec) (hb : c.code = cc) (hK : va_K (gD E) vwCl (gT E) s) {a mm : Nat} {i : Int} {f : Nat → Option Nat} (hd : decode cc pc = .ok (.aaload, 1)) (ha : a < N) (he : h a = eR mm f) (hi : 0 ≤ i ∧ i < mm ∧ mm < 2147483648) (hj : amJ p l e R s m args below meth c Qf E ad0 N0 nL (pc + 1) lv (vF (f i.toNat) :: r) h N k n) : amJ p l e R s m args below meth c Qf E ad0 N0 nL pc lv (vI i :: vR a :: r) h N k n := by
  intro ad H locs ls hR hL
  have hin := iI_in hi.1 hi.2.1 hi.2.2
  have ec : (iI i).toNatClampNeg = i.toNat := iI_cl hi.1 (by omega)
  refine va_aldq (f := fun j => (f j).map ad) hx hb hK hR.1.1 a 3 (by rw [wl_get ha, he]; rfl) rfl hin hd ?_
  rw [ec]
  exact hj ad H locs ls hR hL

theorem r_iastore (hx : p.tables.exec = Jvm.exec) (hb : c.code = cc) (hK : va_K (gD E) vwCl (gT E) s) {a mm : Nat} {i : Int} {z : Int} {f : Nat → Int} (hd : decode cc pc = .ok (.iastore, 1)) (ha : a < N) (he : h a = eI mm f) (hi : 0 ≤ i ∧ i < mm ∧ mm < 2147483648) (hj : amJ p l e R s m args below meth c Qf E ad0 N0 nL (pc + 1) lv r (va_up h a (eI mm (va_up f i.toNat z))) N k n) : amJ p l e R s m args below meth c Qf E ad0 N0 nL pc lv (vI z :: vI i :: vR a :: r) h N k n := by
  intro ad H locs ls hR hL
  have hin := iI_in hi.1 hi.2.1 hi.2.2
  have ec : (iI i).toNatClampNeg = i.toNat := iI_cl hi.1 (by omega)
  have hset : (wl E ad h N).set a (ad a, .inl (gI E, mm, .inl (upd (fun j => iI (f j)) (iI i).toNatClampNeg (iI z)))) = wl E ad (va_up h a (eI mm (va_up f i.toNat z))) N := by
    rw [← wl_set, ec]
    have : upd (fun j => iI (f j)) i.toNat (iI z) = fun j => iI (va_up f i.toNat z j) := by
      funext q
      simp only [upd, va_up]
      split <;> rfl
    rw [this]
    rfl
  exact va_iast (f := fun j => iI (f j)) (x := iI z) hx hb hK hR.1.1 hR.1.2.1 hR.2.1 a 0 (by rw [wl_get ha, he]; rfl) rfl hin hd
    (fun H1 locs1 hP hD hS => hj ad H1 locs1 ls (hR.put ha (by rw [← hset]; exact hP) (by rw [← hset]; exact hD) hS) hL)

theorem r_bastore (hx : p.tables.exec = Jvm.exec) (hb : c.code = cc) (hK : va_K (gD E) vwCl (gT E) s) {a mm : Nat} {i : Int} {z : Int} {f : Nat → Int} (hz : z = 0 ∨ z = 1) (hd : decode cc pc = .ok (.bastore, 1)) (ha : a < N) (he : h a = eZ mm f) (hi : 0 ≤ i ∧ i < mm ∧ mm < 2147483648) (hj : amJ p l e R s m args below meth c Qf E ad0 N0 nL (pc + 1) lv r (va_up h a (eZ mm (va_up f i.toNat z))) N k n) : amJ p l e R s m args below meth c Qf E ad0 N0 nL pc lv (vI z :: vI i :: vR a :: r) h N k n := by
  intro ad H locs ls hR hL
  have hin := iI_in hi.1 hi.2.1 hi.2.2
  have ec : (iI i).toNatClampNeg = i.toNat := iI_cl hi.1 (by omega)
  have hnz : vp_nar .boolean (iI z) = iI z := by rcases hz with rfl | rfl <;> rfl
  have hset : (wl E ad h N).set a (ad a, .inl (gZ E, mm, .inl (upd (fun j => iI (f j)) (iI i).toNatClampNeg (vp_nar .boolean (iI z))))) = wl E ad (va_up h a (eZ mm (va_up f i.toNat z))) N := by
    rw [← wl_set, ec, hnz]
    have : upd (fun j => iI (f j)) i.toNat (iI z) = fun j => iI (va_up f i.toNat z j) := by
      funext q
      simp only [upd, va_up]
      split <;> rfl
    rw [this]
    rfl
  exact va_zast (f := fun j => iI (f j)) (x := iI z) hx hb hK hR.1.1 hR.1.2.1 hR.2.1 a 1 (by rw [wl_get ha, he]; rfl) rfl hin hd
    (fun H1 locs1 hP hD hS => hj ad H1 locs1 ls (hR.put ha (by rw [← hset]; exact hP) (by rw [← hset]; exact hD) hS) hL)

theorem r_aastore (hx : p.tables.exec = Jvm.exec) (hb : c.code = cc) (hK : va_K (gD E) vwCl (gT E) s) {a mm : Nat} {i : Int} {b : Nat} {vs : List AV} {f : Nat → Option Nat} (hbN : b < N) (hbe : h b = eO 4 vs) (hd : decode cc pc = .ok (.aastore, 1)) (ha : a < N) (he : h a = eR mm f) (hi : 0 ≤ i ∧ i < mm ∧ mm < 2147483648) (hj : amJ p l e R s m args below meth c Qf E ad0 N0 nL (pc + 1) lv r (va_up h a (eR mm (va_up f i.toNat (some b)))) N k n) : amJ p l e R s m args below meth c Qf E ad0 N0 nL pc lv (vR b :: vI i :: vR a :: r) h N k n := by
  intro ad H locs ls hR hL
  have hin := iI_in hi.1 hi.2.1 hi.2.2
  have ec : (iI i).toNatClampNeg = i.toNat := iI_cl hi.1 (by omega)
  have hset : (wl E ad h N).set a (ad a, .inl (gS E, mm, .inr (.inr (.inr (.inr (va_up (fun j => (f j).map ad) (iI i).toNatClampNeg (some (ad b)))))))) = wl E ad (va_up h a (eR mm (va_up f i.toNat (some b)))) N := by
    rw [← wl_set, ec]
    have : va_up (fun j => (f j).map ad) i.toNat (some (ad b)) = fun j => (va_up f i.toNat (some b) j).map ad := by
      funext q
      simp only [va_up]
      split <;> rfl
    rw [this]
    rfl
  exact va_astq (f := fun j => (f j).map ad) (r := (RX6, TX6, 10)) hx hb hK hR.1.1 hR.1.2.1 hR.2.1 a 3 b 4 (by rw [wl_get ha, he]; rfl) rfl (v := ad b) (vs := vs.map (cv ad)) (by rw [wl_get hbN, hbe]; rfl) rfl hin hd
    (fun H1 locs1 hP hD hS => hj ad H1 locs1 ls (hR.put ha (by rw [← hset]; exact hP) (by rw [← hset]; exact hD) hS) hL)

theorem r_alen (hx : p.tables.exec = Jvm.exec) (hb : c.code = cc) (hK : va_K (gD E) vwCl (gT E) s) (hAm : AmbH E s) {a mm : Nat} {f : Nat → Int} (hd : decode cc pc = .ok (.arraylength, 1)) (ha : aRd N a) (he : h a = eI mm f) (hj : amJ p l e R s m args below meth c Qf E ad0 N0 nL (pc + 1) lv (vI (mm : Int) :: r) h N k n) : amJ p l e R s m args below meth c Qf E ad0 N0 nL pc lv (vR a :: r) h N k n := by
  intro ad H locs ls hR hL
  rcases ha with ha | ha | ha | ha
  · exact va_alen (x := (mm, .inl (fun j => iI (f j)))) hx hb hK hR.1.1 a 0 (by rw [wl_get ha, he]; rfl) rfl rfl hd (hj ad H locs ls hR hL)
  · obtain ⟨-, -, -, e4, -, -, e7, -, -⟩ := hR.1
    rw [ha, e7] at he
    cases he
    have := va_slen hx hb (rest := r.map (cv ad)) (ls := ls) hAm.2.1.1 hAm.2.1.2.1 hAm.2.1.2.2 hR.2.1 hd (hj ad H locs ls hR hL)
    rw [← e4, ← ha] at this
    exact this
  · obtain ⟨-, -, -, -, e4, -, -, e7, -⟩ := hR.1
    rw [ha, e7] at he
    cases he
    have := ro_len hx hb (rest := r.map (cv ad)) (ls := ls) hAm.2.2.1 hR.2.1 hd (hj ad H locs ls hR hL)
    rw [← e4, ← ha] at this
    exact this
  · obtain ⟨-, -, -, -, -, e4, -, -, e7⟩ := hR.1
    rw [ha, e7] at he
    cases he
    have := ro_len hx hb (rest := r.map (cv ad)) (ls := ls) hAm.2.2.2 hR.2.1 hd (hj ad H locs ls hR hL)
    rw [← e4, ← ha] at this
    exact this

theorem r_new (hx : p.tables.exec = Jvm.exec) (hb : c.code = cc) (hG : ∀ w ∈ wG, w.before args s = true) (hCl : ∀ ci q, vwCl[ci]? = some q → ClOk ci q) (hK : va_K (gD E) vwCl (gT E) s) (hAm : AmbH E s) {own : String} (hown : s.vm.findClass own = some m.cls) {x ci : Nat} (hf : ∃ q, vwCl[ci]? = some q ∧ Jvm.Cond.classLink own x q.1 ∈ wG ∧ Jvm.Cond.instantiable q.1 q.2.2 ∈ wG ∧ Jvm.Cond.initialized q.1 ∈ wG) (hd : decode cc pc = .ok (.new x, 3)) (hc1 : k + 1 ≤ R.cells) (hc2 : n + aNf ci ≤ R.slots) (hN : N < aRO) (hw : wfH N h) (hws : wfS N lv st) (hj : amJ p l e R s m args below meth c Qf E ad0 N0 nL (pc + 3) lv (vR N :: st) (va_up h N (eO ci (aFs ci))) (N + 1) (k + 1) (n + aNf ci)) : amJ p l e R s m args below meth c Qf E ad0 N0 nL pc lv st h N k n := by
  intro ad H locs ls hR hL
  obtain ⟨⟨C, T, Nn⟩, hq, w1, w2, w3⟩ := hf
  obtain ⟨c1, c2, c3, c4, c5⟩ := hCl _ _ hq
  have c4 : Nn = aNf ci := c4
  refine va_new (ci := ci) (C := C) (T := T) (N := Nn) (fs := (List.range (aNf ci)).map (fun k => defaultValue (aTy ci k))) hx hb hG c1 (aTy ci) c2 hown (hG _ w1) (hG _ w2) (hG _ w3) hK hR.1.1 hR.1.2.1 hR.2.1 (fun q hq => Nat.le_trans hAm.1 hq) hq (fun j hj => ?_) hc1 (by rw [c4]; exact hc2) hd (fun q H1 hP hD hS => ?_)
  · rw [c4] at hj
    simp [vp_V, hj]
  · rw [c4]
    have hfs : ((List.range (aNf ci)).map (fun k => defaultValue (aTy ci k))) = (aFs ci).map (cv (va_up ad N q)) := by
      unfold aFs
      rw [List.map_map]
      apply List.map_congr_left
      intro k hk
      exact (c5 k (by rw [c4]; exact List.mem_range.mp hk) _).symm
    have hj' := hj (va_up ad N q) H1 locs ls (hR.push hN hw (e := eO ci (aFs ci)) (by rw [hfs]; rfl) hP hD hS) (hL.push hN hws)
    rw [List.map_cons, st_push hN hws] at hj'
    have e1 : cv (va_up ad N q) (vR N) = .ref q := by show va_rf (some (va_up ad N q N)) = _; rw [va_up_self]; rfl
    rw [e1] at hj'
    exact hj'

theorem r_newI (hx : p.tables.exec = Jvm.exec) (hb : c.code = cc) (hG : ∀ w ∈ wG, w.before args s = true) (hK : va_K (gD E) vwCl (gT E) s) (hAm : AmbH E s) {a : Int} (hw0 : Jvm.Cond.arrayClass .int ∈ wG) (hd : decode cc pc = .ok (.newarray .int, 2)) (ha : 0 ≤ a ∧ a < 100000) (hc1 : k + 1 ≤ R.cells) (hc2 : n + a.toNat ≤ R.slots) (hN : N < aRO) (hw : wfH N h) (hws : wfS N lv r) (hj : amJ p l e R s m args below meth c Qf E ad0 N0 nL (pc + 2) lv (vR N :: r) (va_up h N (eI a.toNat (fun _ => 0))) (N + 1) (k + 1) (n + a.toNat)) : amJ p l e R s m args below meth c Qf E ad0 N0 nL pc lv (vI a :: r) h N k n := by
  intro ad H locs ls hR hL
  have hr : inR a := ⟨by omega, by omega⟩
  refine va_newa (atype := .int) (ty := .int) (a0 := (a.toNat, (.inl (fun _ => 0)))) hx hb (hG _ hw0) rfl hK hR.1.1 hR.1.2.1 hR.2.1 (fun q hq => Nat.le_trans hAm.1 hq) (fun cA => rfl) (n := iI a) (N' := a.toNat) (by rw [← iI_0, iI_lt hr inR_0]; omega) (iI_cl ha.1 (by omega)) (by show a.toNat * _ ≤ _; simp only [componentBytes]; omega) hc1 hc2 hd (fun q cA H1 hK' hP hD hS => ?_)
  have e0 : cA = gI E := by
    have h1 := (hK'.2 4 (cA, .int) rfl).2
    have h2 := (hK.2 0 (gI E, .int) rfl).2
    exact Option.some.inj (h1.symm.trans h2)
  subst e0
  have hj' := hj (va_up ad N q) H1 locs ls (hR.push hN hw (e := eI a.toNat (fun _ => 0)) rfl hP hD hS) (hL.push hN hws)
  rw [List.map_cons, st_push hN hws] at hj'
  have e1 : cv (va_up ad N q) (vR N) = .ref q := by show va_rf (some (va_up ad N q N)) = _; rw [va_up_self]; rfl
  rw [e1] at hj'
  exact hj'

theorem r_newZ (hx : p.tables.exec = Jvm.exec) (hb : c.code = cc) (hG : ∀ w ∈ wG, w.before args s = true) (hK : va_K (gD E) vwCl (gT E) s) (hAm : AmbH E s) {a : Int} (hw0 : Jvm.Cond.arrayClass .boolean ∈ wG) (hd : decode cc pc = .ok (.newarray .boolean, 2)) (ha : 0 ≤ a ∧ a < 100000) (hc1 : k + 1 ≤ R.cells) (hc2 : n + a.toNat ≤ R.slots) (hN : N < aRO) (hw : wfH N h) (hws : wfS N lv r) (hj : amJ p l e R s m args below meth c Qf E ad0 N0 nL (pc + 2) lv (vR N :: r) (va_up h N (eZ a.toNat (fun _ => 0))) (N + 1) (k + 1) (n + a.toNat)) : amJ p l e R s m args below meth c Qf E ad0 N0 nL pc lv (vI a :: r) h N k n := by
  intro ad H locs ls hR hL
  have hr : inR a := ⟨by omega, by omega⟩
  refine va_newa (atype := .boolean) (ty := .boolean) (a0 := (a.toNat, (.inl (fun _ => 0)))) hx hb (hG _ hw0) rfl hK hR.1.1 hR.1.2.1 hR.2.1 (fun q hq => Nat.le_trans hAm.1 hq) (fun cA => rfl) (n := iI a) (N' := a.toNat) (by rw [← iI_0, iI_lt hr inR_0]; omega) (iI_cl ha.1 (by omega)) (by show a.toNat * _ ≤ _; simp only [componentBytes]; omega) hc1 hc2 hd (fun q cA H1 hK' hP hD hS => ?_)
  have e0 : cA = gZ E := by
    have h1 := (hK'.2 4 (cA, .boolean) rfl).2
    have h2 := (hK.2 1 (gZ E, .boolean) rfl).2
    exact Option.some.inj (h1.symm.trans h2)
  subst e0
  have hj' := hj (va_up ad N q) H1 locs ls (hR.push hN hw (e := eZ a.toNat (fun _ => 0)) rfl hP hD hS) (hL.push hN hws)
  rw [List.map_cons, st_push hN hws] at hj'
  have e1 : cv (va_up ad N q) (vR N) = .ref q := by show va_rf (some (va_up ad N q N)) = _; rw [va_up_self]; rfl
  rw [e1] at hj'
  exact hj'

theorem r_newR (hx : p.tables.exec = Jvm.exec) (hb : c.code = cc) (hG : ∀ w ∈ wG, w.before args s = true) (hK : va_K (gD E) vwCl (gT E) s) (hAm : AmbH E s) (hAO : va_AO RX6 s) {own : String} (hown : s.vm.findClass own = some m.cls) {a : Int} {x : Nat} (hw0 : Jvm.Cond.classLink own x RX6 ∈ wG) (hd : decode cc pc = .ok (.anewarray x, 3)) (ha : 0 ≤ a ∧ a < 100000) (hc1 : k + 1 ≤ R.cells) (hc2 : n + a.toNat ≤ R.slots) (hN : N < aRO) (hw : wfH N h) (hws : wfS N lv r) (hj : amJ p l e R s m args below meth c Qf E ad0 N0 nL (pc + 3) lv (vR N :: r) (va_up h N (eR a.toNat (fun _ => none))) (N + 1) (k + 1) (n + a.toNat)) : amJ p l e R s m args below meth c Qf E ad0 N0 nL pc lv (vI a :: r) h N k n := by
  intro ad H locs ls hR hL
  have hr : inR a := ⟨by omega, by omega⟩
  refine va_newq hx hb hown (hG _ hw0) hAO hK hR.1.1 hR.1.2.1 hR.2.1 (fun q hq => Nat.le_trans hAm.1 hq) (n := iI a) (N' := a.toNat) (by rw [← iI_0, iI_lt hr inR_0]; omega) (iI_cl ha.1 (by omega)) (by omega) hc1 hc2 hd (fun q cA H1 hK' hP hD hS => ?_)
  have e0 : cA = gS E := by
    obtain ⟨_, _, _, _, _, h1⟩ := (hK'.2 4 (cA, .object RX6) rfl).2
    obtain ⟨_, _, _, _, _, h2⟩ := (hK.2 3 (gS E, .object RX6) rfl).2
    exact Option.some.inj (h1.symm.trans h2)
  subst e0
  have hj' := hj (va_up ad N q) H1 locs ls (hR.push hN hw (e := eR a.toNat (fun _ => none)) rfl hP hD hS) (hL.push hN hws)
  rw [List.map_cons, st_push hN hws] at hj'
  have e1 : cv (va_up ad N q) (vR N) = .ref q := by show va_rf (some (va_up ad N q N)) = _; rw [va_up_self]; rfl
  rw [e1] at hj'
  exact hj'

theorem r_copy (hx : p.tables.exec = Jvm.exec) (hb : c.code = cc) (hG : ∀ w ∈ wG, w.before args s = true) (hK : va_K (gD E) vwCl (gT E) s) (hml : c.maxLocals = nL) {own : String} (hown : s.vm.findClass own = some m.cls) {x a b mm mm' : Nat} {sp dp ln : Int} {f g : Nat → Int} (hw : Jvm.Cond.methodLink own x arraycopyName ∈ wG ∧ Jvm.Cond.native arraycopyName ∈ wG ∧ Jvm.Cond.static arraycopyName ∈ wG ∧ Jvm.Cond.initialized "java/lang/System" ∈ wG) (hf1 : 1 ≤ R.frames) (hl1 : 100 ≤ R.locals) (hcat : aCats r ≤ 8) (hd : decode cc pc = .ok (.invokestatic x, 3)) (ha : a < N) (hbN : b < N) (he : h a = eI mm f) (hbe : h b = eI mm' g) (hi : 0 ≤ sp ∧ 0 ≤ dp ∧ 0 ≤ ln ∧ sp + ln ≤ mm ∧ dp + ln ≤ mm' ∧ mm < 2147483648 ∧ mm' < 2147483648) (hj : amJ p l e R s m args below meth c Qf E ad0 N0 nL (pc + 3) lv r (va_up h b (eI mm' (aCpy f g sp.toNat dp.toNat ln.toNat))) N k n) : amJ p l e R s m args below meth c Qf E ad0 N0 nL pc lv (vI ln :: vI dp :: vR b :: vI sp :: vR a :: r) h N k n := by
  intro ad H locs ls hR hL
  obtain ⟨i1, i2, i3, i4, i5, i6, i7⟩ := hi
  have e1 : (iI sp).toNatClampNeg = sp.toNat := iI_cl i1 (by omega)
  have e2 : (iI dp).toNatClampNeg = dp.toNat := iI_cl i2 (by omega)
  have e3 : (iI ln).toNatClampNeg = ln.toNat := iI_cl i3 (by omega)
  have hset : (wl E ad h N).set b (ad b, .inl (gI E, mm', .inl (va_cpy (fun j => iI (f j)) (fun j => iI (g j)) (iI sp).toNatClampNeg (iI dp).toNatClampNeg (iI ln).toNatClampNeg))) = wl E ad (va_up h b (eI mm' (aCpy f g sp.toNat dp.toNat ln.toNat))) N := by
    rw [← wl_set, e1, e2, e3]
    have : va_cpy (fun j => iI (f j)) (fun j => iI (g j)) sp.toNat dp.toNat ln.toNat = fun j => iI (aCpy f g sp.toNat dp.toNat ln.toNat j) := by
      funext q
      by_cases hq : dp.toNat ≤ q ∧ q < dp.toNat + ln.toNat
      · rw [pk_cpy_in hq.1 hq.2]
        simp [aCpy, hq]
      · rw [pk_cpy_out (by omega)]
        simp only [aCpy, if_neg hq]
    rw [this]
    rfl
  have hnf : nativeFrameWords "java/lang/System" "arraycopy" 5 + 11 ≤ 92 := by decide +kernel
  exact va_copyi (f := fun j => iI (f j)) (g := fun j => iI (g j)) (ty := .int) (sp := iI sp) (dp := iI dp) (n := iI ln) hx hb (by rw [hml]; exact hL.size.symm) hown (hG _ hw.1) (hG _ hw.2.1) (hG _ hw.2.2.1) (hG _ hw.2.2.2) hK hR.1.1 hR.1.2.1 hR.2.1 a b 0 0 (by rw [wl_get ha, he]; rfl) (by rw [wl_get hbN, hbe]; rfl) rfl rfl rfl
    (by rw [← iI_0, iI_lt ⟨by omega, by omega⟩ inR_0]; omega) (by rw [← iI_0, iI_lt ⟨by omega, by omega⟩ inR_0]; omega) (by rw [← iI_0, iI_lt ⟨by omega, by omega⟩ inR_0]; omega) (by rw [e1, e3]; omega) (by rw [e2, e3]; omega) (fun i _ => rfl) hf1 (by rw [cats_cv]; omega) hd
    (fun H1 locs1 hP hD hS => hj ad H1 locs1 ls (hR.put hbN (by rw [← hset]; exact hP) (by rw [← hset]; exact hD) hS) hL)
end AMH
