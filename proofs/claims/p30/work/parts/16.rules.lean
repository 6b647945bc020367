/-! ===== rules of the small machine ===== -/
theorem aSw_mono {J J' : Nat → Prop} (hJ : ∀ u, J u → J' u) {a : Int} : ∀ (ts : List Nat) (lo : Int), aSw J a lo ts → aSw J' a lo ts
  | [], _, h => h
  | t :: ts, lo, h => ⟨fun q => hJ _ (h.1 q), aSw_mono hJ ts (lo + 1) h.2⟩
theorem aThr_mono {I : MI} {Q Q' : AQ} {J J' : AJ} (hQ : ∀ r h N, Q r h N → Q' r h N) (hJ : ∀ pc lv st h N k n, J pc lv st h N k n → J' pc lv st h N k n) {X : String} {pc : Nat} {lv : AL} {h : AH} {N k n : Nat} (ht : aThr I Q J X pc lv h N k n) : aThr I Q' J' X pc lv h N k n := by
  unfold aThr at ht ⊢
  split
  · rename_i q hq
    rw [hq] at ht
    exact hJ _ _ _ _ _ _ _ ht
  · rename_i hq
    rw [hq] at ht
    exact ⟨ht.1, hQ _ _ _ ht.2.1, ht.2.2⟩
theorem aRes_mono {I : MI} {Q Q' : AQ} {J J' : AJ} (hQ : ∀ r h N, Q r h N → Q' r h N) (hJ : ∀ pc lv st h N k n, J pc lv st h N k n → J' pc lv st h N k n) {thr : Bool} {nx pc : Nat} {lv : AL} {rest : List AV} {N k n : Nat} : ∀ r h N', aRes I Q J thr nx pc lv rest N k n r h N' → aRes I Q' J' thr nx pc lv rest N k n r h N' := by
  intro r h N' ⟨h1, h2⟩
  refine ⟨h1, ?_⟩
  cases r with
  | inl o => exact hJ _ _ _ _ _ _ _ h2
  | inr X => exact ⟨h2.1, aThr_mono hQ hJ h2.2⟩
def CMono (C : AC) : Prop := ∀ y as h N (Q Q' : AQ), (∀ r h N, Q r h N → Q' r h N) → C y as h N Q → C y as h N Q'
theorem aCall_mono {I : MI} {C : AC} {Q Q' : AQ} {J J' : AJ} (hC : CMono C) (hQ : ∀ r h N, Q r h N → Q' r h N) (hJ : ∀ pc lv st h N k n, J pc lv st h N k n → J' pc lv st h N k n) {thr : Bool} {y na mc ms nx pc : Nat} {lv : AL} {st : List AV} {h : AH} {N k n : Nat} (hc : aCall I C Q J thr y na mc ms nx pc lv st h N k n) : aCall I C Q' J' thr y na mc ms nx pc lv st h N k n :=
  ⟨hc.1, hC _ _ _ _ _ _ (aRes_mono hQ hJ) hc.2⟩
set_option maxHeartbeats 4000000 in
theorem stepI_mono {I : MI} {C : AC} {Q Q' : AQ} {J J' : AJ} (hC : CMono C) (hQ : ∀ r h N, Q r h N → Q' r h N) (hJ : ∀ pc lv st h N k n, J pc lv st h N k n → J' pc lv st h N k n) {i : Instr} {nx : Nat} {tg : List Nat} {pc : Nat} {lv : AL} {st : List AV} {h : AH} {N k n : Nat} : stepI I C Q J i nx tg pc lv st h N k n → stepI I C Q' J' i nx tg pc lv st h N k n := by
  cases i <;> (try (intro hs; exact (show False from hs).elim)) <;> simp only [stepI] <;> (repeat' split) <;> intro hs <;> first
    | exact hs
    | exact hs.elim
    | exact hJ _ _ _ _ _ _ _ hs
    | exact ⟨hs.1, hJ _ _ _ _ _ _ _ hs.2⟩
    | exact ⟨hs.1, fun q => hJ _ _ _ _ _ _ _ (hs.2.1 q), fun q => hJ _ _ _ _ _ _ _ (hs.2.2 q)⟩
    | exact ⟨hs.1, fun q => hJ _ _ _ _ _ _ _ (hs.2.1 q), aSw_mono (fun u hu => hJ _ _ _ _ _ _ _ hu) _ _ hs.2.2⟩
    | (obtain ⟨h1, fs, v, h2, h3, h4⟩ := hs; exact ⟨h1, fs, v, h2, h3, hJ _ _ _ _ _ _ _ h4⟩)
    | (obtain ⟨h1, fs, h2, h3, h4, h5⟩ := hs; exact ⟨h1, fs, h2, h3, h4, hJ _ _ _ _ _ _ _ h5⟩)
    | (obtain ⟨h1, m, f, h2, h3, h4⟩ := hs; exact ⟨h1, m, f, h2, h3, hJ _ _ _ _ _ _ _ h4⟩)
    | (obtain ⟨h1, m, f, h2, h4⟩ := hs; exact ⟨h1, m, f, h2, hJ _ _ _ _ _ _ _ h4⟩)
    | (obtain ⟨h1, h0, m, f, h2, h3, h4⟩ := hs; exact ⟨h1, h0, m, f, h2, h3, hJ _ _ _ _ _ _ _ h4⟩)
    | (obtain ⟨h1, h0, h00, m, f, h2, h3, h4⟩ := hs; exact ⟨h1, h0, h00, m, f, h2, h3, hJ _ _ _ _ _ _ _ h4⟩)
    | (obtain ⟨h1, h2, h3, m, m', f, g, h4, h5, h6, h7⟩ := hs; exact ⟨h1, h2, h3, m, m', f, g, h4, h5, h6, hJ _ _ _ _ _ _ _ h7⟩)
    | (obtain ⟨h1, h2, h3, h4, h5⟩ := hs; exact ⟨h1, h2, h3, h4, hQ _ _ _ h5⟩)
    | (obtain ⟨h1, h2⟩ := hs; exact ⟨h1, aCall_mono hC hQ hJ h2⟩)
    | exact aCall_mono hC hQ hJ hs
    | (obtain ⟨h1, h2, h3⟩ := hs; exact ⟨h1, hQ _ _ _ h2, h3⟩)
    | (obtain ⟨h2, h3⟩ := hs; exact ⟨hQ _ _ _ h2, h3⟩)
theorem step_mono {I : MI} {C : AC} {Q Q' : AQ} {J J' : AJ} (hC : CMono C) (hQ : ∀ r h N, Q r h N → Q' r h N) (hJ : ∀ pc lv st h N k n, J pc lv st h N k n → J' pc lv st h N k n) {pc : Nat} {lv : AL} {st : List AV} {h : AH} {N k n : Nat} : step I C Q J pc lv st h N k n → step I C Q' J' pc lv st h N k n := by
  unfold step
  split
  · exact stepI_mono hC hQ hJ
  · exact id
theorem Run_mono {I : MI} {C : AC} {Q Q' : AQ} (hC : CMono C) (hQ : ∀ r h N, Q r h N → Q' r h N) {pc : Nat} {lv : AL} {st : List AV} {h : AH} {N k n : Nat} (hr : Run I C Q pc lv st h N k n) : Run I C Q' pc lv st h N k n := fun J hJ =>
  hr J ⟨fun _ _ _ _ _ _ _ hs => hJ.1 _ _ _ _ _ _ _ (step_mono hC hQ (fun _ _ _ _ _ _ _ h => h) hs), hJ.2⟩
theorem T_cmono : ∀ d, CMono (T d)
  | 0 => fun _ _ _ _ _ _ _ h => h
  | d + 1 => fun _ _ _ _ _ _ hQ h => ⟨h.1, Run_mono (T_cmono d) hQ h.2⟩
section RR
variable {I : MI} {d : Nat} {Q : AQ} {pc nx : Nat} {tg : List Nat} {lv : AL} {st r : List AV} {h : AH} {N k n : Nat}
theorem Run.go (hs : step I (T d) Q (Run I (T d) Q) pc lv st h N k n) : Run I (T d) Q pc lv st h N k n := fun J hJ =>
  hJ.1 _ _ _ _ _ _ _ (step_mono (T_cmono d) (fun _ _ _ h => h) (fun _ _ _ _ _ _ _ hr => hr J hJ) hs)
theorem Run.less {lv' : AL} (hr : Run I (T d) Q pc lv' st h N k n) (hl : lv'.length = lv.length) (hs : ∀ i v, aLd lv' i = some v → aLd lv i = some v) : Run I (T d) Q pc lv st h N k n := fun J hJ => hJ.2 _ _ _ _ _ _ _ _ hl hs (hr J hJ)
theorem Run.go1 {i : Instr} (hc : lk I.code pc = some (i, nx, tg)) (hs : stepI I (T d) Q (Run I (T d) Q) i nx tg pc lv st h N k n) : Run I (T d) Q pc lv st h N k n := Run.go (by unfold step; rw [hc]; exact hs)
theorem R_iconst {z : Int} (hc : lk I.code pc = some (.iconst z, nx, tg))  (k0 : Run I (T d) Q nx lv (vI z :: st) h N k n) : Run I (T d) Q pc lv st h N k n := Run.go1 hc (k0)
theorem R_bipush {z : Int} (hc : lk I.code pc = some (.bipush z, nx, tg))  (k0 : Run I (T d) Q nx lv (vI z :: st) h N k n) : Run I (T d) Q pc lv st h N k n := Run.go1 hc (k0)
theorem R_sipush {z : Int} (hc : lk I.code pc = some (.sipush z, nx, tg))  (k0 : Run I (T d) Q nx lv (vI z :: st) h N k n) : Run I (T d) Q pc lv st h N k n := Run.go1 hc (k0)
theorem R_lconst {z : Fin 2} (hc : lk I.code pc = some (.lconst z, nx, tg))  (k0 : Run I (T d) Q nx lv (vL (Int64.ofNat z) :: st) h N k n) : Run I (T d) Q pc lv st h N k n := Run.go1 hc (k0)
theorem R_ldc {x : Nat} {v : Int64} (hc : lk I.code pc = some (.ldc x, nx, tg)) (hv : lk I.cst x = some v) (k0 : Run I (T d) Q nx lv (vI v.toInt :: st) h N k n) : Run I (T d) Q pc lv st h N k n := Run.go1 hc (by simp only [stepI, hv]; exact k0)
theorem R_ldc2_w {x : Nat} {v : Int64} (hc : lk I.code pc = some (.ldc2_w x, nx, tg)) (hv : lk I.cst x = some v) (k0 : Run I (T d) Q nx lv (vL v :: st) h N k n) : Run I (T d) Q pc lv st h N k n := Run.go1 hc (by simp only [stepI, hv]; exact k0)
theorem R_iload {a : Nat} {z : Int} (hc : lk I.code pc = some (.iload a, nx, tg)) (hv : aLd lv a = some (vI z)) (k0 : Run I (T d) Q nx lv (vI z :: st) h N k n) : Run I (T d) Q pc lv st h N k n := Run.go1 hc (by simp only [stepI, hv]; exact k0)
theorem R_iload_n {a : Fin 4} {z : Int} (hc : lk I.code pc = some (.iload_n a, nx, tg)) (hv : aLd lv a = some (vI z)) (k0 : Run I (T d) Q nx lv (vI z :: st) h N k n) : Run I (T d) Q pc lv st h N k n := Run.go1 hc (by simp only [stepI, hv]; exact k0)
theorem R_istore {a : Nat} {z : Int} {lv' : AL} (hc : lk I.code pc = some (.istore a, nx, tg)) (hl : aSt a (vI z) lv = lv') (k0 : Run I (T d) Q nx lv' r h N k n) : Run I (T d) Q pc lv (vI z :: r) h N k n := Run.go1 hc (by subst hl; exact k0)
theorem R_istore_n {a : Fin 4} {z : Int} {lv' : AL} (hc : lk I.code pc = some (.istore_n a, nx, tg)) (hl : aSt a (vI z) lv = lv') (k0 : Run I (T d) Q nx lv' r h N k n) : Run I (T d) Q pc lv (vI z :: r) h N k n := Run.go1 hc (by subst hl; exact k0)
theorem R_lload {a : Nat} {z : Int64} (hc : lk I.code pc = some (.lload a, nx, tg)) (hv : aLd lv a = some (vL z)) (k0 : Run I (T d) Q nx lv (vL z :: st) h N k n) : Run I (T d) Q pc lv st h N k n := Run.go1 hc (by simp only [stepI, hv]; exact k0)
theorem R_lload_n {a : Fin 4} {z : Int64} (hc : lk I.code pc = some (.lload_n a, nx, tg)) (hv : aLd lv a = some (vL z)) (k0 : Run I (T d) Q nx lv (vL z :: st) h N k n) : Run I (T d) Q pc lv st h N k n := Run.go1 hc (by simp only [stepI, hv]; exact k0)
theorem R_lstore {a : Nat} {z : Int64} {lv' : AL} (hc : lk I.code pc = some (.lstore a, nx, tg)) (hl : aSt2 a (vL z) lv = lv') (k0 : Run I (T d) Q nx lv' r h N k n) : Run I (T d) Q pc lv (vL z :: r) h N k n := Run.go1 hc (by subst hl; exact k0)
theorem R_lstore_n {a : Fin 4} {z : Int64} {lv' : AL} (hc : lk I.code pc = some (.lstore_n a, nx, tg)) (hl : aSt2 a (vL z) lv = lv') (k0 : Run I (T d) Q nx lv' r h N k n) : Run I (T d) Q pc lv (vL z :: r) h N k n := Run.go1 hc (by subst hl; exact k0)
theorem R_aload {a : Nat} {z : Nat} (hc : lk I.code pc = some (.aload a, nx, tg)) (hv : aLd lv a = some (vR z)) (k0 : Run I (T d) Q nx lv (vR z :: st) h N k n) : Run I (T d) Q pc lv st h N k n := Run.go1 hc (by simp only [stepI, hv]; exact k0)
theorem R_aload_n {a : Fin 4} {z : Nat} (hc : lk I.code pc = some (.aload_n a, nx, tg)) (hv : aLd lv a = some (vR z)) (k0 : Run I (T d) Q nx lv (vR z :: st) h N k n) : Run I (T d) Q pc lv st h N k n := Run.go1 hc (by simp only [stepI, hv]; exact k0)
theorem R_astore {a : Nat} {z : Nat} {lv' : AL} (hc : lk I.code pc = some (.astore a, nx, tg)) (hl : aSt a (vR z) lv = lv') (k0 : Run I (T d) Q nx lv' r h N k n) : Run I (T d) Q pc lv (vR z :: r) h N k n := Run.go1 hc (by subst hl; exact k0)
theorem R_astore_n {a : Fin 4} {z : Nat} {lv' : AL} (hc : lk I.code pc = some (.astore_n a, nx, tg)) (hl : aSt a (vR z) lv = lv') (k0 : Run I (T d) Q nx lv' r h N k n) : Run I (T d) Q pc lv (vR z :: r) h N k n := Run.go1 hc (by subst hl; exact k0)
theorem R_iinc {a : Nat} {z y : Int} {lv' : AL} (hc : lk I.code pc = some (.iinc a y, nx, tg)) (hv : aLd lv a = some (vI z)) (hl : aSt a (vI (z + y)) lv = lv') (k0 : Run I (T d) Q nx lv' st h N k n) : Run I (T d) Q pc lv st h N k n := Run.go1 hc (by subst hl; simp only [stepI, hv]; exact k0)
theorem R_iadd {a b : Int} (hc : lk I.code pc = some (.iadd, nx, tg))  (k0 : Run I (T d) Q nx lv (vI (a + b) :: r) h N k n) : Run I (T d) Q pc lv (vI b :: vI a :: r) h N k n := Run.go1 hc (k0)
theorem R_isub {a b : Int} (hc : lk I.code pc = some (.isub, nx, tg))  (k0 : Run I (T d) Q nx lv (vI (a - b) :: r) h N k n) : Run I (T d) Q pc lv (vI b :: vI a :: r) h N k n := Run.go1 hc (k0)
theorem R_imul {a b : Int} (hc : lk I.code pc = some (.imul, nx, tg))  (k0 : Run I (T d) Q nx lv (vI (a * b) :: r) h N k n) : Run I (T d) Q pc lv (vI b :: vI a :: r) h N k n := Run.go1 hc (k0)
theorem R_iand {a b : Int} (hc : lk I.code pc = some (.iand, nx, tg))  (k0 : Run I (T d) Q nx lv (vI ((iI a &&& iI b).toInt) :: r) h N k n) : Run I (T d) Q pc lv (vI b :: vI a :: r) h N k n := Run.go1 hc (k0)
theorem R_ior {a b : Int} (hc : lk I.code pc = some (.ior, nx, tg))  (k0 : Run I (T d) Q nx lv (vI ((iI a ||| iI b).toInt) :: r) h N k n) : Run I (T d) Q pc lv (vI b :: vI a :: r) h N k n := Run.go1 hc (k0)
theorem R_ixor {a b : Int} (hc : lk I.code pc = some (.ixor, nx, tg))  (k0 : Run I (T d) Q nx lv (vI ((iI a ^^^ iI b).toInt) :: r) h N k n) : Run I (T d) Q pc lv (vI b :: vI a :: r) h N k n := Run.go1 hc (k0)
theorem R_ishl {a b : Int} (hc : lk I.code pc = some (.ishl, nx, tg))  (k0 : Run I (T d) Q nx lv (vI ((iI a <<< (iI b &&& 31)).toInt) :: r) h N k n) : Run I (T d) Q pc lv (vI b :: vI a :: r) h N k n := Run.go1 hc (k0)
theorem R_ishr {a b : Int} (hc : lk I.code pc = some (.ishr, nx, tg))  (k0 : Run I (T d) Q nx lv (vI ((iI a >>> (iI b &&& 31)).toInt) :: r) h N k n) : Run I (T d) Q pc lv (vI b :: vI a :: r) h N k n := Run.go1 hc (k0)
theorem R_idiv {a b : Int} (hc : lk I.code pc = some (.idiv, nx, tg)) (hd : 0 ≤ a ∧ a < 2147483648 ∧ 0 < b ∧ b < 2147483648) (k0 : Run I (T d) Q nx lv (vI (a / b) :: r) h N k n) : Run I (T d) Q pc lv (vI b :: vI a :: r) h N k n := Run.go1 hc (⟨hd, k0⟩)
theorem R_irem {a b : Int} (hc : lk I.code pc = some (.irem, nx, tg)) (hd : 0 ≤ a ∧ a < 2147483648 ∧ 0 < b ∧ b < 2147483648) (k0 : Run I (T d) Q nx lv (vI (a % b) :: r) h N k n) : Run I (T d) Q pc lv (vI b :: vI a :: r) h N k n := Run.go1 hc (⟨hd, k0⟩)
theorem R_ladd {a b : Int64} (hc : lk I.code pc = some (.ladd, nx, tg))  (k0 : Run I (T d) Q nx lv (vL (a + b) :: r) h N k n) : Run I (T d) Q pc lv (vL b :: vL a :: r) h N k n := Run.go1 hc (k0)
theorem R_lsub {a b : Int64} (hc : lk I.code pc = some (.lsub, nx, tg))  (k0 : Run I (T d) Q nx lv (vL (a - b) :: r) h N k n) : Run I (T d) Q pc lv (vL b :: vL a :: r) h N k n := Run.go1 hc (k0)
theorem R_lmul {a b : Int64} (hc : lk I.code pc = some (.lmul, nx, tg))  (k0 : Run I (T d) Q nx lv (vL (a * b) :: r) h N k n) : Run I (T d) Q pc lv (vL b :: vL a :: r) h N k n := Run.go1 hc (k0)
theorem R_land {a b : Int64} (hc : lk I.code pc = some (.land, nx, tg))  (k0 : Run I (T d) Q nx lv (vL (a &&& b) :: r) h N k n) : Run I (T d) Q pc lv (vL b :: vL a :: r) h N k n := Run.go1 hc (k0)
theorem R_lor {a b : Int64} (hc : lk I.code pc = some (.lor, nx, tg))  (k0 : Run I (T d) Q nx lv (vL (a ||| b) :: r) h N k n) : Run I (T d) Q pc lv (vL b :: vL a :: r) h N k n := Run.go1 hc (k0)
theorem R_lxor {a b : Int64} (hc : lk I.code pc = some (.lxor, nx, tg))  (k0 : Run I (T d) Q nx lv (vL (a ^^^ b) :: r) h N k n) : Run I (T d) Q pc lv (vL b :: vL a :: r) h N k n := Run.go1 hc (k0)
theorem R_ldiv {a b : Int64} (hc : lk I.code pc = some (.ldiv, nx, tg)) (hd : ¬ b = 0) (k0 : Run I (T d) Q nx lv (vL (a / b) :: r) h N k n) : Run I (T d) Q pc lv (vL b :: vL a :: r) h N k n := Run.go1 hc (⟨hd, k0⟩)
theorem R_lrem {a b : Int64} (hc : lk I.code pc = some (.lrem, nx, tg)) (hd : ¬ b = 0) (k0 : Run I (T d) Q nx lv (vL (a - a / b * b) :: r) h N k n) : Run I (T d) Q pc lv (vL b :: vL a :: r) h N k n := Run.go1 hc (⟨hd, k0⟩)
theorem R_lshl {a : Int64} {b : Int} (hc : lk I.code pc = some (.lshl, nx, tg))  (k0 : Run I (T d) Q nx lv (vL (a <<< ((iI b).toInt64 &&& 63)) :: r) h N k n) : Run I (T d) Q pc lv (vI b :: vL a :: r) h N k n := Run.go1 hc (k0)
theorem R_lshr {a : Int64} {b : Int} (hc : lk I.code pc = some (.lshr, nx, tg))  (k0 : Run I (T d) Q nx lv (vL (a >>> ((iI b).toInt64 &&& 63)) :: r) h N k n) : Run I (T d) Q pc lv (vI b :: vL a :: r) h N k n := Run.go1 hc (k0)
theorem R_lushr {a : Int64} {b : Int} (hc : lk I.code pc = some (.lushr, nx, tg))  (k0 : Run I (T d) Q nx lv (vL ((a.toUInt64 >>> ((iI b).toInt64.toUInt64 &&& Int64.toUInt64 63)).toInt64) :: r) h N k n) : Run I (T d) Q pc lv (vI b :: vL a :: r) h N k n := Run.go1 hc (k0)
theorem R_lcmp {a b : Int64} (hc : lk I.code pc = some (.lcmp, nx, tg))  (k0 : Run I (T d) Q nx lv (vI (lg_cmp a b).toInt :: r) h N k n) : Run I (T d) Q pc lv (vL b :: vL a :: r) h N k n := Run.go1 hc (k0)
theorem R_i2l {a : Int} (hc : lk I.code pc = some (.i2l, nx, tg))  (k0 : Run I (T d) Q nx lv (vL (iI a).toInt64 :: r) h N k n) : Run I (T d) Q pc lv (vI a :: r) h N k n := Run.go1 hc (k0)
theorem R_l2i {a : Int64} (hc : lk I.code pc = some (.l2i, nx, tg))  (k0 : Run I (T d) Q nx lv (vI a.toInt32.toInt :: r) h N k n) : Run I (T d) Q pc lv (vL a :: r) h N k n := Run.go1 hc (k0)
theorem R_dup {v : AV} (hc : lk I.code pc = some (.dup, nx, tg)) (hv : aCat v = 1) (k0 : Run I (T d) Q nx lv (v :: v :: r) h N k n) : Run I (T d) Q pc lv (v :: r) h N k n := Run.go1 hc (⟨hv, k0⟩)
theorem R_dup2 {v w : AV} (hc : lk I.code pc = some (.dup2, nx, tg)) (hv : aCat v = 1 ∧ aCat w = 1) (k0 : Run I (T d) Q nx lv (v :: w :: v :: w :: r) h N k n) : Run I (T d) Q pc lv (v :: w :: r) h N k n := Run.go1 hc (⟨hv, k0⟩)
theorem R_pop {v : AV} (hc : lk I.code pc = some (.pop, nx, tg)) (hv : aCat v = 1) (k0 : Run I (T d) Q nx lv r h N k n) : Run I (T d) Q pc lv (v :: r) h N k n := Run.go1 hc (⟨hv, k0⟩)
theorem R_goto {off : Int} {t : Nat} {ts : List Nat} (hc : lk I.code pc = some (.goto off, nx, t :: ts)) (k0 : Run I (T d) Q t lv st h N k n) : Run I (T d) Q pc lv st h N k n := Run.go1 hc k0
theorem R_ifeq {off a : Int} {t : Nat} {ts : List Nat} (hc : lk I.code pc = some (.ifCond .eq off, nx, t :: ts)) (ha : inR a) (k1 : a = 0 → Run I (T d) Q t lv r h N k n) (k2 : ¬ (a = 0) → Run I (T d) Q nx lv r h N k n) : Run I (T d) Q pc lv (vI a :: r) h N k n := Run.go1 hc ⟨ha, k1, k2⟩
theorem R_icmpeq {off a b : Int} {t : Nat} {ts : List Nat} (hc : lk I.code pc = some (.if_icmp .eq off, nx, t :: ts)) (ha : inR a) (hb : inR b) (k1 : a = b → Run I (T d) Q t lv r h N k n) (k2 : ¬ (a = b) → Run I (T d) Q nx lv r h N k n) : Run I (T d) Q pc lv (vI b :: vI a :: r) h N k n := Run.go1 hc ⟨⟨ha, hb⟩, k1, k2⟩
theorem R_ifne {off a : Int} {t : Nat} {ts : List Nat} (hc : lk I.code pc = some (.ifCond .ne off, nx, t :: ts)) (ha : inR a) (k1 : ¬ a = 0 → Run I (T d) Q t lv r h N k n) (k2 : ¬ (¬ a = 0) → Run I (T d) Q nx lv r h N k n) : Run I (T d) Q pc lv (vI a :: r) h N k n := Run.go1 hc ⟨ha, k1, k2⟩
theorem R_icmpne {off a b : Int} {t : Nat} {ts : List Nat} (hc : lk I.code pc = some (.if_icmp .ne off, nx, t :: ts)) (ha : inR a) (hb : inR b) (k1 : ¬ a = b → Run I (T d) Q t lv r h N k n) (k2 : ¬ (¬ a = b) → Run I (T d) Q nx lv r h N k n) : Run I (T d) Q pc lv (vI b :: vI a :: r) h N k n := Run.go1 hc ⟨⟨ha, hb⟩, k1, k2⟩
theorem R_iflt {off a : Int} {t : Nat} {ts : List Nat} (hc : lk I.code pc = some (.ifCond .lt off, nx, t :: ts)) (ha : inR a) (k1 : a < 0 → Run I (T d) Q t lv r h N k n) (k2 : ¬ (a < 0) → Run I (T d) Q nx lv r h N k n) : Run I (T d) Q pc lv (vI a :: r) h N k n := Run.go1 hc ⟨ha, k1, k2⟩
theorem R_icmplt {off a b : Int} {t : Nat} {ts : List Nat} (hc : lk I.code pc = some (.if_icmp .lt off, nx, t :: ts)) (ha : inR a) (hb : inR b) (k1 : a < b → Run I (T d) Q t lv r h N k n) (k2 : ¬ (a < b) → Run I (T d) Q nx lv r h N k n) : Run I (T d) Q pc lv (vI b :: vI a :: r) h N k n := Run.go1 hc ⟨⟨ha, hb⟩, k1, k2⟩
theorem R_ifge {off a : Int} {t : Nat} {ts : List Nat} (hc : lk I.code pc = some (.ifCond .ge off, nx, t :: ts)) (ha : inR a) (k1 : 0 ≤ a → Run I (T d) Q t lv r h N k n) (k2 : ¬ (0 ≤ a) → Run I (T d) Q nx lv r h N k n) : Run I (T d) Q pc lv (vI a :: r) h N k n := Run.go1 hc ⟨ha, k1, k2⟩
theorem R_icmpge {off a b : Int} {t : Nat} {ts : List Nat} (hc : lk I.code pc = some (.if_icmp .ge off, nx, t :: ts)) (ha : inR a) (hb : inR b) (k1 : b ≤ a → Run I (T d) Q t lv r h N k n) (k2 : ¬ (b ≤ a) → Run I (T d) Q nx lv r h N k n) : Run I (T d) Q pc lv (vI b :: vI a :: r) h N k n := Run.go1 hc ⟨⟨ha, hb⟩, k1, k2⟩
theorem R_ifgt {off a : Int} {t : Nat} {ts : List Nat} (hc : lk I.code pc = some (.ifCond .gt off, nx, t :: ts)) (ha : inR a) (k1 : 0 < a → Run I (T d) Q t lv r h N k n) (k2 : ¬ (0 < a) → Run I (T d) Q nx lv r h N k n) : Run I (T d) Q pc lv (vI a :: r) h N k n := Run.go1 hc ⟨ha, k1, k2⟩
theorem R_icmpgt {off a b : Int} {t : Nat} {ts : List Nat} (hc : lk I.code pc = some (.if_icmp .gt off, nx, t :: ts)) (ha : inR a) (hb : inR b) (k1 : b < a → Run I (T d) Q t lv r h N k n) (k2 : ¬ (b < a) → Run I (T d) Q nx lv r h N k n) : Run I (T d) Q pc lv (vI b :: vI a :: r) h N k n := Run.go1 hc ⟨⟨ha, hb⟩, k1, k2⟩
theorem R_ifle {off a : Int} {t : Nat} {ts : List Nat} (hc : lk I.code pc = some (.ifCond .le off, nx, t :: ts)) (ha : inR a) (k1 : a ≤ 0 → Run I (T d) Q t lv r h N k n) (k2 : ¬ (a ≤ 0) → Run I (T d) Q nx lv r h N k n) : Run I (T d) Q pc lv (vI a :: r) h N k n := Run.go1 hc ⟨ha, k1, k2⟩
theorem R_icmple {off a b : Int} {t : Nat} {ts : List Nat} (hc : lk I.code pc = some (.if_icmp .le off, nx, t :: ts)) (ha : inR a) (hb : inR b) (k1 : a ≤ b → Run I (T d) Q t lv r h N k n) (k2 : ¬ (a ≤ b) → Run I (T d) Q nx lv r h N k n) : Run I (T d) Q pc lv (vI b :: vI a :: r) h N k n := Run.go1 hc ⟨⟨ha, hb⟩, k1, k2⟩
theorem R_switch {dflt lo hi a : Int} {offs : Array Int} {t : Nat} {ts : List Nat} (hc : lk I.code pc = some (.tableswitch dflt lo hi offs, nx, t :: ts)) (ha : inR a) (k1 : a < lo ∨ hi < a → Run I (T d) Q t lv r h N k n) (k2 : aSw (fun u => Run I (T d) Q u lv r h N k n) a lo ts) : Run I (T d) Q pc lv (vI a :: r) h N k n := Run.go1 hc ⟨ha, k1, k2⟩
theorem R_getfield {x ci j a : Nat} {fs : List AV} {v : AV} (hc : lk I.code pc = some (.getfield x, nx, tg)) (hf : lk I.fld x = some (ci, j)) (ha : a < N) (he : h a = eO ci fs) (hv : fs[j]? = some v) (k0 : Run I (T d) Q nx lv (v :: r) h N k n) : Run I (T d) Q pc lv (vR a :: r) h N k n := Run.go1 hc (by simp only [stepI, hf]; exact ⟨ha, fs, v, he, hv, k0⟩)
theorem R_putfield {x ci j a : Nat} {fs : List AV} {v : AV} (hc : lk I.code pc = some (.putfield x, nx, tg)) (hf : lk I.fld x = some (ci, j)) (ha : a < N) (he : h a = eO ci fs) (hl : j < fs.length) (hfit : aFit (aTy ci j) v) (k0 : Run I (T d) Q nx lv r (va_up h a (eO ci (fs.set j v))) N k n) : Run I (T d) Q pc lv (v :: vR a :: r) h N k n := Run.go1 hc (by simp only [stepI, hf]; exact ⟨ha, fs, he, hl, hfit, k0⟩)
theorem R_iaload {a m : Nat} {i : Int} {f : Nat → Int} (hc : lk I.code pc = some (.iaload, nx, tg)) (ha : aRd N a) (he : h a = eI m f) (hi : 0 ≤ i ∧ i < m ∧ m < 2147483648) (k0 : Run I (T d) Q nx lv (vI (f i.toNat) :: r) h N k n) : Run I (T d) Q pc lv (vI i :: vR a :: r) h N k n := Run.go1 hc ⟨ha, m, f, he, hi, k0⟩
theorem R_baload {a m : Nat} {i : Int} {f : Nat → Int} (hc : lk I.code pc = some (.baload, nx, tg)) (ha : a < N) (he : h a = eZ m f) (hi : 0 ≤ i ∧ i < m ∧ m < 2147483648) (k0 : Run I (T d) Q nx lv (vI (f i.toNat) :: r) h N k n) : Run I (T d) Q pc lv (vI i :: vR a :: r) h N k n := Run.go1 hc ⟨ha, m, f, he, hi, k0⟩
theorem R_aaload {a m : Nat} {i : Int} {f : Nat → Option Nat} (hc : lk I.code pc = some (.aaload, nx, tg)) (ha : a < N) (he : h a = eR m f) (hi : 0 ≤ i ∧ i < m ∧ m < 2147483648) (k0 : Run I (T d) Q nx lv (vF (f i.toNat) :: r) h N k n) : Run I (T d) Q pc lv (vI i :: vR a :: r) h N k n := Run.go1 hc ⟨ha, m, f, he, hi, k0⟩
theorem R_iastore {a m : Nat} {i z : Int} {f : Nat → Int} (hc : lk I.code pc = some (.iastore, nx, tg)) (ha : a < N) (he : h a = eI m f) (hi : 0 ≤ i ∧ i < m ∧ m < 2147483648) (k0 : Run I (T d) Q nx lv r (va_up h a (eI m (va_up f i.toNat z))) N k n) : Run I (T d) Q pc lv (vI z :: vI i :: vR a :: r) h N k n := Run.go1 hc ⟨ha, m, f, he, hi, k0⟩
theorem R_bastore {a m : Nat} {i z : Int} {f : Nat → Int} (hc : lk I.code pc = some (.bastore, nx, tg)) (ha : a < N) (hz : z = 0 ∨ z = 1) (he : h a = eZ m f) (hi : 0 ≤ i ∧ i < m ∧ m < 2147483648) (k0 : Run I (T d) Q nx lv r (va_up h a (eZ m (va_up f i.toNat z))) N k n) : Run I (T d) Q pc lv (vI z :: vI i :: vR a :: r) h N k n := Run.go1 hc ⟨ha, hz, m, f, he, hi, k0⟩
theorem R_aastore {a b m : Nat} {i : Int} {f : Nat → Option Nat} {vs : List AV} (hc : lk I.code pc = some (.aastore, nx, tg)) (ha : a < N) (hb : b < N) (hbe : h b = eO 4 vs) (he : h a = eR m f) (hi : 0 ≤ i ∧ i < m ∧ m < 2147483648) (k0 : Run I (T d) Q nx lv r (va_up h a (eR m (va_up f i.toNat (some b)))) N k n) : Run I (T d) Q pc lv (vR b :: vI i :: vR a :: r) h N k n := Run.go1 hc ⟨ha, hb, ⟨vs, hbe⟩, m, f, he, hi, k0⟩
theorem R_alen {a m : Nat} {f : Nat → Int} (hc : lk I.code pc = some (.arraylength, nx, tg)) (ha : aRd N a) (he : h a = eI m f) (k0 : Run I (T d) Q nx lv (vI (m : Int) :: r) h N k n) : Run I (T d) Q pc lv (vR a :: r) h N k n := Run.go1 hc ⟨ha, m, f, he, k0⟩
theorem R_getstatic {x t : Nat} {ts : List Nat} (hc : lk I.code pc = some (.getstatic x, nx, t :: ts)) (k0 : Run I (T d) Q nx lv (vR t :: st) h N k n) : Run I (T d) Q pc lv st h N k n := Run.go1 hc k0
theorem R_new {x ci : Nat} (hc : lk I.code pc = some (.new x, nx, tg)) (ht : lk I.thr pc = none) (hci : lk I.cls x = some ci) (hw : N < aRO ∧ wfH N h ∧ wfS N lv st ∧ k + 1 ≤ I.mc ∧ n + aNf ci ≤ I.ms) (k0 : Run I (T d) Q nx lv (vR N :: st) (va_up h N (eO ci (aFs ci))) (N + 1) (k + 1) (n + aNf ci)) : Run I (T d) Q pc lv st h N k n := Run.go1 hc (by simp only [stepI, ht, hci]; exact ⟨hw, k0⟩)
theorem R_throw {x : Nat} {X : String} (hc : lk I.code pc = some (.new x, nx, tg)) (ht : lk I.thr pc = some X) (hcat : aCats st ≤ 8) (hk : k + 1 ≤ I.mc) (hn : n + 6 ≤ I.ms) (hh : I.hnd = []) (k0 : Q (.inr X) h N) : Run I (T d) Q pc lv st h N k n := Run.go1 hc (by simp only [stepI, ht]; exact ⟨hcat, hk, hn, hh, k0⟩)
theorem R_newI {a : Int} (hc : lk I.code pc = some (.newarray .int, nx, tg)) (hw : 0 ≤ a ∧ a < 100000 ∧ N < aRO ∧ wfH N h ∧ wfS N lv r ∧ k + 1 ≤ I.mc ∧ n + a.toNat ≤ I.ms) (k0 : Run I (T d) Q nx lv (vR N :: r) (va_up h N (eI a.toNat (fun _ => 0))) (N + 1) (k + 1) (n + a.toNat)) : Run I (T d) Q pc lv (vI a :: r) h N k n := Run.go1 hc ⟨hw, k0⟩
theorem R_newZ {a : Int} (hc : lk I.code pc = some (.newarray .boolean, nx, tg)) (hw : 0 ≤ a ∧ a < 100000 ∧ N < aRO ∧ wfH N h ∧ wfS N lv r ∧ k + 1 ≤ I.mc ∧ n + a.toNat ≤ I.ms) (k0 : Run I (T d) Q nx lv (vR N :: r) (va_up h N (eZ a.toNat (fun _ => 0))) (N + 1) (k + 1) (n + a.toNat)) : Run I (T d) Q pc lv (vI a :: r) h N k n := Run.go1 hc ⟨hw, k0⟩
theorem R_newR {a : Int} {x : Nat} (hc : lk I.code pc = some (.anewarray x, nx, tg)) (hw : 0 ≤ a ∧ a < 100000 ∧ N < aRO ∧ wfH N h ∧ wfS N lv r ∧ k + 1 ≤ I.mc ∧ n + a.toNat ≤ I.ms) (k0 : Run I (T d) Q nx lv (vR N :: r) (va_up h N (eR a.toNat (fun _ => none))) (N + 1) (k + 1) (n + a.toNat)) : Run I (T d) Q pc lv (vI a :: r) h N k n := Run.go1 hc ⟨hw, k0⟩
theorem R_vcall {x y na mc ms rc : Nat} (hc : lk I.code pc = some (.invokevirtual x, nx, tg)) (hm : lk I.mth x = some (y, 0, na, mc, ms, rc)) (hrc : aRcv rc (st.take na).reverse h N) (hw : aCats (st.drop na) ≤ 8 ∧ na ≤ st.length ∧ k + mc ≤ I.mc ∧ n + ms ≤ I.ms) (k0 : T d y (st.take na).reverse h N (aRes I Q (Run I (T d) Q) true nx pc lv (st.drop na) N (k + mc) (n + ms))) : Run I (T d) Q pc lv st h N k n := Run.go1 hc (by simp only [stepI, hm]; exact ⟨hrc, ⟨hw, k0⟩⟩)
theorem R_scall {x y na mc ms rc : Nat} (hc : lk I.code pc = some (.invokestatic x, nx, tg)) (hm : lk I.mth x = some (y, 1, na, mc, ms, rc)) (hw : aCats (st.drop na) ≤ 8 ∧ na ≤ st.length ∧ k + mc ≤ I.mc ∧ n + ms ≤ I.ms) (k0 : T d y (st.take na).reverse h N (aRes I Q (Run I (T d) Q) true nx pc lv (st.drop na) N (k + mc) (n + ms))) : Run I (T d) Q pc lv st h N k n := Run.go1 hc (by simp only [stepI, hm]; exact ⟨hw, k0⟩)
theorem R_xcall {x y na mc ms rc : Nat} (hc : lk I.code pc = some (.invokestatic x, nx, tg)) (hm : lk I.mth x = some (y, 7, na, mc, ms, rc)) (hw : aCats (st.drop na) ≤ 8 ∧ na ≤ st.length ∧ k + mc ≤ I.mc ∧ n + ms ≤ I.ms) (k0 : T d y (st.take na).reverse h N (aRes I Q (Run I (T d) Q) true nx pc lv (st.drop na) N (k + mc) (n + ms))) : Run I (T d) Q pc lv st h N k n := Run.go1 hc (by simp only [stepI, hm]; exact ⟨hw, k0⟩)
theorem R_s3call {x y na mc ms rc : Nat} (hc : lk I.code pc = some (.invokestatic x, nx, tg)) (hm : lk I.mth x = some (y, 3, na, mc, ms, rc)) (hw : aCats (st.drop na) ≤ 8 ∧ na ≤ st.length ∧ k + mc ≤ I.mc ∧ n + ms ≤ I.ms) (k0 : T d y (st.take na).reverse h N (aRes I Q (Run I (T d) Q) false nx pc lv (st.drop na) N (k + mc) (n + ms))) : Run I (T d) Q pc lv st h N k n := Run.go1 hc (by simp only [stepI, hm]; exact ⟨hw, k0⟩)
theorem R_ccall {x y na mc ms rc : Nat} (hc : lk I.code pc = some (.invokespecial x, nx, tg)) (hm : lk I.mth x = some (y, 2, na, mc, ms, rc)) (hrc : aRecR (st.take na).reverse) (hw : aCats (st.drop na) ≤ 8 ∧ na ≤ st.length ∧ k + mc ≤ I.mc ∧ n + ms ≤ I.ms) (k0 : T d y (st.take na).reverse h N (aRes I Q (Run I (T d) Q) false nx pc lv (st.drop na) N (k + mc) (n + ms))) : Run I (T d) Q pc lv st h N k n := Run.go1 hc (by simp only [stepI, hm]; exact ⟨hrc, ⟨hw, k0⟩⟩)
theorem R_c4call {x y na mc ms rc : Nat} (hc : lk I.code pc = some (.invokespecial x, nx, tg)) (hm : lk I.mth x = some (y, 4, na, mc, ms, rc)) (hrc : aRecR (st.take na).reverse) (hw : aCats (st.drop na) ≤ 8 ∧ na ≤ st.length ∧ k + mc ≤ I.mc ∧ n + ms ≤ I.ms) (k0 : T d y (st.take na).reverse h N (aRes I Q (Run I (T d) Q) false nx pc lv (st.drop na) N (k + mc) (n + ms))) : Run I (T d) Q pc lv st h N k n := Run.go1 hc (by simp only [stepI, hm]; exact ⟨hrc, ⟨hw, k0⟩⟩)
theorem R_objinit {x a : Nat} {q : Nat × Nat × Nat × Nat} (hc : lk I.code pc = some (.invokespecial x, nx, tg)) (hm : lk I.mth x = some (0, 5, q)) (hcat : aCats r ≤ 8) (k0 : Run I (T d) Q nx lv r h N k n) : Run I (T d) Q pc lv (vR a :: r) h N k n := Run.go1 hc (by simp only [stepI, hm]; exact ⟨hcat, k0⟩)
theorem R_copy {x a b m m' : Nat} {q : Nat × Nat × Nat × Nat} {sp dp ln : Int} {f g : Nat → Int} (hc : lk I.code pc = some (.invokestatic x, nx, tg)) (hm : lk I.mth x = some (0, 6, q)) (ha : a < N) (hb : b < N) (hcat : aCats r ≤ 8) (he : h a = eI m f) (hbe : h b = eI m' g) (hi : 0 ≤ sp ∧ 0 ≤ dp ∧ 0 ≤ ln ∧ sp + ln ≤ m ∧ dp + ln ≤ m' ∧ m < 2147483648 ∧ m' < 2147483648) (k0 : Run I (T d) Q nx lv r (va_up h b (eI m' (aCpy f g sp.toNat dp.toNat ln.toNat))) N k n) : Run I (T d) Q pc lv (vI ln :: vI dp :: vR b :: vI sp :: vR a :: r) h N k n := Run.go1 hc (by simp only [stepI, hm]; exact ⟨ha, hb, hcat, m, m', f, g, he, hbe, hi, k0⟩)
theorem R_ireturn {a : Int} (hc : lk I.code pc = some (.ireturn, nx, tg)) (hz : I.rt = 1 → a = 0 ∨ a = 1) (hk : k ≤ I.mc) (hn : n ≤ I.ms) (k0 : Q (.inl (some (vI a))) h N) : Run I (T d) Q pc lv [vI a] h N k n := Run.go1 hc ⟨hz, k0, hk, hn⟩
theorem R_lreturn {a : Int64} (hc : lk I.code pc = some (.lreturn, nx, tg)) (hk : k ≤ I.mc) (hn : n ≤ I.ms) (k0 : Q (.inl (some (vL a))) h N) : Run I (T d) Q pc lv [vL a] h N k n := Run.go1 hc ⟨k0, hk, hn⟩
theorem R_areturn {a : Option Nat} (hc : lk I.code pc = some (.areturn, nx, tg)) (hk : k ≤ I.mc) (hn : n ≤ I.ms) (k0 : Q (.inl (some (vF a))) h N) : Run I (T d) Q pc lv [vF a] h N k n := Run.go1 hc ⟨k0, hk, hn⟩
theorem R_return (hc : lk I.code pc = some (.return_, nx, tg)) (hk : k ≤ I.mc) (hn : n ≤ I.ms) (k0 : Q (.inl none) h N) : Run I (T d) Q pc lv [] h N k n := Run.go1 hc ⟨k0, hk, hn⟩
theorem T_body {y : Nat} {as : List AV} {I : MI} {lv : AL} (hI : mI y = I) (hl : (aArgs as).length ≤ mL y) (he : aEnt (mL y) as = lv) (k0 : Run I (T d) Q 0 lv [] h N 0 0) : T (d + 1) y as h N Q := ⟨hl, by rw [hI, he]; exact k0⟩
end RR
