/-! ===== rows of the calls ===== -/
/-- what is decided of a method that is called with n values (without the receiver) -/
def CalOk (y n mc ms : Nat) : Prop :=
  mW y ∈ wG ∧ Jvm.Cond.initialized (mN y).cls ∈ wG ∧ ((mN y).cls ≠ "java/lang/invoke/MethodHandle" ∧ (mN y).cls ≠ "java/lang/invoke/VarHandle") ∧ ((mI y).mc = mc ∧ (mI y).ms = ms) ∧ mL y ≤ 20 ∧ (parseMethodDescriptor (mN y).desc).map (fun d => d.parameters.length) = some n
def MthOk (own : String) (x : Nat) (e : AMth) : Prop := match e with
  | (y, 0, na, mc, ms, rc) => ∃ n, na = n + 1 ∧ CalOk y n mc ms ∧ mH y = [] ∧ Jvm.Cond.methodLink own x (mN y) ∈ wG ∧ Jvm.Cond.instanceMethod (mN y) ∈ wG ∧ Jvm.Cond.selects (mN y).cls (mN y) (mN y) ∈ wG ∧ ∃ q, vwCl[rc]? = some q ∧ q.1 = (mN y).cls
  | (y, 1, na, mc, ms, _) => CalOk y na mc ms ∧ mH y = [] ∧ Jvm.Cond.methodLink own x (mN y) ∈ wG ∧ Jvm.Cond.static (mN y) ∈ wG
  | (y, 7, na, mc, ms, _) => CalOk y na mc ms ∧ mH y ≠ [] ∧ Jvm.Cond.methodLink own x (mN y) ∈ wG ∧ Jvm.Cond.static (mN y) ∈ wG
  | (y, 2, na, mc, ms, _) => ∃ n, na = n + 1 ∧ CalOk y n mc ms ∧ mH y = [] ∧ mR y = none ∧ Jvm.Cond.methodLink own x (mN y) ∈ wG ∧ Jvm.Cond.instanceMethod (mN y) ∈ wG ∧ (mN y).name = "<init>"
  | (y, 3, na, mc, ms, _) => CalOk y na mc ms ∧ mH y = [] ∧ (own, x, y, RX8) ∈ aNest ∧ Jvm.Cond.static (mN y) ∈ wG
  | (y, 4, na, mc, ms, _) => ∃ n, na = n + 1 ∧ CalOk y n mc ms ∧ mH y = [] ∧ mR y = none ∧ (own, x, y, RX8) ∈ aNest ∧ Jvm.Cond.instanceMethod (mN y) ∈ wG ∧ (mN y).name = "<init>"
  | (_, 5, _, _, _, _) => Jvm.Cond.methodLink own x Lib.objectInit ∈ wG ∧ Jvm.Cond.instanceMethod Lib.objectInit ∈ wG ∧ Jvm.Cond.code Lib.objectInit ⟨#[0xb1]⟩ 1 none ∈ wG
  | (_, 6, _, _, _, _) => Jvm.Cond.methodLink own x arraycopyName ∈ wG ∧ Jvm.Cond.native arraycopyName ∈ wG ∧ Jvm.Cond.static arraycopyName ∈ wG ∧ Jvm.Cond.initialized "java/lang/System" ∈ wG
  | _ => False
theorem wG_good {w : Jvm.Cond} (h : w ∈ wG) : (w.onTables && w.keeps) = true ∨ ∃ ty, w = .arrayClass ty := good_of_word (List.mem_filter.mp h).2
theorem wG_at {args a' : Array Value} {s U : State} (hG : ∀ w ∈ wG, w.before args s = true) (hW : s.WarmedH U.vm) {w : Jvm.Cond} (h : w ∈ wG) : w.before a' U = true := word_at hW (wG_good h) (hG w h)
theorem mWs_at {args a' : Array Value} {s U : State} {y : Nat} (hG : ∀ w ∈ wG, w.before args s = true) (hy : mW y ∈ wG) (hW : s.WarmedH U.vm) : ∀ w ∈ mWs y, w.before a' U = true := by
  intro w hw
  rcases List.mem_cons.mp hw with e | hw
  · rw [e]
    exact wG_at hG hW hy
  · exact wG_at hG hW hw
theorem mW_nil {y : Nat} (h : mH y = []) : mW y = .code (mN y) (mB y) (mL y) (mR y) := by unfold mW; rw [h]
theorem mW_hh {y : Nat} (h : mH y ≠ []) : mW y = .codeWith (mN y) (mB y) (mL y) (mR y) (mH y) := by
  unfold mW
  split
  · rename_i q
    exact absurd q h
  · rfl
section AMC
variable {p : Program} {l : Launch} {e : Env} {R : Room} {s : State} {m : MethodId} {args : Array Value} {below : List Frame} {meth : Method} {c : Code} {Qf : State → Prop}
variable {cc : ByteArray} {E : AEnv} {ad0 : Nat → Nat} {N0 nL pc : Nat} {lv : AL} {st : List AV} {h : AH} {N k n : Nat} {I : MI} {Q : AQ}
/-- what is behind a call -/
theorem r_run {thr : Bool} {mc ms : Nat} {stv : List Value} {a : Array Value} {rest : List AV} {ad : Nat → Nat} {H : Heap} {locs : List Loc} {ls : Array Slot} (hR : Rel E s ad0 N0 ad h N H locs) (hL : Lh ad ls nL lv)
    (hrun : vx_Run p l e R s m args below meth c H locs k n mc ms (F0 m pc ls stv) (rest.map (cv ad)) (aQc E ad N (aRes I Q (amJ p l e R s m args below meth c Qf E ad0 N0 nL) thr (pc + 3) pc lv rest N (k + mc) (n + ms)) a) (aXC E ad N (aRes I Q (amJ p l e R s m args below meth c Qf E ad0 N0 nL) thr (pc + 3) pc lv rest N (k + mc) (n + ms))) (gA E))
    (hthr : ∀ (X : String) (ce : Cell) (q : Addr) (ad' : Nat → Nat) (H1 : Heap) (locs1 : List Loc) (h' : AH) (N' : Nat), thr = true → aThr I Q (amJ p l e R s m args below meth c Qf E ad0 N0 nL) X pc lv h' N' (k + mc) (n + ms) → Rel E s ad0 N0 ad' h' N' H1 locs1 → Lh ad' ls nL lv → H1[q]? = some ce → ce.vm = .none → s.vm.findClass X = some ce.cls → vx_W p l e R s m args below meth c H1 locs1 (k + mc) (n + ms) Qf (F0 m pc ls (rest.map (cv ad))) q) :
    W p l e R s m args below meth c H locs k n Qf (F0 m pc ls stv) := by
  have same : ∀ {N' : Nat} {ad' : Nat → Nat} {h' : AH} {H' : Heap}, RelS E ad' h' N' H' → (N' = N ∨ wfS N lv rest) → (∀ k, k < N ∨ N' ≤ k → ad' k = ad k) → (∀ i v, aLd lv i = some v → cv ad' v = cv ad v) ∧ rest.map (cv ad') = rest.map (cv ad) := by
    intro N' ad' h' H' hS hw hag
    have key : ∀ v, wfV N v ∨ N' = N → cv ad' v = cv ad v := by
      intro v hv
      rcases v with z | x | r | r
      · rfl
      · rfl
      · rfl
      · show va_rf (some (ad' r)) = va_rf (some (ad r))
        rw [hag r]
        have := hS.2.2.1
        rcases hv with hv | hv
        · have hv : r < N ∨ aRO ≤ r := hv
          omega
        · omega
    refine ⟨fun i v hv => ?_, List.map_congr_left fun v hv => ?_⟩
    · refine key v ?_
      rcases hw with hw | hw
      · exact Or.inr hw
      · have hm : (some v) ∈ lv := by
          unfold aLd at hv
          rw [List.getD_eq_getElem?_getD] at hv
          cases hg : lv[i]? with
          | none => rw [hg] at hv; cases hv
          | some o =>
            rw [hg] at hv
            have hv : o = some v := hv
            exact hv ▸ List.mem_of_getElem? hg
        exact Or.inl (hw.1 _ hm _ rfl)
    · refine key v ?_
      rcases hw with hw | hw
      · exact Or.inr hw
      · exact Or.inl (hw.2 v hv)
  obtain ⟨hR1, hR2, hR3, hR4⟩ := id hR
  intro U hU X
  rcases hrun U hU X with ⟨v, st₀, t, T', L, h0, X', hLc, e1, e2, ⟨r, h', N', ad', hv, hq, hS, hNN, hag, hF⟩, stp⟩ | ⟨q, st₀, t, T', L, Ex, ce, h0, X', hLc, e1, e2, ⟨h', N', ad', hq, hS, hNN, hag, hF⟩, hce, hcv, hcl, stp⟩
  · obtain ⟨k1, k2, k3⟩ := vx_keep h0 e1 hR2 (fun q _ h => h) (fun q h => h) hLc hF
    obtain ⟨hw, hj⟩ := hq
    obtain ⟨m1, m2⟩ := same hS hw hag
    cases hv
    have hRel : Rel E s ad0 N0 ad' h' N' T'.heap (locs ++ L) := ⟨by rw [e1]; exact hS, k3, by omega, fun q hq => (hag q (by omega)).trans (hR4 q (by omega))⟩
    obtain ⟨t2, a1, b1⟩ := hj ad' T'.heap (locs ++ L) ls hRel (hL.moved m1) T' rfl X'
    refine ⟨t2, stp t2 ?_, b1⟩
    have e9 : (r.toList ++ rest).map (cv ad') = (r.map (cv ad')).toList ++ rest.map (cv ad) := by
      rw [List.map_append, m2]
      cases r <;> rfl
    rw [e9] at a1
    exact a1
  · obtain ⟨k1, k2, k3⟩ := vx_keep h0 e1 hR2 (fun q _ h => h) (fun q h => h) hLc hF
    obtain ⟨hw, ht, hj⟩ := hq
    obtain ⟨m1, m2⟩ := same hS hw hag
    have hRel : Rel E s ad0 N0 ad' h' N' T'.heap (locs ++ L) := ⟨by rw [e1]; exact hS, k3, by omega, fun q hq => (hag q (by omega)).trans (hR4 q (by omega))⟩
    obtain ⟨t2, a1, b1⟩ := hthr Ex ce q ad' T'.heap (locs ++ L) h' N' ht hj hRel (hL.moved m1) (by rw [e1]; exact hce) hcv hcl T' rfl X'
    exact ⟨t2, stp.trans a1, b1⟩
theorem run_of_va {mc ms : Nat} {g : JFrame} {rest : List Value} {Qa : State → Outcome → State → Prop} {XC : String → State → State → Prop} {free : Addr → Prop} {H : Heap} {locs : List Loc} (hr : va_Run p l e R s m args below meth c H locs k n mc ms g rest Qa free) : vx_Run p l e R s m args below meth c H locs k n mc ms g rest Qa XC free :=
  fun T hT X => Or.inl (hr T hT X)
theorem parse_n {y : MethodName} {n : Nat} (h : (parseMethodDescriptor y.desc).map (fun d => d.parameters.length) = some n) : ∀ sig, parseMethodDescriptor y.desc = some sig → n = sig.parameters.length := by
  intro sig hs
  rw [hs] at h
  exact (Option.some.inj h).symm
theorem st_cut {ad : Nat → Nat} {na : Nat} {as : List AV} (h : (st.take na).reverse = as) : st.map (cv ad) = (as.map (cv ad)).reverse ++ (st.drop na).map (cv ad) := by
  rw [← h, List.map_reverse, List.reverse_reverse, ← List.map_append, List.take_append_drop]
/-- a call's own run, of every kind -/
theorem r_call {d x y kd na mc ms rc : Nat} {own : String} {Qy : AQ} (hx : p.tables.exec = Jvm.exec) (hb : c.code = cc) (hml : c.maxLocals = nL) (hown : s.vm.findClass own = some m.cls) (hG : ∀ w ∈ wG, w.before args s = true) (hA : Amb E s) (hRf : d + 9 ≤ R.frames) (hRl : 140 + 40 * d ≤ R.locals)
    (hok : MthOk own x (y, kd, na, mc, ms, rc)) (hM : MetY l E d y (st.take na).reverse h N Qy)
    (hk : (kd = 0 ∧ aRcv rc (st.take na).reverse h N ∧ decode cc pc = .ok (.invokevirtual x, 3)) ∨ ((kd = 1 ∨ kd = 7 ∨ kd = 3) ∧ decode cc pc = .ok (.invokestatic x, 3)) ∨ ((kd = 2 ∨ kd = 4) ∧ decode cc pc = .ok (.invokespecial x, 3)))
    (hnt : kd = 3 ∨ kd = 2 ∨ kd = 4 → ∀ X h' N', ¬ Qy (.inr X) h' N') (hrec : kd = 2 ∨ kd = 4 → aRecR (st.take na).reverse)
    (hcat : aCats (st.drop na) ≤ 8) (hlen : na ≤ st.length) (hkm : k + mc ≤ R.cells) (hnm : n + ms ≤ R.slots) {ad : Nat → Nat} {H : Heap} {locs : List Loc} {ls : Array Slot} (hR : Rel E s ad0 N0 ad h N H locs) (hL : Lh ad ls nL lv) :
    ∃ a, vx_Run p l e R s m args below meth c H locs k n mc ms (F0 m pc ls (st.map (cv ad))) ((st.drop na).map (cv ad)) (aQc E ad N Qy a) (aXC E ad N Qy) (gA E) := by
  have hsz : ls.size = nL := hL.size
  have hroom : 2 * (F0 m pc ls (st.map (cv ad))).monitorRoom + (((st.drop na).map (cv ad)).map fun v => v.category).sum ≤ 8 := lv_room (by rw [cats_cv]; exact hcat)
  have hasl : (st.take na).reverse.length = na := by rw [List.length_reverse, List.length_take]; omega
  have hpre : ∀ U : State, U.heap = H → s.WarmedH U.vm → aPc E ad (st.take na).reverse h N ((st.take na).reverse.map (cv ad)).toArray U := fun U hU hW =>
    ⟨rfl, hA.move hW (by rw [hU]; exact hR.2.1.1) (fun q h1 h2 => by rw [hU]; exact hR.2.1.2.1 q h1 h2), by rw [hU]; exact hR.1⟩
  have hM' := hM ad
  have hnx : kd = 3 ∨ kd = 2 ∨ kd = 4 → ∀ X st t, ¬ aXC E ad N Qy X st t := fun hq X st t hz => by
    obtain ⟨h', N', ad', hh, -⟩ := hz
    exact hnt hq X h' N' hh
  have hwarm : ∀ {y : Nat}, mW y ∈ wG → ∀ w ∈ mWs y, ∀ (a' : Array Value) (U : State), s.WarmedH U.vm → w.before a' U = true := fun hy w hw a' U hW => mWs_at hG hy hW w hw
  obtain ⟨q0, q1, q2⟩ | ⟨q0, q2⟩ | ⟨q0, q2⟩ := hk
  · subst q0
    obtain ⟨n', hna, ⟨c1, c2, c3, ⟨rfl, rfl⟩, c6, c7⟩, hh, w1, w2, w3, ⟨q, hq, hqc⟩⟩ := hok
    rw [mW_nil hh] at c1
    have hfm : Jvm.Cond.code (mN y) (mB y) (mL y) (mR y) ∈ mWs y := by unfold mWs; rw [mW_nil hh]; exact List.mem_cons_self
    cases has : (st.take na).reverse with
    | nil => rw [has] at q1; exact q1.elim
    | cons v as =>
      rw [has] at q1 hM' hpre hasl
      rcases v with z | z | r | b
      · exact q1.elim
      · exact q1.elim
      · exact q1.elim
      · obtain ⟨hbN, fs, hfs⟩ := q1
        have hst := st_cut (ad := ad) has
        exact ⟨_, vx_runV (rm := rmT d y) (ws := mWs y) (As := as.map (cv ad)) (b := ad b) ⟨hx, hb, hml, hown, hG⟩ hM'
          ⟨⟨rfl, rfl, by show d + 8 + 1 ≤ _; omega, by show 8 + (mL y + 11) + (100 + 40 * d) ≤ _; omega, hwarm (by rw [mW_nil hh]; exact c1), hfm, hG _ c1, hG _ c2, c3, parse_n c7, hG _ w1⟩, hG _ w2, hG _ w3⟩
          ⟨aPc_blind, by rw [← hqc]; exact va_recv hA.2.1 hR.1.1 hq (q0 := b) (by rw [wl_get hbN, hfs]; rfl), hpre⟩ rfl (by rw [List.length_map]; simp at hasl; omega) hsz (by rw [hst]; simp [cv, va_rf]) hroom q2 ⟨hkm, hnm⟩⟩
  · rcases q0 with q0 | q0 | q0
    · subst q0
      obtain ⟨⟨c1, c2, c3, ⟨rfl, rfl⟩, c6, c7⟩, hh, w1, w2⟩ := hok
      rw [mW_nil hh] at c1
      have hfm : Jvm.Cond.code (mN y) (mB y) (mL y) (mR y) ∈ mWs y := by unfold mWs; rw [mW_nil hh]; exact List.mem_cons_self
      have hst := st_cut (ad := ad) (na := na) (st := st) rfl
      exact ⟨_, vx_runS (rm := rmT d y) (ws := mWs y) (As := (st.take na).reverse.map (cv ad)) ⟨hx, hb, hml, hown, hG⟩ hM'
          ⟨⟨rfl, rfl, by show d + 8 + 1 ≤ _; omega, by show 8 + (mL y + 11) + (100 + 40 * d) ≤ _; omega, hwarm (by rw [mW_nil hh]; exact c1), hfm, hG _ c1, hG _ c2, c3, parse_n c7, hG _ w1⟩, hG _ w2⟩
          ⟨aPc_blind, hpre⟩ rfl (by rw [List.length_map]; exact hasl) hsz hst hroom q2 ⟨hkm, hnm⟩⟩
    · subst q0
      obtain ⟨⟨c1, c2, c3, ⟨rfl, rfl⟩, c6, c7⟩, hh, w1, w2⟩ := hok
      rw [mW_hh hh] at c1
      have hfm : Jvm.Cond.codeWith (mN y) (mB y) (mL y) (mR y) (mH y) ∈ mWs y := by unfold mWs; rw [mW_hh hh]; exact List.mem_cons_self
      have hst := st_cut (ad := ad) (na := na) (st := st) rfl
      exact ⟨_, vx_runSX (rm := rmT d y) (ws := mWs y) (hh := mH y) (As := (st.take na).reverse.map (cv ad)) ⟨hx, hb, hml, hown, hG⟩ hM'
          ⟨⟨rfl, rfl, by show d + 8 + 1 ≤ _; omega, by show 8 + (mL y + 11) + (100 + 40 * d) ≤ _; omega, hwarm (by rw [mW_hh hh]; exact c1), hfm⟩, hG _ c1, hG _ c2, c3, parse_n c7, hG _ w1, hG _ w2⟩
          ⟨aPc_blind, hpre⟩ rfl (by rw [List.length_map]; exact hasl) hsz hst hroom q2 ⟨hkm, hnm⟩⟩
    · subst q0
      obtain ⟨⟨c1, c2, c3, ⟨rfl, rfl⟩, c6, c7⟩, hh, w1, w2⟩ := hok
      rw [mW_nil hh] at c1
      have hfm : Jvm.Cond.code (mN y) (mB y) (mL y) (mR y) ∈ mWs y := by unfold mWs; rw [mW_nil hh]; exact List.mem_cons_self
      have hst := st_cut (ad := ad) (na := na) (st := st) rfl
      exact ⟨_, run_of_va (va_runSN (rm := rmT d y) (ws := mWs y) (As := (st.take na).reverse.map (cv ad)) ⟨hx, hb, hml, hown, hG⟩ (met_of_vx hM' (hnx (Or.inl rfl)))
          ⟨⟨⟨rfl, rfl, by show d + 8 + 1 ≤ _; omega, by show 8 + (mL y + 11) + (100 + 40 * d) ≤ _; omega, hwarm (by rw [mW_nil hh]; exact c1), hfm⟩, hG _ c1, hG _ c2, c3, parse_n c7, va_Nw.use rfl (hA.2.2.2.1 _ w1)⟩, hG _ w2, trivial⟩
          ⟨aPc_blind, hpre⟩ rfl (by rw [List.length_map]; exact hasl) hsz hst hroom q2 ⟨hkm, hnm⟩)⟩
  · obtain ⟨b, as, has⟩ : ∃ b as, (st.take na).reverse = vR b :: as := by
      have hr := hrec q0
      cases has : (st.take na).reverse with
      | nil => rw [has] at hr; exact hr.elim
      | cons v as =>
        rw [has] at hr
        rcases v with z | z | r | b
        · exact hr.elim
        · exact hr.elim
        · exact hr.elim
        · exact ⟨b, as, rfl⟩
    have hst := st_cut (ad := ad) has
    rw [has] at hM' hpre hasl
    rcases q0 with q0 | q0
    · subst q0
      obtain ⟨n', hna, ⟨c1, c2, c3, ⟨rfl, rfl⟩, c6, c7⟩, hh, hret, w1, w2, w3⟩ := hok
      rw [mW_nil hh, hret] at c1
      have hfm : Jvm.Cond.code (mN y) (mB y) (mL y) none ∈ mWs y := by unfold mWs; rw [mW_nil hh, hret]; exact List.mem_cons_self
      exact ⟨_, run_of_va (va_runI (rm := rmT d y) (ws := mWs y) (As := as.map (cv ad)) (b := ad b) ⟨hx, hb, hml, hown, hG⟩ (met_of_vx hM' (hnx (Or.inr (Or.inl rfl))))
          ⟨⟨rfl, rfl, by show d + 8 + 1 ≤ _; omega, by show 8 + (mL y + 11) + (100 + 40 * d) ≤ _; omega, hwarm (by rw [mW_nil hh, hret]; exact c1), hfm, hG _ c1, hG _ c2, c3, parse_n c7, hG _ w1⟩, w3, hG _ w2⟩
          ⟨aPc_blind, hpre⟩ rfl (by rw [List.length_map]; simp at hasl; omega) hsz (by rw [hst]; simp [cv, va_rf]) hroom q2 ⟨hkm, hnm⟩)⟩
    · subst q0
      obtain ⟨n', hna, ⟨c1, c2, c3, ⟨rfl, rfl⟩, c6, c7⟩, hh, hret, w1, w2, w3⟩ := hok
      rw [mW_nil hh, hret] at c1
      have hfm : Jvm.Cond.code (mN y) (mB y) (mL y) none ∈ mWs y := by unfold mWs; rw [mW_nil hh, hret]; exact List.mem_cons_self
      exact ⟨_, run_of_va (va_runIN (rm := rmT d y) (ws := mWs y) (As := as.map (cv ad)) (b := ad b) ⟨hx, hb, hml, hown, hG⟩ (met_of_vx hM' (hnx (Or.inr (Or.inr rfl))))
          ⟨⟨⟨rfl, rfl, by show d + 8 + 1 ≤ _; omega, by show 8 + (mL y + 11) + (100 + 40 * d) ≤ _; omega, hwarm (by rw [mW_nil hh, hret]; exact c1), hfm⟩, hG _ c1, hG _ c2, c3, parse_n c7, va_Nw.use rfl (hA.2.2.2.1 _ w1)⟩, w3, hG _ w2⟩
          ⟨aPc_blind, hpre⟩ rfl (by rw [List.length_map]; simp at hasl; omega) hsz (by rw [hst]; simp [cv, va_rf]) hroom q2 ⟨hkm, hnm⟩)⟩
end AMC
