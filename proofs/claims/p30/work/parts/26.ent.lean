/-! ===== entries by number; counts ===== -/
def nE (G : Gr) : Nat := cnt G (qM G)
def eP (G : Gr) (e : Nat) : Nat × Bool := match (ents G)[e]? with
  | some q => q
  | none => (0, false)
def eC (G : Gr) (e : Nat) : Nat := (eP G e).1
def eB (G : Gr) (e : Nat) : Bool := (eP G e).2
def eN (G : Gr) (e : Nat) : Nat := ln G (eB G e) (eC G e)
/-- the i-th cell of an entry -/
def cel (G : Gr) (e i : Nat) : Nat := eC G e + i * sp G (eB G e)
/-- in how many entries a cell is -/
def enC (G : Gr) (x : Nat) : Nat := tn (inE G false x) + tn (inE G true x)
theorem ents_get {G : Gr} {e : Nat} (he : e < nE G) : (ents G)[e]? = some (eC G e, eB G e) := by
  have hl : e < (ents G).length := by
    rw [show (ents G).length = cnt G (qM G) from entsTo_len G _]
    exact he
  have hv := List.getElem?_eq_getElem hl
  unfold eC eB eP
  rw [hv]
theorem eST {G : Gr} {e : Nat} (he : e < nE G) : eC G e < qM G ∧ st G (eB G e) (eC G e) = true ∧ e = eIx G (eB G e) (eC G e) := entsTo_spec _ _ _ _ (ents_get he)
theorem nE36 {G : Gr} (hG : okG G) : nE G ≤ 36 := cnt_36 hG
theorem eN_6 {G : Gr} (hG : okG G) {e : Nat} (he : e < nE G) : 1 ≤ eN G e ∧ eN G e ≤ 6 := (ln_spec hG (eST he).1).2.2
theorem cel_lt {G : Gr} (hG : okG G) {e i : Nat} (he : e < nE G) (hi : i < eN G e) : cel G e i < qM G := run_cell hG (eST he).1 hi
theorem acr_cases {G : Gr} (hG : okG G) {b : Bool} {x : Nat} (hx : x < qM G) : (acr G b x = -9 ∧ inE G b x = false) ∨ (∃ n : Nat, acr G b x = n ∧ n < nE G ∧ inE G b x = true) := by
  cases h : inE G b x with
  | false =>
    refine Or.inl ⟨?_, rfl⟩
    unfold acr
    rw [if_neg (by rw [h]; decide)]
  | true =>
    refine Or.inr ⟨eIx G b (rs G b x), ?_, (eIx_lt hG (rs_st hG h)).1, rfl⟩
    unfold acr
    rw [if_pos h]
def ctF (p : Nat → Bool) : Nat → Nat → Nat
  | 0, _ => 0
  | r + 1, i => tn (p i) + ctF p r (i + 1)
def fsF (p : Nat → Bool) : Nat → Nat → Int
  | 0, _ => -9
  | r + 1, i => if p i = true then (i : Int) else fsF p r (i + 1)
def alF (p : Nat → Bool) : Nat → Nat → Bool
  | 0, _ => true
  | r + 1, i => p i && alF p r (i + 1)
theorem ct_skip {p : Nat → Bool} {r i a : Nat} (hp : p i = false) : a + ctF p r (i + 1) = a + ctF p (r + 1) i := by
  simp only [ctF, hp, tn]
  omega
theorem ct_hit {p : Nat → Bool} {r i a : Nat} (hp : p i = true) : a + 1 + ctF p r (i + 1) = a + ctF p (r + 1) i := by
  simp only [ctF, hp, tn]
  omega
theorem ct_le {p : Nat → Bool} : ∀ r i, ctF p r i ≤ r
  | 0, _ => Nat.le_refl _
  | r + 1, i => by
    have := ct_le (p := p) r (i + 1)
    simp only [ctF]
    cases p i <;> simp only [tn] <;> omega
theorem ct_congr {p q : Nat → Bool} : ∀ r i, (∀ j, i ≤ j → j < i + r → p j = q j) → ctF p r i = ctF q r i
  | 0, _, _ => rfl
  | r + 1, i, h => by
    simp only [ctF]
    rw [h i (Nat.le_refl _) (by omega), ct_congr r (i + 1) (fun j h1 h2 => h j (by omega) (by omega))]
theorem fs_skip {p : Nat → Bool} {r i : Nat} (hp : p i = false) : fsF p r (i + 1) = fsF p (r + 1) i := by
  simp only [fsF]
  rw [if_neg (by rw [hp]; decide)]
theorem fs_hit {p : Nat → Bool} {r i : Nat} (hp : p i = true) : (i : Int) = fsF p (r + 1) i := by
  simp only [fsF]
  rw [if_pos hp]
theorem al_skip {p : Nat → Bool} {r i : Nat} (hp : p i = true) : alF p r (i + 1) = alF p (r + 1) i := by
  simp only [alF]
  rw [hp, Bool.true_and]
theorem al_hit {p : Nat → Bool} {r i : Nat} (hp : p i = false) : false = alF p (r + 1) i := by
  simp only [alF]
  rw [hp, Bool.false_and]
/-- no empty cell but what counts as one; the predicates that are counted -/
def pUn (G : Gr) (e i : Nat) : Bool := decide (enC G (cel G e i) = 1)
def pEm (G : Gr) (e i : Nat) : Bool := decide (qL G (cel G e i) = 0)
def unG (G : Gr) (e : Nat) : Nat := ctF (pUn G e) (eN G e) 0
def emG (G : Gr) (e : Nat) : Nat := ctF (pEm G e) (eN G e) 0
def ciG (G : Gr) (n : Nat) : Nat := ctF (fun x => decide (enC G x = n)) (qM G) 0
def pFt (G : Gr) (e w i : Nat) : Bool := decide (qL G (cel G e i) = 0) || decide (qL G (cel G e i) = qWl G w i)
def fiG (G : Gr) (e w : Nat) : Bool := decide (eN G e = qWn G w) && alF (pFt G e w) (eN G e) 0
def fcG (G : Gr) (e : Nat) : Nat := ctF (fiG G e) (qW G) 0
def wiG (G : Gr) (e : Nat) : Int := if emG G e = 0 then fsF (fiG G e) (qW G) 0 else -9
theorem celT {G : Gr} {e i : Nat} {f : Int} (hb : eB G e = true) (hF : f = (eC G e : Int)) : f + (i : Int) * (qC G : Int) = (cel G e i : Nat) := by
  subst hF
  unfold cel
  rw [hb, Int.natCast_add, Int.natCast_mul]
  rfl
theorem celF {G : Gr} {e i : Nat} {f : Int} (hb : eB G e = false) (hF : f = (eC G e : Int)) : f + (i : Int) * 1 = (cel G e i : Nat) := by
  subst hF
  unfold cel
  rw [hb, Int.natCast_add, Int.natCast_mul]
  rfl
theorem bI01 (b : Bool) : bI b = 0 ∨ bI b = 1 := by
  cases b
  · exact Or.inl rfl
  · exact Or.inr rfl
theorem bI_f {b : Bool} {z : Int} (h : z = bI b) (hz : z = 0) : b = false := by
  cases b with
  | false => rfl
  | true => exact absurd (h.symm.trans hz) (by decide)
theorem bI_t {b : Bool} {z : Int} (h : z = bI b) (hz : ¬ z = 0) : b = true := by
  cases b with
  | true => rfl
  | false => exact absurd h hz
theorem hasEntry_T {d k N : Nat} {h : AH} {G : Gr} {Q : AQ} (hP : isPz h k G) (hG : okG G) (hN : k + 12 ≤ N) {e : Int} (hc : inR e) (hQ : ∀ z : Int, (z = 1 ∧ 0 ≤ e ∧ e < nE G) ∨ (z = 0 ∧ ¬ (0 ≤ e ∧ e < nE G)) → Q (.inl (some (vI z))) h N) : T (d + 1) 31 [vR k, vI e] h N Q := by
  obtain ⟨F, Ln, Dn, Ac, Dw, Cl, ⟨p0, hS, p2, p3, p4, p5, p6, p7⟩, hE, hAc, hDw, hCl⟩ := id hP
  obtain ⟨hm4, hm36⟩ := hG.m
  have hn36 := nE36 hG
  have hnE : cnt G (qM G) = nE G := rfl
  obtain ⟨rb, bb, s0⟩ := hS.e0
  obtain ⟨hc1, hc2⟩ := hc
  refine T_body (I := mi_X4_hasEntry) (lv := [_, _]) rfl (Nat.le_of_ble_eq_true rfl) rfl ?_
  refine R_iload_n rfl rfl ?_
  refine R_iflt rfl ⟨by omega, by omega⟩ (fun c1 => ?_) (fun c1 => ?_)
  · refine R_iconst rfl ?_
    exact R_ireturn rfl (fun _ => by omega) (Nat.zero_le _) (Nat.zero_le _) (hQ _ (by omega))
  · refine R_iload_n rfl rfl ?_
    refine R_aload_n rfl rfl ?_
    refine R_getfield rfl rfl (by omega) p0 rfl ?_
    refine R_icmpge rfl ⟨by omega, by omega⟩ ⟨by omega, by omega⟩ (fun c9 => ?_) (fun c9 => ?_)
    · refine R_iconst rfl ?_
      exact R_ireturn rfl (fun _ => by omega) (Nat.zero_le _) (Nat.zero_le _) (hQ _ (by omega))
    · refine R_iload_n rfl rfl ?_
      refine R_bipush rfl ?_
      refine R_icmpge rfl ⟨by omega, by omega⟩ ⟨by decide, by decide⟩ (fun c15 => ?_) (fun c15 => ?_)
      · refine R_iconst rfl ?_
        exact R_ireturn rfl (fun _ => by omega) (Nat.zero_le _) (Nat.zero_le _) (hQ _ (by omega))
      · refine R_iconst rfl ?_
        refine R_goto rfl ?_
        exact R_ireturn rfl (fun _ => by omega) (Nat.zero_le _) (Nat.zero_le _) (hQ _ (by omega))
theorem isDown_T {d k N : Nat} {h : AH} {G : Gr} {Q : AQ} (hP : isPz h k G) (hG : okG G) (hN : k + 12 ≤ N) {e : Nat} (he : e < nE G) (hQ : ∀ z : Int, z = bI (eB G e) → Q (.inl (some (vI z))) h N) : T (d + 2) 32 [vR k, vI e] h N Q := by
  obtain ⟨F, Ln, Dn, Ac, Dw, Cl, ⟨p0, hS, p2, p3, p4, p5, p6, p7⟩, hE, hAc, hDw, hCl⟩ := id hP
  obtain ⟨hm4, hm36⟩ := hG.m
  have hn36 := nE36 hG
  have hnE : cnt G (qM G) = nE G := rfl
  obtain ⟨rb, bb, s0⟩ := hS.e0
  obtain ⟨hF, hLn, hDn⟩ := hE _ _ _ (ents_get he)
  have hDn1 : Dn ((e : Int)).toNat = bI (eB G e) := hDn
  have hD01 : Dn ((e : Int)).toNat = 0 ∨ Dn ((e : Int)).toNat = 1 := by
    rw [hDn1]
    exact bI01 _
  refine T_body (I := mi_X4_isDown) (lv := [_, _]) rfl (Nat.le_of_ble_eq_true rfl) rfl ?_
  refine R_aload_n rfl rfl ?_
  refine R_iload_n rfl rfl ?_
  refine R_vcall rfl rfl ⟨(by omega), _, p0⟩ ⟨Nat.le_of_ble_eq_true rfl, Nat.le_of_ble_eq_true rfl, Nat.zero_le _, Nat.zero_le _⟩ (hasEntry_T hP hG hN ⟨by omega, by omega⟩ (fun z2 hz2 => aRes_i (rest := []) ?_))
  refine R_ifeq rfl ⟨by omega, by omega⟩ (fun c5 => ?_) (fun c5 => ?_)
  · exact absurd c5 (by omega)
  · refine R_aload_n rfl rfl ?_
    refine R_getfield rfl rfl (by omega) p0 rfl ?_
    refine R_iload_n rfl rfl ?_
    refine R_baload rfl (by omega) p4 ⟨by omega, by omega, by omega⟩ ?_
    refine R_ifeq rfl ⟨by omega, by omega⟩ (fun c14 => ?_) (fun c14 => ?_)
    · refine R_iconst rfl ?_
      exact R_ireturn rfl (fun _ => by omega) (Nat.zero_le _) (Nat.zero_le _) (hQ _ (by rw [bI_f hDn1 c14]; rfl))
    · refine R_iconst rfl ?_
      refine R_goto rfl ?_
      exact R_ireturn rfl (fun _ => by omega) (Nat.zero_le _) (Nat.zero_le _) (hQ _ (by rw [bI_t hDn1 c14]; rfl))
theorem lengthOf_T {d k N : Nat} {h : AH} {G : Gr} {Q : AQ} (hP : isPz h k G) (hG : okG G) (hN : k + 12 ≤ N) {e : Nat} (he : e < nE G) (hQ : ∀ z : Int, z = (eN G e : Nat) → Q (.inl (some (vI z))) h N) : T (d + 2) 33 [vR k, vI e] h N Q := by
  obtain ⟨F, Ln, Dn, Ac, Dw, Cl, ⟨p0, hS, p2, p3, p4, p5, p6, p7⟩, hE, hAc, hDw, hCl⟩ := id hP
  obtain ⟨hm4, hm36⟩ := hG.m
  have hn36 := nE36 hG
  have hnE : cnt G (qM G) = nE G := rfl
  obtain ⟨rb, bb, s0⟩ := hS.e0
  obtain ⟨hF, hLn, hDn⟩ := hE _ _ _ (ents_get he)
  have hDn1 : Dn ((e : Int)).toNat = bI (eB G e) := hDn
  have hD01 : Dn ((e : Int)).toNat = 0 ∨ Dn ((e : Int)).toNat = 1 := by
    rw [hDn1]
    exact bI01 _
  refine T_body (I := mi_X4_lengthOf) (lv := [_, _]) rfl (Nat.le_of_ble_eq_true rfl) rfl ?_
  refine R_aload_n rfl rfl ?_
  refine R_iload_n rfl rfl ?_
  refine R_vcall rfl rfl ⟨(by omega), _, p0⟩ ⟨Nat.le_of_ble_eq_true rfl, Nat.le_of_ble_eq_true rfl, Nat.zero_le _, Nat.zero_le _⟩ (hasEntry_T hP hG hN ⟨by omega, by omega⟩ (fun z2 hz2 => aRes_i (rest := []) ?_))
  refine R_ifeq rfl ⟨by omega, by omega⟩ (fun c5 => ?_) (fun c5 => ?_)
  · exact absurd c5 (by omega)
  · refine R_aload_n rfl rfl ?_
    refine R_getfield rfl rfl (by omega) p0 rfl ?_
    refine R_iload_n rfl rfl ?_
    refine R_iaload rfl (Or.inl (by omega)) p3 ⟨by omega, by omega, by omega⟩ ?_
    refine R_goto rfl ?_
    exact R_ireturn rfl (fun q => absurd q (by decide)) (Nat.zero_le _) (Nat.zero_le _) (hQ _ hLn)
theorem cellOf_T {d k N : Nat} {h : AH} {G : Gr} {Q : AQ} (hP : isPz h k G) (hG : okG G) (hN : k + 12 ≤ N) {e : Nat} (he : e < nE G) {i : Nat} {iz : Int} (hi : iz = i) (hQ : ∀ z : Int, z = (cel G e i : Nat) → Q (.inl (some (vI z))) h N) : T (d + 2) 34 [vR k, vI e, vI iz] h N Q := by
  obtain ⟨F, Ln, Dn, Ac, Dw, Cl, ⟨p0, hS, p2, p3, p4, p5, p6, p7⟩, hE, hAc, hDw, hCl⟩ := id hP
  obtain ⟨hm4, hm36⟩ := hG.m
  have hn36 := nE36 hG
  have hnE : cnt G (qM G) = nE G := rfl
  obtain ⟨rb, bb, s0⟩ := hS.e0
  obtain ⟨hF, hLn, hDn⟩ := hE _ _ _ (ents_get he)
  have hDn1 : Dn ((e : Int)).toNat = bI (eB G e) := hDn
  have hD01 : Dn ((e : Int)).toNat = 0 ∨ Dn ((e : Int)).toNat = 1 := by
    rw [hDn1]
    exact bI01 _
  subst hi
  refine T_body (I := mi_X4_cellOf) (lv := [_, _, _]) rfl (Nat.le_of_ble_eq_true rfl) rfl ?_
  refine R_aload_n rfl rfl ?_
  refine R_iload_n rfl rfl ?_
  refine R_vcall rfl rfl ⟨(by omega), _, p0⟩ ⟨Nat.le_of_ble_eq_true rfl, Nat.le_of_ble_eq_true rfl, Nat.zero_le _, Nat.zero_le _⟩ (hasEntry_T hP hG hN ⟨by omega, by omega⟩ (fun z2 hz2 => aRes_i (rest := []) ?_))
  refine R_ifne rfl ⟨by omega, by omega⟩ (fun c5 => ?_) (fun c5 => ?_)
  · refine R_aload_n rfl rfl ?_
    refine R_getfield rfl rfl (by omega) p0 rfl ?_
    refine R_iload_n rfl rfl ?_
    refine R_iaload rfl (Or.inl (by omega)) p2 ⟨by omega, by omega, by omega⟩ ?_
    refine R_iload_n rfl rfl ?_
    refine R_aload_n rfl rfl ?_
    refine R_getfield rfl rfl (by omega) p0 rfl ?_
    refine R_iload_n rfl rfl ?_
    refine R_baload rfl (by omega) p4 ⟨by omega, by omega, by omega⟩ ?_
    refine R_ifeq rfl ⟨by omega, by omega⟩ (fun c24 => ?_) (fun c24 => ?_)
    · refine R_iconst rfl ?_
      refine R_imul rfl ?_
      refine R_iadd rfl ?_
      exact R_ireturn rfl (fun q => absurd q (by decide)) (Nat.zero_le _) (Nat.zero_le _) (hQ _ (by first | exact celF (bI_f hDn1 c24) hF | exact celT (bI_t hDn1 c24) hF))
    · refine R_aload_n rfl rfl ?_
      refine R_getfield rfl rfl (by omega) p0 rfl ?_
      refine R_getfield rfl rfl (by omega) s0 rfl ?_
      refine R_goto rfl ?_
      refine R_imul rfl ?_
      refine R_iadd rfl ?_
      exact R_ireturn rfl (fun q => absurd q (by decide)) (Nat.zero_le _) (Nat.zero_le _) (hQ _ (by first | exact celF (bI_f hDn1 c24) hF | exact celT (bI_t hDn1 c24) hF))
  · exact absurd c5 (by omega)
theorem entryAt_T {d k N : Nat} {h : AH} {G : Gr} {Q : AQ} (hP : isPz h k G) (hG : okG G) (hN : k + 12 ≤ N) {b : Bool} {x : Nat} {xz : Int} (hxz : xz = x) (hx : x < qM G) (hQ : ∀ z : Int, z = acr G b x → Q (.inl (some (vI z))) h N) : T (d + 2) 36 [vR k, vI xz, vI (bI b)] h N Q := by
  obtain ⟨F, Ln, Dn, Ac, Dw, Cl, ⟨p0, hS, p2, p3, p4, p5, p6, p7⟩, hE, hAc, hDw, hCl⟩ := id hP
  obtain ⟨hm4, hm36⟩ := hG.m
  have hn36 := nE36 hG
  have hnE : cnt G (qM G) = nE G := rfl
  obtain ⟨rb, bb, s0⟩ := hS.e0
  subst hxz
  refine T_body (I := mi_X4_entryAt) (lv := [_, _, _]) rfl (Nat.le_of_ble_eq_true rfl) rfl ?_
  cases b
  · refine R_aload_n rfl rfl ?_
    refine R_getfield rfl rfl (by omega) p0 rfl ?_
    refine R_iload_n rfl rfl ?_
    refine R_vcall rfl rfl ⟨(by omega), hS.rcv⟩ ⟨Nat.le_of_ble_eq_true rfl, Nat.le_of_ble_eq_true rfl, Nat.zero_le _, Nat.zero_le _⟩ (hasCell_T hS hG (by omega) ⟨by omega, by omega⟩ (fun z5 hz5 => aRes_i (rest := []) ?_))
    refine R_ifne rfl ⟨by omega, by omega⟩ (fun c8 => ?_) (fun c8 => ?_)
    · refine R_iload_n rfl rfl ?_
      refine R_ifeq rfl ⟨by decide, by decide⟩ (fun _ => ?_) (fun c0 => absurd c0 (by decide))
      refine R_aload_n rfl rfl ?_
      refine R_getfield rfl rfl (by omega) p0 rfl ?_
      refine R_iload_n rfl rfl ?_
      refine R_iaload rfl (Or.inl (by omega)) p5 ⟨by omega, by omega, by omega⟩ ?_
      exact R_ireturn rfl (fun q => absurd q (by decide)) (Nat.zero_le _) (Nat.zero_le _) (hQ _ (hAc x hx))
    · exact absurd c8 (by omega)
  · refine R_aload_n rfl rfl ?_
    refine R_getfield rfl rfl (by omega) p0 rfl ?_
    refine R_iload_n rfl rfl ?_
    refine R_vcall rfl rfl ⟨(by omega), hS.rcv⟩ ⟨Nat.le_of_ble_eq_true rfl, Nat.le_of_ble_eq_true rfl, Nat.zero_le _, Nat.zero_le _⟩ (hasCell_T hS hG (by omega) ⟨by omega, by omega⟩ (fun z5 hz5 => aRes_i (rest := []) ?_))
    refine R_ifne rfl ⟨by omega, by omega⟩ (fun c8 => ?_) (fun c8 => ?_)
    · refine R_iload_n rfl rfl ?_
      refine R_ifeq rfl ⟨by decide, by decide⟩ (fun c0 => absurd c0 (by decide)) (fun _ => ?_)
      refine R_aload_n rfl rfl ?_
      refine R_getfield rfl rfl (by omega) p0 rfl ?_
      refine R_iload_n rfl rfl ?_
      refine R_iaload rfl (Or.inl (by omega)) p6 ⟨by omega, by omega, by omega⟩ ?_
      refine R_goto rfl ?_
      exact R_ireturn rfl (fun q => absurd q (by decide)) (Nat.zero_le _) (Nat.zero_le _) (hQ _ (hDw x hx))
    · exact absurd c8 (by omega)
theorem clueAt_T {d k N : Nat} {h : AH} {G : Gr} {Q : AQ} (hP : isPz h k G) (hG : okG G) (hN : k + 12 ≤ N) {x : Nat} {xz : Int} (hxz : xz = x) (hx : x < qM G) (hQ : ∀ z : Int, z = clue G x → Q (.inl (some (vI z))) h N) : T (d + 2) 37 [vR k, vI xz] h N Q := by
  obtain ⟨F, Ln, Dn, Ac, Dw, Cl, ⟨p0, hS, p2, p3, p4, p5, p6, p7⟩, hE, hAc, hDw, hCl⟩ := id hP
  obtain ⟨hm4, hm36⟩ := hG.m
  have hn36 := nE36 hG
  have hnE : cnt G (qM G) = nE G := rfl
  obtain ⟨rb, bb, s0⟩ := hS.e0
  subst hxz
  refine T_body (I := mi_X4_clueAt) (lv := [_, _]) rfl (Nat.le_of_ble_eq_true rfl) rfl ?_
  refine R_aload_n rfl rfl ?_
  refine R_getfield rfl rfl (by omega) p0 rfl ?_
  refine R_iload_n rfl rfl ?_
  refine R_vcall rfl rfl ⟨(by omega), hS.rcv⟩ ⟨Nat.le_of_ble_eq_true rfl, Nat.le_of_ble_eq_true rfl, Nat.zero_le _, Nat.zero_le _⟩ (hasCell_T hS hG (by omega) ⟨by omega, by omega⟩ (fun z5 hz5 => aRes_i (rest := []) ?_))
  refine R_ifeq rfl ⟨by omega, by omega⟩ (fun c8 => ?_) (fun c8 => ?_)
  · exact absurd c8 (by omega)
  · refine R_aload_n rfl rfl ?_
    refine R_getfield rfl rfl (by omega) p0 rfl ?_
    refine R_iload_n rfl rfl ?_
    refine R_iaload rfl (Or.inl (by omega)) p7 ⟨by omega, by omega, by omega⟩ ?_
    refine R_goto rfl ?_
    exact R_ireturn rfl (fun q => absurd q (by decide)) (Nat.zero_le _) (Nat.zero_le _) (hQ _ (hCl x hx))
theorem entriesAt_T {d k N : Nat} {h : AH} {G : Gr} {Q : AQ} (hP : isPz h k G) (hG : okG G) (hN : k + 12 ≤ N) {x : Nat} {xz : Int} (hxz : xz = x) (hx : x < qM G) (hQ : ∀ z : Int, z = (enC G x : Nat) → Q (.inl (some (vI z))) h N) : T (d + 2) 38 [vR k, vI xz] h N Q := by
  obtain ⟨F, Ln, Dn, Ac, Dw, Cl, ⟨p0, hS, p2, p3, p4, p5, p6, p7⟩, hE, hAc, hDw, hCl⟩ := id hP
  obtain ⟨hm4, hm36⟩ := hG.m
  have hn36 := nE36 hG
  have hnE : cnt G (qM G) = nE G := rfl
  obtain ⟨rb, bb, s0⟩ := hS.e0
  subst hxz
  refine T_body (I := mi_X4_entriesAt) (lv := [_, _]) rfl (Nat.le_of_ble_eq_true rfl) rfl ?_
  refine R_aload_n rfl rfl ?_
  refine R_getfield rfl rfl (by omega) p0 rfl ?_
  refine R_iload_n rfl rfl ?_
  refine R_vcall rfl rfl ⟨(by omega), hS.rcv⟩ ⟨Nat.le_of_ble_eq_true rfl, Nat.le_of_ble_eq_true rfl, Nat.zero_le _, Nat.zero_le _⟩ (hasCell_T hS hG (by omega) ⟨by omega, by omega⟩ (fun z5 hz5 => aRes_i (rest := []) ?_))
  refine R_ifne rfl ⟨by omega, by omega⟩ (fun c8 => ?_) (fun c8 => ?_)
  · refine R_aload_n rfl rfl ?_
    refine R_getfield rfl rfl (by omega) p0 rfl ?_
    have hA9 : Ac ((x : Int)).toNat = acr G false x := hAc x hx
    have hA8 := acr_cases hG (b := false) hx
    have hAb : -9 ≤ Ac ((x : Int)).toNat ∧ Ac ((x : Int)).toNat < 36 := by
      rw [hA9]
      rcases hA8 with ⟨q, -⟩ | ⟨n, q, q2, -⟩ <;> omega
    refine R_iload_n rfl rfl ?_
    refine R_iaload rfl (Or.inl (by omega)) p5 ⟨by omega, by omega, by omega⟩ ?_
    refine R_bipush rfl ?_
    refine R_icmpne rfl ⟨by omega, by omega⟩ ⟨by decide, by decide⟩ (fun c21 => ?_) (fun c21 => ?_)
    · have ha : inE G false x = true := by
        rcases hA8 with ⟨q, -⟩ | ⟨n, -, -, q⟩
        · exact absurd (hA9.trans q) c21
        · exact q
      refine R_iconst rfl ?_
      refine R_aload_n rfl rfl ?_
      refine R_getfield rfl rfl (by omega) p0 rfl ?_
      have hD9 : Dw ((x : Int)).toNat = acr G true x := hDw x hx
      have hD8 := acr_cases hG (b := true) hx
      have hDb : -9 ≤ Dw ((x : Int)).toNat ∧ Dw ((x : Int)).toNat < 36 := by
        rw [hD9]
        rcases hD8 with ⟨q, -⟩ | ⟨n, q, q2, -⟩ <;> omega
      refine R_iload_n rfl rfl ?_
      refine R_iaload rfl (Or.inl (by omega)) p6 ⟨by omega, by omega, by omega⟩ ?_
      refine R_bipush rfl ?_
      refine R_icmpne rfl ⟨by omega, by omega⟩ ⟨by decide, by decide⟩ (fun c37 => ?_) (fun c37 => ?_)
      · have hd : inE G true x = true := by
          rcases hD8 with ⟨q, -⟩ | ⟨n, -, -, q⟩
          · exact absurd (hD9.trans q) c37
          · exact q
        refine R_iconst rfl ?_
        refine R_iadd rfl ?_
        exact R_ireturn rfl (fun q => absurd q (by decide)) (Nat.zero_le _) (Nat.zero_le _) (hQ _ (by unfold enC; rw [ha, hd]; rfl))
      · have hd : inE G true x = false := by
          rcases hD8 with ⟨-, q⟩ | ⟨n, q, -, -⟩
          · exact q
          · omega
        refine R_iconst rfl ?_
        refine R_goto rfl ?_
        refine R_iadd rfl ?_
        exact R_ireturn rfl (fun q => absurd q (by decide)) (Nat.zero_le _) (Nat.zero_le _) (hQ _ (by unfold enC; rw [ha, hd]; rfl))
    · have ha : inE G false x = false := by
        rcases hA8 with ⟨-, q⟩ | ⟨n, q, -, -⟩
        · exact q
        · omega
      refine R_iconst rfl ?_
      refine R_goto rfl ?_
      refine R_aload_n rfl rfl ?_
      refine R_getfield rfl rfl (by omega) p0 rfl ?_
      have hD9 : Dw ((x : Int)).toNat = acr G true x := hDw x hx
      have hD8 := acr_cases hG (b := true) hx
      have hDb : -9 ≤ Dw ((x : Int)).toNat ∧ Dw ((x : Int)).toNat < 36 := by
        rw [hD9]
        rcases hD8 with ⟨q, -⟩ | ⟨n, q, q2, -⟩ <;> omega
      refine R_iload_n rfl rfl ?_
      refine R_iaload rfl (Or.inl (by omega)) p6 ⟨by omega, by omega, by omega⟩ ?_
      refine R_bipush rfl ?_
      refine R_icmpne rfl ⟨by omega, by omega⟩ ⟨by decide, by decide⟩ (fun c37 => ?_) (fun c37 => ?_)
      · have hd : inE G true x = true := by
          rcases hD8 with ⟨q, -⟩ | ⟨n, -, -, q⟩
          · exact absurd (hD9.trans q) c37
          · exact q
        refine R_iconst rfl ?_
        refine R_iadd rfl ?_
        exact R_ireturn rfl (fun q => absurd q (by decide)) (Nat.zero_le _) (Nat.zero_le _) (hQ _ (by unfold enC; rw [ha, hd]; rfl))
      · have hd : inE G true x = false := by
          rcases hD8 with ⟨-, q⟩ | ⟨n, q, -, -⟩
          · exact q
          · omega
        refine R_iconst rfl ?_
        refine R_goto rfl ?_
        refine R_iadd rfl ?_
        exact R_ireturn rfl (fun q => absurd q (by decide)) (Nat.zero_le _) (Nat.zero_le _) (hQ _ (by unfold enC; rw [ha, hd]; rfl))
  · exact absurd c8 (by omega)
theorem cie_loop {d k N : Nat} {h : AH} {G : Gr} {Q : AQ} (hP : isPz h k G) (hG : okG G) (hN : k + 12 ≤ N) {n : Nat} (hn2 : n ≤ 2) : ∀ (r i a : Nat), i + r = qM G → a ≤ i → (∀ z : Int, z = ((a + ctF (fun x => decide (enC G x = n)) r i : Nat) : Int) → Q (.inl (some (vI z))) h N) → Run mi_X4_cellsInEntries (T (d + 2)) Q 4 [some (vR k), some (vI n), some (vI a), some (vI i)] [] h N 0 0 := by
  obtain ⟨F, Ln, Dn, Ac, Dw, Cl, ⟨p0, hS, p2, p3, p4, p5, p6, p7⟩, hE, hAc, hDw, hCl⟩ := id hP
  obtain ⟨hm4, hm36⟩ := hG.m
  have hn36 := nE36 hG
  have hnE : cnt G (qM G) = nE G := rfl
  obtain ⟨rb, bb, s0⟩ := hS.e0
  intro r
  induction r using Nat.strongRecOn with
  | ind r ih =>
  intro i a hr ha hQ
  refine R_iload_n rfl rfl ?_
  refine R_aload_n rfl rfl ?_
  refine R_getfield rfl rfl (by omega) p0 rfl ?_
  refine R_vcall rfl rfl ⟨(by omega), hS.rcv⟩ ⟨Nat.le_of_ble_eq_true rfl, Nat.le_of_ble_eq_true rfl, Nat.zero_le _, Nat.zero_le _⟩ (cells_T hS hG (by omega) (fun z9 hz9 => aRes_i (rest := [_]) ?_))
  refine R_icmpge rfl ⟨by omega, by omega⟩ ⟨by omega, by omega⟩ (fun c12 => ?_) (fun c12 => ?_)
  · have hr0 : r = 0 := by omega
    subst hr0
    refine R_iload_n rfl rfl ?_
    exact R_ireturn rfl (fun q => absurd q (by decide)) (Nat.zero_le _) (Nat.zero_le _) (hQ _ rfl)
  · obtain ⟨r, rfl⟩ : ∃ r1, r = r1 + 1 := ⟨r - 1, by omega⟩
    refine R_aload_n rfl rfl ?_
    refine R_iload_n rfl rfl ?_
    have hen : enC G i ≤ 2 := by
      unfold enC
      cases inE G false i <;> cases inE G true i <;> decide
    refine R_vcall rfl rfl ⟨(by omega), _, p0⟩ ⟨Nat.le_of_ble_eq_true rfl, Nat.le_of_ble_eq_true rfl, Nat.zero_le _, Nat.zero_le _⟩ (entriesAt_T (x := i) hP hG hN (by omega) (by omega) (fun z17 hz17 => aRes_i (rest := []) ?_))
    refine R_iload_n rfl rfl ?_
    refine R_icmpne rfl ⟨by omega, by omega⟩ ⟨by omega, by omega⟩ (fun c21 => ?_) (fun c21 => ?_)
    · have hp : (fun x => decide (enC G x = n)) i = false := decide_eq_false (by omega)
      refine R_iinc (lv' := [_, _, _, _]) rfl rfl rfl ?_
      refine R_goto rfl ?_
      first | exact ih r (by omega) (i + 1) (a + 1) (by omega) (by omega) (fun z hz => hQ z (hz.trans (congrArg Nat.cast (ct_hit (p := (fun x => decide (enC G x = n))) hp)))) | exact ih r (by omega) (i + 1) a (by omega) (by omega) (fun z hz => hQ z (hz.trans (congrArg Nat.cast (ct_skip (p := (fun x => decide (enC G x = n))) hp))))
    · have hp : (fun x => decide (enC G x = n)) i = true := decide_eq_true (by omega)
      refine R_iinc (lv' := [_, _, _, _]) rfl rfl rfl ?_
      refine R_iinc (lv' := [_, _, _, _]) rfl rfl rfl ?_
      refine R_goto rfl ?_
      first | exact ih r (by omega) (i + 1) (a + 1) (by omega) (by omega) (fun z hz => hQ z (hz.trans (congrArg Nat.cast (ct_hit (p := (fun x => decide (enC G x = n))) hp)))) | exact ih r (by omega) (i + 1) a (by omega) (by omega) (fun z hz => hQ z (hz.trans (congrArg Nat.cast (ct_skip (p := (fun x => decide (enC G x = n))) hp))))
theorem cellsInEntries_T {d k N : Nat} {h : AH} {G : Gr} {Q : AQ} (hP : isPz h k G) (hG : okG G) (hN : k + 12 ≤ N) {n : Nat} (hn2 : n ≤ 2) (hQ : ∀ z : Int, z = (ciG G n : Nat) → Q (.inl (some (vI z))) h N) : T (d + 3) 39 [vR k, vI n] h N Q := by
  obtain ⟨F, Ln, Dn, Ac, Dw, Cl, ⟨p0, hS, p2, p3, p4, p5, p6, p7⟩, hE, hAc, hDw, hCl⟩ := id hP
  obtain ⟨hm4, hm36⟩ := hG.m
  have hn36 := nE36 hG
  have hnE : cnt G (qM G) = nE G := rfl
  obtain ⟨rb, bb, s0⟩ := hS.e0
  refine T_body (I := mi_X4_cellsInEntries) (lv := [_, _, _, _]) rfl (Nat.le_of_ble_eq_true rfl) rfl ?_
  refine R_iconst rfl ?_
  refine R_istore_n (lv' := [_, _, _, _]) rfl rfl ?_
  refine R_iconst rfl ?_
  refine R_istore_n (lv' := [_, _, _, _]) rfl rfl ?_
  exact cie_loop hP hG hN hn2 (qM G) 0 0 (Nat.zero_add _) (Nat.le_refl _) (fun z hz => hQ z (hz.trans (congrArg Nat.cast (Nat.zero_add _))))
theorem unc_loop {d k N : Nat} {h : AH} {G : Gr} {Q : AQ} (hP : isPz h k G) (hG : okG G) (hN : k + 12 ≤ N) {e : Nat} (he : e < nE G) : ∀ (r i a : Nat), i + r = eN G e → a ≤ i → (∀ z : Int, z = ((a + ctF (pUn G e) r i : Nat) : Int) → Q (.inl (some (vI z))) h N) → Run mi_X4_uncheckedIn (T (d + 2)) Q 4 [some (vR k), some (vI e), some (vI a), some (vI i)] [] h N 0 0 := by
  obtain ⟨F, Ln, Dn, Ac, Dw, Cl, ⟨p0, hS, p2, p3, p4, p5, p6, p7⟩, hE, hAc, hDw, hCl⟩ := id hP
  obtain ⟨hm4, hm36⟩ := hG.m
  have hn36 := nE36 hG
  have hnE : cnt G (qM G) = nE G := rfl
  obtain ⟨rb, bb, s0⟩ := hS.e0
  have he6 := eN_6 hG he
  intro r
  induction r using Nat.strongRecOn with
  | ind r ih =>
  intro i a hr ha hQ
  refine R_iload_n rfl rfl ?_
  refine R_aload_n rfl rfl ?_
  refine R_iload_n rfl rfl ?_
  refine R_vcall rfl rfl ⟨(by omega), _, p0⟩ ⟨Nat.le_of_ble_eq_true rfl, Nat.le_of_ble_eq_true rfl, Nat.zero_le _, Nat.zero_le _⟩ (lengthOf_T hP hG hN he (fun z7 hz7 => aRes_i (rest := [_]) ?_))
  refine R_icmpge rfl ⟨by omega, by omega⟩ ⟨by omega, by omega⟩ (fun c10 => ?_) (fun c10 => ?_)
  · have hr0 : r = 0 := by omega
    subst hr0
    refine R_iload_n rfl rfl ?_
    exact R_ireturn rfl (fun q => absurd q (by decide)) (Nat.zero_le _) (Nat.zero_le _) (hQ _ rfl)
  · obtain ⟨r, rfl⟩ : ∃ r1, r = r1 + 1 := ⟨r - 1, by omega⟩
    refine R_aload_n rfl rfl ?_
    refine R_aload_n rfl rfl ?_
    refine R_iload_n rfl rfl ?_
    refine R_iload_n rfl rfl ?_
    refine R_vcall rfl rfl ⟨(by omega), _, p0⟩ ⟨Nat.le_of_ble_eq_true rfl, Nat.le_of_ble_eq_true rfl, Nat.zero_le _, Nat.zero_le _⟩ (cellOf_T hP hG hN he (i := i) (by omega) (fun z17 hz17 => aRes_i (rest := [_]) ?_))
    have hcl17 := cel_lt hG he (i := i) (by omega)
    refine R_vcall rfl rfl ⟨(by omega), _, p0⟩ ⟨Nat.le_of_ble_eq_true rfl, Nat.le_of_ble_eq_true rfl, Nat.zero_le _, Nat.zero_le _⟩ (entriesAt_T (x := cel G e i) hP hG hN (by omega) (by omega) (fun z20 hz20 => aRes_i (rest := []) ?_))
    have hen : enC G (cel G e i) ≤ 2 := by
      unfold enC
      cases inE G false (cel G e i) <;> cases inE G true (cel G e i) <;> decide
    refine R_iconst rfl ?_
    refine R_icmpne rfl ⟨by omega, by omega⟩ ⟨by decide, by decide⟩ (fun c24 => ?_) (fun c24 => ?_)
    · have hp : pUn G e i = false := decide_eq_false (by omega)
      refine R_iinc (lv' := [_, _, _, _]) rfl rfl rfl ?_
      refine R_goto rfl ?_
      first | exact ih r (by omega) (i + 1) (a + 1) (by omega) (by omega) (fun z hz => hQ z (hz.trans (congrArg Nat.cast (ct_hit (p := (pUn G e)) hp)))) | exact ih r (by omega) (i + 1) a (by omega) (by omega) (fun z hz => hQ z (hz.trans (congrArg Nat.cast (ct_skip (p := (pUn G e)) hp))))
    · have hp : pUn G e i = true := decide_eq_true (by omega)
      refine R_iinc (lv' := [_, _, _, _]) rfl rfl rfl ?_
      refine R_iinc (lv' := [_, _, _, _]) rfl rfl rfl ?_
      refine R_goto rfl ?_
      first | exact ih r (by omega) (i + 1) (a + 1) (by omega) (by omega) (fun z hz => hQ z (hz.trans (congrArg Nat.cast (ct_hit (p := (pUn G e)) hp)))) | exact ih r (by omega) (i + 1) a (by omega) (by omega) (fun z hz => hQ z (hz.trans (congrArg Nat.cast (ct_skip (p := (pUn G e)) hp))))
theorem uncheckedIn_T {d k N : Nat} {h : AH} {G : Gr} {Q : AQ} (hP : isPz h k G) (hG : okG G) (hN : k + 12 ≤ N) {e : Nat} (he : e < nE G) (hQ : ∀ z : Int, z = (unG G e : Nat) → Q (.inl (some (vI z))) h N) : T (d + 3) 40 [vR k, vI e] h N Q := by
  obtain ⟨F, Ln, Dn, Ac, Dw, Cl, ⟨p0, hS, p2, p3, p4, p5, p6, p7⟩, hE, hAc, hDw, hCl⟩ := id hP
  obtain ⟨hm4, hm36⟩ := hG.m
  have hn36 := nE36 hG
  have hnE : cnt G (qM G) = nE G := rfl
  obtain ⟨rb, bb, s0⟩ := hS.e0
  refine T_body (I := mi_X4_uncheckedIn) (lv := [_, _, _, _]) rfl (Nat.le_of_ble_eq_true rfl) rfl ?_
  refine R_iconst rfl ?_
  refine R_istore_n (lv' := [_, _, _, _]) rfl rfl ?_
  refine R_iconst rfl ?_
  refine R_istore_n (lv' := [_, _, _, _]) rfl rfl ?_
  exact unc_loop hP hG hN he (eN G e) 0 0 (Nat.zero_add _) (Nat.le_refl _) (fun z hz => hQ z (hz.trans (congrArg Nat.cast (Nat.zero_add _))))
theorem emp_loop {d k N : Nat} {h : AH} {G : Gr} {Q : AQ} (hP : isPz h k G) (hG : okG G) (hN : k + 12 ≤ N) {e : Nat} (he : e < nE G) : ∀ (r i a : Nat), i + r = eN G e → a ≤ i → (∀ z : Int, z = ((a + ctF (pEm G e) r i : Nat) : Int) → Q (.inl (some (vI z))) h N) → Run mi_X4_emptyIn (T (d + 2)) Q 4 [some (vR k), some (vI e), some (vI a), some (vI i)] [] h N 0 0 := by
  obtain ⟨F, Ln, Dn, Ac, Dw, Cl, ⟨p0, hS, p2, p3, p4, p5, p6, p7⟩, hE, hAc, hDw, hCl⟩ := id hP
  obtain ⟨hm4, hm36⟩ := hG.m
  have hn36 := nE36 hG
  have hnE : cnt G (qM G) = nE G := rfl
  obtain ⟨rb, bb, s0⟩ := hS.e0
  have he6 := eN_6 hG he
  intro r
  induction r using Nat.strongRecOn with
  | ind r ih =>
  intro i a hr ha hQ
  refine R_iload_n rfl rfl ?_
  refine R_aload_n rfl rfl ?_
  refine R_iload_n rfl rfl ?_
  refine R_vcall rfl rfl ⟨(by omega), _, p0⟩ ⟨Nat.le_of_ble_eq_true rfl, Nat.le_of_ble_eq_true rfl, Nat.zero_le _, Nat.zero_le _⟩ (lengthOf_T hP hG hN he (fun z7 hz7 => aRes_i (rest := [_]) ?_))
  refine R_icmpge rfl ⟨by omega, by omega⟩ ⟨by omega, by omega⟩ (fun c10 => ?_) (fun c10 => ?_)
  · have hr0 : r = 0 := by omega
    subst hr0
    refine R_iload_n rfl rfl ?_
    exact R_ireturn rfl (fun q => absurd q (by decide)) (Nat.zero_le _) (Nat.zero_le _) (hQ _ rfl)
  · obtain ⟨r, rfl⟩ : ∃ r1, r = r1 + 1 := ⟨r - 1, by omega⟩
    refine R_aload_n rfl rfl ?_
    refine R_getfield rfl rfl (by omega) p0 rfl ?_
    refine R_aload_n rfl rfl ?_
    refine R_iload_n rfl rfl ?_
    refine R_iload_n rfl rfl ?_
    refine R_vcall rfl rfl ⟨(by omega), _, p0⟩ ⟨Nat.le_of_ble_eq_true rfl, Nat.le_of_ble_eq_true rfl, Nat.zero_le _, Nat.zero_le _⟩ (cellOf_T hP hG hN he (i := i) (by omega) (fun z20 hz20 => aRes_i (rest := [_]) ?_))
    have hcl20 := cel_lt hG he (i := i) (by omega)
    refine R_vcall rfl rfl ⟨(by omega), hS.rcv⟩ ⟨Nat.le_of_ble_eq_true rfl, Nat.le_of_ble_eq_true rfl, Nat.zero_le _, Nat.zero_le _⟩ (letterAt_T hS hG (by omega) ⟨by omega, by omega⟩ (fun z23 hz23 => aRes_i (rest := []) ?_))
    have hl23 : z23 = qL G (cel G e i) := by
      rcases hz23 with ⟨-, -, q⟩ | ⟨q, -⟩
      · exact q.trans (congrArg (qL G) (by omega))
      · exact absurd (by omega) q
    have hlr23 : 0 ≤ z23 ∧ z23 ≤ 122 := by
      rcases hG.2.2.1 (cel G e i) (by omega) with q | q
      · omega
      · obtain ⟨q1, q2⟩ := q
        omega
    refine R_ifne rfl ⟨by omega, by omega⟩ (fun c26 => ?_) (fun c26 => ?_)
    · have hp : pEm G e i = false := decide_eq_false (by omega)
      refine R_iinc (lv' := [_, _, _, _]) rfl rfl rfl ?_
      refine R_goto rfl ?_
      first | exact ih r (by omega) (i + 1) (a + 1) (by omega) (by omega) (fun z hz => hQ z (hz.trans (congrArg Nat.cast (ct_hit (p := (pEm G e)) hp)))) | exact ih r (by omega) (i + 1) a (by omega) (by omega) (fun z hz => hQ z (hz.trans (congrArg Nat.cast (ct_skip (p := (pEm G e)) hp))))
    · have hp : pEm G e i = true := decide_eq_true (by omega)
      refine R_iinc (lv' := [_, _, _, _]) rfl rfl rfl ?_
      refine R_iinc (lv' := [_, _, _, _]) rfl rfl rfl ?_
      refine R_goto rfl ?_
      first | exact ih r (by omega) (i + 1) (a + 1) (by omega) (by omega) (fun z hz => hQ z (hz.trans (congrArg Nat.cast (ct_hit (p := (pEm G e)) hp)))) | exact ih r (by omega) (i + 1) a (by omega) (by omega) (fun z hz => hQ z (hz.trans (congrArg Nat.cast (ct_skip (p := (pEm G e)) hp))))
theorem emptyIn_T {d k N : Nat} {h : AH} {G : Gr} {Q : AQ} (hP : isPz h k G) (hG : okG G) (hN : k + 12 ≤ N) {e : Nat} (he : e < nE G) (hQ : ∀ z : Int, z = (emG G e : Nat) → Q (.inl (some (vI z))) h N) : T (d + 3) 41 [vR k, vI e] h N Q := by
  obtain ⟨F, Ln, Dn, Ac, Dw, Cl, ⟨p0, hS, p2, p3, p4, p5, p6, p7⟩, hE, hAc, hDw, hCl⟩ := id hP
  obtain ⟨hm4, hm36⟩ := hG.m
  have hn36 := nE36 hG
  have hnE : cnt G (qM G) = nE G := rfl
  obtain ⟨rb, bb, s0⟩ := hS.e0
  refine T_body (I := mi_X4_emptyIn) (lv := [_, _, _, _]) rfl (Nat.le_of_ble_eq_true rfl) rfl ?_
  refine R_iconst rfl ?_
  refine R_istore_n (lv' := [_, _, _, _]) rfl rfl ?_
  refine R_iconst rfl ?_
  refine R_istore_n (lv' := [_, _, _, _]) rfl rfl ?_
  exact emp_loop hP hG hN he (eN G e) 0 0 (Nat.zero_add _) (Nat.le_refl _) (fun z hz => hQ z (hz.trans (congrArg Nat.cast (Nat.zero_add _))))
