/-! ===== a command of five digits ===== -/
def g2 (g : Nat) : Nat := g / 1000 % 10
def g3 (g : Nat) : Nat := g / 100 % 10
def g4 (g : Nat) : Nat := g / 10 % 10
def g5 (g : Nat) : Nat := g % 10
def gF9 (g : Nat) : Nat := 10 * g2 g + g3 g
def gB9 (g : Nat) : Nat := 10 * g4 g + g5 g
def gL9 (g : Nat) : Nat := 100 * g3 g + gB9 g
def cbF (G : Gr) (c a b : Nat) : Bool × Gr := if a ≤ 1 ∧ b ≤ 1 ∧ qPb G c (decide (a = 1)) = true then (true, setBr G c (decide (a = 1)) (decide (b = 1))) else (false, G)
def cmF (G : Gr) (g : Nat) : Bool × Gr := match g / 10000 with
  | 1 => plF G (gF9 g) (gB9 g)
  | 2 => cbF G (gF9 g) (g4 g) (g5 g)
  | 3 => if g5 g = 0 then feF G (gF9 g) (g4 g) else (false, G)
  | 4 => if gB9 g = 0 then ceF G (gF9 g) else (false, G)
  | 5 => (decide (g3 g = 0) && decide (gB9 g = 0) && ruG G (g2 g), G)
  | 6 => (decide (g2 g = 0) && decide (gL9 g ≤ (rdS G false (gL9 g)).1), G)
  | 7 => (decide (g4 g = 0) && decide (gF9 g < nE G) && decide (g5 g ≤ fcG G (gF9 g)), G)
  | 8 => (decide (g4 g = 0) && decide (gF9 g < qM G) && decide (enC G (gF9 g) = g5 g), G)
  | 9 => (decide (gF9 g = 0) && decide (nE G = gB9 g), G)
  | _ => (false, G)
theorem isSe_fr {h h' : AH} (hE : isSe h) (he : ∀ j, 116 ≤ j → j < 119 → h' j = h j) : isSe h' := by
  obtain ⟨e, l, f, g, us, P, FP, u0, u1, u2⟩ := hE
  exact ⟨e, l, f, g, us, P, FP, (he _ (by omega) (by omega)).trans u0, (he _ (by omega) (by omega)).trans u1, (he _ (by omega) (by omega)).trans u2⟩
theorem ruG_5 {G : Gr} {r : Nat} (h : 5 ≤ r) : ruG G r = false := by
  match r, h with
  | r + 5, _ => rfl
theorem ak {d k N r : Nat} {h : AH} {G : Gr} {Q : AQ} (hP : isPz h k G) (hG : okG G) (hN : k + 12 ≤ N) (hr : r < 10) (hQ : ∀ z : Int, z = bI (ruG G r) → Q (.inl (some (vI z))) h N) : T (d + 5) 48 [vR k, vI r] h N Q := by
  rcases Nat.lt_or_ge r 5 with q | q
  · exact areKept_T hP hG hN q hQ
  · exact areKept_X ⟨q, by omega⟩ (hQ 0 (by rw [ruG_5 q]; rfl))
set_option maxRecDepth 8000 in
theorem succeeds_T {d k N g : Nat} {h : AH} {G : Gr} {Q : AQ} (hP : isPz h k G) (hG : okG G) (hk : k + 12 ≤ 116) (hN : 119 ≤ N) (hst : isStp h) (hSe : isSe h) (hg : g < 100000) (hQ : ∀ h', isPz h' k (cmF G g).2 → isSe h' → (∀ j, (j < k ∨ k + 12 ≤ j) → (j < 116 ∨ 119 ≤ j) → h' j = h j) → Q (.inl (some (vI (bI (cmF G g).1)))) h' N) : T (d + 30) 0 [vR k, vR 116, vI g] h N Q := by
  obtain ⟨F, Ln, Dn, Ac, Dw, Cl, ⟨p0, hS, p2, p3, p4, p5, p6, p7⟩, hE, hAc, hDw, hCl⟩ := id hP
  obtain ⟨hm4, hm36⟩ := hG.m
  have hn36 := nE36 hG
  have hnE : cnt G (qM G) = nE G := rfl
  obtain ⟨rb, bb, s0⟩ := hS.e0
  have hW8 := hG.2.2.2.2.1
  have e2 : g2 g = g / 1000 % 10 := rfl
  have e3 : g3 g = g / 100 % 10 := rfl
  have e4 : g4 g = g / 10 % 10 := rfl
  have e5 : g5 g = g % 10 := rfl
  have eA : gF9 g = 10 * g2 g + g3 g := rfl
  have eB : gB9 g = 10 * g4 g + g5 g := rfl
  have eL : gL9 g = 100 * g3 g + gB9 g := rfl
  have b2 : g2 g < 10 := Nat.mod_lt _ (by decide)
  have b3 : g3 g < 10 := Nat.mod_lt _ (by decide)
  have b4 : g4 g < 10 := Nat.mod_lt _ (by decide)
  have b5 : g5 g < 10 := Nat.mod_lt _ (by decide)
  obtain ⟨e8, l8, f8, g8, us, P, FP, u0, u1, u2⟩ := id hSe
  have hK : Run mi_X0_succeeds (T (d + 29)) Q 62 [some (vR k), some (vR 116), some (vI g), some (vI (g2 g)), some (vI (g3 g)), some (vI (g4 g)), some (vI (g5 g)), some (vI (gF9 g)), some (vI (gB9 g)), some (vI (gL9 g))] [] h N 0 0 := by
    clear e2 e3 e4 e5
    refine R_iload_n rfl rfl ?_
    refine R_sipush rfl ?_
    refine R_idiv rfl ⟨by omega, by omega, by omega, by omega⟩ ?_
    refine R_switch rfl ⟨by omega, by omega⟩ (fun cd67 => ?_) ⟨fun c67 => ?_, fun c67 => ?_, fun c67 => ?_, fun c67 => ?_, fun c67 => ?_, fun c67 => ?_, fun c67 => ?_, fun c67 => ?_, fun c67 => ?_, trivial⟩
    · have hq : cmF G g = (false, G) := by
        unfold cmF
        have : g / 10000 = 0 := by omega
        rw [this]
        rfl
      rw [hq] at hQ
      refine R_iconst rfl ?_
      exact R_ireturn rfl (fun _ => by first | exact Or.inl rfl | exact Or.inr rfl | omega) (Nat.zero_le _) (Nat.zero_le _) (by first | exact (hQ h1 hP1 (isSe_fr hSe (fun j q1 q2 => f1 j (by omega))) (fun j q1 _ => f1 j q1)) | exact (hQ h1 (isPz_fr hP (fun j q1 q2 => f1 j (by omega))) hH1.se (fun j _ q2 => f1 j q2)) | exact (hQ h hP hSe (fun j _ _ => rfl)))
    · refine R_aload_n rfl rfl ?_
      refine R_iload rfl rfl ?_
      refine R_iload rfl rfl ?_
      refine R_scall rfl rfl ⟨Nat.le_of_ble_eq_true rfl, Nat.le_of_ble_eq_true rfl, Nat.zero_le _, Nat.zero_le _⟩ (putsLetter_T (c := gF9 g) (n := gB9 g) hP hG (by omega) (by omega) (by omega) (fun h1 hP1 f1 => aRes_i (rest := []) ?_))
      have hq : cmF G g = plF G (gF9 g) (gB9 g) := by
        unfold cmF
        rw [show g / 10000 = 1 by omega]
        rfl
      rw [← hq] at hP1 ⊢
      have h01 := bI01 (cmF G g).1
      exact R_ireturn rfl (fun _ => by first | exact Or.inl rfl | exact Or.inr rfl | omega) (Nat.zero_le _) (Nat.zero_le _) (by first | exact (hQ h1 hP1 (isSe_fr hSe (fun j q1 q2 => f1 j (by omega))) (fun j q1 _ => f1 j q1)) | exact (hQ h1 (isPz_fr hP (fun j q1 q2 => f1 j (by omega))) hH1.se (fun j _ q2 => f1 j q2)) | exact (hQ h hP hSe (fun j _ _ => rfl)))
    · refine R_iload rfl rfl ?_
      refine R_iconst rfl ?_
      refine R_icmpgt rfl ⟨by omega, by omega⟩ ⟨by decide, by decide⟩ (fun c128 => ?_) (fun c128 => ?_)
      · have hq : cmF G g = (false, G) := by
          unfold cmF
          rw [show g / 10000 = 2 by omega]
          exact if_neg (fun q => by have := q.1; omega)
        rw [hq] at hQ
        refine R_iconst rfl ?_
        exact R_ireturn rfl (fun _ => by first | exact Or.inl rfl | exact Or.inr rfl | omega) (Nat.zero_le _) (Nat.zero_le _) (by first | exact (hQ h1 hP1 (isSe_fr hSe (fun j q1 q2 => f1 j (by omega))) (fun j q1 _ => f1 j q1)) | exact (hQ h1 (isPz_fr hP (fun j q1 q2 => f1 j (by omega))) hH1.se (fun j _ q2 => f1 j q2)) | exact (hQ h hP hSe (fun j _ _ => rfl)))
      · refine R_iload rfl rfl ?_
        refine R_iconst rfl ?_
        refine R_icmpgt rfl ⟨by omega, by omega⟩ ⟨by decide, by decide⟩ (fun c134 => ?_) (fun c134 => ?_)
        · have hq : cmF G g = (false, G) := by
            unfold cmF
            rw [show g / 10000 = 2 by omega]
            exact if_neg (fun q => by have := q.2.1; omega)
          rw [hq] at hQ
          refine R_iconst rfl ?_
          exact R_ireturn rfl (fun _ => by first | exact Or.inl rfl | exact Or.inr rfl | omega) (Nat.zero_le _) (Nat.zero_le _) (by first | exact (hQ h1 hP1 (isSe_fr hSe (fun j q1 q2 => f1 j (by omega))) (fun j q1 _ => f1 j q1)) | exact (hQ h1 (isPz_fr hP (fun j q1 q2 => f1 j (by omega))) hH1.se (fun j _ q2 => f1 j q2)) | exact (hQ h hP hSe (fun j _ _ => rfl)))
        · refine R_aload_n rfl rfl ?_
          refine R_iload rfl rfl ?_
          refine R_iload rfl rfl ?_
          refine R_iconst rfl ?_
          refine R_icmpne rfl ⟨by omega, by omega⟩ ⟨by decide, by decide⟩ (fun c143 => ?_) (fun c143 => ?_)
          · refine R_iconst rfl ?_
            refine R_iload rfl rfl ?_
            refine R_iconst rfl ?_
            refine R_icmpne rfl ⟨by omega, by omega⟩ ⟨by decide, by decide⟩ (fun c154 => ?_) (fun c154 => ?_)
            · refine R_iconst rfl ?_
              refine R_vcall rfl rfl ⟨(by omega), _, p0⟩ ⟨Nat.le_of_ble_eq_true rfl, Nat.le_of_ble_eq_true rfl, Nat.zero_le _, Nat.zero_le _⟩ (changeBar_T (c := gF9 g) (b := false) (v := false) hP.a hG (by omega) ⟨by omega, by omega⟩ (fun _ hpl h1 hP1 f1 => aRes_i (rest := []) ?_) (fun hpl => aRes_i (rest := []) ?_))
              · have hq : cmF G g = (true, setBr G (gF9 g) false false) := by
                  unfold cmF
                  rw [show g / 10000 = 2 by omega]
                  show cbF G (gF9 g) (g4 g) (g5 g) = _
                  unfold cbF
                  rw [decide_eq_false (show ¬ g4 g = 1 by omega), decide_eq_false (show ¬ g5 g = 1 by omega), if_pos ⟨by omega, by omega, qPb_iff.mpr hpl⟩]
                rw [hq] at hQ
                refine R_ifeq rfl ⟨by decide, by decide⟩ (fun c0 => absurd c0 (by decide)) (fun _ => ?_)
                refine R_iconst rfl ?_
                refine R_goto rfl ?_
                exact R_ireturn rfl (fun _ => by first | exact Or.inl rfl | exact Or.inr rfl | omega) (Nat.zero_le _) (Nat.zero_le _) (by first | exact (hQ h1 hP1 (isSe_fr hSe (fun j q1 q2 => f1 j (by omega))) (fun j q1 _ => f1 j q1)) | exact (hQ h1 (isPz_fr hP (fun j q1 q2 => f1 j (by omega))) hH1.se (fun j _ q2 => f1 j q2)) | exact (hQ h hP hSe (fun j _ _ => rfl)))
              · have hq : cmF G g = (false, G) := by
                  unfold cmF
                  rw [show g / 10000 = 2 by omega]
                  show cbF G (gF9 g) (g4 g) (g5 g) = _
                  unfold cbF
                  rw [decide_eq_false (show ¬ g4 g = 1 by omega), if_neg (fun q => hpl ⟨by omega, qPb_iff.mp q.2.2⟩)]
                rw [hq] at hQ
                refine R_ifeq rfl ⟨by decide, by decide⟩ (fun _ => ?_) (fun c0 => absurd c0 (by decide))
                refine R_iconst rfl ?_
                exact R_ireturn rfl (fun _ => by first | exact Or.inl rfl | exact Or.inr rfl | omega) (Nat.zero_le _) (Nat.zero_le _) (by first | exact (hQ h1 hP1 (isSe_fr hSe (fun j q1 q2 => f1 j (by omega))) (fun j q1 _ => f1 j q1)) | exact (hQ h1 (isPz_fr hP (fun j q1 q2 => f1 j (by omega))) hH1.se (fun j _ q2 => f1 j q2)) | exact (hQ h hP hSe (fun j _ _ => rfl)))
            · refine R_iconst rfl ?_
              refine R_goto rfl ?_
              refine R_vcall rfl rfl ⟨(by omega), _, p0⟩ ⟨Nat.le_of_ble_eq_true rfl, Nat.le_of_ble_eq_true rfl, Nat.zero_le _, Nat.zero_le _⟩ (changeBar_T (c := gF9 g) (b := false) (v := true) hP.a hG (by omega) ⟨by omega, by omega⟩ (fun _ hpl h1 hP1 f1 => aRes_i (rest := []) ?_) (fun hpl => aRes_i (rest := []) ?_))
              · have hq : cmF G g = (true, setBr G (gF9 g) false true) := by
                  unfold cmF
                  rw [show g / 10000 = 2 by omega]
                  show cbF G (gF9 g) (g4 g) (g5 g) = _
                  unfold cbF
                  rw [decide_eq_false (show ¬ g4 g = 1 by omega), decide_eq_true (show g5 g = 1 by omega), if_pos ⟨by omega, by omega, qPb_iff.mpr hpl⟩]
                rw [hq] at hQ
                refine R_ifeq rfl ⟨by decide, by decide⟩ (fun c0 => absurd c0 (by decide)) (fun _ => ?_)
                refine R_iconst rfl ?_
                refine R_goto rfl ?_
                exact R_ireturn rfl (fun _ => by first | exact Or.inl rfl | exact Or.inr rfl | omega) (Nat.zero_le _) (Nat.zero_le _) (by first | exact (hQ h1 hP1 (isSe_fr hSe (fun j q1 q2 => f1 j (by omega))) (fun j q1 _ => f1 j q1)) | exact (hQ h1 (isPz_fr hP (fun j q1 q2 => f1 j (by omega))) hH1.se (fun j _ q2 => f1 j q2)) | exact (hQ h hP hSe (fun j _ _ => rfl)))
              · have hq : cmF G g = (false, G) := by
                  unfold cmF
                  rw [show g / 10000 = 2 by omega]
                  show cbF G (gF9 g) (g4 g) (g5 g) = _
                  unfold cbF
                  rw [decide_eq_false (show ¬ g4 g = 1 by omega), if_neg (fun q => hpl ⟨by omega, qPb_iff.mp q.2.2⟩)]
                rw [hq] at hQ
                refine R_ifeq rfl ⟨by decide, by decide⟩ (fun _ => ?_) (fun c0 => absurd c0 (by decide))
                refine R_iconst rfl ?_
                exact R_ireturn rfl (fun _ => by first | exact Or.inl rfl | exact Or.inr rfl | omega) (Nat.zero_le _) (Nat.zero_le _) (by first | exact (hQ h1 hP1 (isSe_fr hSe (fun j q1 q2 => f1 j (by omega))) (fun j q1 _ => f1 j q1)) | exact (hQ h1 (isPz_fr hP (fun j q1 q2 => f1 j (by omega))) hH1.se (fun j _ q2 => f1 j q2)) | exact (hQ h hP hSe (fun j _ _ => rfl)))
          · refine R_iconst rfl ?_
            refine R_goto rfl ?_
            refine R_iload rfl rfl ?_
            refine R_iconst rfl ?_
            refine R_icmpne rfl ⟨by omega, by omega⟩ ⟨by decide, by decide⟩ (fun c154 => ?_) (fun c154 => ?_)
            · refine R_iconst rfl ?_
              refine R_vcall rfl rfl ⟨(by omega), _, p0⟩ ⟨Nat.le_of_ble_eq_true rfl, Nat.le_of_ble_eq_true rfl, Nat.zero_le _, Nat.zero_le _⟩ (changeBar_T (c := gF9 g) (b := true) (v := false) hP.a hG (by omega) ⟨by omega, by omega⟩ (fun _ hpl h1 hP1 f1 => aRes_i (rest := []) ?_) (fun hpl => aRes_i (rest := []) ?_))
              · have hq : cmF G g = (true, setBr G (gF9 g) true false) := by
                  unfold cmF
                  rw [show g / 10000 = 2 by omega]
                  show cbF G (gF9 g) (g4 g) (g5 g) = _
                  unfold cbF
                  rw [decide_eq_true (show g4 g = 1 by omega), decide_eq_false (show ¬ g5 g = 1 by omega), if_pos ⟨by omega, by omega, qPb_iff.mpr hpl⟩]
                rw [hq] at hQ
                refine R_ifeq rfl ⟨by decide, by decide⟩ (fun c0 => absurd c0 (by decide)) (fun _ => ?_)
                refine R_iconst rfl ?_
                refine R_goto rfl ?_
                exact R_ireturn rfl (fun _ => by first | exact Or.inl rfl | exact Or.inr rfl | omega) (Nat.zero_le _) (Nat.zero_le _) (by first | exact (hQ h1 hP1 (isSe_fr hSe (fun j q1 q2 => f1 j (by omega))) (fun j q1 _ => f1 j q1)) | exact (hQ h1 (isPz_fr hP (fun j q1 q2 => f1 j (by omega))) hH1.se (fun j _ q2 => f1 j q2)) | exact (hQ h hP hSe (fun j _ _ => rfl)))
              · have hq : cmF G g = (false, G) := by
                  unfold cmF
                  rw [show g / 10000 = 2 by omega]
                  show cbF G (gF9 g) (g4 g) (g5 g) = _
                  unfold cbF
                  rw [decide_eq_true (show g4 g = 1 by omega), if_neg (fun q => hpl ⟨by omega, qPb_iff.mp q.2.2⟩)]
                rw [hq] at hQ
                refine R_ifeq rfl ⟨by decide, by decide⟩ (fun _ => ?_) (fun c0 => absurd c0 (by decide))
                refine R_iconst rfl ?_
                exact R_ireturn rfl (fun _ => by first | exact Or.inl rfl | exact Or.inr rfl | omega) (Nat.zero_le _) (Nat.zero_le _) (by first | exact (hQ h1 hP1 (isSe_fr hSe (fun j q1 q2 => f1 j (by omega))) (fun j q1 _ => f1 j q1)) | exact (hQ h1 (isPz_fr hP (fun j q1 q2 => f1 j (by omega))) hH1.se (fun j _ q2 => f1 j q2)) | exact (hQ h hP hSe (fun j _ _ => rfl)))
            · refine R_iconst rfl ?_
              refine R_goto rfl ?_
              refine R_vcall rfl rfl ⟨(by omega), _, p0⟩ ⟨Nat.le_of_ble_eq_true rfl, Nat.le_of_ble_eq_true rfl, Nat.zero_le _, Nat.zero_le _⟩ (changeBar_T (c := gF9 g) (b := true) (v := true) hP.a hG (by omega) ⟨by omega, by omega⟩ (fun _ hpl h1 hP1 f1 => aRes_i (rest := []) ?_) (fun hpl => aRes_i (rest := []) ?_))
              · have hq : cmF G g = (true, setBr G (gF9 g) true true) := by
                  unfold cmF
                  rw [show g / 10000 = 2 by omega]
                  show cbF G (gF9 g) (g4 g) (g5 g) = _
                  unfold cbF
                  rw [decide_eq_true (show g4 g = 1 by omega), decide_eq_true (show g5 g = 1 by omega), if_pos ⟨by omega, by omega, qPb_iff.mpr hpl⟩]
                rw [hq] at hQ
                refine R_ifeq rfl ⟨by decide, by decide⟩ (fun c0 => absurd c0 (by decide)) (fun _ => ?_)
                refine R_iconst rfl ?_
                refine R_goto rfl ?_
                exact R_ireturn rfl (fun _ => by first | exact Or.inl rfl | exact Or.inr rfl | omega) (Nat.zero_le _) (Nat.zero_le _) (by first | exact (hQ h1 hP1 (isSe_fr hSe (fun j q1 q2 => f1 j (by omega))) (fun j q1 _ => f1 j q1)) | exact (hQ h1 (isPz_fr hP (fun j q1 q2 => f1 j (by omega))) hH1.se (fun j _ q2 => f1 j q2)) | exact (hQ h hP hSe (fun j _ _ => rfl)))
              · have hq : cmF G g = (false, G) := by
                  unfold cmF
                  rw [show g / 10000 = 2 by omega]
                  show cbF G (gF9 g) (g4 g) (g5 g) = _
                  unfold cbF
                  rw [decide_eq_true (show g4 g = 1 by omega), if_neg (fun q => hpl ⟨by omega, qPb_iff.mp q.2.2⟩)]
                rw [hq] at hQ
                refine R_ifeq rfl ⟨by decide, by decide⟩ (fun _ => ?_) (fun c0 => absurd c0 (by decide))
                refine R_iconst rfl ?_
                exact R_ireturn rfl (fun _ => by first | exact Or.inl rfl | exact Or.inr rfl | omega) (Nat.zero_le _) (Nat.zero_le _) (by first | exact (hQ h1 hP1 (isSe_fr hSe (fun j q1 q2 => f1 j (by omega))) (fun j q1 _ => f1 j q1)) | exact (hQ h1 (isPz_fr hP (fun j q1 q2 => f1 j (by omega))) hH1.se (fun j _ q2 => f1 j q2)) | exact (hQ h hP hSe (fun j _ _ => rfl)))
    · refine R_iload rfl rfl ?_
      refine R_ifne rfl ⟨by omega, by omega⟩ (fun c176 => ?_) (fun c176 => ?_)
      · have hq : cmF G g = (false, G) := by
          unfold cmF
          rw [show g / 10000 = 3 by omega]
          exact if_neg (by omega)
        rw [hq] at hQ
        refine R_iconst rfl ?_
        exact R_ireturn rfl (fun _ => by first | exact Or.inl rfl | exact Or.inr rfl | omega) (Nat.zero_le _) (Nat.zero_le _) (by first | exact (hQ h1 hP1 (isSe_fr hSe (fun j q1 q2 => f1 j (by omega))) (fun j q1 _ => f1 j q1)) | exact (hQ h1 (isPz_fr hP (fun j q1 q2 => f1 j (by omega))) hH1.se (fun j _ q2 => f1 j q2)) | exact (hQ h hP hSe (fun j _ _ => rfl)))
      · refine R_aload_n rfl rfl ?_
        refine R_iload rfl rfl ?_
        refine R_iload rfl rfl ?_
        refine R_scall rfl rfl ⟨Nat.le_of_ble_eq_true rfl, Nat.le_of_ble_eq_true rfl, Nat.zero_le _, Nat.zero_le _⟩ (fillsEntry_T (e := gF9 g) (w := g4 g) hP hG (by omega) (by omega) (by omega) (fun h1 hP1 f1 => aRes_i (rest := []) ?_))
        have hq : cmF G g = feF G (gF9 g) (g4 g) := by
          unfold cmF
          rw [show g / 10000 = 3 by omega]
          exact if_pos (by omega)
        rw [← hq] at hP1 ⊢
        have h01 := bI01 (cmF G g).1
        refine R_ifeq rfl ⟨by omega, by omega⟩ (fun c187 => ?_) (fun c187 => ?_)
        · have hb := bI_f rfl (show bI (cmF G g).1 = 0 by omega)
          rw [hb] at hQ
          refine R_iconst rfl ?_
          exact R_ireturn rfl (fun _ => by first | exact Or.inl rfl | exact Or.inr rfl | omega) (Nat.zero_le _) (Nat.zero_le _) (by first | exact (hQ h1 hP1 (isSe_fr hSe (fun j q1 q2 => f1 j (by omega))) (fun j q1 _ => f1 j q1)) | exact (hQ h1 (isPz_fr hP (fun j q1 q2 => f1 j (by omega))) hH1.se (fun j _ q2 => f1 j q2)) | exact (hQ h hP hSe (fun j _ _ => rfl)))
        · have hb := bI_t rfl c187
          rw [hb] at hQ
          refine R_iconst rfl ?_
          refine R_goto rfl ?_
          exact R_ireturn rfl (fun _ => by first | exact Or.inl rfl | exact Or.inr rfl | omega) (Nat.zero_le _) (Nat.zero_le _) (by first | exact (hQ h1 hP1 (isSe_fr hSe (fun j q1 q2 => f1 j (by omega))) (fun j q1 _ => f1 j q1)) | exact (hQ h1 (isPz_fr hP (fun j q1 q2 => f1 j (by omega))) hH1.se (fun j _ q2 => f1 j q2)) | exact (hQ h hP hSe (fun j _ _ => rfl)))
    · refine R_iload rfl rfl ?_
      refine R_ifne rfl ⟨by omega, by omega⟩ (fun c198 => ?_) (fun c198 => ?_)
      · have hq : cmF G g = (false, G) := by
          unfold cmF
          rw [show g / 10000 = 4 by omega]
          exact if_neg (by omega)
        rw [hq] at hQ
        refine R_iconst rfl ?_
        exact R_ireturn rfl (fun _ => by first | exact Or.inl rfl | exact Or.inr rfl | omega) (Nat.zero_le _) (Nat.zero_le _) (by first | exact (hQ h1 hP1 (isSe_fr hSe (fun j q1 q2 => f1 j (by omega))) (fun j q1 _ => f1 j q1)) | exact (hQ h1 (isPz_fr hP (fun j q1 q2 => f1 j (by omega))) hH1.se (fun j _ q2 => f1 j q2)) | exact (hQ h hP hSe (fun j _ _ => rfl)))
      · refine R_aload_n rfl rfl ?_
        refine R_iload rfl rfl ?_
        refine R_scall rfl rfl ⟨Nat.le_of_ble_eq_true rfl, Nat.le_of_ble_eq_true rfl, Nat.zero_le _, Nat.zero_le _⟩ (clearsEntry_T (e := gF9 g) hP hG (by omega) (by omega) (fun h1 hP1 f1 => aRes_i (rest := []) ?_))
        have hq : cmF G g = ceF G (gF9 g) := by
          unfold cmF
          rw [show g / 10000 = 4 by omega]
          exact if_pos (by omega)
        rw [← hq] at hP1 ⊢
        have h01 := bI01 (cmF G g).1
        refine R_ifeq rfl ⟨by omega, by omega⟩ (fun c207 => ?_) (fun c207 => ?_)
        · have hb := bI_f rfl (show bI (cmF G g).1 = 0 by omega)
          rw [hb] at hQ
          refine R_iconst rfl ?_
          exact R_ireturn rfl (fun _ => by first | exact Or.inl rfl | exact Or.inr rfl | omega) (Nat.zero_le _) (Nat.zero_le _) (by first | exact (hQ h1 hP1 (isSe_fr hSe (fun j q1 q2 => f1 j (by omega))) (fun j q1 _ => f1 j q1)) | exact (hQ h1 (isPz_fr hP (fun j q1 q2 => f1 j (by omega))) hH1.se (fun j _ q2 => f1 j q2)) | exact (hQ h hP hSe (fun j _ _ => rfl)))
        · have hb := bI_t rfl c207
          rw [hb] at hQ
          refine R_iconst rfl ?_
          refine R_goto rfl ?_
          exact R_ireturn rfl (fun _ => by first | exact Or.inl rfl | exact Or.inr rfl | omega) (Nat.zero_le _) (Nat.zero_le _) (by first | exact (hQ h1 hP1 (isSe_fr hSe (fun j q1 q2 => f1 j (by omega))) (fun j q1 _ => f1 j q1)) | exact (hQ h1 (isPz_fr hP (fun j q1 q2 => f1 j (by omega))) hH1.se (fun j _ q2 => f1 j q2)) | exact (hQ h hP hSe (fun j _ _ => rfl)))
    · refine R_iload rfl rfl ?_
      refine R_ifne rfl ⟨by omega, by omega⟩ (fun c218 => ?_) (fun c218 => ?_)
      · have hq : cmF G g = (false, G) := by
          unfold cmF
          rw [show g / 10000 = 5 by omega]
          show (_, G) = _
          rw [decide_eq_false (show ¬ g3 g = 0 by omega)]
          rfl
        rw [hq] at hQ
        refine R_iconst rfl ?_
        exact R_ireturn rfl (fun _ => by first | exact Or.inl rfl | exact Or.inr rfl | omega) (Nat.zero_le _) (Nat.zero_le _) (by first | exact (hQ h1 hP1 (isSe_fr hSe (fun j q1 q2 => f1 j (by omega))) (fun j q1 _ => f1 j q1)) | exact (hQ h1 (isPz_fr hP (fun j q1 q2 => f1 j (by omega))) hH1.se (fun j _ q2 => f1 j q2)) | exact (hQ h hP hSe (fun j _ _ => rfl)))
      · refine R_iload rfl rfl ?_
        refine R_ifne rfl ⟨by omega, by omega⟩ (fun c223 => ?_) (fun c223 => ?_)
        · have hq : cmF G g = (false, G) := by
            unfold cmF
            rw [show g / 10000 = 5 by omega]
            show (_, G) = _
            rw [decide_eq_false (show ¬ gB9 g = 0 by omega), Bool.and_false]
            rfl
          rw [hq] at hQ
          refine R_iconst rfl ?_
          exact R_ireturn rfl (fun _ => by first | exact Or.inl rfl | exact Or.inr rfl | omega) (Nat.zero_le _) (Nat.zero_le _) (by first | exact (hQ h1 hP1 (isSe_fr hSe (fun j q1 q2 => f1 j (by omega))) (fun j q1 _ => f1 j q1)) | exact (hQ h1 (isPz_fr hP (fun j q1 q2 => f1 j (by omega))) hH1.se (fun j _ q2 => f1 j q2)) | exact (hQ h hP hSe (fun j _ _ => rfl)))
        · refine R_aload_n rfl rfl ?_
          refine R_iload_n rfl rfl ?_
          refine R_scall rfl rfl ⟨Nat.le_of_ble_eq_true rfl, Nat.le_of_ble_eq_true rfl, Nat.zero_le _, Nat.zero_le _⟩ ((show T (d + 29) 48 [vR k, vI (g2 g)] h N _ from ak hP hG (by omega) (by omega) (fun z228 hz228 => aRes_i (rest := []) ?_)))
          have h01 := bI01 (ruG G (g2 g))
          refine R_ifeq rfl ⟨by omega, by omega⟩ (fun c231 => ?_) (fun c231 => ?_)
          · have hq : cmF G g = (false, G) := by
              unfold cmF
              rw [show g / 10000 = 5 by omega]
              show (_, G) = _
              rw [bI_f hz228 (by omega), Bool.and_false]
            rw [hq] at hQ
            refine R_iconst rfl ?_
            exact R_ireturn rfl (fun _ => by first | exact Or.inl rfl | exact Or.inr rfl | omega) (Nat.zero_le _) (Nat.zero_le _) (by first | exact (hQ h1 hP1 (isSe_fr hSe (fun j q1 q2 => f1 j (by omega))) (fun j q1 _ => f1 j q1)) | exact (hQ h1 (isPz_fr hP (fun j q1 q2 => f1 j (by omega))) hH1.se (fun j _ q2 => f1 j q2)) | exact (hQ h hP hSe (fun j _ _ => rfl)))
          · have hq : cmF G g = (true, G) := by
              unfold cmF
              rw [show g / 10000 = 5 by omega]
              show (_, G) = _
              rw [decide_eq_true (show g3 g = 0 by omega), decide_eq_true (show gB9 g = 0 by omega), bI_t hz228 c231]
              rfl
            rw [hq] at hQ
            refine R_iconst rfl ?_
            refine R_goto rfl ?_
            exact R_ireturn rfl (fun _ => by first | exact Or.inl rfl | exact Or.inr rfl | omega) (Nat.zero_le _) (Nat.zero_le _) (by first | exact (hQ h1 hP1 (isSe_fr hSe (fun j q1 q2 => f1 j (by omega))) (fun j q1 _ => f1 j q1)) | exact (hQ h1 (isPz_fr hP (fun j q1 q2 => f1 j (by omega))) hH1.se (fun j _ q2 => f1 j q2)) | exact (hQ h hP hSe (fun j _ _ => rfl)))
    · refine R_iload_n rfl rfl ?_
      refine R_ifne rfl ⟨by omega, by omega⟩ (fun c241 => ?_) (fun c241 => ?_)
      · have hq : cmF G g = (false, G) := by
          unfold cmF
          rw [show g / 10000 = 6 by omega]
          show (_, G) = _
          rw [decide_eq_false (show ¬ g2 g = 0 by omega)]
          rfl
        rw [hq] at hQ
        refine R_iconst rfl ?_
        exact R_ireturn rfl (fun _ => by first | exact Or.inl rfl | exact Or.inr rfl | omega) (Nat.zero_le _) (Nat.zero_le _) (by first | exact (hQ h1 hP1 (isSe_fr hSe (fun j q1 q2 => f1 j (by omega))) (fun j q1 _ => f1 j q1)) | exact (hQ h1 (isPz_fr hP (fun j q1 q2 => f1 j (by omega))) hH1.se (fun j _ q2 => f1 j q2)) | exact (hQ h hP hSe (fun j _ _ => rfl)))
      · refine R_aload_n rfl rfl ?_
        refine R_aload_n rfl rfl ?_
        refine R_iconst rfl ?_
        refine R_iload rfl rfl ?_
        refine R_vcall rfl rfl ⟨(by omega), _, u0⟩ ⟨Nat.le_of_ble_eq_true rfl, Nat.le_of_ble_eq_true rfl, Nat.zero_le _, Nat.zero_le _⟩ (count_T (em := false) (lim := gL9 g) hP hG hk hN hst hSe (by omega) (fun h1 hH1 f1 => aRes_i (rest := []) ?_))
        have hle := seL_le (lim := gL9 g) (rdG G false) (0, none) (Nat.zero_le _)
        have hle : (rdS G false (gL9 g)).1 ≤ gL9 g := hle
        refine R_iload rfl rfl ?_
        refine R_icmplt rfl ⟨by omega, by omega⟩ ⟨by omega, by omega⟩ (fun c254 => ?_) (fun c254 => ?_)
        · have hq : cmF G g = (false, G) := by
            unfold cmF
            rw [show g / 10000 = 6 by omega]
            show (_, G) = _
            rw [decide_eq_false (show ¬ gL9 g ≤ (rdS G false (gL9 g)).1 by omega), Bool.and_false]
          rw [hq] at hQ
          refine R_iconst rfl ?_
          exact R_ireturn rfl (fun _ => by first | exact Or.inl rfl | exact Or.inr rfl | omega) (Nat.zero_le _) (Nat.zero_le _) (by first | exact (hQ h1 hP1 (isSe_fr hSe (fun j q1 q2 => f1 j (by omega))) (fun j q1 _ => f1 j q1)) | exact (hQ h1 (isPz_fr hP (fun j q1 q2 => f1 j (by omega))) hH1.se (fun j _ q2 => f1 j q2)) | exact (hQ h hP hSe (fun j _ _ => rfl)))
        · have hq : cmF G g = (true, G) := by
            unfold cmF
            rw [show g / 10000 = 6 by omega]
            show (_, G) = _
            rw [decide_eq_true (show g2 g = 0 by omega), decide_eq_true (show gL9 g ≤ (rdS G false (gL9 g)).1 by omega)]
            rfl
          rw [hq] at hQ
          refine R_iconst rfl ?_
          refine R_goto rfl ?_
          exact R_ireturn rfl (fun _ => by first | exact Or.inl rfl | exact Or.inr rfl | omega) (Nat.zero_le _) (Nat.zero_le _) (by first | exact (hQ h1 hP1 (isSe_fr hSe (fun j q1 q2 => f1 j (by omega))) (fun j q1 _ => f1 j q1)) | exact (hQ h1 (isPz_fr hP (fun j q1 q2 => f1 j (by omega))) hH1.se (fun j _ q2 => f1 j q2)) | exact (hQ h hP hSe (fun j _ _ => rfl)))
    · refine R_iload rfl rfl ?_
      refine R_ifne rfl ⟨by omega, by omega⟩ (fun c265 => ?_) (fun c265 => ?_)
      · have hq : cmF G g = (false, G) := by
          unfold cmF
          rw [show g / 10000 = 7 by omega]
          show (_, G) = _
          rw [decide_eq_false (show ¬ g4 g = 0 by omega)]
          rfl
        rw [hq] at hQ
        refine R_iconst rfl ?_
        exact R_ireturn rfl (fun _ => by first | exact Or.inl rfl | exact Or.inr rfl | omega) (Nat.zero_le _) (Nat.zero_le _) (by first | exact (hQ h1 hP1 (isSe_fr hSe (fun j q1 q2 => f1 j (by omega))) (fun j q1 _ => f1 j q1)) | exact (hQ h1 (isPz_fr hP (fun j q1 q2 => f1 j (by omega))) hH1.se (fun j _ q2 => f1 j q2)) | exact (hQ h hP hSe (fun j _ _ => rfl)))
      · refine R_aload_n rfl rfl ?_
        refine R_iload rfl rfl ?_
        refine R_vcall rfl rfl ⟨(by omega), _, p0⟩ ⟨Nat.le_of_ble_eq_true rfl, Nat.le_of_ble_eq_true rfl, Nat.zero_le _, Nat.zero_le _⟩ (hasEntry_T hP hG (by omega) ⟨by omega, by omega⟩ (fun z271 hz271 => aRes_i (rest := []) ?_))
        refine R_ifeq rfl ⟨by omega, by omega⟩ (fun c274 => ?_) (fun c274 => ?_)
        · have hq : cmF G g = (false, G) := by
            unfold cmF
            rw [show g / 10000 = 7 by omega]
            show (_, G) = _
            rw [decide_eq_false (show ¬ gF9 g < nE G by omega), Bool.and_false]
            rfl
          rw [hq] at hQ
          refine R_iconst rfl ?_
          exact R_ireturn rfl (fun _ => by first | exact Or.inl rfl | exact Or.inr rfl | omega) (Nat.zero_le _) (Nat.zero_le _) (by first | exact (hQ h1 hP1 (isSe_fr hSe (fun j q1 q2 => f1 j (by omega))) (fun j q1 _ => f1 j q1)) | exact (hQ h1 (isPz_fr hP (fun j q1 q2 => f1 j (by omega))) hH1.se (fun j _ q2 => f1 j q2)) | exact (hQ h hP hSe (fun j _ _ => rfl)))
        · refine R_aload_n rfl rfl ?_
          refine R_iload rfl rfl ?_
          refine R_vcall rfl rfl ⟨(by omega), _, p0⟩ ⟨Nat.le_of_ble_eq_true rfl, Nat.le_of_ble_eq_true rfl, Nat.zero_le _, Nat.zero_le _⟩ (fitCount_T (e := gF9 g) hP hG (by omega) (by omega) (fun z280 hz280 => aRes_i (rest := []) ?_))
          have hfc := ct_le (p := fiG G (gF9 g)) (qW G) 0
          have hfd : fcG G (gF9 g) = ctF (fiG G (gF9 g)) (qW G) 0 := rfl
          refine R_iload rfl rfl ?_
          refine R_icmplt rfl ⟨by omega, by omega⟩ ⟨by omega, by omega⟩ (fun c285 => ?_) (fun c285 => ?_)
          · have hq : cmF G g = (false, G) := by
              unfold cmF
              rw [show g / 10000 = 7 by omega]
              show (_, G) = _
              rw [decide_eq_false (show ¬ g5 g ≤ fcG G (gF9 g) by omega), Bool.and_false]
            rw [hq] at hQ
            refine R_iconst rfl ?_
            exact R_ireturn rfl (fun _ => by first | exact Or.inl rfl | exact Or.inr rfl | omega) (Nat.zero_le _) (Nat.zero_le _) (by first | exact (hQ h1 hP1 (isSe_fr hSe (fun j q1 q2 => f1 j (by omega))) (fun j q1 _ => f1 j q1)) | exact (hQ h1 (isPz_fr hP (fun j q1 q2 => f1 j (by omega))) hH1.se (fun j _ q2 => f1 j q2)) | exact (hQ h hP hSe (fun j _ _ => rfl)))
          · have hq : cmF G g = (true, G) := by
              unfold cmF
              rw [show g / 10000 = 7 by omega]
              show (_, G) = _
              rw [decide_eq_true (show g4 g = 0 by omega), decide_eq_true (show gF9 g < nE G by omega), decide_eq_true (show g5 g ≤ fcG G (gF9 g) by omega)]
              rfl
            rw [hq] at hQ
            refine R_iconst rfl ?_
            refine R_goto rfl ?_
            exact R_ireturn rfl (fun _ => by first | exact Or.inl rfl | exact Or.inr rfl | omega) (Nat.zero_le _) (Nat.zero_le _) (by first | exact (hQ h1 hP1 (isSe_fr hSe (fun j q1 q2 => f1 j (by omega))) (fun j q1 _ => f1 j q1)) | exact (hQ h1 (isPz_fr hP (fun j q1 q2 => f1 j (by omega))) hH1.se (fun j _ q2 => f1 j q2)) | exact (hQ h hP hSe (fun j _ _ => rfl)))
    · refine R_iload rfl rfl ?_
      refine R_ifne rfl ⟨by omega, by omega⟩ (fun c296 => ?_) (fun c296 => ?_)
      · have hq : cmF G g = (false, G) := by
          unfold cmF
          rw [show g / 10000 = 8 by omega]
          show (_, G) = _
          rw [decide_eq_false (show ¬ g4 g = 0 by omega)]
          rfl
        rw [hq] at hQ
        refine R_iconst rfl ?_
        exact R_ireturn rfl (fun _ => by first | exact Or.inl rfl | exact Or.inr rfl | omega) (Nat.zero_le _) (Nat.zero_le _) (by first | exact (hQ h1 hP1 (isSe_fr hSe (fun j q1 q2 => f1 j (by omega))) (fun j q1 _ => f1 j q1)) | exact (hQ h1 (isPz_fr hP (fun j q1 q2 => f1 j (by omega))) hH1.se (fun j _ q2 => f1 j q2)) | exact (hQ h hP hSe (fun j _ _ => rfl)))
      · refine R_aload_n rfl rfl ?_
        refine R_getfield rfl rfl (by omega) p0 rfl ?_
        refine R_iload rfl rfl ?_
        refine R_vcall rfl rfl ⟨(by omega), hS.rcv⟩ ⟨Nat.le_of_ble_eq_true rfl, Nat.le_of_ble_eq_true rfl, Nat.zero_le _, Nat.zero_le _⟩ (hasCell_T hS hG (by omega) ⟨by omega, by omega⟩ (fun z305 hz305 => aRes_i (rest := []) ?_))
        refine R_ifeq rfl ⟨by omega, by omega⟩ (fun c308 => ?_) (fun c308 => ?_)
        · have hq : cmF G g = (false, G) := by
            unfold cmF
            rw [show g / 10000 = 8 by omega]
            show (_, G) = _
            rw [decide_eq_false (show ¬ gF9 g < qM G by omega), Bool.and_false]
            rfl
          rw [hq] at hQ
          refine R_iconst rfl ?_
          exact R_ireturn rfl (fun _ => by first | exact Or.inl rfl | exact Or.inr rfl | omega) (Nat.zero_le _) (Nat.zero_le _) (by first | exact (hQ h1 hP1 (isSe_fr hSe (fun j q1 q2 => f1 j (by omega))) (fun j q1 _ => f1 j q1)) | exact (hQ h1 (isPz_fr hP (fun j q1 q2 => f1 j (by omega))) hH1.se (fun j _ q2 => f1 j q2)) | exact (hQ h hP hSe (fun j _ _ => rfl)))
        · refine R_aload_n rfl rfl ?_
          refine R_iload rfl rfl ?_
          refine R_vcall rfl rfl ⟨(by omega), _, p0⟩ ⟨Nat.le_of_ble_eq_true rfl, Nat.le_of_ble_eq_true rfl, Nat.zero_le _, Nat.zero_le _⟩ (entriesAt_T (x := gF9 g) hP hG (by omega) rfl (by omega) (fun z314 hz314 => aRes_i (rest := []) ?_))
          have hen : enC G (gF9 g) ≤ 2 := by
            unfold enC
            cases inE G false (gF9 g) <;> cases inE G true (gF9 g) <;> decide
          refine R_iload rfl rfl ?_
          refine R_icmpne rfl ⟨by omega, by omega⟩ ⟨by omega, by omega⟩ (fun c319 => ?_) (fun c319 => ?_)
          · have hq : cmF G g = (false, G) := by
              unfold cmF
              rw [show g / 10000 = 8 by omega]
              show (_, G) = _
              rw [decide_eq_false (show ¬ enC G (gF9 g) = g5 g by omega), Bool.and_false]
            rw [hq] at hQ
            refine R_iconst rfl ?_
            exact R_ireturn rfl (fun _ => by first | exact Or.inl rfl | exact Or.inr rfl | omega) (Nat.zero_le _) (Nat.zero_le _) (by first | exact (hQ h1 hP1 (isSe_fr hSe (fun j q1 q2 => f1 j (by omega))) (fun j q1 _ => f1 j q1)) | exact (hQ h1 (isPz_fr hP (fun j q1 q2 => f1 j (by omega))) hH1.se (fun j _ q2 => f1 j q2)) | exact (hQ h hP hSe (fun j _ _ => rfl)))
          · have hq : cmF G g = (true, G) := by
              unfold cmF
              rw [show g / 10000 = 8 by omega]
              show (_, G) = _
              rw [decide_eq_true (show g4 g = 0 by omega), decide_eq_true (show gF9 g < qM G by omega), decide_eq_true (show enC G (gF9 g) = g5 g by omega)]
              rfl
            rw [hq] at hQ
            refine R_iconst rfl ?_
            refine R_goto rfl ?_
            exact R_ireturn rfl (fun _ => by first | exact Or.inl rfl | exact Or.inr rfl | omega) (Nat.zero_le _) (Nat.zero_le _) (by first | exact (hQ h1 hP1 (isSe_fr hSe (fun j q1 q2 => f1 j (by omega))) (fun j q1 _ => f1 j q1)) | exact (hQ h1 (isPz_fr hP (fun j q1 q2 => f1 j (by omega))) hH1.se (fun j _ q2 => f1 j q2)) | exact (hQ h hP hSe (fun j _ _ => rfl)))
    · refine R_iload rfl rfl ?_
      refine R_ifne rfl ⟨by omega, by omega⟩ (fun c330 => ?_) (fun c330 => ?_)
      · have hq : cmF G g = (false, G) := by
          unfold cmF
          rw [show g / 10000 = 9 by omega]
          show (_, G) = _
          rw [decide_eq_false (show ¬ gF9 g = 0 by omega)]
          rfl
        rw [hq] at hQ
        refine R_iconst rfl ?_
        exact R_ireturn rfl (fun _ => by first | exact Or.inl rfl | exact Or.inr rfl | omega) (Nat.zero_le _) (Nat.zero_le _) (by first | exact (hQ h1 hP1 (isSe_fr hSe (fun j q1 q2 => f1 j (by omega))) (fun j q1 _ => f1 j q1)) | exact (hQ h1 (isPz_fr hP (fun j q1 q2 => f1 j (by omega))) hH1.se (fun j _ q2 => f1 j q2)) | exact (hQ h hP hSe (fun j _ _ => rfl)))
      · refine R_aload_n rfl rfl ?_
        refine R_getfield rfl rfl (by omega) p0 rfl ?_
        refine R_iload rfl rfl ?_
        refine R_icmpne rfl ⟨by omega, by omega⟩ ⟨by omega, by omega⟩ (fun c339 => ?_) (fun c339 => ?_)
        · have hq : cmF G g = (false, G) := by
            unfold cmF
            rw [show g / 10000 = 9 by omega]
            show (_, G) = _
            rw [decide_eq_false (show ¬ nE G = gB9 g by omega), Bool.and_false]
          rw [hq] at hQ
          refine R_iconst rfl ?_
          exact R_ireturn rfl (fun _ => by first | exact Or.inl rfl | exact Or.inr rfl | omega) (Nat.zero_le _) (Nat.zero_le _) (by first | exact (hQ h1 hP1 (isSe_fr hSe (fun j q1 q2 => f1 j (by omega))) (fun j q1 _ => f1 j q1)) | exact (hQ h1 (isPz_fr hP (fun j q1 q2 => f1 j (by omega))) hH1.se (fun j _ q2 => f1 j q2)) | exact (hQ h hP hSe (fun j _ _ => rfl)))
        · have hq : cmF G g = (true, G) := by
            unfold cmF
            rw [show g / 10000 = 9 by omega]
            show (_, G) = _
            rw [decide_eq_true (show gF9 g = 0 by omega), decide_eq_true (show nE G = gB9 g by omega)]
            rfl
          rw [hq] at hQ
          refine R_iconst rfl ?_
          refine R_goto rfl ?_
          exact R_ireturn rfl (fun _ => by first | exact Or.inl rfl | exact Or.inr rfl | omega) (Nat.zero_le _) (Nat.zero_le _) (by first | exact (hQ h1 hP1 (isSe_fr hSe (fun j q1 q2 => f1 j (by omega))) (fun j q1 _ => f1 j q1)) | exact (hQ h1 (isPz_fr hP (fun j q1 q2 => f1 j (by omega))) hH1.se (fun j _ q2 => f1 j q2)) | exact (hQ h hP hSe (fun j _ _ => rfl)))
  refine T_body (I := mi_X0_succeeds) (lv := [_, _, _, _, _, _, _, _, _, _]) rfl (Nat.le_of_ble_eq_true rfl) rfl ?_
  refine R_iload_n rfl rfl ?_
  refine R_sipush rfl ?_
  refine R_idiv rfl ⟨by omega, by omega, by omega, by omega⟩ ?_
  refine R_bipush rfl ?_
  refine R_irem rfl ⟨by omega, by omega, by omega, by omega⟩ ?_
  refine R_istore_n (lv' := [_, _, _, _, _, _, _, _, _, _]) rfl rfl ?_
  refine R_iload_n rfl rfl ?_
  refine R_bipush rfl ?_
  refine R_idiv rfl ⟨by omega, by omega, by omega, by omega⟩ ?_
  refine R_bipush rfl ?_
  refine R_irem rfl ⟨by omega, by omega, by omega, by omega⟩ ?_
  refine R_istore (lv' := [_, _, _, _, _, _, _, _, _, _]) rfl rfl ?_
  refine R_iload_n rfl rfl ?_
  refine R_bipush rfl ?_
  refine R_idiv rfl ⟨by omega, by omega, by omega, by omega⟩ ?_
  refine R_bipush rfl ?_
  refine R_irem rfl ⟨by omega, by omega, by omega, by omega⟩ ?_
  refine R_istore (lv' := [_, _, _, _, _, _, _, _, _, _]) rfl rfl ?_
  refine R_iload_n rfl rfl ?_
  refine R_bipush rfl ?_
  refine R_irem rfl ⟨by omega, by omega, by omega, by omega⟩ ?_
  refine R_istore (lv' := [_, _, _, _, _, _, _, _, _, _]) rfl rfl ?_
  refine R_bipush rfl ?_
  refine R_iload_n rfl rfl ?_
  refine R_imul rfl ?_
  refine R_iload rfl rfl ?_
  refine R_iadd rfl ?_
  refine R_istore (lv' := [_, _, _, _, _, _, _, _, _, _]) rfl rfl ?_
  refine R_bipush rfl ?_
  refine R_iload rfl rfl ?_
  refine R_imul rfl ?_
  refine R_iload rfl rfl ?_
  refine R_iadd rfl ?_
  refine R_istore (lv' := [_, _, _, _, _, _, _, _, _, _]) rfl rfl ?_
  refine R_bipush rfl ?_
  refine R_iload rfl rfl ?_
  refine R_imul rfl ?_
  refine R_iload rfl rfl ?_
  refine R_iadd rfl ?_
  refine R_istore (lv' := [_, _, _, _, _, _, _, _, _, _]) rfl rfl ?_
  exact hK
