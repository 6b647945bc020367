/-! ===== the model: a command of a script ===== -/
theorem ok_pl {G : Gr} (hG : okG G) {c n : Nat} : okG (plF G c n).2 := by
  unfold plF
  split
  · rename_i q
    exact ok_setL hG (q.2.imp_right isLb_let)
  · exact hG
theorem ok_cb {G : Gr} (hG : okG G) {c a b : Nat} : okG (cbF G c a b).2 := by
  unfold cbF
  split
  · rename_i q
    exact ok_setBr hG (qPb_iff.mp q.2.2)
  · exact hG
theorem ok_fe {G : Gr} (hG : okG G) {e w : Nat} : okG (feF G e w).2 := by
  unfold feF
  split
  · rename_i q
    exact ok_setLs hG (ok_fil hG q.2.1 _ _ _ (by rw [fiG_len q.2.2]; omega) hG.2.2.1)
  · exact hG
theorem ok_ce {G : Gr} (hG : okG G) {e : Nat} : okG (ceF G e).2 := by
  unfold ceF
  split
  · exact ok_setLs hG (ok_cla _ _ _ _ hG.2.2.1)
  · exact hG
theorem cm_ok {G : Gr} (hG : okG G) {g : Nat} : okG (cmF G g).2 := by
  unfold cmF
  split
  · exact ok_pl hG
  · exact ok_cb hG
  · split
    · exact ok_fe hG
    · exact hG
  · split
    · exact ok_ce hG
    · exact hG
  all_goals exact hG
set_option maxRecDepth 8000 in
theorem mRuns_T {d N : Nat} {h : AH} {G : Gr} {th tl rm : Int} {Q : AQ} (hM : isMg h G th tl rm) (hG : okG G) (hN : 139 ≤ N) (hW : isWk h) {g : Nat} {gz : Int} (hgz : gz = g) (hg : g < 100000) (hQ : ∀ h', isMg h' (cmF G g).2 th tl rm → isWk h' → frW h h' → Q (.inl (some (vI (bI (cmF G g).1)))) h' N) : T (d + 6) 199 [vR 122, vI gz] h N Q := by
  obtain ⟨F, D, L, A, W, C, hZ, m11, m12, m13, m14, m15, m16, hE, hA, hW9, hC⟩ := id hM
  obtain ⟨S, m0, m3, hR⟩ := id hZ
  obtain ⟨hr0, hr1, rL, rE, rS, hr110, rWn, rWl, hr167, rNl⟩ := id hR
  have r0 : S (0 : Int).toNat = (qR G : Int) := hr0
  have r1 : S (1 : Int).toNat = (qC G : Int) := hr1
  have r110 : S (110 : Int).toNat = (qW G : Int) := hr110
  have r167 : S (167 : Int).toNat = (qN G : Int) := hr167
  obtain ⟨hm4, hm36⟩ := hG.m
  have hmi := qM_int G
  obtain ⟨⟨hr2, hr6⟩, ⟨hc2, hc6⟩, gL, gB, gW, gWn, gWl, gN, gNl⟩ := id hG
  have hn36 := nE36 hG
  subst hgz
  have e2 : g2 g = g / 1000 % 10 := rfl
  have e3 : g3 g = g / 100 % 10 := rfl
  have e4 : g4 g = g / 10 % 10 := rfl
  have e5 : g5 g = g % 10 := rfl
  have eA : gF9 g = 10 * g2 g + g3 g := rfl
  have eB : gB9 g = 10 * g4 g + g5 g := rfl
  have eL : gL9 g = 100 * g3 g + gB9 g := rfl
  have b2 : g2 g < 10 := Nat.mod_lt _ (by decide)
  have b3 : g3 g < 10 := Nat.mod_lt _ (by decide)
  have b4 : g4 g < 10 := Nat.mod_lt _ (by decide)
  have b5 : g5 g < 10 := Nat.mod_lt _ (by decide)
  have hK : Run mi_X9_runs (T (d + 5)) Q 58 [some (vR 122), some (vI g), some (vI ((g / 10000 : Nat) : Int)), some (vI (g2 g)), some (vI (g3 g)), some (vI (g4 g)), some (vI (g5 g)), some (vI (gF9 g)), some (vI (gB9 g))] [] h N 0 0 := by
    clear e2 e3 e4 e5
    refine R_iload_n rfl rfl ?_
    refine R_switch rfl ⟨by omega, by omega⟩ (fun cd59 => ?_) ⟨fun c59 => ?_, fun c59 => ?_, fun c59 => ?_, fun c59 => ?_, fun c59 => ?_, fun c59 => ?_, fun c59 => ?_, fun c59 => ?_, fun c59 => ?_, trivial⟩
    · have hq : cmF G g = (false, G) := by
        unfold cmF
        have : g / 10000 = 0 := by omega
        rw [this]
        rfl
      rw [hq] at hQ
      refine R_iconst rfl ?_
      exact R_ireturn rfl (fun _ => by first | exact Or.inl rfl | exact Or.inr rfl | omega) (Nat.zero_le _) (Nat.zero_le _) (by first | exact (hQ h hM hW frW.refl) | exact (hQ h1 hP1 (isWk_fr hW (fun j q1 q2 => f1 j (by omega))) (f1.w (Or.inl ⟨rfl, rfl⟩))) | exact (hQ h1 hP1 (isWk_fr hW (fun j q1 q2 => f1 j (by omega))) f1.w) | exact (hQ h1 (isMg_f hM f1 (by decide)) (isWk_re hW hE1 f1) (f1.w (Or.inr (by decide)))) | exact (hQ h1 (isMg_f hM f1 (by decide)) ⟨isRe_fr hW.1 (f1 _ (by omega)), ⟨X1, e1⟩, F1, e2⟩ (f1.w (Or.inr (by decide)))))
    · refine R_aload_n rfl rfl ?_
      refine R_iload rfl rfl ?_
      refine R_iload rfl rfl ?_
      refine R_vcall rfl rfl ⟨(by omega), _, m0⟩ ⟨Nat.le_of_ble_eq_true rfl, Nat.le_of_ble_eq_true rfl, Nat.zero_le _, Nat.zero_le _⟩ (mPutsLetter_T (c := gF9 g) (n := gB9 g) hM hG hN rfl rfl (by omega) (by omega) (fun h1 hP1 f1 => aRes_i (rest := []) ?_))
      have hq : cmF G g = plF G (gF9 g) (gB9 g) := by
        unfold cmF
        rw [show g / 10000 = 1 by omega]
        rfl
      rw [← hq] at hP1 ⊢
      have h01 := bI01 (cmF G g).1
      exact R_ireturn rfl (fun _ => by first | exact Or.inl rfl | exact Or.inr rfl | omega) (Nat.zero_le _) (Nat.zero_le _) (by first | exact (hQ h hM hW frW.refl) | exact (hQ h1 hP1 (isWk_fr hW (fun j q1 q2 => f1 j (by omega))) (f1.w (Or.inl ⟨rfl, rfl⟩))) | exact (hQ h1 hP1 (isWk_fr hW (fun j q1 q2 => f1 j (by omega))) f1.w) | exact (hQ h1 (isMg_f hM f1 (by decide)) (isWk_re hW hE1 f1) (f1.w (Or.inr (by decide)))) | exact (hQ h1 (isMg_f hM f1 (by decide)) ⟨isRe_fr hW.1 (f1 _ (by omega)), ⟨X1, e1⟩, F1, e2⟩ (f1.w (Or.inr (by decide)))))
    · refine R_aload_n rfl rfl ?_
      refine R_iload rfl rfl ?_
      refine R_iload rfl rfl ?_
      refine R_iload rfl rfl ?_
      refine R_vcall rfl rfl ⟨(by omega), _, m0⟩ ⟨Nat.le_of_ble_eq_true rfl, Nat.le_of_ble_eq_true rfl, Nat.zero_le _, Nat.zero_le _⟩ (mSetsBar_T (c := gF9 g) (a := g4 g) (e := g5 g) hM hG hN rfl rfl rfl (by omega) (by omega) (by omega) (fun h1 hP1 f1 => aRes_i (rest := []) ?_))
      have hq : cmF G g = cbF G (gF9 g) (g4 g) (g5 g) := by
        unfold cmF
        rw [show g / 10000 = 2 by omega]
        rfl
      rw [← hq] at hP1 ⊢
      have h01 := bI01 (cmF G g).1
      exact R_ireturn rfl (fun _ => by first | exact Or.inl rfl | exact Or.inr rfl | omega) (Nat.zero_le _) (Nat.zero_le _) (by first | exact (hQ h hM hW frW.refl) | exact (hQ h1 hP1 (isWk_fr hW (fun j q1 q2 => f1 j (by omega))) (f1.w (Or.inl ⟨rfl, rfl⟩))) | exact (hQ h1 hP1 (isWk_fr hW (fun j q1 q2 => f1 j (by omega))) f1.w) | exact (hQ h1 (isMg_f hM f1 (by decide)) (isWk_re hW hE1 f1) (f1.w (Or.inr (by decide)))) | exact (hQ h1 (isMg_f hM f1 (by decide)) ⟨isRe_fr hW.1 (f1 _ (by omega)), ⟨X1, e1⟩, F1, e2⟩ (f1.w (Or.inr (by decide)))))
    · refine R_iload rfl rfl ?_
      refine R_ifne rfl ⟨by omega, by omega⟩ (fun c130 => ?_) (fun c130 => ?_)
      · have hq : cmF G g = (false, G) := by
          unfold cmF
          rw [show g / 10000 = 3 by omega]
          exact if_neg (by omega)
        rw [hq] at hQ
        refine R_iconst rfl ?_
        exact R_ireturn rfl (fun _ => by first | exact Or.inl rfl | exact Or.inr rfl | omega) (Nat.zero_le _) (Nat.zero_le _) (by first | exact (hQ h hM hW frW.refl) | exact (hQ h1 hP1 (isWk_fr hW (fun j q1 q2 => f1 j (by omega))) (f1.w (Or.inl ⟨rfl, rfl⟩))) | exact (hQ h1 hP1 (isWk_fr hW (fun j q1 q2 => f1 j (by omega))) f1.w) | exact (hQ h1 (isMg_f hM f1 (by decide)) (isWk_re hW hE1 f1) (f1.w (Or.inr (by decide)))) | exact (hQ h1 (isMg_f hM f1 (by decide)) ⟨isRe_fr hW.1 (f1 _ (by omega)), ⟨X1, e1⟩, F1, e2⟩ (f1.w (Or.inr (by decide)))))
      · refine R_aload_n rfl rfl ?_
        refine R_iload rfl rfl ?_
        refine R_iload rfl rfl ?_
        refine R_vcall rfl rfl ⟨(by omega), _, m0⟩ ⟨Nat.le_of_ble_eq_true rfl, Nat.le_of_ble_eq_true rfl, Nat.zero_le _, Nat.zero_le _⟩ (mWrites_T (e := gF9 g) (w := g4 g) hM hG hN rfl rfl (by omega) (by omega) (fun h1 hP1 f1 => aRes_i (rest := []) ?_))
        have hq : cmF G g = feF G (gF9 g) (g4 g) := by
          unfold cmF
          rw [show g / 10000 = 3 by omega]
          exact if_pos (by omega)
        rw [← hq] at hP1 ⊢
        have h01 := bI01 (cmF G g).1
        refine R_ifeq rfl ⟨by omega, by omega⟩ (fun c141 => ?_) (fun c141 => ?_)
        · have hb := bI_f rfl (show bI (cmF G g).1 = 0 by omega)
          rw [hb] at hQ
          refine R_iconst rfl ?_
          exact R_ireturn rfl (fun _ => by first | exact Or.inl rfl | exact Or.inr rfl | omega) (Nat.zero_le _) (Nat.zero_le _) (by first | exact (hQ h hM hW frW.refl) | exact (hQ h1 hP1 (isWk_fr hW (fun j q1 q2 => f1 j (by omega))) (f1.w (Or.inl ⟨rfl, rfl⟩))) | exact (hQ h1 hP1 (isWk_fr hW (fun j q1 q2 => f1 j (by omega))) f1.w) | exact (hQ h1 (isMg_f hM f1 (by decide)) (isWk_re hW hE1 f1) (f1.w (Or.inr (by decide)))) | exact (hQ h1 (isMg_f hM f1 (by decide)) ⟨isRe_fr hW.1 (f1 _ (by omega)), ⟨X1, e1⟩, F1, e2⟩ (f1.w (Or.inr (by decide)))))
        · have hb := bI_t rfl c141
          rw [hb] at hQ
          refine R_iconst rfl ?_
          refine R_goto rfl ?_
          exact R_ireturn rfl (fun _ => by first | exact Or.inl rfl | exact Or.inr rfl | omega) (Nat.zero_le _) (Nat.zero_le _) (by first | exact (hQ h hM hW frW.refl) | exact (hQ h1 hP1 (isWk_fr hW (fun j q1 q2 => f1 j (by omega))) (f1.w (Or.inl ⟨rfl, rfl⟩))) | exact (hQ h1 hP1 (isWk_fr hW (fun j q1 q2 => f1 j (by omega))) f1.w) | exact (hQ h1 (isMg_f hM f1 (by decide)) (isWk_re hW hE1 f1) (f1.w (Or.inr (by decide)))) | exact (hQ h1 (isMg_f hM f1 (by decide)) ⟨isRe_fr hW.1 (f1 _ (by omega)), ⟨X1, e1⟩, F1, e2⟩ (f1.w (Or.inr (by decide)))))
    · refine R_iload rfl rfl ?_
      refine R_ifne rfl ⟨by omega, by omega⟩ (fun c152 => ?_) (fun c152 => ?_)
      · have hq : cmF G g = (false, G) := by
          unfold cmF
          rw [show g / 10000 = 4 by omega]
          exact if_neg (by omega)
        rw [hq] at hQ
        refine R_iconst rfl ?_
        exact R_ireturn rfl (fun _ => by first | exact Or.inl rfl | exact Or.inr rfl | omega) (Nat.zero_le _) (Nat.zero_le _) (by first | exact (hQ h hM hW frW.refl) | exact (hQ h1 hP1 (isWk_fr hW (fun j q1 q2 => f1 j (by omega))) (f1.w (Or.inl ⟨rfl, rfl⟩))) | exact (hQ h1 hP1 (isWk_fr hW (fun j q1 q2 => f1 j (by omega))) f1.w) | exact (hQ h1 (isMg_f hM f1 (by decide)) (isWk_re hW hE1 f1) (f1.w (Or.inr (by decide)))) | exact (hQ h1 (isMg_f hM f1 (by decide)) ⟨isRe_fr hW.1 (f1 _ (by omega)), ⟨X1, e1⟩, F1, e2⟩ (f1.w (Or.inr (by decide)))))
      · refine R_aload_n rfl rfl ?_
        refine R_iload rfl rfl ?_
        refine R_vcall rfl rfl ⟨(by omega), _, m0⟩ ⟨Nat.le_of_ble_eq_true rfl, Nat.le_of_ble_eq_true rfl, Nat.zero_le _, Nat.zero_le _⟩ (mErases_T (e := gF9 g) hM hG hN rfl (by omega) (fun h1 hP1 f1 => aRes_i (rest := []) ?_))
        have hq : cmF G g = ceF G (gF9 g) := by
          unfold cmF
          rw [show g / 10000 = 4 by omega]
          exact if_pos (by omega)
        rw [← hq] at hP1 ⊢
        have h01 := bI01 (cmF G g).1
        refine R_ifeq rfl ⟨by omega, by omega⟩ (fun c161 => ?_) (fun c161 => ?_)
        · have hb := bI_f rfl (show bI (cmF G g).1 = 0 by omega)
          rw [hb] at hQ
          refine R_iconst rfl ?_
          exact R_ireturn rfl (fun _ => by first | exact Or.inl rfl | exact Or.inr rfl | omega) (Nat.zero_le _) (Nat.zero_le _) (by first | exact (hQ h hM hW frW.refl) | exact (hQ h1 hP1 (isWk_fr hW (fun j q1 q2 => f1 j (by omega))) (f1.w (Or.inl ⟨rfl, rfl⟩))) | exact (hQ h1 hP1 (isWk_fr hW (fun j q1 q2 => f1 j (by omega))) f1.w) | exact (hQ h1 (isMg_f hM f1 (by decide)) (isWk_re hW hE1 f1) (f1.w (Or.inr (by decide)))) | exact (hQ h1 (isMg_f hM f1 (by decide)) ⟨isRe_fr hW.1 (f1 _ (by omega)), ⟨X1, e1⟩, F1, e2⟩ (f1.w (Or.inr (by decide)))))
        · have hb := bI_t rfl c161
          rw [hb] at hQ
          refine R_iconst rfl ?_
          refine R_goto rfl ?_
          exact R_ireturn rfl (fun _ => by first | exact Or.inl rfl | exact Or.inr rfl | omega) (Nat.zero_le _) (Nat.zero_le _) (by first | exact (hQ h hM hW frW.refl) | exact (hQ h1 hP1 (isWk_fr hW (fun j q1 q2 => f1 j (by omega))) (f1.w (Or.inl ⟨rfl, rfl⟩))) | exact (hQ h1 hP1 (isWk_fr hW (fun j q1 q2 => f1 j (by omega))) f1.w) | exact (hQ h1 (isMg_f hM f1 (by decide)) (isWk_re hW hE1 f1) (f1.w (Or.inr (by decide)))) | exact (hQ h1 (isMg_f hM f1 (by decide)) ⟨isRe_fr hW.1 (f1 _ (by omega)), ⟨X1, e1⟩, F1, e2⟩ (f1.w (Or.inr (by decide)))))
    · refine R_iload rfl rfl ?_
      refine R_ifne rfl ⟨by omega, by omega⟩ (fun c172 => ?_) (fun c172 => ?_)
      · have hq : cmF G g = (false, G) := by
          unfold cmF
          rw [show g / 10000 = 5 by omega]
          show (_, G) = _
          rw [decide_eq_false (show ¬ g3 g = 0 by omega)]
          rfl
        rw [hq] at hQ
        refine R_iconst rfl ?_
        exact R_ireturn rfl (fun _ => by first | exact Or.inl rfl | exact Or.inr rfl | omega) (Nat.zero_le _) (Nat.zero_le _) (by first | exact (hQ h hM hW frW.refl) | exact (hQ h1 hP1 (isWk_fr hW (fun j q1 q2 => f1 j (by omega))) (f1.w (Or.inl ⟨rfl, rfl⟩))) | exact (hQ h1 hP1 (isWk_fr hW (fun j q1 q2 => f1 j (by omega))) f1.w) | exact (hQ h1 (isMg_f hM f1 (by decide)) (isWk_re hW hE1 f1) (f1.w (Or.inr (by decide)))) | exact (hQ h1 (isMg_f hM f1 (by decide)) ⟨isRe_fr hW.1 (f1 _ (by omega)), ⟨X1, e1⟩, F1, e2⟩ (f1.w (Or.inr (by decide)))))
      · refine R_iload rfl rfl ?_
        refine R_ifne rfl ⟨by omega, by omega⟩ (fun c177 => ?_) (fun c177 => ?_)
        · have hq : cmF G g = (false, G) := by
            unfold cmF
            rw [show g / 10000 = 5 by omega]
            show (_, G) = _
            rw [decide_eq_false (show ¬ gB9 g = 0 by omega), Bool.and_false]
            rfl
          rw [hq] at hQ
          refine R_iconst rfl ?_
          exact R_ireturn rfl (fun _ => by first | exact Or.inl rfl | exact Or.inr rfl | omega) (Nat.zero_le _) (Nat.zero_le _) (by first | exact (hQ h hM hW frW.refl) | exact (hQ h1 hP1 (isWk_fr hW (fun j q1 q2 => f1 j (by omega))) (f1.w (Or.inl ⟨rfl, rfl⟩))) | exact (hQ h1 hP1 (isWk_fr hW (fun j q1 q2 => f1 j (by omega))) f1.w) | exact (hQ h1 (isMg_f hM f1 (by decide)) (isWk_re hW hE1 f1) (f1.w (Or.inr (by decide)))) | exact (hQ h1 (isMg_f hM f1 (by decide)) ⟨isRe_fr hW.1 (f1 _ (by omega)), ⟨X1, e1⟩, F1, e2⟩ (f1.w (Or.inr (by decide)))))
        · refine R_iload_n rfl rfl ?_
          refine R_scall rfl rfl ⟨Nat.le_of_ble_eq_true rfl, Nat.le_of_ble_eq_true rfl, Nat.zero_le _, Nat.zero_le _⟩ (mIsRule_T ⟨by omega, by omega⟩ (fun z181 hz181 => aRes_i (rest := []) ?_))
          refine R_ifeq rfl ⟨by omega, by omega⟩ (fun c184 => ?_) (fun c184 => ?_)
          · have hq : cmF G g = (false, G) := by
              unfold cmF
              rw [show g / 10000 = 5 by omega]
              show (_, G) = _
              rw [show ruG G (g2 g) = false from ruG_5 (by omega), Bool.and_false]
            rw [hq] at hQ
            refine R_iconst rfl ?_
            exact R_ireturn rfl (fun _ => by first | exact Or.inl rfl | exact Or.inr rfl | omega) (Nat.zero_le _) (Nat.zero_le _) (by first | exact (hQ h hM hW frW.refl) | exact (hQ h1 hP1 (isWk_fr hW (fun j q1 q2 => f1 j (by omega))) (f1.w (Or.inl ⟨rfl, rfl⟩))) | exact (hQ h1 hP1 (isWk_fr hW (fun j q1 q2 => f1 j (by omega))) f1.w) | exact (hQ h1 (isMg_f hM f1 (by decide)) (isWk_re hW hE1 f1) (f1.w (Or.inr (by decide)))) | exact (hQ h1 (isMg_f hM f1 (by decide)) ⟨isRe_fr hW.1 (f1 _ (by omega)), ⟨X1, e1⟩, F1, e2⟩ (f1.w (Or.inr (by decide)))))
          · refine R_aload_n rfl rfl ?_
            refine R_iload_n rfl rfl ?_
            refine R_vcall rfl rfl ⟨(by omega), _, m0⟩ ⟨Nat.le_of_ble_eq_true rfl, Nat.le_of_ble_eq_true rfl, Nat.zero_le _, Nat.zero_le _⟩ (mKeeps_T (r := g2 g) hM hG hN hW.1 rfl (by omega) (fun h1 hE1 f1 z189 hz189 => aRes_i (rest := []) ?_))
            have h01 := bI01 (ruG G (g2 g))
            rw [← hz189] at h01
            refine R_ifeq rfl ⟨by omega, by omega⟩ (fun c192 => ?_) (fun c192 => ?_)
            · have hq : cmF G g = (false, G) := by
                unfold cmF
                rw [show g / 10000 = 5 by omega]
                show (_, G) = _
                rw [bI_f hz189 (by omega), Bool.and_false]
              rw [hq] at hQ
              refine R_iconst rfl ?_
              exact R_ireturn rfl (fun _ => by first | exact Or.inl rfl | exact Or.inr rfl | omega) (Nat.zero_le _) (Nat.zero_le _) (by first | exact (hQ h hM hW frW.refl) | exact (hQ h1 hP1 (isWk_fr hW (fun j q1 q2 => f1 j (by omega))) (f1.w (Or.inl ⟨rfl, rfl⟩))) | exact (hQ h1 hP1 (isWk_fr hW (fun j q1 q2 => f1 j (by omega))) f1.w) | exact (hQ h1 (isMg_f hM f1 (by decide)) (isWk_re hW hE1 f1) (f1.w (Or.inr (by decide)))) | exact (hQ h1 (isMg_f hM f1 (by decide)) ⟨isRe_fr hW.1 (f1 _ (by omega)), ⟨X1, e1⟩, F1, e2⟩ (f1.w (Or.inr (by decide)))))
            · have hq : cmF G g = (true, G) := by
                unfold cmF
                rw [show g / 10000 = 5 by omega]
                show (_, G) = _
                rw [decide_eq_true (show g3 g = 0 by omega), decide_eq_true (show gB9 g = 0 by omega), bI_t hz189 c192]
                rfl
              rw [hq] at hQ
              refine R_iconst rfl ?_
              refine R_goto rfl ?_
              exact R_ireturn rfl (fun _ => by first | exact Or.inl rfl | exact Or.inr rfl | omega) (Nat.zero_le _) (Nat.zero_le _) (by first | exact (hQ h hM hW frW.refl) | exact (hQ h1 hP1 (isWk_fr hW (fun j q1 q2 => f1 j (by omega))) (f1.w (Or.inl ⟨rfl, rfl⟩))) | exact (hQ h1 hP1 (isWk_fr hW (fun j q1 q2 => f1 j (by omega))) f1.w) | exact (hQ h1 (isMg_f hM f1 (by decide)) (isWk_re hW hE1 f1) (f1.w (Or.inr (by decide)))) | exact (hQ h1 (isMg_f hM f1 (by decide)) ⟨isRe_fr hW.1 (f1 _ (by omega)), ⟨X1, e1⟩, F1, e2⟩ (f1.w (Or.inr (by decide)))))
    · refine R_iload_n rfl rfl ?_
      refine R_ifne rfl ⟨by omega, by omega⟩ (fun c202 => ?_) (fun c202 => ?_)
      · have hq : cmF G g = (false, G) := by
          unfold cmF
          rw [show g / 10000 = 6 by omega]
          show (_, G) = _
          rw [decide_eq_false (show ¬ g2 g = 0 by omega)]
          rfl
        rw [hq] at hQ
        refine R_iconst rfl ?_
        exact R_ireturn rfl (fun _ => by first | exact Or.inl rfl | exact Or.inr rfl | omega) (Nat.zero_le _) (Nat.zero_le _) (by first | exact (hQ h hM hW frW.refl) | exact (hQ h1 hP1 (isWk_fr hW (fun j q1 q2 => f1 j (by omega))) (f1.w (Or.inl ⟨rfl, rfl⟩))) | exact (hQ h1 hP1 (isWk_fr hW (fun j q1 q2 => f1 j (by omega))) f1.w) | exact (hQ h1 (isMg_f hM f1 (by decide)) (isWk_re hW hE1 f1) (f1.w (Or.inr (by decide)))) | exact (hQ h1 (isMg_f hM f1 (by decide)) ⟨isRe_fr hW.1 (f1 _ (by omega)), ⟨X1, e1⟩, F1, e2⟩ (f1.w (Or.inr (by decide)))))
      · refine R_aload_n rfl rfl ?_
        refine R_iconst rfl ?_
        refine R_sipush rfl ?_
        refine R_vcall rfl rfl ⟨(by omega), _, m0⟩ ⟨Nat.le_of_ble_eq_true rfl, Nat.le_of_ble_eq_true rfl, Nat.zero_le _, Nat.zero_le _⟩ (mCount_T (em := false) (most := 1000) hM hG hN hW.2.1 hW.2.2 (by decide) (fun h1 X1 F1 e1 e2 hok f1 => aRes_i (rest := []) ?_))
        have hmn : (rdS G false 1000).1 = min 1000 (rdG G false).length := rdS_min
        have hmn2 : (rdS G false (gL9 g)).1 = min (gL9 g) (rdG G false).length := rdS_min
        refine R_bipush rfl ?_
        refine R_iload rfl rfl ?_
        refine R_imul rfl ?_
        refine R_iload rfl rfl ?_
        refine R_iadd rfl ?_
        refine R_icmplt rfl ⟨by omega, by omega⟩ ⟨by omega, by omega⟩ (fun c221 => ?_) (fun c221 => ?_)
        · have hq : cmF G g = (false, G) := by
            unfold cmF
            rw [show g / 10000 = 6 by omega]
            show (_, G) = _
            rw [decide_eq_false (show ¬ gL9 g ≤ (rdS G false (gL9 g)).1 by omega), Bool.and_false]
          rw [hq] at hQ
          refine R_iconst rfl ?_
          exact R_ireturn rfl (fun _ => by first | exact Or.inl rfl | exact Or.inr rfl | omega) (Nat.zero_le _) (Nat.zero_le _) (by first | exact (hQ h hM hW frW.refl) | exact (hQ h1 hP1 (isWk_fr hW (fun j q1 q2 => f1 j (by omega))) (f1.w (Or.inl ⟨rfl, rfl⟩))) | exact (hQ h1 hP1 (isWk_fr hW (fun j q1 q2 => f1 j (by omega))) f1.w) | exact (hQ h1 (isMg_f hM f1 (by decide)) (isWk_re hW hE1 f1) (f1.w (Or.inr (by decide)))) | exact (hQ h1 (isMg_f hM f1 (by decide)) ⟨isRe_fr hW.1 (f1 _ (by omega)), ⟨X1, e1⟩, F1, e2⟩ (f1.w (Or.inr (by decide)))))
        · have hq : cmF G g = (true, G) := by
            unfold cmF
            rw [show g / 10000 = 6 by omega]
            show (_, G) = _
            rw [decide_eq_true (show g2 g = 0 by omega), decide_eq_true (show gL9 g ≤ (rdS G false (gL9 g)).1 by omega)]
            rfl
          rw [hq] at hQ
          refine R_iconst rfl ?_
          refine R_goto rfl ?_
          exact R_ireturn rfl (fun _ => by first | exact Or.inl rfl | exact Or.inr rfl | omega) (Nat.zero_le _) (Nat.zero_le _) (by first | exact (hQ h hM hW frW.refl) | exact (hQ h1 hP1 (isWk_fr hW (fun j q1 q2 => f1 j (by omega))) (f1.w (Or.inl ⟨rfl, rfl⟩))) | exact (hQ h1 hP1 (isWk_fr hW (fun j q1 q2 => f1 j (by omega))) f1.w) | exact (hQ h1 (isMg_f hM f1 (by decide)) (isWk_re hW hE1 f1) (f1.w (Or.inr (by decide)))) | exact (hQ h1 (isMg_f hM f1 (by decide)) ⟨isRe_fr hW.1 (f1 _ (by omega)), ⟨X1, e1⟩, F1, e2⟩ (f1.w (Or.inr (by decide)))))
    · refine R_iload rfl rfl ?_
      refine R_ifne rfl ⟨by omega, by omega⟩ (fun c232 => ?_) (fun c232 => ?_)
      · have hq : cmF G g = (false, G) := by
          unfold cmF
          rw [show g / 10000 = 7 by omega]
          show (_, G) = _
          rw [decide_eq_false (show ¬ g4 g = 0 by omega)]
          rfl
        rw [hq] at hQ
        refine R_iconst rfl ?_
        exact R_ireturn rfl (fun _ => by first | exact Or.inl rfl | exact Or.inr rfl | omega) (Nat.zero_le _) (Nat.zero_le _) (by first | exact (hQ h hM hW frW.refl) | exact (hQ h1 hP1 (isWk_fr hW (fun j q1 q2 => f1 j (by omega))) (f1.w (Or.inl ⟨rfl, rfl⟩))) | exact (hQ h1 hP1 (isWk_fr hW (fun j q1 q2 => f1 j (by omega))) f1.w) | exact (hQ h1 (isMg_f hM f1 (by decide)) (isWk_re hW hE1 f1) (f1.w (Or.inr (by decide)))) | exact (hQ h1 (isMg_f hM f1 (by decide)) ⟨isRe_fr hW.1 (f1 _ (by omega)), ⟨X1, e1⟩, F1, e2⟩ (f1.w (Or.inr (by decide)))))
      · refine R_aload_n rfl rfl ?_
        refine R_iload rfl rfl ?_
        refine R_vcall rfl rfl ⟨(by omega), _, m0⟩ ⟨Nat.le_of_ble_eq_true rfl, Nat.le_of_ble_eq_true rfl, Nat.zero_le _, Nat.zero_le _⟩ (mIsEntry_T hM hG hN ⟨by omega, by omega⟩ (fun z238 hz238 => aRes_i (rest := []) ?_))
        refine R_ifeq rfl ⟨by omega, by omega⟩ (fun c241 => ?_) (fun c241 => ?_)
        · have hq : cmF G g = (false, G) := by
            unfold cmF
            rw [show g / 10000 = 7 by omega]
            show (_, G) = _
            rw [decide_eq_false (show ¬ gF9 g < nE G by omega), Bool.and_false]
            rfl
          rw [hq] at hQ
          refine R_iconst rfl ?_
          exact R_ireturn rfl (fun _ => by first | exact Or.inl rfl | exact Or.inr rfl | omega) (Nat.zero_le _) (Nat.zero_le _) (by first | exact (hQ h hM hW frW.refl) | exact (hQ h1 hP1 (isWk_fr hW (fun j q1 q2 => f1 j (by omega))) (f1.w (Or.inl ⟨rfl, rfl⟩))) | exact (hQ h1 hP1 (isWk_fr hW (fun j q1 q2 => f1 j (by omega))) f1.w) | exact (hQ h1 (isMg_f hM f1 (by decide)) (isWk_re hW hE1 f1) (f1.w (Or.inr (by decide)))) | exact (hQ h1 (isMg_f hM f1 (by decide)) ⟨isRe_fr hW.1 (f1 _ (by omega)), ⟨X1, e1⟩, F1, e2⟩ (f1.w (Or.inr (by decide)))))
        · refine R_aload_n rfl rfl ?_
          refine R_iload rfl rfl ?_
          refine R_vcall rfl rfl ⟨(by omega), _, m0⟩ ⟨Nat.le_of_ble_eq_true rfl, Nat.le_of_ble_eq_true rfl, Nat.zero_le _, Nat.zero_le _⟩ (mFitsOf_T (e := gF9 g) hM hG hN rfl (by omega) (fun z247 hz247 => aRes_i (rest := []) ?_))
          have hfc := fc_8 hG (e := gF9 g)
          refine R_iload rfl rfl ?_
          refine R_icmplt rfl ⟨by omega, by omega⟩ ⟨by omega, by omega⟩ (fun c252 => ?_) (fun c252 => ?_)
          · have hq : cmF G g = (false, G) := by
              unfold cmF
              rw [show g / 10000 = 7 by omega]
              show (_, G) = _
              rw [decide_eq_false (show ¬ g5 g ≤ fcG G (gF9 g) by omega), Bool.and_false]
            rw [hq] at hQ
            refine R_iconst rfl ?_
            exact R_ireturn rfl (fun _ => by first | exact Or.inl rfl | exact Or.inr rfl | omega) (Nat.zero_le _) (Nat.zero_le _) (by first | exact (hQ h hM hW frW.refl) | exact (hQ h1 hP1 (isWk_fr hW (fun j q1 q2 => f1 j (by omega))) (f1.w (Or.inl ⟨rfl, rfl⟩))) | exact (hQ h1 hP1 (isWk_fr hW (fun j q1 q2 => f1 j (by omega))) f1.w) | exact (hQ h1 (isMg_f hM f1 (by decide)) (isWk_re hW hE1 f1) (f1.w (Or.inr (by decide)))) | exact (hQ h1 (isMg_f hM f1 (by decide)) ⟨isRe_fr hW.1 (f1 _ (by omega)), ⟨X1, e1⟩, F1, e2⟩ (f1.w (Or.inr (by decide)))))
          · have hq : cmF G g = (true, G) := by
              unfold cmF
              rw [show g / 10000 = 7 by omega]
              show (_, G) = _
              rw [decide_eq_true (show g4 g = 0 by omega), decide_eq_true (show gF9 g < nE G by omega), decide_eq_true (show g5 g ≤ fcG G (gF9 g) by omega)]
              rfl
            rw [hq] at hQ
            refine R_iconst rfl ?_
            refine R_goto rfl ?_
            exact R_ireturn rfl (fun _ => by first | exact Or.inl rfl | exact Or.inr rfl | omega) (Nat.zero_le _) (Nat.zero_le _) (by first | exact (hQ h hM hW frW.refl) | exact (hQ h1 hP1 (isWk_fr hW (fun j q1 q2 => f1 j (by omega))) (f1.w (Or.inl ⟨rfl, rfl⟩))) | exact (hQ h1 hP1 (isWk_fr hW (fun j q1 q2 => f1 j (by omega))) f1.w) | exact (hQ h1 (isMg_f hM f1 (by decide)) (isWk_re hW hE1 f1) (f1.w (Or.inr (by decide)))) | exact (hQ h1 (isMg_f hM f1 (by decide)) ⟨isRe_fr hW.1 (f1 _ (by omega)), ⟨X1, e1⟩, F1, e2⟩ (f1.w (Or.inr (by decide)))))
    · refine R_iload rfl rfl ?_
      refine R_ifne rfl ⟨by omega, by omega⟩ (fun c263 => ?_) (fun c263 => ?_)
      · have hq : cmF G g = (false, G) := by
          unfold cmF
          rw [show g / 10000 = 8 by omega]
          show (_, G) = _
          rw [decide_eq_false (show ¬ g4 g = 0 by omega)]
          rfl
        rw [hq] at hQ
        refine R_iconst rfl ?_
        exact R_ireturn rfl (fun _ => by first | exact Or.inl rfl | exact Or.inr rfl | omega) (Nat.zero_le _) (Nat.zero_le _) (by first | exact (hQ h hM hW frW.refl) | exact (hQ h1 hP1 (isWk_fr hW (fun j q1 q2 => f1 j (by omega))) (f1.w (Or.inl ⟨rfl, rfl⟩))) | exact (hQ h1 hP1 (isWk_fr hW (fun j q1 q2 => f1 j (by omega))) f1.w) | exact (hQ h1 (isMg_f hM f1 (by decide)) (isWk_re hW hE1 f1) (f1.w (Or.inr (by decide)))) | exact (hQ h1 (isMg_f hM f1 (by decide)) ⟨isRe_fr hW.1 (f1 _ (by omega)), ⟨X1, e1⟩, F1, e2⟩ (f1.w (Or.inr (by decide)))))
      · refine R_aload_n rfl rfl ?_
        refine R_iload rfl rfl ?_
        refine R_vcall rfl rfl ⟨(by omega), _, m0⟩ ⟨Nat.le_of_ble_eq_true rfl, Nat.le_of_ble_eq_true rfl, Nat.zero_le _, Nat.zero_le _⟩ (mIsCell_T hZ hG hN ⟨by omega, by omega⟩ (fun z269 hz269 => aRes_i (rest := []) ?_))
        refine R_ifeq rfl ⟨by omega, by omega⟩ (fun c272 => ?_) (fun c272 => ?_)
        · have hq : cmF G g = (false, G) := by
            unfold cmF
            rw [show g / 10000 = 8 by omega]
            show (_, G) = _
            rw [decide_eq_false (show ¬ gF9 g < qM G by omega), Bool.and_false]
            rfl
          rw [hq] at hQ
          refine R_iconst rfl ?_
          exact R_ireturn rfl (fun _ => by first | exact Or.inl rfl | exact Or.inr rfl | omega) (Nat.zero_le _) (Nat.zero_le _) (by first | exact (hQ h hM hW frW.refl) | exact (hQ h1 hP1 (isWk_fr hW (fun j q1 q2 => f1 j (by omega))) (f1.w (Or.inl ⟨rfl, rfl⟩))) | exact (hQ h1 hP1 (isWk_fr hW (fun j q1 q2 => f1 j (by omega))) f1.w) | exact (hQ h1 (isMg_f hM f1 (by decide)) (isWk_re hW hE1 f1) (f1.w (Or.inr (by decide)))) | exact (hQ h1 (isMg_f hM f1 (by decide)) ⟨isRe_fr hW.1 (f1 _ (by omega)), ⟨X1, e1⟩, F1, e2⟩ (f1.w (Or.inr (by decide)))))
        · refine R_aload_n rfl rfl ?_
          refine R_iload rfl rfl ?_
          refine R_vcall rfl rfl ⟨(by omega), _, m0⟩ ⟨Nat.le_of_ble_eq_true rfl, Nat.le_of_ble_eq_true rfl, Nat.zero_le _, Nat.zero_le _⟩ (mEntriesOf_T (x := gF9 g) hM hG hN rfl (by omega) (fun z278 hz278 => aRes_i (rest := []) ?_))
          have hen := enC_2 (G := G) (x := gF9 g)
          refine R_iload rfl rfl ?_
          refine R_icmpne rfl ⟨by omega, by omega⟩ ⟨by omega, by omega⟩ (fun c283 => ?_) (fun c283 => ?_)
          · have hq : cmF G g = (false, G) := by
              unfold cmF
              rw [show g / 10000 = 8 by omega]
              show (_, G) = _
              rw [decide_eq_false (show ¬ enC G (gF9 g) = g5 g by omega), Bool.and_false]
            rw [hq] at hQ
            refine R_iconst rfl ?_
            exact R_ireturn rfl (fun _ => by first | exact Or.inl rfl | exact Or.inr rfl | omega) (Nat.zero_le _) (Nat.zero_le _) (by first | exact (hQ h hM hW frW.refl) | exact (hQ h1 hP1 (isWk_fr hW (fun j q1 q2 => f1 j (by omega))) (f1.w (Or.inl ⟨rfl, rfl⟩))) | exact (hQ h1 hP1 (isWk_fr hW (fun j q1 q2 => f1 j (by omega))) f1.w) | exact (hQ h1 (isMg_f hM f1 (by decide)) (isWk_re hW hE1 f1) (f1.w (Or.inr (by decide)))) | exact (hQ h1 (isMg_f hM f1 (by decide)) ⟨isRe_fr hW.1 (f1 _ (by omega)), ⟨X1, e1⟩, F1, e2⟩ (f1.w (Or.inr (by decide)))))
          · have hq : cmF G g = (true, G) := by
              unfold cmF
              rw [show g / 10000 = 8 by omega]
              show (_, G) = _
              rw [decide_eq_true (show g4 g = 0 by omega), decide_eq_true (show gF9 g < qM G by omega), decide_eq_true (show enC G (gF9 g) = g5 g by omega)]
              rfl
            rw [hq] at hQ
            refine R_iconst rfl ?_
            refine R_goto rfl ?_
            exact R_ireturn rfl (fun _ => by first | exact Or.inl rfl | exact Or.inr rfl | omega) (Nat.zero_le _) (Nat.zero_le _) (by first | exact (hQ h hM hW frW.refl) | exact (hQ h1 hP1 (isWk_fr hW (fun j q1 q2 => f1 j (by omega))) (f1.w (Or.inl ⟨rfl, rfl⟩))) | exact (hQ h1 hP1 (isWk_fr hW (fun j q1 q2 => f1 j (by omega))) f1.w) | exact (hQ h1 (isMg_f hM f1 (by decide)) (isWk_re hW hE1 f1) (f1.w (Or.inr (by decide)))) | exact (hQ h1 (isMg_f hM f1 (by decide)) ⟨isRe_fr hW.1 (f1 _ (by omega)), ⟨X1, e1⟩, F1, e2⟩ (f1.w (Or.inr (by decide)))))
    · refine R_iload rfl rfl ?_
      refine R_ifne rfl ⟨by omega, by omega⟩ (fun c294 => ?_) (fun c294 => ?_)
      · have hq : cmF G g = (false, G) := by
          unfold cmF
          rw [show g / 10000 = 9 by omega]
          show (_, G) = _
          rw [decide_eq_false (show ¬ gF9 g = 0 by omega)]
          rfl
        rw [hq] at hQ
        refine R_iconst rfl ?_
        exact R_ireturn rfl (fun _ => by first | exact Or.inl rfl | exact Or.inr rfl | omega) (Nat.zero_le _) (Nat.zero_le _) (by first | exact (hQ h hM hW frW.refl) | exact (hQ h1 hP1 (isWk_fr hW (fun j q1 q2 => f1 j (by omega))) (f1.w (Or.inl ⟨rfl, rfl⟩))) | exact (hQ h1 hP1 (isWk_fr hW (fun j q1 q2 => f1 j (by omega))) f1.w) | exact (hQ h1 (isMg_f hM f1 (by decide)) (isWk_re hW hE1 f1) (f1.w (Or.inr (by decide)))) | exact (hQ h1 (isMg_f hM f1 (by decide)) ⟨isRe_fr hW.1 (f1 _ (by omega)), ⟨X1, e1⟩, F1, e2⟩ (f1.w (Or.inr (by decide)))))
      · refine R_aload_n rfl rfl ?_
        refine R_getfield rfl rfl (by omega) m0 rfl ?_
        refine R_iload rfl rfl ?_
        refine R_icmpne rfl ⟨by omega, by omega⟩ ⟨by omega, by omega⟩ (fun c303 => ?_) (fun c303 => ?_)
        · have hq : cmF G g = (false, G) := by
            unfold cmF
            rw [show g / 10000 = 9 by omega]
            show (_, G) = _
            rw [decide_eq_false (show ¬ nE G = gB9 g by omega), Bool.and_false]
          rw [hq] at hQ
          refine R_iconst rfl ?_
          exact R_ireturn rfl (fun _ => by first | exact Or.inl rfl | exact Or.inr rfl | omega) (Nat.zero_le _) (Nat.zero_le _) (by first | exact (hQ h hM hW frW.refl) | exact (hQ h1 hP1 (isWk_fr hW (fun j q1 q2 => f1 j (by omega))) (f1.w (Or.inl ⟨rfl, rfl⟩))) | exact (hQ h1 hP1 (isWk_fr hW (fun j q1 q2 => f1 j (by omega))) f1.w) | exact (hQ h1 (isMg_f hM f1 (by decide)) (isWk_re hW hE1 f1) (f1.w (Or.inr (by decide)))) | exact (hQ h1 (isMg_f hM f1 (by decide)) ⟨isRe_fr hW.1 (f1 _ (by omega)), ⟨X1, e1⟩, F1, e2⟩ (f1.w (Or.inr (by decide)))))
        · have hq : cmF G g = (true, G) := by
            unfold cmF
            rw [show g / 10000 = 9 by omega]
            show (_, G) = _
            rw [decide_eq_true (show gF9 g = 0 by omega), decide_eq_true (show nE G = gB9 g by omega)]
            rfl
          rw [hq] at hQ
          refine R_iconst rfl ?_
          refine R_goto rfl ?_
          exact R_ireturn rfl (fun _ => by first | exact Or.inl rfl | exact Or.inr rfl | omega) (Nat.zero_le _) (Nat.zero_le _) (by first | exact (hQ h hM hW frW.refl) | exact (hQ h1 hP1 (isWk_fr hW (fun j q1 q2 => f1 j (by omega))) (f1.w (Or.inl ⟨rfl, rfl⟩))) | exact (hQ h1 hP1 (isWk_fr hW (fun j q1 q2 => f1 j (by omega))) f1.w) | exact (hQ h1 (isMg_f hM f1 (by decide)) (isWk_re hW hE1 f1) (f1.w (Or.inr (by decide)))) | exact (hQ h1 (isMg_f hM f1 (by decide)) ⟨isRe_fr hW.1 (f1 _ (by omega)), ⟨X1, e1⟩, F1, e2⟩ (f1.w (Or.inr (by decide)))))
  refine T_body (I := mi_X9_runs) (lv := [_, _, _, _, _, _, _, _, _]) rfl (Nat.le_of_ble_eq_true rfl) rfl ?_
  refine R_iload_n rfl rfl ?_
  refine R_sipush rfl ?_
  refine R_idiv rfl ⟨by omega, by omega, by omega, by omega⟩ ?_
  refine R_istore_n (lv' := [_, _, _, _, _, _, _, _, _]) rfl rfl ?_
  refine R_iload_n rfl rfl ?_
  refine R_sipush rfl ?_
  refine R_idiv rfl ⟨by omega, by omega, by omega, by omega⟩ ?_
  refine R_bipush rfl ?_
  refine R_irem rfl ⟨by omega, by omega, by omega, by omega⟩ ?_
  refine R_istore_n (lv' := [_, _, _, _, _, _, _, _, _]) rfl rfl ?_
  refine R_iload_n rfl rfl ?_
  refine R_bipush rfl ?_
  refine R_idiv rfl ⟨by omega, by omega, by omega, by omega⟩ ?_
  refine R_bipush rfl ?_
  refine R_irem rfl ⟨by omega, by omega, by omega, by omega⟩ ?_
  refine R_istore (lv' := [_, _, _, _, _, _, _, _, _]) rfl rfl ?_
  refine R_iload_n rfl rfl ?_
  refine R_bipush rfl ?_
  refine R_idiv rfl ⟨by omega, by omega, by omega, by omega⟩ ?_
  refine R_bipush rfl ?_
  refine R_irem rfl ⟨by omega, by omega, by omega, by omega⟩ ?_
  refine R_istore (lv' := [_, _, _, _, _, _, _, _, _]) rfl rfl ?_
  refine R_iload_n rfl rfl ?_
  refine R_bipush rfl ?_
  refine R_irem rfl ⟨by omega, by omega, by omega, by omega⟩ ?_
  refine R_istore (lv' := [_, _, _, _, _, _, _, _, _]) rfl rfl ?_
  refine R_bipush rfl ?_
  refine R_iload_n rfl rfl ?_
  refine R_imul rfl ?_
  refine R_iload rfl rfl ?_
  refine R_iadd rfl ?_
  refine R_istore (lv' := [_, _, _, _, _, _, _, _, _]) rfl rfl ?_
  refine R_bipush rfl ?_
  refine R_iload rfl rfl ?_
  refine R_imul rfl ?_
  refine R_iload rfl rfl ?_
  refine R_iadd rfl ?_
  refine R_istore (lv' := [_, _, _, _, _, _, _, _, _]) rfl rfl ?_
  exact hK
