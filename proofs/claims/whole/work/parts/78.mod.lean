/-! ===== the model: mend; a script's commands ===== -/
theorem qPb_set {G : Gr} {c c' : Nat} {b b' v : Bool} : qPb (setBr G c b v) c' b' = qPb G c' b' := by
  cases b <;> rfl
theorem qB_set {G : Gr} {c : Nat} {b v : Bool} : qB (setBr G c b v) b c = v := by
  cases b
  · exact va_up_self _ _ _
  · exact va_up_self _ _ _
theorem up_back {f : Nat → Bool} {c : Nat} {v : Bool} : va_up (va_up f c v) c (f c) = f := funext fun j => by
  by_cases q : j = c
  · rw [q, va_up_self]
  · rw [va_up_ne _ _ q, va_up_ne _ _ q]
theorem setBr_back {G : Gr} {c : Nat} {b v : Bool} : setBr (setBr G c b v) c b (qB G b c) = G := by
  cases b
  · show (qR G, qC G, qL G, va_up (va_up (qE G) c v) c (qE G c), qS G, qW G, qWn G, qWl G, qN G, qNl G) = G
    rw [up_back]
  · show (qR G, qC G, qL G, qE G, va_up (va_up (qS G) c v) c (qS G c), qW G, qWn G, qWl G, qN G, qNl G) = G
    rw [up_back]
def kpB (G : Gr) (p : Nat) : Nat := kpG (setBr G (p / 2) (decide (p % 2 = 1)) (!qB G (decide (p % 2 = 1)) (p / 2)))
def mdF (G : Gr) : Nat → Nat → Int → Nat → Int
  | 0, _, b, _ => b
  | r + 1, p, b, m => if qPb G (p / 2) (decide (p % 2 = 1)) = true ∧ m < kpB G p then mdF G r (p + 1) (p : Int) (kpB G p) else mdF G r (p + 1) b m
def opMend (y : Sy) : Op := (0, mdF y.1 (2 * qM y.1) 0 (-9) (kpG y.1), y)
theorem kp_5 {G : Gr} : kpG G ≤ 5 := ct_le _ _
/-- nothing but the grid's places and the working rows is changed -/
def frW (h h' : AH) : Prop := ∀ j, ¬ (j = 122 ∨ j = 124 ∨ (130 ≤ j ∧ j ≤ 138)) → h' j = h j
theorem frW.refl {h : AH} : frW h h := fun _ _ => rfl
theorem frW.trans {h h' h'' : AH} (h1 : frW h h') (h2 : frW h' h'') : frW h h'' := fun j hj => (h2 j hj).trans (h1 j hj)
theorem frG.w {h h' : AH} (h1 : frG h h') : frW h h' := fun j hj => h1 j (by omega)
theorem fr.w {h h' : AH} {a n : Nat} (h1 : fr h h' a n) (ha : (a = 124 ∧ n = 1) ∨ (130 ≤ a ∧ a + n ≤ 139)) : frW h h' := fun j hj => h1 j (by omega)
def isWk (h : AH) : Prop := isRe h ∧ (∃ D, h 137 = eI 9 D) ∧ ∃ D, h 138 = eI 6 D
theorem isWk_fr {h h' : AH} (hW : isWk h) (he : ∀ j, 136 ≤ j → j ≤ 138 → h' j = h j) : isWk h' := by
  obtain ⟨h1, ⟨a, h2⟩, b, h3⟩ := hW
  exact ⟨isRe_fr h1 (he _ (by omega) (by omega)), ⟨a, (he _ (by omega) (by omega)).trans h2⟩, b, (he _ (by omega) (by omega)).trans h3⟩
theorem isWk_re {h h' : AH} (hW : isWk h) (hE : isRe h') (he : fr h h' 136 1) : isWk h' := by
  obtain ⟨h1, ⟨a, h2⟩, b, h3⟩ := hW
  exact ⟨hE, ⟨a, (he _ (by omega)).trans h2⟩, b, (he _ (by omega)).trans h3⟩
theorem isMo_w {h h' : AH} {G : Gr} {hist : List Gr} {sl : Nat → Option Gr} {n : Nat} {tx : Nat → Int} {th th' : Int} (hY : isMo h (G, hist, sl, n, tx) th) (hM : isMg h' G th' n hist.length) (hW : isWk h') (hf : frW h h') : isMo h' (G, hist, sl, n, tx) th' := by
  obtain ⟨-, hG, hT, hHi, hSv, ⟨⟨a, ha⟩, ⟨b, hb⟩, -, -, -⟩⟩ := hY
  exact ⟨hM, hG, isMt_fr hT (hf _ (by decide)), isHi_fr hHi (hf _ (by decide)), isSv_fr hSv (hf _ (by decide)) (hf _ (by decide)), ⟨a, (hf _ (by decide)).trans ha⟩, ⟨b, (hf _ (by decide)).trans hb⟩, hW.1, hW.2.1, hW.2.2⟩
theorem isMo.wk {h : AH} {y : Sy} {th : Int} (hY : isMo h y th) : isWk h := hY.2.2.2.2.2.2.2
theorem mmd_loop {d N : Nat} {G : Gr} {th tl rm : Int} {Q : AQ} (hG : okG G) (hN : 139 ≤ N) : ∀ (r i : Nat) (bb : Int) (m : Nat) (h : AH) (zm zi : Int) (l4 l5 l6 : Option AV), i + r = 2 * qM G → zi = i → zm = m → m ≤ 5 → isMg h G th tl rm → isWk h → (∀ h', isMg h' G th tl rm → isWk h' → frW h h' → ∀ z : Int, z = mdF G r i bb m → Q (.inl (some (vI z))) h' N) → Run mi_X9_mend (T (d + 5)) Q 15 [some (vR 122), some (vI bb), some (vI zm), some (vI zi), l4, l5, l6] [] h N 0 0 := by
  intro r
  induction r using Nat.strongRecOn with
  | ind r ih =>
  intro i bb m h zm zi l4 l5 l6 hr hzi hzm hm5 hM hW kc
  obtain ⟨F, D, L, A, W, C, hZ, m11, m12, m13, m14, m15, m16, hE, hA, hW9, hC⟩ := id hM
  obtain ⟨S, m0, m3, hR⟩ := id hZ
  obtain ⟨hr0, hr1, rL, rE, rS, hr110, rWn, rWl, hr167, rNl⟩ := id hR
  have r0 : S (0 : Int).toNat = (qR G : Int) := hr0
  have r1 : S (1 : Int).toNat = (qC G : Int) := hr1
  have r110 : S (110 : Int).toNat = (qW G : Int) := hr110
  have r167 : S (167 : Int).toNat = (qN G : Int) := hr167
  obtain ⟨hm4, hm36⟩ := hG.m
  have hmi := qM_int G
  obtain ⟨⟨hr2, hr6⟩, ⟨hc2, hc6⟩, gL, gB, gW, gWn, gWl, gN, gNl⟩ := id hG
  have hn36 := nE36 hG
  refine R_iload_n rfl rfl ?_
  refine R_iconst rfl ?_
  refine R_aload_n rfl rfl ?_
  refine R_vcall rfl rfl ⟨(by omega), _, m0⟩ ⟨Nat.le_of_ble_eq_true rfl, Nat.le_of_ble_eq_true rfl, Nat.zero_le _, Nat.zero_le _⟩ (mSize_T hZ hG hN (fun z18 hz18 => aRes_i (rest := [_, _]) ?_))
  refine R_imul rfl ?_
  refine R_icmpge rfl ⟨by omega, by omega⟩ ⟨by omega, by omega⟩ (fun c22 => ?_) (fun c22 => ?_)
  · have hr0 : r = 0 := by omega
    subst hr0
    refine R_iload_n rfl rfl ?_
    exact R_ireturn rfl (fun q => absurd q (by decide)) (Nat.zero_le _) (Nat.zero_le _) (kc h hM hW frW.refl _ rfl)
  · obtain ⟨r, rfl⟩ : ∃ r1, r = r1 + 1 := ⟨r - 1, by omega⟩
    subst hzi
    refine R_iload_n rfl rfl ?_
    refine R_iconst rfl ?_
    refine R_idiv rfl ⟨by omega, by omega, by omega, by omega⟩ ?_
    refine R_istore (lv' := [_, _, _, _, _, _, _]) rfl rfl ?_
    refine R_iload_n rfl rfl ?_
    refine R_iconst rfl ?_
    refine R_irem rfl ⟨by omega, by omega, by omega, by omega⟩ ?_
    refine R_iconst rfl ?_
    refine R_icmpne rfl ⟨by omega, by omega⟩ ⟨by decide, by decide⟩ (fun c34 => ?_) (fun c34 => ?_)
    · refine R_iconst rfl ?_
      refine R_istore (lv' := [_, _, _, _, _, _, _]) rfl rfl ?_
      have hbb : decide (i % 2 = 1) = false := decide_eq_false (by omega)
      refine R_aload_n rfl rfl ?_
      refine R_iload rfl rfl ?_
      refine R_iload rfl rfl ?_
      refine R_vcall rfl rfl ⟨(by omega), _, m0⟩ ⟨Nat.le_of_ble_eq_true rfl, Nat.le_of_ble_eq_true rfl, Nat.zero_le _, Nat.zero_le _⟩ (mIsRim_T (b := false) (c := i / 2) hZ hG hN (by omega) (by omega) (fun z49 hz49 => aRes_i (rest := []) ?_))
      have h01 := bI01 (!qPb G (i / 2) false)
      rw [← hz49] at h01
      refine R_ifne rfl ⟨by omega, by omega⟩ (fun c52 => ?_) (fun c52 => ?_)
      · have hpb0 : qPb G (i / 2) false = false := bI_nt hz49 c52
        have hh : mdF G (r + 1) i bb m = mdF G r (i + 1) bb m := if_neg (fun q => by have q1 := q.1; rw [hbb, hpb0] at q1; cases q1)
        refine R_iinc (lv' := [_, _, _, _, _, _, _]) rfl rfl rfl ?_
        refine R_goto rfl ?_
        rw [hh] at kc
        exact ih r (by omega) (i + 1) bb m h _ _ _ _ _ (by omega) (by omega) hzm hm5 hM hW kc
      · have hpb : qPb G (i / 2) false = true := bI_nf hz49 (by omega)
        refine R_aload_n rfl rfl ?_
        refine R_iload rfl rfl ?_
        refine R_iload rfl rfl ?_
        refine R_vcall rfl rfl ⟨(by omega), _, m0⟩ ⟨Nat.le_of_ble_eq_true rfl, Nat.le_of_ble_eq_true rfl, Nat.zero_le _, Nat.zero_le _⟩ (mChange_T (b := false) (c := i / 2) hM.a hG hN (by omega) hpb (fun h1 hM1 f1 => aRes_v (rest := []) ?_))
        obtain ⟨S1, x9m0, -⟩ := id hM1.z
        have hG1 := ok_setBr hG (v := !qB G false (i / 2)) (qPb_iff.mp hpb)
        have hW1 := isWk_fr hW (fun j h1 h2 => f1 j (by omega))
        refine R_aload_n rfl rfl ?_
        refine R_vcall rfl rfl ⟨(by omega), _, x9m0⟩ ⟨Nat.le_of_ble_eq_true rfl, Nat.le_of_ble_eq_true rfl, Nat.zero_le _, Nat.zero_le _⟩ (mKept_T hM1 hG1 hN hW1.1 (fun h2 hE2 f2 z64 hz64 => aRes_i (rest := []) ?_))
        have hM2 := isMg_f hM1 f2 (by decide)
        obtain ⟨S2, z9m0, -⟩ := id hM2.z
        refine R_istore (lv' := [_, _, _, _, _, _, _]) rfl rfl ?_
        refine R_aload_n rfl rfl ?_
        refine R_iload rfl rfl ?_
        refine R_iload rfl rfl ?_
        refine R_vcall rfl rfl ⟨(by omega), _, z9m0⟩ ⟨Nat.le_of_ble_eq_true rfl, Nat.le_of_ble_eq_true rfl, Nat.zero_le _, Nat.zero_le _⟩ (mChange_T (b := false) (c := i / 2) hM2.a hG1 hN (by omega) (qPb_set.trans hpb) (fun h3 hM3 f3 => aRes_v (rest := []) ?_))
        rw [qB_set, Bool.not_not, setBr_back] at hM3
        have hW3 := isWk_fr (isWk_re hW1 hE2 f2) (fun j h1 h2 => f3 j (by omega))
        have hf9 : frW h h3 := (f1.w).trans ((f2.w (Or.inr (by decide))).trans f3.w)
        have hkb : kpB G i = kpG (setBr G (i / 2) false (!qB G false (i / 2))) := by
          unfold kpB
          rw [hbb]
        have hk5 := kp_5 (G := setBr G (i / 2) false (!qB G false (i / 2)))
        obtain ⟨S3, y9m0, -⟩ := id hM3.z
        refine R_iload rfl rfl ?_
        refine R_iload_n rfl rfl ?_
        refine R_icmple rfl ⟨by omega, by omega⟩ ⟨by omega, by omega⟩ (fun c80 => ?_) (fun c80 => ?_)
        · have hh : mdF G (r + 1) i bb m = mdF G r (i + 1) bb m := if_neg (fun q => by have q1 := q.2; omega)
          refine R_iload_n rfl rfl ?_
          refine R_istore_n (lv' := [_, _, _, _, _, _, _]) rfl rfl ?_
          refine R_iload rfl rfl ?_
          refine R_iload_n rfl rfl ?_
          refine R_icmple rfl ⟨by omega, by omega⟩ ⟨by omega, by omega⟩ (fun c92 => ?_) (fun c92 => ?_)
          · refine R_iload_n rfl rfl ?_
            refine R_istore_n (lv' := [_, _, _, _, _, _, _]) rfl rfl ?_
            refine R_iinc (lv' := [_, _, _, _, _, _, _]) rfl rfl rfl ?_
            refine R_goto rfl ?_
            first
            | (rw [hh] at kc; exact ih r (by omega) (i + 1) bb m h3 _ _ _ _ _ (by omega) (by omega) hzm hm5 hM3 hW3 (fun h4 q1 q2 q3 q4 => kc h4 q1 q2 (hf9.trans q3) q4))
            | (rw [hh] at kc; exact ih r (by omega) (i + 1) (i : Int) (kpB G i) h3 _ _ _ _ _ (by omega) (by omega) (by omega) (by omega) hM3 hW3 (fun h4 q1 q2 q3 q4 => kc h4 q1 q2 (hf9.trans q3) q4))
            | omega
          · refine R_iload rfl rfl ?_
            refine R_goto rfl ?_
            refine R_istore_n (lv' := [_, _, _, _, _, _, _]) rfl rfl ?_
            refine R_iinc (lv' := [_, _, _, _, _, _, _]) rfl rfl rfl ?_
            refine R_goto rfl ?_
            first
            | (rw [hh] at kc; exact ih r (by omega) (i + 1) bb m h3 _ _ _ _ _ (by omega) (by omega) hzm hm5 hM3 hW3 (fun h4 q1 q2 q3 q4 => kc h4 q1 q2 (hf9.trans q3) q4))
            | (rw [hh] at kc; exact ih r (by omega) (i + 1) (i : Int) (kpB G i) h3 _ _ _ _ _ (by omega) (by omega) (by omega) (by omega) hM3 hW3 (fun h4 q1 q2 q3 q4 => kc h4 q1 q2 (hf9.trans q3) q4))
            | omega
        · have hh : mdF G (r + 1) i bb m = mdF G r (i + 1) (i : Int) (kpB G i) := if_pos ⟨by rw [hbb]; exact hpb, by omega⟩
          refine R_iload_n rfl rfl ?_
          refine R_goto rfl ?_
          refine R_istore_n (lv' := [_, _, _, _, _, _, _]) rfl rfl ?_
          refine R_iload rfl rfl ?_
          refine R_iload_n rfl rfl ?_
          refine R_icmple rfl ⟨by omega, by omega⟩ ⟨by omega, by omega⟩ (fun c92 => ?_) (fun c92 => ?_)
          · refine R_iload_n rfl rfl ?_
            refine R_istore_n (lv' := [_, _, _, _, _, _, _]) rfl rfl ?_
            refine R_iinc (lv' := [_, _, _, _, _, _, _]) rfl rfl rfl ?_
            refine R_goto rfl ?_
            first
            | (rw [hh] at kc; exact ih r (by omega) (i + 1) bb m h3 _ _ _ _ _ (by omega) (by omega) hzm hm5 hM3 hW3 (fun h4 q1 q2 q3 q4 => kc h4 q1 q2 (hf9.trans q3) q4))
            | (rw [hh] at kc; exact ih r (by omega) (i + 1) (i : Int) (kpB G i) h3 _ _ _ _ _ (by omega) (by omega) (by omega) (by omega) hM3 hW3 (fun h4 q1 q2 q3 q4 => kc h4 q1 q2 (hf9.trans q3) q4))
            | omega
          · refine R_iload rfl rfl ?_
            refine R_goto rfl ?_
            refine R_istore_n (lv' := [_, _, _, _, _, _, _]) rfl rfl ?_
            refine R_iinc (lv' := [_, _, _, _, _, _, _]) rfl rfl rfl ?_
            refine R_goto rfl ?_
            first
            | (rw [hh] at kc; exact ih r (by omega) (i + 1) bb m h3 _ _ _ _ _ (by omega) (by omega) hzm hm5 hM3 hW3 (fun h4 q1 q2 q3 q4 => kc h4 q1 q2 (hf9.trans q3) q4))
            | (rw [hh] at kc; exact ih r (by omega) (i + 1) (i : Int) (kpB G i) h3 _ _ _ _ _ (by omega) (by omega) (by omega) (by omega) hM3 hW3 (fun h4 q1 q2 q3 q4 => kc h4 q1 q2 (hf9.trans q3) q4))
            | omega
    · refine R_iconst rfl ?_
      refine R_goto rfl ?_
      refine R_istore (lv' := [_, _, _, _, _, _, _]) rfl rfl ?_
      have hbb : decide (i % 2 = 1) = true := decide_eq_true (by omega)
      refine R_aload_n rfl rfl ?_
      refine R_iload rfl rfl ?_
      refine R_iload rfl rfl ?_
      refine R_vcall rfl rfl ⟨(by omega), _, m0⟩ ⟨Nat.le_of_ble_eq_true rfl, Nat.le_of_ble_eq_true rfl, Nat.zero_le _, Nat.zero_le _⟩ (mIsRim_T (b := true) (c := i / 2) hZ hG hN (by omega) (by omega) (fun z49 hz49 => aRes_i (rest := []) ?_))
      have h01 := bI01 (!qPb G (i / 2) true)
      rw [← hz49] at h01
      refine R_ifne rfl ⟨by omega, by omega⟩ (fun c52 => ?_) (fun c52 => ?_)
      · have hpb0 : qPb G (i / 2) true = false := bI_nt hz49 c52
        have hh : mdF G (r + 1) i bb m = mdF G r (i + 1) bb m := if_neg (fun q => by have q1 := q.1; rw [hbb, hpb0] at q1; cases q1)
        refine R_iinc (lv' := [_, _, _, _, _, _, _]) rfl rfl rfl ?_
        refine R_goto rfl ?_
        rw [hh] at kc
        exact ih r (by omega) (i + 1) bb m h _ _ _ _ _ (by omega) (by omega) hzm hm5 hM hW kc
      · have hpb : qPb G (i / 2) true = true := bI_nf hz49 (by omega)
        refine R_aload_n rfl rfl ?_
        refine R_iload rfl rfl ?_
        refine R_iload rfl rfl ?_
        refine R_vcall rfl rfl ⟨(by omega), _, m0⟩ ⟨Nat.le_of_ble_eq_true rfl, Nat.le_of_ble_eq_true rfl, Nat.zero_le _, Nat.zero_le _⟩ (mChange_T (b := true) (c := i / 2) hM.a hG hN (by omega) hpb (fun h1 hM1 f1 => aRes_v (rest := []) ?_))
        obtain ⟨S1, x9m0, -⟩ := id hM1.z
        have hG1 := ok_setBr hG (v := !qB G true (i / 2)) (qPb_iff.mp hpb)
        have hW1 := isWk_fr hW (fun j h1 h2 => f1 j (by omega))
        refine R_aload_n rfl rfl ?_
        refine R_vcall rfl rfl ⟨(by omega), _, x9m0⟩ ⟨Nat.le_of_ble_eq_true rfl, Nat.le_of_ble_eq_true rfl, Nat.zero_le _, Nat.zero_le _⟩ (mKept_T hM1 hG1 hN hW1.1 (fun h2 hE2 f2 z64 hz64 => aRes_i (rest := []) ?_))
        have hM2 := isMg_f hM1 f2 (by decide)
        obtain ⟨S2, z9m0, -⟩ := id hM2.z
        refine R_istore (lv' := [_, _, _, _, _, _, _]) rfl rfl ?_
        refine R_aload_n rfl rfl ?_
        refine R_iload rfl rfl ?_
        refine R_iload rfl rfl ?_
        refine R_vcall rfl rfl ⟨(by omega), _, z9m0⟩ ⟨Nat.le_of_ble_eq_true rfl, Nat.le_of_ble_eq_true rfl, Nat.zero_le _, Nat.zero_le _⟩ (mChange_T (b := true) (c := i / 2) hM2.a hG1 hN (by omega) (qPb_set.trans hpb) (fun h3 hM3 f3 => aRes_v (rest := []) ?_))
        rw [qB_set, Bool.not_not, setBr_back] at hM3
        have hW3 := isWk_fr (isWk_re hW1 hE2 f2) (fun j h1 h2 => f3 j (by omega))
        have hf9 : frW h h3 := (f1.w).trans ((f2.w (Or.inr (by decide))).trans f3.w)
        have hkb : kpB G i = kpG (setBr G (i / 2) true (!qB G true (i / 2))) := by
          unfold kpB
          rw [hbb]
        have hk5 := kp_5 (G := setBr G (i / 2) true (!qB G true (i / 2)))
        obtain ⟨S3, y9m0, -⟩ := id hM3.z
        refine R_iload rfl rfl ?_
        refine R_iload_n rfl rfl ?_
        refine R_icmple rfl ⟨by omega, by omega⟩ ⟨by omega, by omega⟩ (fun c80 => ?_) (fun c80 => ?_)
        · have hh : mdF G (r + 1) i bb m = mdF G r (i + 1) bb m := if_neg (fun q => by have q1 := q.2; omega)
          refine R_iload_n rfl rfl ?_
          refine R_istore_n (lv' := [_, _, _, _, _, _, _]) rfl rfl ?_
          refine R_iload rfl rfl ?_
          refine R_iload_n rfl rfl ?_
          refine R_icmple rfl ⟨by omega, by omega⟩ ⟨by omega, by omega⟩ (fun c92 => ?_) (fun c92 => ?_)
          · refine R_iload_n rfl rfl ?_
            refine R_istore_n (lv' := [_, _, _, _, _, _, _]) rfl rfl ?_
            refine R_iinc (lv' := [_, _, _, _, _, _, _]) rfl rfl rfl ?_
            refine R_goto rfl ?_
            first
            | (rw [hh] at kc; exact ih r (by omega) (i + 1) bb m h3 _ _ _ _ _ (by omega) (by omega) hzm hm5 hM3 hW3 (fun h4 q1 q2 q3 q4 => kc h4 q1 q2 (hf9.trans q3) q4))
            | (rw [hh] at kc; exact ih r (by omega) (i + 1) (i : Int) (kpB G i) h3 _ _ _ _ _ (by omega) (by omega) (by omega) (by omega) hM3 hW3 (fun h4 q1 q2 q3 q4 => kc h4 q1 q2 (hf9.trans q3) q4))
            | omega
          · refine R_iload rfl rfl ?_
            refine R_goto rfl ?_
            refine R_istore_n (lv' := [_, _, _, _, _, _, _]) rfl rfl ?_
            refine R_iinc (lv' := [_, _, _, _, _, _, _]) rfl rfl rfl ?_
            refine R_goto rfl ?_
            first
            | (rw [hh] at kc; exact ih r (by omega) (i + 1) bb m h3 _ _ _ _ _ (by omega) (by omega) hzm hm5 hM3 hW3 (fun h4 q1 q2 q3 q4 => kc h4 q1 q2 (hf9.trans q3) q4))
            | (rw [hh] at kc; exact ih r (by omega) (i + 1) (i : Int) (kpB G i) h3 _ _ _ _ _ (by omega) (by omega) (by omega) (by omega) hM3 hW3 (fun h4 q1 q2 q3 q4 => kc h4 q1 q2 (hf9.trans q3) q4))
            | omega
        · have hh : mdF G (r + 1) i bb m = mdF G r (i + 1) (i : Int) (kpB G i) := if_pos ⟨by rw [hbb]; exact hpb, by omega⟩
          refine R_iload_n rfl rfl ?_
          refine R_goto rfl ?_
          refine R_istore_n (lv' := [_, _, _, _, _, _, _]) rfl rfl ?_
          refine R_iload rfl rfl ?_
          refine R_iload_n rfl rfl ?_
          refine R_icmple rfl ⟨by omega, by omega⟩ ⟨by omega, by omega⟩ (fun c92 => ?_) (fun c92 => ?_)
          · refine R_iload_n rfl rfl ?_
            refine R_istore_n (lv' := [_, _, _, _, _, _, _]) rfl rfl ?_
            refine R_iinc (lv' := [_, _, _, _, _, _, _]) rfl rfl rfl ?_
            refine R_goto rfl ?_
            first
            | (rw [hh] at kc; exact ih r (by omega) (i + 1) bb m h3 _ _ _ _ _ (by omega) (by omega) hzm hm5 hM3 hW3 (fun h4 q1 q2 q3 q4 => kc h4 q1 q2 (hf9.trans q3) q4))
            | (rw [hh] at kc; exact ih r (by omega) (i + 1) (i : Int) (kpB G i) h3 _ _ _ _ _ (by omega) (by omega) (by omega) (by omega) hM3 hW3 (fun h4 q1 q2 q3 q4 => kc h4 q1 q2 (hf9.trans q3) q4))
            | omega
          · refine R_iload rfl rfl ?_
            refine R_goto rfl ?_
            refine R_istore_n (lv' := [_, _, _, _, _, _, _]) rfl rfl ?_
            refine R_iinc (lv' := [_, _, _, _, _, _, _]) rfl rfl rfl ?_
            refine R_goto rfl ?_
            first
            | (rw [hh] at kc; exact ih r (by omega) (i + 1) bb m h3 _ _ _ _ _ (by omega) (by omega) hzm hm5 hM3 hW3 (fun h4 q1 q2 q3 q4 => kc h4 q1 q2 (hf9.trans q3) q4))
            | (rw [hh] at kc; exact ih r (by omega) (i + 1) (i : Int) (kpB G i) h3 _ _ _ _ _ (by omega) (by omega) (by omega) (by omega) hM3 hW3 (fun h4 q1 q2 q3 q4 => kc h4 q1 q2 (hf9.trans q3) q4))
            | omega
theorem mMend_T {d N : Nat} {h : AH} {th : Int} {Q : AQ} {G : Gr} {hist : List Gr} {sl : Nat → Option Gr} {n : Nat} {tx : Nat → Int} (hY : isMo h (G, hist, sl, n, tx) th) (hN : 139 ≤ N) (hQ : moQ (opMend (G, hist, sl, n, tx)) h N Q) : T (d + 6) 193 [vR 122] h N Q := by
  obtain ⟨hM, hG, hT, hHi, hSv, hRw⟩ := id hY
  have hM : isMg h G th n hist.length := hM
  have hG : okG G := hG
  have hT : isMt h n tx := hT
  have hHi : isHi h hist := hHi
  have hSv : isSv h sl := hSv
  obtain ⟨F, D, L, A, W, C, hZ, m11, m12, m13, m14, m15, m16, hE, hA, hW, hC⟩ := id hM
  obtain ⟨S, m0, m3, hR⟩ := id hZ
  obtain ⟨hr0, hr1, rL, rE, rS, hr110, rWn, rWl, hr167, rNl⟩ := id hR
  have r0 : S (0 : Int).toNat = (qR G : Int) := hr0
  have r1 : S (1 : Int).toNat = (qC G : Int) := hr1
  have r110 : S (110 : Int).toNat = (qW G : Int) := hr110
  have r167 : S (167 : Int).toNat = (qN G : Int) := hr167
  obtain ⟨hm4, hm36⟩ := hG.m
  have hmi := qM_int G
  obtain ⟨⟨hr2, hr6⟩, ⟨hc2, hc6⟩, gL, gB, gW, gWn, gWl, gN, gNl⟩ := id hG
  have hn36 := nE36 hG
  obtain ⟨tf, m1, hn150, htf⟩ := id hT
  refine T_body (I := mi_X9_mend) (lv := [_, _, _, _, _, _, _]) rfl (Nat.le_of_ble_eq_true rfl) rfl ?_
  refine R_aload_n rfl rfl ?_
  refine R_iconst rfl ?_
  refine R_putfield rfl rfl (by omega) m0 (Nat.le_of_ble_eq_true rfl) (by first | trivial | exact trivial | omega) ?_
  refine R_bipush rfl ?_
  refine R_istore_n (lv' := [_, _, _, _, _, _, _]) rfl rfl ?_
  refine R_aload_n rfl rfl ?_
  refine R_vcall rfl rfl ⟨(by omega), _, (va_up_self _ _ _)⟩ ⟨Nat.le_of_ble_eq_true rfl, Nat.le_of_ble_eq_true rfl, Nat.zero_le _, Nat.zero_le _⟩ (mKept_T (isMo_th (th' := 0) hY).1 hG hN (isMo_th (th' := 0) hY).wk.1 (fun h1 hE1 f1 z9 hz9 => aRes_i (rest := []) ?_))
  have hY1 := isMo_re (isMo_th (th' := 0) hY) hE1 f1
  obtain ⟨S1, x9m0, -⟩ := id hY1.1.z
  refine R_istore_n (lv' := [_, _, _, _, _, _, _]) rfl rfl ?_
  refine R_iconst rfl ?_
  refine R_istore_n (lv' := [_, _, _, _, _, _, _]) rfl rfl ?_
  exact mmd_loop hG hN (2 * qM G) 0 (-9) (kpG G) h1 _ _ _ _ _ (Nat.zero_add _) rfl hz9 kp_5 hY1.1 hY1.wk (fun h2 q1 q2 q3 z hz => moQ_v hQ rfl (isMo_w hY1 q1 q2 q3) (fun j hj => (q3 j (by omega)).trans ((f1 j (by omega)).trans (va_up_ne _ _ (by omega)))) hz)
theorem mPutsLetter_T {d N : Nat} {h : AH} {G : Gr} {th tl rm : Int} {Q : AQ} (hM : isMg h G th tl rm) (hG : okG G) (hN : 139 ≤ N) {c n : Nat} {cz nz : Int} (hcz : cz = c) (hnz : nz = n) (hc : c < 100) (hn : n < 100) (hQ : ∀ h', isMg h' (plF G c n).2 th tl rm → fr h h' 124 1 → Q (.inl (some (vI (bI (plF G c n).1)))) h' N) : T (d + 3) 195 [vR 122, vI cz, vI nz] h N Q := by
  obtain ⟨F, D, L, A, W, C, hZ, m11, m12, m13, m14, m15, m16, hE, hA, hW, hC⟩ := id hM
  obtain ⟨S, m0, m3, hR⟩ := id hZ
  obtain ⟨hr0, hr1, rL, rE, rS, hr110, rWn, rWl, hr167, rNl⟩ := id hR
  have r0 : S (0 : Int).toNat = (qR G : Int) := hr0
  have r1 : S (1 : Int).toNat = (qC G : Int) := hr1
  have r110 : S (110 : Int).toNat = (qW G : Int) := hr110
  have r167 : S (167 : Int).toNat = (qN G : Int) := hr167
  obtain ⟨hm4, hm36⟩ := hG.m
  have hmi := qM_int G
  obtain ⟨⟨hr2, hr6⟩, ⟨hc2, hc6⟩, gL, gB, gW, gWn, gWl, gN, gNl⟩ := id hG
  have hn36 := nE36 hG
  subst hcz
  subst hnz
  refine T_body (I := mi_X9_putsLetter) (lv := [_, _, _, _, _]) rfl (Nat.le_of_ble_eq_true rfl) rfl ?_
  refine R_iload_n rfl rfl ?_
  refine R_bipush rfl ?_
  refine R_icmpne rfl ⟨by omega, by omega⟩ ⟨by decide, by decide⟩ (fun c3 => ?_) (fun c3 => ?_)
  · have hlt : 97 + (n : Int) = ltO n := by
      unfold ltO
      rw [if_neg (by omega)]
    refine R_bipush rfl ?_
    refine R_iload_n rfl rfl ?_
    refine R_iadd rfl ?_
    refine R_istore_n (lv' := [_, _, _, _, _]) rfl rfl ?_
    refine R_aload_n rfl rfl ?_
    refine R_iload_n rfl rfl ?_
    refine R_vcall rfl rfl ⟨(by omega), _, m0⟩ ⟨Nat.le_of_ble_eq_true rfl, Nat.le_of_ble_eq_true rfl, Nat.zero_le _, Nat.zero_le _⟩ (mIsCell_T hZ hG hN ⟨by omega, by omega⟩ (fun z17 hz17 => aRes_i (rest := []) ?_))
    refine R_ifeq rfl ⟨by omega, by omega⟩ (fun c20 => ?_) (fun c20 => ?_)
    · have hp9 : plF G c n = (false, G) := if_neg (fun q => by have := q.1; omega)
      rw [hp9] at hQ
      refine R_iconst rfl ?_
      refine R_istore (lv' := [_, _, _, _, _]) rfl rfl ?_
      refine R_iload rfl rfl ?_
      refine R_ifeq rfl ⟨by decide, by decide⟩ (fun _ => ?_) (fun c0 => absurd c0 (by decide))
      refine R_iload rfl rfl ?_
      exact R_ireturn rfl (fun _ => by first | exact Or.inl rfl | exact Or.inr rfl) (Nat.zero_le _) (Nat.zero_le _) (hQ h hM fr.refl)
    · refine R_iload_n rfl rfl ?_
      refine R_scall rfl rfl ⟨Nat.le_of_ble_eq_true rfl, Nat.le_of_ble_eq_true rfl, Nat.zero_le _, Nat.zero_le _⟩ (mIsWritable_T ⟨by omega, by omega⟩ (fun z24 hz24 => aRes_i (rest := []) ?_))
      replace hz24 : z24 = bI (decide (ltO n = 0) || isLb (ltO n)) := by
        rw [← hlt]
        exact hz24
      have h01 := bI01 (decide (ltO n = 0) || isLb (ltO n))
      rw [← hz24] at h01
      refine R_ifeq rfl ⟨by omega, by omega⟩ (fun c27 => ?_) (fun c27 => ?_)
      · have h9 := bI_f hz24 (by omega)
        rw [Bool.or_eq_false_iff] at h9
        have hp9 : plF G c n = (false, G) := if_neg (fun q => by
          rcases q.2 with k | k
          · exact of_decide_eq_false h9.1 k
          · rw [h9.2] at k
            cases k)
        rw [hp9] at hQ
        refine R_iconst rfl ?_
        refine R_istore (lv' := [_, _, _, _, _]) rfl rfl ?_
        refine R_iload rfl rfl ?_
        refine R_ifeq rfl ⟨by decide, by decide⟩ (fun _ => ?_) (fun c0 => absurd c0 (by decide))
        refine R_iload rfl rfl ?_
        exact R_ireturn rfl (fun _ => by first | exact Or.inl rfl | exact Or.inr rfl) (Nat.zero_le _) (Nat.zero_le _) (hQ h hM fr.refl)
      · have hor : ltO n = 0 ∨ isLb (ltO n) = true := by
          have h9 := bI_t hz24 (by omega)
          rw [Bool.or_eq_true] at h9
          rcases h9 with q | q
          · exact Or.inl (of_decide_eq_true q)
          · exact Or.inr q
        have hp9 : plF G c n = (true, setL G c (ltO n)) := if_pos ⟨by omega, hor⟩
        rw [hp9] at hQ
        refine R_iconst rfl ?_
        refine R_goto rfl ?_
        refine R_istore (lv' := [_, _, _, _, _]) rfl rfl ?_
        refine R_iload rfl rfl ?_
        refine R_ifeq rfl ⟨by decide, by decide⟩ (fun c0 => absurd c0 (by decide)) (fun _ => ?_)
        refine R_aload_n rfl rfl ?_
        refine R_getfield rfl rfl (by omega) m0 rfl ?_
        refine R_iconst rfl ?_
        refine R_iload_n rfl rfl ?_
        refine R_iadd rfl ?_
        refine R_iload_n rfl rfl ?_
        refine R_iastore rfl (by omega) m3 ⟨by omega, by omega, by omega⟩ ?_
        refine R_iload rfl rfl ?_
        exact R_ireturn rfl (fun _ => by first | exact Or.inl rfl | exact Or.inr rfl) (Nat.zero_le _) (Nat.zero_le _) (hQ _ (isMg_G (G := G) (G' := setL G c (ltO n)) ⟨rfl, rfl, rfl, rfl⟩ hM (va_up_self _ _ _) (by
    rw [show (2 + (c : Int)).toNat = 2 + c by omega, ← hlt]
    exact rw_let hR hm36 (by omega)) fr_0) fr_0)
  · have hlt : (0 : Int) = ltO n := by
      unfold ltO
      rw [if_pos (by omega)]
    refine R_iconst rfl ?_
    refine R_goto rfl ?_
    refine R_istore_n (lv' := [_, _, _, _, _]) rfl rfl ?_
    refine R_aload_n rfl rfl ?_
    refine R_iload_n rfl rfl ?_
    refine R_vcall rfl rfl ⟨(by omega), _, m0⟩ ⟨Nat.le_of_ble_eq_true rfl, Nat.le_of_ble_eq_true rfl, Nat.zero_le _, Nat.zero_le _⟩ (mIsCell_T hZ hG hN ⟨by omega, by omega⟩ (fun z17 hz17 => aRes_i (rest := []) ?_))
    refine R_ifeq rfl ⟨by omega, by omega⟩ (fun c20 => ?_) (fun c20 => ?_)
    · have hp9 : plF G c n = (false, G) := if_neg (fun q => by have := q.1; omega)
      rw [hp9] at hQ
      refine R_iconst rfl ?_
      refine R_istore (lv' := [_, _, _, _, _]) rfl rfl ?_
      refine R_iload rfl rfl ?_
      refine R_ifeq rfl ⟨by decide, by decide⟩ (fun _ => ?_) (fun c0 => absurd c0 (by decide))
      refine R_iload rfl rfl ?_
      exact R_ireturn rfl (fun _ => by first | exact Or.inl rfl | exact Or.inr rfl) (Nat.zero_le _) (Nat.zero_le _) (hQ h hM fr.refl)
    · refine R_iload_n rfl rfl ?_
      refine R_scall rfl rfl ⟨Nat.le_of_ble_eq_true rfl, Nat.le_of_ble_eq_true rfl, Nat.zero_le _, Nat.zero_le _⟩ (mIsWritable_T ⟨by omega, by omega⟩ (fun z24 hz24 => aRes_i (rest := []) ?_))
      replace hz24 : z24 = bI (decide (ltO n = 0) || isLb (ltO n)) := by
        rw [← hlt]
        exact hz24
      have h01 := bI01 (decide (ltO n = 0) || isLb (ltO n))
      rw [← hz24] at h01
      refine R_ifeq rfl ⟨by omega, by omega⟩ (fun c27 => ?_) (fun c27 => ?_)
      · have h9 := bI_f hz24 (by omega)
        rw [Bool.or_eq_false_iff] at h9
        have hp9 : plF G c n = (false, G) := if_neg (fun q => by
          rcases q.2 with k | k
          · exact of_decide_eq_false h9.1 k
          · rw [h9.2] at k
            cases k)
        rw [hp9] at hQ
        refine R_iconst rfl ?_
        refine R_istore (lv' := [_, _, _, _, _]) rfl rfl ?_
        refine R_iload rfl rfl ?_
        refine R_ifeq rfl ⟨by decide, by decide⟩ (fun _ => ?_) (fun c0 => absurd c0 (by decide))
        refine R_iload rfl rfl ?_
        exact R_ireturn rfl (fun _ => by first | exact Or.inl rfl | exact Or.inr rfl) (Nat.zero_le _) (Nat.zero_le _) (hQ h hM fr.refl)
      · have hor : ltO n = 0 ∨ isLb (ltO n) = true := by
          have h9 := bI_t hz24 (by omega)
          rw [Bool.or_eq_true] at h9
          rcases h9 with q | q
          · exact Or.inl (of_decide_eq_true q)
          · exact Or.inr q
        have hp9 : plF G c n = (true, setL G c (ltO n)) := if_pos ⟨by omega, hor⟩
        rw [hp9] at hQ
        refine R_iconst rfl ?_
        refine R_goto rfl ?_
        refine R_istore (lv' := [_, _, _, _, _]) rfl rfl ?_
        refine R_iload rfl rfl ?_
        refine R_ifeq rfl ⟨by decide, by decide⟩ (fun c0 => absurd c0 (by decide)) (fun _ => ?_)
        refine R_aload_n rfl rfl ?_
        refine R_getfield rfl rfl (by omega) m0 rfl ?_
        refine R_iconst rfl ?_
        refine R_iload_n rfl rfl ?_
        refine R_iadd rfl ?_
        refine R_iload_n rfl rfl ?_
        refine R_iastore rfl (by omega) m3 ⟨by omega, by omega, by omega⟩ ?_
        refine R_iload rfl rfl ?_
        exact R_ireturn rfl (fun _ => by first | exact Or.inl rfl | exact Or.inr rfl) (Nat.zero_le _) (Nat.zero_le _) (hQ _ (isMg_G (G := G) (G' := setL G c (ltO n)) ⟨rfl, rfl, rfl, rfl⟩ hM (va_up_self _ _ _) (by
    rw [show (2 + (c : Int)).toNat = 2 + c by omega, ← hlt]
    exact rw_let hR hm36 (by omega)) fr_0) fr_0)
theorem mSetsBar_T {d N : Nat} {h : AH} {G : Gr} {th tl rm : Int} {Q : AQ} (hM : isMg h G th tl rm) (hG : okG G) (hN : 139 ≤ N) {c a e : Nat} {cz az ez : Int} (hcz : cz = c) (haz : az = a) (hez : ez = e) (hc : c < 100) (ha : a < 10) (he : e < 10) (hQ : ∀ h', isMg h' (cbF G c a e).2 th tl rm → frG h h' → Q (.inl (some (vI (bI (cbF G c a e).1)))) h' N) : T (d + 5) 196 [vR 122, vI cz, vI az, vI ez] h N Q := by
  obtain ⟨F, D, L, A, W, C, hZ, m11, m12, m13, m14, m15, m16, hE, hA, hW, hC⟩ := id hM
  obtain ⟨S, m0, m3, hR⟩ := id hZ
  obtain ⟨hr0, hr1, rL, rE, rS, hr110, rWn, rWl, hr167, rNl⟩ := id hR
  have r0 : S (0 : Int).toNat = (qR G : Int) := hr0
  have r1 : S (1 : Int).toNat = (qC G : Int) := hr1
  have r110 : S (110 : Int).toNat = (qW G : Int) := hr110
  have r167 : S (167 : Int).toNat = (qN G : Int) := hr167
  obtain ⟨hm4, hm36⟩ := hG.m
  have hmi := qM_int G
  obtain ⟨⟨hr2, hr6⟩, ⟨hc2, hc6⟩, gL, gB, gW, gWn, gWl, gN, gNl⟩ := id hG
  have hn36 := nE36 hG
  subst hcz
  subst haz
  subst hez
  refine T_body (I := mi_X9_setsBar) (lv := [_, _, _, _, _]) rfl (Nat.le_of_ble_eq_true rfl) rfl ?_
  refine R_aload_n rfl rfl ?_
  refine R_iload_n rfl rfl ?_
  refine R_vcall rfl rfl ⟨(by omega), _, m0⟩ ⟨Nat.le_of_ble_eq_true rfl, Nat.le_of_ble_eq_true rfl, Nat.zero_le _, Nat.zero_le _⟩ (mIsCell_T hZ hG hN ⟨by omega, by omega⟩ (fun z2 hz2 => aRes_i (rest := []) ?_))
  refine R_ifeq rfl ⟨by omega, by omega⟩ (fun c5 => ?_) (fun c5 => ?_)
  · have hp9 : cbF G c a e = (false, G) := if_neg (fun q => by
      have q2 := (qPb_iff.mp q.2.2).1
      omega)
    rw [hp9] at hQ
    refine R_iconst rfl ?_
    refine R_istore (lv' := [_, _, _, _, _]) rfl rfl ?_
    refine R_iload rfl rfl ?_
    refine R_ifeq rfl ⟨by decide, by decide⟩ (fun _ => ?_) (fun c0 => absurd c0 (by decide))
    refine R_iload rfl rfl ?_
    exact R_ireturn rfl (fun _ => by first | exact Or.inl rfl | exact Or.inr rfl) (Nat.zero_le _) (Nat.zero_le _) (hQ h hM frG.refl)
  · refine R_iload_n rfl rfl ?_
    refine R_iconst rfl ?_
    refine R_icmpgt rfl ⟨by omega, by omega⟩ ⟨by decide, by decide⟩ (fun c10 => ?_) (fun c10 => ?_)
    · have hp9 : cbF G c a e = (false, G) := if_neg (fun q => by have := q.1; omega)
      rw [hp9] at hQ
      refine R_iconst rfl ?_
      refine R_istore (lv' := [_, _, _, _, _]) rfl rfl ?_
      refine R_iload rfl rfl ?_
      refine R_ifeq rfl ⟨by decide, by decide⟩ (fun _ => ?_) (fun c0 => absurd c0 (by decide))
      refine R_iload rfl rfl ?_
      exact R_ireturn rfl (fun _ => by first | exact Or.inl rfl | exact Or.inr rfl) (Nat.zero_le _) (Nat.zero_le _) (hQ h hM frG.refl)
    · refine R_iload_n rfl rfl ?_
      refine R_iconst rfl ?_
      refine R_icmpgt rfl ⟨by omega, by omega⟩ ⟨by decide, by decide⟩ (fun c15 => ?_) (fun c15 => ?_)
      · have hp9 : cbF G c a e = (false, G) := if_neg (fun q => by have := q.2.1; omega)
        rw [hp9] at hQ
        refine R_iconst rfl ?_
        refine R_istore (lv' := [_, _, _, _, _]) rfl rfl ?_
        refine R_iload rfl rfl ?_
        refine R_ifeq rfl ⟨by decide, by decide⟩ (fun _ => ?_) (fun c0 => absurd c0 (by decide))
        refine R_iload rfl rfl ?_
        exact R_ireturn rfl (fun _ => by first | exact Or.inl rfl | exact Or.inr rfl) (Nat.zero_le _) (Nat.zero_le _) (hQ h hM frG.refl)
      · refine R_aload_n rfl rfl ?_
        refine R_iload_n rfl rfl ?_
        refine R_iload_n rfl rfl ?_
        refine R_iconst rfl ?_
        refine R_icmpne rfl ⟨by omega, by omega⟩ ⟨by decide, by decide⟩ (fun c22 => ?_) (fun c22 => ?_)
        · have hda : decide (a = 1) = false := decide_eq_false (by omega)
          have hva : a = 0 := by omega
          refine R_iconst rfl ?_
          refine R_vcall rfl rfl ⟨(by omega), _, m0⟩ ⟨Nat.le_of_ble_eq_true rfl, Nat.le_of_ble_eq_true rfl, Nat.zero_le _, Nat.zero_le _⟩ (mIsRim_T (b := false) (c := c) hZ hG hN rfl (by omega) (fun z30 hz30 => aRes_i (rest := []) ?_))
          have h01 := bI01 (!qPb G c false)
          rw [← hz30] at h01
          refine R_ifne rfl ⟨by omega, by omega⟩ (fun c33 => ?_) (fun c33 => ?_)
          · have hpn : qPb G c (decide (a = 1)) = false := by
              rw [hda]
              exact bI_nt hz30 c33
            have hp9 : cbF G c a e = (false, G) := if_neg (fun q => by
              rw [hpn] at q
              cases q.2.2)
            rw [hp9] at hQ
            refine R_iconst rfl ?_
            refine R_istore (lv' := [_, _, _, _, _]) rfl rfl ?_
            refine R_iload rfl rfl ?_
            refine R_ifeq rfl ⟨by decide, by decide⟩ (fun _ => ?_) (fun c0 => absurd c0 (by decide))
            refine R_iload rfl rfl ?_
            exact R_ireturn rfl (fun _ => by first | exact Or.inl rfl | exact Or.inr rfl) (Nat.zero_le _) (Nat.zero_le _) (hQ h hM frG.refl)
          · have hpb0 : qPb G c (decide (a = 1)) = true := by
              rw [hda]
              exact bI_nf hz30 (by omega)
            have hp9 : cbF G c a e = (true, setBr G c (decide (a = 1)) (decide (e = 1))) := if_pos ⟨by omega, by omega, hpb0⟩
            rw [hp9] at hQ
            refine R_iconst rfl ?_
            refine R_goto rfl ?_
            refine R_istore (lv' := [_, _, _, _, _]) rfl rfl ?_
            refine R_iload rfl rfl ?_
            refine R_ifeq rfl ⟨by decide, by decide⟩ (fun c0 => absurd c0 (by decide)) (fun _ => ?_)
            refine R_aload_n rfl rfl ?_
            refine R_iload_n rfl rfl ?_
            refine R_iload_n rfl rfl ?_
            refine R_iconst rfl ?_
            refine R_icmpne rfl ⟨by omega, by omega⟩ ⟨by decide, by decide⟩ (fun c52 => ?_) (fun c52 => ?_)
            · have hda2 : decide (a = 1) = false := decide_eq_false (by omega)
              have hpb : qPb G c false = true := by
                rw [decide_eq_false (show ¬ a = 1 by omega)] at hpb0
                exact hpb0
              have he9 : (e : Int) = bI (decide (e = 1)) := by
                rcases (show e = 0 ∨ e = 1 by omega) with q | q <;> rw [q] <;> rfl
              refine R_iconst rfl ?_
              refine R_iload_n rfl rfl ?_
              rw [he9]
              refine R_vcall rfl rfl ⟨(by omega), _, m0⟩ ⟨Nat.le_of_ble_eq_true rfl, Nat.le_of_ble_eq_true rfl, Nat.zero_le _, Nat.zero_le _⟩ (mBar_T (b := false) (v := decide (e = 1)) (c := c) hM.a hG hN rfl hpb (fun h1 hM1 f1 => aRes_v (rest := []) ?_))
              refine R_iload rfl rfl ?_
              exact R_ireturn rfl (fun _ => by first | exact Or.inl rfl | exact Or.inr rfl) (Nat.zero_le _) (Nat.zero_le _) (hQ h1 (by rw [hda2]; exact hM1) f1)
            · have hda2 : decide (a = 1) = true := decide_eq_true (by omega)
              have hpb : qPb G c true = true := by
                rw [decide_eq_true (show a = 1 by omega)] at hpb0
                exact hpb0
              have he9 : (e : Int) = bI (decide (e = 1)) := by
                rcases (show e = 0 ∨ e = 1 by omega) with q | q <;> rw [q] <;> rfl
              refine R_iconst rfl ?_
              refine R_goto rfl ?_
              refine R_iload_n rfl rfl ?_
              rw [he9]
              refine R_vcall rfl rfl ⟨(by omega), _, m0⟩ ⟨Nat.le_of_ble_eq_true rfl, Nat.le_of_ble_eq_true rfl, Nat.zero_le _, Nat.zero_le _⟩ (mBar_T (b := true) (v := decide (e = 1)) (c := c) hM.a hG hN rfl hpb (fun h1 hM1 f1 => aRes_v (rest := []) ?_))
              refine R_iload rfl rfl ?_
              exact R_ireturn rfl (fun _ => by first | exact Or.inl rfl | exact Or.inr rfl) (Nat.zero_le _) (Nat.zero_le _) (hQ h1 (by rw [hda2]; exact hM1) f1)
        · have hda : decide (a = 1) = true := decide_eq_true (by omega)
          have hva : a = 1 := by omega
          refine R_iconst rfl ?_
          refine R_goto rfl ?_
          refine R_vcall rfl rfl ⟨(by omega), _, m0⟩ ⟨Nat.le_of_ble_eq_true rfl, Nat.le_of_ble_eq_true rfl, Nat.zero_le _, Nat.zero_le _⟩ (mIsRim_T (b := true) (c := c) hZ hG hN rfl (by omega) (fun z30 hz30 => aRes_i (rest := []) ?_))
          have h01 := bI01 (!qPb G c true)
          rw [← hz30] at h01
          refine R_ifne rfl ⟨by omega, by omega⟩ (fun c33 => ?_) (fun c33 => ?_)
          · have hpn : qPb G c (decide (a = 1)) = false := by
              rw [hda]
              exact bI_nt hz30 c33
            have hp9 : cbF G c a e = (false, G) := if_neg (fun q => by
              rw [hpn] at q
              cases q.2.2)
            rw [hp9] at hQ
            refine R_iconst rfl ?_
            refine R_istore (lv' := [_, _, _, _, _]) rfl rfl ?_
            refine R_iload rfl rfl ?_
            refine R_ifeq rfl ⟨by decide, by decide⟩ (fun _ => ?_) (fun c0 => absurd c0 (by decide))
            refine R_iload rfl rfl ?_
            exact R_ireturn rfl (fun _ => by first | exact Or.inl rfl | exact Or.inr rfl) (Nat.zero_le _) (Nat.zero_le _) (hQ h hM frG.refl)
          · have hpb0 : qPb G c (decide (a = 1)) = true := by
              rw [hda]
              exact bI_nf hz30 (by omega)
            have hp9 : cbF G c a e = (true, setBr G c (decide (a = 1)) (decide (e = 1))) := if_pos ⟨by omega, by omega, hpb0⟩
            rw [hp9] at hQ
            refine R_iconst rfl ?_
            refine R_goto rfl ?_
            refine R_istore (lv' := [_, _, _, _, _]) rfl rfl ?_
            refine R_iload rfl rfl ?_
            refine R_ifeq rfl ⟨by decide, by decide⟩ (fun c0 => absurd c0 (by decide)) (fun _ => ?_)
            refine R_aload_n rfl rfl ?_
            refine R_iload_n rfl rfl ?_
            refine R_iload_n rfl rfl ?_
            refine R_iconst rfl ?_
            refine R_icmpne rfl ⟨by omega, by omega⟩ ⟨by decide, by decide⟩ (fun c52 => ?_) (fun c52 => ?_)
            · have hda2 : decide (a = 1) = false := decide_eq_false (by omega)
              have hpb : qPb G c false = true := by
                rw [decide_eq_false (show ¬ a = 1 by omega)] at hpb0
                exact hpb0
              have he9 : (e : Int) = bI (decide (e = 1)) := by
                rcases (show e = 0 ∨ e = 1 by omega) with q | q <;> rw [q] <;> rfl
              refine R_iconst rfl ?_
              refine R_iload_n rfl rfl ?_
              rw [he9]
              refine R_vcall rfl rfl ⟨(by omega), _, m0⟩ ⟨Nat.le_of_ble_eq_true rfl, Nat.le_of_ble_eq_true rfl, Nat.zero_le _, Nat.zero_le _⟩ (mBar_T (b := false) (v := decide (e = 1)) (c := c) hM.a hG hN rfl hpb (fun h1 hM1 f1 => aRes_v (rest := []) ?_))
              refine R_iload rfl rfl ?_
              exact R_ireturn rfl (fun _ => by first | exact Or.inl rfl | exact Or.inr rfl) (Nat.zero_le _) (Nat.zero_le _) (hQ h1 (by rw [hda2]; exact hM1) f1)
            · have hda2 : decide (a = 1) = true := decide_eq_true (by omega)
              have hpb : qPb G c true = true := by
                rw [decide_eq_true (show a = 1 by omega)] at hpb0
                exact hpb0
              have he9 : (e : Int) = bI (decide (e = 1)) := by
                rcases (show e = 0 ∨ e = 1 by omega) with q | q <;> rw [q] <;> rfl
              refine R_iconst rfl ?_
              refine R_goto rfl ?_
              refine R_iload_n rfl rfl ?_
              rw [he9]
              refine R_vcall rfl rfl ⟨(by omega), _, m0⟩ ⟨Nat.le_of_ble_eq_true rfl, Nat.le_of_ble_eq_true rfl, Nat.zero_le _, Nat.zero_le _⟩ (mBar_T (b := true) (v := decide (e = 1)) (c := c) hM.a hG hN rfl hpb (fun h1 hM1 f1 => aRes_v (rest := []) ?_))
              refine R_iload rfl rfl ?_
              exact R_ireturn rfl (fun _ => by first | exact Or.inl rfl | exact Or.inr rfl) (Nat.zero_le _) (Nat.zero_le _) (hQ h1 (by rw [hda2]; exact hM1) f1)
theorem mWrites_T {d N : Nat} {h : AH} {G : Gr} {th tl rm : Int} {Q : AQ} (hM : isMg h G th tl rm) (hG : okG G) (hN : 139 ≤ N) {e w : Nat} {ez wz : Int} (hez : ez = e) (hwz : wz = w) (he : e < 100) (hw : w < 100) (hQ : ∀ h', isMg h' (feF G e w).2 th tl rm → fr h h' 124 1 → Q (.inl (some (vI (bI (feF G e w).1)))) h' N) : T (d + 3) 197 [vR 122, vI ez, vI wz] h N Q := by
  obtain ⟨F, D, L, A, W, C, hZ, m11, m12, m13, m14, m15, m16, hE, hA, hW, hC⟩ := id hM
  obtain ⟨S, m0, m3, hR⟩ := id hZ
  obtain ⟨hr0, hr1, rL, rE, rS, hr110, rWn, rWl, hr167, rNl⟩ := id hR
  have r0 : S (0 : Int).toNat = (qR G : Int) := hr0
  have r1 : S (1 : Int).toNat = (qC G : Int) := hr1
  have r110 : S (110 : Int).toNat = (qW G : Int) := hr110
  have r167 : S (167 : Int).toNat = (qN G : Int) := hr167
  obtain ⟨hm4, hm36⟩ := hG.m
  have hmi := qM_int G
  obtain ⟨⟨hr2, hr6⟩, ⟨hc2, hc6⟩, gL, gB, gW, gWn, gWl, gN, gNl⟩ := id hG
  have hn36 := nE36 hG
  subst hez
  subst hwz
  refine T_body (I := mi_X9_writes) (lv := [_, _, _, _]) rfl (Nat.le_of_ble_eq_true rfl) rfl ?_
  refine R_aload_n rfl rfl ?_
  refine R_iload_n rfl rfl ?_
  refine R_vcall rfl rfl ⟨(by omega), _, m0⟩ ⟨Nat.le_of_ble_eq_true rfl, Nat.le_of_ble_eq_true rfl, Nat.zero_le _, Nat.zero_le _⟩ (mIsEntry_T hM hG hN ⟨by omega, by omega⟩ (fun z2 hz2 => aRes_i (rest := []) ?_))
  refine R_ifeq rfl ⟨by omega, by omega⟩ (fun c5 => ?_) (fun c5 => ?_)
  · have hp9 : feF G e w = (false, G) := if_neg (fun q => by have := q.1; omega)
    rw [hp9] at hQ
    refine R_iconst rfl ?_
    refine R_istore_n (lv' := [_, _, _, _]) rfl rfl ?_
    refine R_iload_n rfl rfl ?_
    refine R_ifeq rfl ⟨by decide, by decide⟩ (fun _ => ?_) (fun c0 => absurd c0 (by decide))
    refine R_iload_n rfl rfl ?_
    exact R_ireturn rfl (fun _ => by first | exact Or.inl rfl | exact Or.inr rfl) (Nat.zero_le _) (Nat.zero_le _) (hQ h hM fr.refl)
  · refine R_aload_n rfl rfl ?_
    refine R_iload_n rfl rfl ?_
    refine R_vcall rfl rfl ⟨(by omega), _, m0⟩ ⟨Nat.le_of_ble_eq_true rfl, Nat.le_of_ble_eq_true rfl, Nat.zero_le _, Nat.zero_le _⟩ (mIsWord_T hZ hG hN ⟨by omega, by omega⟩ (fun z10 hz10 => aRes_i (rest := []) ?_))
    refine R_ifeq rfl ⟨by omega, by omega⟩ (fun c13 => ?_) (fun c13 => ?_)
    · have hp9 : feF G e w = (false, G) := if_neg (fun q => by have := q.2.1; omega)
      rw [hp9] at hQ
      refine R_iconst rfl ?_
      refine R_istore_n (lv' := [_, _, _, _]) rfl rfl ?_
      refine R_iload_n rfl rfl ?_
      refine R_ifeq rfl ⟨by decide, by decide⟩ (fun _ => ?_) (fun c0 => absurd c0 (by decide))
      refine R_iload_n rfl rfl ?_
      exact R_ireturn rfl (fun _ => by first | exact Or.inl rfl | exact Or.inr rfl) (Nat.zero_le _) (Nat.zero_le _) (hQ h hM fr.refl)
    · refine R_aload_n rfl rfl ?_
      refine R_iload_n rfl rfl ?_
      refine R_iload_n rfl rfl ?_
      refine R_vcall rfl rfl ⟨(by omega), _, m0⟩ ⟨Nat.le_of_ble_eq_true rfl, Nat.le_of_ble_eq_true rfl, Nat.zero_le _, Nat.zero_le _⟩ (mIsFitting_T (e := e) (w := w) hM hG hN rfl (by omega) rfl (by omega) (fun z19 hz19 => aRes_i (rest := []) ?_))
      have h01 := bI01 (fiG G e w)
      rw [← hz19] at h01
      refine R_ifeq rfl ⟨by omega, by omega⟩ (fun c22 => ?_) (fun c22 => ?_)
      · have hf9 : fiG G e w = false := bI_f hz19 (by omega)
        have hp9 : feF G e w = (false, G) := if_neg (fun q => by
          have q3 := q.2.2
          rw [hf9] at q3
          cases q3)
        rw [hp9] at hQ
        refine R_iconst rfl ?_
        refine R_istore_n (lv' := [_, _, _, _]) rfl rfl ?_
        refine R_iload_n rfl rfl ?_
        refine R_ifeq rfl ⟨by decide, by decide⟩ (fun _ => ?_) (fun c0 => absurd c0 (by decide))
        refine R_iload_n rfl rfl ?_
        exact R_ireturn rfl (fun _ => by first | exact Or.inl rfl | exact Or.inr rfl) (Nat.zero_le _) (Nat.zero_le _) (hQ h hM fr.refl)
      · have hf9 : fiG G e w = true := bI_t hz19 (by omega)
        have hp9 : feF G e w = (true, setLs G (filL G e w (eN G e) 0 (qL G))) := if_pos ⟨by omega, by omega, hf9⟩
        rw [hp9] at hQ
        refine R_iconst rfl ?_
        refine R_goto rfl ?_
        refine R_istore_n (lv' := [_, _, _, _]) rfl rfl ?_
        refine R_iload_n rfl rfl ?_
        refine R_ifeq rfl ⟨by decide, by decide⟩ (fun c0 => absurd c0 (by decide)) (fun _ => ?_)
        refine R_aload_n rfl rfl ?_
        refine R_iload_n rfl rfl ?_
        refine R_iload_n rfl rfl ?_
        refine R_vcall rfl rfl ⟨(by omega), _, m0⟩ ⟨Nat.le_of_ble_eq_true rfl, Nat.le_of_ble_eq_true rfl, Nat.zero_le _, Nat.zero_le _⟩ (mWriteWord_T (e := e) (w := w) hM hG hN rfl (by omega) rfl (by omega) (fiG_len hf9) (fun h1 hM1 f1 => aRes_v (rest := []) ?_))
        refine R_iload_n rfl rfl ?_
        exact R_ireturn rfl (fun _ => by first | exact Or.inl rfl | exact Or.inr rfl) (Nat.zero_le _) (Nat.zero_le _) (hQ h1 hM1 f1)
theorem mErases_T {d N : Nat} {h : AH} {G : Gr} {th tl rm : Int} {Q : AQ} (hM : isMg h G th tl rm) (hG : okG G) (hN : 139 ≤ N) {e : Nat} {ez : Int} (hez : ez = e) (he : e < 100) (hQ : ∀ h', isMg h' (ceF G e).2 th tl rm → fr h h' 124 1 → Q (.inl (some (vI (bI (ceF G e).1)))) h' N) : T (d + 4) 198 [vR 122, vI ez] h N Q := by
  obtain ⟨F, D, L, A, W, C, hZ, m11, m12, m13, m14, m15, m16, hE, hA, hW, hC⟩ := id hM
  obtain ⟨S, m0, m3, hR⟩ := id hZ
  obtain ⟨hr0, hr1, rL, rE, rS, hr110, rWn, rWl, hr167, rNl⟩ := id hR
  have r0 : S (0 : Int).toNat = (qR G : Int) := hr0
  have r1 : S (1 : Int).toNat = (qC G : Int) := hr1
  have r110 : S (110 : Int).toNat = (qW G : Int) := hr110
  have r167 : S (167 : Int).toNat = (qN G : Int) := hr167
  obtain ⟨hm4, hm36⟩ := hG.m
  have hmi := qM_int G
  obtain ⟨⟨hr2, hr6⟩, ⟨hc2, hc6⟩, gL, gB, gW, gWn, gWl, gN, gNl⟩ := id hG
  have hn36 := nE36 hG
  subst hez
  refine T_body (I := mi_X9_erases) (lv := [_, _, _]) rfl (Nat.le_of_ble_eq_true rfl) rfl ?_
  refine R_aload_n rfl rfl ?_
  refine R_iload_n rfl rfl ?_
  refine R_vcall rfl rfl ⟨(by omega), _, m0⟩ ⟨Nat.le_of_ble_eq_true rfl, Nat.le_of_ble_eq_true rfl, Nat.zero_le _, Nat.zero_le _⟩ (mIsEntry_T hM hG hN ⟨by omega, by omega⟩ (fun z2 hz2 => aRes_i (rest := []) ?_))
  refine R_istore_n (lv' := [_, _, _]) rfl rfl ?_
  refine R_iload_n rfl rfl ?_
  refine R_ifeq rfl ⟨by omega, by omega⟩ (fun c7 => ?_) (fun c7 => ?_)
  · have hp9 : ceF G e = (false, G) := if_neg (by omega)
    rw [hp9] at hQ
    have hz0 : z2 = 0 := by omega
    refine R_iload_n rfl rfl ?_
    exact R_ireturn rfl (fun _ => by omega) (Nat.zero_le _) (Nat.zero_le _) (by first | (rw [hz0]; exact hQ h hM fr.refl) | (rw [hz1]; exact hQ h1 hM1 f1))
  · have hp9 : ceF G e = (true, setLs G (claF G e (eN G e) 0 (qL G) 0).1) := if_pos (by omega)
    rw [hp9] at hQ
    have hz1 : z2 = 1 := by omega
    refine R_aload_n rfl rfl ?_
    refine R_iload_n rfl rfl ?_
    refine R_vcall rfl rfl ⟨(by omega), _, m0⟩ ⟨Nat.le_of_ble_eq_true rfl, Nat.le_of_ble_eq_true rfl, Nat.zero_le _, Nat.zero_le _⟩ (mEraseEntry_T (e := e) hM hG hN rfl (by omega) (fun h1 hM1 f1 => aRes_i (rest := []) ?_))
    refine R_pop rfl rfl ?_
    refine R_iload_n rfl rfl ?_
    exact R_ireturn rfl (fun _ => by omega) (Nat.zero_le _) (Nat.zero_le _) (by first | (rw [hz0]; exact hQ h hM fr.refl) | (rw [hz1]; exact hQ h1 hM1 f1))
