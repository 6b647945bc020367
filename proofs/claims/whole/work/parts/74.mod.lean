/-! ===== the model: readings ===== -/
theorem sq_b {x : Int} (h : -5 ≤ x ∧ x ≤ 5) : 0 ≤ x * x ∧ x * x ≤ 25 := by
  obtain ⟨h1, h2⟩ := h
  have hx : x = -5 ∨ x = -4 ∨ x = -3 ∨ x = -2 ∨ x = -1 ∨ x = 0 ∨ x = 1 ∨ x = 2 ∨ x = 3 ∨ x = 4 ∨ x = 5 := by omega
  rcases hx with rfl | rfl | rfl | rfl | rfl | rfl | rfl | rfl | rfl | rfl | rfl <;> decide
theorem mKnight_T {d N : Nat} {h : AH} {G : Gr} {th tl rm en : Int} {Q : AQ} (hZ : isM0 h G th tl rm en) (hG : okG G) (hN : 139 ≤ N) {a b : Nat} {az bz : Int} (haz : az = a) (hbz : bz = b) (ha : a < qM G) (hb : b < qM G) (hQ : ∀ z : Int, z = bI (knS G a b) → Q (.inl (some (vI z))) h N) : T (d + 1) 170 [vR 122, vI az, vI bz] h N Q := by
  obtain ⟨S, m0, m3, hR⟩ := id hZ
  obtain ⟨hr0, hr1, rL, rE, rS, hr110, rWn, rWl, hr167, rNl⟩ := id hR
  have r0 : S (0 : Int).toNat = (qR G : Int) := hr0
  have r1 : S (1 : Int).toNat = (qC G : Int) := hr1
  have r110 : S (110 : Int).toNat = (qW G : Int) := hr110
  have r167 : S (167 : Int).toNat = (qN G : Int) := hr167
  obtain ⟨hm4, hm36⟩ := hG.m
  have hmi := qM_int G
  obtain ⟨⟨hr2, hr6⟩, ⟨hc2, hc6⟩, gL, gB, gW, gWn, gWl, gN, gNl⟩ := id hG
  subst haz
  subst hbz
  have e1 : (a : Int) / (qC G : Int) = ((a / qC G : Nat) : Int) := rfl
  have e2 : (b : Int) / (qC G : Int) = ((b / qC G : Nat) : Int) := rfl
  have e3 : (a : Int) % (qC G : Int) = ((a % qC G : Nat) : Int) := rfl
  have e4 : (b : Int) % (qC G : Int) = ((b % qC G : Nat) : Int) := rfl
  have b1 : a / qC G < qR G := (Nat.div_lt_iff_lt_mul (show 0 < qC G by omega)).mpr ha
  have b2 : b / qC G < qR G := (Nat.div_lt_iff_lt_mul (show 0 < qC G by omega)).mpr hb
  have b3 := Nat.mod_lt a (show 0 < qC G by omega)
  have b4 := Nat.mod_lt b (show 0 < qC G by omega)
  have b5 : (0 : Int) ≤ ((a / qC G : Nat) : Int) := Int.natCast_nonneg _
  have b6 : (0 : Int) ≤ ((b / qC G : Nat) : Int) := Int.natCast_nonneg _
  have b7 : (0 : Int) ≤ ((a % qC G : Nat) : Int) := Int.natCast_nonneg _
  have b8 : (0 : Int) ≤ ((b % qC G : Nat) : Int) := Int.natCast_nonneg _
  have q1 := sq_b (x := ((a / qC G : Nat) : Int) - ((b / qC G : Nat) : Int)) ⟨by omega, by omega⟩
  have q2 := sq_b (x := ((a % qC G : Nat) : Int) - ((b % qC G : Nat) : Int)) ⟨by omega, by omega⟩
  refine T_body (I := mi_X9_isKnightStep) (lv := [_, _, _, _, _]) rfl (Nat.le_of_ble_eq_true rfl) rfl ?_
  refine R_iload_n rfl rfl ?_
  refine R_aload_n rfl rfl ?_
  refine R_getfield rfl rfl (by omega) m0 rfl ?_
  refine R_iconst rfl ?_
  refine R_iaload rfl (Or.inl (by omega)) m3 ⟨by omega, by omega, by omega⟩ ?_
  rw [r1]
  refine R_idiv rfl ⟨by omega, by omega, by omega, by omega⟩ ?_
  refine R_iload_n rfl rfl ?_
  refine R_aload_n rfl rfl ?_
  refine R_getfield rfl rfl (by omega) m0 rfl ?_
  refine R_iconst rfl ?_
  refine R_iaload rfl (Or.inl (by omega)) m3 ⟨by omega, by omega, by omega⟩ ?_
  rw [r1]
  refine R_idiv rfl ⟨by omega, by omega, by omega, by omega⟩ ?_
  rw [e1, e2]
  refine R_isub rfl ?_
  refine R_istore_n (lv' := [_, _, _, _, _]) rfl rfl ?_
  refine R_iload_n rfl rfl ?_
  refine R_aload_n rfl rfl ?_
  refine R_getfield rfl rfl (by omega) m0 rfl ?_
  refine R_iconst rfl ?_
  refine R_iaload rfl (Or.inl (by omega)) m3 ⟨by omega, by omega, by omega⟩ ?_
  rw [r1]
  refine R_irem rfl ⟨by omega, by omega, by omega, by omega⟩ ?_
  refine R_iload_n rfl rfl ?_
  refine R_aload_n rfl rfl ?_
  refine R_getfield rfl rfl (by omega) m0 rfl ?_
  refine R_iconst rfl ?_
  refine R_iaload rfl (Or.inl (by omega)) m3 ⟨by omega, by omega, by omega⟩ ?_
  rw [r1]
  refine R_irem rfl ⟨by omega, by omega, by omega, by omega⟩ ?_
  rw [e3, e4]
  refine R_isub rfl ?_
  refine R_istore (lv' := [_, _, _, _, _]) rfl rfl ?_
  refine R_iload_n rfl rfl ?_
  refine R_iload_n rfl rfl ?_
  refine R_imul rfl ?_
  refine R_iload rfl rfl ?_
  refine R_iload rfl rfl ?_
  refine R_imul rfl ?_
  generalize hA9 : (((a / qC G : Nat) : Int) - ((b / qC G : Nat) : Int)) * (((a / qC G : Nat) : Int) - ((b / qC G : Nat) : Int)) = A9 at q1 ⊢
  generalize hB9 : (((a % qC G : Nat) : Int) - ((b % qC G : Nat) : Int)) * (((a % qC G : Nat) : Int) - ((b % qC G : Nat) : Int)) = B9 at q2 ⊢
  refine R_iadd rfl ?_
  refine R_iconst rfl ?_
  refine R_icmpne rfl ⟨by omega, by omega⟩ ⟨by decide, by decide⟩ (fun c47 => ?_) (fun c47 => ?_)
  · refine R_iconst rfl ?_
    exact R_ireturn rfl (fun _ => by omega) (Nat.zero_le _) (Nat.zero_le _) (hQ _ (by unfold knS; rw [hA9, hB9, decide_eq_false (show ¬ A9 + B9 = 5 by omega)]; rfl))
  · refine R_iconst rfl ?_
    refine R_goto rfl ?_
    exact R_ireturn rfl (fun _ => by omega) (Nat.zero_le _) (Nat.zero_le _) (hQ _ (by unfold knS; rw [hA9, hB9, decide_eq_true (show A9 + B9 = 5 by omega)]; rfl))
theorem mcr_F {d N : Nat} {h : AH} {G : Gr} {th tl rm : Int} {Q : AQ} (hM : isMg h G th tl rm) (hG : okG G) (hN : 139 ≤ N) {em : Bool} {ch : List Nat} {X : Nat → Int} (m18 : h 137 = eI 9 X) (hX : ∀ (j x : Nat), ch[j]? = some x → X j = x) (hch : ∀ x, x ∈ ch → x < qM G) (hdn : ch.length < qN G) {c : Nat} (hc : c < qM G) {lt zi : Int} (hzi : inR zi) (hQ : ∀ z : Int, z = 0 → Q (.inl (some (vI z))) h N) : Run mi_X9_canRead (T (d + 2)) Q 85 [some (vR 122), some (vI c), some (vI ch.length), some (vI (bI em)), some (vI lt), some (vI 0), some (vI zi)] [] h N 0 0 := by
  obtain ⟨F, D, L, A, W, C, hZ, m11, m12, m13, m14, m15, m16, hE, hA, hW, hC⟩ := id hM
  obtain ⟨S, m0, m3, hR⟩ := id hZ
  obtain ⟨hr0, hr1, rL, rE, rS, hr110, rWn, rWl, hr167, rNl⟩ := id hR
  have r0 : S (0 : Int).toNat = (qR G : Int) := hr0
  have r1 : S (1 : Int).toNat = (qC G : Int) := hr1
  have r110 : S (110 : Int).toNat = (qW G : Int) := hr110
  have r167 : S (167 : Int).toNat = (qN G : Int) := hr167
  obtain ⟨hm4, hm36⟩ := hG.m
  have hmi := qM_int G
  obtain ⟨⟨hr2, hr6⟩, ⟨hc2, hc6⟩, gL, gB, gW, gWn, gWl, gN, gNl⟩ := id hG
  have hn36 := nE36 hG
  obtain ⟨hz1, hz2⟩ := hzi
  refine R_iload rfl rfl ?_
  refine R_iload_n rfl rfl ?_
  refine R_icmpge rfl ⟨by omega, by omega⟩ ⟨by omega, by omega⟩ (fun c88 => ?_) (fun c88 => ?_)
  · refine R_iload rfl rfl ?_
    exact R_ireturn rfl (fun _ => by omega) (Nat.zero_le _) (Nat.zero_le _) (hQ 0 rfl)
  · refine R_iload rfl rfl ?_
    refine R_ifeq rfl ⟨by decide, by decide⟩ (fun _ => ?_) (fun c0 => absurd c0 (by decide))
    refine R_iload rfl rfl ?_
    exact R_ireturn rfl (fun _ => by omega) (Nat.zero_le _) (Nat.zero_le _) (hQ 0 rfl)
theorem mcr_T {d N : Nat} {h : AH} {G : Gr} {th tl rm : Int} {Q : AQ} (hM : isMg h G th tl rm) (hG : okG G) (hN : 139 ≤ N) {em : Bool} {ch : List Nat} {X : Nat → Int} (m18 : h 137 = eI 9 X) (hX : ∀ (j x : Nat), ch[j]? = some x → X j = x) (hch : ∀ x, x ∈ ch → x < qM G) (hdn : ch.length < qN G) {c : Nat} (hc : c < qM G) {lt : Int} : ∀ (r i : Nat) (zi : Int), i + r = ch.length → zi = i → (∀ j, j < i → ∀ x, ch[j]? = some x → ¬ x = c) → (∀ z : Int, z = 1 → ¬ c ∈ ch → Q (.inl (some (vI z))) h N) → (∀ z : Int, z = 0 → c ∈ ch → Q (.inl (some (vI z))) h N) → Run mi_X9_canRead (T (d + 2)) Q 85 [some (vR 122), some (vI c), some (vI ch.length), some (vI (bI em)), some (vI lt), some (vI 1), some (vI zi)] [] h N 0 0 := by
  obtain ⟨F, D, L, A, W, C, hZ, m11, m12, m13, m14, m15, m16, hE, hA, hW, hC⟩ := id hM
  obtain ⟨S, m0, m3, hR⟩ := id hZ
  obtain ⟨hr0, hr1, rL, rE, rS, hr110, rWn, rWl, hr167, rNl⟩ := id hR
  have r0 : S (0 : Int).toNat = (qR G : Int) := hr0
  have r1 : S (1 : Int).toNat = (qC G : Int) := hr1
  have r110 : S (110 : Int).toNat = (qW G : Int) := hr110
  have r167 : S (167 : Int).toNat = (qN G : Int) := hr167
  obtain ⟨hm4, hm36⟩ := hG.m
  have hmi := qM_int G
  obtain ⟨⟨hr2, hr6⟩, ⟨hc2, hc6⟩, gL, gB, gW, gWn, gWl, gN, gNl⟩ := id hG
  have hn36 := nE36 hG
  intro r
  induction r using Nat.strongRecOn with
  | ind r ih =>
  intro i zi hr hzi hno k1 k0
  refine R_iload rfl rfl ?_
  refine R_iload_n rfl rfl ?_
  refine R_icmpge rfl ⟨by omega, by omega⟩ ⟨by omega, by omega⟩ (fun c88 => ?_) (fun c88 => ?_)
  · have hr0 : r = 0 := by omega
    subst hr0
    have hi : i = ch.length := by omega
    subst hi
    have hni : ¬ c ∈ ch := fun q => by
      obtain ⟨j, hj⟩ := List.mem_iff_getElem?.mp q
      have hjl : j < ch.length := by
        rcases Nat.lt_or_ge j ch.length with k | k
        · exact k
        · rw [List.getElem?_eq_none k] at hj
          cases hj
      exact hno j hjl c hj rfl
    refine R_iload rfl rfl ?_
    exact R_ireturn rfl (fun _ => by omega) (Nat.zero_le _) (Nat.zero_le _) (k1 1 rfl hni)
  · obtain ⟨r, rfl⟩ : ∃ r1, r = r1 + 1 := ⟨r - 1, by omega⟩
    obtain ⟨x, hx⟩ : ∃ x, ch[i]? = some x := ⟨_, List.getElem?_eq_getElem (show i < ch.length by omega)⟩
    have hx9 := hX i x hx
    have hxm := hch x (List.mem_of_getElem? hx)
    have hx8 : X zi.toNat = (x : Int) := by
      rw [show zi.toNat = i by omega]
      exact hx9
    refine R_iload rfl rfl ?_
    refine R_ifeq rfl ⟨by decide, by decide⟩ (fun c0 => absurd c0 (by decide)) (fun _ => ?_)
    refine R_aload_n rfl rfl ?_
    refine R_getfield rfl rfl (by omega) m0 rfl ?_
    refine R_iload rfl rfl ?_
    refine R_iaload rfl (Or.inl (by omega)) m18 ⟨by omega, by omega, by omega⟩ ?_
    refine R_iload_n rfl rfl ?_
    refine R_icmpeq rfl ⟨by omega, by omega⟩ ⟨by omega, by omega⟩ (fun c104 => ?_) (fun c104 => ?_)
    · have he : x = c := by omega
      refine R_iconst rfl ?_
      refine R_istore (lv' := [_, _, _, _, _, _, _]) rfl rfl ?_
      refine R_iinc (lv' := [_, _, _, _, _, _, _]) rfl rfl rfl ?_
      refine R_goto rfl ?_
      exact mcr_F hM hG hN m18 hX hch hdn hc ⟨by omega, by omega⟩ (fun z hz => k0 z hz (by rw [← he]; exact List.mem_of_getElem? hx))
    · have he : ¬ x = c := by omega
      refine R_iconst rfl ?_
      refine R_goto rfl ?_
      refine R_istore (lv' := [_, _, _, _, _, _, _]) rfl rfl ?_
      refine R_iinc (lv' := [_, _, _, _, _, _, _]) rfl rfl rfl ?_
      refine R_goto rfl ?_
      exact ih r (by omega) (i + 1) _ (by omega) (by omega) (fun j hj x2 hx2 => by
        by_cases q : j = i
        · rw [q, hx] at hx2
          cases hx2
          exact he
        · exact hno j (by omega) x2 hx2) k1 k0
def knL (G : Gr) (ch : List Nat) (c : Nat) : Bool := match ch.getLast? with
  | some a => knS G a c
  | none => true
theorem knL_a {G : Gr} {ch : List Nat} {a c : Nat} (h : ch.getLast? = some a) : knL G ch c = knS G a c := by
  unfold knL
  rw [h]
theorem crG_k {G : Gr} {em : Bool} {ch : List Nat} {c : Nat} : crG G em ch c = (alw G em ch c && knL G ch c) := rfl
theorem crG_b {G : Gr} {em : Bool} {ch : List Nat} {c : Nat} : crG G em ch c = (!ch.contains c && (decide (enC G c = 1) && (if qL G c = 0 then em else decide (qL G c = qNl G ch.length))) && knL G ch c) := by
  rw [crG_k]
  unfold alw
  rw [Bool.and_assoc (!ch.contains c)]
theorem cont_f {ch : List Nat} {c : Nat} (h : ¬ c ∈ ch) : ch.contains c = false := by
  cases q : ch.contains c with
  | false => rfl
  | true => exact absurd (List.contains_iff_mem.mp q) h
theorem cont_t {ch : List Nat} {c : Nat} (h : c ∈ ch) : ch.contains c = true := List.contains_iff_mem.mpr h
theorem mCanRead_T {d N : Nat} {h : AH} {G : Gr} {th tl rm : Int} {Q : AQ} (hM : isMg h G th tl rm) (hG : okG G) (hN : 139 ≤ N) {em : Bool} {ch : List Nat} {X : Nat → Int} (m18 : h 137 = eI 9 X) (hX : ∀ (j x : Nat), ch[j]? = some x → X j = x) (hch : ∀ x, x ∈ ch → x < qM G) (hdn : ch.length < qN G) {c : Nat} (hc : c < qM G) {cz dz : Int} (hcz : cz = c) (hdz : dz = ch.length) (hQ : ∀ z : Int, z = bI (crG G em ch c) → Q (.inl (some (vI z))) h N) : T (d + 3) 171 [vR 122, vI cz, vI dz, vI (bI em)] h N Q := by
  obtain ⟨F, D, L, A, W, C, hZ, m11, m12, m13, m14, m15, m16, hE, hA, hW, hC⟩ := id hM
  obtain ⟨S, m0, m3, hR⟩ := id hZ
  obtain ⟨hr0, hr1, rL, rE, rS, hr110, rWn, rWl, hr167, rNl⟩ := id hR
  have r0 : S (0 : Int).toNat = (qR G : Int) := hr0
  have r1 : S (1 : Int).toNat = (qC G : Int) := hr1
  have r110 : S (110 : Int).toNat = (qW G : Int) := hr110
  have r167 : S (167 : Int).toNat = (qN G : Int) := hr167
  obtain ⟨hm4, hm36⟩ := hG.m
  have hmi := qM_int G
  obtain ⟨⟨hr2, hr6⟩, ⟨hc2, hc6⟩, gL, gB, gW, gWn, gWl, gN, gNl⟩ := id hG
  have hn36 := nE36 hG
  subst hcz
  subst hdz
  refine T_body (I := mi_X9_canRead) (lv := [_, _, _, _, _, _, _]) rfl (Nat.le_of_ble_eq_true rfl) rfl ?_
  cases em
  · have hLt : S ((2 : Int) + (c : Int)).toNat = qL G c := by
      rw [show ((2 : Int) + (c : Int)).toNat = 2 + c by omega]
      exact rL c hc
    have hlr : 0 ≤ S ((2 : Int) + (c : Int)).toNat ∧ S ((2 : Int) + (c : Int)).toNat ≤ 122 := by
      rw [hLt]
      rcases gL c hc with q | ⟨q1, q2⟩ <;> omega
    have hNt : S ((168 : Int) + (ch.length : Int)).toNat = qNl G ch.length := by
      rw [show ((168 : Int) + (ch.length : Int)).toNat = 168 + ch.length by omega]
      exact rNl _ hdn
    have hnr : 97 ≤ qNl G ch.length ∧ qNl G ch.length ≤ 122 := gNl _ hdn
    refine R_aload_n rfl rfl ?_
    refine R_getfield rfl rfl (by omega) m0 rfl ?_
    refine R_iconst rfl ?_
    refine R_iload_n rfl rfl ?_
    refine R_iadd rfl ?_
    refine R_iaload rfl (Or.inl (by omega)) m3 ⟨by omega, by omega, by omega⟩ ?_
    refine R_istore (lv' := [_, _, _, _, _, _, _]) rfl rfl ?_
    refine R_aload_n rfl rfl ?_
    refine R_iload_n rfl rfl ?_
    refine R_vcall rfl rfl ⟨(by omega), _, m0⟩ ⟨Nat.le_of_ble_eq_true rfl, Nat.le_of_ble_eq_true rfl, Nat.zero_le _, Nat.zero_le _⟩ (mEntriesOf_T (x := c) hM hG hN rfl hc (fun z12 hz12 => aRes_i (rest := []) ?_))
    have hen := enC_2 (G := G) (x := c)
    refine R_iconst rfl ?_
    refine R_icmpne rfl ⟨by omega, by omega⟩ ⟨by decide, by decide⟩ (fun c16 => ?_) (fun c16 => ?_)
    · have hb9 : (decide (enC G c = 1) && (if qL G c = 0 then false else decide (qL G c = qNl G ch.length))) = false := by
        rw [decide_eq_false (show ¬ enC G c = 1 by omega)]
        rfl
      refine R_iconst rfl ?_
      refine R_istore (lv' := [_, _, _, _, _, _, _]) rfl rfl ?_
      refine R_iload rfl rfl ?_
      refine R_ifeq rfl ⟨by decide, by decide⟩ (fun _ => ?_) (fun c0 => absurd c0 (by decide))
      refine R_iconst rfl ?_
      refine R_istore (lv' := [_, _, _, _, _, _, _]) rfl rfl ?_
      refine R_iconst rfl ?_
      refine R_istore (lv' := [_, _, _, _, _, _, _]) rfl rfl ?_
      exact mcr_F hM hG hN m18 hX hch hdn hc ⟨by decide, by decide⟩ (fun z hz => hQ z (hz.trans (by
        rw [crG_b]
        first
        | (rw [hb9]; simp [bI]; done)
        | (rw [hkn]; simp [bI]; done))))
    · refine R_iload rfl rfl ?_
      refine R_aload_n rfl rfl ?_
      refine R_getfield rfl rfl (by omega) m0 rfl ?_
      refine R_sipush rfl ?_
      refine R_iload_n rfl rfl ?_
      refine R_iadd rfl ?_
      refine R_iaload rfl (Or.inl (by omega)) m3 ⟨by omega, by omega, by omega⟩ ?_
      refine R_icmpeq rfl ⟨by omega, by omega⟩ ⟨by omega, by omega⟩ (fun c31 => ?_) (fun c31 => ?_)
      · have hb9 : (decide (enC G c = 1) && (if qL G c = 0 then false else decide (qL G c = qNl G ch.length))) = true := by
          rw [decide_eq_true (show enC G c = 1 by omega), Bool.true_and, if_neg (show ¬ qL G c = 0 by omega)]
          exact decide_eq_true (show qL G c = qNl G ch.length by omega)
        refine R_iconst rfl ?_
        refine R_goto rfl ?_
        refine R_istore (lv' := [_, _, _, _, _, _, _]) rfl rfl ?_
        refine R_iload rfl rfl ?_
        refine R_ifeq rfl ⟨by decide, by decide⟩ (fun c0 => absurd c0 (by decide)) (fun _ => ?_)
        refine R_iload_n rfl rfl ?_
        refine R_ifeq rfl ⟨by omega, by omega⟩ (fun c56 => ?_) (fun c56 => ?_)
        · have hkn : knL G ch c = true := by
            rw [List.eq_nil_of_length_eq_zero (show ch.length = 0 by omega)]
            rfl
          refine R_iconst rfl ?_
          refine R_goto rfl ?_
          refine R_istore (lv' := [_, _, _, _, _, _, _]) rfl rfl ?_
          refine R_iconst rfl ?_
          refine R_istore (lv' := [_, _, _, _, _, _, _]) rfl rfl ?_
          refine mcr_T hM hG hN m18 hX hch hdn hc ch.length 0 _ (Nat.zero_add _) rfl (fun j hj => absurd hj (Nat.not_lt_zero _)) (fun z hz hni => hQ z (hz.trans ?_)) (fun z hz hin => hQ z (hz.trans ?_))
          · rw [crG_b, hb9, hkn, cont_f hni]
            rfl
          · rw [crG_b, cont_t hin]
            simp [bI]
        · obtain ⟨ch0, a, hca⟩ := cat_of ch (by omega)
          have hlen : ch.length = ch0.length + 1 := by
            rw [hca, List.length_append]
            rfl
          have hla : ch.getLast? = some a := by
            rw [hca, List.getLast?_append]
            rfl
          have ham : a < qM G := hch a (by rw [hca]; exact List.mem_append_right _ (List.mem_singleton.mpr rfl))
          have hXa : X ((ch.length : Int) - 1).toNat = (a : Int) := by
            rw [show ((ch.length : Int) - 1).toNat = ch0.length by omega]
            exact hX _ a (by rw [hca, List.getElem?_append_right (Nat.le_refl _), Nat.sub_self]; rfl)
          refine R_aload_n rfl rfl ?_
          refine R_aload_n rfl rfl ?_
          refine R_getfield rfl rfl (by omega) m0 rfl ?_
          refine R_iload_n rfl rfl ?_
          refine R_iconst rfl ?_
          refine R_isub rfl ?_
          refine R_iaload rfl (Or.inl (by omega)) m18 ⟨by omega, by omega, by omega⟩ ?_
          refine R_iload_n rfl rfl ?_
          refine R_vcall rfl rfl ⟨(by omega), _, m0⟩ ⟨Nat.le_of_ble_eq_true rfl, Nat.le_of_ble_eq_true rfl, Nat.zero_le _, Nat.zero_le _⟩ (mKnight_T (a := a) (b := c) hZ hG hN hXa rfl ham hc (fun z69 hz69 => aRes_i (rest := []) ?_))
          have h01 := bI01 (knS G a c)
          rw [← hz69] at h01
          refine R_ifeq rfl ⟨by omega, by omega⟩ (fun c72 => ?_) (fun c72 => ?_)
          · have hkn : knL G ch c = false := by
              rw [knL_a hla]
              exact bI_f hz69 (by omega)
            refine R_iconst rfl ?_
            refine R_istore (lv' := [_, _, _, _, _, _, _]) rfl rfl ?_
            refine R_iconst rfl ?_
            refine R_istore (lv' := [_, _, _, _, _, _, _]) rfl rfl ?_
            exact mcr_F hM hG hN m18 hX hch hdn hc ⟨by decide, by decide⟩ (fun z hz => hQ z (hz.trans (by
              rw [crG_b]
              first
              | (rw [hb9]; simp [bI]; done)
              | (rw [hkn]; simp [bI]; done))))
          · have hkn : knL G ch c = true := by
              rw [knL_a hla]
              exact bI_t hz69 (by omega)
            refine R_iconst rfl ?_
            refine R_goto rfl ?_
            refine R_istore (lv' := [_, _, _, _, _, _, _]) rfl rfl ?_
            refine R_iconst rfl ?_
            refine R_istore (lv' := [_, _, _, _, _, _, _]) rfl rfl ?_
            refine mcr_T hM hG hN m18 hX hch hdn hc ch.length 0 _ (Nat.zero_add _) rfl (fun j hj => absurd hj (Nat.not_lt_zero _)) (fun z hz hni => hQ z (hz.trans ?_)) (fun z hz hin => hQ z (hz.trans ?_))
            · rw [crG_b, hb9, hkn, cont_f hni]
              rfl
            · rw [crG_b, cont_t hin]
              simp [bI]
      · have hb9 : (decide (enC G c = 1) && (if qL G c = 0 then false else decide (qL G c = qNl G ch.length))) = false := by
          rw [decide_eq_true (show enC G c = 1 by omega), Bool.true_and]
          split
          · rfl
          · exact decide_eq_false (show ¬ qL G c = qNl G ch.length by omega)
        refine R_iload_n rfl rfl ?_
        refine R_ifeq rfl ⟨by decide, by decide⟩ (fun _ => ?_) (fun c0 => absurd c0 (by decide))
        refine R_iconst rfl ?_
        refine R_istore (lv' := [_, _, _, _, _, _, _]) rfl rfl ?_
        refine R_iload rfl rfl ?_
        refine R_ifeq rfl ⟨by decide, by decide⟩ (fun _ => ?_) (fun c0 => absurd c0 (by decide))
        refine R_iconst rfl ?_
        refine R_istore (lv' := [_, _, _, _, _, _, _]) rfl rfl ?_
        refine R_iconst rfl ?_
        refine R_istore (lv' := [_, _, _, _, _, _, _]) rfl rfl ?_
        exact mcr_F hM hG hN m18 hX hch hdn hc ⟨by decide, by decide⟩ (fun z hz => hQ z (hz.trans (by
          rw [crG_b]
          first
          | (rw [hb9]; simp [bI]; done)
          | (rw [hkn]; simp [bI]; done))))
  · have hLt : S ((2 : Int) + (c : Int)).toNat = qL G c := by
      rw [show ((2 : Int) + (c : Int)).toNat = 2 + c by omega]
      exact rL c hc
    have hlr : 0 ≤ S ((2 : Int) + (c : Int)).toNat ∧ S ((2 : Int) + (c : Int)).toNat ≤ 122 := by
      rw [hLt]
      rcases gL c hc with q | ⟨q1, q2⟩ <;> omega
    have hNt : S ((168 : Int) + (ch.length : Int)).toNat = qNl G ch.length := by
      rw [show ((168 : Int) + (ch.length : Int)).toNat = 168 + ch.length by omega]
      exact rNl _ hdn
    have hnr : 97 ≤ qNl G ch.length ∧ qNl G ch.length ≤ 122 := gNl _ hdn
    refine R_aload_n rfl rfl ?_
    refine R_getfield rfl rfl (by omega) m0 rfl ?_
    refine R_iconst rfl ?_
    refine R_iload_n rfl rfl ?_
    refine R_iadd rfl ?_
    refine R_iaload rfl (Or.inl (by omega)) m3 ⟨by omega, by omega, by omega⟩ ?_
    refine R_istore (lv' := [_, _, _, _, _, _, _]) rfl rfl ?_
    refine R_aload_n rfl rfl ?_
    refine R_iload_n rfl rfl ?_
    refine R_vcall rfl rfl ⟨(by omega), _, m0⟩ ⟨Nat.le_of_ble_eq_true rfl, Nat.le_of_ble_eq_true rfl, Nat.zero_le _, Nat.zero_le _⟩ (mEntriesOf_T (x := c) hM hG hN rfl hc (fun z12 hz12 => aRes_i (rest := []) ?_))
    have hen := enC_2 (G := G) (x := c)
    refine R_iconst rfl ?_
    refine R_icmpne rfl ⟨by omega, by omega⟩ ⟨by decide, by decide⟩ (fun c16 => ?_) (fun c16 => ?_)
    · have hb9 : (decide (enC G c = 1) && (if qL G c = 0 then true else decide (qL G c = qNl G ch.length))) = false := by
        rw [decide_eq_false (show ¬ enC G c = 1 by omega)]
        rfl
      refine R_iconst rfl ?_
      refine R_istore (lv' := [_, _, _, _, _, _, _]) rfl rfl ?_
      refine R_iload rfl rfl ?_
      refine R_ifeq rfl ⟨by decide, by decide⟩ (fun _ => ?_) (fun c0 => absurd c0 (by decide))
      refine R_iconst rfl ?_
      refine R_istore (lv' := [_, _, _, _, _, _, _]) rfl rfl ?_
      refine R_iconst rfl ?_
      refine R_istore (lv' := [_, _, _, _, _, _, _]) rfl rfl ?_
      exact mcr_F hM hG hN m18 hX hch hdn hc ⟨by decide, by decide⟩ (fun z hz => hQ z (hz.trans (by
        rw [crG_b]
        first
        | (rw [hb9]; simp [bI]; done)
        | (rw [hkn]; simp [bI]; done))))
    · refine R_iload rfl rfl ?_
      refine R_aload_n rfl rfl ?_
      refine R_getfield rfl rfl (by omega) m0 rfl ?_
      refine R_sipush rfl ?_
      refine R_iload_n rfl rfl ?_
      refine R_iadd rfl ?_
      refine R_iaload rfl (Or.inl (by omega)) m3 ⟨by omega, by omega, by omega⟩ ?_
      refine R_icmpeq rfl ⟨by omega, by omega⟩ ⟨by omega, by omega⟩ (fun c31 => ?_) (fun c31 => ?_)
      · have hb9 : (decide (enC G c = 1) && (if qL G c = 0 then true else decide (qL G c = qNl G ch.length))) = true := by
          rw [decide_eq_true (show enC G c = 1 by omega), Bool.true_and, if_neg (show ¬ qL G c = 0 by omega)]
          exact decide_eq_true (show qL G c = qNl G ch.length by omega)
        refine R_iconst rfl ?_
        refine R_goto rfl ?_
        refine R_istore (lv' := [_, _, _, _, _, _, _]) rfl rfl ?_
        refine R_iload rfl rfl ?_
        refine R_ifeq rfl ⟨by decide, by decide⟩ (fun c0 => absurd c0 (by decide)) (fun _ => ?_)
        refine R_iload_n rfl rfl ?_
        refine R_ifeq rfl ⟨by omega, by omega⟩ (fun c56 => ?_) (fun c56 => ?_)
        · have hkn : knL G ch c = true := by
            rw [List.eq_nil_of_length_eq_zero (show ch.length = 0 by omega)]
            rfl
          refine R_iconst rfl ?_
          refine R_goto rfl ?_
          refine R_istore (lv' := [_, _, _, _, _, _, _]) rfl rfl ?_
          refine R_iconst rfl ?_
          refine R_istore (lv' := [_, _, _, _, _, _, _]) rfl rfl ?_
          refine mcr_T hM hG hN m18 hX hch hdn hc ch.length 0 _ (Nat.zero_add _) rfl (fun j hj => absurd hj (Nat.not_lt_zero _)) (fun z hz hni => hQ z (hz.trans ?_)) (fun z hz hin => hQ z (hz.trans ?_))
          · rw [crG_b, hb9, hkn, cont_f hni]
            rfl
          · rw [crG_b, cont_t hin]
            simp [bI]
        · obtain ⟨ch0, a, hca⟩ := cat_of ch (by omega)
          have hlen : ch.length = ch0.length + 1 := by
            rw [hca, List.length_append]
            rfl
          have hla : ch.getLast? = some a := by
            rw [hca, List.getLast?_append]
            rfl
          have ham : a < qM G := hch a (by rw [hca]; exact List.mem_append_right _ (List.mem_singleton.mpr rfl))
          have hXa : X ((ch.length : Int) - 1).toNat = (a : Int) := by
            rw [show ((ch.length : Int) - 1).toNat = ch0.length by omega]
            exact hX _ a (by rw [hca, List.getElem?_append_right (Nat.le_refl _), Nat.sub_self]; rfl)
          refine R_aload_n rfl rfl ?_
          refine R_aload_n rfl rfl ?_
          refine R_getfield rfl rfl (by omega) m0 rfl ?_
          refine R_iload_n rfl rfl ?_
          refine R_iconst rfl ?_
          refine R_isub rfl ?_
          refine R_iaload rfl (Or.inl (by omega)) m18 ⟨by omega, by omega, by omega⟩ ?_
          refine R_iload_n rfl rfl ?_
          refine R_vcall rfl rfl ⟨(by omega), _, m0⟩ ⟨Nat.le_of_ble_eq_true rfl, Nat.le_of_ble_eq_true rfl, Nat.zero_le _, Nat.zero_le _⟩ (mKnight_T (a := a) (b := c) hZ hG hN hXa rfl ham hc (fun z69 hz69 => aRes_i (rest := []) ?_))
          have h01 := bI01 (knS G a c)
          rw [← hz69] at h01
          refine R_ifeq rfl ⟨by omega, by omega⟩ (fun c72 => ?_) (fun c72 => ?_)
          · have hkn : knL G ch c = false := by
              rw [knL_a hla]
              exact bI_f hz69 (by omega)
            refine R_iconst rfl ?_
            refine R_istore (lv' := [_, _, _, _, _, _, _]) rfl rfl ?_
            refine R_iconst rfl ?_
            refine R_istore (lv' := [_, _, _, _, _, _, _]) rfl rfl ?_
            exact mcr_F hM hG hN m18 hX hch hdn hc ⟨by decide, by decide⟩ (fun z hz => hQ z (hz.trans (by
              rw [crG_b]
              first
              | (rw [hb9]; simp [bI]; done)
              | (rw [hkn]; simp [bI]; done))))
          · have hkn : knL G ch c = true := by
              rw [knL_a hla]
              exact bI_t hz69 (by omega)
            refine R_iconst rfl ?_
            refine R_goto rfl ?_
            refine R_istore (lv' := [_, _, _, _, _, _, _]) rfl rfl ?_
            refine R_iconst rfl ?_
            refine R_istore (lv' := [_, _, _, _, _, _, _]) rfl rfl ?_
            refine mcr_T hM hG hN m18 hX hch hdn hc ch.length 0 _ (Nat.zero_add _) rfl (fun j hj => absurd hj (Nat.not_lt_zero _)) (fun z hz hni => hQ z (hz.trans ?_)) (fun z hz hin => hQ z (hz.trans ?_))
            · rw [crG_b, hb9, hkn, cont_f hni]
              rfl
            · rw [crG_b, cont_t hin]
              simp [bI]
      · refine R_iload_n rfl rfl ?_
        refine R_ifeq rfl ⟨by decide, by decide⟩ (fun c0 => absurd c0 (by decide)) (fun _ => ?_)
        refine R_iload rfl rfl ?_
        refine R_ifne rfl ⟨by omega, by omega⟩ (fun c40 => ?_) (fun c40 => ?_)
        · have hb9 : (decide (enC G c = 1) && (if qL G c = 0 then true else decide (qL G c = qNl G ch.length))) = false := by
            rw [decide_eq_true (show enC G c = 1 by omega), Bool.true_and, if_neg (show ¬ qL G c = 0 by omega)]
            exact decide_eq_false (show ¬ qL G c = qNl G ch.length by omega)
          refine R_iconst rfl ?_
          refine R_istore (lv' := [_, _, _, _, _, _, _]) rfl rfl ?_
          refine R_iload rfl rfl ?_
          refine R_ifeq rfl ⟨by decide, by decide⟩ (fun _ => ?_) (fun c0 => absurd c0 (by decide))
          refine R_iconst rfl ?_
          refine R_istore (lv' := [_, _, _, _, _, _, _]) rfl rfl ?_
          refine R_iconst rfl ?_
          refine R_istore (lv' := [_, _, _, _, _, _, _]) rfl rfl ?_
          exact mcr_F hM hG hN m18 hX hch hdn hc ⟨by decide, by decide⟩ (fun z hz => hQ z (hz.trans (by
            rw [crG_b]
            first
            | (rw [hb9]; simp [bI]; done)
            | (rw [hkn]; simp [bI]; done))))
        · have hb9 : (decide (enC G c = 1) && (if qL G c = 0 then true else decide (qL G c = qNl G ch.length))) = true := by
            rw [decide_eq_true (show enC G c = 1 by omega), Bool.true_and, if_pos (show qL G c = 0 by omega)]
          refine R_iconst rfl ?_
          refine R_goto rfl ?_
          refine R_istore (lv' := [_, _, _, _, _, _, _]) rfl rfl ?_
          refine R_iload rfl rfl ?_
          refine R_ifeq rfl ⟨by decide, by decide⟩ (fun c0 => absurd c0 (by decide)) (fun _ => ?_)
          refine R_iload_n rfl rfl ?_
          refine R_ifeq rfl ⟨by omega, by omega⟩ (fun c56 => ?_) (fun c56 => ?_)
          · have hkn : knL G ch c = true := by
              rw [List.eq_nil_of_length_eq_zero (show ch.length = 0 by omega)]
              rfl
            refine R_iconst rfl ?_
            refine R_goto rfl ?_
            refine R_istore (lv' := [_, _, _, _, _, _, _]) rfl rfl ?_
            refine R_iconst rfl ?_
            refine R_istore (lv' := [_, _, _, _, _, _, _]) rfl rfl ?_
            refine mcr_T hM hG hN m18 hX hch hdn hc ch.length 0 _ (Nat.zero_add _) rfl (fun j hj => absurd hj (Nat.not_lt_zero _)) (fun z hz hni => hQ z (hz.trans ?_)) (fun z hz hin => hQ z (hz.trans ?_))
            · rw [crG_b, hb9, hkn, cont_f hni]
              rfl
            · rw [crG_b, cont_t hin]
              simp [bI]
          · obtain ⟨ch0, a, hca⟩ := cat_of ch (by omega)
            have hlen : ch.length = ch0.length + 1 := by
              rw [hca, List.length_append]
              rfl
            have hla : ch.getLast? = some a := by
              rw [hca, List.getLast?_append]
              rfl
            have ham : a < qM G := hch a (by rw [hca]; exact List.mem_append_right _ (List.mem_singleton.mpr rfl))
            have hXa : X ((ch.length : Int) - 1).toNat = (a : Int) := by
              rw [show ((ch.length : Int) - 1).toNat = ch0.length by omega]
              exact hX _ a (by rw [hca, List.getElem?_append_right (Nat.le_refl _), Nat.sub_self]; rfl)
            refine R_aload_n rfl rfl ?_
            refine R_aload_n rfl rfl ?_
            refine R_getfield rfl rfl (by omega) m0 rfl ?_
            refine R_iload_n rfl rfl ?_
            refine R_iconst rfl ?_
            refine R_isub rfl ?_
            refine R_iaload rfl (Or.inl (by omega)) m18 ⟨by omega, by omega, by omega⟩ ?_
            refine R_iload_n rfl rfl ?_
            refine R_vcall rfl rfl ⟨(by omega), _, m0⟩ ⟨Nat.le_of_ble_eq_true rfl, Nat.le_of_ble_eq_true rfl, Nat.zero_le _, Nat.zero_le _⟩ (mKnight_T (a := a) (b := c) hZ hG hN hXa rfl ham hc (fun z69 hz69 => aRes_i (rest := []) ?_))
            have h01 := bI01 (knS G a c)
            rw [← hz69] at h01
            refine R_ifeq rfl ⟨by omega, by omega⟩ (fun c72 => ?_) (fun c72 => ?_)
            · have hkn : knL G ch c = false := by
                rw [knL_a hla]
                exact bI_f hz69 (by omega)
              refine R_iconst rfl ?_
              refine R_istore (lv' := [_, _, _, _, _, _, _]) rfl rfl ?_
              refine R_iconst rfl ?_
              refine R_istore (lv' := [_, _, _, _, _, _, _]) rfl rfl ?_
              exact mcr_F hM hG hN m18 hX hch hdn hc ⟨by decide, by decide⟩ (fun z hz => hQ z (hz.trans (by
                rw [crG_b]
                first
                | (rw [hb9]; simp [bI]; done)
                | (rw [hkn]; simp [bI]; done))))
            · have hkn : knL G ch c = true := by
                rw [knL_a hla]
                exact bI_t hz69 (by omega)
              refine R_iconst rfl ?_
              refine R_goto rfl ?_
              refine R_istore (lv' := [_, _, _, _, _, _, _]) rfl rfl ?_
              refine R_iconst rfl ?_
              refine R_istore (lv' := [_, _, _, _, _, _, _]) rfl rfl ?_
              refine mcr_T hM hG hN m18 hX hch hdn hc ch.length 0 _ (Nat.zero_add _) rfl (fun j hj => absurd hj (Nat.not_lt_zero _)) (fun z hz hni => hQ z (hz.trans ?_)) (fun z hz hin => hQ z (hz.trans ?_))
              · rw [crG_b, hb9, hkn, cont_f hni]
                rfl
              · rw [crG_b, cont_t hin]
                simp [bI]
theorem msc_loop {d N : Nat} {h : AH} {G : Gr} {th tl rm : Int} {Q : AQ} (hM : isMg h G th tl rm) (hG : okG G) (hN : 139 ≤ N) {em : Bool} {ch : List Nat} {X : Nat → Int} (m18 : h 137 = eI 9 X) (hX : ∀ (j x : Nat), ch[j]? = some x → X j = x) (hch : ∀ x, x ∈ ch → x < qM G) (hdn : ch.length < qN G) {mz nz zd : Int} (hzd : zd = ch.length) {l6 : Option AV} : ∀ (r i : Nat) (zi : Int), i + r = qM G → zi = i → (∀ (c : Nat) (zc : Int), zc = c → i ≤ c → c ≤ qM G → (∀ j, i ≤ j → j < c → crG G em ch j = false) → (c < qM G → crG G em ch c = true) → Run mi_X9_countReadings (T (d + 3)) Q 75 [some (vR 122), some (vI (bI em)), some (vI mz), some (vI nz), some (vI zd), some (vI zc), l6] [] h N 0 0) → Run mi_X9_countReadings (T (d + 3)) Q 48 [some (vR 122), some (vI (bI em)), some (vI mz), some (vI nz), some (vI zd), some (vI zi), l6] [] h N 0 0 := by
  obtain ⟨F, D, L, A, W, C, hZ, m11, m12, m13, m14, m15, m16, hE, hA, hW, hC⟩ := id hM
  obtain ⟨S, m0, m3, hR⟩ := id hZ
  obtain ⟨hr0, hr1, rL, rE, rS, hr110, rWn, rWl, hr167, rNl⟩ := id hR
  have r0 : S (0 : Int).toNat = (qR G : Int) := hr0
  have r1 : S (1 : Int).toNat = (qC G : Int) := hr1
  have r110 : S (110 : Int).toNat = (qW G : Int) := hr110
  have r167 : S (167 : Int).toNat = (qN G : Int) := hr167
  obtain ⟨hm4, hm36⟩ := hG.m
  have hmi := qM_int G
  obtain ⟨⟨hr2, hr6⟩, ⟨hc2, hc6⟩, gL, gB, gW, gWn, gWl, gN, gNl⟩ := id hG
  have hn36 := nE36 hG
  intro r
  induction r using Nat.strongRecOn with
  | ind r ih =>
  intro i zi hr hzi kc
  refine R_iload rfl rfl ?_
  refine R_aload_n rfl rfl ?_
  refine R_vcall rfl rfl ⟨(by omega), _, m0⟩ ⟨Nat.le_of_ble_eq_true rfl, Nat.le_of_ble_eq_true rfl, Nat.zero_le _, Nat.zero_le _⟩ (mSize_T hZ hG hN (fun z51 hz51 => aRes_i (rest := [_]) ?_))
  refine R_icmpge rfl ⟨by omega, by omega⟩ ⟨by omega, by omega⟩ (fun c54 => ?_) (fun c54 => ?_)
  · have hr0 : r = 0 := by omega
    subst hr0
    first
    | exact kc i _ hzi (Nat.le_refl _) (by omega) (fun j h1 h2 => absurd h1 (by omega)) (fun q => absurd q (by omega))
    | exact kc i _ hzi (Nat.le_refl _) (by omega) (fun j h1 h2 => absurd h1 (by omega)) (fun _ => hp)
  · obtain ⟨r, rfl⟩ : ∃ r1, r = r1 + 1 := ⟨r - 1, by omega⟩
    refine R_aload_n rfl rfl ?_
    refine R_iload rfl rfl ?_
    refine R_iload rfl rfl ?_
    refine R_iload_n rfl rfl ?_
    refine R_vcall rfl rfl ⟨(by omega), _, m0⟩ ⟨Nat.le_of_ble_eq_true rfl, Nat.le_of_ble_eq_true rfl, Nat.zero_le _, Nat.zero_le _⟩ (mCanRead_T (em := em) (ch := ch) hM hG hN m18 hX hch hdn (c := i) (by omega) (by omega) hzd (fun z63 hz63 => aRes_i (rest := []) ?_))
    have h01 := bI01 (crG G em ch i)
    rw [← hz63] at h01
    refine R_ifne rfl ⟨by omega, by omega⟩ (fun c66 => ?_) (fun c66 => ?_)
    · have hp : crG G em ch i = true := bI_t hz63 (by omega)
      first
      | exact kc i _ hzi (Nat.le_refl _) (by omega) (fun j h1 h2 => absurd h1 (by omega)) (fun q => absurd q (by omega))
      | exact kc i _ hzi (Nat.le_refl _) (by omega) (fun j h1 h2 => absurd h1 (by omega)) (fun _ => hp)
    · have hp : crG G em ch i = false := bI_f hz63 (by omega)
      refine R_iinc (lv' := [_, _, _, _, _, _, _]) rfl rfl rfl ?_
      refine R_goto rfl ?_
      exact ih r (by omega) (i + 1) _ (by omega) (by omega) (fun c1 z1 h1 h2 h3 h4 h5 => kc c1 z1 h1 (by omega) h3 (fun j h6 h7 => by
        by_cases q : j = i
        · rw [q]
          exact hp
        · exact h4 j (by omega) h7) h5)
theorem mkf_loop {d N : Nat} {G : Gr} {th tl rm : Int} {Q : AQ} (hG : okG G) (hN : 139 ≤ N) {em : Bool} {ch : List Nat} {X : Nat → Int} {zd : Int} (hX : ∀ (j x : Nat), ch[j]? = some x → X j = x) (hzd : zd = (ch.length : Int) - 1) (h6 : ch.length ≤ 6) {mz zc : Int} : ∀ (r i : Nat) (h : AH) (F9 : Nat → Int) (zi : Int), i + r = ch.length → zi = i → isMg h G th tl rm → h 137 = eI 9 X → h 138 = eI 6 F9 → (∀ j, j < i → ∀ x, ch[j]? = some x → F9 j = x) → (∀ h' F' z', h' 138 = eI 6 F' → (∀ j, j < ch.length → ∀ x, ch[j]? = some x → F' j = x) → fr h h' 138 1 → Run mi_X9_countReadings (T (d + 3)) Q 148 [some (vR 122), some (vI (bI em)), some (vI mz), some (vI 0), some (vI zd), some (vI zc), some (vI z')] [] h' N 0 0) → Run mi_X9_countReadings (T (d + 3)) Q 117 [some (vR 122), some (vI (bI em)), some (vI mz), some (vI 0), some (vI zd), some (vI zc), some (vI zi)] [] h N 0 0 := by
  intro r
  induction r using Nat.strongRecOn with
  | ind r ih =>
  intro i h F9 zi hr hzi hM m18 m19 v1 kc
  obtain ⟨F, D, L, A, W, C, hZ, m11, m12, m13, m14, m15, m16, hE, hA, hW, hC⟩ := id hM
  obtain ⟨S, m0, m3, hR⟩ := id hZ
  obtain ⟨hr0, hr1, rL, rE, rS, hr110, rWn, rWl, hr167, rNl⟩ := id hR
  have r0 : S (0 : Int).toNat = (qR G : Int) := hr0
  have r1 : S (1 : Int).toNat = (qC G : Int) := hr1
  have r110 : S (110 : Int).toNat = (qW G : Int) := hr110
  have r167 : S (167 : Int).toNat = (qN G : Int) := hr167
  obtain ⟨hm4, hm36⟩ := hG.m
  have hmi := qM_int G
  obtain ⟨⟨hr2, hr6⟩, ⟨hc2, hc6⟩, gL, gB, gW, gWn, gWl, gN, gNl⟩ := id hG
  have hn36 := nE36 hG
  refine R_iload rfl rfl ?_
  refine R_iload rfl rfl ?_
  refine R_icmpgt rfl ⟨by omega, by omega⟩ ⟨by omega, by omega⟩ (fun c121 => ?_) (fun c121 => ?_)
  · have hr0 : r = 0 := by omega
    subst hr0
    have hi : i = ch.length := by omega
    subst hi
    exact kc h F9 _ m19 v1 fr.refl
  · obtain ⟨r, rfl⟩ : ∃ r1, r = r1 + 1 := ⟨r - 1, by omega⟩
    obtain ⟨x, hx⟩ : ∃ x, ch[i]? = some x := ⟨_, List.getElem?_eq_getElem (show i < ch.length by omega)⟩
    have hx8 : X zi.toNat = (x : Int) := by
      rw [show zi.toNat = i by omega]
      exact hX i x hx
    refine R_iload_n rfl rfl ?_
    refine R_ifne rfl ⟨by decide, by decide⟩ (fun c0 => absurd c0 (by decide)) (fun _ => ?_)
    refine R_aload_n rfl rfl ?_
    refine R_getfield rfl rfl (by omega) m0 rfl ?_
    refine R_iload rfl rfl ?_
    refine R_aload_n rfl rfl ?_
    refine R_getfield rfl rfl (by omega) m0 rfl ?_
    refine R_iload rfl rfl ?_
    refine R_iaload rfl (Or.inl (by omega)) m18 ⟨by omega, by omega, by omega⟩ ?_
    refine R_iastore rfl (by omega) m19 ⟨by omega, by omega, by omega⟩ ?_
    refine R_iinc (lv' := [_, _, _, _, _, _, _]) rfl rfl rfl ?_
    refine R_goto rfl ?_
    exact ih r (by omega) (i + 1) _ _ _ (by omega) (by omega) (isMg_f hM fr_0 (by decide)) ((va_up_ne _ _ (by decide)).trans m18) (va_up_self _ _ _) (fun j hj x2 hx2 => by
      by_cases q : j = i
      · rw [q, hx] at hx2
        cases hx2
        rw [q, show i = zi.toNat by omega, va_up_self, hx8]
      · rw [va_up_ne _ _ (by omega)]
        exact v1 j (by omega) x2 hx2) (fun h1 F1 z1 q1 q2 q3 => kc h1 F1 z1 q1 q2 (fr_0.trans q3))
