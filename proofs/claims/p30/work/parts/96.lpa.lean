/-! ===== what the law types is read as its grid ===== -/
def ys (n : Nat) (tx : Nat → Int) : Sy := (newG 3 3, [], fun _ => none, n, tx)
/-- a text that begins so -/
def extT (n : Nat) (tx : Nat → Int) (n1 : Nat) (tx1 : Nat → Int) : Prop := n ≤ n1 ∧ ∀ j, j < n → tx1 j = tx j
theorem extT_r {n : Nat} {tx : Nat → Int} : extT n tx n tx := ⟨Nat.le_refl _, fun _ _ => rfl⟩
theorem extT_up {n n1 : Nat} {tx tx1 : Nat → Int} {z : Int} (h : extT (n + 1) (va_up tx n z) n1 tx1) : extT n tx n1 tx1 ∧ sg n1 tx1 n = z := by
  obtain ⟨h1, h2⟩ := h
  refine ⟨⟨by omega, fun j hj => (h2 j (by omega)).trans (va_up_ne _ _ (by omega))⟩, ?_⟩
  unfold sg
  rw [if_pos (by omega), h2 n (by omega), va_up_self]
theorem sg_end {n : Nat} {tx : Nat → Int} : sg n tx n = -1 := if_neg (by omega)
/-- the cells before c are read -/
def invC (R C c n : Nat) (tx : Nat → Int) (G : Gr) : Prop := ∀ n1 tx1, extT n tx n1 tx1 → sg n1 tx1 n ≠ 124 → sg n1 tx1 n ≠ 95 → rcF n1 tx1 (R * C) 0 3 (newG R C) = rcF n1 tx1 (R * C - c) c n G
theorem invC_0 {R C : Nat} {tx : Nat → Int} : invC R C 0 3 tx (newG R C) := fun _ _ _ _ _ => rfl
def sgn (z : Int) : Int := if z = 0 then 46 else z
def txC (n : Nat) (tx : Nat → Int) (z : Int) (e s : Bool) : Nat → Int := match e, s with
  | false, false => va_up tx n (sgn z)
  | true, false => va_up (va_up tx n (sgn z)) (n + 1) 124
  | false, true => va_up (va_up tx n (sgn z)) (n + 1) 95
  | true, true => va_up (va_up (va_up tx n (sgn z)) (n + 1) 124) (n + 1 + 1) 95
def nC (n : Nat) (e s : Bool) : Nat := n + 1 + tn e + tn s
def grC (G : Gr) (c : Nat) (z : Int) (e s : Bool) : Gr := match e, s with
  | false, false => setL G c z
  | true, false => setBr (setL G c z) c false true
  | false, true => setBr (setL G c z) c true true
  | true, true => setBr (setBr (setL G c z) c false true) c true true
theorem rb_yes {n p c : Nat} {tx : Nat → Int} {G : Gr} {b : Bool} {s : Int} (h1 : qPb G c b = true) (h2 : sg n tx p = s) : rbF n tx p G c b s = (p + 1, setBr G c b true) := if_pos ⟨h1, h2⟩
theorem rb_no {n p c : Nat} {tx : Nat → Int} {G : Gr} {b : Bool} {s : Int} (h2 : sg n tx p ≠ s) : rbF n tx p G c b s = (p, G) := if_neg (fun q => h2 q.2)
theorem qPb_L {G : Gr} {c c' : Nat} {b : Bool} {z : Int} : qPb (setL G c z) c' b = qPb G c' b := by cases b <;> rfl
theorem invC_s {R C c n : Nat} {tx : Nat → Int} {G : Gr} (hi : invC R C c n tx G) (hc : c < R * C) {z : Int} (hz : z = 0 ∨ isLb z = true) {e s : Bool} (he : e = true → qPb G c false = true) (hs : s = true → qPb G c true = true) : invC R C (c + 1) (nC n e s) (txC n tx z e s) (grC G c z e s) := by
  have hz2 : sgn z ≠ 124 ∧ sgn z ≠ 95 ∧ (sgn z = 46 ∨ isLb (sgn z) = true) ∧ (if sgn z = 46 then 0 else sgn z) = z := by
    unfold sgn
    rcases hz with q | q
    · rw [if_pos q, q]
      exact ⟨by decide, by decide, Or.inl rfl, rfl⟩
    · obtain ⟨q1, q2⟩ := isLb_t.mp q
      rw [if_neg (by omega)]
      exact ⟨by omega, by omega, Or.inr q, if_neg (by omega)⟩
  obtain ⟨s1, s2, s3, s4⟩ := hz2
  have hr : R * C - c = (R * C - (c + 1)) + 1 := by omega
  have hp : ∀ b v b2, qPb (setBr (setL G c z) c b v) c b2 = qPb G c b2 := fun b v b2 => by rw [qPb_set, qPb_L]
  intro n1 tx1 hx hn1 hn2
  cases e <;> cases s
  · have hx : extT (n + 1) (va_up tx n (sgn z)) n1 tx1 := hx
    have hn1 : sg n1 tx1 (n + 1) ≠ 124 := hn1
    have hn2 : sg n1 tx1 (n + 1) ≠ 95 := hn2
    obtain ⟨x1, g1⟩ := extT_up hx
    rw [hi n1 tx1 x1 (by rw [g1]; exact s1) (by rw [g1]; exact s2), hr]
    simp only [rcF]
    rw [g1, if_pos s3, s4, rb_no hn1, rb_no hn2]
    rfl
  · have hx : extT (n + 1 + 1) (va_up (va_up tx n (sgn z)) (n + 1) 95) n1 tx1 := hx
    obtain ⟨x2, g2⟩ := extT_up hx
    obtain ⟨x1, g1⟩ := extT_up x2
    rw [hi n1 tx1 x1 (by rw [g1]; exact s1) (by rw [g1]; exact s2), hr]
    simp only [rcF]
    rw [g1, if_pos s3, s4, rb_no (n := n1) (tx := tx1) (p := n + 1) (c := c) (b := false) (s := 124) (by rw [g2]; decide), rb_yes (by rw [qPb_L]; exact hs rfl) g2]
    rfl
  · have hx : extT (n + 1 + 1) (va_up (va_up tx n (sgn z)) (n + 1) 124) n1 tx1 := hx
    have hn2 : sg n1 tx1 (n + 1 + 1) ≠ 95 := hn2
    obtain ⟨x2, g2⟩ := extT_up hx
    obtain ⟨x1, g1⟩ := extT_up x2
    rw [hi n1 tx1 x1 (by rw [g1]; exact s1) (by rw [g1]; exact s2), hr]
    simp only [rcF]
    rw [g1, if_pos s3, s4, rb_yes (by rw [qPb_L]; exact he rfl) g2, rb_no hn2]
    rfl
  · have hx : extT (n + 1 + 1 + 1) (va_up (va_up (va_up tx n (sgn z)) (n + 1) 124) (n + 1 + 1) 95) n1 tx1 := hx
    obtain ⟨x3, g3⟩ := extT_up hx
    obtain ⟨x2, g2⟩ := extT_up x3
    obtain ⟨x1, g1⟩ := extT_up x2
    rw [hi n1 tx1 x1 (by rw [g1]; exact s1) (by rw [g1]; exact s2), hr]
    simp only [rcF]
    rw [g1, if_pos s3, s4, rb_yes (by rw [qPb_L]; exact he rfl) g2, rb_yes (by rw [hp]; exact hs rfl) g3]
    rfl
/-- the law's row, while the cells are typed -/
def pic (R C c : Nat) (w : Nat → Int) (G : Gr) : Prop := (w 0 = R ∧ w 1 = C) ∧ (qR G = R ∧ qC G = C ∧ qW G = 0 ∧ qN G = 0) ∧ (∀ x, x < c → w (2 + x) = qL G x ∧ w (18 + x) = bI (qE G x) ∧ w (34 + x) = bI (qS G x)) ∧ ∀ x, c ≤ x → qE G x = false ∧ qS G x = false
theorem grC_q {G : Gr} {c : Nat} {z : Int} {e s : Bool} : qR (grC G c z e s) = qR G ∧ qC (grC G c z e s) = qC G ∧ qW (grC G c z e s) = qW G ∧ qN (grC G c z e s) = qN G ∧ qL (grC G c z e s) = va_up (qL G) c z ∧ (∀ x, qE (grC G c z e s) x = if x = c ∧ e = true then true else qE G x) ∧ ∀ x, qS (grC G c z e s) x = if x = c ∧ s = true then true else qS G x := by
  have key : ∀ (f : Nat → Bool) x, va_up f c true x = if x = c ∧ true = true then true else f x := fun f x => by
    by_cases q : x = c
    · rw [q, va_up_self, if_pos ⟨rfl, rfl⟩]
    · rw [va_up_ne _ _ q, if_neg (fun k => q k.1)]
  have key2 : ∀ (f : Nat → Bool) x, f x = if x = c ∧ false = true then true else f x := fun f x => (if_neg (fun k => by cases k.2)).symm
  cases e <;> cases s <;> refine ⟨rfl, rfl, rfl, rfl, rfl, fun x => ?_, fun x => ?_⟩ <;> first | exact key _ x | exact key2 _ x
theorem pic_s {R C c : Nat} {w w1 : Nat → Int} {G : Gr} (hp : pic R C c w G) (hc : c < 16) {z : Int} {e s : Bool} (hw : ∀ j, w1 j = if j = 2 + c then z else if j = 18 + c then bI e else if j = 34 + c then bI s else w j) : pic R C (c + 1) w1 (grC G c z e s) := by
  obtain ⟨⟨p0, p1⟩, ⟨p2, p3, p4, p5⟩, p6, p7⟩ := hp
  obtain ⟨q1, q2, q3, q4, q5, q6, q7⟩ := grC_q (G := G) (c := c) (z := z) (e := e) (s := s)
  refine ⟨⟨?_, ?_⟩, ⟨q1.trans p2, q2.trans p3, q3.trans p4, q4.trans p5⟩, fun x hx => ?_, fun x hx => ?_⟩
  · rw [hw, if_neg (by omega), if_neg (by omega), if_neg (by omega), p0]
  · rw [hw, if_neg (by omega), if_neg (by omega), if_neg (by omega), p1]
  · by_cases k : x = c
    · subst k
      obtain ⟨r1, r2⟩ := p7 x (Nat.le_refl _)
      rw [q5, q6, q7, va_up_self, hw, hw, hw, if_pos rfl, if_neg (show ¬ 18 + x = 2 + x by omega), if_pos rfl, if_neg (show ¬ 34 + x = 2 + x by omega), if_neg (show ¬ 34 + x = 18 + x by omega), if_pos rfl, r1, r2]
      refine ⟨rfl, ?_, ?_⟩
      · cases e
        · rw [if_neg (fun q => by cases q.2)]
        · rw [if_pos ⟨rfl, rfl⟩]
      · cases s
        · rw [if_neg (fun q => by cases q.2)]
        · rw [if_pos ⟨rfl, rfl⟩]
    · obtain ⟨r1, r2, r3⟩ := p6 x (by omega)
      rw [q5, q6, q7, va_up_ne _ _ k, if_neg (fun q => k q.1), if_neg (fun q => k q.1), hw, hw, hw, if_neg (by omega), if_neg (by omega), if_neg (by omega), if_neg (by omega), if_neg (by omega), if_neg (by omega), if_neg (by omega), if_neg (by omega), if_neg (by omega)]
      exact ⟨r1, r2, r3⟩
  · obtain ⟨r1, r2⟩ := p7 x (by omega)
    rw [q6, q7, if_neg (fun q => by omega), if_neg (fun q => by omega)]
    exact ⟨r1, r2⟩
/-- the head of the text -/
def hdr (R C : Nat) (tx : Nat → Int) : Prop := tx 0 = 71 ∧ tx 1 = 48 + R ∧ tx 2 = 48 + C
theorem hdr_up {R C n : Nat} {tx : Nat → Int} {z : Int} (h : hdr R C tx) (hn : 3 ≤ n) : hdr R C (va_up tx n z) := by
  obtain ⟨h0, h1, h2⟩ := h
  exact ⟨(va_up_ne _ _ (by omega)).trans h0, (va_up_ne _ _ (by omega)).trans h1, (va_up_ne _ _ (by omega)).trans h2⟩
/-- what is read so far; what follows is a part, or the end -/
def invP (f n : Nat) (tx : Nat → Int) (G : Gr) : Prop := ∀ n1 tx1, extT n tx n1 tx1 → (sg n1 tx1 n = 47 ∨ sg n1 tx1 n = 61 ∨ n1 = n) → gdF n1 tx1 = rpF n1 tx1 f n G
theorem invCP {R C n : Nat} {tx : Nat → Int} {G : Gr} (hR : 2 ≤ R ∧ R ≤ 4) (hC : 2 ≤ C ∧ C ≤ 4) (hh : hdr R C tx) (hn : 3 ≤ n) (hi : invC R C (R * C) n tx G) : invP 10 n tx G := by
  intro n1 tx1 hx hs
  obtain ⟨h0, h1, h2⟩ := hh
  have g : ∀ j, j < 3 → sg n1 tx1 j = tx j := fun j hj => by
    unfold sg
    rw [if_pos (by have := hx.1; omega)]
    exact hx.2 j (by omega)
  have e0 : sg n1 tx1 0 = 71 := (g 0 (by decide)).trans h0
  have e1 : sg n1 tx1 1 = 48 + R := (g 1 (by decide)).trans h1
  have e2 : sg n1 tx1 2 = 48 + C := (g 2 (by decide)).trans h2
  have o1 : szO n1 tx1 1 = true := szO_t.mpr (by rw [e1]; omega)
  have o2 : szO n1 tx1 2 = true := szO_t.mpr (by rw [e2]; omega)
  have z1 : szN n1 tx1 1 = R := by
    unfold szN
    rw [e1]
    omega
  have z2 : szN n1 tx1 2 = C := by
    unfold szN
    rw [e2]
    omega
  have hns : sg n1 tx1 n ≠ 124 ∧ sg n1 tx1 n ≠ 95 := by
    rcases hs with q | q | q
    · rw [q]; decide
    · rw [q]; decide
    · subst q
      rw [sg_end]
      decide
  have hrc := hi n1 tx1 hx hns.1 hns.2
  rw [Nat.sub_self] at hrc
  have hrc : rcF n1 tx1 (R * C) 0 3 (newG R C) = (true, n, G) := hrc
  unfold gdF
  rw [if_pos e0, if_pos o1, if_pos o2, z1, z2, hrc, if_pos rfl]
/-- a word is being read -/
def invW (f i n : Nat) (tx : Nat → Int) (G : Gr) : Prop := ∀ n1 tx1, extT n tx n1 tx1 → gdF n1 tx1 = if 2 ≤ (rwF n1 tx1 (6 - i) n G i).1 then rpF n1 tx1 f (rwF n1 tx1 (6 - i) n G i).2.1 (rwF n1 tx1 (6 - i) n G i).2.2 else (false, (rwF n1 tx1 (6 - i) n G i).2.1, (rwF n1 tx1 (6 - i) n G i).2.2)
theorem invW_0 {f n : Nat} {tx : Nat → Int} {G : Gr} (hi : invP (f + 1) n tx G) (hw : qW G < 8) : invW f 0 (n + 1) (va_up tx n 47) (begW G) := by
  intro n1 tx1 hx
  obtain ⟨x1, g1⟩ := extT_up hx
  rw [hi n1 tx1 x1 (Or.inl g1)]
  simp only [rpF]
  rw [if_neg (by have := hx.1; omega), if_pos ⟨hw, g1⟩]
theorem invW_s {f i n : Nat} {tx : Nat → Int} {G : Gr} {z : Int} (hi : invW f i n tx G) (h6 : i < 6) (hz : isLb z = true) : invW f (i + 1) (n + 1) (va_up tx n z) (lenW G z) := by
  intro n1 tx1 hx
  obtain ⟨x1, g1⟩ := extT_up hx
  have e : rwF n1 tx1 (6 - i) n G i = rwF n1 tx1 (6 - (i + 1)) (n + 1) (lenW G z) (i + 1) := by
    rw [show 6 - i = (6 - (i + 1)) + 1 by omega]
    simp only [rwF]
    rw [g1, if_pos hz]
  rw [hi n1 tx1 x1, e]
theorem nl_sg {n n1 : Nat} {tx1 : Nat → Int} (hs : sg n1 tx1 n = 47 ∨ sg n1 tx1 n = 61 ∨ n1 = n) : isLb (sg n1 tx1 n) = false := by
  rcases hs with q | q | q
  · rw [q]; decide
  · rw [q]; decide
  · subst q
    rw [sg_end]
    decide
theorem rwF_e {n1 r n c : Nat} {tx1 : Nat → Int} {G : Gr} (h : isLb (sg n1 tx1 n) = false) : rwF n1 tx1 r n G c = (c, n, G) := by
  cases r with
  | zero => rfl
  | succ r =>
    simp only [rwF]
    rw [if_neg (by rw [h]; decide)]
theorem rlF_e {n1 r n c : Nat} {tx1 : Nat → Int} {G : Gr} (h : isLb (sg n1 tx1 n) = false) : rlF n1 tx1 r n G c = (c, n, G) := by
  cases r with
  | zero => rfl
  | succ r =>
    simp only [rlF]
    rw [if_neg (by rw [h]; decide)]
theorem invW_e {f i n : Nat} {tx : Nat → Int} {G : Gr} (hi : invW f i n tx G) (h2 : 2 ≤ i) : invP f n tx G := by
  intro n1 tx1 hx hs
  rw [hi n1 tx1 hx, rwF_e (nl_sg hs), if_pos h2]
/-- the line is being read -/
def invN (f i n : Nat) (tx : Nat → Int) (G : Gr) : Prop := ∀ n1 tx1, extT n tx n1 tx1 → gdF n1 tx1 = if 1 ≤ (rlF n1 tx1 (6 - i) n G i).1 then rpF n1 tx1 f (rlF n1 tx1 (6 - i) n G i).2.1 (rlF n1 tx1 (6 - i) n G i).2.2 else (false, (rlF n1 tx1 (6 - i) n G i).2.1, (rlF n1 tx1 (6 - i) n G i).2.2)
theorem invN_0 {f n : Nat} {tx : Nat → Int} {G : Gr} (hi : invP (f + 1) n tx G) (hw : qN G = 0) : invN f 0 (n + 1) (va_up tx n 61) G := by
  intro n1 tx1 hx
  obtain ⟨x1, g1⟩ := extT_up hx
  rw [hi n1 tx1 x1 (Or.inr (Or.inl g1))]
  simp only [rpF]
  rw [if_neg (by have := hx.1; omega), if_neg (fun q => by rw [g1] at q; exact absurd q.2 (by decide)), if_pos ⟨hw, g1⟩]
theorem invN_s {f i n : Nat} {tx : Nat → Int} {G : Gr} {z : Int} (hi : invN f i n tx G) (h6 : i < 6) (hz : isLb z = true) : invN f (i + 1) (n + 1) (va_up tx n z) (lenN G z) := by
  intro n1 tx1 hx
  obtain ⟨x1, g1⟩ := extT_up hx
  have e : rlF n1 tx1 (6 - i) n G i = rlF n1 tx1 (6 - (i + 1)) (n + 1) (lenN G z) (i + 1) := by
    rw [show 6 - i = (6 - (i + 1)) + 1 by omega]
    simp only [rlF]
    rw [g1, if_pos hz]
  rw [hi n1 tx1 x1, e]
theorem invN_e {f i n : Nat} {tx : Nat → Int} {G : Gr} (hi : invN f i n tx G) (h2 : 1 ≤ i) : invP f n tx G := by
  intro n1 tx1 hx hs
  rw [hi n1 tx1 hx, rlF_e (nl_sg hs), if_pos h2]
theorem invP_end {f n : Nat} {tx : Nat → Int} {G : Gr} (hi : invP (f + 1) n tx G) : gdF n tx = (true, n, G) := by
  rw [hi n tx extT_r (Or.inr (Or.inr rfl))]
  simp only [rpF]
  rw [if_pos (Nat.le_refl _)]
theorem pic_rw {R C : Nat} {w : Nat → Int} {G : Gr} (hp : pic R C (R * C) w G) : rwL w G := by
  obtain ⟨⟨p0, p1⟩, ⟨p2, p3, p4, p5⟩, p6, p7⟩ := hp
  have hm : qM G = R * C := by unfold qM; rw [p2, p3]
  exact ⟨by rw [p0, p2], by rw [p1, p3], fun c hc => (p6 c (by omega)).1, fun c hc => (p6 c (by omega)).2.1, fun c hc => (p6 c (by omega)).2.2⟩
/-- the words that are typed: j whole ones -/
def picW (j : Nat) (v : Nat → Int) (G : Gr) : Prop := ∀ k, k < j → v (4 * k) = qWn G k ∧ qWn G k ≤ 3 ∧ ∀ i, i < qWn G k → v (4 * k + 1 + i) = qWl G k i
/-- and i letters of the next -/
def picI (j i : Nat) (v : Nat → Int) (G : Gr) : Prop := qWn G j = i ∧ ∀ k, k < i → v (4 * j + 1 + k) = qWl G j k
theorem beg_q {G : Gr} {v : Nat → Int} {m : Int} {j : Nat} (hj : qW G = j) (hW : picW j v G) : picW j (va_up v (4 * j) m) (begW G) ∧ picI j 0 (va_up v (4 * j) m) (begW G) := by
  subst hj
  refine ⟨fun k hk => ?_, ⟨va_up_self _ _ _, fun k hk => absurd hk (Nat.not_lt_zero _)⟩⟩
  obtain ⟨h1, h2, h3⟩ := hW k hk
  have e : qWn (begW G) k = qWn G k := va_up_ne _ _ (by omega)
  refine ⟨(va_up_ne _ _ (by omega)).trans (h1.trans (congrArg Nat.cast e.symm)), by rw [e]; exact h2, fun i hi => ?_⟩
  rw [e] at hi
  exact (va_up_ne _ _ (by omega)).trans (h3 i hi)
theorem len_q {G : Gr} {v : Nat → Int} {z : Int} {j i : Nat} (hj : qW G = j + 1) (hi3 : i < 3) (hW : picW j v G) (hI : picI j i v G) : picW j (va_up v (4 * j + 1 + i) z) (lenW G z) ∧ picI j (i + 1) (va_up v (4 * j + 1 + i) z) (lenW G z) := by
  obtain ⟨i1, i2⟩ := hI
  have hq : qW G - 1 = j := by omega
  refine ⟨fun k hk => ?_, ?_, fun k hk => ?_⟩
  · obtain ⟨h1, h2, h3⟩ := hW k hk
    have e : qWn (lenW G z) k = qWn G k := va_up_ne _ _ (by omega)
    refine ⟨(va_up_ne _ _ (by omega)).trans (h1.trans (congrArg Nat.cast e.symm)), by rw [e]; exact h2, fun x hx => ?_⟩
    rw [e] at hx
    refine (va_up_ne _ _ (by omega)).trans ((h3 x hx).trans ?_)
    show qWl G k x = if k = qW G - 1 ∧ x = qWn G (qW G - 1) then z else qWl G k x
    rw [if_neg (fun q => by omega)]
  · show va_up (qWn G) (qW G - 1) (qWn G (qW G - 1) + 1) j = i + 1
    rw [hq, va_up_self, i1]
  · show va_up v (4 * j + 1 + i) z (4 * j + 1 + k) = if j = qW G - 1 ∧ k = qWn G (qW G - 1) then z else qWl G j k
    rw [hq, i1]
    by_cases q : k = i
    · rw [q, va_up_self, if_pos ⟨rfl, rfl⟩]
    · rw [va_up_ne _ _ (by omega), if_neg (fun p => q p.2)]
      exact i2 k (by omega)
theorem picW_n {G : Gr} {v : Nat → Int} {j m : Nat} (hW : picW j v G) (hI : picI j m v G) (hm : v (4 * j) = m) (hm3 : m ≤ 3) : picW (j + 1) v G := by
  intro k hk
  by_cases q : k = j
  · subst q
    obtain ⟨i1, i2⟩ := hI
    exact ⟨by rw [hm, i1], by omega, fun i hi => i2 i (by omega)⟩
  · exact hW k (by omega)
theorem rwL_w {w : Nat → Int} {G G' : Gr} (h : rwL w G) (h1 : qR G' = qR G) (h2 : qC G' = qC G) (h3 : qL G' = qL G) (h4 : qE G' = qE G) (h5 : qS G' = qS G) : rwL w G' := by
  obtain ⟨a0, a1, a2, a3, a4⟩ := h
  have hm : qM G' = qM G := by unfold qM; rw [h1, h2]
  exact ⟨by rw [h1]; exact a0, by rw [h2]; exact a1, fun c hc => by rw [h3]; exact a2 c (by omega), fun c hc => by rw [h4]; exact a3 c (by omega), fun c hc => by rw [h5]; exact a4 c (by omega)⟩
/-- the line: i letters -/
def picN (i : Nat) (v : Nat → Int) (G : Gr) : Prop := qN G = i ∧ ∀ k, k < i → v (1 + k) = qNl G k
theorem lenN_q {G : Gr} {v : Nat → Int} {z : Int} {i : Nat} (hN : picN i v G) : picN (i + 1) (va_up v (1 + i) z) (lenN G z) := by
  obtain ⟨h1, h2⟩ := hN
  refine ⟨by show qN G + 1 = i + 1; rw [h1], fun k hk => ?_⟩
  show va_up v (1 + i) z (1 + k) = va_up (qNl G) (qN G) z k
  rw [h1]
  by_cases q : k = i
  · rw [q, va_up_self, va_up_self]
  · rw [va_up_ne _ _ (by omega), va_up_ne _ _ q]
    exact h2 k (by omega)
