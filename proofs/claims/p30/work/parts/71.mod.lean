/-! ===== the model: reading the text ===== -/
theorem isMt_f {h h' : AH} {n : Nat} {tx : Nat → Int} {a m : Nat} (hT : isMt h n tx) (hf : fr h h' a m) (ha : 124 ≤ a) : isMt h' n tx := isMt_fr hT (hf _ (by omega))
theorem rc_S {n : Nat} {tx : Nat → Int} {r c p : Nat} {G : Gr} (h : sg n tx p = 46 ∨ isLb (sg n tx p) = true) : rcF n tx (r + 1) c p G = rcF n tx r (c + 1) (rbF n tx (rbF n tx (p + 1) (setL G c (if sg n tx p = 46 then 0 else sg n tx p)) c false 124).1 (rbF n tx (p + 1) (setL G c (if sg n tx p = 46 then 0 else sg n tx p)) c false 124).2 c true 95).1 (rbF n tx (rbF n tx (p + 1) (setL G c (if sg n tx p = 46 then 0 else sg n tx p)) c false 124).1 (rbF n tx (p + 1) (setL G c (if sg n tx p = 46 then 0 else sg n tx p)) c false 124).2 c true 95).2 := if_pos h
theorem rc_N {n : Nat} {tx : Nat → Int} {r c p : Nat} {G : Gr} (h : ¬ (sg n tx p = 46 ∨ isLb (sg n tx p) = true)) : rcF n tx (r + 1) c p G = (false, p, G) := if_neg h
theorem rw_new {D : Nat → Int} {r c : Nat} (h0 : D 0 = r) (h1 : D 1 = c) (h : ∀ j, 2 ≤ j → j < 174 → D j = 0) (hm : r * c ≤ 36) : rwG D (newG r c) := by
  refine ⟨h0, h1, fun j hj => ?_, fun j hj => ?_, fun j hj => ?_, h _ (by omega) (by omega), fun w hw => absurd hw (Nat.not_lt_zero _), fun w i hw _ => absurd hw (Nat.not_lt_zero _), h _ (by omega) (by omega), fun i hi => absurd hi (Nat.not_lt_zero _)⟩ <;> (have hj : j < r * c := hj; exact h _ (by omega) (by omega))
theorem sz_n {n : Nat} {tx : Nat → Int} {i : Nat} (h : szO n tx i = true) : (2 ≤ szN n tx i ∧ szN n tx i ≤ 6) ∧ ((szN n tx i : Nat) : Int) = sg n tx i - 48 := by
  have := szO_t.mp h
  unfold szN
  omega
