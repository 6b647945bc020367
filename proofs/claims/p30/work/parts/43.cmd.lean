/-! ===== the commands of a script ===== -/
def ltO (n : Nat) : Int := if n = 99 then 0 else 97 + n
def plF (G : Gr) (c n : Nat) : Bool × Gr := if c < qM G ∧ (ltO n = 0 ∨ isLb (ltO n) = true) then (true, setL G c (ltO n)) else (false, G)
def feF (G : Gr) (e w : Nat) : Bool × Gr := if e < nE G ∧ w < qW G ∧ fiG G e w = true then (true, setLs G (filL G e w (eN G e) 0 (qL G))) else (false, G)
def ceF (G : Gr) (e : Nat) : Bool × Gr := if e < nE G then (true, setLs G (claF G e (eN G e) 0 (qL G) 0).1) else (false, G)
theorem okG_L {G : Gr} (hG : okG G) {L : Nat → Int} (hL : okL G L) : okG (setLs G L) := ok_setLs hG hL
theorem areKept_X {d k N r : Nat} {h : AH} {Q : AQ} (hr : 5 ≤ r ∧ r < 100) (hQ : Q (.inl (some (vI 0))) h N) : T (d + 1) 48 [vR k, vI r] h N Q := by
  refine T_body (I := mi_X5_areKept) (lv := [_, _]) rfl (Nat.le_of_ble_eq_true rfl) rfl ?_
  refine R_iload_n rfl rfl ?_
  refine R_switch rfl ⟨by omega, by omega⟩ (fun cd1 => ?_) ⟨fun c1 => ?_, fun c1 => ?_, fun c1 => ?_, fun c1 => ?_, fun c1 => ?_, trivial⟩
  · refine R_iconst rfl ?_
    exact R_ireturn rfl (fun _ => by omega) (Nat.zero_le _) (Nat.zero_le _) hQ
  · exact absurd c1 (by omega)
  · exact absurd c1 (by omega)
  · exact absurd c1 (by omega)
  · exact absurd c1 (by omega)
  · exact absurd c1 (by omega)
