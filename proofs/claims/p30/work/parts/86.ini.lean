/-! ===== the constructors ===== -/
theorem wfV_mono {N M : Nat} (h : N ≤ M) {v : AV} (hv : wfV N v) : wfV M v := by
  match v, hv with
  | .inl _, _ => exact trivial
  | .inr (.inl _), _ => exact trivial
  | .inr (.inr none), _ => exact trivial
  | .inr (.inr (some k)), hv =>
    have hv : k < N ∨ aRO ≤ k := hv
    show k < M ∨ aRO ≤ k
    omega
theorem wfE_mono {N M : Nat} (h : N ≤ M) {e : AE} (he : wfE N e) : wfE M e := by
  match e, he with
  | .inl (_, fs), he => exact fun v hv => wfV_mono h (he v hv)
  | .inr (.inl _), _ => exact trivial
  | .inr (.inr (.inl _)), _ => exact trivial
  | .inr (.inr (.inr (_, f))), he =>
    have he : ∀ j k, f j = some k → k < N ∨ aRO ≤ k := he
    intro j k hj
    have := he j k hj
    show k < M ∨ aRO ≤ k
    omega
theorem wfH_new {N : Nat} {h : AH} {e : AE} (hw : wfH N h) (he : wfE (N + 1) e) : wfH (N + 1) (va_up h N e) := by
  intro k hk
  by_cases q : k = N
  · rw [q, va_up_self]
    exact he
  · rw [va_up_ne _ _ q]
    exact wfE_mono (Nat.le_succ N) (hw k (by omega))
theorem wfH_up {N a : Nat} {h : AH} {e : AE} (hw : wfH N h) (he : wfE N e) : wfH N (va_up h a e) := by
  intro k hk
  by_cases q : k = a
  · rw [q, va_up_self]
    exact he
  · rw [va_up_ne _ _ q]
    exact hw k hk
theorem aRes_n {I : MI} {C : AC} {Q : AQ} {thr : Bool} {nx pc : Nat} {lv : AL} {rest : List AV} {h' : AH} {N N' k n : Nat} (hw : wfS N lv rest) (hr : Run I C Q nx lv rest h' N' k n) : aRes I Q (Run I C Q) thr nx pc lv rest N k n (.inl none) h' N' := ⟨Or.inr hw, hr⟩
section
variable {I : MI} {d : Nat} {Q : AQ} {pc nx : Nat} {tg : List Nat} {lv : AL} {st r : List AV} {h : AH} {N k n : Nat}
theorem C_newI {a : Int} (hc : lk I.code pc = some (.newarray .int, nx, tg)) (ha : 0 ≤ a ∧ a < 100000) (hN : N < aRO) (hw : wfH N h) (hs : wfS N lv r) (hk : k + 1 ≤ I.mc) (hn : n + a.toNat ≤ I.ms) (k0 : ∀ h', h' N = eI a.toNat (fun _ => 0) → (∀ i, ¬ i = N → h' i = h i) → wfH (N + 1) h' → Run I (T d) Q nx lv (vR N :: r) h' (N + 1) (k + 1) (n + a.toNat)) : Run I (T d) Q pc lv (vI a :: r) h N k n := R_newI hc ⟨ha.1, ha.2, hN, hw, hs, hk, hn⟩ (k0 _ (va_up_self _ _ _) (fun i hi => va_up_ne _ _ hi) (wfH_new hw trivial))
theorem C_newZ {a : Int} (hc : lk I.code pc = some (.newarray .boolean, nx, tg)) (ha : 0 ≤ a ∧ a < 100000) (hN : N < aRO) (hw : wfH N h) (hs : wfS N lv r) (hk : k + 1 ≤ I.mc) (hn : n + a.toNat ≤ I.ms) (k0 : ∀ h', h' N = eZ a.toNat (fun _ => 0) → (∀ i, ¬ i = N → h' i = h i) → wfH (N + 1) h' → Run I (T d) Q nx lv (vR N :: r) h' (N + 1) (k + 1) (n + a.toNat)) : Run I (T d) Q pc lv (vI a :: r) h N k n := R_newZ hc ⟨ha.1, ha.2, hN, hw, hs, hk, hn⟩ (k0 _ (va_up_self _ _ _) (fun i hi => va_up_ne _ _ hi) (wfH_new hw trivial))
theorem C_newR {a : Int} {x : Nat} (hc : lk I.code pc = some (.anewarray x, nx, tg)) (ha : 0 ≤ a ∧ a < 100000) (hN : N < aRO) (hw : wfH N h) (hs : wfS N lv r) (hk : k + 1 ≤ I.mc) (hn : n + a.toNat ≤ I.ms) (k0 : ∀ h', h' N = eR a.toNat (fun _ => none) → (∀ i, ¬ i = N → h' i = h i) → wfH (N + 1) h' → Run I (T d) Q nx lv (vR N :: r) h' (N + 1) (k + 1) (n + a.toNat)) : Run I (T d) Q pc lv (vI a :: r) h N k n := R_newR hc ⟨ha.1, ha.2, hN, hw, hs, hk, hn⟩ (k0 _ (va_up_self _ _ _) (fun i hi => va_up_ne _ _ hi) (wfH_new hw (fun j k hj => by cases hj)))
theorem aFs_wf {N ci : Nat} (hci : ci < 8) : wfE N (eO ci (aFs ci)) := by
  have h : ∀ c, c < 8 → ∀ v ∈ aFs c, wfV 0 v := by
    intro c hc v hv
    obtain ⟨j, -, rfl⟩ := List.mem_map.mp hv
    unfold aDef
    split <;> trivial
  exact fun v hv => wfV_mono (Nat.zero_le _) (h ci hci v hv)
theorem C_new {x ci : Nat} {fs : List AV} (hc : lk I.code pc = some (.new x, nx, tg)) (ht : lk I.thr pc = none) (hci : lk I.cls x = some ci) (hc8 : ci < 8) (hf : aFs ci = fs) (hN : N < aRO) (hw : wfH N h) (hs : wfS N lv st) (hk : k + 1 ≤ I.mc) (hn : n + aNf ci ≤ I.ms) (k0 : ∀ h', h' N = eO ci fs → (∀ i, ¬ i = N → h' i = h i) → wfH (N + 1) h' → Run I (T d) Q nx lv (vR N :: st) h' (N + 1) (k + 1) (n + aNf ci)) : Run I (T d) Q pc lv st h N k n := R_new hc ht hci ⟨hN, hw, hs, hk, hn⟩ (k0 _ (by rw [← hf]; exact va_up_self _ _ _) (fun i hi => va_up_ne _ _ hi) (wfH_new hw (aFs_wf hc8)))
theorem C_put {x ci j a : Nat} {fs fs' : List AV} {v : AV} (hc : lk I.code pc = some (.putfield x, nx, tg)) (hf : lk I.fld x = some (ci, j)) (ha : a < N) (he : h a = eO ci fs) (hl : j < fs.length) (hfit : aFit (aTy ci j) v) (hw : wfH N h) (hv : wfV N v) (hs : fs.set j v = fs') (k0 : ∀ h', h' a = eO ci fs' → (∀ i, ¬ i = a → h' i = h i) → wfH N h' → Run I (T d) Q nx lv r h' N k n) : Run I (T d) Q pc lv (v :: vR a :: r) h N k n := R_putfield hc hf ha he hl hfit (k0 _ (by rw [← hs]; exact va_up_self _ _ _) (fun i hi => va_up_ne _ _ hi) (wfH_up hw (by
  have h1 := hw a ha
  rw [he] at h1
  have h1 : ∀ v ∈ fs, wfV N v := h1
  intro w hw2
  rcases List.mem_or_eq_of_mem_set hw2 with q | q
  · exact h1 w q
  · rw [q]
    exact hv)))
theorem C_ast {a b m : Nat} {i : Int} {f : Nat → Option Nat} {vs : List AV} (hc : lk I.code pc = some (.aastore, nx, tg)) (ha : a < N) (hb : b < N) (hbe : h b = eO 4 vs) (he : h a = eR m f) (hi : 0 ≤ i ∧ i < m ∧ m < 2147483648) (hw : wfH N h) (k0 : ∀ h', h' a = eR m (va_up f i.toNat (some b)) → (∀ j, ¬ j = a → h' j = h j) → wfH N h' → Run I (T d) Q nx lv r h' N k n) : Run I (T d) Q pc lv (vR b :: vI i :: vR a :: r) h N k n := R_aastore hc ha hb hbe he hi (k0 _ (va_up_self _ _ _) (fun i hi => va_up_ne _ _ hi) (wfH_up hw (by
  have h1 := hw a ha
  rw [he] at h1
  have h1 : ∀ j k, f j = some k → k < N ∨ aRO ≤ k := h1
  intro j k hj
  by_cases q : j = i.toNat
  · rw [q, va_up_self] at hj
    cases hj
    exact Or.inl hb
  · rw [va_up_ne _ _ q] at hj
    exact h1 j k hj)))
end
theorem ini6_T {d k : Nat} {h : AH} {Q : AQ} (hk : k + 5 ≤ 1000) (he : h k = eO 4 (aFs 4)) (hw : wfH (k + 1) h) (hQ : ∀ h', isSt h' k (newG 3 3) → fr h h' k 5 → wfH (k + 5) h' → Q (.inl none) h' (k + 5)) : T (d + 1) 54 [vR k] h (k + 1) Q := by
  have hRO : aRO = 1000 := rfl
  refine T_body (I := mi_X6_init) (lv := [_]) rfl (Nat.le_of_ble_eq_true rfl) rfl ?_
  refine R_aload_n rfl rfl ?_
  refine R_objinit rfl rfl (Nat.le_of_ble_eq_true rfl) ?_
  refine R_aload_n rfl rfl ?_
  refine R_iconst rfl ?_
  refine C_put rfl rfl (by omega) he (Nat.le_of_ble_eq_true rfl) (by first | trivial | exact trivial | exact Or.inl rfl) hw trivial rfl (fun xh1 xe1 xo1 xw1 => ?_)
  refine R_aload_n rfl rfl ?_
  refine R_iconst rfl ?_
  refine C_put rfl rfl (by omega) xe1 (Nat.le_of_ble_eq_true rfl) (by first | trivial | exact trivial | exact Or.inl rfl) xw1 trivial rfl (fun xh2 xe2 xo2 xw2 => ?_)
  refine R_aload_n rfl rfl ?_
  refine R_iconst rfl ?_
  refine C_put rfl rfl (by omega) xe2 (Nat.le_of_ble_eq_true rfl) (by first | trivial | exact trivial | exact Or.inl rfl) xw2 trivial rfl (fun xh3 xe3 xo3 xw3 => ?_)
  refine R_aload_n rfl rfl ?_
  refine R_iconst rfl ?_
  refine C_put rfl rfl (by omega) xe3 (Nat.le_of_ble_eq_true rfl) (by first | trivial | exact trivial | exact Or.inl rfl) xw3 trivial rfl (fun xh4 xe4 xo4 xw4 => ?_)
  refine R_aload_n rfl rfl ?_
  refine R_lconst rfl ?_
  refine C_put rfl rfl (by omega) xe4 (Nat.le_of_ble_eq_true rfl) (by first | trivial | exact trivial | exact Or.inl rfl) xw4 trivial rfl (fun xh5 xe5 xo5 xw5 => ?_)
  refine R_aload_n rfl rfl ?_
  refine R_lconst rfl ?_
  refine C_put rfl rfl (by omega) xe5 (Nat.le_of_ble_eq_true rfl) (by first | trivial | exact trivial | exact Or.inl rfl) xw5 trivial rfl (fun xh6 xe6 xo6 xw6 => ?_)
  refine R_aload_n rfl rfl ?_
  refine R_bipush rfl ?_
  refine C_newI rfl ⟨by decide, by decide⟩ (by omega) xw6 ⟨List.forall_mem_cons.mpr ⟨(fun v hv => by cases hv; exact Or.inl (by omega)), fun _ h9 => absurd h9 List.not_mem_nil⟩, List.forall_mem_cons.mpr ⟨Or.inl (by omega), fun _ h9 => absurd h9 List.not_mem_nil⟩⟩ (Nat.le_of_ble_eq_true rfl) (Nat.le_of_ble_eq_true rfl) (fun xh7 xe7 xo7 xw7 => ?_)
  refine C_put rfl rfl (by omega) ((xo7 _ (by omega)).trans xe6) (Nat.le_of_ble_eq_true rfl) (by first | trivial | exact trivial | exact Or.inl rfl) xw7 (Or.inl (by omega)) rfl (fun xh8 xe8 xo8 xw8 => ?_)
  refine R_aload_n rfl rfl ?_
  refine R_bipush rfl ?_
  refine C_newI rfl ⟨by decide, by decide⟩ (by omega) xw8 ⟨List.forall_mem_cons.mpr ⟨(fun v hv => by cases hv; exact Or.inl (by omega)), fun _ h9 => absurd h9 List.not_mem_nil⟩, List.forall_mem_cons.mpr ⟨Or.inl (by omega), fun _ h9 => absurd h9 List.not_mem_nil⟩⟩ (Nat.le_of_ble_eq_true rfl) (Nat.le_of_ble_eq_true rfl) (fun xh9 xe9 xo9 xw9 => ?_)
  refine C_put rfl rfl (by omega) ((xo9 _ (by omega)).trans xe8) (Nat.le_of_ble_eq_true rfl) (by first | trivial | exact trivial | exact Or.inl rfl) xw9 (Or.inl (by omega)) rfl (fun xh10 xe10 xo10 xw10 => ?_)
  refine R_aload_n rfl rfl ?_
  refine R_bipush rfl ?_
  refine C_newI rfl ⟨by decide, by decide⟩ (by omega) xw10 ⟨List.forall_mem_cons.mpr ⟨(fun v hv => by cases hv; exact Or.inl (by omega)), fun _ h9 => absurd h9 List.not_mem_nil⟩, List.forall_mem_cons.mpr ⟨Or.inl (by omega), fun _ h9 => absurd h9 List.not_mem_nil⟩⟩ (Nat.le_of_ble_eq_true rfl) (Nat.le_of_ble_eq_true rfl) (fun xh11 xe11 xo11 xw11 => ?_)
  refine C_put rfl rfl (by omega) ((xo11 _ (by omega)).trans xe10) (Nat.le_of_ble_eq_true rfl) (by first | trivial | exact trivial | exact Or.inl rfl) xw11 (Or.inl (by omega)) rfl (fun xh12 xe12 xo12 xw12 => ?_)
  refine R_aload_n rfl rfl ?_
  refine R_bipush rfl ?_
  refine C_newI rfl ⟨by decide, by decide⟩ (by omega) xw12 ⟨List.forall_mem_cons.mpr ⟨(fun v hv => by cases hv; exact Or.inl (by omega)), fun _ h9 => absurd h9 List.not_mem_nil⟩, List.forall_mem_cons.mpr ⟨Or.inl (by omega), fun _ h9 => absurd h9 List.not_mem_nil⟩⟩ (Nat.le_of_ble_eq_true rfl) (Nat.le_of_ble_eq_true rfl) (fun xh13 xe13 xo13 xw13 => ?_)
  refine C_put rfl rfl (by omega) ((xo13 _ (by omega)).trans xe12) (Nat.le_of_ble_eq_true rfl) (by first | trivial | exact trivial | exact Or.inl rfl) xw13 (Or.inl (by omega)) rfl (fun xh14 xe14 xo14 xw14 => ?_)
  exact R_return rfl (Nat.le_of_ble_eq_true rfl) (Nat.le_of_ble_eq_true rfl) (hQ _ ⟨Int64.ofNat (0 : Fin 2), Int64.ofNat (0 : Fin 2), fun _ => 0, fun _ => 0, fun _ => 0, fun _ => 0, xe14, ((xo14 _ (by omega)).trans ((xo13 _ (by omega)).trans ((xo12 _ (by omega)).trans ((xo11 _ (by omega)).trans ((xo10 _ (by omega)).trans ((xo9 _ (by omega)).trans ((xo8 _ (by omega)).trans xe7))))))), ((xo14 _ (by omega)).trans ((xo13 _ (by omega)).trans ((xo12 _ (by omega)).trans ((xo11 _ (by omega)).trans ((xo10 _ (by omega)).trans xe9))))), ((xo14 _ (by omega)).trans ((xo13 _ (by omega)).trans ((xo12 _ (by omega)).trans xe11))), ((xo14 _ (by omega)).trans xe13), bits_zero, bits_zero, fun c hc => rfl, fun w hw2 => absurd hw2 (Nat.not_lt_zero _), fun w i hw2 => absurd hw2 (Nat.not_lt_zero _), fun i hi => absurd hi (Nat.not_lt_zero _)⟩ (fun j hj => (xo14 _ (by omega)).trans ((xo13 _ (by omega)).trans ((xo12 _ (by omega)).trans ((xo11 _ (by omega)).trans ((xo10 _ (by omega)).trans ((xo9 _ (by omega)).trans ((xo8 _ (by omega)).trans ((xo7 _ (by omega)).trans ((xo6 _ (by omega)).trans ((xo5 _ (by omega)).trans ((xo4 _ (by omega)).trans ((xo3 _ (by omega)).trans ((xo2 _ (by omega)).trans (xo1 _ (by omega))))))))))))))) xw14)
theorem ini1_T {d : Nat} {h : AH} {Q : AQ} (he : h 116 = eO 1 (aFs 1)) (hw : wfH 117 h) (hQ : ∀ h', isSe h' → fr h h' 116 3 → wfH 119 h' → Q (.inl none) h' 119) : T (d + 1) 10 [vR 116] h 117 Q := by
  have hRO : aRO = 1000 := rfl
  refine T_body (I := mi_X2_init) (lv := [_]) rfl (Nat.le_of_ble_eq_true rfl) rfl ?_
  refine R_aload_n rfl rfl ?_
  refine R_objinit rfl rfl (Nat.le_of_ble_eq_true rfl) ?_
  refine R_aload_n rfl rfl ?_
  refine R_iconst rfl ?_
  refine C_put rfl rfl (by omega) he (Nat.le_of_ble_eq_true rfl) (by first | trivial | exact trivial | exact Or.inl rfl) hw trivial rfl (fun xh1 xe1 xo1 xw1 => ?_)
  refine R_aload_n rfl rfl ?_
  refine R_iconst rfl ?_
  refine C_put rfl rfl (by omega) xe1 (Nat.le_of_ble_eq_true rfl) (by first | trivial | exact trivial | exact Or.inl rfl) xw1 trivial rfl (fun xh2 xe2 xo2 xw2 => ?_)
  refine R_aload_n rfl rfl ?_
  refine R_iconst rfl ?_
  refine C_put rfl rfl (by omega) xe2 (Nat.le_of_ble_eq_true rfl) (by first | trivial | exact trivial | exact Or.inl rfl) xw2 trivial rfl (fun xh3 xe3 xo3 xw3 => ?_)
  refine R_aload_n rfl rfl ?_
  refine R_iconst rfl ?_
  refine C_put rfl rfl (by omega) xe3 (Nat.le_of_ble_eq_true rfl) (by first | trivial | exact trivial | exact Or.inl rfl) xw3 trivial rfl (fun xh4 xe4 xo4 xw4 => ?_)
  refine R_aload_n rfl rfl ?_
  refine R_lconst rfl ?_
  refine C_put rfl rfl (by omega) xe4 (Nat.le_of_ble_eq_true rfl) (by first | trivial | exact trivial | exact Or.inl rfl) xw4 trivial rfl (fun xh5 xe5 xo5 xw5 => ?_)
  refine R_aload_n rfl rfl ?_
  refine R_bipush rfl ?_
  refine C_newI rfl ⟨by decide, by decide⟩ (by omega) xw5 ⟨List.forall_mem_cons.mpr ⟨(fun v hv => by cases hv; exact Or.inl (by omega)), fun _ h9 => absurd h9 List.not_mem_nil⟩, List.forall_mem_cons.mpr ⟨Or.inl (by omega), fun _ h9 => absurd h9 List.not_mem_nil⟩⟩ (Nat.le_of_ble_eq_true rfl) (Nat.le_of_ble_eq_true rfl) (fun xh6 xe6 xo6 xw6 => ?_)
  refine C_put rfl rfl (by omega) ((xo6 _ (by omega)).trans xe5) (Nat.le_of_ble_eq_true rfl) (by first | trivial | exact trivial | exact Or.inl rfl) xw6 (Or.inl (by omega)) rfl (fun xh7 xe7 xo7 xw7 => ?_)
  refine R_aload_n rfl rfl ?_
  refine R_bipush rfl ?_
  refine C_newI rfl ⟨by decide, by decide⟩ (by omega) xw7 ⟨List.forall_mem_cons.mpr ⟨(fun v hv => by cases hv; exact Or.inl (by omega)), fun _ h9 => absurd h9 List.not_mem_nil⟩, List.forall_mem_cons.mpr ⟨Or.inl (by omega), fun _ h9 => absurd h9 List.not_mem_nil⟩⟩ (Nat.le_of_ble_eq_true rfl) (Nat.le_of_ble_eq_true rfl) (fun xh8 xe8 xo8 xw8 => ?_)
  refine C_put rfl rfl (by omega) ((xo8 _ (by omega)).trans xe7) (Nat.le_of_ble_eq_true rfl) (by first | trivial | exact trivial | exact Or.inl rfl) xw8 (Or.inl (by omega)) rfl (fun xh9 xe9 xo9 xw9 => ?_)
  exact R_return rfl (Nat.le_of_ble_eq_true rfl) (Nat.le_of_ble_eq_true rfl) (hQ _ ⟨_, _, _, _, _, _, _, xe9, ((xo9 _ (by omega)).trans ((xo8 _ (by omega)).trans ((xo7 _ (by omega)).trans xe6))), ((xo9 _ (by omega)).trans xe8)⟩ (fun j hj => (xo9 _ (by omega)).trans ((xo8 _ (by omega)).trans ((xo7 _ (by omega)).trans ((xo6 _ (by omega)).trans ((xo5 _ (by omega)).trans ((xo4 _ (by omega)).trans ((xo3 _ (by omega)).trans ((xo2 _ (by omega)).trans (xo1 _ (by omega)))))))))) xw9)
theorem ini0_T {d : Nat} {h : AH} {Q : AQ} (he : h 119 = eO 0 (aFs 0)) (hw : wfH 120 h) (hQ : ∀ h', isFl h' → fr h h' 119 3 → wfH 122 h' → Q (.inl none) h' 122) : T (d + 1) 4 [vR 119] h 120 Q := by
  have hRO : aRO = 1000 := rfl
  refine T_body (I := mi_X1_init) (lv := [_]) rfl (Nat.le_of_ble_eq_true rfl) rfl ?_
  refine R_aload_n rfl rfl ?_
  refine R_objinit rfl rfl (Nat.le_of_ble_eq_true rfl) ?_
  refine R_aload_n rfl rfl ?_
  refine R_iconst rfl ?_
  refine C_put rfl rfl (by omega) he (Nat.le_of_ble_eq_true rfl) (by first | trivial | exact trivial | exact Or.inl rfl) hw trivial rfl (fun xh1 xe1 xo1 xw1 => ?_)
  refine R_aload_n rfl rfl ?_
  refine R_iconst rfl ?_
  refine C_put rfl rfl (by omega) xe1 (Nat.le_of_ble_eq_true rfl) (by first | trivial | exact trivial | exact Or.inl rfl) xw1 trivial rfl (fun xh2 xe2 xo2 xw2 => ?_)
  refine R_aload_n rfl rfl ?_
  refine R_bipush rfl ?_
  refine C_newI rfl ⟨by decide, by decide⟩ (by omega) xw2 ⟨List.forall_mem_cons.mpr ⟨(fun v hv => by cases hv; exact Or.inl (by omega)), fun _ h9 => absurd h9 List.not_mem_nil⟩, List.forall_mem_cons.mpr ⟨Or.inl (by omega), fun _ h9 => absurd h9 List.not_mem_nil⟩⟩ (Nat.le_of_ble_eq_true rfl) (Nat.le_of_ble_eq_true rfl) (fun xh3 xe3 xo3 xw3 => ?_)
  refine C_put rfl rfl (by omega) ((xo3 _ (by omega)).trans xe2) (Nat.le_of_ble_eq_true rfl) (by first | trivial | exact trivial | exact Or.inl rfl) xw3 (Or.inl (by omega)) rfl (fun xh4 xe4 xo4 xw4 => ?_)
  refine R_aload_n rfl rfl ?_
  refine R_bipush rfl ?_
  refine C_newI rfl ⟨by decide, by decide⟩ (by omega) xw4 ⟨List.forall_mem_cons.mpr ⟨(fun v hv => by cases hv; exact Or.inl (by omega)), fun _ h9 => absurd h9 List.not_mem_nil⟩, List.forall_mem_cons.mpr ⟨Or.inl (by omega), fun _ h9 => absurd h9 List.not_mem_nil⟩⟩ (Nat.le_of_ble_eq_true rfl) (Nat.le_of_ble_eq_true rfl) (fun xh5 xe5 xo5 xw5 => ?_)
  refine C_put rfl rfl (by omega) ((xo5 _ (by omega)).trans xe4) (Nat.le_of_ble_eq_true rfl) (by first | trivial | exact trivial | exact Or.inl rfl) xw5 (Or.inl (by omega)) rfl (fun xh6 xe6 xo6 xw6 => ?_)
  exact R_return rfl (Nat.le_of_ble_eq_true rfl) (Nat.le_of_ble_eq_true rfl) (hQ _ ⟨_, _, _, _, xe6, ((xo6 _ (by omega)).trans ((xo5 _ (by omega)).trans ((xo4 _ (by omega)).trans xe3))), ((xo6 _ (by omega)).trans xe5)⟩ (fun j hj => (xo6 _ (by omega)).trans ((xo5 _ (by omega)).trans ((xo4 _ (by omega)).trans ((xo3 _ (by omega)).trans ((xo2 _ (by omega)).trans (xo1 _ (by omega))))))) xw6)
theorem ini5_T {d : Nat} {h : AH} {Q : AQ} (he : h 1 = eO 5 (aFs 5)) (hw : wfH 2 h) (hQ : ∀ h', isTx h' 0 (fun _ => 0) 0 → isSt h' 2 (newG 3 3) → fr h h' 1 7 → wfH 8 h' → Q (.inl none) h' 8) : T (d + 2) 76 [vR 1] h 2 Q := by
  have hRO : aRO = 1000 := rfl
  refine T_body (I := mi_X7_init) (lv := [_]) rfl (Nat.le_of_ble_eq_true rfl) rfl ?_
  refine R_aload_n rfl rfl ?_
  refine R_objinit rfl rfl (Nat.le_of_ble_eq_true rfl) ?_
  refine R_aload_n rfl rfl ?_
  refine R_iconst rfl ?_
  refine C_put rfl rfl (by omega) he (Nat.le_of_ble_eq_true rfl) (by first | trivial | exact trivial | exact Or.inl rfl) hw trivial rfl (fun xh1 xe1 xo1 xw1 => ?_)
  refine R_aload_n rfl rfl ?_
  refine C_new rfl rfl rfl (by decide) rfl (by omega) xw1 ⟨List.forall_mem_cons.mpr ⟨(fun v hv => by cases hv; exact Or.inl (by omega)), fun _ h9 => absurd h9 List.not_mem_nil⟩, List.forall_mem_cons.mpr ⟨Or.inl (by omega), fun _ h9 => absurd h9 List.not_mem_nil⟩⟩ (Nat.le_of_ble_eq_true rfl) (Nat.le_of_ble_eq_true rfl) (fun xh2 xe2 xo2 xw2 => ?_)
  refine R_dup rfl rfl ?_
  refine R_c4call rfl rfl trivial ⟨Nat.le_of_ble_eq_true rfl, Nat.le_of_ble_eq_true rfl, Nat.le_of_ble_eq_true rfl, Nat.le_of_ble_eq_true rfl⟩ (ini6_T (k := 2) (by omega) xe2 xw2 (fun xh3 xS3 xo3 xw3 => aRes_n ⟨List.forall_mem_cons.mpr ⟨(fun v hv => by cases hv; exact Or.inl (by omega)), fun _ h9 => absurd h9 List.not_mem_nil⟩, List.forall_mem_cons.mpr ⟨Or.inl (by omega), List.forall_mem_cons.mpr ⟨Or.inl (by omega), fun _ h9 => absurd h9 List.not_mem_nil⟩⟩⟩ ?_))
  refine C_put rfl rfl (by omega) ((xo3 _ (by omega)).trans ((xo2 _ (by omega)).trans xe1)) (Nat.le_of_ble_eq_true rfl) (by first | trivial | exact trivial | exact Or.inl rfl) xw3 (Or.inl (by omega)) rfl (fun xh4 xe4 xo4 xw4 => ?_)
  refine R_aload_n rfl rfl ?_
  refine R_iconst rfl ?_
  refine C_put rfl rfl (by omega) xe4 (Nat.le_of_ble_eq_true rfl) (by first | trivial | exact trivial | exact Or.inl rfl) xw4 trivial rfl (fun xh5 xe5 xo5 xw5 => ?_)
  refine R_aload_n rfl rfl ?_
  refine R_sipush rfl ?_
  refine C_newI rfl ⟨by decide, by decide⟩ (by omega) xw5 ⟨List.forall_mem_cons.mpr ⟨(fun v hv => by cases hv; exact Or.inl (by omega)), fun _ h9 => absurd h9 List.not_mem_nil⟩, List.forall_mem_cons.mpr ⟨Or.inl (by omega), fun _ h9 => absurd h9 List.not_mem_nil⟩⟩ (Nat.le_of_ble_eq_true rfl) (Nat.le_of_ble_eq_true rfl) (fun xh6 xe6 xo6 xw6 => ?_)
  refine C_put rfl rfl (by omega) ((xo6 _ (by omega)).trans xe5) (Nat.le_of_ble_eq_true rfl) (by first | trivial | exact trivial | exact Or.inl rfl) xw6 (Or.inl (by omega)) rfl (fun xh7 xe7 xo7 xw7 => ?_)
  exact R_return rfl (Nat.le_of_ble_eq_true rfl) (Nat.le_of_ble_eq_true rfl) (hQ _ ⟨fun _ => 0, xe7, ((xo7 _ (by omega)).trans xe6), Nat.zero_le _, fun i hi => absurd hi (Nat.not_lt_zero _)⟩ (isSt_fr (isSt_fr (isSt_fr (isSt_fr xS3 (fun j _ _ => xo4 j (by omega))) (fun j _ _ => xo5 j (by omega))) (fun j _ _ => xo6 j (by omega))) (fun j _ _ => xo7 j (by omega))) (fun j hj => (xo7 _ (by omega)).trans ((xo6 _ (by omega)).trans ((xo5 _ (by omega)).trans ((xo4 _ (by omega)).trans ((xo3 _ (by omega)).trans ((xo2 _ (by omega)).trans (xo1 _ (by omega)))))))) xw7)
