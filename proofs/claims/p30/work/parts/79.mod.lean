/-! ===== the model: a command of a script ===== -/
theorem ok_pl {G : Gr} (hG : okG G) {c n : Nat} : okG (plF G c n).2 := by
  unfold plF
  split
  · rename_i q
    exact ok_setL hG (q.2.imp_right isLb_let)
  · exact hG
theorem ok_cb {G : Gr} (hG : okG G) {c a b : Nat} : okG (cbF G c a b).2 := by
  unfold cbF
  split
  · rename_i q
    exact ok_setBr hG (qPb_iff.mp q.2.2)
  · exact hG
theorem ok_fe {G : Gr} (hG : okG G) {e w : Nat} : okG (feF G e w).2 := by
  unfold feF
  split
  · rename_i q
    exact ok_setLs hG (ok_fil hG q.2.1 _ _ _ (by rw [fiG_len q.2.2]; omega) hG.2.2.1)
  · exact hG
theorem ok_ce {G : Gr} (hG : okG G) {e : Nat} : okG (ceF G e).2 := by
  unfold ceF
  split
  · exact ok_setLs hG (ok_cla _ _ _ _ hG.2.2.1)
  · exact hG
theorem cm_ok {G : Gr} (hG : okG G) {g : Nat} : okG (cmF G g).2 := by
  unfold cmF
  split
  · exact ok_pl hG
  · exact ok_cb hG
  · split
    · exact ok_fe hG
    · exact hG
  · split
    · exact ok_ce hG
    · exact hG
  all_goals exact hG
