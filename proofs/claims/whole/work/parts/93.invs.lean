/-! WHAT THE LAW'S CALLS LEAVE -/
theorem oc_z {p : Prop} {c : Int} {r : List (Prop × Int)} (h : oc ((p, c) :: r) = 0) (hc : c ≠ 0) : p ∧ oc r = 0 := by
  by_cases hp : p
  · exact ⟨hp, (oc_t hp).symm.trans h⟩
  · exact absurd ((oc_f hp).symm.trans h) hc
theorem xs_S (tr : List (Prop × Int)) (S : St) : xs tr S S = S := by unfold xs; split <;> rfl
section
variable {S : St}
theorem iv_user (iv : Inv S) (x : Int) : Inv (xs (tr_user S x) (Suser S x) S) := by
  unfold xs
  split
  · rename_i e
    obtain ⟨p1, e⟩ := oc_z e (by omega)
    obtain ⟨p2, e⟩ := oc_z e (by omega)
    exact inv_user iv p1 p2
  · exact iv
theorem iv_setRight (iv : Inv S) (w u x : Int) : Inv (xs (tr_setRight S w u x) (su S 1 u 0 x) S) := by
  unfold xs
  split
  · rename_i e
    obtain ⟨p1, e⟩ := oc_z e (by omega)
    obtain ⟨p2, e⟩ := oc_z e (by omega)
    obtain ⟨p3, e⟩ := oc_z e (by omega)
    obtain ⟨p4, e⟩ := oc_z e (by omega)
    exact inv_right iv p3
  · exact iv
theorem iv_insert (iv : Inv S) (u p n s : Int) : Inv (xs (tr_insert S u p n s) (Sput S p n s) S) := by
  unfold xs
  split
  · rename_i e
    obtain ⟨p1, e⟩ := oc_z e (by omega)
    obtain ⟨p2, e⟩ := oc_z e (by omega)
    obtain ⟨p3, e⟩ := oc_z e (by omega)
    obtain ⟨p4, e⟩ := oc_z e (by omega)
    exact inv_put iv _ _ _ p2.1 ⟨by omega, by omega⟩ p2.2 p3.2 p4.2.1 p4.2.2
  · exact iv
theorem iv_delete (iv : Inv S) (u p n : Int) : Inv (xs (tr_delete S u p n) (Scut S p n) S) := by
  unfold xs
  split
  · rename_i e
    obtain ⟨p1, e⟩ := oc_z e (by omega)
    obtain ⟨p2, e⟩ := oc_z e (by omega)
    obtain ⟨p3, e⟩ := oc_z e (by omega)
    obtain ⟨p4, e⟩ := oc_z e (by omega)
    exact inv_cut iv _ _ p2.1 (by omega) (by omega) p4.2
  · exact iv
theorem iv_sign (iv : Inv S) (v p : Int) : Inv (xs (tr_sign S v p) (S) S) := by
  rw [xs_S]; exact iv
theorem iv_now (iv : Inv S) (v p : Int) : Inv (xs (tr_now S v p) (S) S) := by
  rw [xs_S]; exact iv
theorem iv_note (iv : Inv S) (u f t v c : Int) : Inv (xs (tr_note S u f t v c) (Snote S u f t v c) S) := by
  unfold xs
  split
  · rename_i e
    obtain ⟨p1, e⟩ := oc_z e (by omega)
    obtain ⟨p2, e⟩ := oc_z e (by omega)
    obtain ⟨p3, e⟩ := oc_z e (by omega)
    exact inv_note iv p3.2 p1 p2.1 p2.2.1 p2.2.2
  · exact iv
theorem iv_reply (iv : Inv S) (u q c : Int) : Inv (xs (tr_reply S u q c) (Srep S u q c) S) := by
  unfold xs
  split
  · rename_i e
    obtain ⟨p1, e⟩ := oc_z e (by omega)
    obtain ⟨p2, e⟩ := oc_z e (by omega)
    obtain ⟨p3, e⟩ := oc_z e (by omega)
    obtain ⟨p4, e⟩ := oc_z e (by omega)
    exact inv_reply iv p4.2.2 p1 p2.1 p2.2 p3
  · exact iv
theorem iv_settle (iv : Inv S) (u k x : Int) (hx : x = 0 ∨ x = 1) : Inv (xs (tr_settle S u k x) (su S 18 (S 11 k 0) 0 x) S) := by
  unfold xs
  split
  · rename_i e
    obtain ⟨p1, e⟩ := oc_z e (by omega)
    obtain ⟨p2, e⟩ := oc_z e (by omega)
    obtain ⟨p3, e⟩ := oc_z e (by omega)
    exact inv_settle iv ((iv.2.2.1.2.1 _ p2.1).2.2.2.2.1).1 hx
  · exact iv
theorem iv_remove (iv : Inv S) (u k : Int) : Inv (xs (tr_remove S u k) (Srem S k) S) := by
  unfold xs
  split
  · rename_i e
    obtain ⟨p1, e⟩ := oc_z e (by omega)
    obtain ⟨p2, e⟩ := oc_z e (by omega)
    obtain ⟨p3, e⟩ := oc_z e (by omega)
    exact rmS_inv 61 _ k (inv_st iv p2.1 (.inr (.inl rfl)) p2.2 (fun z => absurd z (by decide))) (.inr p2.1)
  · exact iv
theorem iv_propose (iv : Inv S) (u k n s : Int) : Inv (xs (tr_propose S u k n s) (su (su S 16 k 0 n) 17 k 0 s) S) := by
  unfold xs
  split
  · rename_i e
    obtain ⟨p1, e⟩ := oc_z e (by omega)
    obtain ⟨p2, e⟩ := oc_z e (by omega)
    obtain ⟨p3, e⟩ := oc_z e (by omega)
    obtain ⟨p4, e⟩ := oc_z e (by omega)
    exact inv_first (inv_many iv ⟨by omega, by omega⟩) p2.1 p3.2.2
  · exact iv
theorem iv_take (iv : Inv S) (u k : Int) : Inv (xs (tr_take S u k) (Stake S k) S) := by
  unfold xs
  split
  · rename_i e
    obtain ⟨p1, e⟩ := oc_z e (by omega)
    obtain ⟨p2, e⟩ := oc_z e (by omega)
    obtain ⟨p3, e⟩ := oc_z e (by omega)
    obtain ⟨p4, e⟩ := oc_z e (by omega)
    exact inv_take iv ⟨p2.1, p3⟩ p4.2
  · exact iv
theorem iv_many (iv : Inv S) (w : Int) : Inv (xs (tr_many S w) (S) S) := by
  rw [xs_S]; exact iv
theorem iv_right (iv : Inv S) (u : Int) : Inv (xs (tr_right S u) (S) S) := by
  rw [xs_S]; exact iv
theorem iv_ofNote (iv : Inv S) (k w : Int) : Inv (xs (tr_ofNote S k w) (S) S) := by
  rw [xs_S]; exact iv
theorem iv_quote (iv : Inv S) (k p : Int) : Inv (xs (tr_quote S k p) (S) S) := by
  rw [xs_S]; exact iv
theorem iv_sees (iv : Inv S) (u k : Int) : Inv (xs (tr_sees S u k) (S) S) := by
  rw [xs_S]; exact iv
theorem iv_thread (iv : Inv S) (k p : Int) : Inv (xs (tr_thread S k p) (S) S) := by
  rw [xs_S]; exact iv
theorem iv_over (iv : Inv S) (u p : Int) : Inv (xs (tr_over S u p) (S) S) := by
  rw [xs_S]; exact iv
theorem iv_export (iv : Inv S) (u al : Int) : Inv (xs (tr_export S u al) (Sexp S u al) S) := by
  unfold xs
  split
  · rename_i e
    obtain ⟨p1, e⟩ := oc_z e (by omega)
    exact inv_exp iv _ _
  · exact iv
theorem iv_exported (iv : Inv S) (p w : Int) : Inv (xs (tr_exported S p w) (S) S) := by
  rw [xs_S]; exact iv
theorem iv_lostBy (iv : Inv S) (p m : Int) : Inv (xs (tr_lostBy S p m) (S) S) := by
  rw [xs_S]; exact iv
theorem iv_wouldHeal (iv : Inv S) (k : Int) : Inv (xs (tr_wouldHeal S k) (S) S) := by
  rw [xs_S]; exact iv
theorem iv_wouldSee (iv : Inv S) (u r : Int) : Inv (xs (tr_wouldSee S u r) (S) S) := by
  rw [xs_S]; exact iv
end
