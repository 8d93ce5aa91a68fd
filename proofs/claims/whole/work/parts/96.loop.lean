/-! THE LAW'S LOOP -/
section
variable {L : Int} {sc : Int → Int} {Q : Zp}
theorem law_loop (l0 : 0 ≤ L) (L1 : L ≤ 3072) (q : ∀ h, Q (.inl (some (zi 1))) h) (n : Nat) : ∀ (i : Int) (a : Na) (S : St) (h : Zh) (o5 o6 o7 : Option Zv), 0 ≤ i → i ≤ 3072 → L < i + 6 * n + 6 → BG L sc a S S h → Inv S → gC h + 100 * n + 100 ≤ MXC → gS h + 6000 * n + 6000 ≤ MXS →
    WP 171 23 [some (zr (some (a 201 0))), some (zr (some (a 0 0))), some (zr (some (a 100 0))), some (zr (some (a 200 0))), some (zi i), o5, o6, o7, none] [] h Q := by
  induction n with
  | zero =>
    intro i a S h o5 o6 o7 i0 i2 hn bg iv rc rs
    obtain ⟨hi, hr, hm, o⟩ := id bg
    rw [b_171_23]
    refine ⟨(kd_some _ _ _).mpr o.2.2.1, ?_⟩
    rw [ad_some, o.2.2.2.1]
    refine ⟨by unfold inR; omega, ?_⟩
    rw [brt (by omega), b_171_2034]
    exact ⟨.inr rfl, q _⟩
  | succ n ih =>
    intro i a S h o5 o6 o7 i0 i2 hn bg iv rc rs
    obtain ⟨hi, hr, hm, o⟩ := id bg
    have k : i + 6 ≤ L → KX L sc i h Q := fun i1 b g T p5 p6 p7 bg2 iv2 gc gs => by
      rw [b_171_2028]
      refine ⟨by unfold inR; omega, ?_⟩
      exact ih (i + 6) b T g p5 p6 p7 (by omega) (by omega) (by omega) bg2 iv2 (by omega) (by omega)
    rw [b_171_23]
    refine ⟨(kd_some _ _ _).mpr o.2.2.1, ?_⟩
    rw [ad_some, o.2.2.2.1]
    refine ⟨by unfold inR; omega, ?_⟩
    refine ⟨fun _ => ?_, fun z => ?_⟩
    · rw [b_171_2034]
      exact ⟨.inr rfl, q _⟩
    have i1 : i + 6 ≤ L := by omega
    have k := k i1
    rw [b_171_33]
    refine ⟨o.ix i0 (by omega), .inl rfl, fun _ => k a h S o5 o6 o7 bg iv (by omega) (by omega), ?_⟩
    simp only [swA]
    exact ⟨fun _ => L_user bg iv (by omega) (by omega) i0 i1 L1 o5 o6 o7 k, fun _ => L_setRight bg iv (by omega) (by omega) i0 i1 L1 o5 o6 o7 k, fun _ => L_insert bg iv (by omega) (by omega) i0 i1 L1 o5 o6 o7 k, fun _ => L_delete bg iv (by omega) (by omega) i0 i1 L1 o5 o6 o7 k, fun _ => L_length bg iv (by omega) (by omega) i0 i1 L1 o5 o6 o7 k, fun _ => L_sign bg iv (by omega) (by omega) i0 i1 L1 o5 o6 o7 k, fun _ => L_now bg iv (by omega) (by omega) i0 i1 L1 o5 o6 o7 k, fun _ => L_version bg iv (by omega) (by omega) i0 i1 L1 o5 o6 o7 k, fun _ => L_note bg iv (by omega) (by omega) i0 i1 L1 o5 o6 o7 k, fun _ => L_reply bg iv (by omega) (by omega) i0 i1 L1 o5 o6 o7 k, fun _ => L_settle bg iv (by omega) (by omega) i0 i1 L1 o5 o6 o7 k, fun _ => L_remove bg iv (by omega) (by omega) i0 i1 L1 o5 o6 o7 k, fun _ => L_propose bg iv (by omega) (by omega) i0 i1 L1 o5 o6 o7 k, fun _ => L_take bg iv (by omega) (by omega) i0 i1 L1 o5 o6 o7 k, fun _ => L_heal bg iv (by omega) (by omega) i0 i1 L1 o5 o6 o7 k, fun _ => L_many bg iv (by omega) (by omega) i0 i1 L1 o5 o6 o7 k, fun _ => L_right bg iv (by omega) (by omega) i0 i1 L1 o5 o6 o7 k, fun _ => L_ofNote bg iv (by omega) (by omega) i0 i1 L1 o5 o6 o7 k, fun _ => L_quote bg iv (by omega) (by omega) i0 i1 L1 o5 o6 o7 k, fun _ => L_sees bg iv (by omega) (by omega) i0 i1 L1 o5 o6 o7 k, fun _ => L_thread bg iv (by omega) (by omega) i0 i1 L1 o5 o6 o7 k, fun _ => L_over bg iv (by omega) (by omega) i0 i1 L1 o5 o6 o7 k, fun _ => L_export bg iv (by omega) (by omega) i0 i1 L1 o5 o6 o7 k, fun _ => L_exported bg iv (by omega) (by omega) i0 i1 L1 o5 o6 o7 k, fun _ => L_mean bg iv (by omega) (by omega) i0 i1 L1 o5 o6 o7 k, fun _ => L_lostBy bg iv (by omega) (by omega) i0 i1 L1 o5 o6 o7 k, fun _ => L_wouldHeal bg iv (by omega) (by omega) i0 i1 L1 o5 o6 o7 k, fun _ => L_wouldSee bg iv (by omega) (by omega) i0 i1 L1 o5 o6 o7 k, fun _ => L_digest bg iv (by omega) (by omega) i0 i1 L1 o5 o6 o7 k, trivial⟩
end
