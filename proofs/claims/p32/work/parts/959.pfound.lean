/-! THE PAGE: the start of a page -/
section
variable {a b : Na} {S T : St} {h g : Zh} {Q : Zp}
theorem Suser_0 (S : St) (x : Int) : Suser S x 0 0 0 = S 0 0 0 + 1 := by
  show su (su S 1 (S 0 0 0) 0 x) 0 0 0 (S 0 0 0 + 1) 0 0 0 = _
  rw [su_i, if_pos ⟨rfl, rfl⟩]
theorem Suser_1 (S : St) (x w : Int) : Suser S x 1 w 0 = if w = S 0 0 0 then x else S 1 w 0 := by
  show su (su S 1 (S 0 0 0) 0 x) 0 0 0 (S 0 0 0 + 1) 1 w 0 = _
  rw [su_k (by omega), su_i]
  by_cases c : w = S 0 0 0
  · rw [if_pos ⟨c, rfl⟩, if_pos c]
  · rw [if_neg (fun z => c z.1), if_neg c]
/-- the state while users come -/
def FA (S : St) (i : Int) : Prop := S 0 0 0 = i ∧ (1 ≤ i → S 1 0 0 = 4) ∧ S 2 0 0 = 0 ∧ S 3 0 0 = 0 ∧ S 7 0 0 = 0
theorem FA.xv (x : FA S 5) : XV S := by
  obtain ⟨x0, x1, x2, x3, x7⟩ := x
  refine ⟨⟨x1 (by omega), by omega⟩, ?_, fun k hk => ?_⟩
  · unfold XN
    rw [x2, x3]
    intro p q h1 h2
    omega
  · have h1 := hk.1
    have h2 := hk.2
    omega
theorem f_users (N m : Nat) : ∀ (i : Int) (a : Na) (S : St) (h : Zh), m = (5 - i).toNat → 0 ≤ i → i ≤ 5 → JQ a S h → FA S i → RM a h (m + N) →
    (∀ b T g, JP b T g → T 2 0 0 = 0 → T 3 0 0 = 0 → EU a h b g m → WP 114 44 [some (zr (some (b 200 0))), some (zi 5)] [] g Q) →
      WP 114 2 [some (zr (some (a 200 0))), some (zi i)] [] h Q := by
  induction m with
  | zero =>
    intro i a S h e1 h0 h5 j f r k
    have e : i = 5 := by omega
    subst e
    rw [b_114_2, brt (by omega)]
    exact k a S h ⟨j, f.xv⟩ f.2.2.1 f.2.2.2.1 EU.z
  | succ m ih =>
    intro i a S h e1 h0 h5 j f r k
    obtain ⟨r1, r2, r3⟩ := id r
    have key : ∀ (x : Int) g, 0 ≤ x ∧ x ≤ 4 → (i = 0 → x = 4) → JQ a S g → EL a h a g 1 0 0 → WP 114 30 [some (zr (some (a 200 0))), some (zi i)] [zi x, zr (some (a 200 0))] g Q := fun x g hx hx0 j1 l1 => by
      have c1 := l1.2.2.2.2.1
      have s1 := l1.2.2.2.2.2
      rw [b_114_30]
      refine ⟨(kd_some g (a 200 0) 7).mpr j1.2.2.1.q0, ?_⟩
      refine p_addUser j1 x hx (by omega) (by omega) (fun e6 => by have := f.1; omega) (fun h6 b g2 j2 l2 => ?_)
      rw [kont_v]
      show WP 114 33 _ _ _ _
      have eu : EU a h b g2 1 := (l1.trans l2).eu (by omega) (by omega) (by omega)
      rw [← l2.2.1, b_114_33, brf one_ne0', b_114_38]
      refine ⟨by unfold inR; omega, ?_⟩
      have r2 : RM b g2 (m + N) := by
        refine RM.eu (n := 1) ?_ eu
        exact r.le (by omega)
      refine ih (i + 1) b _ g2 (by omega) (by omega) (by omega) j2 ?_ r2 (fun b3 T3 g3 j3 t2 t3 l3 => k b3 T3 g3 j3 t2 t3 ((eu.trans l3).le (by omega)))
      obtain ⟨f0, f1, f2, f3, f7⟩ := f
      refine ⟨by rw [Suser_0]; omega, fun _ => ?_, f2, f3, f7⟩
      rw [Suser_1]
      by_cases c : i = 0
      · rw [if_pos (by omega)]; exact hx0 c
      · rw [if_neg (by omega)]; exact f1 (by omega)
    rw [b_114_2, brf (by omega), b_114_7]
    by_cases c0 : i = 0
    · rw [brt c0, b_114_12]
      exact key 4 h (by omega) (fun _ => rfl) j (EL.rfl.le (by omega) (by omega) (by omega))
    · rw [brf c0, b_114_16]
      by_cases c1 : i = 1
      · rw [brt c1, b_114_21]
        exact key 3 h (by omega) (fun z => absurd z c0) j (EL.rfl.le (by omega) (by omega) (by omega))
      · rw [brf c1, b_114_25]
        refine ⟨(kd_some h (a 200 0) 7).mpr j.2.2.1.q0, ?_⟩
        refine w_draw j 5 (by omega) (by omega) (fun v g v0 v1 j1 l1 => ?_)
        rw [kont_v]
        show WP 114 30 _ _ _ _
        exact key v g (by omega) (fun z => absurd z c0) j1 l1
theorem f_ins (N m : Nat) : ∀ (i : Int) (a : Na) (S : St) (h : Zh), m = (5 - i).toNat → 0 ≤ i → i ≤ 5 → JP a S h → S 3 (S 2 0 0) 0 ≤ 8 * i → S 2 0 0 ≤ i → RM a h (m + N) →
    (∀ b T g, JP b T g → T 2 0 0 ≤ 5 → T 3 (T 2 0 0) 0 ≤ 40 → EU a h b g m → WP 114 66 [some (zr (some (b 200 0))), some (zi 5)] [] g Q) →
      WP 114 46 [some (zr (some (a 200 0))), some (zi i)] [] h Q := by
  induction m with
  | zero =>
    intro i a S h e1 h0 h5 j f3 f2 r k
    have e : i = 5 := by omega
    subst e
    rw [b_114_46, brt (by omega)]
    exact k a S h j (by omega) (by omega) EU.z
  | succ m ih =>
    intro i a S h e1 h0 h5 j f3 f2 r k
    obtain ⟨r1, r2, r3⟩ := id r
    rw [b_114_46, brf (by omega), b_114_51]
    refine ⟨(kd_some h (a 200 0) 7).mpr j.1.2.2.1.q0, ?_⟩
    refine p_insG j (by omega) (by omega) (by omega) (fun b T g j2 l2 gr => ?_)
    rw [kont_v]
    show WP 114 55 _ _ _ _
    have eu : EU a h b g 1 := l2.eu (by omega) (by omega) (by omega)
    rw [← l2.2.1, b_114_55, brf one_ne0', b_114_60]
    refine ⟨by unfold inR; omega, ?_⟩
    have r2 : RM b g (m + N) := by
      refine RM.eu (n := 1) ?_ eu
      exact r.le (by omega)
    obtain ⟨g1, g2⟩ := gr
    exact ih (i + 1) b T g (by omega) (by omega) (by omega) j2 (by omega) (by omega) r2 (fun b3 T3 g3 j3 t2 t3 l3 => k b3 T3 g3 j3 t2 t3 ((eu.trans l3).le (by omega)))
theorem f_notes (N m : Nat) : ∀ (i : Int) (a : Na) (S : St) (h : Zh), m = (6 - i).toNat → 0 ≤ i → i ≤ 6 → JP a S h → RM a h (2 * m + N) →
    (∀ b T g, JP b T g → EU a h b g (2 * m) → Q (.inl (some (zi 1))) g) →
      WP 114 101 [some (zr (some (a 200 0))), some (zi i)] [] h Q := by
  induction m with
  | zero =>
    intro i a S h e1 h0 h5 j r k
    rw [b_114_101, brt (by omega), b_114_129]
    exact ⟨by omega, k a S h j EU.z⟩
  | succ m ih =>
    intro i a S h e1 h0 h5 j r k
    obtain ⟨r1, r2, r3⟩ := id r
    rw [b_114_101, brf (by omega), b_114_107]
    refine ⟨(kd_some h (a 200 0) 7).mpr j.1.2.2.1.q0, ?_⟩
    refine p_note j (by omega) (by omega) (by omega) (fun b T g j2 l2 => ?_)
    rw [kont_v]
    show WP 114 111 _ _ _ _
    have eu : EU a h b g 1 := l2.eu (by omega) (by omega) (by omega)
    have r2 : RM b g (1 + (2 * m + N)) := by
      refine RM.eu (n := 1) ?_ eu
      exact r.le (by omega)
    obtain ⟨q1, q2, q3⟩ := id r2
    rw [← l2.2.1, b_114_111, brf one_ne0', b_114_114]
    refine ⟨(kd_some g (b 200 0) 7).mpr j2.1.2.2.1.q0, ?_⟩
    refine p_reply j2 (by omega) (by omega) (by omega) (fun b3 T3 g3 j3 l3 => ?_)
    rw [kont_v]
    show WP 114 118 _ _ _ _
    have eu3 : EU b g b3 g3 1 := l3.eu (by omega) (by omega) (by omega)
    rw [← l3.2.1, b_114_118, brf one_ne0', b_114_123]
    refine ⟨by unfold inR; omega, ?_⟩
    exact ih (i + 1) b3 T3 g3 (by omega) (by omega) (by omega) j3 (r2.eu eu3) (fun b4 T4 g4 j4 l4 => k b4 T4 g4 j4 (((eu.trans eu3).trans l4).le (by omega)))
theorem p_foundAll (j : JQ a S0 h) (r : RM a h 23) (k : ∀ b T g, JP b T g → EU a h b g 23 → Q (.inl (some (zi 1))) g) : WP 114 0 [some (zr (some (a 200 0))), none] [] h Q := by
  rw [b_114_0]
  refine f_users 18 5 0 a S0 h (by omega) (by omega) (by omega) j ⟨rfl, fun z => absurd z (by decide), rfl, rfl, rfl⟩ r (fun b T g j1 t2 t3 l1 => ?_)
  have r1 : RM b g (5 + 13) := r.eu l1
  rw [b_114_44]
  refine f_ins 13 5 0 b T g (by omega) (by omega) (by omega) j1 (by rw [t2, t3]; omega) (by omega) r1 (fun b2 T2 g2 j2 t4 t5 l2 => ?_)
  have r2 : RM b2 g2 (1 + 12) := r1.eu l2
  clear j1 t2 t3 r1
  obtain ⟨jq, xv⟩ := j2
  have x1 := xv.1.1
  have x2 := xv.1.2
  obtain ⟨hi, hr, hp, iv⟩ := jq
  obtain ⟨w0, w1⟩ := iv.2.1.1
  obtain ⟨z0, z1⟩ := iv.2.1.2.1 (T2 2 0 0) w0 (Int.le_refl _)
  obtain ⟨q1, q2, q3⟩ := id r2
  rw [b_114_66]
  refine ⟨(kd_some g2 (b2 200 0) 7).mpr hp.q0, ?_⟩
  rw [ad_some, hp.q1]
  refine ⟨(kd_some _ _ _).mpr hr.A.1, ?_⟩
  refine c_insert hi hr iv 0 0 30 0 ?_
  rw [brt (by omega), brt (by omega), brt (by omega), brt (by omega)]
  intro b3 g3 hrw ecw
  rw [kont_v]
  show WP 114 78 _ _ _ _
  have ivT := inv_put iv 0 30 0 (by omega) (by omega) (by omega) (by omega) (by omega) (by omega)
  have hpw := hp.ec iv ecw
  have elw := ecw.el hp
  have ib := ecw.1
  have ec6 := elw.2.2.2.2.1
  have es6 := elw.2.2.2.2.2
  rw [← elw.2.1, b_114_78]
  refine ⟨(kd_some g3 (b3 200 0) 7).mpr hpw.q0, ?_⟩
  have k14 := hpw.q14 _ w0 (Int.le_refl _)
  have l15 := hpw.q15
  rw [p_text hpw iv, kont_v]
  show WP 114 82 _ _ _ _
  rw [b_114_82]
  refine ⟨(kd_some _ _ _).mpr k14, ?_⟩
  rw [ad_some, l15]
  refine ⟨by unfold inR; omega, ?_⟩
  rw [brt rfl, b_114_91]
  refine ⟨(kd_some g3 (b3 200 0) 7).mpr hpw.q0, ?_⟩
  refine p_put ib hpw iv (by rw [hrw.A.1]; omega) 0 30 0 (by omega) (by omega) (by omega) (by omega) (by omega) (by omega) (by omega) (fun b7 g7 hp7 ep7 => ?_)
  rw [kont_n]
  show WP 114 99 _ _ _ _
  rw [← ep7.2.2.2.1, b_114_99]
  have hr7 := hrw.ep ep7
  have l7 : EU b2 g2 b7 g7 1 := (elw.trans ep7.el).eu (by omega) (by omega) (by omega)
  have r7 : RM b7 g7 12 := r2.eu l7
  exact f_notes 0 6 0 b7 _ g7 (by omega) (by omega) (by omega) ⟨⟨ep7.1, hr7, hp7, ivT⟩, xv_put iv xv 0 30 0 (by omega) (by omega) (by omega)⟩ r7 (fun b8 T8 g8 j8 l8 => k b8 T8 g8 j8 ((((l1.trans l2).trans l7).trans l8).le (by omega)))
end
