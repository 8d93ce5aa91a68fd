/-! THE LAW: what holds between calls -/
noncomputable def oc (tr : List (Prop × Int)) : Int := match tr with
  | [] => 0
  | (p, c) :: r => @ite Int p (Classical.propDecidable _) (oc r) c
def brl (tr : List (Prop × Int)) (A : Prop) (F : Int → Prop) : Prop := match tr with
  | [] => A
  | (p, c) :: r => br p (brl r A F) (F c)
theorem oc_t {p : Prop} {c : Int} {r : List (Prop × Int)} (h : p) : oc ((p, c) :: r) = oc r := if_pos h
theorem oc_f {p : Prop} {c : Int} {r : List (Prop × Int)} (h : ¬ p) : oc ((p, c) :: r) = c := if_neg h
theorem oc_key : ∀ tr, brl tr (oc tr = 0) (fun c => oc tr = c)
  | [] => rfl
  | (p, c) :: r => ⟨fun hp => by
      have := oc_key r
      rw [← oc_t (c := c) hp] at this
      exact this, fun hn => oc_f hn⟩
noncomputable def xs (tr : List (Prop × Int)) (T S : St) : St := if oc tr = 0 then T else S
noncomputable def xv (tr : List (Prop × Int)) (v : Int) : Int := if oc tr = 0 then v else 0
/-- the law's array and the script -/
def OX (a : Na) (h : Zh) (L : Int) (sc : Int → Int) : Prop := gK h (a 200 0) = 11 ∧ gL h (a 200 0) = 1 ∧ gK h (a 201 0) = 15 ∧ gL h (a 201 0) = L ∧ ∀ i, gI h (a 201 0) i = sc i
def BG (L : Int) (sc : Int → Int) (a : Na) (S T : St) (h : Zh) : Prop := Ij a ∧ RepC a S h ∧ RepM a T h ∧ OX a h L sc
def SA (a b : Na) : Prop := b 0 0 = a 0 0 ∧ b 100 0 = a 100 0 ∧ b 200 0 = a 200 0 ∧ b 201 0 = a 201 0
theorem SA.trans {a b c : Na} (x : SA a b) (y : SA b c) : SA a c := ⟨y.1.trans x.1, y.2.1.trans x.2.1, y.2.2.1.trans x.2.2.1, y.2.2.2.trans x.2.2.2⟩
section
variable {L : Int} {sc : Int → Int} {a b : Na} {S T : St} {h g : Zh} {Q : Zp} {P : Nat → Prop}
theorem OX.fr (o : OX a h L sc) (x : Fr P a h b g) (h2 : P 200) (h3 : P 201) : OX b g L sc ∧ b 200 0 = a 200 0 ∧ b 201 0 = a 201 0 := by
  obtain ⟨o1, o2, o3, o4, o5⟩ := o
  obtain ⟨e1, s0, s1, -⟩ := x 200 0 h2 (by rw [o1]; omega)
  obtain ⟨e2, t0, t1, t2, -⟩ := x 201 0 h3 (by rw [o3]; omega)
  refine ⟨⟨?_, ?_, ?_, ?_, fun i => ?_⟩, e1, e2⟩
  · rw [e1, s0]; exact o1
  · rw [e1, s1]; exact o2
  · rw [e2, t0]; exact o3
  · rw [e2, t1]; exact o4
  · rw [e2, t2]; exact o5 i
theorem BG.ec (bg : BG L sc a S S h) (iv : Inv S) (hr : RepC b T g) (ec : EC a h b g) : BG L sc b T S g ∧ SA a b := by
  obtain ⟨hi, hr0, hm0, o⟩ := bg
  obtain ⟨ib, fr, -, -, e0⟩ := ec
  obtain ⟨o2, e2, e3⟩ := o.fr fr (by omega) (by omega)
  have e1 := (fr 100 0 (by omega) (by rw [hm0.A.1]; omega)).1
  exact ⟨⟨ib, hr, hm0.fr iv.2.1.1 fr (fun f h1 _ => h1), o2⟩, e0, e1, e2, e3⟩
theorem BG.em (bg : BG L sc a T S h) (hm : RepM b T g) (em : EM a h b g) : BG L sc b T T g ∧ SA a b := by
  obtain ⟨hi, hr0, hm0, o⟩ := bg
  obtain ⟨ib, fr, -, -, e1⟩ := em
  obtain ⟨o2, e2, e3⟩ := o.fr fr (by omega) (by omega)
  have e0 := (fr 0 0 (by omega) (by rw [hr0.c0]; omega)).1
  exact ⟨⟨ib, hr0.fr fr (fun f h1 => .inl h1), hm, o2⟩, e0, e1, e2, e3⟩
/-- behind a call of the class: the state, the law's array -/
def WK (L : Int) (sc : Int → Int) (a : Na) (T S : St) (h : Zh) (Q : Zp) (c : Int) (x : Int64) : Prop := ∀ b g, BG L sc b T S g → SA a b → gC g ≤ gC h + 11 → gS g ≤ gS h + 110 → (c = 0 → gJ g (b 200 0) 0 = x) → Q (.inl (some (zi c))) g
theorem lf_ok {x : Int64} (k : WK L sc a T S h Q 0 x) (bg : BG L sc a S S h) (iv : Inv S) (hr : RepC b T g) (ec : EC a h b g) : ixa g (some (a 200 0)) 11 0 ∧ Q (.inl (some (zi 0))) (pJ g (a 200 0) 0 x) := by
  obtain ⟨bg2, sa⟩ := bg.ec iv hr ec
  obtain ⟨ib, hr2, hm2, o⟩ := bg2
  have e := sa.2.2.1
  refine ⟨⟨(kd_some _ _ _).mpr (by rw [← e]; exact o.1), Int.le_refl _, by rw [ad_some, ← e, o.2.1]; omega⟩, ?_⟩
  refine k b _ ⟨ib, hr2, hm2, o⟩ sa ?_ ?_ (fun _ => ?_)
  · have := ec.2.2.1; show gC g ≤ _; omega
  · have := ec.2.2.2.1; show gS g ≤ _; omega
  · rw [gJ_pJ, if_pos ⟨by rw [e], rfl⟩]
theorem lf_ex {x : Int64} {c : Int} (k : WK L sc a S S h Q c x) (bg : BG L sc a S S h) (hc : c ≠ 0) : Q (.inl (some (zi c))) (tk h) := by
  obtain ⟨ib, hr2, hm2, o⟩ := bg
  exact k a _ ⟨ib, hr2, hm2, o⟩ ⟨rfl, rfl, rfl, rfl⟩ (by show gC h + 1 ≤ _; omega) (by show gS h + 6 ≤ _; omega) (fun z => absurd z hc)
/-- how the class's writes end -/
theorem ec_0 (hi : Ij a) : EC a h a h := ⟨hi, Fr_rfl, by omega, by omega, rfl⟩
theorem ec_I (hi : Ij a) {f : Nat} {i k x : Int} (n : f < 100) : EC a h a (pI h (a f i) k x) := ⟨hi, Fr_pI hi (by omega), by show gC h ≤ _; omega, by show gS h ≤ _; omega, rfl⟩
theorem ec_II (hi : Ij a) {f f2 : Nat} {i k x i2 k2 x2 : Int} (n : f < 100) (n2 : f2 < 100) : EC a h a (pI (pI h (a f i) k x) (a f2 i2) k2 x2) := ⟨hi, (Fr_pI hi (by omega)).trans (Fr_pI hi (by omega)), by show gC h ≤ _; omega, by show gS h ≤ _; omega, rfl⟩
end
