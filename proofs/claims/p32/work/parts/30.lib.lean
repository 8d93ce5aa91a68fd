/-! THE PURE SIDE: how WP is reckoned; leaf methods -/
noncomputable def b2i (p : Prop) : Int := @ite Int p (Classical.propDecidable p) 1 0
theorem b2i_t {p : Prop} (h : p) : b2i p = 1 := by unfold b2i; exact if_pos h
theorem b2i_f {p : Prop} (h : ¬ p) : b2i p = 0 := by unfold b2i; exact if_neg h
theorem b2i_0 (p : Prop) : (b2i p = 0) = ¬ p := propext ⟨fun e h => by rw [b2i_t h] at e; omega, fun h => b2i_f h⟩
theorem b2i_1 (p : Prop) : (b2i p = 1) = p := propext ⟨fun e => Classical.byContradiction fun h => by rw [b2i_f h] at e; omega, fun h => b2i_t h⟩
theorem b2i_01 (p : Prop) : (b2i p = 0 ∨ b2i p = 1) = True := by
  by_cases h : p
  · simp [b2i_t h]
  · simp [b2i_f h]
theorem b2i_c {p q : Prop} (h : p ↔ q) : b2i p = b2i q := by rw [propext h]
theorem b2i_R (p : Prop) : inR (b2i p) := by
  by_cases h : p
  · rw [b2i_t h]; exact z_1
  · rw [b2i_f h]; exact z_0
theorem one_ne0 : ((1 : Int) = 0) = False := by simp
theorem zz01 : ((0 : Int) = 0 ∨ (0 : Int) = 1) = True := by simp
theorem oz01 : ((1 : Int) = 0 ∨ (1 : Int) = 1) = True := by simp
theorem brt {c A B : Prop} (h : c) : br c A B = A := propext ⟨fun k => k.1 h, fun k => ⟨fun _ => k, fun n => absurd h n⟩⟩
theorem brf {c A B : Prop} (h : ¬ c) : br c A B = B := propext ⟨fun k => k.2 h, fun k => ⟨fun n => absurd n h, fun _ => k⟩⟩
theorem brT {A B : Prop} : br True A B = A := brt trivial
theorem brF {A B : Prop} : br False A B = B := brf id
theorem brN {c A B : Prop} : br (¬ c) A B = br c B A := propext ⟨fun k => ⟨fun h => k.2 (fun n => n h), fun h => k.1 h⟩, fun k => ⟨fun h => k.2 h, fun h => k.1 (Classical.byContradiction h)⟩⟩
/-- two ways to one end -/
theorem brS {c A : Prop} : br c A A = A := propext ⟨fun k => by by_cases h : c; exact k.1 h; exact k.2 h, fun k => ⟨fun _ => k, fun _ => k⟩⟩
theorem brQ {c : Prop} {F : Int → Prop} : br c (F 1) (F 0) = F (b2i c) := by
  by_cases h : c
  · rw [brt h, b2i_t h]
  · rw [brf h, b2i_f h]
theorem brQ2 {c : Prop} {F : Int → Prop} : br c (F 0) (F 1) = F (b2i (¬ c)) := by
  by_cases h : c
  · rw [brt h, b2i_f (fun n => n h)]
  · rw [brf h, b2i_t h]
/-- an exception's room -/
def thr (h : Zh) (e : Nat) (Q : Zp) : Prop := (gC h + 1 ≤ MXC ∧ gS h + 6 ≤ MXS) ∧ Q (.inr e) (tk h)
theorem s_isWithin (n lo hi : Int) (h : Zh) (Q : Zp) : WP 67 0 [some (zi n), some (zi lo), some (zi hi)] [] h Q = Q (.inl (some (zi (b2i (lo ≤ n ∧ n ≤ hi))))) h := by
  simp only [b_67_0, b_67_5, b_67_10, b_67_14, b_67_15, true_or, or_true, true_and]
  by_cases h1 : n < lo
  · rw [brt h1, b2i_f (by omega)]
  · rw [brf h1]
    by_cases h2 : hi < n
    · rw [brt h2, b2i_f (by omega)]
    · rw [brf h2, b2i_t (by omega)]
theorem s_isRight (x : Int) (h : Zh) (Q : Zp) : WP 68 0 [some (zi x)] [] h Q = Q (.inl (some (zi (b2i (0 ≤ x ∧ x ≤ 4))))) h := by
  simp only [b_68_0, b_68_6, s_isWithin, kont_v, b2i_01, true_and, Nat.reduceAdd]
theorem s_isContent (x : Int) (h : Zh) (Q : Zp) : WP 69 0 [some (zi x)] [] h Q = Q (.inl (some (zi (b2i (0 ≤ x ∧ x ≤ 999))))) h := by
  simp only [b_69_0, b_69_8, s_isWithin, kont_v, b2i_01, true_and, Nat.reduceAdd]
theorem s_reqIx (p : Prop) (h : Zh) (Q : Zp) : WP 64 0 [some (zi (b2i p))] [] h Q = br p (Q (.inl none) h) (thr h 3 Q) := by
  simp only [b_64_0, b_64_4, b_64_15, b2i_0, brN, thr]
theorem s_reqAr (p : Prop) (h : Zh) (Q : Zp) : WP 65 0 [some (zi (b2i p))] [] h Q = br p (Q (.inl none) h) (thr h 1 Q) := by
  simp only [b_65_0, b_65_4, b_65_15, b2i_0, brN, thr]
theorem s_reqSt (p : Prop) (h : Zh) (Q : Zp) : WP 66 0 [some (zi (b2i p))] [] h Q = br p (Q (.inl none) h) (thr h 2 Q) := by
  simp only [b_66_0, b_66_4, b_66_15, b2i_0, brN, thr]
section
variable {c p q : Prop} {Q : Zp} {h : Zh}
/-- a number told two ways -/
theorem Qi {x y : Int} (e : x = y) : Q (.inl (some (zi x))) h = Q (.inl (some (zi y))) h := by rw [e]
theorem brb10 : br c (Q (.inl (some (zi 1))) h) (Q (.inl (some (zi 0))) h) = Q (.inl (some (zi (b2i c)))) h := brQ (F := fun x => Q (.inl (some (zi x))) h)
theorem brb01 : br c (Q (.inl (some (zi 0))) h) (Q (.inl (some (zi 1))) h) = Q (.inl (some (zi (b2i (¬ c))))) h := brQ2 (F := fun x => Q (.inl (some (zi x))) h)
theorem brbpq : br c (Q (.inl (some (zi (b2i p)))) h) (Q (.inl (some (zi (b2i q)))) h) = Q (.inl (some (zi (b2i ((c ∧ p) ∨ (¬ c ∧ q)))))) h := by
  by_cases k : c
  · rw [brt k]; exact Qi (b2i_c (p := p) ⟨fun z => .inl ⟨k, z⟩, fun z => z.elim (fun z => z.2) (fun z => absurd k z.1)⟩)
  · rw [brf k]; exact Qi (b2i_c (p := q) ⟨fun z => .inr ⟨k, z⟩, fun z => z.elim (fun z => absurd z.1 k) (fun z => z.2)⟩)
theorem brb1p : br c (Q (.inl (some (zi 1))) h) (Q (.inl (some (zi (b2i p)))) h) = Q (.inl (some (zi (b2i (c ∨ p))))) h := by
  by_cases k : c
  · rw [brt k, b2i_t (.inl k)]
  · rw [brf k]; exact Qi (b2i_c (p := p) ⟨.inr, fun z => z.elim (fun z => absurd z k) id⟩)
theorem brb0p : br c (Q (.inl (some (zi 0))) h) (Q (.inl (some (zi (b2i p)))) h) = Q (.inl (some (zi (b2i (¬ c ∧ p))))) h := by
  by_cases k : c
  · rw [brt k, b2i_f (fun z => z.1 k)]
  · rw [brf k]; exact Qi (b2i_c (p := p) ⟨fun z => ⟨k, z⟩, fun z => z.2⟩)
theorem brbp1 : br c (Q (.inl (some (zi (b2i p)))) h) (Q (.inl (some (zi 1))) h) = Q (.inl (some (zi (b2i (¬ c ∨ p))))) h := by
  by_cases k : c
  · rw [brt k]; exact Qi (b2i_c (p := p) ⟨.inr, fun z => z.elim (fun z => absurd k z) id⟩)
  · rw [brf k, b2i_t (.inl k)]
theorem brbp0 : br c (Q (.inl (some (zi (b2i p)))) h) (Q (.inl (some (zi 0))) h) = Q (.inl (some (zi (b2i (c ∧ p))))) h := by
  by_cases k : c
  · rw [brt k]; exact Qi (b2i_c (p := p) ⟨fun z => ⟨k, z⟩, fun z => z.2⟩)
  · rw [brf k, b2i_f (fun z => k z.1)]
theorem brb11 : br c (Q (.inl (some (zi 1))) h) (Q (.inl (some (zi 1))) h) = Q (.inl (some (zi 1))) h := brS
theorem brb00 : br c (Q (.inl (some (zi 0))) h) (Q (.inl (some (zi 0))) h) = Q (.inl (some (zi 0))) h := brS
end
theorem wpI {m pc : Nat} {ls : Zl} {r : List Zv} {x y : Int} {h : Zh} {Q : Zp} (e : x = y) : WP m pc ls (zi x :: r) h Q = WP m pc ls (zi y :: r) h Q := by rw [e]
/-- what is known falls away -/
theorem aT {p q : Prop} (k : p) : (p ∧ q) = q := propext ⟨fun z => z.2, fun z => ⟨k, z⟩⟩
theorem br_cg {c d A B A2 B2 : Prop} (k : c ↔ d) (e : A = A2) (f : B = B2) : br c A B = br d A2 B2 := by rw [propext k, e, f]
theorem nem {p : Prop} : (¬ p ∨ p) = True := propext ⟨fun _ => trivial, fun _ => (Classical.em p).symm⟩
