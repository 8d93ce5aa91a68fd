/-! MAKING THINGS: what a constructor has made so far -/
/-- (f, kd, n): the thing f, of the kind kd, n long, all zero -/
def OB (b : Na) (g : Zh) (x : Nat × Nat × Int) : Prop := gK g (b x.1 0) = x.2.1 ∧ gL g (b x.1 0) = x.2.2 ∧ ∀ j, gI g (b x.1 0) j = 0
/-- (f, j, f2): field j of f is f2 -/
def RF (b : Na) (g : Zh) (y : Nat × Int × Nat) : Prop := gR g (b y.1 0) y.2.1 = some (b y.2.2 0)
/-- (f, f2, N, n): f's rows are f2 0, f2 1, .. below N, each n long -/
def RW (b : Na) (g : Zh) (z : Nat × Nat × Int × Int) : Prop := ∀ v : Int, 0 ≤ v → v < z.2.2.1 → gR g (b z.1 0) v = some (b z.2.1 v) ∧ gK g (b z.2.1 v) = 10 ∧ gL g (b z.2.1 v) = z.2.2.2
def MD (b : Na) (g : Zh) (L : List (Nat × Nat × Int)) (R : List (Nat × Int × Nat)) (W : List (Nat × Nat × Int × Int)) : Prop :=
  (∀ x ∈ L, OB b g x ∧ x.2.1 ≠ 0) ∧ (∀ y ∈ R, RF b g y ∧ (∃ x ∈ L, x.1 = y.1) ∧ ∃ x ∈ L, x.1 = y.2.2) ∧ ∀ z ∈ W, RW b g z ∧ ∃ x ∈ L, x.1 = z.1
/-- live names but (f, i) are where they were -/
def Lv (a : Na) (h : Zh) (b : Na) (g : Zh) (N : Nat → Int → Prop) : Prop := ∀ f i, gK h (a f i) ≠ 0 → ¬ N f i → b f i = a f i ∧ sm h g (a f i)
section
variable {a b : Na} {h g : Zh} {L : List (Nat × Nat × Int)} {R : List (Nat × Int × Nat)} {W : List (Nat × Nat × Int × Int)} {N : Nat → Int → Prop}
theorem MD.carry (m : MD a h L R W) (l : Lv a h b g N) (nL : ∀ x ∈ L, ¬ N x.1 0) (nW : ∀ z ∈ W, ∀ v, ¬ N z.2.1 v) : MD b g L R W := by
  obtain ⟨m1, m2, m3⟩ := m
  have key : ∀ x ∈ L, b x.1 0 = a x.1 0 ∧ sm h g (a x.1 0) := fun x hx => l x.1 0 (by have := m1 x hx; rw [this.1.1]; exact this.2) (nL x hx)
  refine ⟨fun x hx => ?_, fun y hy => ?_, fun z hz => ?_⟩
  · obtain ⟨e, s0, s1, s2, -⟩ := key x hx
    obtain ⟨⟨o1, o2, o3⟩, o4⟩ := m1 x hx
    refine ⟨⟨?_, ?_, fun j => ?_⟩, o4⟩
    · rw [e, s0]; exact o1
    · rw [e, s1]; exact o2
    · rw [e, s2]; exact o3 j
  · obtain ⟨r, ⟨x, hx, ex⟩, ⟨x2, hx2, ex2⟩⟩ := m2 y hy
    obtain ⟨e, -, -, -, s3, -⟩ := key x hx
    obtain ⟨e2, -⟩ := key x2 hx2
    rw [ex] at e s3
    rw [ex2] at e2
    refine ⟨?_, ⟨x, hx, ex⟩, ⟨x2, hx2, ex2⟩⟩
    unfold RF
    rw [e, s3, e2]
    exact r
  · obtain ⟨r, ⟨x, hx, ex⟩⟩ := m3 z hz
    obtain ⟨e, -, -, -, s3, -⟩ := key x hx
    rw [ex] at e s3
    refine ⟨fun v v1 v2 => ?_, ⟨x, hx, ex⟩⟩
    obtain ⟨r1, r2, r3⟩ := r v v1 v2
    obtain ⟨e2, t0, t1, -⟩ := l z.2.1 v (by omega) (nW z hz v)
    rw [e, s3, e2, t0, t1]
    exact ⟨r1, r2, r3⟩
theorem Lv_nw {f q kd : Nat} {i n : Int} (hq : gK h q = 0) : Lv a h (nm a f i q) (nw h q kd n) (fun f2 i2 => f2 = f ∧ i2 = i) := fun f2 i2 k2 n2 => ⟨nm_live hq k2 n2, sm_nw (fun z => k2 (by rw [z]; exact hq))⟩
theorem Lv.fr {P : Nat → Prop} (l : Lv a h b g N) (n : ∀ f i, P f → ¬ N f i) : Fr P a h b g := fun f i p k => l f i k (n f i p)
/-- a new thing -/
theorem MD.new (hi : Ij a) (m : MD a h L R W) (f : Nat) (n : Int) (kd : Nat) (k0 : kd ≠ 0) (nL : ∀ x ∈ L, x.1 ≠ f) (nW : ∀ z ∈ W, z.2.1 ≠ f) {G : Nat → Zh → Prop}
    (k : ∀ b g, Ij b → MD b g ((f, kd, n) :: L) R W → (∀ P : Nat → Prop, ¬ P f → Fr P a h b g) → gC g = gC h + 1 → gS g = gS h + n.toNat → (∀ x ∈ L, b x.1 0 = a x.1 0) → G (b f 0) g) : ∀ q, gK h q = 0 → G q (nw h q kd n) := by
  intro q hq
  have e : nm a f 0 q f 0 = q := nm_self a f 0 q
  have l := Lv_nw (a := a) (f := f) (i := 0) (kd := kd) (n := n) hq
  obtain ⟨c1, c2, c3⟩ := m.carry l (fun x hx z => nL x hx z.1) (fun z hz v y => nW z hz y.1)
  have := k (nm a f 0 q) (nw h q kd n) (Ij_nm hi f 0 q) ⟨fun x hx => ?_, fun y hy => ?_, fun z hz => ?_⟩ (fun P np => l.fr (fun f2 i2 p y => np (y.1 ▸ p))) (gC_nw ..) (gS_nw ..) (fun x hx => ?_)
  · rw [e] at this; exact this
  · rcases List.mem_cons.mp hx with q2 | q2
    · rw [q2]
      refine ⟨⟨?_, ?_, fun j => ?_⟩, k0⟩
      · show gK _ (nm a f 0 q f 0) = kd; rw [e, gK_nw, if_pos rfl]
      · show gL _ (nm a f 0 q f 0) = n; rw [e, gL_nw, if_pos rfl]
      · show gI _ (nm a f 0 q f 0) j = 0; rw [e, gI_nw, if_pos rfl]
    · exact c1 x q2
  · obtain ⟨r, ⟨x, hx, ex⟩, ⟨x2, hx2, ex2⟩⟩ := c2 y hy
    exact ⟨r, ⟨x, List.mem_cons_of_mem _ hx, ex⟩, ⟨x2, List.mem_cons_of_mem _ hx2, ex2⟩⟩
  · obtain ⟨r, ⟨x, hx, ex⟩⟩ := c3 z hz
    exact ⟨r, ⟨x, List.mem_cons_of_mem _ hx, ex⟩⟩
  · obtain ⟨o, o4⟩ := m.1 x hx
    exact (l x.1 0 (by rw [o.1]; exact o4) (fun z => nL x hx z.1)).1
/-- a field that is put -/
theorem MD.put (hi : Ij a) (m : MD a h L R W) (f : Nat) (j : Int) (f2 : Nat) (h1 : ∃ x ∈ L, x.1 = f) (h2 : ∃ x ∈ L, x.1 = f2) (nR : ∀ y ∈ R, ¬ (y.1 = f ∧ y.2.1 = j)) (nW : ∀ z ∈ W, z.1 ≠ f) : MD a (pR h (a f 0) j (some (a f2 0))) L ((f, j, f2) :: R) W := by
  obtain ⟨m1, m2, m3⟩ := m
  refine ⟨m1, fun y hy => ?_, fun z hz => ?_⟩
  · rcases List.mem_cons.mp hy with q | q
    · rw [q]
      refine ⟨?_, h1, h2⟩
      show gR _ (a f 0) j = some (a f2 0)
      rw [gR_pR, if_pos ⟨rfl, rfl⟩]
    · obtain ⟨r, r2⟩ := m2 y q
      refine ⟨?_, r2⟩
      have ny := nR y q
      unfold RF
      rw [gR_pR, if_neg (fun z => ny (by rw [hi] at z; exact ⟨z.1.1, z.2⟩))]
      exact r
  · obtain ⟨r, r2⟩ := m3 z hz
    have nz := nW z hz
    refine ⟨fun v v1 v2 => ?_, r2⟩
    obtain ⟨r1, r2, r3⟩ := r v v1 v2
    rw [gR_pR, if_neg (fun y => nz (by rw [hi] at y; exact y.1.1))]
    exact ⟨r1, r2, r3⟩
/-- many new names -/
def nmL (a : Na) (f : Nat) (r : Nat → Nat) : Nat → Na
  | 0 => a
  | m + 1 => nm (nmL a f r m) f m (r m)
theorem Ij_nmL (hi : Ij a) (f : Nat) (r : Nat → Nat) (m : Nat) : Ij (nmL a f r m) := by
  induction m with
  | zero => exact hi
  | succ m ih => exact Ij_nm ih f m (r m)
theorem nmL_live {f : Nat} {r : Nat → Nat} (m : Nat) (hr : ∀ i, i < m → gK h (r i) = 0) {f2 : Nat} {i2 : Int} (k : gK h (a f2 i2) ≠ 0) (n : f2 ≠ f) : nmL a f r m f2 i2 = a f2 i2 := by
  induction m with
  | zero => rfl
  | succ m ih =>
    have e := ih (fun i hi => hr i (by omega))
    show nm (nmL a f r m) f m (r m) f2 i2 = a f2 i2
    rw [nm_live (hr m (by omega)) (by rw [e]; exact k) (fun z => n z.1)]
    exact e
theorem nmL_at {f : Nat} {r : Nat → Nat} (m : Nat) (inj : ∀ i j, i < m → j < m → r i = r j → i = j) : ∀ i : Nat, i < m → nmL a f r m f i = r i := by
  induction m with
  | zero => intro i hi; omega
  | succ m ih =>
    intro i hi
    by_cases c : i = m
    · rw [c]; exact nm_self _ _ _ _
    · have e := ih (fun i j h1 h2 => inj i j (by omega) (by omega)) i (by omega)
      show nm (nmL a f r m) f m (r m) f i = r i
      unfold nm
      rw [if_neg (fun z => by omega), if_neg (fun z => by rw [e] at z; have := inj i m (by omega) (by omega) z; omega)]
      exact e
theorem sm_nw2 {q : Nat} {r : Nat → Nat} {n : Nat} {m : Int} {x : Nat} (hx : gK h x ≠ 0) (hq : gK h q = 0) (hr : ∀ i, i < n → gK h (r i) = 0) : sm h (nw2 h q r n m) x := by
  have n1 : x ≠ q := fun e => hx (by rw [e]; exact hq)
  have n2 : ¬ x ∈ (List.range n).map r := fun e => by
    obtain ⟨i, i1, i2⟩ := List.mem_map.mp e
    exact hx (by rw [← i2]; exact hr i (List.mem_range.mp i1))
  exact ⟨by rw [gK_nw2, if_neg n1, if_neg n2], by rw [gL_nw2, if_neg n1, if_neg n2], fun i => by rw [gI_nw2, if_neg (fun z => z.elim n1 n2)], fun i => by rw [gR_nw2, if_neg n1, if_neg n2], fun i => by rw [gJ_nw2, if_neg (fun z => z.elim n1 n2)]⟩
/-- a new array of arrays: named f, its first rows f2 0, f2 1, .. -/
theorem MD.new2 (hi : Ij a) (m : MD a h L R W) (f f2 : Nat) (n : Nat) (c : Nat) (len : Int) (hc : c ≤ n) (nf : f2 ≠ f) (nL : ∀ x ∈ L, x.1 ≠ f ∧ x.1 ≠ f2) (nW : ∀ z ∈ W, z.2.1 ≠ f ∧ z.2.1 ≠ f2) {G : Nat → Zh → Prop}
    (k : ∀ b g, Ij b → MD b g ((f, 14, (n : Int)) :: L) R ((f, f2, (c : Int), len) :: W) → (∀ P : Nat → Prop, ¬ P f → ¬ P f2 → Fr P a h b g) → gC g = gC h + 1 + n → gS g = gS h + n + n * len.toNat → (∀ x ∈ L, b x.1 0 = a x.1 0) → G (b f 0) g) :
    ∀ (q : Nat) (r : Nat → Nat), gK h q = 0 → (∀ i, i < n → gK h (r i) = 0 ∧ r i ≠ q) → (∀ i j, i < n → j < n → r i = r j → i = j) → G q (nw2 h q r n len) := by
  intro q r hq hr inj
  have hrc : ∀ i, i < c → gK h (r i) = 0 := fun i hi => (hr i (by omega)).1
  -- the rows first, then the outer one
  have ib := Ij_nmL hi f2 r c
  have e : nm (nmL a f2 r c) f 0 q f 0 = q := nm_self _ _ _ _
  have er : ∀ i : Nat, i < c → nm (nmL a f2 r c) f 0 q f2 i = r i := fun i hi => by
    have e1 := nmL_at (a := a) (f := f2) c (fun i j h1 h2 => inj i j (by omega) (by omega)) i hi
    unfold nm
    rw [if_neg (fun z => nf z.1), if_neg (fun z => by rw [e1] at z; exact (hr i (by omega)).2 z)]
    exact e1
  have l : Lv a h (nm (nmL a f2 r c) f 0 q) (nw2 h q r n len) (fun g2 i2 => g2 = f2 ∨ (g2 = f ∧ i2 = 0)) := fun g2 i2 k2 n2 => by
    have e1 := nmL_live (a := a) (f := f2) c hrc k2 (fun z => n2 (.inl z))
    refine ⟨?_, sm_nw2 k2 hq (fun i hi => (hr i hi).1)⟩
    rw [nm_live hq (by rw [e1]; exact k2) (fun z => n2 (.inr z))]
    exact e1
  obtain ⟨c1, c2, c3⟩ := m.carry l (fun x hx z => z.elim (fun y => (nL x hx).2 y) (fun y => (nL x hx).1 y.1)) (fun z hz v y => y.elim (fun y => (nW z hz).2 y) (fun y => (nW z hz).1 y.1))
  have := k _ (nw2 h q r n len) (Ij_nm ib f 0 q) ⟨fun x hx => ?_, fun y hy => ?_, fun z hz => ?_⟩ (fun P np np2 => l.fr (fun g2 i2 p y => y.elim (fun y => np2 (y ▸ p)) (fun y => np (y.1 ▸ p)))) (gC_nw2 ..) (gS_nw2 ..) (fun x hx => ?_)
  · rw [e] at this; exact this
  · rcases List.mem_cons.mp hx with q2 | q2
    · rw [q2]
      refine ⟨⟨?_, ?_, fun j => ?_⟩, by show (14 : Nat) ≠ 0; omega⟩
      · show gK _ (nm (nmL a f2 r c) f 0 q f 0) = 14; rw [e, gK_nw2, if_pos rfl]
      · show gL _ (nm (nmL a f2 r c) f 0 q f 0) = n; rw [e, gL_nw2, if_pos rfl]
      · show gI _ (nm (nmL a f2 r c) f 0 q f 0) j = 0; rw [e, gI_nw2, if_pos (.inl rfl)]
    · exact c1 x q2
  · obtain ⟨r, ⟨x, hx, ex⟩, ⟨x2, hx2, ex2⟩⟩ := c2 y hy
    exact ⟨r, ⟨x, List.mem_cons_of_mem _ hx, ex⟩, ⟨x2, List.mem_cons_of_mem _ hx2, ex2⟩⟩
  · rcases List.mem_cons.mp hz with q2 | q2
    · rw [q2]
      refine ⟨fun v v1 v2 => ?_, ⟨(f, 14, (n : Int)), List.mem_cons_self, rfl⟩⟩
      have v2 : v < c := v2
      have ev : v = (v.toNat : Nat) := by omega
      have e2 := er v.toNat (by omega)
      rw [← ev] at e2
      have nq : r v.toNat ≠ q := (hr v.toNat (by omega)).2
      have inr : r v.toNat ∈ (List.range n).map r := List.mem_map.mpr ⟨v.toNat, List.mem_range.mpr (by omega), rfl⟩
      show gR _ (nm (nmL a f2 r c) f 0 q f 0) v = some (nm (nmL a f2 r c) f 0 q f2 v) ∧ gK _ (nm (nmL a f2 r c) f 0 q f2 v) = 10 ∧ gL _ (nm (nmL a f2 r c) f 0 q f2 v) = len
      rw [e, e2, gR_nw2, if_pos rfl, if_pos ⟨v1, by omega⟩, gK_nw2, if_neg nq, if_pos inr, gL_nw2, if_neg nq, if_pos inr]
      exact ⟨rfl, rfl, rfl⟩
    · obtain ⟨r, ⟨x, hx, ex⟩⟩ := c3 z q2
      exact ⟨r, ⟨x, List.mem_cons_of_mem _ hx, ex⟩⟩
  · obtain ⟨o, o4⟩ := m.1 x hx
    exact (l x.1 0 (by rw [o.1]; exact o4) (fun z => z.elim (fun y => (nL x hx).2 y) (fun y => (nL x hx).1 y.1))).1
end
