/-! THE TEXT: its states, and what writes to it leave -/
/-- n more names, of signs from s on -/
def SN (S : St) (n s : Int) : St := fun k x j => if k = 5 ∧ S 6 0 0 ≤ x ∧ x < S 6 0 0 + n ∧ j = 0 then (s + (x - S 6 0 0)) % 26 else if k = 6 ∧ x = 0 ∧ j = 0 then S 6 0 0 + n else S k x j
/-- one more version: z signs, the row r -/
def TV (S : St) (z : Int) (r : Int → Int) : St := fun k i j => if k = 2 ∧ i = 0 ∧ j = 0 then S 2 0 0 + 1 else if k = 3 ∧ i = S 2 0 0 + 1 ∧ j = 0 then z else if k = 4 ∧ i = S 2 0 0 + 1 then r j else S k i j
/-- c signs cut, n put at p -/
def TX (S : St) (p c n s : Int) : St := TV (SN S n s) (S 3 (S 2 0 0) 0 - c + n) (fun j => if j < p then S 4 (S 2 0 0) j else if j < p + n then S 6 0 0 + (j - p) else S 4 (S 2 0 0) (j - n + c))
def mF (f p n : Int) : Int := if p ≤ f then f + n else f
def mT (f t p n : Int) : Int := if p ≤ f ∨ p < t then t + n else t
def ct (f p n : Int) : Int := if f ≤ p then f else if f ≤ p + n then p else f - n
/-- the anchors of the heads below i, moved -/
def MP (S : St) (i p n : Int) : St := fun k x j => if k = 13 ∧ j = 0 ∧ 0 ≤ x ∧ x < i ∧ S 11 x 0 = x then mF (S 13 x 0) p n else if k = 14 ∧ j = 0 ∧ 0 ≤ x ∧ x < i ∧ S 11 x 0 = x then mT (S 13 x 0) (S 14 x 0) p n else S k x j
def MC (S : St) (i p n : Int) : St := fun k x j => if k = 13 ∧ j = 0 ∧ 0 ≤ x ∧ x < i ∧ S 11 x 0 = x then ct (S 13 x 0) p n else if k = 14 ∧ j = 0 ∧ 0 ≤ x ∧ x < i ∧ S 11 x 0 = x then ct (S 14 x 0) p n else S k x j
def Sput (S : St) (p n s : Int) : St := MP (TX S p 0 n s) (S 7 0 0) p n
def Scut (S : St) (p n : Int) : St := MC (TX S p n 0 0) (S 7 0 0) p n
theorem SN_0 (S : St) (s : Int) : SN S 0 s = S := by
  funext k x j
  unfold SN
  rw [if_neg (by omega)]
  by_cases c : k = 6 ∧ x = 0 ∧ j = 0
  · rw [if_pos c, c.1, c.2.1, c.2.2, Int.add_zero]
  · rw [if_neg c]
theorem SN_s (S : St) (i s : Int) (hi : 0 ≤ i) : su (su (SN S i s) 5 (S 6 0 0 + i) 0 ((s + i) % 26)) 6 0 0 (S 6 0 0 + i + 1) = SN S (i + 1) s := by
  funext k x j
  unfold su SN
  by_cases c6 : k = 6
  · subst c6
    by_cases d : x = 0 ∧ j = 0
    · rw [if_pos ⟨rfl, d⟩, if_neg (by omega), if_pos ⟨rfl, d⟩]; omega
    · rw [if_neg (fun z => d z.2), if_neg (by omega), if_neg (by omega), if_neg (fun z => d z.2), if_neg (by omega), if_neg (fun z => d z.2)]
  · rw [if_neg (fun z => c6 z.1)]
    by_cases c5 : k = 5
    · subst c5
      by_cases d : x = S 6 0 0 + i ∧ j = 0
      · rw [if_pos ⟨rfl, d⟩, if_pos ⟨rfl, by omega, by omega, d.2⟩, d.1, show S 6 0 0 + i - S 6 0 0 = i by omega]
      · rw [if_neg (fun z => d z.2)]
        by_cases e : S 6 0 0 ≤ x ∧ x < S 6 0 0 + i ∧ j = 0
        · rw [if_pos ⟨rfl, e⟩, if_pos ⟨rfl, by omega, by omega, e.2.2⟩]
        · rw [if_neg (fun z => e z.2), if_neg (fun z => c6 z.1), if_neg (fun z => e ⟨z.2.1, by omega, z.2.2.2⟩), if_neg (fun z => c6 z.1)]
    · rw [if_neg (fun z => c5 z.1), if_neg (fun z => c5 z.1), if_neg (fun z => c6 z.1), if_neg (fun z => c5 z.1), if_neg (fun z => c6 z.1)]
theorem MP_0 (S : St) (p n : Int) : MP S 0 p n = S := by
  funext k x j
  unfold MP
  rw [if_neg (by omega), if_neg (by omega)]
theorem MC_0 (S : St) (p n : Int) : MC S 0 p n = S := by
  funext k x j
  unfold MC
  rw [if_neg (by omega), if_neg (by omega)]
/-- a state told by its keys -/
theorem su2_e (S : St) (T : St) (i v w : Int) (h13 : T 13 i 0 = v) (h14 : T 14 i 0 = w) (h : ∀ k x j, ¬ (k = 13 ∧ x = i ∧ j = 0) → ¬ (k = 14 ∧ x = i ∧ j = 0) → T k x j = S k x j) : su (su S 13 i 0 v) 14 i 0 w = T := by
  funext k x j
  unfold su
  by_cases c : k = 14 ∧ x = i ∧ j = 0
  · rw [if_pos c, c.1, c.2.1, c.2.2, h14]
  · rw [if_neg c]
    by_cases d : k = 13 ∧ x = i ∧ j = 0
    · rw [if_pos d, d.1, d.2.1, d.2.2, h13]
    · rw [if_neg d, h k x j d c]
theorem su_cm (S : St) (i v w : Int) : su (su S 14 i 0 w) 13 i 0 v = su (su S 13 i 0 v) 14 i 0 w := by
  funext k x j
  unfold su
  by_cases c : k = 13 ∧ x = i ∧ j = 0
  · rw [if_pos c, if_neg (by omega), if_pos c]
  · rw [if_neg c]
    by_cases d : k = 14 ∧ x = i ∧ j = 0
    · rw [if_pos d, if_pos d]
    · rw [if_neg d, if_neg d, if_neg c]
theorem MP_s (S : St) (i p n : Int) (h0 : 0 ≤ i) (hh : S 11 i 0 = i) : su (su (MP S i p n) 13 i 0 (mF (S 13 i 0) p n)) 14 i 0 (mT (S 13 i 0) (S 14 i 0) p n) = MP S (i + 1) p n := by
  refine su2_e _ _ _ _ _ ?_ ?_ (fun k x j c d => ?_)
  · unfold MP; rw [if_pos ⟨rfl, rfl, h0, by omega, hh⟩]
  · unfold MP; rw [if_neg (by omega), if_pos ⟨rfl, rfl, h0, by omega, hh⟩]
  · unfold MP
    by_cases e : k = 13 ∧ j = 0 ∧ 0 ≤ x ∧ x < i + 1 ∧ S 11 x 0 = x
    · rw [if_pos e, if_pos ⟨e.1, e.2.1, e.2.2.1, by omega, e.2.2.2.2⟩]
    · have e2 : ¬ (k = 13 ∧ j = 0 ∧ 0 ≤ x ∧ x < i ∧ S 11 x 0 = x) := fun z => e ⟨z.1, z.2.1, z.2.2.1, by omega, z.2.2.2.2⟩
      rw [if_neg e, if_neg e2]
      by_cases f : k = 14 ∧ j = 0 ∧ 0 ≤ x ∧ x < i + 1 ∧ S 11 x 0 = x
      · rw [if_pos f, if_pos ⟨f.1, f.2.1, f.2.2.1, by omega, f.2.2.2.2⟩]
      · have f2 : ¬ (k = 14 ∧ j = 0 ∧ 0 ≤ x ∧ x < i ∧ S 11 x 0 = x) := fun z => f ⟨z.1, z.2.1, z.2.2.1, by omega, z.2.2.2.2⟩
        rw [if_neg f, if_neg f2]
theorem MP_n (S : St) (i p n : Int) (hh : S 11 i 0 ≠ i) : MP S i p n = MP S (i + 1) p n := by
  funext k x j
  unfold MP
  have e : ∀ q : Nat, (k = q ∧ j = 0 ∧ 0 ≤ x ∧ x < i ∧ S 11 x 0 = x) = (k = q ∧ j = 0 ∧ 0 ≤ x ∧ x < i + 1 ∧ S 11 x 0 = x) := fun q => propext ⟨fun z => ⟨z.1, z.2.1, z.2.2.1, by omega, z.2.2.2.2⟩, fun z => ⟨z.1, z.2.1, z.2.2.1, by
    by_cases c : x = i
    · subst c; exact absurd z.2.2.2.2 hh
    · omega, z.2.2.2.2⟩⟩
  simp only [e]
theorem MC_s (S : St) (i p n : Int) (h0 : 0 ≤ i) (hh : S 11 i 0 = i) : su (su (MC S i p n) 13 i 0 (ct (S 13 i 0) p n)) 14 i 0 (ct (S 14 i 0) p n) = MC S (i + 1) p n := by
  refine su2_e _ _ _ _ _ ?_ ?_ (fun k x j c d => ?_)
  · unfold MC; rw [if_pos ⟨rfl, rfl, h0, by omega, hh⟩]
  · unfold MC; rw [if_neg (by omega), if_pos ⟨rfl, rfl, h0, by omega, hh⟩]
  · unfold MC
    by_cases e : k = 13 ∧ j = 0 ∧ 0 ≤ x ∧ x < i + 1 ∧ S 11 x 0 = x
    · rw [if_pos e, if_pos ⟨e.1, e.2.1, e.2.2.1, by omega, e.2.2.2.2⟩]
    · have e2 : ¬ (k = 13 ∧ j = 0 ∧ 0 ≤ x ∧ x < i ∧ S 11 x 0 = x) := fun z => e ⟨z.1, z.2.1, z.2.2.1, by omega, z.2.2.2.2⟩
      rw [if_neg e, if_neg e2]
      by_cases f : k = 14 ∧ j = 0 ∧ 0 ≤ x ∧ x < i + 1 ∧ S 11 x 0 = x
      · rw [if_pos f, if_pos ⟨f.1, f.2.1, f.2.2.1, by omega, f.2.2.2.2⟩]
      · have f2 : ¬ (k = 14 ∧ j = 0 ∧ 0 ≤ x ∧ x < i ∧ S 11 x 0 = x) := fun z => f ⟨z.1, z.2.1, z.2.2.1, by omega, z.2.2.2.2⟩
        rw [if_neg f, if_neg f2]
theorem MC_n (S : St) (i p n : Int) (hh : S 11 i 0 ≠ i) : MC S i p n = MC S (i + 1) p n := by
  funext k x j
  unfold MC
  have e : ∀ q : Nat, (k = q ∧ j = 0 ∧ 0 ≤ x ∧ x < i ∧ S 11 x 0 = x) = (k = q ∧ j = 0 ∧ 0 ≤ x ∧ x < i + 1 ∧ S 11 x 0 = x) := fun q => propext ⟨fun z => ⟨z.1, z.2.1, z.2.2.1, by omega, z.2.2.2.2⟩, fun z => ⟨z.1, z.2.1, z.2.2.1, by
    by_cases c : x = i
    · subst c; exact absurd z.2.2.2.2 hh
    · omega, z.2.2.2.2⟩⟩
  simp only [e]
section
variable {a : Na} {S T : St} {h g : Zh} {Q : Zp}
-- ---- the class
theorem RepC.wT (hr : RepC a S h) (t : CTx a S g) (m : ∀ f i, f ≠ 2 → f ≠ 7 → f ≠ 8 → f ≠ 11 → sm h g (a f i)) : RepC a S g :=
  .mk (hr.A.c (m _ _ (by omega) (by omega) (by omega) (by omega)) (m _ _ (by omega) (by omega) (by omega) (by omega)) rfl rfl (fun _ => rfl)) t (hr.B.c (m _ _ (by omega) (by omega) (by omega) (by omega)).1 (m _ _ (by omega) (by omega) (by omega) (by omega)).2.1 (m _ _ (by omega) (by omega) (by omega) (by omega)).1 (m _ _ (by omega) (by omega) (by omega) (by omega)).2.1)
    (fun k hk => (hr.N k hk).c ((m _ _ (by omega) (by omega) (by omega) (by omega)).2.2.2.1 _) (m _ _ (by omega) (by omega) (by omega) (by omega)) rfl rfl rfl (fun _ => rfl) (fun _ => rfl) (fun _ => rfl) rfl)
    (fun k hk => (hr.H k hk).c (m _ _ (by omega) (by omega) (by omega) (by omega)) (m _ _ (by omega) (by omega) (by omega) (by omega)) (m _ _ (by omega) (by omega) (by omega) (by omega)) rfl rfl rfl rfl rfl rfl rfl rfl (fun _ => rfl))
    (hr.E.c (m _ _ (by omega) (by omega) (by omega) (by omega)) (m _ _ (by omega) (by omega) (by omega) (by omega)) (fun _ => m _ _ (by omega) (by omega) (by omega) (by omega)) rfl (fun _ _ => rfl))
/-- a text of another state: all other keys the same -/
theorem RepC.wT2 (hr : RepC a S h) (t : CTx a T g) (m : ∀ f i, f ≠ 2 → f ≠ 7 → f ≠ 8 → f ≠ 11 → sm h g (a f i)) (e : ∀ k i j, k ≠ 2 → k ≠ 3 → k ≠ 4 → k ≠ 5 → k ≠ 6 → T k i j = S k i j) : RepC a T g := by
  have e0 : ∀ k i j, k ≠ 2 → k ≠ 3 → k ≠ 4 → k ≠ 5 → k ≠ 6 → T k i j = S k i j := e
  have en : ∀ k, nt T k ↔ nt S k := fun k => by unfold nt; rw [e 7 0 0 (by omega) (by omega) (by omega) (by omega) (by omega)]
  have eh : ∀ k, hd T k ↔ hd S k := fun k => by unfold hd; rw [en, e 11 k 0 (by omega) (by omega) (by omega) (by omega) (by omega)]
  refine .mk (hr.A.c (m _ _ (by omega) (by omega) (by omega) (by omega)) (m _ _ (by omega) (by omega) (by omega) (by omega)) (e _ _ _ (by omega) (by omega) (by omega) (by omega) (by omega)) (e _ _ _ (by omega) (by omega) (by omega) (by omega) (by omega)) (fun _ => (e _ _ _ (by omega) (by omega) (by omega) (by omega) (by omega)))) t (hr.B.c (m _ _ (by omega) (by omega) (by omega) (by omega)).1 (m _ _ (by omega) (by omega) (by omega) (by omega)).2.1 (m _ _ (by omega) (by omega) (by omega) (by omega)).1 (m _ _ (by omega) (by omega) (by omega) (by omega)).2.1) (fun k hk => ?_) (fun k hk => ?_)
    (hr.E.c (m _ _ (by omega) (by omega) (by omega) (by omega)) (m _ _ (by omega) (by omega) (by omega) (by omega)) (fun _ => m _ _ (by omega) (by omega) (by omega) (by omega)) (e _ _ _ (by omega) (by omega) (by omega) (by omega) (by omega)) (fun _ _ => (e _ _ _ (by omega) (by omega) (by omega) (by omega) (by omega))))
  · rw [en] at hk
    refine (hr.N k hk).c ((m _ _ (by omega) (by omega) (by omega) (by omega)).2.2.2.1 _) (m _ _ (by omega) (by omega) (by omega) (by omega)) ?_ ?_ ?_ ?_ ?_ ?_ ?_ <;> first | exact e _ _ _ (by omega) (by omega) (by omega) (by omega) (by omega) | exact fun _ => e _ _ _ (by omega) (by omega) (by omega) (by omega) (by omega)
  · rw [eh] at hk
    refine (hr.H k hk).c (m _ _ (by omega) (by omega) (by omega) (by omega)) (m _ _ (by omega) (by omega) (by omega) (by omega)) (m _ _ (by omega) (by omega) (by omega) (by omega)) ?_ ?_ ?_ ?_ ?_ ?_ ?_ ?_ ?_ <;> first | exact e _ _ _ (by omega) (by omega) (by omega) (by omega) (by omega) | exact fun _ => e _ _ _ (by omega) (by omega) (by omega) (by omega) (by omega)
/-- behind the names that are -/
theorem RepC.wSig (hi : Ij a) (hr : RepC a S h) (k x : Int) (hk : S 6 0 0 ≤ k) : RepC a S (pI h (a 8 0) k x) := by
  refine hr.wT ?_ (fun f i _ _ _ _ => smI hi (by omega))
  obtain ⟨t0, t1, t2, t3, t4, t5, t6, t7, t8, t9, t10, t11, t12, t13, t14, t15, t16, t17⟩ := hr.Tx
  refine ⟨t0, (gI_pI ..).trans ((if_neg (fun z => by rw [hi] at z; omega)).trans t1), (gI_pI ..).trans ((if_neg (fun z => by rw [hi] at z; omega)).trans t2), t3, t4, t5, t6, t7, t8, t9, t10, fun v p h1 h2 h3 h4 h5 => (gI_pI ..).trans ((if_neg (fun z => by rw [hi] at z; omega)).trans (t11 v p h1 h2 h3 h4 h5)), t12, t13, fun v h1 h2 => (gI_pI ..).trans ((if_neg (fun z => by rw [hi] at z; omega)).trans (t14 v h1 h2)), t15, t16, fun n h1 h2 => (gI_pI ..).trans ((if_neg (fun z => by omega)).trans (t17 n h1 h2))⟩
/-- in a row that isn't a version's -/
theorem RepC.wRow (hi : Ij a) (hr : RepC a S h) (v k x : Int) (hv : S 2 0 0 < v) : RepC a S (pI h (a 11 v) k x) := by
  refine hr.wT ?_ (fun f i _ _ _ _ => smI hi (by omega))
  obtain ⟨t0, t1, t2, t3, t4, t5, t6, t7, t8, t9, t10, t11, t12, t13, t14, t15, t16, t17⟩ := hr.Tx
  refine ⟨t0, (gI_pI ..).trans ((if_neg (fun z => by rw [hi] at z; omega)).trans t1), (gI_pI ..).trans ((if_neg (fun z => by rw [hi] at z; omega)).trans t2), t3, t4, t5, t6, t7, t8, t9, t10, fun v p h1 h2 h3 h4 h5 => (gI_pI ..).trans ((if_neg (fun z => by rw [hi] at z; omega)).trans (t11 v p h1 h2 h3 h4 h5)), t12, t13, fun v h1 h2 => (gI_pI ..).trans ((if_neg (fun z => by rw [hi] at z; omega)).trans (t14 v h1 h2)), t15, t16, fun n h1 h2 => (gI_pI ..).trans ((if_neg (fun z => by rw [hi] at z; omega)).trans (t17 n h1 h2))⟩
theorem RepC.wCpy (hi : Ij a) (hr : RepC a S h) (s : Nat) (v sp dp n : Int) (hv : S 2 0 0 < v) : RepC a S (cpy h s sp (a 11 v) dp n) := by
  refine hr.wT ?_ (fun f i _ _ _ _ => smC hi (by omega))
  obtain ⟨t0, t1, t2, t3, t4, t5, t6, t7, t8, t9, t10, t11, t12, t13, t14, t15, t16, t17⟩ := hr.Tx
  refine ⟨t0, (gI_cpy ..).trans ((if_neg (fun z => by rw [hi] at z; omega)).trans t1), (gI_cpy ..).trans ((if_neg (fun z => by rw [hi] at z; omega)).trans t2), t3, t4, t5, t6, t7, t8, t9, t10, fun v p h1 h2 h3 h4 h5 => (gI_cpy ..).trans ((if_neg (fun z => by rw [hi] at z; omega)).trans (t11 v p h1 h2 h3 h4 h5)), t12, t13, fun v h1 h2 => (gI_cpy ..).trans ((if_neg (fun z => by rw [hi] at z; omega)).trans (t14 v h1 h2)), t15, t16, fun n h1 h2 => (gI_cpy ..).trans ((if_neg (fun z => by rw [hi] at z; omega)).trans (t17 n h1 h2))⟩
/-- a size that isn't a version's -/
theorem RepC.wSiz (hi : Ij a) (hr : RepC a S h) (v x : Int) (hv : S 2 0 0 < v) : RepC a S (pI h (a 7 0) v x) := by
  refine hr.wT ?_ (fun f i _ _ _ _ => smI hi (by omega))
  obtain ⟨t0, t1, t2, t3, t4, t5, t6, t7, t8, t9, t10, t11, t12, t13, t14, t15, t16, t17⟩ := hr.Tx
  refine ⟨t0, (gI_pI ..).trans ((if_neg (fun z => by rw [hi] at z; omega)).trans t1), (gI_pI ..).trans ((if_neg (fun z => by rw [hi] at z; omega)).trans t2), t3, t4, t5, t6, t7, t8, t9, t10, fun v p h1 h2 h3 h4 h5 => (gI_pI ..).trans ((if_neg (fun z => by rw [hi] at z; omega)).trans (t11 v p h1 h2 h3 h4 h5)), t12, t13, fun w h1 h2 => (gI_pI ..).trans ((if_neg (fun z => by omega)).trans (t14 w h1 h2)), t15, t16, fun n h1 h2 => (gI_pI ..).trans ((if_neg (fun z => by rw [hi] at z; omega)).trans (t17 n h1 h2))⟩
/-- one more name -/
theorem RepC.wName (hi : Ij a) (hr : RepC a S h) (v : Int) (hv : gI h (a 8 0) (S 6 0 0) = v) : RepC a (su (su S 5 (S 6 0 0) 0 v) 6 0 0 (S 6 0 0 + 1)) (pI h (a 2 0) 3 (S 6 0 0 + 1)) := by
  refine hr.wT2 ?_ (fun f i _ _ _ _ => smI hi (by omega)) (fun k i j h2 h3 h4 h5 h6 => by rw [su_k h6, su_k h5])
  obtain ⟨t0, t1, t2, t3, t4, t5, t6, t7, t8, t9, t10, t11, t12, t13, t14, t15, t16, t17⟩ := hr.Tx
  refine ⟨t0, (gI_pI ..).trans (if_pos ⟨rfl, rfl⟩), (gI_pI ..).trans ((if_neg (fun z => by omega)).trans t2), t3, t4, t5, t6, t7, t8, t9, t10, fun v p h1 h2 h3 h4 h5 => (gI_pI ..).trans ((if_neg (fun z => by rw [hi] at z; omega)).trans (t11 v p h1 h2 h3 h4 h5)), t12, t13, fun v h1 h2 => (gI_pI ..).trans ((if_neg (fun z => by rw [hi] at z; omega)).trans (t14 v h1 h2)), t15, t16, fun n h1 h2 => (gI_pI ..).trans ((if_neg (fun z => by rw [hi] at z; omega)).trans ?_)⟩
  rw [su_k (by omega), su_i]
  have h2 : n < S 6 0 0 + 1 := h2
  by_cases c : n = S 6 0 0
  · rw [if_pos ⟨c, rfl⟩, c, hv]
  · rw [if_neg (fun z => c z.1)]
    exact t17 n h1 (by omega)
/-- one more version -/
theorem RepC.wVer (hi : Ij a) (hr : RepC a S h) (z : Int) (r : Int → Int) (h7 : gI h (a 7 0) (S 2 0 0 + 1) = z) (h11 : ∀ j, 0 ≤ j → j < z → gI h (a 11 (S 2 0 0 + 1)) j = r j) : RepC a (TV S z r) (pI h (a 2 0) 4 (S 2 0 0 + 1)) := by
  refine hr.wT2 ?_ (fun f i _ _ _ _ => smI hi (by omega)) (fun k i j h2 h3 h4 h5 h6 => by unfold TV; rw [if_neg (fun z => h2 z.1), if_neg (fun z => h3 z.1), if_neg (fun z => h4 z.1)])
  obtain ⟨t0, t1, t2, t3, t4, t5, t6, t7, t8, t9, t10, t11, t12, t13, t14, t15, t16, t17⟩ := hr.Tx
  refine ⟨t0, (gI_pI ..).trans ((if_neg (fun z => by omega)).trans t1), (gI_pI ..).trans ((if_pos ⟨rfl, rfl⟩)), t3, t4, t5, t6, t7, t8, t9, t10, fun v p h1 h2 h3 h4 h5 => (gI_pI ..).trans ((if_neg (fun z => by rw [hi] at z; omega)).trans ?_), t12, t13, fun v h1 h2 => (gI_pI ..).trans ((if_neg (fun z => by rw [hi] at z; omega)).trans ?_), t15, t16, fun n h1 h2 => (gI_pI ..).trans ((if_neg (fun z => by rw [hi] at z; omega)).trans (t17 n h1 h2))⟩
  · have h3 : v ≤ S 2 0 0 + 1 := h3
    unfold TV at h5 ⊢
    rw [if_neg (by omega)] at h5
    rw [if_neg (by omega), if_neg (by omega)]
    by_cases c : v = S 2 0 0 + 1
    · rw [if_pos ⟨rfl, c, rfl⟩] at h5
      rw [if_pos ⟨rfl, c⟩, c]
      exact h11 p h4 h5
    · rw [if_neg (fun z => c z.2.1), if_neg (by omega)] at h5
      rw [if_neg (fun z => c z.2)]
      exact t11 v p h1 h2 (by omega) h4 h5
  · have h2 : v ≤ S 2 0 0 + 1 := h2
    unfold TV
    rw [if_neg (by omega)]
    by_cases c : v = S 2 0 0 + 1
    · rw [if_pos ⟨rfl, c, rfl⟩, c, h7]
    · rw [if_neg (fun z => c z.2.1), if_neg (by omega)]
      exact t14 v h1 (by omega)
end
