theorem gd_mo {b : Bool} {P P2 : Prop} (h : P → P2) (k : gd b P) : gd b P2 := by
  cases b
  · exact k
  · exact h k
theorem mo_oLdI (k n : Nat) : OpMo (oLdI k n) := by
  intro X Y hXY hY m pc ls st h Q Q2 hQ k
  unfold oLdI at k ⊢
  first
    | exact mo_id hXY hY hQ k
    | (split at k <;> first
        | exact k.elim
        | exact ⟨k.1, mo_id hXY hY hQ k.2⟩
        | exact gd_mo (fun k => mo_id hXY hY hQ k) k
        | exact gd_mo (fun k => ⟨k.1, mo_id hXY hY hQ k.2⟩) k
        | exact mo_id hXY hY hQ k
        | exact br_mo (mo_id hXY hY hQ) (mo_id hXY hY hQ) k
        | exact hQ _ _ k
        | exact ⟨k.1, hQ _ _ k.2⟩)
theorem mo_oLdL (k n : Nat) : OpMo (oLdL k n) := by
  intro X Y hXY hY m pc ls st h Q Q2 hQ k
  unfold oLdL at k ⊢
  first
    | exact mo_id hXY hY hQ k
    | (split at k <;> first
        | exact k.elim
        | exact ⟨k.1, mo_id hXY hY hQ k.2⟩
        | exact gd_mo (fun k => mo_id hXY hY hQ k) k
        | exact gd_mo (fun k => ⟨k.1, mo_id hXY hY hQ k.2⟩) k
        | exact mo_id hXY hY hQ k
        | exact br_mo (mo_id hXY hY hQ) (mo_id hXY hY hQ) k
        | exact hQ _ _ k
        | exact ⟨k.1, hQ _ _ k.2⟩)
theorem mo_oLdD (k n : Nat) : OpMo (oLdD k n) := by
  intro X Y hXY hY m pc ls st h Q Q2 hQ k
  unfold oLdD at k ⊢
  first
    | exact mo_id hXY hY hQ k
    | (split at k <;> first
        | exact k.elim
        | exact ⟨k.1, mo_id hXY hY hQ k.2⟩
        | exact gd_mo (fun k => mo_id hXY hY hQ k) k
        | exact gd_mo (fun k => ⟨k.1, mo_id hXY hY hQ k.2⟩) k
        | exact mo_id hXY hY hQ k
        | exact br_mo (mo_id hXY hY hQ) (mo_id hXY hY hQ) k
        | exact hQ _ _ k
        | exact ⟨k.1, hQ _ _ k.2⟩)
theorem mo_oLdR (k n : Nat) : OpMo (oLdR k n) := by
  intro X Y hXY hY m pc ls st h Q Q2 hQ k
  unfold oLdR at k ⊢
  first
    | exact mo_id hXY hY hQ k
    | (split at k <;> first
        | exact k.elim
        | exact ⟨k.1, mo_id hXY hY hQ k.2⟩
        | exact gd_mo (fun k => mo_id hXY hY hQ k) k
        | exact gd_mo (fun k => ⟨k.1, mo_id hXY hY hQ k.2⟩) k
        | exact mo_id hXY hY hQ k
        | exact br_mo (mo_id hXY hY hQ) (mo_id hXY hY hQ) k
        | exact hQ _ _ k
        | exact ⟨k.1, hQ _ _ k.2⟩)
theorem mo_oStI (k n : Nat) : OpMo (oStI k n) := by
  intro X Y hXY hY m pc ls st h Q Q2 hQ k
  unfold oStI at k ⊢
  first
    | exact mo_id hXY hY hQ k
    | (split at k <;> first
        | exact k.elim
        | exact ⟨k.1, mo_id hXY hY hQ k.2⟩
        | exact gd_mo (fun k => mo_id hXY hY hQ k) k
        | exact gd_mo (fun k => ⟨k.1, mo_id hXY hY hQ k.2⟩) k
        | exact mo_id hXY hY hQ k
        | exact br_mo (mo_id hXY hY hQ) (mo_id hXY hY hQ) k
        | exact hQ _ _ k
        | exact ⟨k.1, hQ _ _ k.2⟩)
theorem mo_oStL (k n : Nat) : OpMo (oStL k n) := by
  intro X Y hXY hY m pc ls st h Q Q2 hQ k
  unfold oStL at k ⊢
  first
    | exact mo_id hXY hY hQ k
    | (split at k <;> first
        | exact k.elim
        | exact ⟨k.1, mo_id hXY hY hQ k.2⟩
        | exact gd_mo (fun k => mo_id hXY hY hQ k) k
        | exact gd_mo (fun k => ⟨k.1, mo_id hXY hY hQ k.2⟩) k
        | exact mo_id hXY hY hQ k
        | exact br_mo (mo_id hXY hY hQ) (mo_id hXY hY hQ) k
        | exact hQ _ _ k
        | exact ⟨k.1, hQ _ _ k.2⟩)
theorem mo_oStD (k n : Nat) : OpMo (oStD k n) := by
  intro X Y hXY hY m pc ls st h Q Q2 hQ k
  unfold oStD at k ⊢
  first
    | exact mo_id hXY hY hQ k
    | (split at k <;> first
        | exact k.elim
        | exact ⟨k.1, mo_id hXY hY hQ k.2⟩
        | exact gd_mo (fun k => mo_id hXY hY hQ k) k
        | exact gd_mo (fun k => ⟨k.1, mo_id hXY hY hQ k.2⟩) k
        | exact mo_id hXY hY hQ k
        | exact br_mo (mo_id hXY hY hQ) (mo_id hXY hY hQ) k
        | exact hQ _ _ k
        | exact ⟨k.1, hQ _ _ k.2⟩)
theorem mo_oStR (k n : Nat) : OpMo (oStR k n) := by
  intro X Y hXY hY m pc ls st h Q Q2 hQ k
  unfold oStR at k ⊢
  first
    | exact mo_id hXY hY hQ k
    | (split at k <;> first
        | exact k.elim
        | exact ⟨k.1, mo_id hXY hY hQ k.2⟩
        | exact gd_mo (fun k => mo_id hXY hY hQ k) k
        | exact gd_mo (fun k => ⟨k.1, mo_id hXY hY hQ k.2⟩) k
        | exact mo_id hXY hY hQ k
        | exact br_mo (mo_id hXY hY hQ) (mo_id hXY hY hQ) k
        | exact hQ _ _ k
        | exact ⟨k.1, hQ _ _ k.2⟩)
theorem mo_oCI (x : Int) (n : Nat) : OpMo (oCI x n) := by
  intro X Y hXY hY m pc ls st h Q Q2 hQ k
  unfold oCI at k ⊢
  first
    | exact mo_id hXY hY hQ k
    | (split at k <;> first
        | exact k.elim
        | exact ⟨k.1, mo_id hXY hY hQ k.2⟩
        | exact gd_mo (fun k => mo_id hXY hY hQ k) k
        | exact gd_mo (fun k => ⟨k.1, mo_id hXY hY hQ k.2⟩) k
        | exact mo_id hXY hY hQ k
        | exact br_mo (mo_id hXY hY hQ) (mo_id hXY hY hQ) k
        | exact hQ _ _ k
        | exact ⟨k.1, hQ _ _ k.2⟩)
theorem mo_oCL (x : Int64) (n : Nat) : OpMo (oCL x n) := by
  intro X Y hXY hY m pc ls st h Q Q2 hQ k
  unfold oCL at k ⊢
  first
    | exact mo_id hXY hY hQ k
    | (split at k <;> first
        | exact k.elim
        | exact ⟨k.1, mo_id hXY hY hQ k.2⟩
        | exact gd_mo (fun k => mo_id hXY hY hQ k) k
        | exact gd_mo (fun k => ⟨k.1, mo_id hXY hY hQ k.2⟩) k
        | exact mo_id hXY hY hQ k
        | exact br_mo (mo_id hXY hY hQ) (mo_id hXY hY hQ) k
        | exact hQ _ _ k
        | exact ⟨k.1, hQ _ _ k.2⟩)
theorem mo_oCD : OpMo (oCD) := by
  intro X Y hXY hY m pc ls st h Q Q2 hQ k
  unfold oCD at k ⊢
  first
    | exact mo_id hXY hY hQ k
    | (split at k <;> first
        | exact k.elim
        | exact ⟨k.1, mo_id hXY hY hQ k.2⟩
        | exact gd_mo (fun k => mo_id hXY hY hQ k) k
        | exact gd_mo (fun k => ⟨k.1, mo_id hXY hY hQ k.2⟩) k
        | exact mo_id hXY hY hQ k
        | exact br_mo (mo_id hXY hY hQ) (mo_id hXY hY hQ) k
        | exact hQ _ _ k
        | exact ⟨k.1, hQ _ _ k.2⟩)
theorem mo_oNull : OpMo (oNull) := by
  intro X Y hXY hY m pc ls st h Q Q2 hQ k
  unfold oNull at k ⊢
  first
    | exact mo_id hXY hY hQ k
    | (split at k <;> first
        | exact k.elim
        | exact ⟨k.1, mo_id hXY hY hQ k.2⟩
        | exact gd_mo (fun k => mo_id hXY hY hQ k) k
        | exact gd_mo (fun k => ⟨k.1, mo_id hXY hY hQ k.2⟩) k
        | exact mo_id hXY hY hQ k
        | exact br_mo (mo_id hXY hY hQ) (mo_id hXY hY hQ) k
        | exact hQ _ _ k
        | exact ⟨k.1, hQ _ _ k.2⟩)
theorem mo_oInc (k : Nat) (d : Int) : OpMo (oInc k d) := by
  intro X Y hXY hY m pc ls st h Q Q2 hQ k
  unfold oInc at k ⊢
  first
    | exact mo_id hXY hY hQ k
    | (split at k <;> first
        | exact k.elim
        | exact ⟨k.1, mo_id hXY hY hQ k.2⟩
        | exact gd_mo (fun k => mo_id hXY hY hQ k) k
        | exact gd_mo (fun k => ⟨k.1, mo_id hXY hY hQ k.2⟩) k
        | exact mo_id hXY hY hQ k
        | exact br_mo (mo_id hXY hY hQ) (mo_id hXY hY hQ) k
        | exact hQ _ _ k
        | exact ⟨k.1, hQ _ _ k.2⟩)
theorem mo_oAdd : OpMo (oAdd) := by
  intro X Y hXY hY m pc ls st h Q Q2 hQ k
  unfold oAdd at k ⊢
  first
    | exact mo_id hXY hY hQ k
    | (split at k <;> first
        | exact k.elim
        | exact ⟨k.1, mo_id hXY hY hQ k.2⟩
        | exact gd_mo (fun k => mo_id hXY hY hQ k) k
        | exact gd_mo (fun k => ⟨k.1, mo_id hXY hY hQ k.2⟩) k
        | exact mo_id hXY hY hQ k
        | exact br_mo (mo_id hXY hY hQ) (mo_id hXY hY hQ) k
        | exact hQ _ _ k
        | exact ⟨k.1, hQ _ _ k.2⟩)
theorem mo_oSub : OpMo (oSub) := by
  intro X Y hXY hY m pc ls st h Q Q2 hQ k
  unfold oSub at k ⊢
  first
    | exact mo_id hXY hY hQ k
    | (split at k <;> first
        | exact k.elim
        | exact ⟨k.1, mo_id hXY hY hQ k.2⟩
        | exact gd_mo (fun k => mo_id hXY hY hQ k) k
        | exact gd_mo (fun k => ⟨k.1, mo_id hXY hY hQ k.2⟩) k
        | exact mo_id hXY hY hQ k
        | exact br_mo (mo_id hXY hY hQ) (mo_id hXY hY hQ) k
        | exact hQ _ _ k
        | exact ⟨k.1, hQ _ _ k.2⟩)
theorem mo_oMul : OpMo (oMul) := by
  intro X Y hXY hY m pc ls st h Q Q2 hQ k
  unfold oMul at k ⊢
  first
    | exact mo_id hXY hY hQ k
    | (split at k <;> first
        | exact k.elim
        | exact ⟨k.1, mo_id hXY hY hQ k.2⟩
        | exact gd_mo (fun k => mo_id hXY hY hQ k) k
        | exact gd_mo (fun k => ⟨k.1, mo_id hXY hY hQ k.2⟩) k
        | exact mo_id hXY hY hQ k
        | exact br_mo (mo_id hXY hY hQ) (mo_id hXY hY hQ) k
        | exact hQ _ _ k
        | exact ⟨k.1, hQ _ _ k.2⟩)
theorem mo_oDiv : OpMo (oDiv) := by
  intro X Y hXY hY m pc ls st h Q Q2 hQ k
  unfold oDiv at k ⊢
  first
    | exact mo_id hXY hY hQ k
    | (split at k <;> first
        | exact k.elim
        | exact ⟨k.1, mo_id hXY hY hQ k.2⟩
        | exact gd_mo (fun k => mo_id hXY hY hQ k) k
        | exact gd_mo (fun k => ⟨k.1, mo_id hXY hY hQ k.2⟩) k
        | exact mo_id hXY hY hQ k
        | exact br_mo (mo_id hXY hY hQ) (mo_id hXY hY hQ) k
        | exact hQ _ _ k
        | exact ⟨k.1, hQ _ _ k.2⟩)
theorem mo_oRem : OpMo (oRem) := by
  intro X Y hXY hY m pc ls st h Q Q2 hQ k
  unfold oRem at k ⊢
  first
    | exact mo_id hXY hY hQ k
    | (split at k <;> first
        | exact k.elim
        | exact ⟨k.1, mo_id hXY hY hQ k.2⟩
        | exact gd_mo (fun k => mo_id hXY hY hQ k) k
        | exact gd_mo (fun k => ⟨k.1, mo_id hXY hY hQ k.2⟩) k
        | exact mo_id hXY hY hQ k
        | exact br_mo (mo_id hXY hY hQ) (mo_id hXY hY hQ) k
        | exact hQ _ _ k
        | exact ⟨k.1, hQ _ _ k.2⟩)
theorem mo_oAnd : OpMo (oAnd) := by
  intro X Y hXY hY m pc ls st h Q Q2 hQ k
  unfold oAnd at k ⊢
  first
    | exact mo_id hXY hY hQ k
    | (split at k <;> first
        | exact k.elim
        | exact ⟨k.1, mo_id hXY hY hQ k.2⟩
        | exact gd_mo (fun k => mo_id hXY hY hQ k) k
        | exact gd_mo (fun k => ⟨k.1, mo_id hXY hY hQ k.2⟩) k
        | exact mo_id hXY hY hQ k
        | exact br_mo (mo_id hXY hY hQ) (mo_id hXY hY hQ) k
        | exact hQ _ _ k
        | exact ⟨k.1, hQ _ _ k.2⟩)
theorem mo_oI2L : OpMo (oI2L) := by
  intro X Y hXY hY m pc ls st h Q Q2 hQ k
  unfold oI2L at k ⊢
  first
    | exact mo_id hXY hY hQ k
    | (split at k <;> first
        | exact k.elim
        | exact ⟨k.1, mo_id hXY hY hQ k.2⟩
        | exact gd_mo (fun k => mo_id hXY hY hQ k) k
        | exact gd_mo (fun k => ⟨k.1, mo_id hXY hY hQ k.2⟩) k
        | exact mo_id hXY hY hQ k
        | exact br_mo (mo_id hXY hY hQ) (mo_id hXY hY hQ) k
        | exact hQ _ _ k
        | exact ⟨k.1, hQ _ _ k.2⟩)
theorem mo_oLAdd : OpMo (oLAdd) := by
  intro X Y hXY hY m pc ls st h Q Q2 hQ k
  unfold oLAdd at k ⊢
  first
    | exact mo_id hXY hY hQ k
    | (split at k <;> first
        | exact k.elim
        | exact ⟨k.1, mo_id hXY hY hQ k.2⟩
        | exact gd_mo (fun k => mo_id hXY hY hQ k) k
        | exact gd_mo (fun k => ⟨k.1, mo_id hXY hY hQ k.2⟩) k
        | exact mo_id hXY hY hQ k
        | exact br_mo (mo_id hXY hY hQ) (mo_id hXY hY hQ) k
        | exact hQ _ _ k
        | exact ⟨k.1, hQ _ _ k.2⟩)
theorem mo_oLMul : OpMo (oLMul) := by
  intro X Y hXY hY m pc ls st h Q Q2 hQ k
  unfold oLMul at k ⊢
  first
    | exact mo_id hXY hY hQ k
    | (split at k <;> first
        | exact k.elim
        | exact ⟨k.1, mo_id hXY hY hQ k.2⟩
        | exact gd_mo (fun k => mo_id hXY hY hQ k) k
        | exact gd_mo (fun k => ⟨k.1, mo_id hXY hY hQ k.2⟩) k
        | exact mo_id hXY hY hQ k
        | exact br_mo (mo_id hXY hY hQ) (mo_id hXY hY hQ) k
        | exact hQ _ _ k
        | exact ⟨k.1, hQ _ _ k.2⟩)
theorem mo_oLCmp : OpMo (oLCmp) := by
  intro X Y hXY hY m pc ls st h Q Q2 hQ k
  unfold oLCmp at k ⊢
  first
    | exact mo_id hXY hY hQ k
    | (split at k <;> first
        | exact k.elim
        | exact ⟨k.1, mo_id hXY hY hQ k.2⟩
        | exact gd_mo (fun k => mo_id hXY hY hQ k) k
        | exact gd_mo (fun k => ⟨k.1, mo_id hXY hY hQ k.2⟩) k
        | exact mo_id hXY hY hQ k
        | exact br_mo (mo_id hXY hY hQ) (mo_id hXY hY hQ) k
        | exact hQ _ _ k
        | exact ⟨k.1, hQ _ _ k.2⟩)
theorem mo_oI2D : OpMo (oI2D) := by
  intro X Y hXY hY m pc ls st h Q Q2 hQ k
  unfold oI2D at k ⊢
  first
    | exact mo_id hXY hY hQ k
    | (split at k <;> first
        | exact k.elim
        | exact ⟨k.1, mo_id hXY hY hQ k.2⟩
        | exact gd_mo (fun k => mo_id hXY hY hQ k) k
        | exact gd_mo (fun k => ⟨k.1, mo_id hXY hY hQ k.2⟩) k
        | exact mo_id hXY hY hQ k
        | exact br_mo (mo_id hXY hY hQ) (mo_id hXY hY hQ) k
        | exact hQ _ _ k
        | exact ⟨k.1, hQ _ _ k.2⟩)
theorem mo_oDDiv : OpMo (oDDiv) := by
  intro X Y hXY hY m pc ls st h Q Q2 hQ k
  unfold oDDiv at k ⊢
  first
    | exact mo_id hXY hY hQ k
    | (split at k <;> first
        | exact k.elim
        | exact ⟨k.1, mo_id hXY hY hQ k.2⟩
        | exact gd_mo (fun k => mo_id hXY hY hQ k) k
        | exact gd_mo (fun k => ⟨k.1, mo_id hXY hY hQ k.2⟩) k
        | exact mo_id hXY hY hQ k
        | exact br_mo (mo_id hXY hY hQ) (mo_id hXY hY hQ) k
        | exact hQ _ _ k
        | exact ⟨k.1, hQ _ _ k.2⟩)
theorem mo_oDup : OpMo (oDup) := by
  intro X Y hXY hY m pc ls st h Q Q2 hQ k
  unfold oDup at k ⊢
  first
    | exact mo_id hXY hY hQ k
    | (split at k <;> first
        | exact k.elim
        | exact ⟨k.1, mo_id hXY hY hQ k.2⟩
        | exact gd_mo (fun k => mo_id hXY hY hQ k) k
        | exact gd_mo (fun k => ⟨k.1, mo_id hXY hY hQ k.2⟩) k
        | exact mo_id hXY hY hQ k
        | exact br_mo (mo_id hXY hY hQ) (mo_id hXY hY hQ) k
        | exact hQ _ _ k
        | exact ⟨k.1, hQ _ _ k.2⟩)
theorem mo_oDupX1 : OpMo (oDupX1) := by
  intro X Y hXY hY m pc ls st h Q Q2 hQ k
  unfold oDupX1 at k ⊢
  first
    | exact mo_id hXY hY hQ k
    | (split at k <;> first
        | exact k.elim
        | exact ⟨k.1, mo_id hXY hY hQ k.2⟩
        | exact gd_mo (fun k => mo_id hXY hY hQ k) k
        | exact gd_mo (fun k => ⟨k.1, mo_id hXY hY hQ k.2⟩) k
        | exact mo_id hXY hY hQ k
        | exact br_mo (mo_id hXY hY hQ) (mo_id hXY hY hQ) k
        | exact hQ _ _ k
        | exact ⟨k.1, hQ _ _ k.2⟩)
theorem mo_oDup2 : OpMo (oDup2) := by
  intro X Y hXY hY m pc ls st h Q Q2 hQ k
  unfold oDup2 at k ⊢
  first
    | exact mo_id hXY hY hQ k
    | (split at k <;> first
        | exact k.elim
        | exact ⟨k.1, mo_id hXY hY hQ k.2⟩
        | exact gd_mo (fun k => mo_id hXY hY hQ k) k
        | exact gd_mo (fun k => ⟨k.1, mo_id hXY hY hQ k.2⟩) k
        | exact mo_id hXY hY hQ k
        | exact br_mo (mo_id hXY hY hQ) (mo_id hXY hY hQ) k
        | exact hQ _ _ k
        | exact ⟨k.1, hQ _ _ k.2⟩)
theorem mo_oALdJ : OpMo (oALdJ) := by
  intro X Y hXY hY m pc ls st h Q Q2 hQ k
  unfold oALdJ at k ⊢
  first
    | exact mo_id hXY hY hQ k
    | (split at k <;> first
        | exact k.elim
        | exact ⟨k.1, mo_id hXY hY hQ k.2⟩
        | exact gd_mo (fun k => mo_id hXY hY hQ k) k
        | exact gd_mo (fun k => ⟨k.1, mo_id hXY hY hQ k.2⟩) k
        | exact mo_id hXY hY hQ k
        | exact br_mo (mo_id hXY hY hQ) (mo_id hXY hY hQ) k
        | exact hQ _ _ k
        | exact ⟨k.1, hQ _ _ k.2⟩)
theorem mo_oAStI : OpMo (oAStI) := by
  intro X Y hXY hY m pc ls st h Q Q2 hQ k
  unfold oAStI at k ⊢
  first
    | exact mo_id hXY hY hQ k
    | (split at k <;> first
        | exact k.elim
        | exact ⟨k.1, mo_id hXY hY hQ k.2⟩
        | exact gd_mo (fun k => mo_id hXY hY hQ k) k
        | exact gd_mo (fun k => ⟨k.1, mo_id hXY hY hQ k.2⟩) k
        | exact mo_id hXY hY hQ k
        | exact br_mo (mo_id hXY hY hQ) (mo_id hXY hY hQ) k
        | exact hQ _ _ k
        | exact ⟨k.1, hQ _ _ k.2⟩)
theorem mo_oAStZ : OpMo (oAStZ) := by
  intro X Y hXY hY m pc ls st h Q Q2 hQ k
  unfold oAStZ at k ⊢
  first
    | exact mo_id hXY hY hQ k
    | (split at k <;> first
        | exact k.elim
        | exact ⟨k.1, mo_id hXY hY hQ k.2⟩
        | exact gd_mo (fun k => mo_id hXY hY hQ k) k
        | exact gd_mo (fun k => ⟨k.1, mo_id hXY hY hQ k.2⟩) k
        | exact mo_id hXY hY hQ k
        | exact br_mo (mo_id hXY hY hQ) (mo_id hXY hY hQ) k
        | exact hQ _ _ k
        | exact ⟨k.1, hQ _ _ k.2⟩)
theorem mo_oAStJ : OpMo (oAStJ) := by
  intro X Y hXY hY m pc ls st h Q Q2 hQ k
  unfold oAStJ at k ⊢
  first
    | exact mo_id hXY hY hQ k
    | (split at k <;> first
        | exact k.elim
        | exact ⟨k.1, mo_id hXY hY hQ k.2⟩
        | exact gd_mo (fun k => mo_id hXY hY hQ k) k
        | exact gd_mo (fun k => ⟨k.1, mo_id hXY hY hQ k.2⟩) k
        | exact mo_id hXY hY hQ k
        | exact br_mo (mo_id hXY hY hQ) (mo_id hXY hY hQ) k
        | exact hQ _ _ k
        | exact ⟨k.1, hQ _ _ k.2⟩)
theorem mo_oMax : OpMo (oMax) := by
  intro X Y hXY hY m pc ls st h Q Q2 hQ k
  unfold oMax at k ⊢
  first
    | exact mo_id hXY hY hQ k
    | (split at k <;> first
        | exact k.elim
        | exact ⟨k.1, mo_id hXY hY hQ k.2⟩
        | exact gd_mo (fun k => mo_id hXY hY hQ k) k
        | exact gd_mo (fun k => ⟨k.1, mo_id hXY hY hQ k.2⟩) k
        | exact mo_id hXY hY hQ k
        | exact br_mo (mo_id hXY hY hQ) (mo_id hXY hY hQ) k
        | exact hQ _ _ k
        | exact ⟨k.1, hQ _ _ k.2⟩)
theorem mo_oMin : OpMo (oMin) := by
  intro X Y hXY hY m pc ls st h Q Q2 hQ k
  unfold oMin at k ⊢
  first
    | exact mo_id hXY hY hQ k
    | (split at k <;> first
        | exact k.elim
        | exact ⟨k.1, mo_id hXY hY hQ k.2⟩
        | exact gd_mo (fun k => mo_id hXY hY hQ k) k
        | exact gd_mo (fun k => ⟨k.1, mo_id hXY hY hQ k.2⟩) k
        | exact mo_id hXY hY hQ k
        | exact br_mo (mo_id hXY hY hQ) (mo_id hXY hY hQ) k
        | exact hQ _ _ k
        | exact ⟨k.1, hQ _ _ k.2⟩)
theorem mo_oAbs : OpMo (oAbs) := by
  intro X Y hXY hY m pc ls st h Q Q2 hQ k
  unfold oAbs at k ⊢
  first
    | exact mo_id hXY hY hQ k
    | (split at k <;> first
        | exact k.elim
        | exact ⟨k.1, mo_id hXY hY hQ k.2⟩
        | exact gd_mo (fun k => mo_id hXY hY hQ k) k
        | exact gd_mo (fun k => ⟨k.1, mo_id hXY hY hQ k.2⟩) k
        | exact mo_id hXY hY hQ k
        | exact br_mo (mo_id hXY hY hQ) (mo_id hXY hY hQ) k
        | exact hQ _ _ k
        | exact ⟨k.1, hQ _ _ k.2⟩)
theorem mo_oCpy : OpMo (oCpy) := by
  intro X Y hXY hY m pc ls st h Q Q2 hQ k
  unfold oCpy at k ⊢
  first
    | exact mo_id hXY hY hQ k
    | (split at k <;> first
        | exact k.elim
        | exact ⟨k.1, mo_id hXY hY hQ k.2⟩
        | exact gd_mo (fun k => mo_id hXY hY hQ k) k
        | exact gd_mo (fun k => ⟨k.1, mo_id hXY hY hQ k.2⟩) k
        | exact mo_id hXY hY hQ k
        | exact br_mo (mo_id hXY hY hQ) (mo_id hXY hY hQ) k
        | exact hQ _ _ k
        | exact ⟨k.1, hQ _ _ k.2⟩)
theorem mo_oObj : OpMo (oObj) := by
  intro X Y hXY hY m pc ls st h Q Q2 hQ k
  unfold oObj at k ⊢
  first
    | exact mo_id hXY hY hQ k
    | (split at k <;> first
        | exact k.elim
        | exact ⟨k.1, mo_id hXY hY hQ k.2⟩
        | exact gd_mo (fun k => mo_id hXY hY hQ k) k
        | exact gd_mo (fun k => ⟨k.1, mo_id hXY hY hQ k.2⟩) k
        | exact mo_id hXY hY hQ k
        | exact br_mo (mo_id hXY hY hQ) (mo_id hXY hY hQ) k
        | exact hQ _ _ k
        | exact ⟨k.1, hQ _ _ k.2⟩)
theorem mo_oDCmp (c : CmpOp) : OpMo (oDCmp c) := by
  intro X Y hXY hY m pc ls st h Q Q2 hQ k
  unfold oDCmp at k ⊢
  first
    | exact mo_id hXY hY hQ k
    | (split at k <;> first
        | exact k.elim
        | exact ⟨k.1, mo_id hXY hY hQ k.2⟩
        | exact gd_mo (fun k => mo_id hXY hY hQ k) k
        | exact gd_mo (fun k => ⟨k.1, mo_id hXY hY hQ k.2⟩) k
        | exact mo_id hXY hY hQ k
        | exact br_mo (mo_id hXY hY hQ) (mo_id hXY hY hQ) k
        | exact hQ _ _ k
        | exact ⟨k.1, hQ _ _ k.2⟩)
theorem mo_oZeq (t : Nat) : OpMo (oZeq t) := by
  intro X Y hXY hY m pc ls st h Q Q2 hQ k
  unfold oZeq at k ⊢
  first
    | exact mo_id hXY hY hQ k
    | (split at k <;> first
        | exact k.elim
        | exact ⟨k.1, mo_id hXY hY hQ k.2⟩
        | exact gd_mo (fun k => mo_id hXY hY hQ k) k
        | exact gd_mo (fun k => ⟨k.1, mo_id hXY hY hQ k.2⟩) k
        | exact mo_id hXY hY hQ k
        | exact br_mo (mo_id hXY hY hQ) (mo_id hXY hY hQ) k
        | exact hQ _ _ k
        | exact ⟨k.1, hQ _ _ k.2⟩)
theorem mo_oZne (t : Nat) : OpMo (oZne t) := by
  intro X Y hXY hY m pc ls st h Q Q2 hQ k
  unfold oZne at k ⊢
  first
    | exact mo_id hXY hY hQ k
    | (split at k <;> first
        | exact k.elim
        | exact ⟨k.1, mo_id hXY hY hQ k.2⟩
        | exact gd_mo (fun k => mo_id hXY hY hQ k) k
        | exact gd_mo (fun k => ⟨k.1, mo_id hXY hY hQ k.2⟩) k
        | exact mo_id hXY hY hQ k
        | exact br_mo (mo_id hXY hY hQ) (mo_id hXY hY hQ) k
        | exact hQ _ _ k
        | exact ⟨k.1, hQ _ _ k.2⟩)
theorem mo_oZlt (t : Nat) : OpMo (oZlt t) := by
  intro X Y hXY hY m pc ls st h Q Q2 hQ k
  unfold oZlt at k ⊢
  first
    | exact mo_id hXY hY hQ k
    | (split at k <;> first
        | exact k.elim
        | exact ⟨k.1, mo_id hXY hY hQ k.2⟩
        | exact gd_mo (fun k => mo_id hXY hY hQ k) k
        | exact gd_mo (fun k => ⟨k.1, mo_id hXY hY hQ k.2⟩) k
        | exact mo_id hXY hY hQ k
        | exact br_mo (mo_id hXY hY hQ) (mo_id hXY hY hQ) k
        | exact hQ _ _ k
        | exact ⟨k.1, hQ _ _ k.2⟩)
theorem mo_oZge (t : Nat) : OpMo (oZge t) := by
  intro X Y hXY hY m pc ls st h Q Q2 hQ k
  unfold oZge at k ⊢
  first
    | exact mo_id hXY hY hQ k
    | (split at k <;> first
        | exact k.elim
        | exact ⟨k.1, mo_id hXY hY hQ k.2⟩
        | exact gd_mo (fun k => mo_id hXY hY hQ k) k
        | exact gd_mo (fun k => ⟨k.1, mo_id hXY hY hQ k.2⟩) k
        | exact mo_id hXY hY hQ k
        | exact br_mo (mo_id hXY hY hQ) (mo_id hXY hY hQ) k
        | exact hQ _ _ k
        | exact ⟨k.1, hQ _ _ k.2⟩)
theorem mo_oZgt (t : Nat) : OpMo (oZgt t) := by
  intro X Y hXY hY m pc ls st h Q Q2 hQ k
  unfold oZgt at k ⊢
  first
    | exact mo_id hXY hY hQ k
    | (split at k <;> first
        | exact k.elim
        | exact ⟨k.1, mo_id hXY hY hQ k.2⟩
        | exact gd_mo (fun k => mo_id hXY hY hQ k) k
        | exact gd_mo (fun k => ⟨k.1, mo_id hXY hY hQ k.2⟩) k
        | exact mo_id hXY hY hQ k
        | exact br_mo (mo_id hXY hY hQ) (mo_id hXY hY hQ) k
        | exact hQ _ _ k
        | exact ⟨k.1, hQ _ _ k.2⟩)
theorem mo_oZle (t : Nat) : OpMo (oZle t) := by
  intro X Y hXY hY m pc ls st h Q Q2 hQ k
  unfold oZle at k ⊢
  first
    | exact mo_id hXY hY hQ k
    | (split at k <;> first
        | exact k.elim
        | exact ⟨k.1, mo_id hXY hY hQ k.2⟩
        | exact gd_mo (fun k => mo_id hXY hY hQ k) k
        | exact gd_mo (fun k => ⟨k.1, mo_id hXY hY hQ k.2⟩) k
        | exact mo_id hXY hY hQ k
        | exact br_mo (mo_id hXY hY hQ) (mo_id hXY hY hQ) k
        | exact hQ _ _ k
        | exact ⟨k.1, hQ _ _ k.2⟩)
theorem mo_oCeq (t : Nat) : OpMo (oCeq t) := by
  intro X Y hXY hY m pc ls st h Q Q2 hQ k
  unfold oCeq at k ⊢
  first
    | exact mo_id hXY hY hQ k
    | (split at k <;> first
        | exact k.elim
        | exact ⟨k.1, mo_id hXY hY hQ k.2⟩
        | exact gd_mo (fun k => mo_id hXY hY hQ k) k
        | exact gd_mo (fun k => ⟨k.1, mo_id hXY hY hQ k.2⟩) k
        | exact mo_id hXY hY hQ k
        | exact br_mo (mo_id hXY hY hQ) (mo_id hXY hY hQ) k
        | exact hQ _ _ k
        | exact ⟨k.1, hQ _ _ k.2⟩)
theorem mo_oCne (t : Nat) : OpMo (oCne t) := by
  intro X Y hXY hY m pc ls st h Q Q2 hQ k
  unfold oCne at k ⊢
  first
    | exact mo_id hXY hY hQ k
    | (split at k <;> first
        | exact k.elim
        | exact ⟨k.1, mo_id hXY hY hQ k.2⟩
        | exact gd_mo (fun k => mo_id hXY hY hQ k) k
        | exact gd_mo (fun k => ⟨k.1, mo_id hXY hY hQ k.2⟩) k
        | exact mo_id hXY hY hQ k
        | exact br_mo (mo_id hXY hY hQ) (mo_id hXY hY hQ) k
        | exact hQ _ _ k
        | exact ⟨k.1, hQ _ _ k.2⟩)
theorem mo_oClt (t : Nat) : OpMo (oClt t) := by
  intro X Y hXY hY m pc ls st h Q Q2 hQ k
  unfold oClt at k ⊢
  first
    | exact mo_id hXY hY hQ k
    | (split at k <;> first
        | exact k.elim
        | exact ⟨k.1, mo_id hXY hY hQ k.2⟩
        | exact gd_mo (fun k => mo_id hXY hY hQ k) k
        | exact gd_mo (fun k => ⟨k.1, mo_id hXY hY hQ k.2⟩) k
        | exact mo_id hXY hY hQ k
        | exact br_mo (mo_id hXY hY hQ) (mo_id hXY hY hQ) k
        | exact hQ _ _ k
        | exact ⟨k.1, hQ _ _ k.2⟩)
theorem mo_oCge (t : Nat) : OpMo (oCge t) := by
  intro X Y hXY hY m pc ls st h Q Q2 hQ k
  unfold oCge at k ⊢
  first
    | exact mo_id hXY hY hQ k
    | (split at k <;> first
        | exact k.elim
        | exact ⟨k.1, mo_id hXY hY hQ k.2⟩
        | exact gd_mo (fun k => mo_id hXY hY hQ k) k
        | exact gd_mo (fun k => ⟨k.1, mo_id hXY hY hQ k.2⟩) k
        | exact mo_id hXY hY hQ k
        | exact br_mo (mo_id hXY hY hQ) (mo_id hXY hY hQ) k
        | exact hQ _ _ k
        | exact ⟨k.1, hQ _ _ k.2⟩)
theorem mo_oCgt (t : Nat) : OpMo (oCgt t) := by
  intro X Y hXY hY m pc ls st h Q Q2 hQ k
  unfold oCgt at k ⊢
  first
    | exact mo_id hXY hY hQ k
    | (split at k <;> first
        | exact k.elim
        | exact ⟨k.1, mo_id hXY hY hQ k.2⟩
        | exact gd_mo (fun k => mo_id hXY hY hQ k) k
        | exact gd_mo (fun k => ⟨k.1, mo_id hXY hY hQ k.2⟩) k
        | exact mo_id hXY hY hQ k
        | exact br_mo (mo_id hXY hY hQ) (mo_id hXY hY hQ) k
        | exact hQ _ _ k
        | exact ⟨k.1, hQ _ _ k.2⟩)
theorem mo_oCle (t : Nat) : OpMo (oCle t) := by
  intro X Y hXY hY m pc ls st h Q Q2 hQ k
  unfold oCle at k ⊢
  first
    | exact mo_id hXY hY hQ k
    | (split at k <;> first
        | exact k.elim
        | exact ⟨k.1, mo_id hXY hY hQ k.2⟩
        | exact gd_mo (fun k => mo_id hXY hY hQ k) k
        | exact gd_mo (fun k => ⟨k.1, mo_id hXY hY hQ k.2⟩) k
        | exact mo_id hXY hY hQ k
        | exact br_mo (mo_id hXY hY hQ) (mo_id hXY hY hQ) k
        | exact hQ _ _ k
        | exact ⟨k.1, hQ _ _ k.2⟩)
theorem mo_oNul (t : Nat) : OpMo (oNul t) := by
  intro X Y hXY hY m pc ls st h Q Q2 hQ k
  unfold oNul at k ⊢
  first
    | exact mo_id hXY hY hQ k
    | (split at k <;> first
        | exact k.elim
        | exact ⟨k.1, mo_id hXY hY hQ k.2⟩
        | exact gd_mo (fun k => mo_id hXY hY hQ k) k
        | exact gd_mo (fun k => ⟨k.1, mo_id hXY hY hQ k.2⟩) k
        | exact mo_id hXY hY hQ k
        | exact br_mo (mo_id hXY hY hQ) (mo_id hXY hY hQ) k
        | exact hQ _ _ k
        | exact ⟨k.1, hQ _ _ k.2⟩)
theorem mo_oNNul (t : Nat) : OpMo (oNNul t) := by
  intro X Y hXY hY m pc ls st h Q Q2 hQ k
  unfold oNNul at k ⊢
  first
    | exact mo_id hXY hY hQ k
    | (split at k <;> first
        | exact k.elim
        | exact ⟨k.1, mo_id hXY hY hQ k.2⟩
        | exact gd_mo (fun k => mo_id hXY hY hQ k) k
        | exact gd_mo (fun k => ⟨k.1, mo_id hXY hY hQ k.2⟩) k
        | exact mo_id hXY hY hQ k
        | exact br_mo (mo_id hXY hY hQ) (mo_id hXY hY hQ) k
        | exact hQ _ _ k
        | exact ⟨k.1, hQ _ _ k.2⟩)
theorem mo_oGoto (t : Nat) : OpMo (oGoto t) := by
  intro X Y hXY hY m pc ls st h Q Q2 hQ k
  unfold oGoto at k ⊢
  first
    | exact mo_id hXY hY hQ k
    | (split at k <;> first
        | exact k.elim
        | exact ⟨k.1, mo_id hXY hY hQ k.2⟩
        | exact gd_mo (fun k => mo_id hXY hY hQ k) k
        | exact gd_mo (fun k => ⟨k.1, mo_id hXY hY hQ k.2⟩) k
        | exact mo_id hXY hY hQ k
        | exact br_mo (mo_id hXY hY hQ) (mo_id hXY hY hQ) k
        | exact hQ _ _ k
        | exact ⟨k.1, hQ _ _ k.2⟩)
theorem mo_oGetI (c k : Nat) : OpMo (oGetI c k) := by
  intro X Y hXY hY m pc ls st h Q Q2 hQ k
  unfold oGetI at k ⊢
  first
    | exact mo_id hXY hY hQ k
    | (split at k <;> first
        | exact k.elim
        | exact ⟨k.1, mo_id hXY hY hQ k.2⟩
        | exact gd_mo (fun k => mo_id hXY hY hQ k) k
        | exact gd_mo (fun k => ⟨k.1, mo_id hXY hY hQ k.2⟩) k
        | exact mo_id hXY hY hQ k
        | exact br_mo (mo_id hXY hY hQ) (mo_id hXY hY hQ) k
        | exact hQ _ _ k
        | exact ⟨k.1, hQ _ _ k.2⟩)
theorem mo_oGetR (c k : Nat) : OpMo (oGetR c k) := by
  intro X Y hXY hY m pc ls st h Q Q2 hQ k
  unfold oGetR at k ⊢
  first
    | exact mo_id hXY hY hQ k
    | (split at k <;> first
        | exact k.elim
        | exact ⟨k.1, mo_id hXY hY hQ k.2⟩
        | exact gd_mo (fun k => mo_id hXY hY hQ k) k
        | exact gd_mo (fun k => ⟨k.1, mo_id hXY hY hQ k.2⟩) k
        | exact mo_id hXY hY hQ k
        | exact br_mo (mo_id hXY hY hQ) (mo_id hXY hY hQ) k
        | exact hQ _ _ k
        | exact ⟨k.1, hQ _ _ k.2⟩)
theorem mo_oPutI (c k : Nat) : OpMo (oPutI c k) := by
  intro X Y hXY hY m pc ls st h Q Q2 hQ k
  unfold oPutI at k ⊢
  first
    | exact mo_id hXY hY hQ k
    | (split at k <;> first
        | exact k.elim
        | exact ⟨k.1, mo_id hXY hY hQ k.2⟩
        | exact gd_mo (fun k => mo_id hXY hY hQ k) k
        | exact gd_mo (fun k => ⟨k.1, mo_id hXY hY hQ k.2⟩) k
        | exact mo_id hXY hY hQ k
        | exact br_mo (mo_id hXY hY hQ) (mo_id hXY hY hQ) k
        | exact hQ _ _ k
        | exact ⟨k.1, hQ _ _ k.2⟩)
theorem mo_oPutZ (c k : Nat) : OpMo (oPutZ c k) := by
  intro X Y hXY hY m pc ls st h Q Q2 hQ k
  unfold oPutZ at k ⊢
  first
    | exact mo_id hXY hY hQ k
    | (split at k <;> first
        | exact k.elim
        | exact ⟨k.1, mo_id hXY hY hQ k.2⟩
        | exact gd_mo (fun k => mo_id hXY hY hQ k) k
        | exact gd_mo (fun k => ⟨k.1, mo_id hXY hY hQ k.2⟩) k
        | exact mo_id hXY hY hQ k
        | exact br_mo (mo_id hXY hY hQ) (mo_id hXY hY hQ) k
        | exact hQ _ _ k
        | exact ⟨k.1, hQ _ _ k.2⟩)
theorem mo_oPutR (c k : Nat) : OpMo (oPutR c k) := by
  intro X Y hXY hY m pc ls st h Q Q2 hQ k
  unfold oPutR at k ⊢
  first
    | exact mo_id hXY hY hQ k
    | (split at k <;> first
        | exact k.elim
        | exact ⟨k.1, mo_id hXY hY hQ k.2⟩
        | exact gd_mo (fun k => mo_id hXY hY hQ k) k
        | exact gd_mo (fun k => ⟨k.1, mo_id hXY hY hQ k.2⟩) k
        | exact mo_id hXY hY hQ k
        | exact br_mo (mo_id hXY hY hQ) (mo_id hXY hY hQ) k
        | exact hQ _ _ k
        | exact ⟨k.1, hQ _ _ k.2⟩)
theorem mo_oALdI (c : Nat) : OpMo (oALdI c) := by
  intro X Y hXY hY m pc ls st h Q Q2 hQ k
  unfold oALdI at k ⊢
  first
    | exact mo_id hXY hY hQ k
    | (split at k <;> first
        | exact k.elim
        | exact ⟨k.1, mo_id hXY hY hQ k.2⟩
        | exact gd_mo (fun k => mo_id hXY hY hQ k) k
        | exact gd_mo (fun k => ⟨k.1, mo_id hXY hY hQ k.2⟩) k
        | exact mo_id hXY hY hQ k
        | exact br_mo (mo_id hXY hY hQ) (mo_id hXY hY hQ) k
        | exact hQ _ _ k
        | exact ⟨k.1, hQ _ _ k.2⟩)
theorem mo_oALdR (c : Nat) : OpMo (oALdR c) := by
  intro X Y hXY hY m pc ls st h Q Q2 hQ k
  unfold oALdR at k ⊢
  first
    | exact mo_id hXY hY hQ k
    | (split at k <;> first
        | exact k.elim
        | exact ⟨k.1, mo_id hXY hY hQ k.2⟩
        | exact gd_mo (fun k => mo_id hXY hY hQ k) k
        | exact gd_mo (fun k => ⟨k.1, mo_id hXY hY hQ k.2⟩) k
        | exact mo_id hXY hY hQ k
        | exact br_mo (mo_id hXY hY hQ) (mo_id hXY hY hQ) k
        | exact hQ _ _ k
        | exact ⟨k.1, hQ _ _ k.2⟩)
theorem mo_oALen (c : Nat) : OpMo (oALen c) := by
  intro X Y hXY hY m pc ls st h Q Q2 hQ k
  unfold oALen at k ⊢
  first
    | exact mo_id hXY hY hQ k
    | (split at k <;> first
        | exact k.elim
        | exact ⟨k.1, mo_id hXY hY hQ k.2⟩
        | exact gd_mo (fun k => mo_id hXY hY hQ k) k
        | exact gd_mo (fun k => ⟨k.1, mo_id hXY hY hQ k.2⟩) k
        | exact mo_id hXY hY hQ k
        | exact br_mo (mo_id hXY hY hQ) (mo_id hXY hY hQ) k
        | exact hQ _ _ k
        | exact ⟨k.1, hQ _ _ k.2⟩)
theorem mo_oAStR (c e : Nat) : OpMo (oAStR c e) := by
  intro X Y hXY hY m pc ls st h Q Q2 hQ k
  unfold oAStR at k ⊢
  first
    | exact mo_id hXY hY hQ k
    | (split at k <;> first
        | exact k.elim
        | exact ⟨k.1, mo_id hXY hY hQ k.2⟩
        | exact gd_mo (fun k => mo_id hXY hY hQ k) k
        | exact gd_mo (fun k => ⟨k.1, mo_id hXY hY hQ k.2⟩) k
        | exact mo_id hXY hY hQ k
        | exact br_mo (mo_id hXY hY hQ) (mo_id hXY hY hQ) k
        | exact hQ _ _ k
        | exact ⟨k.1, hQ _ _ k.2⟩)
theorem mo_oRetI : OpMo (oRetI) := by
  intro X Y hXY hY m pc ls st h Q Q2 hQ k
  unfold oRetI at k ⊢
  first
    | exact mo_id hXY hY hQ k
    | (split at k <;> first
        | exact k.elim
        | exact ⟨k.1, mo_id hXY hY hQ k.2⟩
        | exact gd_mo (fun k => mo_id hXY hY hQ k) k
        | exact gd_mo (fun k => ⟨k.1, mo_id hXY hY hQ k.2⟩) k
        | exact mo_id hXY hY hQ k
        | exact br_mo (mo_id hXY hY hQ) (mo_id hXY hY hQ) k
        | exact hQ _ _ k
        | exact ⟨k.1, hQ _ _ k.2⟩)
theorem mo_oRetZ : OpMo (oRetZ) := by
  intro X Y hXY hY m pc ls st h Q Q2 hQ k
  unfold oRetZ at k ⊢
  first
    | exact mo_id hXY hY hQ k
    | (split at k <;> first
        | exact k.elim
        | exact ⟨k.1, mo_id hXY hY hQ k.2⟩
        | exact gd_mo (fun k => mo_id hXY hY hQ k) k
        | exact gd_mo (fun k => ⟨k.1, mo_id hXY hY hQ k.2⟩) k
        | exact mo_id hXY hY hQ k
        | exact br_mo (mo_id hXY hY hQ) (mo_id hXY hY hQ) k
        | exact hQ _ _ k
        | exact ⟨k.1, hQ _ _ k.2⟩)
theorem mo_oRetL : OpMo (oRetL) := by
  intro X Y hXY hY m pc ls st h Q Q2 hQ k
  unfold oRetL at k ⊢
  first
    | exact mo_id hXY hY hQ k
    | (split at k <;> first
        | exact k.elim
        | exact ⟨k.1, mo_id hXY hY hQ k.2⟩
        | exact gd_mo (fun k => mo_id hXY hY hQ k) k
        | exact gd_mo (fun k => ⟨k.1, mo_id hXY hY hQ k.2⟩) k
        | exact mo_id hXY hY hQ k
        | exact br_mo (mo_id hXY hY hQ) (mo_id hXY hY hQ) k
        | exact hQ _ _ k
        | exact ⟨k.1, hQ _ _ k.2⟩)
theorem mo_oRetD : OpMo (oRetD) := by
  intro X Y hXY hY m pc ls st h Q Q2 hQ k
  unfold oRetD at k ⊢
  first
    | exact mo_id hXY hY hQ k
    | (split at k <;> first
        | exact k.elim
        | exact ⟨k.1, mo_id hXY hY hQ k.2⟩
        | exact gd_mo (fun k => mo_id hXY hY hQ k) k
        | exact gd_mo (fun k => ⟨k.1, mo_id hXY hY hQ k.2⟩) k
        | exact mo_id hXY hY hQ k
        | exact br_mo (mo_id hXY hY hQ) (mo_id hXY hY hQ) k
        | exact hQ _ _ k
        | exact ⟨k.1, hQ _ _ k.2⟩)
theorem mo_oRetR : OpMo (oRetR) := by
  intro X Y hXY hY m pc ls st h Q Q2 hQ k
  unfold oRetR at k ⊢
  first
    | exact mo_id hXY hY hQ k
    | (split at k <;> first
        | exact k.elim
        | exact ⟨k.1, mo_id hXY hY hQ k.2⟩
        | exact gd_mo (fun k => mo_id hXY hY hQ k) k
        | exact gd_mo (fun k => ⟨k.1, mo_id hXY hY hQ k.2⟩) k
        | exact mo_id hXY hY hQ k
        | exact br_mo (mo_id hXY hY hQ) (mo_id hXY hY hQ) k
        | exact hQ _ _ k
        | exact ⟨k.1, hQ _ _ k.2⟩)
theorem mo_oRetV : OpMo (oRetV) := by
  intro X Y hXY hY m pc ls st h Q Q2 hQ k
  unfold oRetV at k ⊢
  first
    | exact mo_id hXY hY hQ k
    | (split at k <;> first
        | exact k.elim
        | exact ⟨k.1, mo_id hXY hY hQ k.2⟩
        | exact gd_mo (fun k => mo_id hXY hY hQ k) k
        | exact gd_mo (fun k => ⟨k.1, mo_id hXY hY hQ k.2⟩) k
        | exact mo_id hXY hY hQ k
        | exact br_mo (mo_id hXY hY hQ) (mo_id hXY hY hQ) k
        | exact hQ _ _ k
        | exact ⟨k.1, hQ _ _ k.2⟩)
theorem mo_oFail : OpMo oFail := fun _ _ _ _ _ _ _ _ _ _ _ _ k => k
theorem mo_oThr (e : Nat) : OpMo (oThr e) := fun _ _ _ _ _ _ _ _ _ _ _ hQ k => gd_mo (fun k => ⟨k.1, hQ _ _ k.2⟩) k
theorem mo_oNew (c n : Nat) : OpMo (oNew c n) := fun _ _ hXY hY _ _ _ _ _ _ _ hQ k => ⟨k.1, fun a ha => mo_id hXY hY hQ (k.2 a ha)⟩
theorem mo_oNewA (c len : Nat) : OpMo (oNewA c len) := by
  intro X Y hXY hY m pc ls st h Q Q2 hQ k
  unfold oNewA at k ⊢
  split at k
  · exact ⟨k.1, fun a ha => mo_id hXY hY hQ (k.2 a ha)⟩
  · exact k.elim
theorem mo_oNew2 : OpMo oNew2 := by
  intro X Y hXY hY m pc ls st h Q Q2 hQ k
  unfold oNew2 at k ⊢
  split at k
  · exact ⟨k.1, fun q r h1 h2 h3 => mo_id hXY hY hQ (k.2 q r h1 h2 h3)⟩
  · exact k.elim
theorem mo_oSw (lo : Int) (ts : List Nat) (d : Nat) : OpMo (oSw lo ts d) := by
  intro X Y hXY hY m pc ls st h Q Q2 hQ k
  unfold oSw at k ⊢
  split at k
  · exact ⟨fun e => mo_id hXY hY hQ (k.1 e), swA_mo (fun t => mo_id hXY hY hQ) _ _ _ k.2⟩
  · exact k.elim
theorem mo_oCallS (m2 n maxL : Nat) (hs : List (Nat × Nat)) : OpMo (oCallS m2 n maxL hs) := by
  intro X Y hXY hY m pc ls st h Q Q2 hQ k
  unfold oCallS at k ⊢
  exact gd_mo (fun k => mo_id hXY hY (kont_mo hXY hY hQ) k) k
theorem mo_oCallV (m2 n maxL c : Nat) (hs : List (Nat × Nat)) : OpMo (oCallV m2 n maxL c hs) := by
  intro X Y hXY hY m pc ls st h Q Q2 hQ k
  unfold oCallV at k ⊢
  revert k
  generalize st.drop n = dr
  intro k
  split at k
  · exact gd_mo (fun k => ⟨k.1, mo_id hXY hY (kont_mo hXY hY hQ) k.2⟩) k
  · exact k.elim
/-- the least closure under a program's instructions -/
def WPo (op : Nat → Nat → Op1) : Zx := fun m pc ls st h Q => ∀ X : Zx, ZxMo X → (∀ m pc ls st h Q, op m pc X m pc ls st h Q → X m pc ls st h Q) → X m pc ls st h Q
theorem WPo_mo (op : Nat → Nat → Op1) : ZxMo (WPo op) := fun _ _ _ _ _ _ _ hQ k X hX hc => hX _ _ _ _ _ _ _ hQ (k X hX hc)
theorem WPo_fold {op : Nat → Nat → Op1} (hm : ∀ m pc, OpMo (op m pc)) {m pc : Nat} {ls : Zl} {st : List Zv} {h : Zh} {Q : Zp} (k : op m pc (WPo op) m pc ls st h Q) : WPo op m pc ls st h Q := fun X hX hc =>
  hc _ _ _ _ _ _ (hm m pc _ _ (fun _ _ _ _ _ _ z => z X hX hc) hX _ _ _ _ _ _ _ (fun _ _ z => z) k)
theorem WPo_unfold {op : Nat → Nat → Op1} (hm : ∀ m pc, OpMo (op m pc)) {m pc : Nat} {ls : Zl} {st : List Zv} {h : Zh} {Q : Zp} (k : WPo op m pc ls st h Q) : op m pc (WPo op) m pc ls st h Q := by
  refine k (fun m pc ls st h Q => op m pc (WPo op) m pc ls st h Q) ?_ ?_
  · intro m pc ls st h Q Q2 hQ z
    exact hm m pc _ _ (fun _ _ _ _ _ _ y => y) (WPo_mo op) _ _ _ _ _ _ _ hQ z
  · intro m pc ls st h Q z
    exact hm m pc _ _ (fun _ _ _ _ _ _ y => WPo_fold hm y) (WPo_mo op) _ _ _ _ _ _ _ (fun _ _ y => y) z
theorem WPo_eq {op : Nat → Nat → Op1} (hm : ∀ m pc, OpMo (op m pc)) (m pc : Nat) (ls : Zl) (st : List Zv) (h : Zh) (Q : Zp) : WPo op m pc ls st h Q = op m pc (WPo op) m pc ls st h Q := propext ⟨WPo_unfold hm, WPo_fold hm⟩
theorem mo_oHav : OpMo oHav := by
  intro X Y hXY hY m pc ls st h Q Q2 hQ k
  unfold oHav at k ⊢
  split at k
  · exact fun x hx => mo_id hXY hY hQ (k x hx)
  · exact k.elim
theorem mo_oMsk : OpMo oMsk := by
  intro X Y hXY hY m pc ls st h Q Q2 hQ k
  unfold oMsk at k ⊢
  split at k
  · exact ⟨k.1, fun x h1 h2 => mo_id hXY hY hQ (k.2 x h1 h2)⟩
  · exact k.elim
theorem mo_oNew3 : OpMo oNew3 := by
  intro X Y hXY hY m pc ls st h Q Q2 hQ k
  unfold oNew3 at k ⊢
  split at k
  · exact ⟨k.1, fun q r h1 h2 h3 => mo_id hXY hY hQ (k.2 q r h1 h2 h3)⟩
  · exact k.elim
theorem mo_oCpyR (c e : Nat) : OpMo (oCpyR c e) := by
  intro X Y hXY hY m pc ls st h Q Q2 hQ k
  unfold oCpyR at k ⊢
  split at k
  · exact gd_mo (fun k => ⟨k.1, mo_id hXY hY hQ k.2⟩) k
  · exact k.elim
