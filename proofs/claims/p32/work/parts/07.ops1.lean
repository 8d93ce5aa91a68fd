/-! SOUNDNESS of the instructions that touch no memory -/
section SD1
variable {G : GwT} {Md : Nat → MdT} {D : va_G} {A : Nat → Prop} {l : Launch}
theorem sd_oLdI_n (m pc : Nat) (kf : Fin 4) (kk : Nat) (hk : (kf : Nat) = kk) (d : decode (mCod (Md m)) pc = .ok (.iload_n kf, 1)) : SM G Md D A l m pc (oLdI kk 1) := by
  refine ⟨mo_oLdI kk 1, fun ls st h Q k pp ee RR ss mm aa bb me cc0 HH lc lsC c0 s0 ce se C hR hC hS hl ho hcu hsu => ?_⟩
  obtain ⟨⟨hx, hb, hml, hown, hts⟩, hr, hlk, hnm, het, hRm, htr, hA, hG⟩ := id C
  unfold oLdI at k
  split at k
  · next x e =>
    have g := lh_get hl e
    exact lv_iload_n hx hb d hk g.1 (k pp ee RR ss mm aa bb me cc0 HH lc lsC c0 s0 ce se C hR hC hS hl (List.forall_mem_cons.mpr ⟨g.2, ho⟩) hcu hsu)
  · exact k.elim
theorem sd_oLdI (m pc : Nat) (kk : Nat) (d : decode (mCod (Md m)) pc = .ok (.iload kk, 2)) : SM G Md D A l m pc (oLdI kk 2) := by
  refine ⟨mo_oLdI kk 2, fun ls st h Q k pp ee RR ss mm aa bb me cc0 HH lc lsC c0 s0 ce se C hR hC hS hl ho hcu hsu => ?_⟩
  obtain ⟨⟨hx, hb, hml, hown, hts⟩, hr, hlk, hnm, het, hRm, htr, hA, hG⟩ := id C
  unfold oLdI at k
  split at k
  · next x e =>
    have g := lh_get hl e
    exact lv_iload hx hb d g.1 (k pp ee RR ss mm aa bb me cc0 HH lc lsC c0 s0 ce se C hR hC hS hl (List.forall_mem_cons.mpr ⟨g.2, ho⟩) hcu hsu)
  · exact k.elim
theorem sd_oLdL_n (m pc : Nat) (kf : Fin 4) (kk : Nat) (hk : (kf : Nat) = kk) (d : decode (mCod (Md m)) pc = .ok (.lload_n kf, 1)) : SM G Md D A l m pc (oLdL kk 1) := by
  refine ⟨mo_oLdL kk 1, fun ls st h Q k pp ee RR ss mm aa bb me cc0 HH lc lsC c0 s0 ce se C hR hC hS hl ho hcu hsu => ?_⟩
  obtain ⟨⟨hx, hb, hml, hown, hts⟩, hr, hlk, hnm, het, hRm, htr, hA, hG⟩ := id C
  unfold oLdL at k
  split at k
  · next x e =>
    have g := lh_get hl e
    exact lv_lload_n hx hb d hk g.1 (k pp ee RR ss mm aa bb me cc0 HH lc lsC c0 s0 ce se C hR hC hS hl (List.forall_mem_cons.mpr ⟨g.2, ho⟩) hcu hsu)
  · exact k.elim
theorem sd_oLdL (m pc : Nat) (kk : Nat) (d : decode (mCod (Md m)) pc = .ok (.lload kk, 2)) : SM G Md D A l m pc (oLdL kk 2) := by
  refine ⟨mo_oLdL kk 2, fun ls st h Q k pp ee RR ss mm aa bb me cc0 HH lc lsC c0 s0 ce se C hR hC hS hl ho hcu hsu => ?_⟩
  obtain ⟨⟨hx, hb, hml, hown, hts⟩, hr, hlk, hnm, het, hRm, htr, hA, hG⟩ := id C
  unfold oLdL at k
  split at k
  · next x e =>
    have g := lh_get hl e
    exact lv_lload hx hb d g.1 (k pp ee RR ss mm aa bb me cc0 HH lc lsC c0 s0 ce se C hR hC hS hl (List.forall_mem_cons.mpr ⟨g.2, ho⟩) hcu hsu)
  · exact k.elim
theorem sd_oLdD_n (m pc : Nat) (kf : Fin 4) (kk : Nat) (hk : (kf : Nat) = kk) (d : decode (mCod (Md m)) pc = .ok (.dload_n kf, 1)) : SM G Md D A l m pc (oLdD kk 1) := by
  refine ⟨mo_oLdD kk 1, fun ls st h Q k pp ee RR ss mm aa bb me cc0 HH lc lsC c0 s0 ce se C hR hC hS hl ho hcu hsu => ?_⟩
  obtain ⟨⟨hx, hb, hml, hown, hts⟩, hr, hlk, hnm, het, hRm, htr, hA, hG⟩ := id C
  unfold oLdD at k
  split at k
  · next x e =>
    have g := lh_get hl e
    exact lv_dload_n hx hb d hk g.1 (k pp ee RR ss mm aa bb me cc0 HH lc lsC c0 s0 ce se C hR hC hS hl (List.forall_mem_cons.mpr ⟨g.2, ho⟩) hcu hsu)
  · exact k.elim
theorem sd_oLdD (m pc : Nat) (kk : Nat) (d : decode (mCod (Md m)) pc = .ok (.dload kk, 2)) : SM G Md D A l m pc (oLdD kk 2) := by
  refine ⟨mo_oLdD kk 2, fun ls st h Q k pp ee RR ss mm aa bb me cc0 HH lc lsC c0 s0 ce se C hR hC hS hl ho hcu hsu => ?_⟩
  obtain ⟨⟨hx, hb, hml, hown, hts⟩, hr, hlk, hnm, het, hRm, htr, hA, hG⟩ := id C
  unfold oLdD at k
  split at k
  · next x e =>
    have g := lh_get hl e
    exact lv_dload hx hb d g.1 (k pp ee RR ss mm aa bb me cc0 HH lc lsC c0 s0 ce se C hR hC hS hl (List.forall_mem_cons.mpr ⟨g.2, ho⟩) hcu hsu)
  · exact k.elim
theorem sd_oLdR_n (m pc : Nat) (kf : Fin 4) (kk : Nat) (hk : (kf : Nat) = kk) (d : decode (mCod (Md m)) pc = .ok (.aload_n kf, 1)) : SM G Md D A l m pc (oLdR kk 1) := by
  refine ⟨mo_oLdR kk 1, fun ls st h Q k pp ee RR ss mm aa bb me cc0 HH lc lsC c0 s0 ce se C hR hC hS hl ho hcu hsu => ?_⟩
  obtain ⟨⟨hx, hb, hml, hown, hts⟩, hr, hlk, hnm, het, hRm, htr, hA, hG⟩ := id C
  unfold oLdR at k
  split at k
  · next x e =>
    have g := lh_get hl e
    match x, g with
    | none, g => exact lv_aload_nN hx hb d hk g.1 (k pp ee RR ss mm aa bb me cc0 HH lc lsC c0 s0 ce se C hR hC hS hl (List.forall_mem_cons.mpr ⟨g.2, ho⟩) hcu hsu)
    | some q, g => exact lv_aload_n hx hb d hk g.1 (k pp ee RR ss mm aa bb me cc0 HH lc lsC c0 s0 ce se C hR hC hS hl (List.forall_mem_cons.mpr ⟨g.2, ho⟩) hcu hsu)
  · exact k.elim
theorem sd_oLdR (m pc : Nat) (kk : Nat) (d : decode (mCod (Md m)) pc = .ok (.aload kk, 2)) : SM G Md D A l m pc (oLdR kk 2) := by
  refine ⟨mo_oLdR kk 2, fun ls st h Q k pp ee RR ss mm aa bb me cc0 HH lc lsC c0 s0 ce se C hR hC hS hl ho hcu hsu => ?_⟩
  obtain ⟨⟨hx, hb, hml, hown, hts⟩, hr, hlk, hnm, het, hRm, htr, hA, hG⟩ := id C
  unfold oLdR at k
  split at k
  · next x e =>
    have g := lh_get hl e
    match x, g with
    | none, g => exact lv_aloadN hx hb d g.1 (k pp ee RR ss mm aa bb me cc0 HH lc lsC c0 s0 ce se C hR hC hS hl (List.forall_mem_cons.mpr ⟨g.2, ho⟩) hcu hsu)
    | some q, g => exact lv_aload hx hb d g.1 (k pp ee RR ss mm aa bb me cc0 HH lc lsC c0 s0 ce se C hR hC hS hl (List.forall_mem_cons.mpr ⟨g.2, ho⟩) hcu hsu)
  · exact k.elim
theorem sd_oStI_n (m pc : Nat) (kf : Fin 4) (kk : Nat) (hk : (kf : Nat) = kk) (hn : kk < mMax (Md m)) (d : decode (mCod (Md m)) pc = .ok (.istore_n kf, 1)) : SM G Md D A l m pc (oStI kk 1) := by
  refine ⟨mo_oStI kk 1, fun ls st h Q k pp ee RR ss mm aa bb me cc0 HH lc lsC c0 s0 ce se C hR hC hS hl ho hcu hsu => ?_⟩
  obtain ⟨⟨hx, hb, hml, hown, hts⟩, hr, hlk, hnm, het, hRm, htr, hA, hG⟩ := id C
  unfold oStI at k
  split at k
  · next x r =>
    replace ho := List.forall_mem_cons.mp ho
    obtain ⟨ox, ho⟩ := ho
    exact lv_istore_n hx hb d hk (lh.has hl) hn rfl (fun ls' hl' => k pp ee RR ss mm aa bb me cc0 HH lc ls' c0 s0 ce se C hR hC hS (lh_st1 hl ox hl') ho hcu hsu)
  · exact k.elim
theorem sd_oStI (m pc : Nat) (kk : Nat) (hn : kk < mMax (Md m)) (d : decode (mCod (Md m)) pc = .ok (.istore kk, 2)) : SM G Md D A l m pc (oStI kk 2) := by
  refine ⟨mo_oStI kk 2, fun ls st h Q k pp ee RR ss mm aa bb me cc0 HH lc lsC c0 s0 ce se C hR hC hS hl ho hcu hsu => ?_⟩
  obtain ⟨⟨hx, hb, hml, hown, hts⟩, hr, hlk, hnm, het, hRm, htr, hA, hG⟩ := id C
  unfold oStI at k
  split at k
  · next x r =>
    replace ho := List.forall_mem_cons.mp ho
    obtain ⟨ox, ho⟩ := ho
    exact lv_istore hx hb d (lh.has hl) hn rfl (fun ls' hl' => k pp ee RR ss mm aa bb me cc0 HH lc ls' c0 s0 ce se C hR hC hS (lh_st1 hl ox hl') ho hcu hsu)
  · exact k.elim
theorem sd_oStL_n (m pc : Nat) (kf : Fin 4) (kk : Nat) (hk : (kf : Nat) = kk) (hn : kk + 1 < mMax (Md m)) (d : decode (mCod (Md m)) pc = .ok (.lstore_n kf, 1)) : SM G Md D A l m pc (oStL kk 1) := by
  refine ⟨mo_oStL kk 1, fun ls st h Q k pp ee RR ss mm aa bb me cc0 HH lc lsC c0 s0 ce se C hR hC hS hl ho hcu hsu => ?_⟩
  obtain ⟨⟨hx, hb, hml, hown, hts⟩, hr, hlk, hnm, het, hRm, htr, hA, hG⟩ := id C
  unfold oStL at k
  split at k
  · next x r =>
    replace ho := List.forall_mem_cons.mp ho
    obtain ⟨ox, ho⟩ := ho
    exact lv_lstore_n hx hb d hk (lh.has hl) hn rfl (fun ls' hl' => k pp ee RR ss mm aa bb me cc0 HH lc ls' c0 s0 ce se C hR hC hS (lh_st2 hl ox hl') ho hcu hsu)
  · exact k.elim
theorem sd_oStL (m pc : Nat) (kk : Nat) (hn : kk + 1 < mMax (Md m)) (d : decode (mCod (Md m)) pc = .ok (.lstore kk, 2)) : SM G Md D A l m pc (oStL kk 2) := by
  refine ⟨mo_oStL kk 2, fun ls st h Q k pp ee RR ss mm aa bb me cc0 HH lc lsC c0 s0 ce se C hR hC hS hl ho hcu hsu => ?_⟩
  obtain ⟨⟨hx, hb, hml, hown, hts⟩, hr, hlk, hnm, het, hRm, htr, hA, hG⟩ := id C
  unfold oStL at k
  split at k
  · next x r =>
    replace ho := List.forall_mem_cons.mp ho
    obtain ⟨ox, ho⟩ := ho
    exact lv_lstore hx hb d (lh.has hl) hn rfl (fun ls' hl' => k pp ee RR ss mm aa bb me cc0 HH lc ls' c0 s0 ce se C hR hC hS (lh_st2 hl ox hl') ho hcu hsu)
  · exact k.elim
theorem sd_oStD_n (m pc : Nat) (kf : Fin 4) (kk : Nat) (hk : (kf : Nat) = kk) (hn : kk + 1 < mMax (Md m)) (d : decode (mCod (Md m)) pc = .ok (.dstore_n kf, 1)) : SM G Md D A l m pc (oStD kk 1) := by
  refine ⟨mo_oStD kk 1, fun ls st h Q k pp ee RR ss mm aa bb me cc0 HH lc lsC c0 s0 ce se C hR hC hS hl ho hcu hsu => ?_⟩
  obtain ⟨⟨hx, hb, hml, hown, hts⟩, hr, hlk, hnm, het, hRm, htr, hA, hG⟩ := id C
  unfold oStD at k
  split at k
  · next x r =>
    replace ho := List.forall_mem_cons.mp ho
    obtain ⟨ox, ho⟩ := ho
    exact lv_dstore_n hx hb d hk (lh.has hl) hn rfl (fun ls' hl' => k pp ee RR ss mm aa bb me cc0 HH lc ls' c0 s0 ce se C hR hC hS (lh_st2 hl ox hl') ho hcu hsu)
  · exact k.elim
theorem sd_oStD (m pc : Nat) (kk : Nat) (hn : kk + 1 < mMax (Md m)) (d : decode (mCod (Md m)) pc = .ok (.dstore kk, 2)) : SM G Md D A l m pc (oStD kk 2) := by
  refine ⟨mo_oStD kk 2, fun ls st h Q k pp ee RR ss mm aa bb me cc0 HH lc lsC c0 s0 ce se C hR hC hS hl ho hcu hsu => ?_⟩
  obtain ⟨⟨hx, hb, hml, hown, hts⟩, hr, hlk, hnm, het, hRm, htr, hA, hG⟩ := id C
  unfold oStD at k
  split at k
  · next x r =>
    replace ho := List.forall_mem_cons.mp ho
    obtain ⟨ox, ho⟩ := ho
    exact lv_dstore hx hb d (lh.has hl) hn rfl (fun ls' hl' => k pp ee RR ss mm aa bb me cc0 HH lc ls' c0 s0 ce se C hR hC hS (lh_st2 hl ox hl') ho hcu hsu)
  · exact k.elim
theorem sd_oStR_n (m pc : Nat) (kf : Fin 4) (kk : Nat) (hk : (kf : Nat) = kk) (hn : kk < mMax (Md m)) (d : decode (mCod (Md m)) pc = .ok (.astore_n kf, 1)) : SM G Md D A l m pc (oStR kk 1) := by
  refine ⟨mo_oStR kk 1, fun ls st h Q k pp ee RR ss mm aa bb me cc0 HH lc lsC c0 s0 ce se C hR hC hS hl ho hcu hsu => ?_⟩
  obtain ⟨⟨hx, hb, hml, hown, hts⟩, hr, hlk, hnm, het, hRm, htr, hA, hG⟩ := id C
  unfold oStR at k
  split at k
  · next x r =>
    replace ho := List.forall_mem_cons.mp ho
    obtain ⟨ox, ho⟩ := ho
    match x, ox, k with
    | none, ox, k => exact lv_astore_nN hx hb d hk (lh.has hl) hn rfl (fun ls' hl' => k pp ee RR ss mm aa bb me cc0 HH lc ls' c0 s0 ce se C hR hC hS (lh_st1 (v := zr none) hl ox hl') ho hcu hsu)
    | some q, ox, k => exact lv_astore_n hx hb d hk (lh.has hl) hn rfl (fun ls' hl' => k pp ee RR ss mm aa bb me cc0 HH lc ls' c0 s0 ce se C hR hC hS (lh_st1 (v := zr (some q)) hl ox hl') ho hcu hsu)
  · exact k.elim
theorem sd_oStR (m pc : Nat) (kk : Nat) (hn : kk < mMax (Md m)) (d : decode (mCod (Md m)) pc = .ok (.astore kk, 2)) : SM G Md D A l m pc (oStR kk 2) := by
  refine ⟨mo_oStR kk 2, fun ls st h Q k pp ee RR ss mm aa bb me cc0 HH lc lsC c0 s0 ce se C hR hC hS hl ho hcu hsu => ?_⟩
  obtain ⟨⟨hx, hb, hml, hown, hts⟩, hr, hlk, hnm, het, hRm, htr, hA, hG⟩ := id C
  unfold oStR at k
  split at k
  · next x r =>
    replace ho := List.forall_mem_cons.mp ho
    obtain ⟨ox, ho⟩ := ho
    match x, ox, k with
    | none, ox, k => exact lv_astoreN hx hb d (lh.has hl) hn rfl (fun ls' hl' => k pp ee RR ss mm aa bb me cc0 HH lc ls' c0 s0 ce se C hR hC hS (lh_st1 (v := zr none) hl ox hl') ho hcu hsu)
    | some q, ox, k => exact lv_astore hx hb d (lh.has hl) hn rfl (fun ls' hl' => k pp ee RR ss mm aa bb me cc0 HH lc ls' c0 s0 ce se C hR hC hS (lh_st1 (v := zr (some q)) hl ox hl') ho hcu hsu)
  · exact k.elim
theorem sd_iconst (m pc : Nat) (n : Int) (hn : inR n) (d : decode (mCod (Md m)) pc = .ok (.iconst n, 1)) : SM G Md D A l m pc (oCI n 1) := by
  refine ⟨mo_oCI n 1, fun ls st h Q k pp ee RR ss mm aa bb me cc0 HH lc lsC c0 s0 ce se C hR hC hS hl ho hcu hsu => ?_⟩
  obtain ⟨⟨hx, hb, hml, hown, hts⟩, hr, hlk, hnm, het, hRm, htr, hA, hG⟩ := id C
  unfold oCI at k
  exact lv_iconst hx hb d rfl (k pp ee RR ss mm aa bb me cc0 HH lc lsC c0 s0 ce se C hR hC hS hl (List.forall_mem_cons.mpr ⟨hn, ho⟩) hcu hsu)
theorem sd_bipush (m pc : Nat) (n : Int) (hn : inR n) (hv : (Int8.ofInt n).toInt32 = Int32.ofInt n) (d : decode (mCod (Md m)) pc = .ok (.bipush n, 2)) : SM G Md D A l m pc (oCI n 2) := by
  refine ⟨mo_oCI n 2, fun ls st h Q k pp ee RR ss mm aa bb me cc0 HH lc lsC c0 s0 ce se C hR hC hS hl ho hcu hsu => ?_⟩
  obtain ⟨⟨hx, hb, hml, hown, hts⟩, hr, hlk, hnm, het, hRm, htr, hA, hG⟩ := id C
  unfold oCI at k
  exact lv_bipush hx hb d hv (k pp ee RR ss mm aa bb me cc0 HH lc lsC c0 s0 ce se C hR hC hS hl (List.forall_mem_cons.mpr ⟨hn, ho⟩) hcu hsu)
theorem sd_sipush (m pc : Nat) (n : Int) (hn : inR n) (hv : (Int16.ofInt n).toInt32 = Int32.ofInt n) (d : decode (mCod (Md m)) pc = .ok (.sipush n, 3)) : SM G Md D A l m pc (oCI n 3) := by
  refine ⟨mo_oCI n 3, fun ls st h Q k pp ee RR ss mm aa bb me cc0 HH lc lsC c0 s0 ce se C hR hC hS hl ho hcu hsu => ?_⟩
  obtain ⟨⟨hx, hb, hml, hown, hts⟩, hr, hlk, hnm, het, hRm, htr, hA, hG⟩ := id C
  unfold oCI at k
  exact lv_sipush hx hb d hv (k pp ee RR ss mm aa bb me cc0 HH lc lsC c0 s0 ce se C hR hC hS hl (List.forall_mem_cons.mpr ⟨hn, ho⟩) hcu hsu)
theorem sd_lconst (m pc : Nat) (n : Fin 2) (v : Int64) (hv : Int64.ofNat (n : Nat) = v) (d : decode (mCod (Md m)) pc = .ok (.lconst n, 1)) : SM G Md D A l m pc (oCL v 1) := by
  refine ⟨mo_oCL v 1, fun ls st h Q k pp ee RR ss mm aa bb me cc0 HH lc lsC c0 s0 ce se C hR hC hS hl ho hcu hsu => ?_⟩
  obtain ⟨⟨hx, hb, hml, hown, hts⟩, hr, hlk, hnm, het, hRm, htr, hA, hG⟩ := id C
  unfold oCL at k
  exact lv_lconst hx hb d hv (k pp ee RR ss mm aa bb me cc0 HH lc lsC c0 s0 ce se C hR hC hS hl (List.forall_mem_cons.mpr ⟨trivial, ho⟩) hcu hsu)
theorem sd_ldc2 (m pc : Nat) (ix : Nat) (v : Int64) (hw : Cond.constantLong (mOwn (Md m)) ix v ∈ mWs (Md m)) (d : decode (mCod (Md m)) pc = .ok (.ldc2_w ix, 3)) : SM G Md D A l m pc (oCL v 3) := by
  refine ⟨mo_oCL v 3, fun ls st h Q k pp ee RR ss mm aa bb me cc0 HH lc lsC c0 s0 ce se C hR hC hS hl ho hcu hsu => ?_⟩
  obtain ⟨⟨hx, hb, hml, hown, hts⟩, hr, hlk, hnm, het, hRm, htr, hA, hG⟩ := id C
  unfold oCL at k
  exact lv_ldc2 hx hb hown (hts _ hw) d (k pp ee RR ss mm aa bb me cc0 HH lc lsC c0 s0 ce se C hR hC hS hl (List.forall_mem_cons.mpr ⟨trivial, ho⟩) hcu hsu)
theorem sd_dconst0 (m pc : Nat)  (d : decode (mCod (Md m)) pc = .ok (.dconst 0, 1)) : SM G Md D A l m pc (oCD) := by
  refine ⟨mo_oCD, fun ls st h Q k pp ee RR ss mm aa bb me cc0 HH lc lsC c0 s0 ce se C hR hC hS hl ho hcu hsu => ?_⟩
  obtain ⟨⟨hx, hb, hml, hown, hts⟩, hr, hlk, hnm, het, hRm, htr, hA, hG⟩ := id C
  unfold oCD at k
  exact lv_dconst0 hx hb d (k pp ee RR ss mm aa bb me cc0 HH lc lsC c0 s0 ce se C hR hC hS hl (List.forall_mem_cons.mpr ⟨trivial, ho⟩) hcu hsu)
theorem sd_null (m pc : Nat)  (d : decode (mCod (Md m)) pc = .ok (.aconst_null, 1)) : SM G Md D A l m pc (oNull) := by
  refine ⟨mo_oNull, fun ls st h Q k pp ee RR ss mm aa bb me cc0 HH lc lsC c0 s0 ce se C hR hC hS hl ho hcu hsu => ?_⟩
  obtain ⟨⟨hx, hb, hml, hown, hts⟩, hr, hlk, hnm, het, hRm, htr, hA, hG⟩ := id C
  unfold oNull at k
  exact lv_null hx hb d (k pp ee RR ss mm aa bb me cc0 HH lc lsC c0 s0 ce se C hR hC hS hl (List.forall_mem_cons.mpr ⟨trivial, ho⟩) hcu hsu)
theorem sd_iinc (m pc : Nat) (kk : Nat) (n : Int) (hn : kk < mMax (Md m)) (d : decode (mCod (Md m)) pc = .ok (.iinc kk n, 3)) : SM G Md D A l m pc (oInc kk n) := by
  refine ⟨mo_oInc kk n, fun ls st h Q k pp ee RR ss mm aa bb me cc0 HH lc lsC c0 s0 ce se C hR hC hS hl ho hcu hsu => ?_⟩
  obtain ⟨⟨hx, hb, hml, hown, hts⟩, hr, hlk, hnm, het, hRm, htr, hA, hG⟩ := id C
  unfold oInc at k
  split at k
  · next x e =>
    have g := lh_get hl e
    obtain ⟨ki, hki⟩ := List.getElem?_of_mem ((prs_mem ls 0 (kk, cz (zi x))).mpr ⟨kk, zi x, e, by rw [Nat.zero_add]⟩)
    refine lv_iinc (v := Int32.ofInt (x + n)) hx hb d (lh.has hl) hki (by rw [Int32.ofInt_add]) hn rfl (fun ls' hl' => ?_)
    exact k.2 pp ee RR ss mm aa bb me cc0 HH lc ls' c0 s0 ce se C hR hC hS (lh_st1 (v := zi (x + n)) hl k.1 hl') ho hcu hsu
  · exact k.elim
theorem sd_iadd (m pc : Nat)  (d : decode (mCod (Md m)) pc = .ok (.iadd, 1)) : SM G Md D A l m pc (oAdd) := by
  refine ⟨mo_oAdd, fun ls st h Q k pp ee RR ss mm aa bb me cc0 HH lc lsC c0 s0 ce se C hR hC hS hl ho hcu hsu => ?_⟩
  obtain ⟨⟨hx, hb, hml, hown, hts⟩, hr, hlk, hnm, het, hRm, htr, hA, hG⟩ := id C
  unfold oAdd at k
  split at k
  · next b a r =>
    replace ho := List.forall_mem_cons.mp ho
    obtain ⟨ob, ho⟩ := ho
    replace ho := List.forall_mem_cons.mp ho
    obtain ⟨oa, ho⟩ := ho
    refine lv_iadd hx hb d ?_
    rw [← Int32.ofInt_add]
    exact k.2 pp ee RR ss mm aa bb me cc0 HH lc lsC c0 s0 ce se C hR hC hS hl (List.forall_mem_cons.mpr ⟨k.1, ho⟩) hcu hsu
  · exact k.elim
theorem sd_isub (m pc : Nat)  (d : decode (mCod (Md m)) pc = .ok (.isub, 1)) : SM G Md D A l m pc (oSub) := by
  refine ⟨mo_oSub, fun ls st h Q k pp ee RR ss mm aa bb me cc0 HH lc lsC c0 s0 ce se C hR hC hS hl ho hcu hsu => ?_⟩
  obtain ⟨⟨hx, hb, hml, hown, hts⟩, hr, hlk, hnm, het, hRm, htr, hA, hG⟩ := id C
  unfold oSub at k
  split at k
  · next b a r =>
    replace ho := List.forall_mem_cons.mp ho
    obtain ⟨ob, ho⟩ := ho
    replace ho := List.forall_mem_cons.mp ho
    obtain ⟨oa, ho⟩ := ho
    refine lv_isub hx hb d ?_
    rw [← Int32.ofInt_sub]
    exact k.2 pp ee RR ss mm aa bb me cc0 HH lc lsC c0 s0 ce se C hR hC hS hl (List.forall_mem_cons.mpr ⟨k.1, ho⟩) hcu hsu
  · exact k.elim
theorem sd_imul (m pc : Nat)  (d : decode (mCod (Md m)) pc = .ok (.imul, 1)) : SM G Md D A l m pc (oMul) := by
  refine ⟨mo_oMul, fun ls st h Q k pp ee RR ss mm aa bb me cc0 HH lc lsC c0 s0 ce se C hR hC hS hl ho hcu hsu => ?_⟩
  obtain ⟨⟨hx, hb, hml, hown, hts⟩, hr, hlk, hnm, het, hRm, htr, hA, hG⟩ := id C
  unfold oMul at k
  split at k
  · next b a r =>
    replace ho := List.forall_mem_cons.mp ho
    obtain ⟨ob, ho⟩ := ho
    replace ho := List.forall_mem_cons.mp ho
    obtain ⟨oa, ho⟩ := ho
    refine lv_imul hx hb d ?_
    rw [← Int32.ofInt_mul]
    exact k.2 pp ee RR ss mm aa bb me cc0 HH lc lsC c0 s0 ce se C hR hC hS hl (List.forall_mem_cons.mpr ⟨k.1, ho⟩) hcu hsu
  · exact k.elim
theorem z_div {a b : Int} (ha : inR a) (hb : inR b) (h0 : 0 ≤ a) (h1 : 0 < b) : Int32.ofInt a / Int32.ofInt b = Int32.ofInt (a / b) ∧ inR (a / b) := by
  have h2 : 0 ≤ a / b := Int.ediv_nonneg h0 (Int.le_of_lt h1)
  have h3 : a / b ≤ a := Int.ediv_le_self b h0
  have h4 : inR (a / b) := ⟨by have := ha.1; omega, by have := ha.2; omega⟩
  refine ⟨?_, h4⟩
  rw [← Int32.toInt_inj, z_ofI h4, Int32.toInt_div, z_ofI ha, z_ofI hb, Int.tdiv_eq_ediv_of_nonneg h0]
  exact Int.bmod_eq_of_le (by have := h4.1; omega) (by have := h4.2; omega)
theorem z_rem {a b : Int} (ha : inR a) (hb : inR b) (h0 : 0 ≤ a) (h1 : 0 < b) : Int32.ofInt a - Int32.ofInt a / Int32.ofInt b * Int32.ofInt b = Int32.ofInt (a % b) ∧ inR (a % b) := by
  have h2 : 0 ≤ a % b := Int.emod_nonneg a (Int.ne_of_gt h1)
  have h3 : a % b < b := Int.emod_lt_of_pos a h1
  refine ⟨?_, ⟨by omega, by have := hb.2; omega⟩⟩
  rw [(z_div ha hb h0 h1).1, ← Int32.ofInt_mul, ← Int32.ofInt_sub]
  congr 1
  have := Int.emod_add_mul_ediv a b
  rw [Int.mul_comm] at this
  omega
theorem z_and {a : Int} : Int32.ofInt a &&& Int32.ofInt 31 = Int32.ofInt (a % 32) := by
  apply Int32.toBitVec_inj.mp
  rw [Int32.toBitVec_and, Int32.toBitVec_ofInt, Int32.toBitVec_ofInt, Int32.toBitVec_ofInt]
  apply BitVec.eq_of_toNat_eq
  rw [BitVec.toNat_and, BitVec.toNat_ofInt, BitVec.toNat_ofInt, BitVec.toNat_ofInt]
  have e : ((31 : Int) % (2 ^ 32 : Nat)).toNat = 2 ^ 5 - 1 := by decide
  rw [e, Nat.and_two_pow_sub_one_eq_mod]
  have h1 : 0 ≤ a % ((2 ^ 32 : Nat) : Int) := Int.emod_nonneg a (by decide)
  have h2 : 0 ≤ a % 32 := Int.emod_nonneg a (by decide)
  have h3 : a % 32 < 32 := Int.emod_lt_of_pos a (by decide)
  apply Int.ofNat.inj
  show (((a % ((2 ^ 32 : Nat) : Int)).toNat % 2 ^ 5 : Nat) : Int) = ((a % 32 % ((2 ^ 32 : Nat) : Int)).toNat : Int)
  rw [Int.natCast_emod, Int.toNat_of_nonneg h1, Int.toNat_of_nonneg (Int.emod_nonneg _ (by decide))]
  have e2 : (((2 ^ 5 : Nat)) : Int) = 32 := by decide
  have e3 : (((2 ^ 32 : Nat)) : Int) = 4294967296 := by decide
  rw [e2, e3]
  omega
theorem sd_idiv (m pc : Nat)  (d : decode (mCod (Md m)) pc = .ok (.idiv, 1)) : SM G Md D A l m pc (oDiv) := by
  refine ⟨mo_oDiv, fun ls st h Q k pp ee RR ss mm aa bb me cc0 HH lc lsC c0 s0 ce se C hR hC hS hl ho hcu hsu => ?_⟩
  obtain ⟨⟨hx, hb, hml, hown, hts⟩, hr, hlk, hnm, het, hRm, htr, hA, hG⟩ := id C
  unfold oDiv at k
  split at k
  · next b a r =>
    replace ho := List.forall_mem_cons.mp ho
    obtain ⟨ob, ho⟩ := ho
    replace ho := List.forall_mem_cons.mp ho
    obtain ⟨oa, ho⟩ := ho
    have z := z_div oa ob k.1.1 k.1.2
    refine lv_idiv hx hb d (fun q => ?_) ?_
    · rw [z_0e, z_eq ob z_0] at q
      have := k.1.2
      omega
    · rw [z.1]
      exact k.2 pp ee RR ss mm aa bb me cc0 HH lc lsC c0 s0 ce se C hR hC hS hl (List.forall_mem_cons.mpr ⟨z.2, ho⟩) hcu hsu
  · exact k.elim
theorem sd_irem (m pc : Nat)  (d : decode (mCod (Md m)) pc = .ok (.irem, 1)) : SM G Md D A l m pc (oRem) := by
  refine ⟨mo_oRem, fun ls st h Q k pp ee RR ss mm aa bb me cc0 HH lc lsC c0 s0 ce se C hR hC hS hl ho hcu hsu => ?_⟩
  obtain ⟨⟨hx, hb, hml, hown, hts⟩, hr, hlk, hnm, het, hRm, htr, hA, hG⟩ := id C
  unfold oRem at k
  split at k
  · next b a r =>
    replace ho := List.forall_mem_cons.mp ho
    obtain ⟨ob, ho⟩ := ho
    replace ho := List.forall_mem_cons.mp ho
    obtain ⟨oa, ho⟩ := ho
    have z := z_rem oa ob k.1.1 k.1.2
    refine lv_irem hx hb d (fun q => ?_) ?_
    · rw [z_0e, z_eq ob z_0] at q
      have := k.1.2
      omega
    · rw [z.1]
      exact k.2 pp ee RR ss mm aa bb me cc0 HH lc lsC c0 s0 ce se C hR hC hS hl (List.forall_mem_cons.mpr ⟨z.2, ho⟩) hcu hsu
  · exact k.elim
theorem sd_iand (m pc : Nat)  (d : decode (mCod (Md m)) pc = .ok (.iand, 1)) : SM G Md D A l m pc (oAnd) := by
  refine ⟨mo_oAnd, fun ls st h Q k pp ee RR ss mm aa bb me cc0 HH lc lsC c0 s0 ce se C hR hC hS hl ho hcu hsu => ?_⟩
  obtain ⟨⟨hx, hb, hml, hown, hts⟩, hr, hlk, hnm, het, hRm, htr, hA, hG⟩ := id C
  unfold oAnd at k
  split at k
  · next b a r =>
    replace ho := List.forall_mem_cons.mp ho
    obtain ⟨ob, ho⟩ := ho
    replace ho := List.forall_mem_cons.mp ho
    obtain ⟨oa, ho⟩ := ho
    refine lv_iand hx hb d ?_
    have e : Int32.ofInt a &&& Int32.ofInt b = Int32.ofInt (if b = 31 then a % 32 else a * b) ∧ inR (if b = 31 then a % 32 else a * b) := by
      by_cases q : b = 31
      · subst q
        rw [if_pos rfl, z_and]
        have h2 : 0 ≤ a % 32 := Int.emod_nonneg a (by decide)
        have h3 : a % 32 < 32 := Int.emod_lt_of_pos a (by decide)
        exact ⟨rfl, by unfold inR; omega⟩
      · rw [if_neg q]
        rcases k.1 with q2 | ⟨q2, q3⟩
        · exact absurd q2 q
        · rcases q2 with rfl | rfl <;> rcases q3 with rfl | rfl <;> exact ⟨by decide, by unfold inR; omega⟩
    rw [e.1]
    exact k.2 pp ee RR ss mm aa bb me cc0 HH lc lsC c0 s0 ce se C hR hC hS hl (List.forall_mem_cons.mpr ⟨e.2, ho⟩) hcu hsu
  · exact k.elim
theorem sd_i2l (m pc : Nat)  (d : decode (mCod (Md m)) pc = .ok (.i2l, 1)) : SM G Md D A l m pc (oI2L) := by
  refine ⟨mo_oI2L, fun ls st h Q k pp ee RR ss mm aa bb me cc0 HH lc lsC c0 s0 ce se C hR hC hS hl ho hcu hsu => ?_⟩
  obtain ⟨⟨hx, hb, hml, hown, hts⟩, hr, hlk, hnm, het, hRm, htr, hA, hG⟩ := id C
  unfold oI2L at k
  split at k
  · next a r =>
    replace ho := List.forall_mem_cons.mp ho
    obtain ⟨oa, ho⟩ := ho
    refine lv_i2l (v := Int64.ofInt a) hx hb d ?_ (k pp ee RR ss mm aa bb me cc0 HH lc lsC c0 s0 ce se C hR hC hS hl (List.forall_mem_cons.mpr ⟨trivial, ho⟩) hcu hsu)
    rw [← Int64.toInt_inj, Int32.toInt_toInt64, z_ofI oa, Int64.toInt_ofInt_of_le (by have := oa.1; omega) (by have := oa.2; omega)]
  · exact k.elim
theorem sd_ladd (m pc : Nat)  (d : decode (mCod (Md m)) pc = .ok (.ladd, 1)) : SM G Md D A l m pc (oLAdd) := by
  refine ⟨mo_oLAdd, fun ls st h Q k pp ee RR ss mm aa bb me cc0 HH lc lsC c0 s0 ce se C hR hC hS hl ho hcu hsu => ?_⟩
  obtain ⟨⟨hx, hb, hml, hown, hts⟩, hr, hlk, hnm, het, hRm, htr, hA, hG⟩ := id C
  unfold oLAdd at k
  split at k
  · next b a r =>
    replace ho := List.forall_mem_cons.mp ho
    obtain ⟨ob, ho⟩ := ho
    replace ho := List.forall_mem_cons.mp ho
    obtain ⟨oa, ho⟩ := ho
    exact lv_ladd hx hb d (k pp ee RR ss mm aa bb me cc0 HH lc lsC c0 s0 ce se C hR hC hS hl (List.forall_mem_cons.mpr ⟨trivial, ho⟩) hcu hsu)
  · exact k.elim
theorem sd_lmul (m pc : Nat)  (d : decode (mCod (Md m)) pc = .ok (.lmul, 1)) : SM G Md D A l m pc (oLMul) := by
  refine ⟨mo_oLMul, fun ls st h Q k pp ee RR ss mm aa bb me cc0 HH lc lsC c0 s0 ce se C hR hC hS hl ho hcu hsu => ?_⟩
  obtain ⟨⟨hx, hb, hml, hown, hts⟩, hr, hlk, hnm, het, hRm, htr, hA, hG⟩ := id C
  unfold oLMul at k
  split at k
  · next b a r =>
    replace ho := List.forall_mem_cons.mp ho
    obtain ⟨ob, ho⟩ := ho
    replace ho := List.forall_mem_cons.mp ho
    obtain ⟨oa, ho⟩ := ho
    exact lv_lmul hx hb d (k pp ee RR ss mm aa bb me cc0 HH lc lsC c0 s0 ce se C hR hC hS hl (List.forall_mem_cons.mpr ⟨trivial, ho⟩) hcu hsu)
  · exact k.elim
theorem z_lcmp (a b : Int64) : lg_cmp a b = Int32.ofInt (if a = b then 0 else if a < b then -1 else 1) ∧ inR (if a = b then 0 else if a < b then -1 else 1) := by
  unfold lg_cmp
  by_cases h : a = b
  · subst h
    have : ¬ a > a := by rw [gt_iff_lt, Int64.lt_iff_toInt_lt]; omega
    simp [this, inR]
  · by_cases h2 : a < b
    · have : ¬ a > b := by rw [gt_iff_lt, Int64.lt_iff_toInt_lt]; rw [Int64.lt_iff_toInt_lt] at h2; omega
      simp [this, h, h2, inR]
    · have : a > b := by
        rw [gt_iff_lt, Int64.lt_iff_toInt_lt]; rw [Int64.lt_iff_toInt_lt] at h2
        have : a.toInt ≠ b.toInt := fun q => h (Int64.toInt_inj.mp q)
        omega
      simp [this, h, h2, inR]
theorem sd_lcmp (m pc : Nat)  (d : decode (mCod (Md m)) pc = .ok (.lcmp, 1)) : SM G Md D A l m pc (oLCmp) := by
  refine ⟨mo_oLCmp, fun ls st h Q k pp ee RR ss mm aa bb me cc0 HH lc lsC c0 s0 ce se C hR hC hS hl ho hcu hsu => ?_⟩
  obtain ⟨⟨hx, hb, hml, hown, hts⟩, hr, hlk, hnm, het, hRm, htr, hA, hG⟩ := id C
  unfold oLCmp at k
  split at k
  · next b a r =>
    replace ho := List.forall_mem_cons.mp ho
    obtain ⟨ob, ho⟩ := ho
    replace ho := List.forall_mem_cons.mp ho
    obtain ⟨oa, ho⟩ := ho
    refine W.lcmp hx hb d ?_
    rw [(z_lcmp a b).1]
    exact k pp ee RR ss mm aa bb me cc0 HH lc lsC c0 s0 ce se C hR hC hS hl (List.forall_mem_cons.mpr ⟨(z_lcmp a b).2, ho⟩) hcu hsu
  · exact k.elim
theorem sd_i2d (m pc : Nat)  (d : decode (mCod (Md m)) pc = .ok (.i2d, 1)) : SM G Md D A l m pc (oI2D) := by
  refine ⟨mo_oI2D, fun ls st h Q k pp ee RR ss mm aa bb me cc0 HH lc lsC c0 s0 ce se C hR hC hS hl ho hcu hsu => ?_⟩
  obtain ⟨⟨hx, hb, hml, hown, hts⟩, hr, hlk, hnm, het, hRm, htr, hA, hG⟩ := id C
  unfold oI2D at k
  split at k
  · next a r =>
    replace ho := List.forall_mem_cons.mp ho
    obtain ⟨oa, ho⟩ := ho
    exact lv_i2d hx hb d (k pp ee RR ss mm aa bb me cc0 HH lc lsC c0 s0 ce se C hR hC hS hl (List.forall_mem_cons.mpr ⟨trivial, ho⟩) hcu hsu)
  · exact k.elim
theorem sd_ddiv (m pc : Nat)  (d : decode (mCod (Md m)) pc = .ok (.ddiv, 1)) : SM G Md D A l m pc (oDDiv) := by
  refine ⟨mo_oDDiv, fun ls st h Q k pp ee RR ss mm aa bb me cc0 HH lc lsC c0 s0 ce se C hR hC hS hl ho hcu hsu => ?_⟩
  obtain ⟨⟨hx, hb, hml, hown, hts⟩, hr, hlk, hnm, het, hRm, htr, hA, hG⟩ := id C
  unfold oDDiv at k
  split at k
  · next b a r =>
    replace ho := List.forall_mem_cons.mp ho
    obtain ⟨ob, ho⟩ := ho
    replace ho := List.forall_mem_cons.mp ho
    obtain ⟨oa, ho⟩ := ho
    exact lv_ddiv hx hb d k.1 (k.2 pp ee RR ss mm aa bb me cc0 HH lc lsC c0 s0 ce se C hR hC hS hl (List.forall_mem_cons.mpr ⟨trivial, ho⟩) hcu hsu)
  · exact k.elim
theorem z_i32 (x : Int32) : x = Int32.ofInt x.toInt ∧ inR x.toInt := by
  have h := Int32.toInt_lt x
  have h2 := Int32.le_toInt x
  have h3 : inR x.toInt := ⟨by omega, by omega⟩
  exact ⟨Int32.toInt_inj.mp (z_ofI h3).symm, h3⟩
theorem sd_dcmp (m pc : Nat) (o : CmpOp) (d : decode (mCod (Md m)) pc = .ok (.dcmp o, 1)) : SM G Md D A l m pc (oDCmp o) := by
  refine ⟨mo_oDCmp o, fun ls st h Q k pp ee RR ss mm aa bb me cc0 HH lc lsC c0 s0 ce se C hR hC hS hl ho hcu hsu => ?_⟩
  obtain ⟨⟨hx, hb, hml, hown, hts⟩, hr, hlk, hnm, het, hRm, htr, hA, hG⟩ := id C
  unfold oDCmp at k
  split at k
  · next b a r =>
    replace ho := List.forall_mem_cons.mp ho
    obtain ⟨ob, ho⟩ := ho
    replace ho := List.forall_mem_cons.mp ho
    obtain ⟨oa, ho⟩ := ho
    refine lv_dcmp hx hb d ?_
    rw [(z_i32 (Op.cmpValue (FP.dcmp a b) o)).1]
    exact k pp ee RR ss mm aa bb me cc0 HH lc lsC c0 s0 ce se C hR hC hS hl (List.forall_mem_cons.mpr ⟨(z_i32 _).2, ho⟩) hcu hsu
  · exact k.elim
theorem sd_dup (m pc : Nat)  (d : decode (mCod (Md m)) pc = .ok (.dup, 1)) : SM G Md D A l m pc (oDup) := by
  refine ⟨mo_oDup, fun ls st h Q k pp ee RR ss mm aa bb me cc0 HH lc lsC c0 s0 ce se C hR hC hS hl ho hcu hsu => ?_⟩
  obtain ⟨⟨hx, hb, hml, hown, hts⟩, hr, hlk, hnm, het, hRm, htr, hA, hG⟩ := id C
  unfold oDup at k
  split at k
  · next a r =>
    obtain ⟨k1, k⟩ := gd_iff.mp k
    have k1 := Nat.eq_of_beq_eq_true k1
    replace ho := List.forall_mem_cons.mp ho
    obtain ⟨oa, ho⟩ := ho
    exact lv_dup hx hb d (by rw [ctz_cz]; exact k1) (k pp ee RR ss mm aa bb me cc0 HH lc lsC c0 s0 ce se C hR hC hS hl (List.forall_mem_cons.mpr ⟨oa, List.forall_mem_cons.mpr ⟨oa, ho⟩⟩) hcu hsu)
  · exact k.elim
theorem sd_dup_x1 (m pc : Nat)  (d : decode (mCod (Md m)) pc = .ok (.dup_x1, 1)) : SM G Md D A l m pc (oDupX1) := by
  refine ⟨mo_oDupX1, fun ls st h Q k pp ee RR ss mm aa bb me cc0 HH lc lsC c0 s0 ce se C hR hC hS hl ho hcu hsu => ?_⟩
  obtain ⟨⟨hx, hb, hml, hown, hts⟩, hr, hlk, hnm, het, hRm, htr, hA, hG⟩ := id C
  unfold oDupX1 at k
  split at k
  · next a b r =>
    obtain ⟨k1, k⟩ := gd_iff.mp k
    obtain ⟨k1, k2⟩ := Bool.and_eq_true_iff.mp k1
    have k1 := Nat.eq_of_beq_eq_true k1
    have k2 := Nat.eq_of_beq_eq_true k2
    replace ho := List.forall_mem_cons.mp ho
    obtain ⟨oa, ho⟩ := ho
    replace ho := List.forall_mem_cons.mp ho
    obtain ⟨ob, ho⟩ := ho
    exact lv_dup_x1 hx hb d (by rw [ctz_cz]; exact k1) (by rw [ctz_cz]; exact k2) (k pp ee RR ss mm aa bb me cc0 HH lc lsC c0 s0 ce se C hR hC hS hl (List.forall_mem_cons.mpr ⟨oa, List.forall_mem_cons.mpr ⟨ob, List.forall_mem_cons.mpr ⟨oa, ho⟩⟩⟩) hcu hsu)
  · exact k.elim
theorem sd_dup2 (m pc : Nat)  (d : decode (mCod (Md m)) pc = .ok (.dup2, 1)) : SM G Md D A l m pc (oDup2) := by
  refine ⟨mo_oDup2, fun ls st h Q k pp ee RR ss mm aa bb me cc0 HH lc lsC c0 s0 ce se C hR hC hS hl ho hcu hsu => ?_⟩
  obtain ⟨⟨hx, hb, hml, hown, hts⟩, hr, hlk, hnm, het, hRm, htr, hA, hG⟩ := id C
  unfold oDup2 at k
  split at k
  · next a b r =>
    obtain ⟨k1, k⟩ := gd_iff.mp k
    obtain ⟨k1, k2⟩ := Bool.and_eq_true_iff.mp k1
    have k1 := Nat.eq_of_beq_eq_true k1
    have k2 := Nat.eq_of_beq_eq_true k2
    replace ho := List.forall_mem_cons.mp ho
    obtain ⟨oa, ho⟩ := ho
    replace ho := List.forall_mem_cons.mp ho
    obtain ⟨ob, ho⟩ := ho
    exact lv_dup2_11 hx hb d (by rw [ctz_cz]; exact k1) (by rw [ctz_cz]; exact k2) (k pp ee RR ss mm aa bb me cc0 HH lc lsC c0 s0 ce se C hR hC hS hl (List.forall_mem_cons.mpr ⟨oa, List.forall_mem_cons.mpr ⟨ob, List.forall_mem_cons.mpr ⟨oa, List.forall_mem_cons.mpr ⟨ob, ho⟩⟩⟩⟩) hcu hsu)
  · exact k.elim
theorem sd_if_eq (m pc : Nat) (off : Int) (t : Nat) (ht : (pc : Int) + off = (t : Int)) (d : decode (mCod (Md m)) pc = .ok (.ifCond .eq off, 3)) : SM G Md D A l m pc (oZeq t) := by
  refine ⟨mo_oZeq t, fun ls st h Q k pp ee RR ss mm aa bb me cc0 HH lc lsC c0 s0 ce se C hR hC hS hl ho hcu hsu => ?_⟩
  obtain ⟨⟨hx, hb, hml, hown, hts⟩, hr, hlk, hnm, het, hRm, htr, hA, hG⟩ := id C
  unfold oZeq at k
  split at k
  · next a r =>
    replace ho := List.forall_mem_cons.mp ho
    obtain ⟨oa, ho⟩ := ho
    exact lv_if_eq hx hb d ht (fun q => k.1 ((z_eq oa z_0).mp q) pp ee RR ss mm aa bb me cc0 HH lc lsC c0 s0 ce se C hR hC hS hl ho hcu hsu) (fun q => k.2 (fun z => q ((z_eq oa z_0).mpr z)) pp ee RR ss mm aa bb me cc0 HH lc lsC c0 s0 ce se C hR hC hS hl ho hcu hsu)
  · exact k.elim
theorem sd_if_ne (m pc : Nat) (off : Int) (t : Nat) (ht : (pc : Int) + off = (t : Int)) (d : decode (mCod (Md m)) pc = .ok (.ifCond .ne off, 3)) : SM G Md D A l m pc (oZne t) := by
  refine ⟨mo_oZne t, fun ls st h Q k pp ee RR ss mm aa bb me cc0 HH lc lsC c0 s0 ce se C hR hC hS hl ho hcu hsu => ?_⟩
  obtain ⟨⟨hx, hb, hml, hown, hts⟩, hr, hlk, hnm, het, hRm, htr, hA, hG⟩ := id C
  unfold oZne at k
  split at k
  · next a r =>
    replace ho := List.forall_mem_cons.mp ho
    obtain ⟨oa, ho⟩ := ho
    exact lv_if_ne hx hb d ht (fun q => k.2 (fun z => q ((z_eq oa z_0).mpr z)) pp ee RR ss mm aa bb me cc0 HH lc lsC c0 s0 ce se C hR hC hS hl ho hcu hsu) (fun q => k.1 ((z_eq oa z_0).mp q) pp ee RR ss mm aa bb me cc0 HH lc lsC c0 s0 ce se C hR hC hS hl ho hcu hsu)
  · exact k.elim
theorem sd_if_lt (m pc : Nat) (off : Int) (t : Nat) (ht : (pc : Int) + off = (t : Int)) (d : decode (mCod (Md m)) pc = .ok (.ifCond .lt off, 3)) : SM G Md D A l m pc (oZlt t) := by
  refine ⟨mo_oZlt t, fun ls st h Q k pp ee RR ss mm aa bb me cc0 HH lc lsC c0 s0 ce se C hR hC hS hl ho hcu hsu => ?_⟩
  obtain ⟨⟨hx, hb, hml, hown, hts⟩, hr, hlk, hnm, het, hRm, htr, hA, hG⟩ := id C
  unfold oZlt at k
  split at k
  · next a r =>
    replace ho := List.forall_mem_cons.mp ho
    obtain ⟨oa, ho⟩ := ho
    exact lv_if_lt hx hb d ht (fun q => k.1 ((z_lt oa z_0).mp q) pp ee RR ss mm aa bb me cc0 HH lc lsC c0 s0 ce se C hR hC hS hl ho hcu hsu) (fun q => k.2 (fun z => q ((z_lt oa z_0).mpr z)) pp ee RR ss mm aa bb me cc0 HH lc lsC c0 s0 ce se C hR hC hS hl ho hcu hsu)
  · exact k.elim
theorem sd_if_ge (m pc : Nat) (off : Int) (t : Nat) (ht : (pc : Int) + off = (t : Int)) (d : decode (mCod (Md m)) pc = .ok (.ifCond .ge off, 3)) : SM G Md D A l m pc (oZge t) := by
  refine ⟨mo_oZge t, fun ls st h Q k pp ee RR ss mm aa bb me cc0 HH lc lsC c0 s0 ce se C hR hC hS hl ho hcu hsu => ?_⟩
  obtain ⟨⟨hx, hb, hml, hown, hts⟩, hr, hlk, hnm, het, hRm, htr, hA, hG⟩ := id C
  unfold oZge at k
  split at k
  · next a r =>
    replace ho := List.forall_mem_cons.mp ho
    obtain ⟨oa, ho⟩ := ho
    exact lv_if_ge hx hb d ht (fun q => k.1 ((z_le z_0 oa).mp q) pp ee RR ss mm aa bb me cc0 HH lc lsC c0 s0 ce se C hR hC hS hl ho hcu hsu) (fun q => k.2 (fun z => q ((z_le z_0 oa).mpr z)) pp ee RR ss mm aa bb me cc0 HH lc lsC c0 s0 ce se C hR hC hS hl ho hcu hsu)
  · exact k.elim
theorem sd_if_gt (m pc : Nat) (off : Int) (t : Nat) (ht : (pc : Int) + off = (t : Int)) (d : decode (mCod (Md m)) pc = .ok (.ifCond .gt off, 3)) : SM G Md D A l m pc (oZgt t) := by
  refine ⟨mo_oZgt t, fun ls st h Q k pp ee RR ss mm aa bb me cc0 HH lc lsC c0 s0 ce se C hR hC hS hl ho hcu hsu => ?_⟩
  obtain ⟨⟨hx, hb, hml, hown, hts⟩, hr, hlk, hnm, het, hRm, htr, hA, hG⟩ := id C
  unfold oZgt at k
  split at k
  · next a r =>
    replace ho := List.forall_mem_cons.mp ho
    obtain ⟨oa, ho⟩ := ho
    exact lv_if_gt hx hb d ht (fun q => k.1 ((z_lt z_0 oa).mp q) pp ee RR ss mm aa bb me cc0 HH lc lsC c0 s0 ce se C hR hC hS hl ho hcu hsu) (fun q => k.2 (fun z => q ((z_lt z_0 oa).mpr z)) pp ee RR ss mm aa bb me cc0 HH lc lsC c0 s0 ce se C hR hC hS hl ho hcu hsu)
  · exact k.elim
theorem sd_if_le (m pc : Nat) (off : Int) (t : Nat) (ht : (pc : Int) + off = (t : Int)) (d : decode (mCod (Md m)) pc = .ok (.ifCond .le off, 3)) : SM G Md D A l m pc (oZle t) := by
  refine ⟨mo_oZle t, fun ls st h Q k pp ee RR ss mm aa bb me cc0 HH lc lsC c0 s0 ce se C hR hC hS hl ho hcu hsu => ?_⟩
  obtain ⟨⟨hx, hb, hml, hown, hts⟩, hr, hlk, hnm, het, hRm, htr, hA, hG⟩ := id C
  unfold oZle at k
  split at k
  · next a r =>
    replace ho := List.forall_mem_cons.mp ho
    obtain ⟨oa, ho⟩ := ho
    exact lv_if_le hx hb d ht (fun q => k.1 ((z_le oa z_0).mp q) pp ee RR ss mm aa bb me cc0 HH lc lsC c0 s0 ce se C hR hC hS hl ho hcu hsu) (fun q => k.2 (fun z => q ((z_le oa z_0).mpr z)) pp ee RR ss mm aa bb me cc0 HH lc lsC c0 s0 ce se C hR hC hS hl ho hcu hsu)
  · exact k.elim
theorem sd_icmp_eq (m pc : Nat) (off : Int) (t : Nat) (ht : (pc : Int) + off = (t : Int)) (d : decode (mCod (Md m)) pc = .ok (.if_icmp .eq off, 3)) : SM G Md D A l m pc (oCeq t) := by
  refine ⟨mo_oCeq t, fun ls st h Q k pp ee RR ss mm aa bb me cc0 HH lc lsC c0 s0 ce se C hR hC hS hl ho hcu hsu => ?_⟩
  obtain ⟨⟨hx, hb, hml, hown, hts⟩, hr, hlk, hnm, het, hRm, htr, hA, hG⟩ := id C
  unfold oCeq at k
  split at k
  · next b a r =>
    replace ho := List.forall_mem_cons.mp ho
    obtain ⟨ob, ho⟩ := ho
    replace ho := List.forall_mem_cons.mp ho
    obtain ⟨oa, ho⟩ := ho
    exact lv_icmp_eq hx hb d ht (fun q => k.1 ((z_eq oa ob).mp q) pp ee RR ss mm aa bb me cc0 HH lc lsC c0 s0 ce se C hR hC hS hl ho hcu hsu) (fun q => k.2 (fun z => q ((z_eq oa ob).mpr z)) pp ee RR ss mm aa bb me cc0 HH lc lsC c0 s0 ce se C hR hC hS hl ho hcu hsu)
  · exact k.elim
theorem sd_icmp_ne (m pc : Nat) (off : Int) (t : Nat) (ht : (pc : Int) + off = (t : Int)) (d : decode (mCod (Md m)) pc = .ok (.if_icmp .ne off, 3)) : SM G Md D A l m pc (oCne t) := by
  refine ⟨mo_oCne t, fun ls st h Q k pp ee RR ss mm aa bb me cc0 HH lc lsC c0 s0 ce se C hR hC hS hl ho hcu hsu => ?_⟩
  obtain ⟨⟨hx, hb, hml, hown, hts⟩, hr, hlk, hnm, het, hRm, htr, hA, hG⟩ := id C
  unfold oCne at k
  split at k
  · next b a r =>
    replace ho := List.forall_mem_cons.mp ho
    obtain ⟨ob, ho⟩ := ho
    replace ho := List.forall_mem_cons.mp ho
    obtain ⟨oa, ho⟩ := ho
    exact lv_icmp_ne hx hb d ht (fun q => k.2 (fun z => q ((z_eq oa ob).mpr z)) pp ee RR ss mm aa bb me cc0 HH lc lsC c0 s0 ce se C hR hC hS hl ho hcu hsu) (fun q => k.1 ((z_eq oa ob).mp q) pp ee RR ss mm aa bb me cc0 HH lc lsC c0 s0 ce se C hR hC hS hl ho hcu hsu)
  · exact k.elim
theorem sd_icmp_lt (m pc : Nat) (off : Int) (t : Nat) (ht : (pc : Int) + off = (t : Int)) (d : decode (mCod (Md m)) pc = .ok (.if_icmp .lt off, 3)) : SM G Md D A l m pc (oClt t) := by
  refine ⟨mo_oClt t, fun ls st h Q k pp ee RR ss mm aa bb me cc0 HH lc lsC c0 s0 ce se C hR hC hS hl ho hcu hsu => ?_⟩
  obtain ⟨⟨hx, hb, hml, hown, hts⟩, hr, hlk, hnm, het, hRm, htr, hA, hG⟩ := id C
  unfold oClt at k
  split at k
  · next b a r =>
    replace ho := List.forall_mem_cons.mp ho
    obtain ⟨ob, ho⟩ := ho
    replace ho := List.forall_mem_cons.mp ho
    obtain ⟨oa, ho⟩ := ho
    exact lv_icmp_lt hx hb d ht (fun q => k.1 ((z_lt oa ob).mp q) pp ee RR ss mm aa bb me cc0 HH lc lsC c0 s0 ce se C hR hC hS hl ho hcu hsu) (fun q => k.2 (fun z => q ((z_lt oa ob).mpr z)) pp ee RR ss mm aa bb me cc0 HH lc lsC c0 s0 ce se C hR hC hS hl ho hcu hsu)
  · exact k.elim
theorem sd_icmp_ge (m pc : Nat) (off : Int) (t : Nat) (ht : (pc : Int) + off = (t : Int)) (d : decode (mCod (Md m)) pc = .ok (.if_icmp .ge off, 3)) : SM G Md D A l m pc (oCge t) := by
  refine ⟨mo_oCge t, fun ls st h Q k pp ee RR ss mm aa bb me cc0 HH lc lsC c0 s0 ce se C hR hC hS hl ho hcu hsu => ?_⟩
  obtain ⟨⟨hx, hb, hml, hown, hts⟩, hr, hlk, hnm, het, hRm, htr, hA, hG⟩ := id C
  unfold oCge at k
  split at k
  · next b a r =>
    replace ho := List.forall_mem_cons.mp ho
    obtain ⟨ob, ho⟩ := ho
    replace ho := List.forall_mem_cons.mp ho
    obtain ⟨oa, ho⟩ := ho
    exact lv_icmp_ge hx hb d ht (fun q => k.1 ((z_le ob oa).mp q) pp ee RR ss mm aa bb me cc0 HH lc lsC c0 s0 ce se C hR hC hS hl ho hcu hsu) (fun q => k.2 (fun z => q ((z_le ob oa).mpr z)) pp ee RR ss mm aa bb me cc0 HH lc lsC c0 s0 ce se C hR hC hS hl ho hcu hsu)
  · exact k.elim
theorem sd_icmp_gt (m pc : Nat) (off : Int) (t : Nat) (ht : (pc : Int) + off = (t : Int)) (d : decode (mCod (Md m)) pc = .ok (.if_icmp .gt off, 3)) : SM G Md D A l m pc (oCgt t) := by
  refine ⟨mo_oCgt t, fun ls st h Q k pp ee RR ss mm aa bb me cc0 HH lc lsC c0 s0 ce se C hR hC hS hl ho hcu hsu => ?_⟩
  obtain ⟨⟨hx, hb, hml, hown, hts⟩, hr, hlk, hnm, het, hRm, htr, hA, hG⟩ := id C
  unfold oCgt at k
  split at k
  · next b a r =>
    replace ho := List.forall_mem_cons.mp ho
    obtain ⟨ob, ho⟩ := ho
    replace ho := List.forall_mem_cons.mp ho
    obtain ⟨oa, ho⟩ := ho
    exact lv_icmp_gt hx hb d ht (fun q => k.1 ((z_lt ob oa).mp q) pp ee RR ss mm aa bb me cc0 HH lc lsC c0 s0 ce se C hR hC hS hl ho hcu hsu) (fun q => k.2 (fun z => q ((z_lt ob oa).mpr z)) pp ee RR ss mm aa bb me cc0 HH lc lsC c0 s0 ce se C hR hC hS hl ho hcu hsu)
  · exact k.elim
theorem sd_icmp_le (m pc : Nat) (off : Int) (t : Nat) (ht : (pc : Int) + off = (t : Int)) (d : decode (mCod (Md m)) pc = .ok (.if_icmp .le off, 3)) : SM G Md D A l m pc (oCle t) := by
  refine ⟨mo_oCle t, fun ls st h Q k pp ee RR ss mm aa bb me cc0 HH lc lsC c0 s0 ce se C hR hC hS hl ho hcu hsu => ?_⟩
  obtain ⟨⟨hx, hb, hml, hown, hts⟩, hr, hlk, hnm, het, hRm, htr, hA, hG⟩ := id C
  unfold oCle at k
  split at k
  · next b a r =>
    replace ho := List.forall_mem_cons.mp ho
    obtain ⟨ob, ho⟩ := ho
    replace ho := List.forall_mem_cons.mp ho
    obtain ⟨oa, ho⟩ := ho
    exact lv_icmp_le hx hb d ht (fun q => k.1 ((z_le oa ob).mp q) pp ee RR ss mm aa bb me cc0 HH lc lsC c0 s0 ce se C hR hC hS hl ho hcu hsu) (fun q => k.2 (fun z => q ((z_le oa ob).mpr z)) pp ee RR ss mm aa bb me cc0 HH lc lsC c0 s0 ce se C hR hC hS hl ho hcu hsu)
  · exact k.elim
theorem sd_ifnull (m pc : Nat) (off : Int) (t : Nat) (ht : (pc : Int) + off = (t : Int)) (d : decode (mCod (Md m)) pc = .ok (.ifnull off, 3)) : SM G Md D A l m pc (oNul t) := by
  refine ⟨mo_oNul t, fun ls st h Q k pp ee RR ss mm aa bb me cc0 HH lc lsC c0 s0 ce se C hR hC hS hl ho hcu hsu => ?_⟩
  obtain ⟨⟨hx, hb, hml, hown, hts⟩, hr, hlk, hnm, het, hRm, htr, hA, hG⟩ := id C
  unfold oNul at k
  split at k
  · next a r =>
    replace ho := List.forall_mem_cons.mp ho
    obtain ⟨oa, ho⟩ := ho
    match a, k with
    | none, k => exact lv_ifnullN hx hb d ht (k.1 rfl pp ee RR ss mm aa bb me cc0 HH lc lsC c0 s0 ce se C hR hC hS hl ho hcu hsu)
    | some q, k => exact lv_ifnull hx hb d (k.2 (fun z => by cases z) pp ee RR ss mm aa bb me cc0 HH lc lsC c0 s0 ce se C hR hC hS hl ho hcu hsu)
  · exact k.elim
theorem sd_ifnonnull (m pc : Nat) (off : Int) (t : Nat) (ht : (pc : Int) + off = (t : Int)) (d : decode (mCod (Md m)) pc = .ok (.ifnonnull off, 3)) : SM G Md D A l m pc (oNNul t) := by
  refine ⟨mo_oNNul t, fun ls st h Q k pp ee RR ss mm aa bb me cc0 HH lc lsC c0 s0 ce se C hR hC hS hl ho hcu hsu => ?_⟩
  obtain ⟨⟨hx, hb, hml, hown, hts⟩, hr, hlk, hnm, het, hRm, htr, hA, hG⟩ := id C
  unfold oNNul at k
  split at k
  · next a r =>
    replace ho := List.forall_mem_cons.mp ho
    obtain ⟨oa, ho⟩ := ho
    match a, k with
    | none, k => exact lv_ifnonnullN hx hb d (k.1 rfl pp ee RR ss mm aa bb me cc0 HH lc lsC c0 s0 ce se C hR hC hS hl ho hcu hsu)
    | some q, k => exact lv_ifnonnull hx hb d ht (k.2 (fun z => by cases z) pp ee RR ss mm aa bb me cc0 HH lc lsC c0 s0 ce se C hR hC hS hl ho hcu hsu)
  · exact k.elim
theorem sd_goto (m pc : Nat) (off : Int) (t : Nat) (ht : (pc : Int) + off = (t : Int)) (d : decode (mCod (Md m)) pc = .ok (.goto off, 3)) : SM G Md D A l m pc (oGoto t) := by
  refine ⟨mo_oGoto t, fun ls st h Q k pp ee RR ss mm aa bb me cc0 HH lc lsC c0 s0 ce se C hR hC hS hl ho hcu hsu => ?_⟩
  obtain ⟨⟨hx, hb, hml, hown, hts⟩, hr, hlk, hnm, het, hRm, htr, hA, hG⟩ := id C
  unfold oGoto at k
  exact lv_goto hx hb d ht (k pp ee RR ss mm aa bb me cc0 HH lc lsC c0 s0 ce se C hR hC hS hl ho hcu hsu)
theorem swA_at {X : Nat → Prop} {x : Int} : ∀ (ts : List Nat) (lo : Int), swA X x lo ts → lo ≤ x → x < lo + ts.length → ∃ t, ts[(x - lo).toNat]? = some t ∧ X t
  | [], lo, _, h1, h2 => by simp at h2; omega
  | t :: r, lo, h, h1, h2 => by
    by_cases e : x = lo
    · exact ⟨t, by rw [e]; simp, h.1 e⟩
    · obtain ⟨t2, a, b⟩ := swA_at r (lo + 1) h.2 (by omega) (by simp at h2; omega)
      refine ⟨t2, ?_, b⟩
      rw [show (x - lo).toNat = (x - (lo + 1)).toNat + 1 by omega, List.getElem?_cons_succ]
      exact a
theorem sd_tableswitch (m pc : Nat) (dflt lo hi : Int) (offs : Array Int) (len : Nat) (ts : List Nat) (t : Nat) (ht : (pc : Int) + dflt = (t : Int)) (hhi : lo + ts.length = hi + 1) (hts2 : offs.toList.map (fun o => (pc : Int) + o) = ts.map (fun (x : Nat) => (x : Int))) (d : decode (mCod (Md m)) pc = .ok (.tableswitch dflt lo hi offs, len)) : SM G Md D A l m pc (oSw lo ts t) := by
  refine ⟨mo_oSw lo ts t, fun ls st h Q k pp ee RR ss mm aa bb me cc0 HH lc lsC c0 s0 ce se C hR hC hS hl ho hcu hsu => ?_⟩
  obtain ⟨⟨hx, hb, hml, hown, hts⟩, hr, hlk, hnm, het, hRm, htr, hA, hG⟩ := id C
  unfold oSw at k
  split at k
  · next x r =>
    replace ho := List.forall_mem_cons.mp ho
    obtain ⟨ox, ho⟩ := ho
    have e := z_ofI ox
    by_cases q : x < lo ∨ lo + ts.length ≤ x
    · exact lv_tableOut hx hb d (by rw [e]; omega) ht (k.1 q pp ee RR ss mm aa bb me cc0 HH lc lsC c0 s0 ce se C hR hC hS hl ho hcu hsu)
    · obtain ⟨t2, a, b⟩ := swA_at ts lo k.2 (by omega) (by omega)
      have a2 : (ts.map (fun (x : Nat) => (x : Int)))[(x - lo).toNat]? = some (t2 : Int) := by rw [List.getElem?_map, a]; rfl
      rw [← hts2, List.getElem?_map] at a2
      cases e3 : offs.toList[(x - lo).toNat]? with
      | none => rw [e3] at a2; cases a2
      | some o9 =>
        rw [e3] at a2
        exact lv_tableIn hx hb d (by rw [e]; omega) (by rw [e]; omega) (off := o9) (by rw [e, ← Array.getElem?_toList]; exact e3) (Option.some.inj a2) (b pp ee RR ss mm aa bb me cc0 HH lc lsC c0 s0 ce se C hR hC hS hl ho hcu hsu)
  · exact k.elim
theorem z_i32x (v : Int32) : Int32.ofInt v.toInt = v ∧ inR v.toInt := ⟨Int32.ofInt_toInt v, ⟨Int32.le_toInt v, by have := Int32.toInt_lt v; omega⟩⟩
theorem sd_hmul (m pc : Nat)  (d : decode (mCod (Md m)) pc = .ok (.imul, 1)) : SM G Md D A l m pc oHav := by
  refine ⟨mo_oHav, fun ls st h Q k pp ee RR ss mm aa bb me cc0 HH lc lsC c0 s0 ce se C hR hC hS hl ho hcu hsu => ?_⟩
  obtain ⟨⟨hx, hb, hml, hown, hts⟩, hr, hlk, hnm, het, hRm, htr, hA, hG⟩ := id C
  unfold oHav at k
  split at k
  · next b a r =>
    replace ho := List.forall_mem_cons.mp (List.forall_mem_cons.mp ho).2
    refine lv_imul hx hb d ?_
    obtain ⟨e1, e2⟩ := z_i32x (Int32.ofInt a * Int32.ofInt b)
    rw [← e1]
    exact k _ e2 pp ee RR ss mm aa bb me cc0 HH lc lsC c0 s0 ce se C hR hC hS hl (List.forall_mem_cons.mpr ⟨e2, ho.2⟩) hcu hsu
  · exact k.elim
theorem sd_hadd (m pc : Nat)  (d : decode (mCod (Md m)) pc = .ok (.iadd, 1)) : SM G Md D A l m pc oHav := by
  refine ⟨mo_oHav, fun ls st h Q k pp ee RR ss mm aa bb me cc0 HH lc lsC c0 s0 ce se C hR hC hS hl ho hcu hsu => ?_⟩
  obtain ⟨⟨hx, hb, hml, hown, hts⟩, hr, hlk, hnm, het, hRm, htr, hA, hG⟩ := id C
  unfold oHav at k
  split at k
  · next b a r =>
    replace ho := List.forall_mem_cons.mp (List.forall_mem_cons.mp ho).2
    refine lv_iadd hx hb d ?_
    obtain ⟨e1, e2⟩ := z_i32x (Int32.ofInt a + Int32.ofInt b)
    rw [← e1]
    exact k _ e2 pp ee RR ss mm aa bb me cc0 HH lc lsC c0 s0 ce se C hR hC hS hl (List.forall_mem_cons.mpr ⟨e2, ho.2⟩) hcu hsu
  · exact k.elim
theorem sd_hshr (m pc : Nat)  (d : decode (mCod (Md m)) pc = .ok (.ishr, 1)) : SM G Md D A l m pc oHav := by
  refine ⟨mo_oHav, fun ls st h Q k pp ee RR ss mm aa bb me cc0 HH lc lsC c0 s0 ce se C hR hC hS hl ho hcu hsu => ?_⟩
  obtain ⟨⟨hx, hb, hml, hown, hts⟩, hr, hlk, hnm, het, hRm, htr, hA, hG⟩ := id C
  unfold oHav at k
  split at k
  · next b a r =>
    replace ho := List.forall_mem_cons.mp (List.forall_mem_cons.mp ho).2
    refine lv_ishr hx hb d ?_
    obtain ⟨e1, e2⟩ := z_i32x (Int32.ofInt a >>> (Int32.ofInt b &&& 31))
    rw [← e1]
    exact k _ e2 pp ee RR ss mm aa bb me cc0 HH lc lsC c0 s0 ce se C hR hC hS hl (List.forall_mem_cons.mpr ⟨e2, ho.2⟩) hcu hsu
  · exact k.elim
theorem z_msk (v : Int32) : 0 ≤ (v &&& Int32.ofInt 2147483647).toInt := by
  have h : ¬ (v &&& Int32.ofInt 2147483647) < 0 := by
    have e : ∀ b : BitVec 32, ¬ (b &&& 2147483647#32).slt 0#32 := by
      intro b
      have h1 : (2147483647#32).msb = false := by decide
      have h2 : (b &&& 2147483647#32).msb = false := by rw [BitVec.msb_and, h1, Bool.and_false]
      have h3 : 0 ≤ (b &&& 2147483647#32).toInt := by
        rw [BitVec.toInt_eq_msb_cond, h2]
        exact Int.natCast_nonneg _
      intro q
      have q2 := of_decide_eq_true q
      have q3 : (0#32 : BitVec 32).toInt = 0 := by decide
      rw [q3] at q2
      omega
    exact fun q => e v.toBitVec q
  have := Int32.not_lt.mp h
  simpa using Int32.le_iff_toInt_le.mp this
theorem sd_msk (m pc : Nat)  (d : decode (mCod (Md m)) pc = .ok (.iand, 1)) : SM G Md D A l m pc oMsk := by
  refine ⟨mo_oMsk, fun ls st h Q k pp ee RR ss mm aa bb me cc0 HH lc lsC c0 s0 ce se C hR hC hS hl ho hcu hsu => ?_⟩
  obtain ⟨⟨hx, hb, hml, hown, hts⟩, hr, hlk, hnm, het, hRm, htr, hA, hG⟩ := id C
  unfold oMsk at k
  split at k
  · next b a r =>
    replace ho := List.forall_mem_cons.mp (List.forall_mem_cons.mp ho).2
    obtain ⟨rfl, k⟩ := k
    refine lv_iand hx hb d ?_
    obtain ⟨e1, e2⟩ := z_i32x (Int32.ofInt a &&& Int32.ofInt 2147483647)
    have e3 := z_msk (Int32.ofInt a)
    rw [← e1]
    exact k _ e3 e2.2 pp ee RR ss mm aa bb me cc0 HH lc lsC c0 s0 ce se C hR hC hS hl (List.forall_mem_cons.mpr ⟨e2, ho.2⟩) hcu hsu
  · exact k.elim
theorem sd_ldc (m pc : Nat) (ix : Nat) (v : Int) (hv : inR v) (hw : Cond.constant (mOwn (Md m)) ix (Int32.ofInt v) ∈ mWs (Md m)) (d : decode (mCod (Md m)) pc = .ok (.ldc ix, 2)) : SM G Md D A l m pc (oCI v 2) := by
  refine ⟨mo_oCI v 2, fun ls st h Q k pp ee RR ss mm aa bb me cc0 HH lc lsC c0 s0 ce se C hR hC hS hl ho hcu hsu => ?_⟩
  obtain ⟨⟨hx, hb, hml, hown, hts⟩, hr, hlk, hnm, het, hRm, htr, hA, hG⟩ := id C
  unfold oCI at k
  exact lv_ldc hx hb hown (hts _ hw) d (k pp ee RR ss mm aa bb me cc0 HH lc lsC c0 s0 ce se C hR hC hS hl (List.forall_mem_cons.mpr ⟨hv, ho⟩) hcu hsu)
end SD1
