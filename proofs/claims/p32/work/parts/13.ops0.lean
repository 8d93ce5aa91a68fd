section
variable {D : va_G} {A : Nat → Prop} {l : Launch}
-- 0: Marginalia$Anchor.<init>(II)V
def dl_0_0 : List (Nat × Instr × Nat) := [(0, .aload_n 0, 1), (1, .invokespecial 1, 3), (4, .aload_n 0, 1), (5, .iload_n 1, 1), (6, .putfield 7, 3), (9, .aload_n 0, 1), (10, .iload_n 2, 1), (11, .putfield 13, 3), (14, .return_, 1)]
theorem dk_0_0 : ∀ q ∈ dl_0_0, decode (mCod (MdP 0)) q.1 = .ok q.2 := by
  rw [show mCod (MdP 0) = cX0_init from rfl]
  decide +kernel
def tb_0_0 : List (Nat × Op1) := [(0, oLdR 0 1), (1, oObj), (4, oLdR 0 1), (5, oLdI 1 1), (6, oPutI 1 0), (9, oLdR 0 1), (10, oLdI 2 1), (11, oPutI 1 1), (14, oRetV)]
theorem sm_0_0 : ∀ q ∈ tb_0_0, SM GwP MdP D A l 0 q.1 q.2 :=
  List.forall_mem_cons.mpr ⟨sd_oLdR_n 0 0 0 0 rfl (dk_0_0 (0, .aload_n 0, 1) (List.mem_of_getElem? (i := 0) rfl)),
  List.forall_mem_cons.mpr ⟨sd_obj 0 1 1 (iw_0 _ zw0) (iw_0 _ zw1) (iw_0 _ zw2) (by decide) (by decide) (dk_0_0 (1, .invokespecial 1, 3) (List.mem_of_getElem? (i := 1) rfl)),
  List.forall_mem_cons.mpr ⟨sd_oLdR_n 0 4 0 0 rfl (dk_0_0 (4, .aload_n 0, 1) (List.mem_of_getElem? (i := 2) rfl)),
  List.forall_mem_cons.mpr ⟨sd_oLdI_n 0 5 1 1 rfl (dk_0_0 (5, .iload_n 1, 1) (List.mem_of_getElem? (i := 3) rfl)),
  List.forall_mem_cons.mpr ⟨sd_oPutI 0 6 1 0 7 RX0 TX0 2 rfl ⟨by decide, by decide⟩ rfl (by decide) rfl (fun w h => iw_0 w (uz_0 w h)) rfl tyX0 tyX0_ok nmX0 rfl rfl (iw_0 _ zw3) (dk_0_0 (6, .putfield 7, 3) (List.mem_of_getElem? (i := 4) rfl)),
  List.forall_mem_cons.mpr ⟨sd_oLdR_n 0 9 0 0 rfl (dk_0_0 (9, .aload_n 0, 1) (List.mem_of_getElem? (i := 5) rfl)),
  List.forall_mem_cons.mpr ⟨sd_oLdI_n 0 10 2 2 rfl (dk_0_0 (10, .iload_n 2, 1) (List.mem_of_getElem? (i := 6) rfl)),
  List.forall_mem_cons.mpr ⟨sd_oPutI 0 11 1 1 13 RX0 TX0 2 rfl ⟨by decide, by decide⟩ rfl (by decide) rfl (fun w h => iw_0 w (uz_0 w h)) rfl tyX0 tyX0_ok nmX0 rfl rfl (iw_0 _ zw4) (dk_0_0 (11, .putfield 13, 3) (List.mem_of_getElem? (i := 7) rfl)),
  List.forall_mem_cons.mpr ⟨sd_vret 0 14 rfl (dk_0_0 (14, .return_, 1) (List.mem_of_getElem? (i := 8) rfl)),
  fun _ h => nomatch h⟩⟩⟩⟩⟩⟩⟩⟩⟩
def tb_0 : List (List (Nat × Op1)) := [tb_0_0]
theorem sm_0 : ∀ t ∈ tb_0, ∀ q ∈ t, SM GwP MdP D A l 0 q.1 q.2 := List.forall_mem_cons.mpr ⟨sm_0_0, fun _ h => nomatch h⟩
-- 1: Marginalia$Anchor.lay(II)V
def dl_1_0 : List (Nat × Instr × Nat) := [(0, .aload_n 0, 1), (1, .iload_n 1, 1), (2, .putfield 7, 3), (5, .aload_n 0, 1), (6, .iload_n 2, 1), (7, .putfield 13, 3), (10, .return_, 1)]
theorem dk_1_0 : ∀ q ∈ dl_1_0, decode (mCod (MdP 1)) q.1 = .ok q.2 := by
  rw [show mCod (MdP 1) = cX0_lay from rfl]
  decide +kernel
def tb_1_0 : List (Nat × Op1) := [(0, oLdR 0 1), (1, oLdI 1 1), (2, oPutI 1 0), (5, oLdR 0 1), (6, oLdI 2 1), (7, oPutI 1 1), (10, oRetV)]
theorem sm_1_0 : ∀ q ∈ tb_1_0, SM GwP MdP D A l 1 q.1 q.2 :=
  List.forall_mem_cons.mpr ⟨sd_oLdR_n 1 0 0 0 rfl (dk_1_0 (0, .aload_n 0, 1) (List.mem_of_getElem? (i := 0) rfl)),
  List.forall_mem_cons.mpr ⟨sd_oLdI_n 1 1 1 1 rfl (dk_1_0 (1, .iload_n 1, 1) (List.mem_of_getElem? (i := 1) rfl)),
  List.forall_mem_cons.mpr ⟨sd_oPutI 1 2 1 0 7 RX0 TX0 2 rfl ⟨by decide, by decide⟩ rfl (by decide) rfl (fun w h => iw_1 w (uz_0 w h)) rfl tyX0 tyX0_ok nmX0 rfl rfl (iw_1 _ zw3) (dk_1_0 (2, .putfield 7, 3) (List.mem_of_getElem? (i := 2) rfl)),
  List.forall_mem_cons.mpr ⟨sd_oLdR_n 1 5 0 0 rfl (dk_1_0 (5, .aload_n 0, 1) (List.mem_of_getElem? (i := 3) rfl)),
  List.forall_mem_cons.mpr ⟨sd_oLdI_n 1 6 2 2 rfl (dk_1_0 (6, .iload_n 2, 1) (List.mem_of_getElem? (i := 4) rfl)),
  List.forall_mem_cons.mpr ⟨sd_oPutI 1 7 1 1 13 RX0 TX0 2 rfl ⟨by decide, by decide⟩ rfl (by decide) rfl (fun w h => iw_1 w (uz_0 w h)) rfl tyX0 tyX0_ok nmX0 rfl rfl (iw_1 _ zw4) (dk_1_0 (7, .putfield 13, 3) (List.mem_of_getElem? (i := 5) rfl)),
  List.forall_mem_cons.mpr ⟨sd_vret 1 10 rfl (dk_1_0 (10, .return_, 1) (List.mem_of_getElem? (i := 6) rfl)),
  fun _ h => nomatch h⟩⟩⟩⟩⟩⟩⟩
def tb_1 : List (List (Nat × Op1)) := [tb_1_0]
theorem sm_1 : ∀ t ∈ tb_1, ∀ q ∈ t, SM GwP MdP D A l 1 q.1 q.2 := List.forall_mem_cons.mpr ⟨sm_1_0, fun _ h => nomatch h⟩
-- 2: Marginalia$Anchor.size()I
def dl_2_0 : List (Nat × Instr × Nat) := [(0, .aload_n 0, 1), (1, .getfield 13, 3), (4, .aload_n 0, 1), (5, .getfield 7, 3), (8, .isub, 1), (9, .ireturn, 1)]
theorem dk_2_0 : ∀ q ∈ dl_2_0, decode (mCod (MdP 2)) q.1 = .ok q.2 := by
  rw [show mCod (MdP 2) = cX0_size from rfl]
  decide +kernel
def tb_2_0 : List (Nat × Op1) := [(0, oLdR 0 1), (1, oGetI 1 1), (4, oLdR 0 1), (5, oGetI 1 0), (8, oSub), (9, oRetI)]
theorem sm_2_0 : ∀ q ∈ tb_2_0, SM GwP MdP D A l 2 q.1 q.2 :=
  List.forall_mem_cons.mpr ⟨sd_oLdR_n 2 0 0 0 rfl (dk_2_0 (0, .aload_n 0, 1) (List.mem_of_getElem? (i := 0) rfl)),
  List.forall_mem_cons.mpr ⟨sd_oGetI 2 1 1 1 13 RX0 TX0 2 rfl ⟨by decide, by decide⟩ rfl (by decide) rfl (fun w h => iw_2 w (uz_0 w h)) rfl (iw_2 _ zw4) (dk_2_0 (1, .getfield 13, 3) (List.mem_of_getElem? (i := 1) rfl)),
  List.forall_mem_cons.mpr ⟨sd_oLdR_n 2 4 0 0 rfl (dk_2_0 (4, .aload_n 0, 1) (List.mem_of_getElem? (i := 2) rfl)),
  List.forall_mem_cons.mpr ⟨sd_oGetI 2 5 1 0 7 RX0 TX0 2 rfl ⟨by decide, by decide⟩ rfl (by decide) rfl (fun w h => iw_2 w (uz_0 w h)) rfl (iw_2 _ zw3) (dk_2_0 (5, .getfield 7, 3) (List.mem_of_getElem? (i := 3) rfl)),
  List.forall_mem_cons.mpr ⟨sd_isub 2 8 (dk_2_0 (8, .isub, 1) (List.mem_of_getElem? (i := 4) rfl)),
  List.forall_mem_cons.mpr ⟨sd_iret 2 9 rfl (dk_2_0 (9, .ireturn, 1) (List.mem_of_getElem? (i := 5) rfl)),
  fun _ h => nomatch h⟩⟩⟩⟩⟩⟩
def tb_2 : List (List (Nat × Op1)) := [tb_2_0]
theorem sm_2 : ∀ t ∈ tb_2, ∀ q ∈ t, SM GwP MdP D A l 2 q.1 q.2 := List.forall_mem_cons.mpr ⟨sm_2_0, fun _ h => nomatch h⟩
-- 3: Marginalia$Anchor.isLost()Z
def dl_3_0 : List (Nat × Instr × Nat) := [(0, .aload_n 0, 1), (1, .getfield 7, 3), (4, .aload_n 0, 1), (5, .getfield 13, 3), (8, .if_icmp .ne 7, 3), (11, .iconst 1, 1), (12, .goto 4, 3), (15, .iconst 0, 1), (16, .ireturn, 1)]
theorem dk_3_0 : ∀ q ∈ dl_3_0, decode (mCod (MdP 3)) q.1 = .ok q.2 := by
  rw [show mCod (MdP 3) = cX0_isLost from rfl]
  decide +kernel
def tb_3_0 : List (Nat × Op1) := [(0, oLdR 0 1), (1, oGetI 1 0), (4, oLdR 0 1), (5, oGetI 1 1), (8, oCne 15), (11, oCI 1 1), (12, oGoto 16), (15, oCI 0 1), (16, oRetZ)]
theorem sm_3_0 : ∀ q ∈ tb_3_0, SM GwP MdP D A l 3 q.1 q.2 :=
  List.forall_mem_cons.mpr ⟨sd_oLdR_n 3 0 0 0 rfl (dk_3_0 (0, .aload_n 0, 1) (List.mem_of_getElem? (i := 0) rfl)),
  List.forall_mem_cons.mpr ⟨sd_oGetI 3 1 1 0 7 RX0 TX0 2 rfl ⟨by decide, by decide⟩ rfl (by decide) rfl (fun w h => iw_3 w (uz_0 w h)) rfl (iw_3 _ zw3) (dk_3_0 (1, .getfield 7, 3) (List.mem_of_getElem? (i := 1) rfl)),
  List.forall_mem_cons.mpr ⟨sd_oLdR_n 3 4 0 0 rfl (dk_3_0 (4, .aload_n 0, 1) (List.mem_of_getElem? (i := 2) rfl)),
  List.forall_mem_cons.mpr ⟨sd_oGetI 3 5 1 1 13 RX0 TX0 2 rfl ⟨by decide, by decide⟩ rfl (by decide) rfl (fun w h => iw_3 w (uz_0 w h)) rfl (iw_3 _ zw4) (dk_3_0 (5, .getfield 13, 3) (List.mem_of_getElem? (i := 3) rfl)),
  List.forall_mem_cons.mpr ⟨sd_icmp_ne 3 8 7 15 (by decide) (dk_3_0 (8, .if_icmp .ne 7, 3) (List.mem_of_getElem? (i := 4) rfl)),
  List.forall_mem_cons.mpr ⟨sd_iconst 3 11 1 ⟨by decide, by decide⟩ (dk_3_0 (11, .iconst 1, 1) (List.mem_of_getElem? (i := 5) rfl)),
  List.forall_mem_cons.mpr ⟨sd_goto 3 12 4 16 (by decide) (dk_3_0 (12, .goto 4, 3) (List.mem_of_getElem? (i := 6) rfl)),
  List.forall_mem_cons.mpr ⟨sd_iconst 3 15 0 ⟨by decide, by decide⟩ (dk_3_0 (15, .iconst 0, 1) (List.mem_of_getElem? (i := 7) rfl)),
  List.forall_mem_cons.mpr ⟨sd_zret 3 16 rfl (dk_3_0 (16, .ireturn, 1) (List.mem_of_getElem? (i := 8) rfl)),
  fun _ h => nomatch h⟩⟩⟩⟩⟩⟩⟩⟩⟩
def tb_3 : List (List (Nat × Op1)) := [tb_3_0]
theorem sm_3 : ∀ t ∈ tb_3, ∀ q ∈ t, SM GwP MdP D A l 3 q.1 q.2 := List.forall_mem_cons.mpr ⟨sm_3_0, fun _ h => nomatch h⟩
-- 4: Marginalia$Anchor.covers(I)Z
def dl_4_0 : List (Nat × Instr × Nat) := [(0, .iload_n 1, 1), (1, .aload_n 0, 1), (2, .getfield 7, 3), (5, .if_icmp .lt 15, 3), (8, .iload_n 1, 1), (9, .aload_n 0, 1), (10, .getfield 13, 3), (13, .if_icmp .ge 7, 3), (16, .iconst 1, 1), (17, .goto 4, 3), (20, .iconst 0, 1), (21, .ireturn, 1)]
theorem dk_4_0 : ∀ q ∈ dl_4_0, decode (mCod (MdP 4)) q.1 = .ok q.2 := by
  rw [show mCod (MdP 4) = cX0_covers from rfl]
  decide +kernel
def tb_4_0 : List (Nat × Op1) := [(0, oLdI 1 1), (1, oLdR 0 1), (2, oGetI 1 0), (5, oClt 20), (8, oLdI 1 1), (9, oLdR 0 1), (10, oGetI 1 1), (13, oCge 20), (16, oCI 1 1), (17, oGoto 21), (20, oCI 0 1), (21, oRetZ)]
theorem sm_4_0 : ∀ q ∈ tb_4_0, SM GwP MdP D A l 4 q.1 q.2 :=
  List.forall_mem_cons.mpr ⟨sd_oLdI_n 4 0 1 1 rfl (dk_4_0 (0, .iload_n 1, 1) (List.mem_of_getElem? (i := 0) rfl)),
  List.forall_mem_cons.mpr ⟨sd_oLdR_n 4 1 0 0 rfl (dk_4_0 (1, .aload_n 0, 1) (List.mem_of_getElem? (i := 1) rfl)),
  List.forall_mem_cons.mpr ⟨sd_oGetI 4 2 1 0 7 RX0 TX0 2 rfl ⟨by decide, by decide⟩ rfl (by decide) rfl (fun w h => iw_4 w (uz_0 w h)) rfl (iw_4 _ zw3) (dk_4_0 (2, .getfield 7, 3) (List.mem_of_getElem? (i := 2) rfl)),
  List.forall_mem_cons.mpr ⟨sd_icmp_lt 4 5 15 20 (by decide) (dk_4_0 (5, .if_icmp .lt 15, 3) (List.mem_of_getElem? (i := 3) rfl)),
  List.forall_mem_cons.mpr ⟨sd_oLdI_n 4 8 1 1 rfl (dk_4_0 (8, .iload_n 1, 1) (List.mem_of_getElem? (i := 4) rfl)),
  List.forall_mem_cons.mpr ⟨sd_oLdR_n 4 9 0 0 rfl (dk_4_0 (9, .aload_n 0, 1) (List.mem_of_getElem? (i := 5) rfl)),
  List.forall_mem_cons.mpr ⟨sd_oGetI 4 10 1 1 13 RX0 TX0 2 rfl ⟨by decide, by decide⟩ rfl (by decide) rfl (fun w h => iw_4 w (uz_0 w h)) rfl (iw_4 _ zw4) (dk_4_0 (10, .getfield 13, 3) (List.mem_of_getElem? (i := 6) rfl)),
  List.forall_mem_cons.mpr ⟨sd_icmp_ge 4 13 7 20 (by decide) (dk_4_0 (13, .if_icmp .ge 7, 3) (List.mem_of_getElem? (i := 7) rfl)),
  List.forall_mem_cons.mpr ⟨sd_iconst 4 16 1 ⟨by decide, by decide⟩ (dk_4_0 (16, .iconst 1, 1) (List.mem_of_getElem? (i := 8) rfl)),
  List.forall_mem_cons.mpr ⟨sd_goto 4 17 4 21 (by decide) (dk_4_0 (17, .goto 4, 3) (List.mem_of_getElem? (i := 9) rfl)),
  List.forall_mem_cons.mpr ⟨sd_iconst 4 20 0 ⟨by decide, by decide⟩ (dk_4_0 (20, .iconst 0, 1) (List.mem_of_getElem? (i := 10) rfl)),
  List.forall_mem_cons.mpr ⟨sd_zret 4 21 rfl (dk_4_0 (21, .ireturn, 1) (List.mem_of_getElem? (i := 11) rfl)),
  fun _ h => nomatch h⟩⟩⟩⟩⟩⟩⟩⟩⟩⟩⟩⟩
def tb_4 : List (List (Nat × Op1)) := [tb_4_0]
theorem sm_4 : ∀ t ∈ tb_4, ∀ q ∈ t, SM GwP MdP D A l 4 q.1 q.2 := List.forall_mem_cons.mpr ⟨sm_4_0, fun _ h => nomatch h⟩
-- 5: Marginalia$Anchor.isAheadOf(LMarginalia$Anchor;)Z
def dl_5_0 : List (Nat × Instr × Nat) := [(0, .aload_n 0, 1), (1, .getfield 7, 3), (4, .aload_n 1, 1), (5, .getfield 7, 3), (8, .if_icmp .ne 22, 3), (11, .aload_n 0, 1), (12, .getfield 13, 3), (15, .aload_n 1, 1), (16, .getfield 13, 3), (19, .if_icmp .ge 7, 3), (22, .iconst 1, 1), (23, .goto 23, 3), (26, .iconst 0, 1), (27, .goto 19, 3), (30, .aload_n 0, 1), (31, .getfield 7, 3), (34, .aload_n 1, 1), (35, .getfield 7, 3), (38, .if_icmp .ge 7, 3), (41, .iconst 1, 1), (42, .goto 4, 3), (45, .iconst 0, 1), (46, .ireturn, 1)]
theorem dk_5_0 : ∀ q ∈ dl_5_0, decode (mCod (MdP 5)) q.1 = .ok q.2 := by
  rw [show mCod (MdP 5) = cX0_isAheadOf from rfl]
  decide +kernel
def tb_5_0 : List (Nat × Op1) := [(0, oLdR 0 1), (1, oGetI 1 0), (4, oLdR 1 1), (5, oGetI 1 0), (8, oCne 30), (11, oLdR 0 1), (12, oGetI 1 1), (15, oLdR 1 1), (16, oGetI 1 1), (19, oCge 26), (22, oCI 1 1), (23, oGoto 46), (26, oCI 0 1), (27, oGoto 46), (30, oLdR 0 1), (31, oGetI 1 0), (34, oLdR 1 1), (35, oGetI 1 0), (38, oCge 45), (41, oCI 1 1), (42, oGoto 46), (45, oCI 0 1), (46, oRetZ)]
theorem sm_5_0 : ∀ q ∈ tb_5_0, SM GwP MdP D A l 5 q.1 q.2 :=
  List.forall_mem_cons.mpr ⟨sd_oLdR_n 5 0 0 0 rfl (dk_5_0 (0, .aload_n 0, 1) (List.mem_of_getElem? (i := 0) rfl)),
  List.forall_mem_cons.mpr ⟨sd_oGetI 5 1 1 0 7 RX0 TX0 2 rfl ⟨by decide, by decide⟩ rfl (by decide) rfl (fun w h => iw_5 w (uz_0 w h)) rfl (iw_5 _ zw3) (dk_5_0 (1, .getfield 7, 3) (List.mem_of_getElem? (i := 1) rfl)),
  List.forall_mem_cons.mpr ⟨sd_oLdR_n 5 4 1 1 rfl (dk_5_0 (4, .aload_n 1, 1) (List.mem_of_getElem? (i := 2) rfl)),
  List.forall_mem_cons.mpr ⟨sd_oGetI 5 5 1 0 7 RX0 TX0 2 rfl ⟨by decide, by decide⟩ rfl (by decide) rfl (fun w h => iw_5 w (uz_0 w h)) rfl (iw_5 _ zw3) (dk_5_0 (5, .getfield 7, 3) (List.mem_of_getElem? (i := 3) rfl)),
  List.forall_mem_cons.mpr ⟨sd_icmp_ne 5 8 22 30 (by decide) (dk_5_0 (8, .if_icmp .ne 22, 3) (List.mem_of_getElem? (i := 4) rfl)),
  List.forall_mem_cons.mpr ⟨sd_oLdR_n 5 11 0 0 rfl (dk_5_0 (11, .aload_n 0, 1) (List.mem_of_getElem? (i := 5) rfl)),
  List.forall_mem_cons.mpr ⟨sd_oGetI 5 12 1 1 13 RX0 TX0 2 rfl ⟨by decide, by decide⟩ rfl (by decide) rfl (fun w h => iw_5 w (uz_0 w h)) rfl (iw_5 _ zw4) (dk_5_0 (12, .getfield 13, 3) (List.mem_of_getElem? (i := 6) rfl)),
  List.forall_mem_cons.mpr ⟨sd_oLdR_n 5 15 1 1 rfl (dk_5_0 (15, .aload_n 1, 1) (List.mem_of_getElem? (i := 7) rfl)),
  List.forall_mem_cons.mpr ⟨sd_oGetI 5 16 1 1 13 RX0 TX0 2 rfl ⟨by decide, by decide⟩ rfl (by decide) rfl (fun w h => iw_5 w (uz_0 w h)) rfl (iw_5 _ zw4) (dk_5_0 (16, .getfield 13, 3) (List.mem_of_getElem? (i := 8) rfl)),
  List.forall_mem_cons.mpr ⟨sd_icmp_ge 5 19 7 26 (by decide) (dk_5_0 (19, .if_icmp .ge 7, 3) (List.mem_of_getElem? (i := 9) rfl)),
  List.forall_mem_cons.mpr ⟨sd_iconst 5 22 1 ⟨by decide, by decide⟩ (dk_5_0 (22, .iconst 1, 1) (List.mem_of_getElem? (i := 10) rfl)),
  List.forall_mem_cons.mpr ⟨sd_goto 5 23 23 46 (by decide) (dk_5_0 (23, .goto 23, 3) (List.mem_of_getElem? (i := 11) rfl)),
  List.forall_mem_cons.mpr ⟨sd_iconst 5 26 0 ⟨by decide, by decide⟩ (dk_5_0 (26, .iconst 0, 1) (List.mem_of_getElem? (i := 12) rfl)),
  List.forall_mem_cons.mpr ⟨sd_goto 5 27 19 46 (by decide) (dk_5_0 (27, .goto 19, 3) (List.mem_of_getElem? (i := 13) rfl)),
  List.forall_mem_cons.mpr ⟨sd_oLdR_n 5 30 0 0 rfl (dk_5_0 (30, .aload_n 0, 1) (List.mem_of_getElem? (i := 14) rfl)),
  List.forall_mem_cons.mpr ⟨sd_oGetI 5 31 1 0 7 RX0 TX0 2 rfl ⟨by decide, by decide⟩ rfl (by decide) rfl (fun w h => iw_5 w (uz_0 w h)) rfl (iw_5 _ zw3) (dk_5_0 (31, .getfield 7, 3) (List.mem_of_getElem? (i := 15) rfl)),
  List.forall_mem_cons.mpr ⟨sd_oLdR_n 5 34 1 1 rfl (dk_5_0 (34, .aload_n 1, 1) (List.mem_of_getElem? (i := 16) rfl)),
  List.forall_mem_cons.mpr ⟨sd_oGetI 5 35 1 0 7 RX0 TX0 2 rfl ⟨by decide, by decide⟩ rfl (by decide) rfl (fun w h => iw_5 w (uz_0 w h)) rfl (iw_5 _ zw3) (dk_5_0 (35, .getfield 7, 3) (List.mem_of_getElem? (i := 17) rfl)),
  List.forall_mem_cons.mpr ⟨sd_icmp_ge 5 38 7 45 (by decide) (dk_5_0 (38, .if_icmp .ge 7, 3) (List.mem_of_getElem? (i := 18) rfl)),
  List.forall_mem_cons.mpr ⟨sd_iconst 5 41 1 ⟨by decide, by decide⟩ (dk_5_0 (41, .iconst 1, 1) (List.mem_of_getElem? (i := 19) rfl)),
  List.forall_mem_cons.mpr ⟨sd_goto 5 42 4 46 (by decide) (dk_5_0 (42, .goto 4, 3) (List.mem_of_getElem? (i := 20) rfl)),
  List.forall_mem_cons.mpr ⟨sd_iconst 5 45 0 ⟨by decide, by decide⟩ (dk_5_0 (45, .iconst 0, 1) (List.mem_of_getElem? (i := 21) rfl)),
  List.forall_mem_cons.mpr ⟨sd_zret 5 46 rfl (dk_5_0 (46, .ireturn, 1) (List.mem_of_getElem? (i := 22) rfl)),
  fun _ h => nomatch h⟩⟩⟩⟩⟩⟩⟩⟩⟩⟩⟩⟩⟩⟩⟩⟩⟩⟩⟩⟩⟩⟩⟩
def tb_5 : List (List (Nat × Op1)) := [tb_5_0]
theorem sm_5 : ∀ t ∈ tb_5, ∀ q ∈ t, SM GwP MdP D A l 5 q.1 q.2 := List.forall_mem_cons.mpr ⟨sm_5_0, fun _ h => nomatch h⟩
-- 6: Marginalia$Anchor.wouldBeLost(II)Z
def dl_6_0 : List (Nat × Instr × Nat) := [(0, .aload_n 0, 1), (1, .invokevirtual 16, 3), (4, .ifCond .ne 23, 3), (7, .aload_n 0, 1), (8, .getfield 7, 3), (11, .iload_n 1, 1), (12, .if_icmp .lt 15, 3), (15, .aload_n 0, 1), (16, .getfield 13, 3), (19, .iload_n 2, 1), (20, .if_icmp .gt 7, 3), (23, .iconst 1, 1), (24, .goto 4, 3), (27, .iconst 0, 1), (28, .ireturn, 1)]
theorem dk_6_0 : ∀ q ∈ dl_6_0, decode (mCod (MdP 6)) q.1 = .ok q.2 := by
  rw [show mCod (MdP 6) = cX0_wouldBeLost from rfl]
  decide +kernel
def tb_6_0 : List (Nat × Op1) := [(0, oLdR 0 1), (1, oCallV 3 0 1 1 []), (4, oZne 27), (7, oLdR 0 1), (8, oGetI 1 0), (11, oLdI 1 1), (12, oClt 27), (15, oLdR 0 1), (16, oGetI 1 1), (19, oLdI 2 1), (20, oCgt 27), (23, oCI 1 1), (24, oGoto 28), (27, oCI 0 1), (28, oRetZ)]
theorem sm_6_0 : ∀ q ∈ tb_6_0, SM GwP MdP D A l 6 q.1 q.2 :=
  List.forall_mem_cons.mpr ⟨sd_oLdR_n 6 0 0 0 rfl (dk_6_0 (0, .aload_n 0, 1) (List.mem_of_getElem? (i := 0) rfl)),
  List.forall_mem_cons.mpr ⟨sd_callV 6 1 3 0 1 16 1 [] (gdV hws_6 hws_3 zw6 zw7 zw8 zw9 zw5) hws_3 rfl (by decide +kernel) rfl rfl ⟨by decide +kernel, by decide +kernel, by decide +kernel⟩ ⟨by decide, by decide⟩ (catch_nil rfl) RX0 rfl TX0 2 rfl ⟨by decide, by decide⟩ (dk_6_0 (1, .invokevirtual 16, 3) (List.mem_of_getElem? (i := 1) rfl)),
  List.forall_mem_cons.mpr ⟨sd_if_ne 6 4 23 27 (by decide) (dk_6_0 (4, .ifCond .ne 23, 3) (List.mem_of_getElem? (i := 2) rfl)),
  List.forall_mem_cons.mpr ⟨sd_oLdR_n 6 7 0 0 rfl (dk_6_0 (7, .aload_n 0, 1) (List.mem_of_getElem? (i := 3) rfl)),
  List.forall_mem_cons.mpr ⟨sd_oGetI 6 8 1 0 7 RX0 TX0 2 rfl ⟨by decide, by decide⟩ rfl (by decide) rfl (fun w h => iw_6 w (uz_0 w h)) rfl (iw_6 _ zw3) (dk_6_0 (8, .getfield 7, 3) (List.mem_of_getElem? (i := 4) rfl)),
  List.forall_mem_cons.mpr ⟨sd_oLdI_n 6 11 1 1 rfl (dk_6_0 (11, .iload_n 1, 1) (List.mem_of_getElem? (i := 5) rfl)),
  List.forall_mem_cons.mpr ⟨sd_icmp_lt 6 12 15 27 (by decide) (dk_6_0 (12, .if_icmp .lt 15, 3) (List.mem_of_getElem? (i := 6) rfl)),
  List.forall_mem_cons.mpr ⟨sd_oLdR_n 6 15 0 0 rfl (dk_6_0 (15, .aload_n 0, 1) (List.mem_of_getElem? (i := 7) rfl)),
  List.forall_mem_cons.mpr ⟨sd_oGetI 6 16 1 1 13 RX0 TX0 2 rfl ⟨by decide, by decide⟩ rfl (by decide) rfl (fun w h => iw_6 w (uz_0 w h)) rfl (iw_6 _ zw4) (dk_6_0 (16, .getfield 13, 3) (List.mem_of_getElem? (i := 8) rfl)),
  List.forall_mem_cons.mpr ⟨sd_oLdI_n 6 19 2 2 rfl (dk_6_0 (19, .iload_n 2, 1) (List.mem_of_getElem? (i := 9) rfl)),
  List.forall_mem_cons.mpr ⟨sd_icmp_gt 6 20 7 27 (by decide) (dk_6_0 (20, .if_icmp .gt 7, 3) (List.mem_of_getElem? (i := 10) rfl)),
  List.forall_mem_cons.mpr ⟨sd_iconst 6 23 1 ⟨by decide, by decide⟩ (dk_6_0 (23, .iconst 1, 1) (List.mem_of_getElem? (i := 11) rfl)),
  List.forall_mem_cons.mpr ⟨sd_goto 6 24 4 28 (by decide) (dk_6_0 (24, .goto 4, 3) (List.mem_of_getElem? (i := 12) rfl)),
  List.forall_mem_cons.mpr ⟨sd_iconst 6 27 0 ⟨by decide, by decide⟩ (dk_6_0 (27, .iconst 0, 1) (List.mem_of_getElem? (i := 13) rfl)),
  List.forall_mem_cons.mpr ⟨sd_zret 6 28 rfl (dk_6_0 (28, .ireturn, 1) (List.mem_of_getElem? (i := 14) rfl)),
  fun _ h => nomatch h⟩⟩⟩⟩⟩⟩⟩⟩⟩⟩⟩⟩⟩⟩⟩
def tb_6 : List (List (Nat × Op1)) := [tb_6_0]
theorem sm_6 : ∀ t ∈ tb_6, ∀ q ∈ t, SM GwP MdP D A l 6 q.1 q.2 := List.forall_mem_cons.mpr ⟨sm_6_0, fun _ h => nomatch h⟩
-- 7: Marginalia$Anchor.moveAsPut(II)V
def dl_7_0 : List (Nat × Instr × Nat) := [(0, .iload_n 1, 1), (1, .aload_n 0, 1), (2, .getfield 7, 3), (5, .if_icmp .gt 26, 3), (8, .aload_n 0, 1), (9, .dup, 1), (10, .getfield 7, 3), (13, .iload_n 2, 1), (14, .iadd, 1), (15, .putfield 7, 3), (18, .aload_n 0, 1), (19, .dup, 1), (20, .getfield 13, 3), (23, .iload_n 2, 1), (24, .iadd, 1), (25, .putfield 13, 3), (28, .goto 21, 3), (31, .iload_n 1, 1), (32, .aload_n 0, 1), (33, .getfield 13, 3), (36, .if_icmp .ge 13, 3), (39, .aload_n 0, 1), (40, .dup, 1), (41, .getfield 13, 3), (44, .iload_n 2, 1), (45, .iadd, 1), (46, .putfield 13, 3), (49, .return_, 1)]
theorem dk_7_0 : ∀ q ∈ dl_7_0, decode (mCod (MdP 7)) q.1 = .ok q.2 := by
  rw [show mCod (MdP 7) = cX0_moveAsPut from rfl]
  decide +kernel
def tb_7_0 : List (Nat × Op1) := [(0, oLdI 1 1), (1, oLdR 0 1), (2, oGetI 1 0), (5, oCgt 31), (8, oLdR 0 1), (9, oDup), (10, oGetI 1 0), (13, oLdI 2 1), (14, oAdd), (15, oPutI 1 0), (18, oLdR 0 1), (19, oDup), (20, oGetI 1 1), (23, oLdI 2 1), (24, oAdd), (25, oPutI 1 1), (28, oGoto 49), (31, oLdI 1 1), (32, oLdR 0 1), (33, oGetI 1 1), (36, oCge 49), (39, oLdR 0 1), (40, oDup), (41, oGetI 1 1), (44, oLdI 2 1), (45, oAdd), (46, oPutI 1 1), (49, oRetV)]
theorem sm_7_0 : ∀ q ∈ tb_7_0, SM GwP MdP D A l 7 q.1 q.2 :=
  List.forall_mem_cons.mpr ⟨sd_oLdI_n 7 0 1 1 rfl (dk_7_0 (0, .iload_n 1, 1) (List.mem_of_getElem? (i := 0) rfl)),
  List.forall_mem_cons.mpr ⟨sd_oLdR_n 7 1 0 0 rfl (dk_7_0 (1, .aload_n 0, 1) (List.mem_of_getElem? (i := 1) rfl)),
  List.forall_mem_cons.mpr ⟨sd_oGetI 7 2 1 0 7 RX0 TX0 2 rfl ⟨by decide, by decide⟩ rfl (by decide) rfl (fun w h => iw_7 w (uz_0 w h)) rfl (iw_7 _ zw3) (dk_7_0 (2, .getfield 7, 3) (List.mem_of_getElem? (i := 2) rfl)),
  List.forall_mem_cons.mpr ⟨sd_icmp_gt 7 5 26 31 (by decide) (dk_7_0 (5, .if_icmp .gt 26, 3) (List.mem_of_getElem? (i := 3) rfl)),
  List.forall_mem_cons.mpr ⟨sd_oLdR_n 7 8 0 0 rfl (dk_7_0 (8, .aload_n 0, 1) (List.mem_of_getElem? (i := 4) rfl)),
  List.forall_mem_cons.mpr ⟨sd_dup 7 9 (dk_7_0 (9, .dup, 1) (List.mem_of_getElem? (i := 5) rfl)),
  List.forall_mem_cons.mpr ⟨sd_oGetI 7 10 1 0 7 RX0 TX0 2 rfl ⟨by decide, by decide⟩ rfl (by decide) rfl (fun w h => iw_7 w (uz_0 w h)) rfl (iw_7 _ zw3) (dk_7_0 (10, .getfield 7, 3) (List.mem_of_getElem? (i := 6) rfl)),
  List.forall_mem_cons.mpr ⟨sd_oLdI_n 7 13 2 2 rfl (dk_7_0 (13, .iload_n 2, 1) (List.mem_of_getElem? (i := 7) rfl)),
  List.forall_mem_cons.mpr ⟨sd_iadd 7 14 (dk_7_0 (14, .iadd, 1) (List.mem_of_getElem? (i := 8) rfl)),
  List.forall_mem_cons.mpr ⟨sd_oPutI 7 15 1 0 7 RX0 TX0 2 rfl ⟨by decide, by decide⟩ rfl (by decide) rfl (fun w h => iw_7 w (uz_0 w h)) rfl tyX0 tyX0_ok nmX0 rfl rfl (iw_7 _ zw3) (dk_7_0 (15, .putfield 7, 3) (List.mem_of_getElem? (i := 9) rfl)),
  List.forall_mem_cons.mpr ⟨sd_oLdR_n 7 18 0 0 rfl (dk_7_0 (18, .aload_n 0, 1) (List.mem_of_getElem? (i := 10) rfl)),
  List.forall_mem_cons.mpr ⟨sd_dup 7 19 (dk_7_0 (19, .dup, 1) (List.mem_of_getElem? (i := 11) rfl)),
  List.forall_mem_cons.mpr ⟨sd_oGetI 7 20 1 1 13 RX0 TX0 2 rfl ⟨by decide, by decide⟩ rfl (by decide) rfl (fun w h => iw_7 w (uz_0 w h)) rfl (iw_7 _ zw4) (dk_7_0 (20, .getfield 13, 3) (List.mem_of_getElem? (i := 12) rfl)),
  List.forall_mem_cons.mpr ⟨sd_oLdI_n 7 23 2 2 rfl (dk_7_0 (23, .iload_n 2, 1) (List.mem_of_getElem? (i := 13) rfl)),
  List.forall_mem_cons.mpr ⟨sd_iadd 7 24 (dk_7_0 (24, .iadd, 1) (List.mem_of_getElem? (i := 14) rfl)),
  List.forall_mem_cons.mpr ⟨sd_oPutI 7 25 1 1 13 RX0 TX0 2 rfl ⟨by decide, by decide⟩ rfl (by decide) rfl (fun w h => iw_7 w (uz_0 w h)) rfl tyX0 tyX0_ok nmX0 rfl rfl (iw_7 _ zw4) (dk_7_0 (25, .putfield 13, 3) (List.mem_of_getElem? (i := 15) rfl)),
  List.forall_mem_cons.mpr ⟨sd_goto 7 28 21 49 (by decide) (dk_7_0 (28, .goto 21, 3) (List.mem_of_getElem? (i := 16) rfl)),
  List.forall_mem_cons.mpr ⟨sd_oLdI_n 7 31 1 1 rfl (dk_7_0 (31, .iload_n 1, 1) (List.mem_of_getElem? (i := 17) rfl)),
  List.forall_mem_cons.mpr ⟨sd_oLdR_n 7 32 0 0 rfl (dk_7_0 (32, .aload_n 0, 1) (List.mem_of_getElem? (i := 18) rfl)),
  List.forall_mem_cons.mpr ⟨sd_oGetI 7 33 1 1 13 RX0 TX0 2 rfl ⟨by decide, by decide⟩ rfl (by decide) rfl (fun w h => iw_7 w (uz_0 w h)) rfl (iw_7 _ zw4) (dk_7_0 (33, .getfield 13, 3) (List.mem_of_getElem? (i := 19) rfl)),
  List.forall_mem_cons.mpr ⟨sd_icmp_ge 7 36 13 49 (by decide) (dk_7_0 (36, .if_icmp .ge 13, 3) (List.mem_of_getElem? (i := 20) rfl)),
  List.forall_mem_cons.mpr ⟨sd_oLdR_n 7 39 0 0 rfl (dk_7_0 (39, .aload_n 0, 1) (List.mem_of_getElem? (i := 21) rfl)),
  List.forall_mem_cons.mpr ⟨sd_dup 7 40 (dk_7_0 (40, .dup, 1) (List.mem_of_getElem? (i := 22) rfl)),
  List.forall_mem_cons.mpr ⟨sd_oGetI 7 41 1 1 13 RX0 TX0 2 rfl ⟨by decide, by decide⟩ rfl (by decide) rfl (fun w h => iw_7 w (uz_0 w h)) rfl (iw_7 _ zw4) (dk_7_0 (41, .getfield 13, 3) (List.mem_of_getElem? (i := 23) rfl)),
  List.forall_mem_cons.mpr ⟨sd_oLdI_n 7 44 2 2 rfl (dk_7_0 (44, .iload_n 2, 1) (List.mem_of_getElem? (i := 24) rfl)),
  List.forall_mem_cons.mpr ⟨sd_iadd 7 45 (dk_7_0 (45, .iadd, 1) (List.mem_of_getElem? (i := 25) rfl)),
  List.forall_mem_cons.mpr ⟨sd_oPutI 7 46 1 1 13 RX0 TX0 2 rfl ⟨by decide, by decide⟩ rfl (by decide) rfl (fun w h => iw_7 w (uz_0 w h)) rfl tyX0 tyX0_ok nmX0 rfl rfl (iw_7 _ zw4) (dk_7_0 (46, .putfield 13, 3) (List.mem_of_getElem? (i := 26) rfl)),
  List.forall_mem_cons.mpr ⟨sd_vret 7 49 rfl (dk_7_0 (49, .return_, 1) (List.mem_of_getElem? (i := 27) rfl)),
  fun _ h => nomatch h⟩⟩⟩⟩⟩⟩⟩⟩⟩⟩⟩⟩⟩⟩⟩⟩⟩⟩⟩⟩⟩⟩⟩⟩⟩⟩⟩⟩
def tb_7 : List (List (Nat × Op1)) := [tb_7_0]
theorem sm_7 : ∀ t ∈ tb_7, ∀ q ∈ t, SM GwP MdP D A l 7 q.1 q.2 := List.forall_mem_cons.mpr ⟨sm_7_0, fun _ h => nomatch h⟩
-- 8: Marginalia$Anchor.moveAsCut(II)V
def dl_8_0 : List (Nat × Instr × Nat) := [(0, .aload_n 0, 1), (1, .dup, 1), (2, .getfield 7, 3), (5, .aload_n 0, 1), (6, .getfield 7, 3), (9, .iload_n 1, 1), (10, .iload_n 2, 1), (11, .invokestatic 20, 3), (14, .isub, 1), (15, .putfield 7, 3), (18, .aload_n 0, 1), (19, .dup, 1), (20, .getfield 13, 3), (23, .aload_n 0, 1), (24, .getfield 13, 3), (27, .iload_n 1, 1), (28, .iload_n 2, 1), (29, .invokestatic 20, 3), (32, .isub, 1), (33, .putfield 13, 3), (36, .return_, 1)]
theorem dk_8_0 : ∀ q ∈ dl_8_0, decode (mCod (MdP 8)) q.1 = .ok q.2 := by
  rw [show mCod (MdP 8) = cX0_moveAsCut from rfl]
  decide +kernel
def tb_8_0 : List (Nat × Op1) := [(0, oLdR 0 1), (1, oDup), (2, oGetI 1 0), (5, oLdR 0 1), (6, oGetI 1 0), (9, oLdI 1 1), (10, oLdI 2 1), (11, oCallS 9 3 3 []), (14, oSub), (15, oPutI 1 0), (18, oLdR 0 1), (19, oDup), (20, oGetI 1 1), (23, oLdR 0 1), (24, oGetI 1 1), (27, oLdI 1 1), (28, oLdI 2 1), (29, oCallS 9 3 3 []), (32, oSub), (33, oPutI 1 1), (36, oRetV)]
theorem sm_8_0 : ∀ q ∈ tb_8_0, SM GwP MdP D A l 8 q.1 q.2 :=
  List.forall_mem_cons.mpr ⟨sd_oLdR_n 8 0 0 0 rfl (dk_8_0 (0, .aload_n 0, 1) (List.mem_of_getElem? (i := 0) rfl)),
  List.forall_mem_cons.mpr ⟨sd_dup 8 1 (dk_8_0 (1, .dup, 1) (List.mem_of_getElem? (i := 1) rfl)),
  List.forall_mem_cons.mpr ⟨sd_oGetI 8 2 1 0 7 RX0 TX0 2 rfl ⟨by decide, by decide⟩ rfl (by decide) rfl (fun w h => iw_8 w (uz_0 w h)) rfl (iw_8 _ zw3) (dk_8_0 (2, .getfield 7, 3) (List.mem_of_getElem? (i := 2) rfl)),
  List.forall_mem_cons.mpr ⟨sd_oLdR_n 8 5 0 0 rfl (dk_8_0 (5, .aload_n 0, 1) (List.mem_of_getElem? (i := 3) rfl)),
  List.forall_mem_cons.mpr ⟨sd_oGetI 8 6 1 0 7 RX0 TX0 2 rfl ⟨by decide, by decide⟩ rfl (by decide) rfl (fun w h => iw_8 w (uz_0 w h)) rfl (iw_8 _ zw3) (dk_8_0 (6, .getfield 7, 3) (List.mem_of_getElem? (i := 4) rfl)),
  List.forall_mem_cons.mpr ⟨sd_oLdI_n 8 9 1 1 rfl (dk_8_0 (9, .iload_n 1, 1) (List.mem_of_getElem? (i := 5) rfl)),
  List.forall_mem_cons.mpr ⟨sd_oLdI_n 8 10 2 2 rfl (dk_8_0 (10, .iload_n 2, 1) (List.mem_of_getElem? (i := 6) rfl)),
  List.forall_mem_cons.mpr ⟨sd_callS 8 11 9 3 3 20 [] (gdS hws_8 hws_9 zw11 zw12 zw9 zw10) hws_9 rfl (by decide +kernel) rfl rfl ⟨by decide +kernel, by decide +kernel, by decide +kernel⟩ ⟨by decide, by decide⟩ (catch_nil rfl) (dk_8_0 (11, .invokestatic 20, 3) (List.mem_of_getElem? (i := 7) rfl)),
  List.forall_mem_cons.mpr ⟨sd_isub 8 14 (dk_8_0 (14, .isub, 1) (List.mem_of_getElem? (i := 8) rfl)),
  List.forall_mem_cons.mpr ⟨sd_oPutI 8 15 1 0 7 RX0 TX0 2 rfl ⟨by decide, by decide⟩ rfl (by decide) rfl (fun w h => iw_8 w (uz_0 w h)) rfl tyX0 tyX0_ok nmX0 rfl rfl (iw_8 _ zw3) (dk_8_0 (15, .putfield 7, 3) (List.mem_of_getElem? (i := 9) rfl)),
  List.forall_mem_cons.mpr ⟨sd_oLdR_n 8 18 0 0 rfl (dk_8_0 (18, .aload_n 0, 1) (List.mem_of_getElem? (i := 10) rfl)),
  List.forall_mem_cons.mpr ⟨sd_dup 8 19 (dk_8_0 (19, .dup, 1) (List.mem_of_getElem? (i := 11) rfl)),
  List.forall_mem_cons.mpr ⟨sd_oGetI 8 20 1 1 13 RX0 TX0 2 rfl ⟨by decide, by decide⟩ rfl (by decide) rfl (fun w h => iw_8 w (uz_0 w h)) rfl (iw_8 _ zw4) (dk_8_0 (20, .getfield 13, 3) (List.mem_of_getElem? (i := 12) rfl)),
  List.forall_mem_cons.mpr ⟨sd_oLdR_n 8 23 0 0 rfl (dk_8_0 (23, .aload_n 0, 1) (List.mem_of_getElem? (i := 13) rfl)),
  List.forall_mem_cons.mpr ⟨sd_oGetI 8 24 1 1 13 RX0 TX0 2 rfl ⟨by decide, by decide⟩ rfl (by decide) rfl (fun w h => iw_8 w (uz_0 w h)) rfl (iw_8 _ zw4) (dk_8_0 (24, .getfield 13, 3) (List.mem_of_getElem? (i := 14) rfl)),
  List.forall_mem_cons.mpr ⟨sd_oLdI_n 8 27 1 1 rfl (dk_8_0 (27, .iload_n 1, 1) (List.mem_of_getElem? (i := 15) rfl)),
  List.forall_mem_cons.mpr ⟨sd_oLdI_n 8 28 2 2 rfl (dk_8_0 (28, .iload_n 2, 1) (List.mem_of_getElem? (i := 16) rfl)),
  List.forall_mem_cons.mpr ⟨sd_callS 8 29 9 3 3 20 [] (gdS hws_8 hws_9 zw11 zw12 zw9 zw10) hws_9 rfl (by decide +kernel) rfl rfl ⟨by decide +kernel, by decide +kernel, by decide +kernel⟩ ⟨by decide, by decide⟩ (catch_nil rfl) (dk_8_0 (29, .invokestatic 20, 3) (List.mem_of_getElem? (i := 17) rfl)),
  List.forall_mem_cons.mpr ⟨sd_isub 8 32 (dk_8_0 (32, .isub, 1) (List.mem_of_getElem? (i := 18) rfl)),
  List.forall_mem_cons.mpr ⟨sd_oPutI 8 33 1 1 13 RX0 TX0 2 rfl ⟨by decide, by decide⟩ rfl (by decide) rfl (fun w h => iw_8 w (uz_0 w h)) rfl tyX0 tyX0_ok nmX0 rfl rfl (iw_8 _ zw4) (dk_8_0 (33, .putfield 13, 3) (List.mem_of_getElem? (i := 19) rfl)),
  List.forall_mem_cons.mpr ⟨sd_vret 8 36 rfl (dk_8_0 (36, .return_, 1) (List.mem_of_getElem? (i := 20) rfl)),
  fun _ h => nomatch h⟩⟩⟩⟩⟩⟩⟩⟩⟩⟩⟩⟩⟩⟩⟩⟩⟩⟩⟩⟩⟩
def tb_8 : List (List (Nat × Op1)) := [tb_8_0]
theorem sm_8 : ∀ t ∈ tb_8, ∀ q ∈ t, SM GwP MdP D A l 8 q.1 q.2 := List.forall_mem_cons.mpr ⟨sm_8_0, fun _ h => nomatch h⟩
-- 9: Marginalia$Anchor.cutAheadOf(III)I
def dl_9_0 : List (Nat × Instr × Nat) := [(0, .iconst 0, 1), (1, .iload_n 0, 1), (2, .iload_n 2, 1), (3, .invokestatic 24, 3), (6, .iload_n 1, 1), (7, .isub, 1), (8, .invokestatic 30, 3), (11, .ireturn, 1)]
theorem dk_9_0 : ∀ q ∈ dl_9_0, decode (mCod (MdP 9)) q.1 = .ok q.2 := by
  rw [show mCod (MdP 9) = cX0_cutAheadOf from rfl]
  decide +kernel
def tb_9_0 : List (Nat × Op1) := [(0, oCI 0 1), (1, oLdI 0 1), (2, oLdI 2 1), (3, oMin), (6, oLdI 1 1), (7, oSub), (8, oMax), (11, oRetI)]
theorem sm_9_0 : ∀ q ∈ tb_9_0, SM GwP MdP D A l 9 q.1 q.2 :=
  List.forall_mem_cons.mpr ⟨sd_iconst 9 0 0 ⟨by decide, by decide⟩ (dk_9_0 (0, .iconst 0, 1) (List.mem_of_getElem? (i := 0) rfl)),
  List.forall_mem_cons.mpr ⟨sd_oLdI_n 9 1 0 0 rfl (dk_9_0 (1, .iload_n 0, 1) (List.mem_of_getElem? (i := 1) rfl)),
  List.forall_mem_cons.mpr ⟨sd_oLdI_n 9 2 2 2 rfl (dk_9_0 (2, .iload_n 2, 1) (List.mem_of_getElem? (i := 2) rfl)),
  List.forall_mem_cons.mpr ⟨sd_min 9 3 24 (iw_9 _ zw13) (iw_9 _ zw14) (iw_9 _ zw15) (iw_9 _ zw16) (by decide) (by decide) (dk_9_0 (3, .invokestatic 24, 3) (List.mem_of_getElem? (i := 3) rfl)),
  List.forall_mem_cons.mpr ⟨sd_oLdI_n 9 6 1 1 rfl (dk_9_0 (6, .iload_n 1, 1) (List.mem_of_getElem? (i := 4) rfl)),
  List.forall_mem_cons.mpr ⟨sd_isub 9 7 (dk_9_0 (7, .isub, 1) (List.mem_of_getElem? (i := 5) rfl)),
  List.forall_mem_cons.mpr ⟨sd_max 9 8 30 (iw_9 _ zw17) (iw_9 _ zw18) (iw_9 _ zw15) (iw_9 _ zw19) (by decide) (by decide) (dk_9_0 (8, .invokestatic 30, 3) (List.mem_of_getElem? (i := 6) rfl)),
  List.forall_mem_cons.mpr ⟨sd_iret 9 11 rfl (dk_9_0 (11, .ireturn, 1) (List.mem_of_getElem? (i := 7) rfl)),
  fun _ h => nomatch h⟩⟩⟩⟩⟩⟩⟩⟩
def tb_9 : List (List (Nat × Op1)) := [tb_9_0]
theorem sm_9 : ∀ t ∈ tb_9, ∀ q ∈ t, SM GwP MdP D A l 9 q.1 q.2 := List.forall_mem_cons.mpr ⟨sm_9_0, fun _ h => nomatch h⟩
-- 10: Marginalia$Export.<init>()V
def dl_10_0 : List (Nat × Instr × Nat) := [(0, .aload_n 0, 1), (1, .invokespecial 3, 3), (4, .aload_n 0, 1), (5, .iconst 4, 1), (6, .bipush 60, 2), (8, .multianewarray 11 2, 4), (12, .putfield 13, 3), (15, .return_, 1)]
theorem dk_10_0 : ∀ q ∈ dl_10_0, decode (mCod (MdP 10)) q.1 = .ok q.2 := by
  rw [show mCod (MdP 10) = cX1_init from rfl]
  decide +kernel
def tb_10_0 : List (Nat × Op1) := [(0, oLdR 0 1), (1, oObj), (4, oLdR 0 1), (5, oCI 4 1), (6, oCI 60 2), (8, oNew2), (12, oPutR 2 0), (15, oRetV)]
theorem sm_10_0 : ∀ q ∈ tb_10_0, SM GwP MdP D A l 10 q.1 q.2 :=
  List.forall_mem_cons.mpr ⟨sd_oLdR_n 10 0 0 0 rfl (dk_10_0 (0, .aload_n 0, 1) (List.mem_of_getElem? (i := 0) rfl)),
  List.forall_mem_cons.mpr ⟨sd_obj 10 1 3 (iw_10 _ zw20) (iw_10 _ zw1) (iw_10 _ zw2) (by decide) (by decide) (dk_10_0 (1, .invokespecial 3, 3) (List.mem_of_getElem? (i := 1) rfl)),
  List.forall_mem_cons.mpr ⟨sd_oLdR_n 10 4 0 0 rfl (dk_10_0 (4, .aload_n 0, 1) (List.mem_of_getElem? (i := 2) rfl)),
  List.forall_mem_cons.mpr ⟨sd_iconst 10 5 4 ⟨by decide, by decide⟩ (dk_10_0 (5, .iconst 4, 1) (List.mem_of_getElem? (i := 3) rfl)),
  List.forall_mem_cons.mpr ⟨sd_bipush 10 6 60 ⟨by decide, by decide⟩ (by decide) (dk_10_0 (6, .bipush 60, 2) (List.mem_of_getElem? (i := 4) rfl)),
  List.forall_mem_cons.mpr ⟨sd_new2 10 8 11 (iw_10 _ zw21) (iw_10 _ zw22) (dk_10_0 (8, .multianewarray 11 2, 4) (List.mem_of_getElem? (i := 5) rfl)),
  List.forall_mem_cons.mpr ⟨sd_oPutRF 10 12 2 0 13 RX1 TX1 2 rfl ⟨by decide, by decide⟩ rfl (by decide) rfl (fun w h => iw_10 w (uz_1 w h)) rfl tyX1 tyX1_ok nmX1 (Or.inr ⟨_, rfl⟩) rfl rfl rfl (iw_10 _ zw23) (dk_10_0 (12, .putfield 13, 3) (List.mem_of_getElem? (i := 6) rfl)),
  List.forall_mem_cons.mpr ⟨sd_vret 10 15 rfl (dk_10_0 (15, .return_, 1) (List.mem_of_getElem? (i := 7) rfl)),
  fun _ h => nomatch h⟩⟩⟩⟩⟩⟩⟩⟩
def tb_10 : List (List (Nat × Op1)) := [tb_10_0]
theorem sm_10 : ∀ t ∈ tb_10, ∀ q ∈ t, SM GwP MdP D A l 10 q.1 q.2 := List.forall_mem_cons.mpr ⟨sm_10_0, fun _ h => nomatch h⟩
-- 11: Marginalia$Export.addOrder(LMarginalia$Note;)V
def dl_11_0 : List (Nat × Instr × Nat) := [(0, .aload_n 1, 1), (1, .astore_n 2, 1), (2, .aload_n 2, 1), (3, .ifnull 94, 3), (6, .aload_n 2, 1), (7, .getfield 16, 3), (10, .ifCond .ne 79, 3), (13, .aload_n 0, 1), (14, .getfield 13, 3), (17, .iconst 0, 1), (18, .aaload, 1), (19, .aload_n 0, 1), (20, .getfield 22, 3), (23, .aload_n 2, 1), (24, .getfield 26, 3), (27, .iastore, 1), (28, .aload_n 0, 1), (29, .getfield 13, 3), (32, .iconst 1, 1), (33, .aaload, 1), (34, .aload_n 0, 1), (35, .getfield 22, 3), (38, .aload_n 2, 1), (39, .getfield 29, 3), (42, .iastore, 1), (43, .aload_n 0, 1), (44, .getfield 13, 3), (47, .iconst 2, 1), (48, .aaload, 1), (49, .aload_n 0, 1), (50, .getfield 22, 3), (53, .aload_n 2, 1), (54, .getfield 32, 3), (57, .getfield 36, 3), (60, .getfield 42, 3), (63, .iastore, 1), (64, .aload_n 0, 1), (65, .getfield 13, 3), (68, .iconst 3, 1), (69, .aaload, 1)]
theorem dk_11_0 : ∀ q ∈ dl_11_0, decode (mCod (MdP 11)) q.1 = .ok q.2 := by
  rw [show mCod (MdP 11) = cX1_addOrder from rfl]
  decide +kernel
def dl_11_1 : List (Nat × Instr × Nat) := [(70, .aload_n 0, 1), (71, .getfield 22, 3), (74, .aload_n 2, 1), (75, .invokevirtual 47, 3), (78, .iastore, 1), (79, .aload_n 0, 1), (80, .dup, 1), (81, .getfield 22, 3), (84, .iconst 1, 1), (85, .iadd, 1), (86, .putfield 22, 3), (89, .aload_n 2, 1), (90, .getfield 51, 3), (93, .astore_n 2, 1), (94, .goto (-92), 3), (97, .return_, 1)]
theorem dk_11_1 : ∀ q ∈ dl_11_1, decode (mCod (MdP 11)) q.1 = .ok q.2 := by
  rw [show mCod (MdP 11) = cX1_addOrder from rfl]
  decide +kernel
def tb_11_0 : List (Nat × Op1) := [(0, oLdR 1 1), (1, oStR 2 1), (2, oLdR 2 1), (3, oNul 97), (6, oLdR 2 1), (7, oGetI 3 9), (10, oZne 89), (13, oLdR 0 1), (14, oGetR 2 0), (17, oCI 0 1), (18, oALdR 14), (19, oLdR 0 1), (20, oGetI 2 1), (23, oLdR 2 1), (24, oGetI 3 0), (27, oAStI), (28, oLdR 0 1), (29, oGetR 2 0), (32, oCI 1 1), (33, oALdR 14), (34, oLdR 0 1), (35, oGetI 2 1), (38, oLdR 2 1), (39, oGetI 3 3), (42, oAStI), (43, oLdR 0 1), (44, oGetR 2 0), (47, oCI 2 1), (48, oALdR 14), (49, oLdR 0 1), (50, oGetI 2 1), (53, oLdR 2 1), (54, oGetR 3 5), (57, oGetR 4 3), (60, oGetI 1 0), (63, oAStI)]
theorem sm_11_0 : ∀ q ∈ tb_11_0, SM GwP MdP D A l 11 q.1 q.2 :=
  List.forall_mem_cons.mpr ⟨sd_oLdR_n 11 0 1 1 rfl (dk_11_0 (0, .aload_n 1, 1) (List.mem_of_getElem? (i := 0) rfl)),
  List.forall_mem_cons.mpr ⟨sd_oStR_n 11 1 2 2 rfl (by decide) (dk_11_0 (1, .astore_n 2, 1) (List.mem_of_getElem? (i := 1) rfl)),
  List.forall_mem_cons.mpr ⟨sd_oLdR_n 11 2 2 2 rfl (dk_11_0 (2, .aload_n 2, 1) (List.mem_of_getElem? (i := 2) rfl)),
  List.forall_mem_cons.mpr ⟨sd_ifnull 11 3 94 97 (by decide) (dk_11_0 (3, .ifnull 94, 3) (List.mem_of_getElem? (i := 3) rfl)),
  List.forall_mem_cons.mpr ⟨sd_oLdR_n 11 6 2 2 rfl (dk_11_0 (6, .aload_n 2, 1) (List.mem_of_getElem? (i := 4) rfl)),
  List.forall_mem_cons.mpr ⟨sd_oGetIN 11 7 3 9 16 RX2 TX2 10 rfl ⟨by decide, by decide⟩ rfl (by decide) rfl (fun w h => iw_11 w (uz_2 w h)) rfl "Marginalia" (List.mem_of_getElem? (i := 17) rfl) (dk_11_0 (7, .getfield 16, 3) (List.mem_of_getElem? (i := 5) rfl)),
  List.forall_mem_cons.mpr ⟨sd_if_ne 11 10 79 89 (by decide) (dk_11_0 (10, .ifCond .ne 79, 3) (List.mem_of_getElem? (i := 6) rfl)),
  List.forall_mem_cons.mpr ⟨sd_oLdR_n 11 13 0 0 rfl (dk_11_0 (13, .aload_n 0, 1) (List.mem_of_getElem? (i := 7) rfl)),
  List.forall_mem_cons.mpr ⟨sd_oGetR 11 14 2 0 13 RX1 TX1 2 rfl ⟨by decide, by decide⟩ rfl (by decide) rfl (fun w h => iw_11 w (uz_1 w h)) rfl (iw_11 _ zw23) (dk_11_0 (14, .getfield 13, 3) (List.mem_of_getElem? (i := 8) rfl)),
  List.forall_mem_cons.mpr ⟨sd_iconst 11 17 0 ⟨by decide, by decide⟩ (dk_11_0 (17, .iconst 0, 1) (List.mem_of_getElem? (i := 9) rfl)),
  List.forall_mem_cons.mpr ⟨sd_aaldA 11 18 (dk_11_0 (18, .aaload, 1) (List.mem_of_getElem? (i := 10) rfl)),
  List.forall_mem_cons.mpr ⟨sd_oLdR_n 11 19 0 0 rfl (dk_11_0 (19, .aload_n 0, 1) (List.mem_of_getElem? (i := 11) rfl)),
  List.forall_mem_cons.mpr ⟨sd_oGetI 11 20 2 1 22 RX1 TX1 2 rfl ⟨by decide, by decide⟩ rfl (by decide) rfl (fun w h => iw_11 w (uz_1 w h)) rfl (iw_11 _ zw24) (dk_11_0 (20, .getfield 22, 3) (List.mem_of_getElem? (i := 12) rfl)),
  List.forall_mem_cons.mpr ⟨sd_oLdR_n 11 23 2 2 rfl (dk_11_0 (23, .aload_n 2, 1) (List.mem_of_getElem? (i := 13) rfl)),
  List.forall_mem_cons.mpr ⟨sd_oGetIN 11 24 3 0 26 RX2 TX2 10 rfl ⟨by decide, by decide⟩ rfl (by decide) rfl (fun w h => iw_11 w (uz_2 w h)) rfl "Marginalia" (List.mem_of_getElem? (i := 18) rfl) (dk_11_0 (24, .getfield 26, 3) (List.mem_of_getElem? (i := 14) rfl)),
  List.forall_mem_cons.mpr ⟨sd_iast 11 27 (dk_11_0 (27, .iastore, 1) (List.mem_of_getElem? (i := 15) rfl)),
  List.forall_mem_cons.mpr ⟨sd_oLdR_n 11 28 0 0 rfl (dk_11_0 (28, .aload_n 0, 1) (List.mem_of_getElem? (i := 16) rfl)),
  List.forall_mem_cons.mpr ⟨sd_oGetR 11 29 2 0 13 RX1 TX1 2 rfl ⟨by decide, by decide⟩ rfl (by decide) rfl (fun w h => iw_11 w (uz_1 w h)) rfl (iw_11 _ zw23) (dk_11_0 (29, .getfield 13, 3) (List.mem_of_getElem? (i := 17) rfl)),
  List.forall_mem_cons.mpr ⟨sd_iconst 11 32 1 ⟨by decide, by decide⟩ (dk_11_0 (32, .iconst 1, 1) (List.mem_of_getElem? (i := 18) rfl)),
  List.forall_mem_cons.mpr ⟨sd_aaldA 11 33 (dk_11_0 (33, .aaload, 1) (List.mem_of_getElem? (i := 19) rfl)),
  List.forall_mem_cons.mpr ⟨sd_oLdR_n 11 34 0 0 rfl (dk_11_0 (34, .aload_n 0, 1) (List.mem_of_getElem? (i := 20) rfl)),
  List.forall_mem_cons.mpr ⟨sd_oGetI 11 35 2 1 22 RX1 TX1 2 rfl ⟨by decide, by decide⟩ rfl (by decide) rfl (fun w h => iw_11 w (uz_1 w h)) rfl (iw_11 _ zw24) (dk_11_0 (35, .getfield 22, 3) (List.mem_of_getElem? (i := 21) rfl)),
  List.forall_mem_cons.mpr ⟨sd_oLdR_n 11 38 2 2 rfl (dk_11_0 (38, .aload_n 2, 1) (List.mem_of_getElem? (i := 22) rfl)),
  List.forall_mem_cons.mpr ⟨sd_oGetIN 11 39 3 3 29 RX2 TX2 10 rfl ⟨by decide, by decide⟩ rfl (by decide) rfl (fun w h => iw_11 w (uz_2 w h)) rfl "Marginalia" (List.mem_of_getElem? (i := 19) rfl) (dk_11_0 (39, .getfield 29, 3) (List.mem_of_getElem? (i := 23) rfl)),
  List.forall_mem_cons.mpr ⟨sd_iast 11 42 (dk_11_0 (42, .iastore, 1) (List.mem_of_getElem? (i := 24) rfl)),
  List.forall_mem_cons.mpr ⟨sd_oLdR_n 11 43 0 0 rfl (dk_11_0 (43, .aload_n 0, 1) (List.mem_of_getElem? (i := 25) rfl)),
  List.forall_mem_cons.mpr ⟨sd_oGetR 11 44 2 0 13 RX1 TX1 2 rfl ⟨by decide, by decide⟩ rfl (by decide) rfl (fun w h => iw_11 w (uz_1 w h)) rfl (iw_11 _ zw23) (dk_11_0 (44, .getfield 13, 3) (List.mem_of_getElem? (i := 26) rfl)),
  List.forall_mem_cons.mpr ⟨sd_iconst 11 47 2 ⟨by decide, by decide⟩ (dk_11_0 (47, .iconst 2, 1) (List.mem_of_getElem? (i := 27) rfl)),
  List.forall_mem_cons.mpr ⟨sd_aaldA 11 48 (dk_11_0 (48, .aaload, 1) (List.mem_of_getElem? (i := 28) rfl)),
  List.forall_mem_cons.mpr ⟨sd_oLdR_n 11 49 0 0 rfl (dk_11_0 (49, .aload_n 0, 1) (List.mem_of_getElem? (i := 29) rfl)),
  List.forall_mem_cons.mpr ⟨sd_oGetI 11 50 2 1 22 RX1 TX1 2 rfl ⟨by decide, by decide⟩ rfl (by decide) rfl (fun w h => iw_11 w (uz_1 w h)) rfl (iw_11 _ zw24) (dk_11_0 (50, .getfield 22, 3) (List.mem_of_getElem? (i := 30) rfl)),
  List.forall_mem_cons.mpr ⟨sd_oLdR_n 11 53 2 2 rfl (dk_11_0 (53, .aload_n 2, 1) (List.mem_of_getElem? (i := 31) rfl)),
  List.forall_mem_cons.mpr ⟨sd_oGetRN 11 54 3 5 32 RX2 TX2 10 rfl ⟨by decide, by decide⟩ rfl (by decide) rfl (fun w h => iw_11 w (uz_2 w h)) rfl "Marginalia" (List.mem_of_getElem? (i := 20) rfl) (dk_11_0 (54, .getfield 32, 3) (List.mem_of_getElem? (i := 32) rfl)),
  List.forall_mem_cons.mpr ⟨sd_oGetRN 11 57 4 3 36 RX3 TX3 8 rfl ⟨by decide, by decide⟩ rfl (by decide) rfl (fun w h => iw_11 w (uz_3 w h)) rfl "Marginalia" (List.mem_of_getElem? (i := 21) rfl) (dk_11_0 (57, .getfield 36, 3) (List.mem_of_getElem? (i := 33) rfl)),
  List.forall_mem_cons.mpr ⟨sd_oGetIN 11 60 1 0 42 RX0 TX0 2 rfl ⟨by decide, by decide⟩ rfl (by decide) rfl (fun w h => iw_11 w (uz_0 w h)) rfl "Marginalia" (List.mem_of_getElem? (i := 22) rfl) (dk_11_0 (60, .getfield 42, 3) (List.mem_of_getElem? (i := 34) rfl)),
  List.forall_mem_cons.mpr ⟨sd_iast 11 63 (dk_11_0 (63, .iastore, 1) (List.mem_of_getElem? (i := 35) rfl)),
  fun _ h => nomatch h⟩⟩⟩⟩⟩⟩⟩⟩⟩⟩⟩⟩⟩⟩⟩⟩⟩⟩⟩⟩⟩⟩⟩⟩⟩⟩⟩⟩⟩⟩⟩⟩⟩⟩⟩⟩
def tb_11_1 : List (Nat × Op1) := [(64, oLdR 0 1), (65, oGetR 2 0), (68, oCI 3 1), (69, oALdR 14), (70, oLdR 0 1), (71, oGetI 2 1), (74, oLdR 2 1), (75, oCallV 15 0 1 3 []), (78, oAStI), (79, oLdR 0 1), (80, oDup), (81, oGetI 2 1), (84, oCI 1 1), (85, oAdd), (86, oPutI 2 1), (89, oLdR 2 1), (90, oGetR 3 6), (93, oStR 2 1), (94, oGoto 2), (97, oRetV)]
theorem sm_11_1 : ∀ q ∈ tb_11_1, SM GwP MdP D A l 11 q.1 q.2 :=
  List.forall_mem_cons.mpr ⟨sd_oLdR_n 11 64 0 0 rfl (dk_11_0 (64, .aload_n 0, 1) (List.mem_of_getElem? (i := 36) rfl)),
  List.forall_mem_cons.mpr ⟨sd_oGetR 11 65 2 0 13 RX1 TX1 2 rfl ⟨by decide, by decide⟩ rfl (by decide) rfl (fun w h => iw_11 w (uz_1 w h)) rfl (iw_11 _ zw23) (dk_11_0 (65, .getfield 13, 3) (List.mem_of_getElem? (i := 37) rfl)),
  List.forall_mem_cons.mpr ⟨sd_iconst 11 68 3 ⟨by decide, by decide⟩ (dk_11_0 (68, .iconst 3, 1) (List.mem_of_getElem? (i := 38) rfl)),
  List.forall_mem_cons.mpr ⟨sd_aaldA 11 69 (dk_11_0 (69, .aaload, 1) (List.mem_of_getElem? (i := 39) rfl)),
  List.forall_mem_cons.mpr ⟨sd_oLdR_n 11 70 0 0 rfl (dk_11_1 (70, .aload_n 0, 1) (List.mem_of_getElem? (i := 0) rfl)),
  List.forall_mem_cons.mpr ⟨sd_oGetI 11 71 2 1 22 RX1 TX1 2 rfl ⟨by decide, by decide⟩ rfl (by decide) rfl (fun w h => iw_11 w (uz_1 w h)) rfl (iw_11 _ zw24) (dk_11_1 (71, .getfield 22, 3) (List.mem_of_getElem? (i := 1) rfl)),
  List.forall_mem_cons.mpr ⟨sd_oLdR_n 11 74 2 2 rfl (dk_11_1 (74, .aload_n 2, 1) (List.mem_of_getElem? (i := 2) rfl)),
  List.forall_mem_cons.mpr ⟨sd_callV 11 75 15 0 1 47 3 [] (gdV hws_11 hws_15 zw26 zw27 zw28 zw29 zw25) hws_15 rfl (by decide +kernel) rfl rfl ⟨by decide +kernel, by decide +kernel, by decide +kernel⟩ ⟨by decide, by decide⟩ (catch_nil rfl) RX2 rfl TX2 10 rfl ⟨by decide, by decide⟩ (dk_11_1 (75, .invokevirtual 47, 3) (List.mem_of_getElem? (i := 3) rfl)),
  List.forall_mem_cons.mpr ⟨sd_iast 11 78 (dk_11_1 (78, .iastore, 1) (List.mem_of_getElem? (i := 4) rfl)),
  List.forall_mem_cons.mpr ⟨sd_oLdR_n 11 79 0 0 rfl (dk_11_1 (79, .aload_n 0, 1) (List.mem_of_getElem? (i := 5) rfl)),
  List.forall_mem_cons.mpr ⟨sd_dup 11 80 (dk_11_1 (80, .dup, 1) (List.mem_of_getElem? (i := 6) rfl)),
  List.forall_mem_cons.mpr ⟨sd_oGetI 11 81 2 1 22 RX1 TX1 2 rfl ⟨by decide, by decide⟩ rfl (by decide) rfl (fun w h => iw_11 w (uz_1 w h)) rfl (iw_11 _ zw24) (dk_11_1 (81, .getfield 22, 3) (List.mem_of_getElem? (i := 7) rfl)),
  List.forall_mem_cons.mpr ⟨sd_iconst 11 84 1 ⟨by decide, by decide⟩ (dk_11_1 (84, .iconst 1, 1) (List.mem_of_getElem? (i := 8) rfl)),
  List.forall_mem_cons.mpr ⟨sd_iadd 11 85 (dk_11_1 (85, .iadd, 1) (List.mem_of_getElem? (i := 9) rfl)),
  List.forall_mem_cons.mpr ⟨sd_oPutI 11 86 2 1 22 RX1 TX1 2 rfl ⟨by decide, by decide⟩ rfl (by decide) rfl (fun w h => iw_11 w (uz_1 w h)) rfl tyX1 tyX1_ok nmX1 rfl rfl (iw_11 _ zw24) (dk_11_1 (86, .putfield 22, 3) (List.mem_of_getElem? (i := 10) rfl)),
  List.forall_mem_cons.mpr ⟨sd_oLdR_n 11 89 2 2 rfl (dk_11_1 (89, .aload_n 2, 1) (List.mem_of_getElem? (i := 11) rfl)),
  List.forall_mem_cons.mpr ⟨sd_oGetRN 11 90 3 6 51 RX2 TX2 10 rfl ⟨by decide, by decide⟩ rfl (by decide) rfl (fun w h => iw_11 w (uz_2 w h)) rfl "Marginalia" (List.mem_of_getElem? (i := 23) rfl) (dk_11_1 (90, .getfield 51, 3) (List.mem_of_getElem? (i := 12) rfl)),
  List.forall_mem_cons.mpr ⟨sd_oStR_n 11 93 2 2 rfl (by decide) (dk_11_1 (93, .astore_n 2, 1) (List.mem_of_getElem? (i := 13) rfl)),
  List.forall_mem_cons.mpr ⟨sd_goto 11 94 (-92) 2 (by decide) (dk_11_1 (94, .goto (-92), 3) (List.mem_of_getElem? (i := 14) rfl)),
  List.forall_mem_cons.mpr ⟨sd_vret 11 97 rfl (dk_11_1 (97, .return_, 1) (List.mem_of_getElem? (i := 15) rfl)),
  fun _ h => nomatch h⟩⟩⟩⟩⟩⟩⟩⟩⟩⟩⟩⟩⟩⟩⟩⟩⟩⟩⟩⟩
def tb_11 : List (List (Nat × Op1)) := [tb_11_0, tb_11_1]
theorem sm_11 : ∀ t ∈ tb_11, ∀ q ∈ t, SM GwP MdP D A l 11 q.1 q.2 := List.forall_mem_cons.mpr ⟨sm_11_0, List.forall_mem_cons.mpr ⟨sm_11_1, fun _ h => nomatch h⟩⟩
-- 12: Marginalia$Note.<init>(IIILMarginalia$Note;LMarginalia$Strand;)V
def dl_12_0 : List (Nat × Instr × Nat) := [(0, .aload_n 0, 1), (1, .invokespecial 3, 3), (4, .aload_n 0, 1), (5, .iload_n 1, 1), (6, .putfield 9, 3), (9, .aload_n 0, 1), (10, .iload_n 2, 1), (11, .putfield 15, 3), (14, .aload_n 0, 1), (15, .iload_n 3, 1), (16, .putfield 18, 3), (19, .aload_n 0, 1), (20, .aload 4, 2), (22, .putfield 21, 3), (25, .aload_n 0, 1), (26, .aload 5, 2), (28, .putfield 25, 3), (31, .aload_n 0, 1), (32, .aload 4, 2), (34, .ifnonnull 7, 3), (37, .iconst 0, 1), (38, .goto 10, 3), (41, .aload 4, 2), (43, .getfield 29, 3), (46, .iconst 1, 1), (47, .iadd, 1), (48, .putfield 29, 3), (51, .return_, 1)]
theorem dk_12_0 : ∀ q ∈ dl_12_0, decode (mCod (MdP 12)) q.1 = .ok q.2 := by
  rw [show mCod (MdP 12) = cX2_init from rfl]
  decide +kernel
def tb_12_0 : List (Nat × Op1) := [(0, oLdR 0 1), (1, oObj), (4, oLdR 0 1), (5, oLdI 1 1), (6, oPutI 3 0), (9, oLdR 0 1), (10, oLdI 2 1), (11, oPutI 3 1), (14, oLdR 0 1), (15, oLdI 3 1), (16, oPutI 3 2), (19, oLdR 0 1), (20, oLdR 4 2), (22, oPutR 3 4), (25, oLdR 0 1), (26, oLdR 5 2), (28, oPutR 3 5), (31, oLdR 0 1), (32, oLdR 4 2), (34, oNNul 41), (37, oCI 0 1), (38, oGoto 48), (41, oLdR 4 2), (43, oGetI 3 3), (46, oCI 1 1), (47, oAdd), (48, oPutI 3 3), (51, oRetV)]
theorem sm_12_0 : ∀ q ∈ tb_12_0, SM GwP MdP D A l 12 q.1 q.2 :=
  List.forall_mem_cons.mpr ⟨sd_oLdR_n 12 0 0 0 rfl (dk_12_0 (0, .aload_n 0, 1) (List.mem_of_getElem? (i := 0) rfl)),
  List.forall_mem_cons.mpr ⟨sd_obj 12 1 3 (iw_12 _ zw30) (iw_12 _ zw1) (iw_12 _ zw2) (by decide) (by decide) (dk_12_0 (1, .invokespecial 3, 3) (List.mem_of_getElem? (i := 1) rfl)),
  List.forall_mem_cons.mpr ⟨sd_oLdR_n 12 4 0 0 rfl (dk_12_0 (4, .aload_n 0, 1) (List.mem_of_getElem? (i := 2) rfl)),
  List.forall_mem_cons.mpr ⟨sd_oLdI_n 12 5 1 1 rfl (dk_12_0 (5, .iload_n 1, 1) (List.mem_of_getElem? (i := 3) rfl)),
  List.forall_mem_cons.mpr ⟨sd_oPutIF 12 6 3 0 9 RX2 TX2 10 rfl ⟨by decide, by decide⟩ rfl (by decide) rfl (fun w h => iw_12 w (uz_2 w h)) rfl tyX2 tyX2_ok nmX2 rfl rfl rfl rfl (iw_12 _ zw31) (dk_12_0 (6, .putfield 9, 3) (List.mem_of_getElem? (i := 4) rfl)),
  List.forall_mem_cons.mpr ⟨sd_oLdR_n 12 9 0 0 rfl (dk_12_0 (9, .aload_n 0, 1) (List.mem_of_getElem? (i := 5) rfl)),
  List.forall_mem_cons.mpr ⟨sd_oLdI_n 12 10 2 2 rfl (dk_12_0 (10, .iload_n 2, 1) (List.mem_of_getElem? (i := 6) rfl)),
  List.forall_mem_cons.mpr ⟨sd_oPutIF 12 11 3 1 15 RX2 TX2 10 rfl ⟨by decide, by decide⟩ rfl (by decide) rfl (fun w h => iw_12 w (uz_2 w h)) rfl tyX2 tyX2_ok nmX2 rfl rfl rfl rfl (iw_12 _ zw32) (dk_12_0 (11, .putfield 15, 3) (List.mem_of_getElem? (i := 7) rfl)),
  List.forall_mem_cons.mpr ⟨sd_oLdR_n 12 14 0 0 rfl (dk_12_0 (14, .aload_n 0, 1) (List.mem_of_getElem? (i := 8) rfl)),
  List.forall_mem_cons.mpr ⟨sd_oLdI_n 12 15 3 3 rfl (dk_12_0 (15, .iload_n 3, 1) (List.mem_of_getElem? (i := 9) rfl)),
  List.forall_mem_cons.mpr ⟨sd_oPutIF 12 16 3 2 18 RX2 TX2 10 rfl ⟨by decide, by decide⟩ rfl (by decide) rfl (fun w h => iw_12 w (uz_2 w h)) rfl tyX2 tyX2_ok nmX2 rfl rfl rfl rfl (iw_12 _ zw33) (dk_12_0 (16, .putfield 18, 3) (List.mem_of_getElem? (i := 10) rfl)),
  List.forall_mem_cons.mpr ⟨sd_oLdR_n 12 19 0 0 rfl (dk_12_0 (19, .aload_n 0, 1) (List.mem_of_getElem? (i := 11) rfl)),
  List.forall_mem_cons.mpr ⟨sd_oLdR 12 20 4 (dk_12_0 (20, .aload 4, 2) (List.mem_of_getElem? (i := 12) rfl)),
  List.forall_mem_cons.mpr ⟨sd_oPutRF 12 22 3 4 21 RX2 TX2 10 rfl ⟨by decide, by decide⟩ rfl (by decide) rfl (fun w h => iw_12 w (uz_2 w h)) rfl tyX2 tyX2_ok nmX2 (Or.inl ⟨_, rfl⟩) rfl rfl rfl (iw_12 _ zw34) (dk_12_0 (22, .putfield 21, 3) (List.mem_of_getElem? (i := 13) rfl)),
  List.forall_mem_cons.mpr ⟨sd_oLdR_n 12 25 0 0 rfl (dk_12_0 (25, .aload_n 0, 1) (List.mem_of_getElem? (i := 14) rfl)),
  List.forall_mem_cons.mpr ⟨sd_oLdR 12 26 5 (dk_12_0 (26, .aload 5, 2) (List.mem_of_getElem? (i := 15) rfl)),
  List.forall_mem_cons.mpr ⟨sd_oPutRF 12 28 3 5 25 RX2 TX2 10 rfl ⟨by decide, by decide⟩ rfl (by decide) rfl (fun w h => iw_12 w (uz_2 w h)) rfl tyX2 tyX2_ok nmX2 (Or.inl ⟨_, rfl⟩) rfl rfl rfl (iw_12 _ zw35) (dk_12_0 (28, .putfield 25, 3) (List.mem_of_getElem? (i := 16) rfl)),
  List.forall_mem_cons.mpr ⟨sd_oLdR_n 12 31 0 0 rfl (dk_12_0 (31, .aload_n 0, 1) (List.mem_of_getElem? (i := 17) rfl)),
  List.forall_mem_cons.mpr ⟨sd_oLdR 12 32 4 (dk_12_0 (32, .aload 4, 2) (List.mem_of_getElem? (i := 18) rfl)),
  List.forall_mem_cons.mpr ⟨sd_ifnonnull 12 34 7 41 (by decide) (dk_12_0 (34, .ifnonnull 7, 3) (List.mem_of_getElem? (i := 19) rfl)),
  List.forall_mem_cons.mpr ⟨sd_iconst 12 37 0 ⟨by decide, by decide⟩ (dk_12_0 (37, .iconst 0, 1) (List.mem_of_getElem? (i := 20) rfl)),
  List.forall_mem_cons.mpr ⟨sd_goto 12 38 10 48 (by decide) (dk_12_0 (38, .goto 10, 3) (List.mem_of_getElem? (i := 21) rfl)),
  List.forall_mem_cons.mpr ⟨sd_oLdR 12 41 4 (dk_12_0 (41, .aload 4, 2) (List.mem_of_getElem? (i := 22) rfl)),
  List.forall_mem_cons.mpr ⟨sd_oGetI 12 43 3 3 29 RX2 TX2 10 rfl ⟨by decide, by decide⟩ rfl (by decide) rfl (fun w h => iw_12 w (uz_2 w h)) rfl (iw_12 _ zw36) (dk_12_0 (43, .getfield 29, 3) (List.mem_of_getElem? (i := 23) rfl)),
  List.forall_mem_cons.mpr ⟨sd_iconst 12 46 1 ⟨by decide, by decide⟩ (dk_12_0 (46, .iconst 1, 1) (List.mem_of_getElem? (i := 24) rfl)),
  List.forall_mem_cons.mpr ⟨sd_iadd 12 47 (dk_12_0 (47, .iadd, 1) (List.mem_of_getElem? (i := 25) rfl)),
  List.forall_mem_cons.mpr ⟨sd_oPutIF 12 48 3 3 29 RX2 TX2 10 rfl ⟨by decide, by decide⟩ rfl (by decide) rfl (fun w h => iw_12 w (uz_2 w h)) rfl tyX2 tyX2_ok nmX2 rfl rfl rfl rfl (iw_12 _ zw36) (dk_12_0 (48, .putfield 29, 3) (List.mem_of_getElem? (i := 26) rfl)),
  List.forall_mem_cons.mpr ⟨sd_vret 12 51 rfl (dk_12_0 (51, .return_, 1) (List.mem_of_getElem? (i := 27) rfl)),
  fun _ h => nomatch h⟩⟩⟩⟩⟩⟩⟩⟩⟩⟩⟩⟩⟩⟩⟩⟩⟩⟩⟩⟩⟩⟩⟩⟩⟩⟩⟩⟩
def tb_12 : List (List (Nat × Op1)) := [tb_12_0]
theorem sm_12 : ∀ t ∈ tb_12, ∀ q ∈ t, SM GwP MdP D A l 12 q.1 q.2 := List.forall_mem_cons.mpr ⟨sm_12_0, fun _ h => nomatch h⟩
-- 13: Marginalia$Note.isHead()Z
def dl_13_0 : List (Nat × Instr × Nat) := [(0, .aload_n 0, 1), (1, .getfield 21, 3), (4, .ifnonnull 7, 3), (7, .iconst 1, 1), (8, .goto 4, 3), (11, .iconst 0, 1), (12, .ireturn, 1)]
theorem dk_13_0 : ∀ q ∈ dl_13_0, decode (mCod (MdP 13)) q.1 = .ok q.2 := by
  rw [show mCod (MdP 13) = cX2_isHead from rfl]
  decide +kernel
def tb_13_0 : List (Nat × Op1) := [(0, oLdR 0 1), (1, oGetR 3 4), (4, oNNul 11), (7, oCI 1 1), (8, oGoto 12), (11, oCI 0 1), (12, oRetZ)]
theorem sm_13_0 : ∀ q ∈ tb_13_0, SM GwP MdP D A l 13 q.1 q.2 :=
  List.forall_mem_cons.mpr ⟨sd_oLdR_n 13 0 0 0 rfl (dk_13_0 (0, .aload_n 0, 1) (List.mem_of_getElem? (i := 0) rfl)),
  List.forall_mem_cons.mpr ⟨sd_oGetR 13 1 3 4 21 RX2 TX2 10 rfl ⟨by decide, by decide⟩ rfl (by decide) rfl (fun w h => iw_13 w (uz_2 w h)) rfl (iw_13 _ zw34) (dk_13_0 (1, .getfield 21, 3) (List.mem_of_getElem? (i := 1) rfl)),
  List.forall_mem_cons.mpr ⟨sd_ifnonnull 13 4 7 11 (by decide) (dk_13_0 (4, .ifnonnull 7, 3) (List.mem_of_getElem? (i := 2) rfl)),
  List.forall_mem_cons.mpr ⟨sd_iconst 13 7 1 ⟨by decide, by decide⟩ (dk_13_0 (7, .iconst 1, 1) (List.mem_of_getElem? (i := 3) rfl)),
  List.forall_mem_cons.mpr ⟨sd_goto 13 8 4 12 (by decide) (dk_13_0 (8, .goto 4, 3) (List.mem_of_getElem? (i := 4) rfl)),
  List.forall_mem_cons.mpr ⟨sd_iconst 13 11 0 ⟨by decide, by decide⟩ (dk_13_0 (11, .iconst 0, 1) (List.mem_of_getElem? (i := 5) rfl)),
  List.forall_mem_cons.mpr ⟨sd_zret 13 12 rfl (dk_13_0 (12, .ireturn, 1) (List.mem_of_getElem? (i := 6) rfl)),
  fun _ h => nomatch h⟩⟩⟩⟩⟩⟩⟩
def tb_13 : List (List (Nat × Op1)) := [tb_13_0]
theorem sm_13 : ∀ t ∈ tb_13, ∀ q ∈ t, SM GwP MdP D A l 13 q.1 q.2 := List.forall_mem_cons.mpr ⟨sm_13_0, fun _ h => nomatch h⟩
-- 14: Marginalia$Note.isHeadNotGone()Z
def dl_14_0 : List (Nat × Instr × Nat) := [(0, .aload_n 0, 1), (1, .getfield 21, 3), (4, .ifnonnull 14, 3), (7, .aload_n 0, 1), (8, .getfield 32, 3), (11, .ifCond .ne 7, 3), (14, .iconst 1, 1), (15, .goto 4, 3), (18, .iconst 0, 1), (19, .ireturn, 1)]
theorem dk_14_0 : ∀ q ∈ dl_14_0, decode (mCod (MdP 14)) q.1 = .ok q.2 := by
  rw [show mCod (MdP 14) = cX2_isHeadNotGone from rfl]
  decide +kernel
def tb_14_0 : List (Nat × Op1) := [(0, oLdR 0 1), (1, oGetR 3 4), (4, oNNul 18), (7, oLdR 0 1), (8, oGetI 3 9), (11, oZne 18), (14, oCI 1 1), (15, oGoto 19), (18, oCI 0 1), (19, oRetZ)]
theorem sm_14_0 : ∀ q ∈ tb_14_0, SM GwP MdP D A l 14 q.1 q.2 :=
  List.forall_mem_cons.mpr ⟨sd_oLdR_n 14 0 0 0 rfl (dk_14_0 (0, .aload_n 0, 1) (List.mem_of_getElem? (i := 0) rfl)),
  List.forall_mem_cons.mpr ⟨sd_oGetR 14 1 3 4 21 RX2 TX2 10 rfl ⟨by decide, by decide⟩ rfl (by decide) rfl (fun w h => iw_14 w (uz_2 w h)) rfl (iw_14 _ zw34) (dk_14_0 (1, .getfield 21, 3) (List.mem_of_getElem? (i := 1) rfl)),
  List.forall_mem_cons.mpr ⟨sd_ifnonnull 14 4 14 18 (by decide) (dk_14_0 (4, .ifnonnull 14, 3) (List.mem_of_getElem? (i := 2) rfl)),
  List.forall_mem_cons.mpr ⟨sd_oLdR_n 14 7 0 0 rfl (dk_14_0 (7, .aload_n 0, 1) (List.mem_of_getElem? (i := 3) rfl)),
  List.forall_mem_cons.mpr ⟨sd_oGetI 14 8 3 9 32 RX2 TX2 10 rfl ⟨by decide, by decide⟩ rfl (by decide) rfl (fun w h => iw_14 w (uz_2 w h)) rfl (iw_14 _ zw37) (dk_14_0 (8, .getfield 32, 3) (List.mem_of_getElem? (i := 4) rfl)),
  List.forall_mem_cons.mpr ⟨sd_if_ne 14 11 7 18 (by decide) (dk_14_0 (11, .ifCond .ne 7, 3) (List.mem_of_getElem? (i := 5) rfl)),
  List.forall_mem_cons.mpr ⟨sd_iconst 14 14 1 ⟨by decide, by decide⟩ (dk_14_0 (14, .iconst 1, 1) (List.mem_of_getElem? (i := 6) rfl)),
  List.forall_mem_cons.mpr ⟨sd_goto 14 15 4 19 (by decide) (dk_14_0 (15, .goto 4, 3) (List.mem_of_getElem? (i := 7) rfl)),
  List.forall_mem_cons.mpr ⟨sd_iconst 14 18 0 ⟨by decide, by decide⟩ (dk_14_0 (18, .iconst 0, 1) (List.mem_of_getElem? (i := 8) rfl)),
  List.forall_mem_cons.mpr ⟨sd_zret 14 19 rfl (dk_14_0 (19, .ireturn, 1) (List.mem_of_getElem? (i := 9) rfl)),
  fun _ h => nomatch h⟩⟩⟩⟩⟩⟩⟩⟩⟩⟩
def tb_14 : List (List (Nat × Op1)) := [tb_14_0]
theorem sm_14 : ∀ t ∈ tb_14, ∀ q ∈ t, SM GwP MdP D A l 14 q.1 q.2 := List.forall_mem_cons.mpr ⟨sm_14_0, fun _ h => nomatch h⟩
-- 15: Marginalia$Note.contentShown()I
def dl_15_0 : List (Nat × Instr × Nat) := [(0, .aload_n 0, 1), (1, .getfield 36, 3), (4, .ifCond .eq 7, 3), (7, .iconst (-1), 1), (8, .goto 7, 3), (11, .aload_n 0, 1), (12, .getfield 18, 3), (15, .ireturn, 1)]
theorem dk_15_0 : ∀ q ∈ dl_15_0, decode (mCod (MdP 15)) q.1 = .ok q.2 := by
  rw [show mCod (MdP 15) = cX2_contentShown from rfl]
  decide +kernel
def tb_15_0 : List (Nat × Op1) := [(0, oLdR 0 1), (1, oGetI 3 8), (4, oZeq 11), (7, oCI (-1) 1), (8, oGoto 15), (11, oLdR 0 1), (12, oGetI 3 2), (15, oRetI)]
theorem sm_15_0 : ∀ q ∈ tb_15_0, SM GwP MdP D A l 15 q.1 q.2 :=
  List.forall_mem_cons.mpr ⟨sd_oLdR_n 15 0 0 0 rfl (dk_15_0 (0, .aload_n 0, 1) (List.mem_of_getElem? (i := 0) rfl)),
  List.forall_mem_cons.mpr ⟨sd_oGetI 15 1 3 8 36 RX2 TX2 10 rfl ⟨by decide, by decide⟩ rfl (by decide) rfl (fun w h => iw_15 w (uz_2 w h)) rfl (iw_15 _ zw38) (dk_15_0 (1, .getfield 36, 3) (List.mem_of_getElem? (i := 1) rfl)),
  List.forall_mem_cons.mpr ⟨sd_if_eq 15 4 7 11 (by decide) (dk_15_0 (4, .ifCond .eq 7, 3) (List.mem_of_getElem? (i := 2) rfl)),
  List.forall_mem_cons.mpr ⟨sd_iconst 15 7 (-1) ⟨by decide, by decide⟩ (dk_15_0 (7, .iconst (-1), 1) (List.mem_of_getElem? (i := 3) rfl)),
  List.forall_mem_cons.mpr ⟨sd_goto 15 8 7 15 (by decide) (dk_15_0 (8, .goto 7, 3) (List.mem_of_getElem? (i := 4) rfl)),
  List.forall_mem_cons.mpr ⟨sd_oLdR_n 15 11 0 0 rfl (dk_15_0 (11, .aload_n 0, 1) (List.mem_of_getElem? (i := 5) rfl)),
  List.forall_mem_cons.mpr ⟨sd_oGetI 15 12 3 2 18 RX2 TX2 10 rfl ⟨by decide, by decide⟩ rfl (by decide) rfl (fun w h => iw_15 w (uz_2 w h)) rfl (iw_15 _ zw33) (dk_15_0 (12, .getfield 18, 3) (List.mem_of_getElem? (i := 6) rfl)),
  List.forall_mem_cons.mpr ⟨sd_iret 15 15 rfl (dk_15_0 (15, .ireturn, 1) (List.mem_of_getElem? (i := 7) rfl)),
  fun _ h => nomatch h⟩⟩⟩⟩⟩⟩⟩⟩
def tb_15 : List (List (Nat × Op1)) := [tb_15_0]
theorem sm_15 : ∀ t ∈ tb_15, ∀ q ∈ t, SM GwP MdP D A l 15 q.1 q.2 := List.forall_mem_cons.mpr ⟨sm_15_0, fun _ h => nomatch h⟩
-- 16: Marginalia$Note.addReply(LMarginalia$Note;)V
def dl_16_0 : List (Nat × Instr × Nat) := [(0, .aload_n 0, 1), (1, .astore_n 2, 1), (2, .aload_n 2, 1), (3, .getfield 39, 3), (6, .ifnull 25, 3), (9, .aload_n 2, 1), (10, .getfield 39, 3), (13, .getfield 29, 3), (16, .aload_n 0, 1), (17, .getfield 29, 3), (20, .if_icmp .le 11, 3), (23, .aload_n 2, 1), (24, .getfield 39, 3), (27, .astore_n 2, 1), (28, .goto (-26), 3), (31, .aload_n 1, 1), (32, .aload_n 2, 1), (33, .getfield 39, 3), (36, .putfield 39, 3), (39, .aload_n 2, 1), (40, .aload_n 1, 1), (41, .putfield 39, 3), (44, .aload_n 0, 1), (45, .dup, 1), (46, .getfield 42, 3), (49, .iconst 1, 1), (50, .iadd, 1), (51, .putfield 42, 3), (54, .return_, 1)]
theorem dk_16_0 : ∀ q ∈ dl_16_0, decode (mCod (MdP 16)) q.1 = .ok q.2 := by
  rw [show mCod (MdP 16) = cX2_addReply from rfl]
  decide +kernel
def tb_16_0 : List (Nat × Op1) := [(0, oLdR 0 1), (1, oStR 2 1), (2, oLdR 2 1), (3, oGetR 3 6), (6, oNul 31), (9, oLdR 2 1), (10, oGetR 3 6), (13, oGetI 3 3), (16, oLdR 0 1), (17, oGetI 3 3), (20, oCle 31), (23, oLdR 2 1), (24, oGetR 3 6), (27, oStR 2 1), (28, oGoto 2), (31, oLdR 1 1), (32, oLdR 2 1), (33, oGetR 3 6), (36, oPutR 3 6), (39, oLdR 2 1), (40, oLdR 1 1), (41, oPutR 3 6), (44, oLdR 0 1), (45, oDup), (46, oGetI 3 7), (49, oCI 1 1), (50, oAdd), (51, oPutI 3 7), (54, oRetV)]
theorem sm_16_0 : ∀ q ∈ tb_16_0, SM GwP MdP D A l 16 q.1 q.2 :=
  List.forall_mem_cons.mpr ⟨sd_oLdR_n 16 0 0 0 rfl (dk_16_0 (0, .aload_n 0, 1) (List.mem_of_getElem? (i := 0) rfl)),
  List.forall_mem_cons.mpr ⟨sd_oStR_n 16 1 2 2 rfl (by decide) (dk_16_0 (1, .astore_n 2, 1) (List.mem_of_getElem? (i := 1) rfl)),
  List.forall_mem_cons.mpr ⟨sd_oLdR_n 16 2 2 2 rfl (dk_16_0 (2, .aload_n 2, 1) (List.mem_of_getElem? (i := 2) rfl)),
  List.forall_mem_cons.mpr ⟨sd_oGetR 16 3 3 6 39 RX2 TX2 10 rfl ⟨by decide, by decide⟩ rfl (by decide) rfl (fun w h => iw_16 w (uz_2 w h)) rfl (iw_16 _ zw39) (dk_16_0 (3, .getfield 39, 3) (List.mem_of_getElem? (i := 3) rfl)),
  List.forall_mem_cons.mpr ⟨sd_ifnull 16 6 25 31 (by decide) (dk_16_0 (6, .ifnull 25, 3) (List.mem_of_getElem? (i := 4) rfl)),
  List.forall_mem_cons.mpr ⟨sd_oLdR_n 16 9 2 2 rfl (dk_16_0 (9, .aload_n 2, 1) (List.mem_of_getElem? (i := 5) rfl)),
  List.forall_mem_cons.mpr ⟨sd_oGetR 16 10 3 6 39 RX2 TX2 10 rfl ⟨by decide, by decide⟩ rfl (by decide) rfl (fun w h => iw_16 w (uz_2 w h)) rfl (iw_16 _ zw39) (dk_16_0 (10, .getfield 39, 3) (List.mem_of_getElem? (i := 6) rfl)),
  List.forall_mem_cons.mpr ⟨sd_oGetI 16 13 3 3 29 RX2 TX2 10 rfl ⟨by decide, by decide⟩ rfl (by decide) rfl (fun w h => iw_16 w (uz_2 w h)) rfl (iw_16 _ zw36) (dk_16_0 (13, .getfield 29, 3) (List.mem_of_getElem? (i := 7) rfl)),
  List.forall_mem_cons.mpr ⟨sd_oLdR_n 16 16 0 0 rfl (dk_16_0 (16, .aload_n 0, 1) (List.mem_of_getElem? (i := 8) rfl)),
  List.forall_mem_cons.mpr ⟨sd_oGetI 16 17 3 3 29 RX2 TX2 10 rfl ⟨by decide, by decide⟩ rfl (by decide) rfl (fun w h => iw_16 w (uz_2 w h)) rfl (iw_16 _ zw36) (dk_16_0 (17, .getfield 29, 3) (List.mem_of_getElem? (i := 9) rfl)),
  List.forall_mem_cons.mpr ⟨sd_icmp_le 16 20 11 31 (by decide) (dk_16_0 (20, .if_icmp .le 11, 3) (List.mem_of_getElem? (i := 10) rfl)),
  List.forall_mem_cons.mpr ⟨sd_oLdR_n 16 23 2 2 rfl (dk_16_0 (23, .aload_n 2, 1) (List.mem_of_getElem? (i := 11) rfl)),
  List.forall_mem_cons.mpr ⟨sd_oGetR 16 24 3 6 39 RX2 TX2 10 rfl ⟨by decide, by decide⟩ rfl (by decide) rfl (fun w h => iw_16 w (uz_2 w h)) rfl (iw_16 _ zw39) (dk_16_0 (24, .getfield 39, 3) (List.mem_of_getElem? (i := 12) rfl)),
  List.forall_mem_cons.mpr ⟨sd_oStR_n 16 27 2 2 rfl (by decide) (dk_16_0 (27, .astore_n 2, 1) (List.mem_of_getElem? (i := 13) rfl)),
  List.forall_mem_cons.mpr ⟨sd_goto 16 28 (-26) 2 (by decide) (dk_16_0 (28, .goto (-26), 3) (List.mem_of_getElem? (i := 14) rfl)),
  List.forall_mem_cons.mpr ⟨sd_oLdR_n 16 31 1 1 rfl (dk_16_0 (31, .aload_n 1, 1) (List.mem_of_getElem? (i := 15) rfl)),
  List.forall_mem_cons.mpr ⟨sd_oLdR_n 16 32 2 2 rfl (dk_16_0 (32, .aload_n 2, 1) (List.mem_of_getElem? (i := 16) rfl)),
  List.forall_mem_cons.mpr ⟨sd_oGetR 16 33 3 6 39 RX2 TX2 10 rfl ⟨by decide, by decide⟩ rfl (by decide) rfl (fun w h => iw_16 w (uz_2 w h)) rfl (iw_16 _ zw39) (dk_16_0 (33, .getfield 39, 3) (List.mem_of_getElem? (i := 17) rfl)),
  List.forall_mem_cons.mpr ⟨sd_oPutR 16 36 3 6 39 RX2 TX2 10 rfl ⟨by decide, by decide⟩ rfl (by decide) rfl (fun w h => iw_16 w (uz_2 w h)) rfl tyX2 tyX2_ok nmX2 (Or.inl ⟨_, rfl⟩) rfl (iw_16 _ zw39) (dk_16_0 (36, .putfield 39, 3) (List.mem_of_getElem? (i := 18) rfl)),
  List.forall_mem_cons.mpr ⟨sd_oLdR_n 16 39 2 2 rfl (dk_16_0 (39, .aload_n 2, 1) (List.mem_of_getElem? (i := 19) rfl)),
  List.forall_mem_cons.mpr ⟨sd_oLdR_n 16 40 1 1 rfl (dk_16_0 (40, .aload_n 1, 1) (List.mem_of_getElem? (i := 20) rfl)),
  List.forall_mem_cons.mpr ⟨sd_oPutR 16 41 3 6 39 RX2 TX2 10 rfl ⟨by decide, by decide⟩ rfl (by decide) rfl (fun w h => iw_16 w (uz_2 w h)) rfl tyX2 tyX2_ok nmX2 (Or.inl ⟨_, rfl⟩) rfl (iw_16 _ zw39) (dk_16_0 (41, .putfield 39, 3) (List.mem_of_getElem? (i := 21) rfl)),
  List.forall_mem_cons.mpr ⟨sd_oLdR_n 16 44 0 0 rfl (dk_16_0 (44, .aload_n 0, 1) (List.mem_of_getElem? (i := 22) rfl)),
  List.forall_mem_cons.mpr ⟨sd_dup 16 45 (dk_16_0 (45, .dup, 1) (List.mem_of_getElem? (i := 23) rfl)),
  List.forall_mem_cons.mpr ⟨sd_oGetI 16 46 3 7 42 RX2 TX2 10 rfl ⟨by decide, by decide⟩ rfl (by decide) rfl (fun w h => iw_16 w (uz_2 w h)) rfl (iw_16 _ zw40) (dk_16_0 (46, .getfield 42, 3) (List.mem_of_getElem? (i := 24) rfl)),
  List.forall_mem_cons.mpr ⟨sd_iconst 16 49 1 ⟨by decide, by decide⟩ (dk_16_0 (49, .iconst 1, 1) (List.mem_of_getElem? (i := 25) rfl)),
  List.forall_mem_cons.mpr ⟨sd_iadd 16 50 (dk_16_0 (50, .iadd, 1) (List.mem_of_getElem? (i := 26) rfl)),
  List.forall_mem_cons.mpr ⟨sd_oPutI 16 51 3 7 42 RX2 TX2 10 rfl ⟨by decide, by decide⟩ rfl (by decide) rfl (fun w h => iw_16 w (uz_2 w h)) rfl tyX2 tyX2_ok nmX2 rfl rfl (iw_16 _ zw40) (dk_16_0 (51, .putfield 42, 3) (List.mem_of_getElem? (i := 27) rfl)),
  List.forall_mem_cons.mpr ⟨sd_vret 16 54 rfl (dk_16_0 (54, .return_, 1) (List.mem_of_getElem? (i := 28) rfl)),
  fun _ h => nomatch h⟩⟩⟩⟩⟩⟩⟩⟩⟩⟩⟩⟩⟩⟩⟩⟩⟩⟩⟩⟩⟩⟩⟩⟩⟩⟩⟩⟩⟩
def tb_16 : List (List (Nat × Op1)) := [tb_16_0]
theorem sm_16 : ∀ t ∈ tb_16, ∀ q ∈ t, SM GwP MdP D A l 16 q.1 q.2 := List.forall_mem_cons.mpr ⟨sm_16_0, fun _ h => nomatch h⟩
-- 17: Marginalia$Note.emptyAndDrop()I
def dl_17_0 : List (Nat × Instr × Nat) := [(0, .aload_n 0, 1), (1, .iconst 1, 1), (2, .putfield 36, 3), (5, .iconst 0, 1), (6, .istore_n 1, 1), (7, .aload_n 0, 1), (8, .astore_n 2, 1), (9, .aload_n 2, 1), (10, .ifnull 53, 3), (13, .aload_n 2, 1), (14, .getfield 36, 3), (17, .ifCond .eq 46, 3), (20, .aload_n 2, 1), (21, .getfield 42, 3), (24, .ifCond .ne 39, 3), (27, .aload_n 2, 1), (28, .iconst 1, 1), (29, .putfield 32, 3), (32, .iinc 1 1, 3), (35, .aload_n 2, 1), (36, .getfield 21, 3), (39, .ifnull 16, 3), (42, .aload_n 2, 1), (43, .getfield 21, 3), (46, .dup, 1), (47, .getfield 42, 3), (50, .iconst 1, 1), (51, .isub, 1), (52, .putfield 42, 3), (55, .aload_n 2, 1), (56, .getfield 21, 3), (59, .astore_n 2, 1), (60, .goto (-51), 3), (63, .iload_n 1, 1), (64, .ireturn, 1)]
theorem dk_17_0 : ∀ q ∈ dl_17_0, decode (mCod (MdP 17)) q.1 = .ok q.2 := by
  rw [show mCod (MdP 17) = cX2_emptyAndDrop from rfl]
  decide +kernel
def tb_17_0 : List (Nat × Op1) := [(0, oLdR 0 1), (1, oCI 1 1), (2, oPutZ 3 8), (5, oCI 0 1), (6, oStI 1 1), (7, oLdR 0 1), (8, oStR 2 1), (9, oLdR 2 1), (10, oNul 63), (13, oLdR 2 1), (14, oGetI 3 8), (17, oZeq 63), (20, oLdR 2 1), (21, oGetI 3 7), (24, oZne 63), (27, oLdR 2 1), (28, oCI 1 1), (29, oPutZ 3 9), (32, oInc 1 1), (35, oLdR 2 1), (36, oGetR 3 4), (39, oNul 55), (42, oLdR 2 1), (43, oGetR 3 4), (46, oDup), (47, oGetI 3 7), (50, oCI 1 1), (51, oSub), (52, oPutI 3 7), (55, oLdR 2 1), (56, oGetR 3 4), (59, oStR 2 1), (60, oGoto 9), (63, oLdI 1 1)]
theorem sm_17_0 : ∀ q ∈ tb_17_0, SM GwP MdP D A l 17 q.1 q.2 :=
  List.forall_mem_cons.mpr ⟨sd_oLdR_n 17 0 0 0 rfl (dk_17_0 (0, .aload_n 0, 1) (List.mem_of_getElem? (i := 0) rfl)),
  List.forall_mem_cons.mpr ⟨sd_iconst 17 1 1 ⟨by decide, by decide⟩ (dk_17_0 (1, .iconst 1, 1) (List.mem_of_getElem? (i := 1) rfl)),
  List.forall_mem_cons.mpr ⟨sd_oPutZ 17 2 3 8 36 RX2 TX2 10 rfl ⟨by decide, by decide⟩ rfl (by decide) rfl (fun w h => iw_17 w (uz_2 w h)) rfl tyX2 tyX2_ok nmX2 rfl rfl (iw_17 _ zw38) (dk_17_0 (2, .putfield 36, 3) (List.mem_of_getElem? (i := 2) rfl)),
  List.forall_mem_cons.mpr ⟨sd_iconst 17 5 0 ⟨by decide, by decide⟩ (dk_17_0 (5, .iconst 0, 1) (List.mem_of_getElem? (i := 3) rfl)),
  List.forall_mem_cons.mpr ⟨sd_oStI_n 17 6 1 1 rfl (by decide) (dk_17_0 (6, .istore_n 1, 1) (List.mem_of_getElem? (i := 4) rfl)),
  List.forall_mem_cons.mpr ⟨sd_oLdR_n 17 7 0 0 rfl (dk_17_0 (7, .aload_n 0, 1) (List.mem_of_getElem? (i := 5) rfl)),
  List.forall_mem_cons.mpr ⟨sd_oStR_n 17 8 2 2 rfl (by decide) (dk_17_0 (8, .astore_n 2, 1) (List.mem_of_getElem? (i := 6) rfl)),
  List.forall_mem_cons.mpr ⟨sd_oLdR_n 17 9 2 2 rfl (dk_17_0 (9, .aload_n 2, 1) (List.mem_of_getElem? (i := 7) rfl)),
  List.forall_mem_cons.mpr ⟨sd_ifnull 17 10 53 63 (by decide) (dk_17_0 (10, .ifnull 53, 3) (List.mem_of_getElem? (i := 8) rfl)),
  List.forall_mem_cons.mpr ⟨sd_oLdR_n 17 13 2 2 rfl (dk_17_0 (13, .aload_n 2, 1) (List.mem_of_getElem? (i := 9) rfl)),
  List.forall_mem_cons.mpr ⟨sd_oGetI 17 14 3 8 36 RX2 TX2 10 rfl ⟨by decide, by decide⟩ rfl (by decide) rfl (fun w h => iw_17 w (uz_2 w h)) rfl (iw_17 _ zw38) (dk_17_0 (14, .getfield 36, 3) (List.mem_of_getElem? (i := 10) rfl)),
  List.forall_mem_cons.mpr ⟨sd_if_eq 17 17 46 63 (by decide) (dk_17_0 (17, .ifCond .eq 46, 3) (List.mem_of_getElem? (i := 11) rfl)),
  List.forall_mem_cons.mpr ⟨sd_oLdR_n 17 20 2 2 rfl (dk_17_0 (20, .aload_n 2, 1) (List.mem_of_getElem? (i := 12) rfl)),
  List.forall_mem_cons.mpr ⟨sd_oGetI 17 21 3 7 42 RX2 TX2 10 rfl ⟨by decide, by decide⟩ rfl (by decide) rfl (fun w h => iw_17 w (uz_2 w h)) rfl (iw_17 _ zw40) (dk_17_0 (21, .getfield 42, 3) (List.mem_of_getElem? (i := 13) rfl)),
  List.forall_mem_cons.mpr ⟨sd_if_ne 17 24 39 63 (by decide) (dk_17_0 (24, .ifCond .ne 39, 3) (List.mem_of_getElem? (i := 14) rfl)),
  List.forall_mem_cons.mpr ⟨sd_oLdR_n 17 27 2 2 rfl (dk_17_0 (27, .aload_n 2, 1) (List.mem_of_getElem? (i := 15) rfl)),
  List.forall_mem_cons.mpr ⟨sd_iconst 17 28 1 ⟨by decide, by decide⟩ (dk_17_0 (28, .iconst 1, 1) (List.mem_of_getElem? (i := 16) rfl)),
  List.forall_mem_cons.mpr ⟨sd_oPutZ 17 29 3 9 32 RX2 TX2 10 rfl ⟨by decide, by decide⟩ rfl (by decide) rfl (fun w h => iw_17 w (uz_2 w h)) rfl tyX2 tyX2_ok nmX2 rfl rfl (iw_17 _ zw37) (dk_17_0 (29, .putfield 32, 3) (List.mem_of_getElem? (i := 17) rfl)),
  List.forall_mem_cons.mpr ⟨sd_iinc 17 32 1 1 (by decide) (dk_17_0 (32, .iinc 1 1, 3) (List.mem_of_getElem? (i := 18) rfl)),
  List.forall_mem_cons.mpr ⟨sd_oLdR_n 17 35 2 2 rfl (dk_17_0 (35, .aload_n 2, 1) (List.mem_of_getElem? (i := 19) rfl)),
  List.forall_mem_cons.mpr ⟨sd_oGetR 17 36 3 4 21 RX2 TX2 10 rfl ⟨by decide, by decide⟩ rfl (by decide) rfl (fun w h => iw_17 w (uz_2 w h)) rfl (iw_17 _ zw34) (dk_17_0 (36, .getfield 21, 3) (List.mem_of_getElem? (i := 20) rfl)),
  List.forall_mem_cons.mpr ⟨sd_ifnull 17 39 16 55 (by decide) (dk_17_0 (39, .ifnull 16, 3) (List.mem_of_getElem? (i := 21) rfl)),
  List.forall_mem_cons.mpr ⟨sd_oLdR_n 17 42 2 2 rfl (dk_17_0 (42, .aload_n 2, 1) (List.mem_of_getElem? (i := 22) rfl)),
  List.forall_mem_cons.mpr ⟨sd_oGetR 17 43 3 4 21 RX2 TX2 10 rfl ⟨by decide, by decide⟩ rfl (by decide) rfl (fun w h => iw_17 w (uz_2 w h)) rfl (iw_17 _ zw34) (dk_17_0 (43, .getfield 21, 3) (List.mem_of_getElem? (i := 23) rfl)),
  List.forall_mem_cons.mpr ⟨sd_dup 17 46 (dk_17_0 (46, .dup, 1) (List.mem_of_getElem? (i := 24) rfl)),
  List.forall_mem_cons.mpr ⟨sd_oGetI 17 47 3 7 42 RX2 TX2 10 rfl ⟨by decide, by decide⟩ rfl (by decide) rfl (fun w h => iw_17 w (uz_2 w h)) rfl (iw_17 _ zw40) (dk_17_0 (47, .getfield 42, 3) (List.mem_of_getElem? (i := 25) rfl)),
  List.forall_mem_cons.mpr ⟨sd_iconst 17 50 1 ⟨by decide, by decide⟩ (dk_17_0 (50, .iconst 1, 1) (List.mem_of_getElem? (i := 26) rfl)),
  List.forall_mem_cons.mpr ⟨sd_isub 17 51 (dk_17_0 (51, .isub, 1) (List.mem_of_getElem? (i := 27) rfl)),
  List.forall_mem_cons.mpr ⟨sd_oPutI 17 52 3 7 42 RX2 TX2 10 rfl ⟨by decide, by decide⟩ rfl (by decide) rfl (fun w h => iw_17 w (uz_2 w h)) rfl tyX2 tyX2_ok nmX2 rfl rfl (iw_17 _ zw40) (dk_17_0 (52, .putfield 42, 3) (List.mem_of_getElem? (i := 28) rfl)),
  List.forall_mem_cons.mpr ⟨sd_oLdR_n 17 55 2 2 rfl (dk_17_0 (55, .aload_n 2, 1) (List.mem_of_getElem? (i := 29) rfl)),
  List.forall_mem_cons.mpr ⟨sd_oGetR 17 56 3 4 21 RX2 TX2 10 rfl ⟨by decide, by decide⟩ rfl (by decide) rfl (fun w h => iw_17 w (uz_2 w h)) rfl (iw_17 _ zw34) (dk_17_0 (56, .getfield 21, 3) (List.mem_of_getElem? (i := 30) rfl)),
  List.forall_mem_cons.mpr ⟨sd_oStR_n 17 59 2 2 rfl (by decide) (dk_17_0 (59, .astore_n 2, 1) (List.mem_of_getElem? (i := 31) rfl)),
  List.forall_mem_cons.mpr ⟨sd_goto 17 60 (-51) 9 (by decide) (dk_17_0 (60, .goto (-51), 3) (List.mem_of_getElem? (i := 32) rfl)),
  List.forall_mem_cons.mpr ⟨sd_oLdI_n 17 63 1 1 rfl (dk_17_0 (63, .iload_n 1, 1) (List.mem_of_getElem? (i := 33) rfl)),
  fun _ h => nomatch h⟩⟩⟩⟩⟩⟩⟩⟩⟩⟩⟩⟩⟩⟩⟩⟩⟩⟩⟩⟩⟩⟩⟩⟩⟩⟩⟩⟩⟩⟩⟩⟩⟩⟩
def tb_17_1 : List (Nat × Op1) := [(64, oRetI)]
theorem sm_17_1 : ∀ q ∈ tb_17_1, SM GwP MdP D A l 17 q.1 q.2 :=
  List.forall_mem_cons.mpr ⟨sd_iret 17 64 rfl (dk_17_0 (64, .ireturn, 1) (List.mem_of_getElem? (i := 34) rfl)),
  fun _ h => nomatch h⟩
def tb_17 : List (List (Nat × Op1)) := [tb_17_0, tb_17_1]
theorem sm_17 : ∀ t ∈ tb_17, ∀ q ∈ t, SM GwP MdP D A l 17 q.1 q.2 := List.forall_mem_cons.mpr ⟨sm_17_0, List.forall_mem_cons.mpr ⟨sm_17_1, fun _ h => nomatch h⟩⟩
-- 18: Marginalia$Note.fact(I)I
def dl_18_0 : List (Nat × Instr × Nat) := [(0, .iload_n 1, 1), (1, .tableswitch 148 0 9 #[55, 60, 79, 87, 92, 103, 114, 119, 124, 140], 55), (56, .aload_n 0, 1), (57, .getfield 15, 3), (60, .ireturn, 1), (61, .aload_n 0, 1), (62, .getfield 21, 3), (65, .ifnonnull 7, 3), (68, .iconst (-1), 1), (69, .goto 10, 3), (72, .aload_n 0, 1), (73, .getfield 21, 3), (76, .getfield 9, 3), (79, .ireturn, 1), (80, .aload_n 0, 1), (81, .getfield 25, 3), (84, .getfield 45, 3), (87, .ireturn, 1), (88, .aload_n 0, 1), (89, .invokevirtual 50, 3), (92, .ireturn, 1), (93, .aload_n 0, 1), (94, .getfield 25, 3), (97, .getfield 54, 3), (100, .getfield 58, 3), (103, .ireturn, 1), (104, .aload_n 0, 1), (105, .getfield 25, 3), (108, .getfield 54, 3), (111, .getfield 63, 3), (114, .ireturn, 1), (115, .aload_n 0, 1), (116, .getfield 29, 3), (119, .ireturn, 1), (120, .aload_n 0, 1), (121, .getfield 42, 3), (124, .ireturn, 1), (125, .aload_n 0, 1), (126, .getfield 25, 3), (129, .getfield 66, 3)]
theorem dk_18_0 : ∀ q ∈ dl_18_0, decode (mCod (MdP 18)) q.1 = .ok q.2 := by
  rw [show mCod (MdP 18) = cX2_fact from rfl]
  decide +kernel
def dl_18_1 : List (Nat × Instr × Nat) := [(132, .ifCond .eq 7, 3), (135, .iconst 1, 1), (136, .goto 4, 3), (139, .iconst 0, 1), (140, .ireturn, 1), (141, .aload_n 0, 1), (142, .getfield 25, 3), (145, .getfield 69, 3), (148, .ireturn, 1), (149, .aload_n 0, 1), (150, .getfield 25, 3), (153, .getfield 72, 3), (156, .ireturn, 1)]
theorem dk_18_1 : ∀ q ∈ dl_18_1, decode (mCod (MdP 18)) q.1 = .ok q.2 := by
  rw [show mCod (MdP 18) = cX2_fact from rfl]
  decide +kernel
def tb_18_0 : List (Nat × Op1) := [(0, oLdI 1 1), (1, oSw 0 [56, 61, 80, 88, 93, 104, 115, 120, 125, 141] 149), (56, oLdR 0 1), (57, oGetI 3 1), (60, oRetI), (61, oLdR 0 1), (62, oGetR 3 4)]
theorem sm_18_0 : ∀ q ∈ tb_18_0, SM GwP MdP D A l 18 q.1 q.2 :=
  List.forall_mem_cons.mpr ⟨sd_oLdI_n 18 0 1 1 rfl (dk_18_0 (0, .iload_n 1, 1) (List.mem_of_getElem? (i := 0) rfl)),
  List.forall_mem_cons.mpr ⟨sd_tableswitch 18 1 148 0 9 #[55, 60, 79, 87, 92, 103, 114, 119, 124, 140] 55 [56, 61, 80, 88, 93, 104, 115, 120, 125, 141] 149 (by decide) (by decide) (by decide) (dk_18_0 (1, .tableswitch 148 0 9 #[55, 60, 79, 87, 92, 103, 114, 119, 124, 140], 55) (List.mem_of_getElem? (i := 1) rfl)),
  List.forall_mem_cons.mpr ⟨sd_oLdR_n 18 56 0 0 rfl (dk_18_0 (56, .aload_n 0, 1) (List.mem_of_getElem? (i := 2) rfl)),
  List.forall_mem_cons.mpr ⟨sd_oGetI 18 57 3 1 15 RX2 TX2 10 rfl ⟨by decide, by decide⟩ rfl (by decide) rfl (fun w h => iw_18 w (uz_2 w h)) rfl (iw_18 _ zw32) (dk_18_0 (57, .getfield 15, 3) (List.mem_of_getElem? (i := 3) rfl)),
  List.forall_mem_cons.mpr ⟨sd_iret 18 60 rfl (dk_18_0 (60, .ireturn, 1) (List.mem_of_getElem? (i := 4) rfl)),
  List.forall_mem_cons.mpr ⟨sd_oLdR_n 18 61 0 0 rfl (dk_18_0 (61, .aload_n 0, 1) (List.mem_of_getElem? (i := 5) rfl)),
  List.forall_mem_cons.mpr ⟨sd_oGetR 18 62 3 4 21 RX2 TX2 10 rfl ⟨by decide, by decide⟩ rfl (by decide) rfl (fun w h => iw_18 w (uz_2 w h)) rfl (iw_18 _ zw34) (dk_18_0 (62, .getfield 21, 3) (List.mem_of_getElem? (i := 6) rfl)),
  fun _ h => nomatch h⟩⟩⟩⟩⟩⟩⟩
def tb_18_1 : List (Nat × Op1) := [(65, oNNul 72), (68, oCI (-1) 1), (69, oGoto 79), (72, oLdR 0 1), (73, oGetR 3 4), (76, oGetI 3 0), (79, oRetI), (80, oLdR 0 1), (81, oGetR 3 5), (84, oGetI 4 0), (87, oRetI), (88, oLdR 0 1), (89, oCallV 15 0 1 3 []), (92, oRetI), (93, oLdR 0 1), (94, oGetR 3 5), (97, oGetR 4 3), (100, oGetI 1 0), (103, oRetI), (104, oLdR 0 1), (105, oGetR 3 5), (108, oGetR 4 3), (111, oGetI 1 1), (114, oRetI), (115, oLdR 0 1), (116, oGetI 3 3), (119, oRetI), (120, oLdR 0 1), (121, oGetI 3 7), (124, oRetI), (125, oLdR 0 1), (126, oGetR 3 5)]
theorem sm_18_1 : ∀ q ∈ tb_18_1, SM GwP MdP D A l 18 q.1 q.2 :=
  List.forall_mem_cons.mpr ⟨sd_ifnonnull 18 65 7 72 (by decide) (dk_18_0 (65, .ifnonnull 7, 3) (List.mem_of_getElem? (i := 7) rfl)),
  List.forall_mem_cons.mpr ⟨sd_iconst 18 68 (-1) ⟨by decide, by decide⟩ (dk_18_0 (68, .iconst (-1), 1) (List.mem_of_getElem? (i := 8) rfl)),
  List.forall_mem_cons.mpr ⟨sd_goto 18 69 10 79 (by decide) (dk_18_0 (69, .goto 10, 3) (List.mem_of_getElem? (i := 9) rfl)),
  List.forall_mem_cons.mpr ⟨sd_oLdR_n 18 72 0 0 rfl (dk_18_0 (72, .aload_n 0, 1) (List.mem_of_getElem? (i := 10) rfl)),
  List.forall_mem_cons.mpr ⟨sd_oGetR 18 73 3 4 21 RX2 TX2 10 rfl ⟨by decide, by decide⟩ rfl (by decide) rfl (fun w h => iw_18 w (uz_2 w h)) rfl (iw_18 _ zw34) (dk_18_0 (73, .getfield 21, 3) (List.mem_of_getElem? (i := 11) rfl)),
  List.forall_mem_cons.mpr ⟨sd_oGetI 18 76 3 0 9 RX2 TX2 10 rfl ⟨by decide, by decide⟩ rfl (by decide) rfl (fun w h => iw_18 w (uz_2 w h)) rfl (iw_18 _ zw31) (dk_18_0 (76, .getfield 9, 3) (List.mem_of_getElem? (i := 12) rfl)),
  List.forall_mem_cons.mpr ⟨sd_iret 18 79 rfl (dk_18_0 (79, .ireturn, 1) (List.mem_of_getElem? (i := 13) rfl)),
  List.forall_mem_cons.mpr ⟨sd_oLdR_n 18 80 0 0 rfl (dk_18_0 (80, .aload_n 0, 1) (List.mem_of_getElem? (i := 14) rfl)),
  List.forall_mem_cons.mpr ⟨sd_oGetR 18 81 3 5 25 RX2 TX2 10 rfl ⟨by decide, by decide⟩ rfl (by decide) rfl (fun w h => iw_18 w (uz_2 w h)) rfl (iw_18 _ zw35) (dk_18_0 (81, .getfield 25, 3) (List.mem_of_getElem? (i := 15) rfl)),
  List.forall_mem_cons.mpr ⟨sd_oGetIN 18 84 4 0 45 RX3 TX3 8 rfl ⟨by decide, by decide⟩ rfl (by decide) rfl (fun w h => iw_18 w (uz_3 w h)) rfl "Marginalia" (List.mem_of_getElem? (i := 24) rfl) (dk_18_0 (84, .getfield 45, 3) (List.mem_of_getElem? (i := 16) rfl)),
  List.forall_mem_cons.mpr ⟨sd_iret 18 87 rfl (dk_18_0 (87, .ireturn, 1) (List.mem_of_getElem? (i := 17) rfl)),
  List.forall_mem_cons.mpr ⟨sd_oLdR_n 18 88 0 0 rfl (dk_18_0 (88, .aload_n 0, 1) (List.mem_of_getElem? (i := 18) rfl)),
  List.forall_mem_cons.mpr ⟨sd_callV 18 89 15 0 1 50 3 [] (gdV hws_18 hws_15 zw41 zw27 zw28 zw29 zw25) hws_15 rfl (by decide +kernel) rfl rfl ⟨by decide +kernel, by decide +kernel, by decide +kernel⟩ ⟨by decide, by decide⟩ (catch_nil rfl) RX2 rfl TX2 10 rfl ⟨by decide, by decide⟩ (dk_18_0 (89, .invokevirtual 50, 3) (List.mem_of_getElem? (i := 19) rfl)),
  List.forall_mem_cons.mpr ⟨sd_iret 18 92 rfl (dk_18_0 (92, .ireturn, 1) (List.mem_of_getElem? (i := 20) rfl)),
  List.forall_mem_cons.mpr ⟨sd_oLdR_n 18 93 0 0 rfl (dk_18_0 (93, .aload_n 0, 1) (List.mem_of_getElem? (i := 21) rfl)),
  List.forall_mem_cons.mpr ⟨sd_oGetR 18 94 3 5 25 RX2 TX2 10 rfl ⟨by decide, by decide⟩ rfl (by decide) rfl (fun w h => iw_18 w (uz_2 w h)) rfl (iw_18 _ zw35) (dk_18_0 (94, .getfield 25, 3) (List.mem_of_getElem? (i := 22) rfl)),
  List.forall_mem_cons.mpr ⟨sd_oGetRN 18 97 4 3 54 RX3 TX3 8 rfl ⟨by decide, by decide⟩ rfl (by decide) rfl (fun w h => iw_18 w (uz_3 w h)) rfl "Marginalia" (List.mem_of_getElem? (i := 25) rfl) (dk_18_0 (97, .getfield 54, 3) (List.mem_of_getElem? (i := 23) rfl)),
  List.forall_mem_cons.mpr ⟨sd_oGetIN 18 100 1 0 58 RX0 TX0 2 rfl ⟨by decide, by decide⟩ rfl (by decide) rfl (fun w h => iw_18 w (uz_0 w h)) rfl "Marginalia" (List.mem_of_getElem? (i := 26) rfl) (dk_18_0 (100, .getfield 58, 3) (List.mem_of_getElem? (i := 24) rfl)),
  List.forall_mem_cons.mpr ⟨sd_iret 18 103 rfl (dk_18_0 (103, .ireturn, 1) (List.mem_of_getElem? (i := 25) rfl)),
  List.forall_mem_cons.mpr ⟨sd_oLdR_n 18 104 0 0 rfl (dk_18_0 (104, .aload_n 0, 1) (List.mem_of_getElem? (i := 26) rfl)),
  List.forall_mem_cons.mpr ⟨sd_oGetR 18 105 3 5 25 RX2 TX2 10 rfl ⟨by decide, by decide⟩ rfl (by decide) rfl (fun w h => iw_18 w (uz_2 w h)) rfl (iw_18 _ zw35) (dk_18_0 (105, .getfield 25, 3) (List.mem_of_getElem? (i := 27) rfl)),
  List.forall_mem_cons.mpr ⟨sd_oGetRN 18 108 4 3 54 RX3 TX3 8 rfl ⟨by decide, by decide⟩ rfl (by decide) rfl (fun w h => iw_18 w (uz_3 w h)) rfl "Marginalia" (List.mem_of_getElem? (i := 25) rfl) (dk_18_0 (108, .getfield 54, 3) (List.mem_of_getElem? (i := 28) rfl)),
  List.forall_mem_cons.mpr ⟨sd_oGetIN 18 111 1 1 63 RX0 TX0 2 rfl ⟨by decide, by decide⟩ rfl (by decide) rfl (fun w h => iw_18 w (uz_0 w h)) rfl "Marginalia" (List.mem_of_getElem? (i := 27) rfl) (dk_18_0 (111, .getfield 63, 3) (List.mem_of_getElem? (i := 29) rfl)),
  List.forall_mem_cons.mpr ⟨sd_iret 18 114 rfl (dk_18_0 (114, .ireturn, 1) (List.mem_of_getElem? (i := 30) rfl)),
  List.forall_mem_cons.mpr ⟨sd_oLdR_n 18 115 0 0 rfl (dk_18_0 (115, .aload_n 0, 1) (List.mem_of_getElem? (i := 31) rfl)),
  List.forall_mem_cons.mpr ⟨sd_oGetI 18 116 3 3 29 RX2 TX2 10 rfl ⟨by decide, by decide⟩ rfl (by decide) rfl (fun w h => iw_18 w (uz_2 w h)) rfl (iw_18 _ zw36) (dk_18_0 (116, .getfield 29, 3) (List.mem_of_getElem? (i := 32) rfl)),
  List.forall_mem_cons.mpr ⟨sd_iret 18 119 rfl (dk_18_0 (119, .ireturn, 1) (List.mem_of_getElem? (i := 33) rfl)),
  List.forall_mem_cons.mpr ⟨sd_oLdR_n 18 120 0 0 rfl (dk_18_0 (120, .aload_n 0, 1) (List.mem_of_getElem? (i := 34) rfl)),
  List.forall_mem_cons.mpr ⟨sd_oGetI 18 121 3 7 42 RX2 TX2 10 rfl ⟨by decide, by decide⟩ rfl (by decide) rfl (fun w h => iw_18 w (uz_2 w h)) rfl (iw_18 _ zw40) (dk_18_0 (121, .getfield 42, 3) (List.mem_of_getElem? (i := 35) rfl)),
  List.forall_mem_cons.mpr ⟨sd_iret 18 124 rfl (dk_18_0 (124, .ireturn, 1) (List.mem_of_getElem? (i := 36) rfl)),
  List.forall_mem_cons.mpr ⟨sd_oLdR_n 18 125 0 0 rfl (dk_18_0 (125, .aload_n 0, 1) (List.mem_of_getElem? (i := 37) rfl)),
  List.forall_mem_cons.mpr ⟨sd_oGetR 18 126 3 5 25 RX2 TX2 10 rfl ⟨by decide, by decide⟩ rfl (by decide) rfl (fun w h => iw_18 w (uz_2 w h)) rfl (iw_18 _ zw35) (dk_18_0 (126, .getfield 25, 3) (List.mem_of_getElem? (i := 38) rfl)),
  fun _ h => nomatch h⟩⟩⟩⟩⟩⟩⟩⟩⟩⟩⟩⟩⟩⟩⟩⟩⟩⟩⟩⟩⟩⟩⟩⟩⟩⟩⟩⟩⟩⟩⟩⟩
def tb_18_2 : List (Nat × Op1) := [(129, oGetI 4 5), (132, oZeq 139), (135, oCI 1 1), (136, oGoto 140), (139, oCI 0 1), (140, oRetI), (141, oLdR 0 1), (142, oGetR 3 5), (145, oGetI 4 2), (148, oRetI), (149, oLdR 0 1), (150, oGetR 3 5), (153, oGetI 4 6), (156, oRetI)]
theorem sm_18_2 : ∀ q ∈ tb_18_2, SM GwP MdP D A l 18 q.1 q.2 :=
  List.forall_mem_cons.mpr ⟨sd_oGetIN 18 129 4 5 66 RX3 TX3 8 rfl ⟨by decide, by decide⟩ rfl (by decide) rfl (fun w h => iw_18 w (uz_3 w h)) rfl "Marginalia" (List.mem_of_getElem? (i := 28) rfl) (dk_18_0 (129, .getfield 66, 3) (List.mem_of_getElem? (i := 39) rfl)),
  List.forall_mem_cons.mpr ⟨sd_if_eq 18 132 7 139 (by decide) (dk_18_1 (132, .ifCond .eq 7, 3) (List.mem_of_getElem? (i := 0) rfl)),
  List.forall_mem_cons.mpr ⟨sd_iconst 18 135 1 ⟨by decide, by decide⟩ (dk_18_1 (135, .iconst 1, 1) (List.mem_of_getElem? (i := 1) rfl)),
  List.forall_mem_cons.mpr ⟨sd_goto 18 136 4 140 (by decide) (dk_18_1 (136, .goto 4, 3) (List.mem_of_getElem? (i := 2) rfl)),
  List.forall_mem_cons.mpr ⟨sd_iconst 18 139 0 ⟨by decide, by decide⟩ (dk_18_1 (139, .iconst 0, 1) (List.mem_of_getElem? (i := 3) rfl)),
  List.forall_mem_cons.mpr ⟨sd_iret 18 140 rfl (dk_18_1 (140, .ireturn, 1) (List.mem_of_getElem? (i := 4) rfl)),
  List.forall_mem_cons.mpr ⟨sd_oLdR_n 18 141 0 0 rfl (dk_18_1 (141, .aload_n 0, 1) (List.mem_of_getElem? (i := 5) rfl)),
  List.forall_mem_cons.mpr ⟨sd_oGetR 18 142 3 5 25 RX2 TX2 10 rfl ⟨by decide, by decide⟩ rfl (by decide) rfl (fun w h => iw_18 w (uz_2 w h)) rfl (iw_18 _ zw35) (dk_18_1 (142, .getfield 25, 3) (List.mem_of_getElem? (i := 6) rfl)),
  List.forall_mem_cons.mpr ⟨sd_oGetIN 18 145 4 2 69 RX3 TX3 8 rfl ⟨by decide, by decide⟩ rfl (by decide) rfl (fun w h => iw_18 w (uz_3 w h)) rfl "Marginalia" (List.mem_of_getElem? (i := 29) rfl) (dk_18_1 (145, .getfield 69, 3) (List.mem_of_getElem? (i := 7) rfl)),
  List.forall_mem_cons.mpr ⟨sd_iret 18 148 rfl (dk_18_1 (148, .ireturn, 1) (List.mem_of_getElem? (i := 8) rfl)),
  List.forall_mem_cons.mpr ⟨sd_oLdR_n 18 149 0 0 rfl (dk_18_1 (149, .aload_n 0, 1) (List.mem_of_getElem? (i := 9) rfl)),
  List.forall_mem_cons.mpr ⟨sd_oGetR 18 150 3 5 25 RX2 TX2 10 rfl ⟨by decide, by decide⟩ rfl (by decide) rfl (fun w h => iw_18 w (uz_2 w h)) rfl (iw_18 _ zw35) (dk_18_1 (150, .getfield 25, 3) (List.mem_of_getElem? (i := 10) rfl)),
  List.forall_mem_cons.mpr ⟨sd_oGetIN 18 153 4 6 72 RX3 TX3 8 rfl ⟨by decide, by decide⟩ rfl (by decide) rfl (fun w h => iw_18 w (uz_3 w h)) rfl "Marginalia" (List.mem_of_getElem? (i := 30) rfl) (dk_18_1 (153, .getfield 72, 3) (List.mem_of_getElem? (i := 11) rfl)),
  List.forall_mem_cons.mpr ⟨sd_iret 18 156 rfl (dk_18_1 (156, .ireturn, 1) (List.mem_of_getElem? (i := 12) rfl)),
  fun _ h => nomatch h⟩⟩⟩⟩⟩⟩⟩⟩⟩⟩⟩⟩⟩⟩
def tb_18 : List (List (Nat × Op1)) := [tb_18_0, tb_18_1, tb_18_2]
theorem sm_18 : ∀ t ∈ tb_18, ∀ q ∈ t, SM GwP MdP D A l 18 q.1 q.2 := List.forall_mem_cons.mpr ⟨sm_18_0, List.forall_mem_cons.mpr ⟨sm_18_1, List.forall_mem_cons.mpr ⟨sm_18_2, fun _ h => nomatch h⟩⟩⟩
-- 19: Marginalia$Strand.<init>(IIILMarginalia$Anchor;[I)V
def dl_19_0 : List (Nat × Instr × Nat) := [(0, .aload_n 0, 1), (1, .invokespecial 3, 3), (4, .aload_n 0, 1), (5, .iload_n 1, 1), (6, .putfield 9, 3), (9, .aload_n 0, 1), (10, .iload_n 2, 1), (11, .putfield 15, 3), (14, .aload_n 0, 1), (15, .iload_n 3, 1), (16, .putfield 18, 3), (19, .aload_n 0, 1), (20, .aload 4, 2), (22, .putfield 21, 3), (25, .aload_n 0, 1), (26, .aload 5, 2), (28, .putfield 25, 3), (31, .aload_n 0, 1), (32, .iconst (-1), 1), (33, .putfield 29, 3), (36, .return_, 1)]
theorem dk_19_0 : ∀ q ∈ dl_19_0, decode (mCod (MdP 19)) q.1 = .ok q.2 := by
  rw [show mCod (MdP 19) = cX3_init from rfl]
  decide +kernel
def tb_19_0 : List (Nat × Op1) := [(0, oLdR 0 1), (1, oObj), (4, oLdR 0 1), (5, oLdI 1 1), (6, oPutI 4 0), (9, oLdR 0 1), (10, oLdI 2 1), (11, oPutI 4 1), (14, oLdR 0 1), (15, oLdI 3 1), (16, oPutI 4 2), (19, oLdR 0 1), (20, oLdR 4 2), (22, oPutR 4 3), (25, oLdR 0 1), (26, oLdR 5 2), (28, oPutR 4 4), (31, oLdR 0 1), (32, oCI (-1) 1), (33, oPutI 4 6), (36, oRetV)]
theorem sm_19_0 : ∀ q ∈ tb_19_0, SM GwP MdP D A l 19 q.1 q.2 :=
  List.forall_mem_cons.mpr ⟨sd_oLdR_n 19 0 0 0 rfl (dk_19_0 (0, .aload_n 0, 1) (List.mem_of_getElem? (i := 0) rfl)),
  List.forall_mem_cons.mpr ⟨sd_obj 19 1 3 (iw_19 _ zw42) (iw_19 _ zw1) (iw_19 _ zw2) (by decide) (by decide) (dk_19_0 (1, .invokespecial 3, 3) (List.mem_of_getElem? (i := 1) rfl)),
  List.forall_mem_cons.mpr ⟨sd_oLdR_n 19 4 0 0 rfl (dk_19_0 (4, .aload_n 0, 1) (List.mem_of_getElem? (i := 2) rfl)),
  List.forall_mem_cons.mpr ⟨sd_oLdI_n 19 5 1 1 rfl (dk_19_0 (5, .iload_n 1, 1) (List.mem_of_getElem? (i := 3) rfl)),
  List.forall_mem_cons.mpr ⟨sd_oPutIF 19 6 4 0 9 RX3 TX3 8 rfl ⟨by decide, by decide⟩ rfl (by decide) rfl (fun w h => iw_19 w (uz_3 w h)) rfl tyX3 tyX3_ok nmX3 rfl rfl rfl rfl (iw_19 _ zw43) (dk_19_0 (6, .putfield 9, 3) (List.mem_of_getElem? (i := 4) rfl)),
  List.forall_mem_cons.mpr ⟨sd_oLdR_n 19 9 0 0 rfl (dk_19_0 (9, .aload_n 0, 1) (List.mem_of_getElem? (i := 5) rfl)),
  List.forall_mem_cons.mpr ⟨sd_oLdI_n 19 10 2 2 rfl (dk_19_0 (10, .iload_n 2, 1) (List.mem_of_getElem? (i := 6) rfl)),
  List.forall_mem_cons.mpr ⟨sd_oPutIF 19 11 4 1 15 RX3 TX3 8 rfl ⟨by decide, by decide⟩ rfl (by decide) rfl (fun w h => iw_19 w (uz_3 w h)) rfl tyX3 tyX3_ok nmX3 rfl rfl rfl rfl (iw_19 _ zw44) (dk_19_0 (11, .putfield 15, 3) (List.mem_of_getElem? (i := 7) rfl)),
  List.forall_mem_cons.mpr ⟨sd_oLdR_n 19 14 0 0 rfl (dk_19_0 (14, .aload_n 0, 1) (List.mem_of_getElem? (i := 8) rfl)),
  List.forall_mem_cons.mpr ⟨sd_oLdI_n 19 15 3 3 rfl (dk_19_0 (15, .iload_n 3, 1) (List.mem_of_getElem? (i := 9) rfl)),
  List.forall_mem_cons.mpr ⟨sd_oPutIF 19 16 4 2 18 RX3 TX3 8 rfl ⟨by decide, by decide⟩ rfl (by decide) rfl (fun w h => iw_19 w (uz_3 w h)) rfl tyX3 tyX3_ok nmX3 rfl rfl rfl rfl (iw_19 _ zw45) (dk_19_0 (16, .putfield 18, 3) (List.mem_of_getElem? (i := 10) rfl)),
  List.forall_mem_cons.mpr ⟨sd_oLdR_n 19 19 0 0 rfl (dk_19_0 (19, .aload_n 0, 1) (List.mem_of_getElem? (i := 11) rfl)),
  List.forall_mem_cons.mpr ⟨sd_oLdR 19 20 4 (dk_19_0 (20, .aload 4, 2) (List.mem_of_getElem? (i := 12) rfl)),
  List.forall_mem_cons.mpr ⟨sd_oPutRF 19 22 4 3 21 RX3 TX3 8 rfl ⟨by decide, by decide⟩ rfl (by decide) rfl (fun w h => iw_19 w (uz_3 w h)) rfl tyX3 tyX3_ok nmX3 (Or.inl ⟨_, rfl⟩) rfl rfl rfl (iw_19 _ zw46) (dk_19_0 (22, .putfield 21, 3) (List.mem_of_getElem? (i := 13) rfl)),
  List.forall_mem_cons.mpr ⟨sd_oLdR_n 19 25 0 0 rfl (dk_19_0 (25, .aload_n 0, 1) (List.mem_of_getElem? (i := 14) rfl)),
  List.forall_mem_cons.mpr ⟨sd_oLdR 19 26 5 (dk_19_0 (26, .aload 5, 2) (List.mem_of_getElem? (i := 15) rfl)),
  List.forall_mem_cons.mpr ⟨sd_oPutRF 19 28 4 4 25 RX3 TX3 8 rfl ⟨by decide, by decide⟩ rfl (by decide) rfl (fun w h => iw_19 w (uz_3 w h)) rfl tyX3 tyX3_ok nmX3 (Or.inr ⟨_, rfl⟩) rfl rfl rfl (iw_19 _ zw47) (dk_19_0 (28, .putfield 25, 3) (List.mem_of_getElem? (i := 16) rfl)),
  List.forall_mem_cons.mpr ⟨sd_oLdR_n 19 31 0 0 rfl (dk_19_0 (31, .aload_n 0, 1) (List.mem_of_getElem? (i := 17) rfl)),
  List.forall_mem_cons.mpr ⟨sd_iconst 19 32 (-1) ⟨by decide, by decide⟩ (dk_19_0 (32, .iconst (-1), 1) (List.mem_of_getElem? (i := 18) rfl)),
  List.forall_mem_cons.mpr ⟨sd_oPutI 19 33 4 6 29 RX3 TX3 8 rfl ⟨by decide, by decide⟩ rfl (by decide) rfl (fun w h => iw_19 w (uz_3 w h)) rfl tyX3 tyX3_ok nmX3 rfl rfl (iw_19 _ zw48) (dk_19_0 (33, .putfield 29, 3) (List.mem_of_getElem? (i := 19) rfl)),
  List.forall_mem_cons.mpr ⟨sd_vret 19 36 rfl (dk_19_0 (36, .return_, 1) (List.mem_of_getElem? (i := 20) rfl)),
  fun _ h => nomatch h⟩⟩⟩⟩⟩⟩⟩⟩⟩⟩⟩⟩⟩⟩⟩⟩⟩⟩⟩⟩⟩
def tb_19 : List (List (Nat × Op1)) := [tb_19_0]
theorem sm_19 : ∀ t ∈ tb_19, ∀ q ∈ t, SM GwP MdP D A l 19 q.1 q.2 := List.forall_mem_cons.mpr ⟨sm_19_0, fun _ h => nomatch h⟩
-- 20: Marginalia$Strand.isSeenBy(II)Z
def dl_20_0 : List (Nat × Instr × Nat) := [(0, .iload_n 2, 1), (1, .ifCond .ne 5, 3), (4, .iconst 0, 1), (5, .ireturn, 1), (6, .aload_n 0, 1), (7, .getfield 18, 3), (10, .iconst 2, 1), (11, .if_icmp .eq 29, 3), (14, .aload_n 0, 1), (15, .getfield 18, 3), (18, .iconst 1, 1), (19, .if_icmp .ne 8, 3), (22, .iload_n 2, 1), (23, .iconst 2, 1), (24, .if_icmp .ge 16, 3), (27, .aload_n 0, 1), (28, .getfield 15, 3), (31, .iload_n 1, 1), (32, .if_icmp .eq 8, 3), (35, .iload_n 2, 1), (36, .iconst 4, 1), (37, .if_icmp .ne 7, 3), (40, .iconst 1, 1), (41, .goto 4, 3), (44, .iconst 0, 1), (45, .ireturn, 1)]
theorem dk_20_0 : ∀ q ∈ dl_20_0, decode (mCod (MdP 20)) q.1 = .ok q.2 := by
  rw [show mCod (MdP 20) = cX3_isSeenBy from rfl]
  decide +kernel
def tb_20_0 : List (Nat × Op1) := [(0, oLdI 2 1), (1, oZne 6), (4, oCI 0 1), (5, oRetZ), (6, oLdR 0 1), (7, oGetI 4 2), (10, oCI 2 1), (11, oCeq 40), (14, oLdR 0 1), (15, oGetI 4 2), (18, oCI 1 1), (19, oCne 27), (22, oLdI 2 1), (23, oCI 2 1), (24, oCge 40), (27, oLdR 0 1), (28, oGetI 4 1), (31, oLdI 1 1), (32, oCeq 40), (35, oLdI 2 1), (36, oCI 4 1), (37, oCne 44), (40, oCI 1 1), (41, oGoto 45), (44, oCI 0 1), (45, oRetZ)]
theorem sm_20_0 : ∀ q ∈ tb_20_0, SM GwP MdP D A l 20 q.1 q.2 :=
  List.forall_mem_cons.mpr ⟨sd_oLdI_n 20 0 2 2 rfl (dk_20_0 (0, .iload_n 2, 1) (List.mem_of_getElem? (i := 0) rfl)),
  List.forall_mem_cons.mpr ⟨sd_if_ne 20 1 5 6 (by decide) (dk_20_0 (1, .ifCond .ne 5, 3) (List.mem_of_getElem? (i := 1) rfl)),
  List.forall_mem_cons.mpr ⟨sd_iconst 20 4 0 ⟨by decide, by decide⟩ (dk_20_0 (4, .iconst 0, 1) (List.mem_of_getElem? (i := 2) rfl)),
  List.forall_mem_cons.mpr ⟨sd_zret 20 5 rfl (dk_20_0 (5, .ireturn, 1) (List.mem_of_getElem? (i := 3) rfl)),
  List.forall_mem_cons.mpr ⟨sd_oLdR_n 20 6 0 0 rfl (dk_20_0 (6, .aload_n 0, 1) (List.mem_of_getElem? (i := 4) rfl)),
  List.forall_mem_cons.mpr ⟨sd_oGetI 20 7 4 2 18 RX3 TX3 8 rfl ⟨by decide, by decide⟩ rfl (by decide) rfl (fun w h => iw_20 w (uz_3 w h)) rfl (iw_20 _ zw45) (dk_20_0 (7, .getfield 18, 3) (List.mem_of_getElem? (i := 5) rfl)),
  List.forall_mem_cons.mpr ⟨sd_iconst 20 10 2 ⟨by decide, by decide⟩ (dk_20_0 (10, .iconst 2, 1) (List.mem_of_getElem? (i := 6) rfl)),
  List.forall_mem_cons.mpr ⟨sd_icmp_eq 20 11 29 40 (by decide) (dk_20_0 (11, .if_icmp .eq 29, 3) (List.mem_of_getElem? (i := 7) rfl)),
  List.forall_mem_cons.mpr ⟨sd_oLdR_n 20 14 0 0 rfl (dk_20_0 (14, .aload_n 0, 1) (List.mem_of_getElem? (i := 8) rfl)),
  List.forall_mem_cons.mpr ⟨sd_oGetI 20 15 4 2 18 RX3 TX3 8 rfl ⟨by decide, by decide⟩ rfl (by decide) rfl (fun w h => iw_20 w (uz_3 w h)) rfl (iw_20 _ zw45) (dk_20_0 (15, .getfield 18, 3) (List.mem_of_getElem? (i := 9) rfl)),
  List.forall_mem_cons.mpr ⟨sd_iconst 20 18 1 ⟨by decide, by decide⟩ (dk_20_0 (18, .iconst 1, 1) (List.mem_of_getElem? (i := 10) rfl)),
  List.forall_mem_cons.mpr ⟨sd_icmp_ne 20 19 8 27 (by decide) (dk_20_0 (19, .if_icmp .ne 8, 3) (List.mem_of_getElem? (i := 11) rfl)),
  List.forall_mem_cons.mpr ⟨sd_oLdI_n 20 22 2 2 rfl (dk_20_0 (22, .iload_n 2, 1) (List.mem_of_getElem? (i := 12) rfl)),
  List.forall_mem_cons.mpr ⟨sd_iconst 20 23 2 ⟨by decide, by decide⟩ (dk_20_0 (23, .iconst 2, 1) (List.mem_of_getElem? (i := 13) rfl)),
  List.forall_mem_cons.mpr ⟨sd_icmp_ge 20 24 16 40 (by decide) (dk_20_0 (24, .if_icmp .ge 16, 3) (List.mem_of_getElem? (i := 14) rfl)),
  List.forall_mem_cons.mpr ⟨sd_oLdR_n 20 27 0 0 rfl (dk_20_0 (27, .aload_n 0, 1) (List.mem_of_getElem? (i := 15) rfl)),
  List.forall_mem_cons.mpr ⟨sd_oGetI 20 28 4 1 15 RX3 TX3 8 rfl ⟨by decide, by decide⟩ rfl (by decide) rfl (fun w h => iw_20 w (uz_3 w h)) rfl (iw_20 _ zw44) (dk_20_0 (28, .getfield 15, 3) (List.mem_of_getElem? (i := 16) rfl)),
  List.forall_mem_cons.mpr ⟨sd_oLdI_n 20 31 1 1 rfl (dk_20_0 (31, .iload_n 1, 1) (List.mem_of_getElem? (i := 17) rfl)),
  List.forall_mem_cons.mpr ⟨sd_icmp_eq 20 32 8 40 (by decide) (dk_20_0 (32, .if_icmp .eq 8, 3) (List.mem_of_getElem? (i := 18) rfl)),
  List.forall_mem_cons.mpr ⟨sd_oLdI_n 20 35 2 2 rfl (dk_20_0 (35, .iload_n 2, 1) (List.mem_of_getElem? (i := 19) rfl)),
  List.forall_mem_cons.mpr ⟨sd_iconst 20 36 4 ⟨by decide, by decide⟩ (dk_20_0 (36, .iconst 4, 1) (List.mem_of_getElem? (i := 20) rfl)),
  List.forall_mem_cons.mpr ⟨sd_icmp_ne 20 37 7 44 (by decide) (dk_20_0 (37, .if_icmp .ne 7, 3) (List.mem_of_getElem? (i := 21) rfl)),
  List.forall_mem_cons.mpr ⟨sd_iconst 20 40 1 ⟨by decide, by decide⟩ (dk_20_0 (40, .iconst 1, 1) (List.mem_of_getElem? (i := 22) rfl)),
  List.forall_mem_cons.mpr ⟨sd_goto 20 41 4 45 (by decide) (dk_20_0 (41, .goto 4, 3) (List.mem_of_getElem? (i := 23) rfl)),
  List.forall_mem_cons.mpr ⟨sd_iconst 20 44 0 ⟨by decide, by decide⟩ (dk_20_0 (44, .iconst 0, 1) (List.mem_of_getElem? (i := 24) rfl)),
  List.forall_mem_cons.mpr ⟨sd_zret 20 45 rfl (dk_20_0 (45, .ireturn, 1) (List.mem_of_getElem? (i := 25) rfl)),
  fun _ h => nomatch h⟩⟩⟩⟩⟩⟩⟩⟩⟩⟩⟩⟩⟩⟩⟩⟩⟩⟩⟩⟩⟩⟩⟩⟩⟩⟩
def tb_20 : List (List (Nat × Op1)) := [tb_20_0]
theorem sm_20 : ∀ t ∈ tb_20, ∀ q ∈ t, SM GwP MdP D A l 20 q.1 q.2 := List.forall_mem_cons.mpr ⟨sm_20_0, fun _ h => nomatch h⟩
-- 21: Marginalia$Strand.isCountedAs(I)Z
def dl_21_0 : List (Nat × Instr × Nat) := [(0, .iload_n 1, 1), (1, .iconst 2, 1), (2, .if_icmp .eq 30, 3), (5, .iload_n 1, 1), (6, .iconst 3, 1), (7, .if_icmp .ne 10, 3), (10, .aload_n 0, 1), (11, .getfield 32, 3), (14, .ifCond .eq 18, 3), (17, .iload_n 1, 1), (18, .iconst 4, 1), (19, .if_icmp .ne 17, 3), (22, .aload_n 0, 1), (23, .getfield 21, 3), (26, .invokevirtual 36, 3), (29, .ifCond .eq 7, 3), (32, .iconst 1, 1), (33, .goto 4, 3), (36, .iconst 0, 1), (37, .ireturn, 1)]
theorem dk_21_0 : ∀ q ∈ dl_21_0, decode (mCod (MdP 21)) q.1 = .ok q.2 := by
  rw [show mCod (MdP 21) = cX3_isCountedAs from rfl]
  decide +kernel
def tb_21_0 : List (Nat × Op1) := [(0, oLdI 1 1), (1, oCI 2 1), (2, oCeq 32), (5, oLdI 1 1), (6, oCI 3 1), (7, oCne 17), (10, oLdR 0 1), (11, oGetI 4 5), (14, oZeq 32), (17, oLdI 1 1), (18, oCI 4 1), (19, oCne 36), (22, oLdR 0 1), (23, oGetR 4 3), (26, oCallV 3 0 1 1 []), (29, oZeq 36), (32, oCI 1 1), (33, oGoto 37), (36, oCI 0 1), (37, oRetZ)]
theorem sm_21_0 : ∀ q ∈ tb_21_0, SM GwP MdP D A l 21 q.1 q.2 :=
  List.forall_mem_cons.mpr ⟨sd_oLdI_n 21 0 1 1 rfl (dk_21_0 (0, .iload_n 1, 1) (List.mem_of_getElem? (i := 0) rfl)),
  List.forall_mem_cons.mpr ⟨sd_iconst 21 1 2 ⟨by decide, by decide⟩ (dk_21_0 (1, .iconst 2, 1) (List.mem_of_getElem? (i := 1) rfl)),
  List.forall_mem_cons.mpr ⟨sd_icmp_eq 21 2 30 32 (by decide) (dk_21_0 (2, .if_icmp .eq 30, 3) (List.mem_of_getElem? (i := 2) rfl)),
  List.forall_mem_cons.mpr ⟨sd_oLdI_n 21 5 1 1 rfl (dk_21_0 (5, .iload_n 1, 1) (List.mem_of_getElem? (i := 3) rfl)),
  List.forall_mem_cons.mpr ⟨sd_iconst 21 6 3 ⟨by decide, by decide⟩ (dk_21_0 (6, .iconst 3, 1) (List.mem_of_getElem? (i := 4) rfl)),
  List.forall_mem_cons.mpr ⟨sd_icmp_ne 21 7 10 17 (by decide) (dk_21_0 (7, .if_icmp .ne 10, 3) (List.mem_of_getElem? (i := 5) rfl)),
  List.forall_mem_cons.mpr ⟨sd_oLdR_n 21 10 0 0 rfl (dk_21_0 (10, .aload_n 0, 1) (List.mem_of_getElem? (i := 6) rfl)),
  List.forall_mem_cons.mpr ⟨sd_oGetI 21 11 4 5 32 RX3 TX3 8 rfl ⟨by decide, by decide⟩ rfl (by decide) rfl (fun w h => iw_21 w (uz_3 w h)) rfl (iw_21 _ zw49) (dk_21_0 (11, .getfield 32, 3) (List.mem_of_getElem? (i := 7) rfl)),
  List.forall_mem_cons.mpr ⟨sd_if_eq 21 14 18 32 (by decide) (dk_21_0 (14, .ifCond .eq 18, 3) (List.mem_of_getElem? (i := 8) rfl)),
  List.forall_mem_cons.mpr ⟨sd_oLdI_n 21 17 1 1 rfl (dk_21_0 (17, .iload_n 1, 1) (List.mem_of_getElem? (i := 9) rfl)),
  List.forall_mem_cons.mpr ⟨sd_iconst 21 18 4 ⟨by decide, by decide⟩ (dk_21_0 (18, .iconst 4, 1) (List.mem_of_getElem? (i := 10) rfl)),
  List.forall_mem_cons.mpr ⟨sd_icmp_ne 21 19 17 36 (by decide) (dk_21_0 (19, .if_icmp .ne 17, 3) (List.mem_of_getElem? (i := 11) rfl)),
  List.forall_mem_cons.mpr ⟨sd_oLdR_n 21 22 0 0 rfl (dk_21_0 (22, .aload_n 0, 1) (List.mem_of_getElem? (i := 12) rfl)),
  List.forall_mem_cons.mpr ⟨sd_oGetR 21 23 4 3 21 RX3 TX3 8 rfl ⟨by decide, by decide⟩ rfl (by decide) rfl (fun w h => iw_21 w (uz_3 w h)) rfl (iw_21 _ zw46) (dk_21_0 (23, .getfield 21, 3) (List.mem_of_getElem? (i := 13) rfl)),
  List.forall_mem_cons.mpr ⟨sd_callV 21 26 3 0 1 36 1 [] (gdV hws_21 hws_3 zw50 zw7 zw8 zw9 zw5) hws_3 rfl (by decide +kernel) rfl rfl ⟨by decide +kernel, by decide +kernel, by decide +kernel⟩ ⟨by decide, by decide⟩ (catch_nil rfl) RX0 rfl TX0 2 rfl ⟨by decide, by decide⟩ (dk_21_0 (26, .invokevirtual 36, 3) (List.mem_of_getElem? (i := 14) rfl)),
  List.forall_mem_cons.mpr ⟨sd_if_eq 21 29 7 36 (by decide) (dk_21_0 (29, .ifCond .eq 7, 3) (List.mem_of_getElem? (i := 15) rfl)),
  List.forall_mem_cons.mpr ⟨sd_iconst 21 32 1 ⟨by decide, by decide⟩ (dk_21_0 (32, .iconst 1, 1) (List.mem_of_getElem? (i := 16) rfl)),
  List.forall_mem_cons.mpr ⟨sd_goto 21 33 4 37 (by decide) (dk_21_0 (33, .goto 4, 3) (List.mem_of_getElem? (i := 17) rfl)),
  List.forall_mem_cons.mpr ⟨sd_iconst 21 36 0 ⟨by decide, by decide⟩ (dk_21_0 (36, .iconst 0, 1) (List.mem_of_getElem? (i := 18) rfl)),
  List.forall_mem_cons.mpr ⟨sd_zret 21 37 rfl (dk_21_0 (37, .ireturn, 1) (List.mem_of_getElem? (i := 19) rfl)),
  fun _ h => nomatch h⟩⟩⟩⟩⟩⟩⟩⟩⟩⟩⟩⟩⟩⟩⟩⟩⟩⟩⟩⟩
def tb_21 : List (List (Nat × Op1)) := [tb_21_0]
theorem sm_21 : ∀ t ∈ tb_21, ∀ q ∈ t, SM GwP MdP D A l 21 q.1 q.2 := List.forall_mem_cons.mpr ⟨sm_21_0, fun _ h => nomatch h⟩
-- 22: Marginalia$Text.<init>()V
def dl_22_0 : List (Nat × Instr × Nat) := [(0, .aload_n 0, 1), (1, .invokespecial 3, 3), (4, .aload_n 0, 1), (5, .bipush 61, 2), (7, .sipush 200, 3), (10, .multianewarray 9 2, 4), (14, .putfield 11, 3), (17, .aload_n 0, 1), (18, .bipush 61, 2), (20, .newarray .int, 2), (22, .putfield 16, 3), (25, .aload_n 0, 1), (26, .sipush 2400, 3), (29, .newarray .int, 2), (31, .putfield 20, 3), (34, .return_, 1)]
theorem dk_22_0 : ∀ q ∈ dl_22_0, decode (mCod (MdP 22)) q.1 = .ok q.2 := by
  rw [show mCod (MdP 22) = cX4_init from rfl]
  decide +kernel
def tb_22_0 : List (Nat × Op1) := [(0, oLdR 0 1), (1, oObj), (4, oLdR 0 1), (5, oCI 61 2), (7, oCI 200 3), (10, oNew2), (14, oPutR 5 0), (17, oLdR 0 1), (18, oCI 61 2), (20, oNewA 10 2), (22, oPutR 5 1), (25, oLdR 0 1), (26, oCI 2400 3), (29, oNewA 10 2), (31, oPutR 5 2), (34, oRetV)]
theorem sm_22_0 : ∀ q ∈ tb_22_0, SM GwP MdP D A l 22 q.1 q.2 :=
  List.forall_mem_cons.mpr ⟨sd_oLdR_n 22 0 0 0 rfl (dk_22_0 (0, .aload_n 0, 1) (List.mem_of_getElem? (i := 0) rfl)),
  List.forall_mem_cons.mpr ⟨sd_obj 22 1 3 (iw_22 _ zw51) (iw_22 _ zw1) (iw_22 _ zw2) (by decide) (by decide) (dk_22_0 (1, .invokespecial 3, 3) (List.mem_of_getElem? (i := 1) rfl)),
  List.forall_mem_cons.mpr ⟨sd_oLdR_n 22 4 0 0 rfl (dk_22_0 (4, .aload_n 0, 1) (List.mem_of_getElem? (i := 2) rfl)),
  List.forall_mem_cons.mpr ⟨sd_bipush 22 5 61 ⟨by decide, by decide⟩ (by decide) (dk_22_0 (5, .bipush 61, 2) (List.mem_of_getElem? (i := 3) rfl)),
  List.forall_mem_cons.mpr ⟨sd_sipush 22 7 200 ⟨by decide, by decide⟩ (by decide) (dk_22_0 (7, .sipush 200, 3) (List.mem_of_getElem? (i := 4) rfl)),
  List.forall_mem_cons.mpr ⟨sd_new2 22 10 9 (iw_22 _ zw52) (iw_22 _ zw22) (dk_22_0 (10, .multianewarray 9 2, 4) (List.mem_of_getElem? (i := 5) rfl)),
  List.forall_mem_cons.mpr ⟨sd_oPutRF 22 14 5 0 11 RX4 TX4 5 rfl ⟨by decide, by decide⟩ rfl (by decide) rfl (fun w h => iw_22 w (uz_4 w h)) rfl tyX4 tyX4_ok nmX4 (Or.inr ⟨_, rfl⟩) rfl rfl rfl (iw_22 _ zw53) (dk_22_0 (14, .putfield 11, 3) (List.mem_of_getElem? (i := 6) rfl)),
  List.forall_mem_cons.mpr ⟨sd_oLdR_n 22 17 0 0 rfl (dk_22_0 (17, .aload_n 0, 1) (List.mem_of_getElem? (i := 7) rfl)),
  List.forall_mem_cons.mpr ⟨sd_bipush 22 18 61 ⟨by decide, by decide⟩ (by decide) (dk_22_0 (18, .bipush 61, 2) (List.mem_of_getElem? (i := 8) rfl)),
  List.forall_mem_cons.mpr ⟨sd_newA 22 20 10 .int (Or.inl ⟨rfl, rfl⟩) (iw_22 _ zw22) (dk_22_0 (20, .newarray .int, 2) (List.mem_of_getElem? (i := 9) rfl)),
  List.forall_mem_cons.mpr ⟨sd_oPutRF 22 22 5 1 16 RX4 TX4 5 rfl ⟨by decide, by decide⟩ rfl (by decide) rfl (fun w h => iw_22 w (uz_4 w h)) rfl tyX4 tyX4_ok nmX4 (Or.inr ⟨_, rfl⟩) rfl rfl rfl (iw_22 _ zw54) (dk_22_0 (22, .putfield 16, 3) (List.mem_of_getElem? (i := 10) rfl)),
  List.forall_mem_cons.mpr ⟨sd_oLdR_n 22 25 0 0 rfl (dk_22_0 (25, .aload_n 0, 1) (List.mem_of_getElem? (i := 11) rfl)),
  List.forall_mem_cons.mpr ⟨sd_sipush 22 26 2400 ⟨by decide, by decide⟩ (by decide) (dk_22_0 (26, .sipush 2400, 3) (List.mem_of_getElem? (i := 12) rfl)),
  List.forall_mem_cons.mpr ⟨sd_newA 22 29 10 .int (Or.inl ⟨rfl, rfl⟩) (iw_22 _ zw22) (dk_22_0 (29, .newarray .int, 2) (List.mem_of_getElem? (i := 13) rfl)),
  List.forall_mem_cons.mpr ⟨sd_oPutRF 22 31 5 2 20 RX4 TX4 5 rfl ⟨by decide, by decide⟩ rfl (by decide) rfl (fun w h => iw_22 w (uz_4 w h)) rfl tyX4 tyX4_ok nmX4 (Or.inr ⟨_, rfl⟩) rfl rfl rfl (iw_22 _ zw55) (dk_22_0 (31, .putfield 20, 3) (List.mem_of_getElem? (i := 14) rfl)),
  List.forall_mem_cons.mpr ⟨sd_vret 22 34 rfl (dk_22_0 (34, .return_, 1) (List.mem_of_getElem? (i := 15) rfl)),
  fun _ h => nomatch h⟩⟩⟩⟩⟩⟩⟩⟩⟩⟩⟩⟩⟩⟩⟩⟩
def tb_22 : List (List (Nat × Op1)) := [tb_22_0]
theorem sm_22 : ∀ t ∈ tb_22, ∀ q ∈ t, SM GwP MdP D A l 22 q.1 q.2 := List.forall_mem_cons.mpr ⟨sm_22_0, fun _ h => nomatch h⟩
-- 23: Marginalia$Text.size()I
def dl_23_0 : List (Nat × Instr × Nat) := [(0, .aload_n 0, 1), (1, .getfield 16, 3), (4, .aload_n 0, 1), (5, .getfield 23, 3), (8, .iaload, 1), (9, .ireturn, 1)]
theorem dk_23_0 : ∀ q ∈ dl_23_0, decode (mCod (MdP 23)) q.1 = .ok q.2 := by
  rw [show mCod (MdP 23) = cX4_size from rfl]
  decide +kernel
def tb_23_0 : List (Nat × Op1) := [(0, oLdR 0 1), (1, oGetR 5 1), (4, oLdR 0 1), (5, oGetI 5 4), (8, oALdI 10), (9, oRetI)]
theorem sm_23_0 : ∀ q ∈ tb_23_0, SM GwP MdP D A l 23 q.1 q.2 :=
  List.forall_mem_cons.mpr ⟨sd_oLdR_n 23 0 0 0 rfl (dk_23_0 (0, .aload_n 0, 1) (List.mem_of_getElem? (i := 0) rfl)),
  List.forall_mem_cons.mpr ⟨sd_oGetR 23 1 5 1 16 RX4 TX4 5 rfl ⟨by decide, by decide⟩ rfl (by decide) rfl (fun w h => iw_23 w (uz_4 w h)) rfl (iw_23 _ zw54) (dk_23_0 (1, .getfield 16, 3) (List.mem_of_getElem? (i := 1) rfl)),
  List.forall_mem_cons.mpr ⟨sd_oLdR_n 23 4 0 0 rfl (dk_23_0 (4, .aload_n 0, 1) (List.mem_of_getElem? (i := 2) rfl)),
  List.forall_mem_cons.mpr ⟨sd_oGetI 23 5 5 4 23 RX4 TX4 5 rfl ⟨by decide, by decide⟩ rfl (by decide) rfl (fun w h => iw_23 w (uz_4 w h)) rfl (iw_23 _ zw56) (dk_23_0 (5, .getfield 23, 3) (List.mem_of_getElem? (i := 3) rfl)),
  List.forall_mem_cons.mpr ⟨sd_iald 23 8 (dk_23_0 (8, .iaload, 1) (List.mem_of_getElem? (i := 4) rfl)),
  List.forall_mem_cons.mpr ⟨sd_iret 23 9 rfl (dk_23_0 (9, .ireturn, 1) (List.mem_of_getElem? (i := 5) rfl)),
  fun _ h => nomatch h⟩⟩⟩⟩⟩⟩
def tb_23 : List (List (Nat × Op1)) := [tb_23_0]
theorem sm_23 : ∀ t ∈ tb_23, ∀ q ∈ t, SM GwP MdP D A l 23 q.1 q.2 := List.forall_mem_cons.mpr ⟨sm_23_0, fun _ h => nomatch h⟩
-- 24: Marginalia$Text.hasRoomFor(II)Z
def dl_24_0 : List (Nat × Instr × Nat) := [(0, .aload_n 0, 1), (1, .invokevirtual 27, 3), (4, .iload_n 1, 1), (5, .iadd, 1), (6, .sipush 200, 3), (9, .if_icmp .gt 18, 3), (12, .aload_n 0, 1), (13, .getfield 23, 3), (16, .iload_n 2, 1), (17, .iadd, 1), (18, .bipush 60, 2), (20, .if_icmp .gt 7, 3), (23, .iconst 1, 1), (24, .goto 4, 3), (27, .iconst 0, 1), (28, .ireturn, 1)]
theorem dk_24_0 : ∀ q ∈ dl_24_0, decode (mCod (MdP 24)) q.1 = .ok q.2 := by
  rw [show mCod (MdP 24) = cX4_hasRoomFor from rfl]
  decide +kernel
def tb_24_0 : List (Nat × Op1) := [(0, oLdR 0 1), (1, oCallV 23 0 1 5 []), (4, oLdI 1 1), (5, oAdd), (6, oCI 200 3), (9, oCgt 27), (12, oLdR 0 1), (13, oGetI 5 4), (16, oLdI 2 1), (17, oAdd), (18, oCI 60 2), (20, oCgt 27), (23, oCI 1 1), (24, oGoto 28), (27, oCI 0 1), (28, oRetZ)]
theorem sm_24_0 : ∀ q ∈ tb_24_0, SM GwP MdP D A l 24 q.1 q.2 :=
  List.forall_mem_cons.mpr ⟨sd_oLdR_n 24 0 0 0 rfl (dk_24_0 (0, .aload_n 0, 1) (List.mem_of_getElem? (i := 0) rfl)),
  List.forall_mem_cons.mpr ⟨sd_callV 24 1 23 0 1 27 5 [] (gdV hws_24 hws_23 zw58 zw59 zw60 zw61 zw57) hws_23 rfl (by decide +kernel) rfl rfl ⟨by decide +kernel, by decide +kernel, by decide +kernel⟩ ⟨by decide, by decide⟩ (catch_nil rfl) RX4 rfl TX4 5 rfl ⟨by decide, by decide⟩ (dk_24_0 (1, .invokevirtual 27, 3) (List.mem_of_getElem? (i := 1) rfl)),
  List.forall_mem_cons.mpr ⟨sd_oLdI_n 24 4 1 1 rfl (dk_24_0 (4, .iload_n 1, 1) (List.mem_of_getElem? (i := 2) rfl)),
  List.forall_mem_cons.mpr ⟨sd_iadd 24 5 (dk_24_0 (5, .iadd, 1) (List.mem_of_getElem? (i := 3) rfl)),
  List.forall_mem_cons.mpr ⟨sd_sipush 24 6 200 ⟨by decide, by decide⟩ (by decide) (dk_24_0 (6, .sipush 200, 3) (List.mem_of_getElem? (i := 4) rfl)),
  List.forall_mem_cons.mpr ⟨sd_icmp_gt 24 9 18 27 (by decide) (dk_24_0 (9, .if_icmp .gt 18, 3) (List.mem_of_getElem? (i := 5) rfl)),
  List.forall_mem_cons.mpr ⟨sd_oLdR_n 24 12 0 0 rfl (dk_24_0 (12, .aload_n 0, 1) (List.mem_of_getElem? (i := 6) rfl)),
  List.forall_mem_cons.mpr ⟨sd_oGetI 24 13 5 4 23 RX4 TX4 5 rfl ⟨by decide, by decide⟩ rfl (by decide) rfl (fun w h => iw_24 w (uz_4 w h)) rfl (iw_24 _ zw56) (dk_24_0 (13, .getfield 23, 3) (List.mem_of_getElem? (i := 7) rfl)),
  List.forall_mem_cons.mpr ⟨sd_oLdI_n 24 16 2 2 rfl (dk_24_0 (16, .iload_n 2, 1) (List.mem_of_getElem? (i := 8) rfl)),
  List.forall_mem_cons.mpr ⟨sd_iadd 24 17 (dk_24_0 (17, .iadd, 1) (List.mem_of_getElem? (i := 9) rfl)),
  List.forall_mem_cons.mpr ⟨sd_bipush 24 18 60 ⟨by decide, by decide⟩ (by decide) (dk_24_0 (18, .bipush 60, 2) (List.mem_of_getElem? (i := 10) rfl)),
  List.forall_mem_cons.mpr ⟨sd_icmp_gt 24 20 7 27 (by decide) (dk_24_0 (20, .if_icmp .gt 7, 3) (List.mem_of_getElem? (i := 11) rfl)),
  List.forall_mem_cons.mpr ⟨sd_iconst 24 23 1 ⟨by decide, by decide⟩ (dk_24_0 (23, .iconst 1, 1) (List.mem_of_getElem? (i := 12) rfl)),
  List.forall_mem_cons.mpr ⟨sd_goto 24 24 4 28 (by decide) (dk_24_0 (24, .goto 4, 3) (List.mem_of_getElem? (i := 13) rfl)),
  List.forall_mem_cons.mpr ⟨sd_iconst 24 27 0 ⟨by decide, by decide⟩ (dk_24_0 (27, .iconst 0, 1) (List.mem_of_getElem? (i := 14) rfl)),
  List.forall_mem_cons.mpr ⟨sd_zret 24 28 rfl (dk_24_0 (28, .ireturn, 1) (List.mem_of_getElem? (i := 15) rfl)),
  fun _ h => nomatch h⟩⟩⟩⟩⟩⟩⟩⟩⟩⟩⟩⟩⟩⟩⟩⟩
def tb_24 : List (List (Nat × Op1)) := [tb_24_0]
theorem sm_24 : ∀ t ∈ tb_24, ∀ q ∈ t, SM GwP MdP D A l 24 q.1 q.2 := List.forall_mem_cons.mpr ⟨sm_24_0, fun _ h => nomatch h⟩
-- 25: Marginalia$Text.hasVersion(I)Z
def dl_25_0 : List (Nat × Instr × Nat) := [(0, .iload_n 1, 1), (1, .iconst 0, 1), (2, .aload_n 0, 1), (3, .getfield 23, 3), (6, .invokestatic 31, 3), (9, .ireturn, 1)]
theorem dk_25_0 : ∀ q ∈ dl_25_0, decode (mCod (MdP 25)) q.1 = .ok q.2 := by
  rw [show mCod (MdP 25) = cX4_hasVersion from rfl]
  decide +kernel
def tb_25_0 : List (Nat × Op1) := [(0, oLdI 1 1), (1, oCI 0 1), (2, oLdR 0 1), (3, oGetI 5 4), (6, oCallS 67 3 3 []), (9, oRetZ)]
theorem sm_25_0 : ∀ q ∈ tb_25_0, SM GwP MdP D A l 25 q.1 q.2 :=
  List.forall_mem_cons.mpr ⟨sd_oLdI_n 25 0 1 1 rfl (dk_25_0 (0, .iload_n 1, 1) (List.mem_of_getElem? (i := 0) rfl)),
  List.forall_mem_cons.mpr ⟨sd_iconst 25 1 0 ⟨by decide, by decide⟩ (dk_25_0 (1, .iconst 0, 1) (List.mem_of_getElem? (i := 1) rfl)),
  List.forall_mem_cons.mpr ⟨sd_oLdR_n 25 2 0 0 rfl (dk_25_0 (2, .aload_n 0, 1) (List.mem_of_getElem? (i := 2) rfl)),
  List.forall_mem_cons.mpr ⟨sd_oGetI 25 3 5 4 23 RX4 TX4 5 rfl ⟨by decide, by decide⟩ rfl (by decide) rfl (fun w h => iw_25 w (uz_4 w h)) rfl (iw_25 _ zw56) (dk_25_0 (3, .getfield 23, 3) (List.mem_of_getElem? (i := 3) rfl)),
  List.forall_mem_cons.mpr ⟨sd_callSN 25 6 67 3 3 31 [] (gdI hws_25 hws_67 zw62) "Marginalia" (List.mem_of_getElem? (i := 0) rfl) (iw_25 _ zw63) (iw_25 _ zw64) hws_67 rfl (by decide +kernel) rfl rfl ⟨by decide +kernel, by decide +kernel, by decide +kernel⟩ ⟨by decide, by decide⟩ (catch_nil rfl) (dk_25_0 (6, .invokestatic 31, 3) (List.mem_of_getElem? (i := 4) rfl)),
  List.forall_mem_cons.mpr ⟨sd_zret 25 9 rfl (dk_25_0 (9, .ireturn, 1) (List.mem_of_getElem? (i := 5) rfl)),
  fun _ h => nomatch h⟩⟩⟩⟩⟩⟩
def tb_25 : List (List (Nat × Op1)) := [tb_25_0]
theorem sm_25 : ∀ t ∈ tb_25, ∀ q ∈ t, SM GwP MdP D A l 25 q.1 q.2 := List.forall_mem_cons.mpr ⟨sm_25_0, fun _ h => nomatch h⟩
-- 26: Marginalia$Text.hasSignIn(II)Z
def dl_26_0 : List (Nat × Instr × Nat) := [(0, .iload_n 2, 1), (1, .iconst 0, 1), (2, .aload_n 0, 1), (3, .getfield 16, 3), (6, .iload_n 1, 1), (7, .iaload, 1), (8, .iconst 1, 1), (9, .isub, 1), (10, .invokestatic 31, 3), (13, .ireturn, 1)]
theorem dk_26_0 : ∀ q ∈ dl_26_0, decode (mCod (MdP 26)) q.1 = .ok q.2 := by
  rw [show mCod (MdP 26) = cX4_hasSignIn from rfl]
  decide +kernel
def tb_26_0 : List (Nat × Op1) := [(0, oLdI 2 1), (1, oCI 0 1), (2, oLdR 0 1), (3, oGetR 5 1), (6, oLdI 1 1), (7, oALdI 10), (8, oCI 1 1), (9, oSub), (10, oCallS 67 3 3 []), (13, oRetZ)]
theorem sm_26_0 : ∀ q ∈ tb_26_0, SM GwP MdP D A l 26 q.1 q.2 :=
  List.forall_mem_cons.mpr ⟨sd_oLdI_n 26 0 2 2 rfl (dk_26_0 (0, .iload_n 2, 1) (List.mem_of_getElem? (i := 0) rfl)),
  List.forall_mem_cons.mpr ⟨sd_iconst 26 1 0 ⟨by decide, by decide⟩ (dk_26_0 (1, .iconst 0, 1) (List.mem_of_getElem? (i := 1) rfl)),
  List.forall_mem_cons.mpr ⟨sd_oLdR_n 26 2 0 0 rfl (dk_26_0 (2, .aload_n 0, 1) (List.mem_of_getElem? (i := 2) rfl)),
  List.forall_mem_cons.mpr ⟨sd_oGetR 26 3 5 1 16 RX4 TX4 5 rfl ⟨by decide, by decide⟩ rfl (by decide) rfl (fun w h => iw_26 w (uz_4 w h)) rfl (iw_26 _ zw54) (dk_26_0 (3, .getfield 16, 3) (List.mem_of_getElem? (i := 3) rfl)),
  List.forall_mem_cons.mpr ⟨sd_oLdI_n 26 6 1 1 rfl (dk_26_0 (6, .iload_n 1, 1) (List.mem_of_getElem? (i := 4) rfl)),
  List.forall_mem_cons.mpr ⟨sd_iald 26 7 (dk_26_0 (7, .iaload, 1) (List.mem_of_getElem? (i := 5) rfl)),
  List.forall_mem_cons.mpr ⟨sd_iconst 26 8 1 ⟨by decide, by decide⟩ (dk_26_0 (8, .iconst 1, 1) (List.mem_of_getElem? (i := 6) rfl)),
  List.forall_mem_cons.mpr ⟨sd_isub 26 9 (dk_26_0 (9, .isub, 1) (List.mem_of_getElem? (i := 7) rfl)),
  List.forall_mem_cons.mpr ⟨sd_callSN 26 10 67 3 3 31 [] (gdI hws_26 hws_67 zw62) "Marginalia" (List.mem_of_getElem? (i := 0) rfl) (iw_26 _ zw63) (iw_26 _ zw64) hws_67 rfl (by decide +kernel) rfl rfl ⟨by decide +kernel, by decide +kernel, by decide +kernel⟩ ⟨by decide, by decide⟩ (catch_nil rfl) (dk_26_0 (10, .invokestatic 31, 3) (List.mem_of_getElem? (i := 8) rfl)),
  List.forall_mem_cons.mpr ⟨sd_zret 26 13 rfl (dk_26_0 (13, .ireturn, 1) (List.mem_of_getElem? (i := 9) rfl)),
  fun _ h => nomatch h⟩⟩⟩⟩⟩⟩⟩⟩⟩⟩
def tb_26 : List (List (Nat × Op1)) := [tb_26_0]
theorem sm_26 : ∀ t ∈ tb_26, ∀ q ∈ t, SM GwP MdP D A l 26 q.1 q.2 := List.forall_mem_cons.mpr ⟨sm_26_0, fun _ h => nomatch h⟩
-- 27: Marginalia$Text.signIn(II)I
def dl_27_0 : List (Nat × Instr × Nat) := [(0, .aload_n 0, 1), (1, .getfield 20, 3), (4, .aload_n 0, 1), (5, .getfield 11, 3), (8, .iload_n 1, 1), (9, .aaload, 1), (10, .iload_n 2, 1), (11, .iaload, 1), (12, .iaload, 1), (13, .ireturn, 1)]
theorem dk_27_0 : ∀ q ∈ dl_27_0, decode (mCod (MdP 27)) q.1 = .ok q.2 := by
  rw [show mCod (MdP 27) = cX4_signIn from rfl]
  decide +kernel
def tb_27_0 : List (Nat × Op1) := [(0, oLdR 0 1), (1, oGetR 5 2), (4, oLdR 0 1), (5, oGetR 5 0), (8, oLdI 1 1), (9, oALdR 14), (10, oLdI 2 1), (11, oALdI 10), (12, oALdI 10), (13, oRetI)]
theorem sm_27_0 : ∀ q ∈ tb_27_0, SM GwP MdP D A l 27 q.1 q.2 :=
  List.forall_mem_cons.mpr ⟨sd_oLdR_n 27 0 0 0 rfl (dk_27_0 (0, .aload_n 0, 1) (List.mem_of_getElem? (i := 0) rfl)),
  List.forall_mem_cons.mpr ⟨sd_oGetR 27 1 5 2 20 RX4 TX4 5 rfl ⟨by decide, by decide⟩ rfl (by decide) rfl (fun w h => iw_27 w (uz_4 w h)) rfl (iw_27 _ zw55) (dk_27_0 (1, .getfield 20, 3) (List.mem_of_getElem? (i := 1) rfl)),
  List.forall_mem_cons.mpr ⟨sd_oLdR_n 27 4 0 0 rfl (dk_27_0 (4, .aload_n 0, 1) (List.mem_of_getElem? (i := 2) rfl)),
  List.forall_mem_cons.mpr ⟨sd_oGetR 27 5 5 0 11 RX4 TX4 5 rfl ⟨by decide, by decide⟩ rfl (by decide) rfl (fun w h => iw_27 w (uz_4 w h)) rfl (iw_27 _ zw53) (dk_27_0 (5, .getfield 11, 3) (List.mem_of_getElem? (i := 3) rfl)),
  List.forall_mem_cons.mpr ⟨sd_oLdI_n 27 8 1 1 rfl (dk_27_0 (8, .iload_n 1, 1) (List.mem_of_getElem? (i := 4) rfl)),
  List.forall_mem_cons.mpr ⟨sd_aaldA 27 9 (dk_27_0 (9, .aaload, 1) (List.mem_of_getElem? (i := 5) rfl)),
  List.forall_mem_cons.mpr ⟨sd_oLdI_n 27 10 2 2 rfl (dk_27_0 (10, .iload_n 2, 1) (List.mem_of_getElem? (i := 6) rfl)),
  List.forall_mem_cons.mpr ⟨sd_iald 27 11 (dk_27_0 (11, .iaload, 1) (List.mem_of_getElem? (i := 7) rfl)),
  List.forall_mem_cons.mpr ⟨sd_iald 27 12 (dk_27_0 (12, .iaload, 1) (List.mem_of_getElem? (i := 8) rfl)),
  List.forall_mem_cons.mpr ⟨sd_iret 27 13 rfl (dk_27_0 (13, .ireturn, 1) (List.mem_of_getElem? (i := 9) rfl)),
  fun _ h => nomatch h⟩⟩⟩⟩⟩⟩⟩⟩⟩⟩
def tb_27 : List (List (Nat × Op1)) := [tb_27_0]
theorem sm_27 : ∀ t ∈ tb_27, ∀ q ∈ t, SM GwP MdP D A l 27 q.1 q.2 := List.forall_mem_cons.mpr ⟨sm_27_0, fun _ h => nomatch h⟩
-- 28: Marginalia$Text.placeNow(II)I
def dl_28_0 : List (Nat × Instr × Nat) := [(0, .aload_n 0, 1), (1, .getfield 11, 3), (4, .iload_n 1, 1), (5, .aaload, 1), (6, .iload_n 2, 1), (7, .iaload, 1), (8, .istore_n 3, 1), (9, .iconst 0, 1), (10, .istore 4, 2), (12, .iload 4, 2), (14, .aload_n 0, 1), (15, .invokevirtual 27, 3), (18, .if_icmp .ge 28, 3), (21, .aload_n 0, 1), (22, .getfield 11, 3), (25, .aload_n 0, 1), (26, .getfield 23, 3), (29, .aaload, 1), (30, .iload 4, 2), (32, .iaload, 1), (33, .iload_n 3, 1), (34, .if_icmp .ne 6, 3), (37, .iload 4, 2), (39, .ireturn, 1), (40, .iinc 4 1, 3), (43, .goto (-31), 3), (46, .iconst (-1), 1), (47, .ireturn, 1)]
theorem dk_28_0 : ∀ q ∈ dl_28_0, decode (mCod (MdP 28)) q.1 = .ok q.2 := by
  rw [show mCod (MdP 28) = cX4_placeNow from rfl]
  decide +kernel
def tb_28_0 : List (Nat × Op1) := [(0, oLdR 0 1), (1, oGetR 5 0), (4, oLdI 1 1), (5, oALdR 14), (6, oLdI 2 1), (7, oALdI 10), (8, oStI 3 1), (9, oCI 0 1), (10, oStI 4 2), (12, oLdI 4 2), (14, oLdR 0 1), (15, oCallV 23 0 1 5 []), (18, oCge 46), (21, oLdR 0 1), (22, oGetR 5 0), (25, oLdR 0 1), (26, oGetI 5 4), (29, oALdR 14), (30, oLdI 4 2), (32, oALdI 10), (33, oLdI 3 1), (34, oCne 40), (37, oLdI 4 2), (39, oRetI), (40, oInc 4 1), (43, oGoto 12), (46, oCI (-1) 1), (47, oRetI)]
theorem sm_28_0 : ∀ q ∈ tb_28_0, SM GwP MdP D A l 28 q.1 q.2 :=
  List.forall_mem_cons.mpr ⟨sd_oLdR_n 28 0 0 0 rfl (dk_28_0 (0, .aload_n 0, 1) (List.mem_of_getElem? (i := 0) rfl)),
  List.forall_mem_cons.mpr ⟨sd_oGetR 28 1 5 0 11 RX4 TX4 5 rfl ⟨by decide, by decide⟩ rfl (by decide) rfl (fun w h => iw_28 w (uz_4 w h)) rfl (iw_28 _ zw53) (dk_28_0 (1, .getfield 11, 3) (List.mem_of_getElem? (i := 1) rfl)),
  List.forall_mem_cons.mpr ⟨sd_oLdI_n 28 4 1 1 rfl (dk_28_0 (4, .iload_n 1, 1) (List.mem_of_getElem? (i := 2) rfl)),
  List.forall_mem_cons.mpr ⟨sd_aaldA 28 5 (dk_28_0 (5, .aaload, 1) (List.mem_of_getElem? (i := 3) rfl)),
  List.forall_mem_cons.mpr ⟨sd_oLdI_n 28 6 2 2 rfl (dk_28_0 (6, .iload_n 2, 1) (List.mem_of_getElem? (i := 4) rfl)),
  List.forall_mem_cons.mpr ⟨sd_iald 28 7 (dk_28_0 (7, .iaload, 1) (List.mem_of_getElem? (i := 5) rfl)),
  List.forall_mem_cons.mpr ⟨sd_oStI_n 28 8 3 3 rfl (by decide) (dk_28_0 (8, .istore_n 3, 1) (List.mem_of_getElem? (i := 6) rfl)),
  List.forall_mem_cons.mpr ⟨sd_iconst 28 9 0 ⟨by decide, by decide⟩ (dk_28_0 (9, .iconst 0, 1) (List.mem_of_getElem? (i := 7) rfl)),
  List.forall_mem_cons.mpr ⟨sd_oStI 28 10 4 (by decide) (dk_28_0 (10, .istore 4, 2) (List.mem_of_getElem? (i := 8) rfl)),
  List.forall_mem_cons.mpr ⟨sd_oLdI 28 12 4 (dk_28_0 (12, .iload 4, 2) (List.mem_of_getElem? (i := 9) rfl)),
  List.forall_mem_cons.mpr ⟨sd_oLdR_n 28 14 0 0 rfl (dk_28_0 (14, .aload_n 0, 1) (List.mem_of_getElem? (i := 10) rfl)),
  List.forall_mem_cons.mpr ⟨sd_callV 28 15 23 0 1 27 5 [] (gdV hws_28 hws_23 zw58 zw59 zw60 zw61 zw57) hws_23 rfl (by decide +kernel) rfl rfl ⟨by decide +kernel, by decide +kernel, by decide +kernel⟩ ⟨by decide, by decide⟩ (catch_nil rfl) RX4 rfl TX4 5 rfl ⟨by decide, by decide⟩ (dk_28_0 (15, .invokevirtual 27, 3) (List.mem_of_getElem? (i := 11) rfl)),
  List.forall_mem_cons.mpr ⟨sd_icmp_ge 28 18 28 46 (by decide) (dk_28_0 (18, .if_icmp .ge 28, 3) (List.mem_of_getElem? (i := 12) rfl)),
  List.forall_mem_cons.mpr ⟨sd_oLdR_n 28 21 0 0 rfl (dk_28_0 (21, .aload_n 0, 1) (List.mem_of_getElem? (i := 13) rfl)),
  List.forall_mem_cons.mpr ⟨sd_oGetR 28 22 5 0 11 RX4 TX4 5 rfl ⟨by decide, by decide⟩ rfl (by decide) rfl (fun w h => iw_28 w (uz_4 w h)) rfl (iw_28 _ zw53) (dk_28_0 (22, .getfield 11, 3) (List.mem_of_getElem? (i := 14) rfl)),
  List.forall_mem_cons.mpr ⟨sd_oLdR_n 28 25 0 0 rfl (dk_28_0 (25, .aload_n 0, 1) (List.mem_of_getElem? (i := 15) rfl)),
  List.forall_mem_cons.mpr ⟨sd_oGetI 28 26 5 4 23 RX4 TX4 5 rfl ⟨by decide, by decide⟩ rfl (by decide) rfl (fun w h => iw_28 w (uz_4 w h)) rfl (iw_28 _ zw56) (dk_28_0 (26, .getfield 23, 3) (List.mem_of_getElem? (i := 16) rfl)),
  List.forall_mem_cons.mpr ⟨sd_aaldA 28 29 (dk_28_0 (29, .aaload, 1) (List.mem_of_getElem? (i := 17) rfl)),
  List.forall_mem_cons.mpr ⟨sd_oLdI 28 30 4 (dk_28_0 (30, .iload 4, 2) (List.mem_of_getElem? (i := 18) rfl)),
  List.forall_mem_cons.mpr ⟨sd_iald 28 32 (dk_28_0 (32, .iaload, 1) (List.mem_of_getElem? (i := 19) rfl)),
  List.forall_mem_cons.mpr ⟨sd_oLdI_n 28 33 3 3 rfl (dk_28_0 (33, .iload_n 3, 1) (List.mem_of_getElem? (i := 20) rfl)),
  List.forall_mem_cons.mpr ⟨sd_icmp_ne 28 34 6 40 (by decide) (dk_28_0 (34, .if_icmp .ne 6, 3) (List.mem_of_getElem? (i := 21) rfl)),
  List.forall_mem_cons.mpr ⟨sd_oLdI 28 37 4 (dk_28_0 (37, .iload 4, 2) (List.mem_of_getElem? (i := 22) rfl)),
  List.forall_mem_cons.mpr ⟨sd_iret 28 39 rfl (dk_28_0 (39, .ireturn, 1) (List.mem_of_getElem? (i := 23) rfl)),
  List.forall_mem_cons.mpr ⟨sd_iinc 28 40 4 1 (by decide) (dk_28_0 (40, .iinc 4 1, 3) (List.mem_of_getElem? (i := 24) rfl)),
  List.forall_mem_cons.mpr ⟨sd_goto 28 43 (-31) 12 (by decide) (dk_28_0 (43, .goto (-31), 3) (List.mem_of_getElem? (i := 25) rfl)),
  List.forall_mem_cons.mpr ⟨sd_iconst 28 46 (-1) ⟨by decide, by decide⟩ (dk_28_0 (46, .iconst (-1), 1) (List.mem_of_getElem? (i := 26) rfl)),
  List.forall_mem_cons.mpr ⟨sd_iret 28 47 rfl (dk_28_0 (47, .ireturn, 1) (List.mem_of_getElem? (i := 27) rfl)),
  fun _ h => nomatch h⟩⟩⟩⟩⟩⟩⟩⟩⟩⟩⟩⟩⟩⟩⟩⟩⟩⟩⟩⟩⟩⟩⟩⟩⟩⟩⟩⟩
def tb_28 : List (List (Nat × Op1)) := [tb_28_0]
theorem sm_28 : ∀ t ∈ tb_28, ∀ q ∈ t, SM GwP MdP D A l 28 q.1 q.2 := List.forall_mem_cons.mpr ⟨sm_28_0, fun _ h => nomatch h⟩
-- 29: Marginalia$Text.hasAt(I[I)Z
def dl_29_0 : List (Nat × Instr × Nat) := [(0, .iload_n 1, 1), (1, .iconst 0, 1), (2, .aload_n 0, 1), (3, .invokevirtual 27, 3), (6, .aload_n 2, 1), (7, .arraylength, 1), (8, .isub, 1), (9, .invokestatic 31, 3), (12, .ifCond .ne 5, 3), (15, .iconst 0, 1), (16, .ireturn, 1), (17, .iconst 0, 1), (18, .istore_n 3, 1), (19, .iload_n 3, 1), (20, .aload_n 2, 1), (21, .arraylength, 1), (22, .if_icmp .ge 28, 3), (25, .aload_n 0, 1), (26, .aload_n 0, 1), (27, .getfield 23, 3), (30, .iload_n 1, 1), (31, .iload_n 3, 1), (32, .iadd, 1), (33, .invokevirtual 35, 3), (36, .aload_n 2, 1), (37, .iload_n 3, 1), (38, .iaload, 1), (39, .if_icmp .eq 5, 3), (42, .iconst 0, 1), (43, .ireturn, 1), (44, .iinc 3 1, 3), (47, .goto (-28), 3), (50, .iconst 1, 1), (51, .ireturn, 1)]
theorem dk_29_0 : ∀ q ∈ dl_29_0, decode (mCod (MdP 29)) q.1 = .ok q.2 := by
  rw [show mCod (MdP 29) = cX4_hasAt from rfl]
  decide +kernel
def tb_29_0 : List (Nat × Op1) := [(0, oLdI 1 1), (1, oCI 0 1), (2, oLdR 0 1), (3, oCallV 23 0 1 5 []), (6, oLdR 2 1), (7, oALen 10), (8, oSub), (9, oCallS 67 3 3 []), (12, oZne 17), (15, oCI 0 1), (16, oRetZ), (17, oCI 0 1), (18, oStI 3 1), (19, oLdI 3 1), (20, oLdR 2 1), (21, oALen 10), (22, oCge 50), (25, oLdR 0 1), (26, oLdR 0 1), (27, oGetI 5 4), (30, oLdI 1 1), (31, oLdI 3 1), (32, oAdd), (33, oCallV 27 2 3 5 []), (36, oLdR 2 1), (37, oLdI 3 1), (38, oALdI 10), (39, oCeq 44), (42, oCI 0 1), (43, oRetZ), (44, oInc 3 1), (47, oGoto 19), (50, oCI 1 1), (51, oRetZ)]
theorem sm_29_0 : ∀ q ∈ tb_29_0, SM GwP MdP D A l 29 q.1 q.2 :=
  List.forall_mem_cons.mpr ⟨sd_oLdI_n 29 0 1 1 rfl (dk_29_0 (0, .iload_n 1, 1) (List.mem_of_getElem? (i := 0) rfl)),
  List.forall_mem_cons.mpr ⟨sd_iconst 29 1 0 ⟨by decide, by decide⟩ (dk_29_0 (1, .iconst 0, 1) (List.mem_of_getElem? (i := 1) rfl)),
  List.forall_mem_cons.mpr ⟨sd_oLdR_n 29 2 0 0 rfl (dk_29_0 (2, .aload_n 0, 1) (List.mem_of_getElem? (i := 2) rfl)),
  List.forall_mem_cons.mpr ⟨sd_callV 29 3 23 0 1 27 5 [] (gdV hws_29 hws_23 zw58 zw59 zw60 zw61 zw57) hws_23 rfl (by decide +kernel) rfl rfl ⟨by decide +kernel, by decide +kernel, by decide +kernel⟩ ⟨by decide, by decide⟩ (catch_nil rfl) RX4 rfl TX4 5 rfl ⟨by decide, by decide⟩ (dk_29_0 (3, .invokevirtual 27, 3) (List.mem_of_getElem? (i := 3) rfl)),
  List.forall_mem_cons.mpr ⟨sd_oLdR_n 29 6 2 2 rfl (dk_29_0 (6, .aload_n 2, 1) (List.mem_of_getElem? (i := 4) rfl)),
  List.forall_mem_cons.mpr ⟨sd_alen 29 7 10 ⟨by decide, by decide⟩ (dk_29_0 (7, .arraylength, 1) (List.mem_of_getElem? (i := 5) rfl)),
  List.forall_mem_cons.mpr ⟨sd_isub 29 8 (dk_29_0 (8, .isub, 1) (List.mem_of_getElem? (i := 6) rfl)),
  List.forall_mem_cons.mpr ⟨sd_callSN 29 9 67 3 3 31 [] (gdI hws_29 hws_67 zw62) "Marginalia" (List.mem_of_getElem? (i := 0) rfl) (iw_29 _ zw63) (iw_29 _ zw64) hws_67 rfl (by decide +kernel) rfl rfl ⟨by decide +kernel, by decide +kernel, by decide +kernel⟩ ⟨by decide, by decide⟩ (catch_nil rfl) (dk_29_0 (9, .invokestatic 31, 3) (List.mem_of_getElem? (i := 7) rfl)),
  List.forall_mem_cons.mpr ⟨sd_if_ne 29 12 5 17 (by decide) (dk_29_0 (12, .ifCond .ne 5, 3) (List.mem_of_getElem? (i := 8) rfl)),
  List.forall_mem_cons.mpr ⟨sd_iconst 29 15 0 ⟨by decide, by decide⟩ (dk_29_0 (15, .iconst 0, 1) (List.mem_of_getElem? (i := 9) rfl)),
  List.forall_mem_cons.mpr ⟨sd_zret 29 16 rfl (dk_29_0 (16, .ireturn, 1) (List.mem_of_getElem? (i := 10) rfl)),
  List.forall_mem_cons.mpr ⟨sd_iconst 29 17 0 ⟨by decide, by decide⟩ (dk_29_0 (17, .iconst 0, 1) (List.mem_of_getElem? (i := 11) rfl)),
  List.forall_mem_cons.mpr ⟨sd_oStI_n 29 18 3 3 rfl (by decide) (dk_29_0 (18, .istore_n 3, 1) (List.mem_of_getElem? (i := 12) rfl)),
  List.forall_mem_cons.mpr ⟨sd_oLdI_n 29 19 3 3 rfl (dk_29_0 (19, .iload_n 3, 1) (List.mem_of_getElem? (i := 13) rfl)),
  List.forall_mem_cons.mpr ⟨sd_oLdR_n 29 20 2 2 rfl (dk_29_0 (20, .aload_n 2, 1) (List.mem_of_getElem? (i := 14) rfl)),
  List.forall_mem_cons.mpr ⟨sd_alen 29 21 10 ⟨by decide, by decide⟩ (dk_29_0 (21, .arraylength, 1) (List.mem_of_getElem? (i := 15) rfl)),
  List.forall_mem_cons.mpr ⟨sd_icmp_ge 29 22 28 50 (by decide) (dk_29_0 (22, .if_icmp .ge 28, 3) (List.mem_of_getElem? (i := 16) rfl)),
  List.forall_mem_cons.mpr ⟨sd_oLdR_n 29 25 0 0 rfl (dk_29_0 (25, .aload_n 0, 1) (List.mem_of_getElem? (i := 17) rfl)),
  List.forall_mem_cons.mpr ⟨sd_oLdR_n 29 26 0 0 rfl (dk_29_0 (26, .aload_n 0, 1) (List.mem_of_getElem? (i := 18) rfl)),
  List.forall_mem_cons.mpr ⟨sd_oGetI 29 27 5 4 23 RX4 TX4 5 rfl ⟨by decide, by decide⟩ rfl (by decide) rfl (fun w h => iw_29 w (uz_4 w h)) rfl (iw_29 _ zw56) (dk_29_0 (27, .getfield 23, 3) (List.mem_of_getElem? (i := 19) rfl)),
  List.forall_mem_cons.mpr ⟨sd_oLdI_n 29 30 1 1 rfl (dk_29_0 (30, .iload_n 1, 1) (List.mem_of_getElem? (i := 20) rfl)),
  List.forall_mem_cons.mpr ⟨sd_oLdI_n 29 31 3 3 rfl (dk_29_0 (31, .iload_n 3, 1) (List.mem_of_getElem? (i := 21) rfl)),
  List.forall_mem_cons.mpr ⟨sd_iadd 29 32 (dk_29_0 (32, .iadd, 1) (List.mem_of_getElem? (i := 22) rfl)),
  List.forall_mem_cons.mpr ⟨sd_callV 29 33 27 2 3 35 5 [] (gdV hws_29 hws_27 zw66 zw67 zw68 zw61 zw65) hws_27 rfl (by decide +kernel) rfl rfl ⟨by decide +kernel, by decide +kernel, by decide +kernel⟩ ⟨by decide, by decide⟩ (catch_nil rfl) RX4 rfl TX4 5 rfl ⟨by decide, by decide⟩ (dk_29_0 (33, .invokevirtual 35, 3) (List.mem_of_getElem? (i := 23) rfl)),
  List.forall_mem_cons.mpr ⟨sd_oLdR_n 29 36 2 2 rfl (dk_29_0 (36, .aload_n 2, 1) (List.mem_of_getElem? (i := 24) rfl)),
  List.forall_mem_cons.mpr ⟨sd_oLdI_n 29 37 3 3 rfl (dk_29_0 (37, .iload_n 3, 1) (List.mem_of_getElem? (i := 25) rfl)),
  List.forall_mem_cons.mpr ⟨sd_iald 29 38 (dk_29_0 (38, .iaload, 1) (List.mem_of_getElem? (i := 26) rfl)),
  List.forall_mem_cons.mpr ⟨sd_icmp_eq 29 39 5 44 (by decide) (dk_29_0 (39, .if_icmp .eq 5, 3) (List.mem_of_getElem? (i := 27) rfl)),
  List.forall_mem_cons.mpr ⟨sd_iconst 29 42 0 ⟨by decide, by decide⟩ (dk_29_0 (42, .iconst 0, 1) (List.mem_of_getElem? (i := 28) rfl)),
  List.forall_mem_cons.mpr ⟨sd_zret 29 43 rfl (dk_29_0 (43, .ireturn, 1) (List.mem_of_getElem? (i := 29) rfl)),
  List.forall_mem_cons.mpr ⟨sd_iinc 29 44 3 1 (by decide) (dk_29_0 (44, .iinc 3 1, 3) (List.mem_of_getElem? (i := 30) rfl)),
  List.forall_mem_cons.mpr ⟨sd_goto 29 47 (-28) 19 (by decide) (dk_29_0 (47, .goto (-28), 3) (List.mem_of_getElem? (i := 31) rfl)),
  List.forall_mem_cons.mpr ⟨sd_iconst 29 50 1 ⟨by decide, by decide⟩ (dk_29_0 (50, .iconst 1, 1) (List.mem_of_getElem? (i := 32) rfl)),
  List.forall_mem_cons.mpr ⟨sd_zret 29 51 rfl (dk_29_0 (51, .ireturn, 1) (List.mem_of_getElem? (i := 33) rfl)),
  fun _ h => nomatch h⟩⟩⟩⟩⟩⟩⟩⟩⟩⟩⟩⟩⟩⟩⟩⟩⟩⟩⟩⟩⟩⟩⟩⟩⟩⟩⟩⟩⟩⟩⟩⟩⟩⟩
def tb_29 : List (List (Nat × Op1)) := [tb_29_0]
theorem sm_29 : ∀ t ∈ tb_29, ∀ q ∈ t, SM GwP MdP D A l 29 q.1 q.2 := List.forall_mem_cons.mpr ⟨sm_29_0, fun _ h => nomatch h⟩
-- 30: Marginalia$Text.edit(IIII)V
def dl_30_0 : List (Nat × Instr × Nat) := [(0, .aload_n 0, 1), (1, .getfield 11, 3), (4, .aload_n 0, 1), (5, .getfield 23, 3), (8, .aaload, 1), (9, .astore 5, 2), (11, .aload_n 0, 1), (12, .getfield 11, 3), (15, .aload_n 0, 1), (16, .getfield 23, 3), (19, .iconst 1, 1), (20, .iadd, 1), (21, .aaload, 1), (22, .astore 6, 2), (24, .aload 5, 2), (26, .iconst 0, 1), (27, .aload 6, 2), (29, .iconst 0, 1), (30, .iload_n 1, 1), (31, .invokestatic 39, 3), (34, .iconst 0, 1), (35, .istore 7, 2), (37, .iload 7, 2), (39, .iload_n 3, 1), (40, .if_icmp .ge 47, 3), (43, .aload_n 0, 1), (44, .getfield 20, 3), (47, .aload_n 0, 1), (48, .getfield 45, 3), (51, .iload 4, 2), (53, .iload 7, 2), (55, .iadd, 1), (56, .bipush 26, 2), (58, .irem, 1), (59, .iastore, 1), (60, .aload 6, 2), (62, .iload_n 1, 1), (63, .iload 7, 2), (65, .iadd, 1), (66, .aload_n 0, 1)]
theorem dk_30_0 : ∀ q ∈ dl_30_0, decode (mCod (MdP 30)) q.1 = .ok q.2 := by
  rw [show mCod (MdP 30) = cX4_edit from rfl]
  decide +kernel
def dl_30_1 : List (Nat × Instr × Nat) := [(67, .getfield 45, 3), (70, .iastore, 1), (71, .aload_n 0, 1), (72, .dup, 1), (73, .getfield 45, 3), (76, .iconst 1, 1), (77, .iadd, 1), (78, .putfield 45, 3), (81, .iinc 7 1, 3), (84, .goto (-47), 3), (87, .aload 5, 2), (89, .iload_n 1, 1), (90, .iload_n 2, 1), (91, .iadd, 1), (92, .aload 6, 2), (94, .iload_n 1, 1), (95, .iload_n 3, 1), (96, .iadd, 1), (97, .aload_n 0, 1), (98, .invokevirtual 27, 3), (101, .iload_n 1, 1), (102, .isub, 1), (103, .iload_n 2, 1), (104, .isub, 1), (105, .invokestatic 39, 3), (108, .aload_n 0, 1), (109, .getfield 16, 3), (112, .aload_n 0, 1), (113, .getfield 23, 3), (116, .iconst 1, 1), (117, .iadd, 1), (118, .aload_n 0, 1), (119, .invokevirtual 27, 3), (122, .iload_n 2, 1), (123, .isub, 1), (124, .iload_n 3, 1), (125, .iadd, 1), (126, .iastore, 1), (127, .aload_n 0, 1), (128, .dup, 1)]
theorem dk_30_1 : ∀ q ∈ dl_30_1, decode (mCod (MdP 30)) q.1 = .ok q.2 := by
  rw [show mCod (MdP 30) = cX4_edit from rfl]
  decide +kernel
def dl_30_2 : List (Nat × Instr × Nat) := [(129, .getfield 23, 3), (132, .iconst 1, 1), (133, .iadd, 1), (134, .putfield 23, 3), (137, .return_, 1)]
theorem dk_30_2 : ∀ q ∈ dl_30_2, decode (mCod (MdP 30)) q.1 = .ok q.2 := by
  rw [show mCod (MdP 30) = cX4_edit from rfl]
  decide +kernel
def tb_30_0 : List (Nat × Op1) := [(0, oLdR 0 1), (1, oGetR 5 0), (4, oLdR 0 1), (5, oGetI 5 4), (8, oALdR 14), (9, oStR 5 2), (11, oLdR 0 1), (12, oGetR 5 0), (15, oLdR 0 1), (16, oGetI 5 4), (19, oCI 1 1), (20, oAdd), (21, oALdR 14), (22, oStR 6 2), (24, oLdR 5 2), (26, oCI 0 1), (27, oLdR 6 2), (29, oCI 0 1), (30, oLdI 1 1), (31, oCpy), (34, oCI 0 1), (35, oStI 7 2), (37, oLdI 7 2), (39, oLdI 3 1), (40, oCge 87), (43, oLdR 0 1), (44, oGetR 5 2), (47, oLdR 0 1), (48, oGetI 5 3), (51, oLdI 4 2), (53, oLdI 7 2), (55, oAdd), (56, oCI 26 2), (58, oRem), (59, oAStI), (60, oLdR 6 2), (62, oLdI 1 1), (63, oLdI 7 2)]
theorem sm_30_0 : ∀ q ∈ tb_30_0, SM GwP MdP D A l 30 q.1 q.2 :=
  List.forall_mem_cons.mpr ⟨sd_oLdR_n 30 0 0 0 rfl (dk_30_0 (0, .aload_n 0, 1) (List.mem_of_getElem? (i := 0) rfl)),
  List.forall_mem_cons.mpr ⟨sd_oGetR 30 1 5 0 11 RX4 TX4 5 rfl ⟨by decide, by decide⟩ rfl (by decide) rfl (fun w h => iw_30 w (uz_4 w h)) rfl (iw_30 _ zw53) (dk_30_0 (1, .getfield 11, 3) (List.mem_of_getElem? (i := 1) rfl)),
  List.forall_mem_cons.mpr ⟨sd_oLdR_n 30 4 0 0 rfl (dk_30_0 (4, .aload_n 0, 1) (List.mem_of_getElem? (i := 2) rfl)),
  List.forall_mem_cons.mpr ⟨sd_oGetI 30 5 5 4 23 RX4 TX4 5 rfl ⟨by decide, by decide⟩ rfl (by decide) rfl (fun w h => iw_30 w (uz_4 w h)) rfl (iw_30 _ zw56) (dk_30_0 (5, .getfield 23, 3) (List.mem_of_getElem? (i := 3) rfl)),
  List.forall_mem_cons.mpr ⟨sd_aaldA 30 8 (dk_30_0 (8, .aaload, 1) (List.mem_of_getElem? (i := 4) rfl)),
  List.forall_mem_cons.mpr ⟨sd_oStR 30 9 5 (by decide) (dk_30_0 (9, .astore 5, 2) (List.mem_of_getElem? (i := 5) rfl)),
  List.forall_mem_cons.mpr ⟨sd_oLdR_n 30 11 0 0 rfl (dk_30_0 (11, .aload_n 0, 1) (List.mem_of_getElem? (i := 6) rfl)),
  List.forall_mem_cons.mpr ⟨sd_oGetR 30 12 5 0 11 RX4 TX4 5 rfl ⟨by decide, by decide⟩ rfl (by decide) rfl (fun w h => iw_30 w (uz_4 w h)) rfl (iw_30 _ zw53) (dk_30_0 (12, .getfield 11, 3) (List.mem_of_getElem? (i := 7) rfl)),
  List.forall_mem_cons.mpr ⟨sd_oLdR_n 30 15 0 0 rfl (dk_30_0 (15, .aload_n 0, 1) (List.mem_of_getElem? (i := 8) rfl)),
  List.forall_mem_cons.mpr ⟨sd_oGetI 30 16 5 4 23 RX4 TX4 5 rfl ⟨by decide, by decide⟩ rfl (by decide) rfl (fun w h => iw_30 w (uz_4 w h)) rfl (iw_30 _ zw56) (dk_30_0 (16, .getfield 23, 3) (List.mem_of_getElem? (i := 9) rfl)),
  List.forall_mem_cons.mpr ⟨sd_iconst 30 19 1 ⟨by decide, by decide⟩ (dk_30_0 (19, .iconst 1, 1) (List.mem_of_getElem? (i := 10) rfl)),
  List.forall_mem_cons.mpr ⟨sd_iadd 30 20 (dk_30_0 (20, .iadd, 1) (List.mem_of_getElem? (i := 11) rfl)),
  List.forall_mem_cons.mpr ⟨sd_aaldA 30 21 (dk_30_0 (21, .aaload, 1) (List.mem_of_getElem? (i := 12) rfl)),
  List.forall_mem_cons.mpr ⟨sd_oStR 30 22 6 (by decide) (dk_30_0 (22, .astore 6, 2) (List.mem_of_getElem? (i := 13) rfl)),
  List.forall_mem_cons.mpr ⟨sd_oLdR 30 24 5 (dk_30_0 (24, .aload 5, 2) (List.mem_of_getElem? (i := 14) rfl)),
  List.forall_mem_cons.mpr ⟨sd_iconst 30 26 0 ⟨by decide, by decide⟩ (dk_30_0 (26, .iconst 0, 1) (List.mem_of_getElem? (i := 15) rfl)),
  List.forall_mem_cons.mpr ⟨sd_oLdR 30 27 6 (dk_30_0 (27, .aload 6, 2) (List.mem_of_getElem? (i := 16) rfl)),
  List.forall_mem_cons.mpr ⟨sd_iconst 30 29 0 ⟨by decide, by decide⟩ (dk_30_0 (29, .iconst 0, 1) (List.mem_of_getElem? (i := 17) rfl)),
  List.forall_mem_cons.mpr ⟨sd_oLdI_n 30 30 1 1 rfl (dk_30_0 (30, .iload_n 1, 1) (List.mem_of_getElem? (i := 18) rfl)),
  List.forall_mem_cons.mpr ⟨sd_cpy 30 31 39 (iw_30 _ zw69) (iw_30 _ zw70) (iw_30 _ zw71) (iw_30 _ zw72) (by decide) (by decide) (dk_30_0 (31, .invokestatic 39, 3) (List.mem_of_getElem? (i := 19) rfl)),
  List.forall_mem_cons.mpr ⟨sd_iconst 30 34 0 ⟨by decide, by decide⟩ (dk_30_0 (34, .iconst 0, 1) (List.mem_of_getElem? (i := 20) rfl)),
  List.forall_mem_cons.mpr ⟨sd_oStI 30 35 7 (by decide) (dk_30_0 (35, .istore 7, 2) (List.mem_of_getElem? (i := 21) rfl)),
  List.forall_mem_cons.mpr ⟨sd_oLdI 30 37 7 (dk_30_0 (37, .iload 7, 2) (List.mem_of_getElem? (i := 22) rfl)),
  List.forall_mem_cons.mpr ⟨sd_oLdI_n 30 39 3 3 rfl (dk_30_0 (39, .iload_n 3, 1) (List.mem_of_getElem? (i := 23) rfl)),
  List.forall_mem_cons.mpr ⟨sd_icmp_ge 30 40 47 87 (by decide) (dk_30_0 (40, .if_icmp .ge 47, 3) (List.mem_of_getElem? (i := 24) rfl)),
  List.forall_mem_cons.mpr ⟨sd_oLdR_n 30 43 0 0 rfl (dk_30_0 (43, .aload_n 0, 1) (List.mem_of_getElem? (i := 25) rfl)),
  List.forall_mem_cons.mpr ⟨sd_oGetR 30 44 5 2 20 RX4 TX4 5 rfl ⟨by decide, by decide⟩ rfl (by decide) rfl (fun w h => iw_30 w (uz_4 w h)) rfl (iw_30 _ zw55) (dk_30_0 (44, .getfield 20, 3) (List.mem_of_getElem? (i := 26) rfl)),
  List.forall_mem_cons.mpr ⟨sd_oLdR_n 30 47 0 0 rfl (dk_30_0 (47, .aload_n 0, 1) (List.mem_of_getElem? (i := 27) rfl)),
  List.forall_mem_cons.mpr ⟨sd_oGetI 30 48 5 3 45 RX4 TX4 5 rfl ⟨by decide, by decide⟩ rfl (by decide) rfl (fun w h => iw_30 w (uz_4 w h)) rfl (iw_30 _ zw73) (dk_30_0 (48, .getfield 45, 3) (List.mem_of_getElem? (i := 28) rfl)),
  List.forall_mem_cons.mpr ⟨sd_oLdI 30 51 4 (dk_30_0 (51, .iload 4, 2) (List.mem_of_getElem? (i := 29) rfl)),
  List.forall_mem_cons.mpr ⟨sd_oLdI 30 53 7 (dk_30_0 (53, .iload 7, 2) (List.mem_of_getElem? (i := 30) rfl)),
  List.forall_mem_cons.mpr ⟨sd_iadd 30 55 (dk_30_0 (55, .iadd, 1) (List.mem_of_getElem? (i := 31) rfl)),
  List.forall_mem_cons.mpr ⟨sd_bipush 30 56 26 ⟨by decide, by decide⟩ (by decide) (dk_30_0 (56, .bipush 26, 2) (List.mem_of_getElem? (i := 32) rfl)),
  List.forall_mem_cons.mpr ⟨sd_irem 30 58 (dk_30_0 (58, .irem, 1) (List.mem_of_getElem? (i := 33) rfl)),
  List.forall_mem_cons.mpr ⟨sd_iast 30 59 (dk_30_0 (59, .iastore, 1) (List.mem_of_getElem? (i := 34) rfl)),
  List.forall_mem_cons.mpr ⟨sd_oLdR 30 60 6 (dk_30_0 (60, .aload 6, 2) (List.mem_of_getElem? (i := 35) rfl)),
  List.forall_mem_cons.mpr ⟨sd_oLdI_n 30 62 1 1 rfl (dk_30_0 (62, .iload_n 1, 1) (List.mem_of_getElem? (i := 36) rfl)),
  List.forall_mem_cons.mpr ⟨sd_oLdI 30 63 7 (dk_30_0 (63, .iload 7, 2) (List.mem_of_getElem? (i := 37) rfl)),
  fun _ h => nomatch h⟩⟩⟩⟩⟩⟩⟩⟩⟩⟩⟩⟩⟩⟩⟩⟩⟩⟩⟩⟩⟩⟩⟩⟩⟩⟩⟩⟩⟩⟩⟩⟩⟩⟩⟩⟩⟩⟩
def tb_30_1 : List (Nat × Op1) := [(65, oAdd), (66, oLdR 0 1), (67, oGetI 5 3), (70, oAStI), (71, oLdR 0 1), (72, oDup), (73, oGetI 5 3), (76, oCI 1 1), (77, oAdd), (78, oPutI 5 3), (81, oInc 7 1), (84, oGoto 37), (87, oLdR 5 2), (89, oLdI 1 1), (90, oLdI 2 1), (91, oAdd), (92, oLdR 6 2), (94, oLdI 1 1), (95, oLdI 3 1), (96, oAdd), (97, oLdR 0 1), (98, oCallV 23 0 1 5 []), (101, oLdI 1 1), (102, oSub), (103, oLdI 2 1), (104, oSub), (105, oCpy), (108, oLdR 0 1), (109, oGetR 5 1), (112, oLdR 0 1), (113, oGetI 5 4), (116, oCI 1 1), (117, oAdd), (118, oLdR 0 1), (119, oCallV 23 0 1 5 []), (122, oLdI 2 1), (123, oSub), (124, oLdI 3 1), (125, oAdd), (126, oAStI), (127, oLdR 0 1)]
theorem sm_30_1 : ∀ q ∈ tb_30_1, SM GwP MdP D A l 30 q.1 q.2 :=
  List.forall_mem_cons.mpr ⟨sd_iadd 30 65 (dk_30_0 (65, .iadd, 1) (List.mem_of_getElem? (i := 38) rfl)),
  List.forall_mem_cons.mpr ⟨sd_oLdR_n 30 66 0 0 rfl (dk_30_0 (66, .aload_n 0, 1) (List.mem_of_getElem? (i := 39) rfl)),
  List.forall_mem_cons.mpr ⟨sd_oGetI 30 67 5 3 45 RX4 TX4 5 rfl ⟨by decide, by decide⟩ rfl (by decide) rfl (fun w h => iw_30 w (uz_4 w h)) rfl (iw_30 _ zw73) (dk_30_1 (67, .getfield 45, 3) (List.mem_of_getElem? (i := 0) rfl)),
  List.forall_mem_cons.mpr ⟨sd_iast 30 70 (dk_30_1 (70, .iastore, 1) (List.mem_of_getElem? (i := 1) rfl)),
  List.forall_mem_cons.mpr ⟨sd_oLdR_n 30 71 0 0 rfl (dk_30_1 (71, .aload_n 0, 1) (List.mem_of_getElem? (i := 2) rfl)),
  List.forall_mem_cons.mpr ⟨sd_dup 30 72 (dk_30_1 (72, .dup, 1) (List.mem_of_getElem? (i := 3) rfl)),
  List.forall_mem_cons.mpr ⟨sd_oGetI 30 73 5 3 45 RX4 TX4 5 rfl ⟨by decide, by decide⟩ rfl (by decide) rfl (fun w h => iw_30 w (uz_4 w h)) rfl (iw_30 _ zw73) (dk_30_1 (73, .getfield 45, 3) (List.mem_of_getElem? (i := 4) rfl)),
  List.forall_mem_cons.mpr ⟨sd_iconst 30 76 1 ⟨by decide, by decide⟩ (dk_30_1 (76, .iconst 1, 1) (List.mem_of_getElem? (i := 5) rfl)),
  List.forall_mem_cons.mpr ⟨sd_iadd 30 77 (dk_30_1 (77, .iadd, 1) (List.mem_of_getElem? (i := 6) rfl)),
  List.forall_mem_cons.mpr ⟨sd_oPutI 30 78 5 3 45 RX4 TX4 5 rfl ⟨by decide, by decide⟩ rfl (by decide) rfl (fun w h => iw_30 w (uz_4 w h)) rfl tyX4 tyX4_ok nmX4 rfl rfl (iw_30 _ zw73) (dk_30_1 (78, .putfield 45, 3) (List.mem_of_getElem? (i := 7) rfl)),
  List.forall_mem_cons.mpr ⟨sd_iinc 30 81 7 1 (by decide) (dk_30_1 (81, .iinc 7 1, 3) (List.mem_of_getElem? (i := 8) rfl)),
  List.forall_mem_cons.mpr ⟨sd_goto 30 84 (-47) 37 (by decide) (dk_30_1 (84, .goto (-47), 3) (List.mem_of_getElem? (i := 9) rfl)),
  List.forall_mem_cons.mpr ⟨sd_oLdR 30 87 5 (dk_30_1 (87, .aload 5, 2) (List.mem_of_getElem? (i := 10) rfl)),
  List.forall_mem_cons.mpr ⟨sd_oLdI_n 30 89 1 1 rfl (dk_30_1 (89, .iload_n 1, 1) (List.mem_of_getElem? (i := 11) rfl)),
  List.forall_mem_cons.mpr ⟨sd_oLdI_n 30 90 2 2 rfl (dk_30_1 (90, .iload_n 2, 1) (List.mem_of_getElem? (i := 12) rfl)),
  List.forall_mem_cons.mpr ⟨sd_iadd 30 91 (dk_30_1 (91, .iadd, 1) (List.mem_of_getElem? (i := 13) rfl)),
  List.forall_mem_cons.mpr ⟨sd_oLdR 30 92 6 (dk_30_1 (92, .aload 6, 2) (List.mem_of_getElem? (i := 14) rfl)),
  List.forall_mem_cons.mpr ⟨sd_oLdI_n 30 94 1 1 rfl (dk_30_1 (94, .iload_n 1, 1) (List.mem_of_getElem? (i := 15) rfl)),
  List.forall_mem_cons.mpr ⟨sd_oLdI_n 30 95 3 3 rfl (dk_30_1 (95, .iload_n 3, 1) (List.mem_of_getElem? (i := 16) rfl)),
  List.forall_mem_cons.mpr ⟨sd_iadd 30 96 (dk_30_1 (96, .iadd, 1) (List.mem_of_getElem? (i := 17) rfl)),
  List.forall_mem_cons.mpr ⟨sd_oLdR_n 30 97 0 0 rfl (dk_30_1 (97, .aload_n 0, 1) (List.mem_of_getElem? (i := 18) rfl)),
  List.forall_mem_cons.mpr ⟨sd_callV 30 98 23 0 1 27 5 [] (gdV hws_30 hws_23 zw58 zw59 zw60 zw61 zw57) hws_23 rfl (by decide +kernel) rfl rfl ⟨by decide +kernel, by decide +kernel, by decide +kernel⟩ ⟨by decide, by decide⟩ (catch_nil rfl) RX4 rfl TX4 5 rfl ⟨by decide, by decide⟩ (dk_30_1 (98, .invokevirtual 27, 3) (List.mem_of_getElem? (i := 19) rfl)),
  List.forall_mem_cons.mpr ⟨sd_oLdI_n 30 101 1 1 rfl (dk_30_1 (101, .iload_n 1, 1) (List.mem_of_getElem? (i := 20) rfl)),
  List.forall_mem_cons.mpr ⟨sd_isub 30 102 (dk_30_1 (102, .isub, 1) (List.mem_of_getElem? (i := 21) rfl)),
  List.forall_mem_cons.mpr ⟨sd_oLdI_n 30 103 2 2 rfl (dk_30_1 (103, .iload_n 2, 1) (List.mem_of_getElem? (i := 22) rfl)),
  List.forall_mem_cons.mpr ⟨sd_isub 30 104 (dk_30_1 (104, .isub, 1) (List.mem_of_getElem? (i := 23) rfl)),
  List.forall_mem_cons.mpr ⟨sd_cpy 30 105 39 (iw_30 _ zw69) (iw_30 _ zw70) (iw_30 _ zw71) (iw_30 _ zw72) (by decide) (by decide) (dk_30_1 (105, .invokestatic 39, 3) (List.mem_of_getElem? (i := 24) rfl)),
  List.forall_mem_cons.mpr ⟨sd_oLdR_n 30 108 0 0 rfl (dk_30_1 (108, .aload_n 0, 1) (List.mem_of_getElem? (i := 25) rfl)),
  List.forall_mem_cons.mpr ⟨sd_oGetR 30 109 5 1 16 RX4 TX4 5 rfl ⟨by decide, by decide⟩ rfl (by decide) rfl (fun w h => iw_30 w (uz_4 w h)) rfl (iw_30 _ zw54) (dk_30_1 (109, .getfield 16, 3) (List.mem_of_getElem? (i := 26) rfl)),
  List.forall_mem_cons.mpr ⟨sd_oLdR_n 30 112 0 0 rfl (dk_30_1 (112, .aload_n 0, 1) (List.mem_of_getElem? (i := 27) rfl)),
  List.forall_mem_cons.mpr ⟨sd_oGetI 30 113 5 4 23 RX4 TX4 5 rfl ⟨by decide, by decide⟩ rfl (by decide) rfl (fun w h => iw_30 w (uz_4 w h)) rfl (iw_30 _ zw56) (dk_30_1 (113, .getfield 23, 3) (List.mem_of_getElem? (i := 28) rfl)),
  List.forall_mem_cons.mpr ⟨sd_iconst 30 116 1 ⟨by decide, by decide⟩ (dk_30_1 (116, .iconst 1, 1) (List.mem_of_getElem? (i := 29) rfl)),
  List.forall_mem_cons.mpr ⟨sd_iadd 30 117 (dk_30_1 (117, .iadd, 1) (List.mem_of_getElem? (i := 30) rfl)),
  List.forall_mem_cons.mpr ⟨sd_oLdR_n 30 118 0 0 rfl (dk_30_1 (118, .aload_n 0, 1) (List.mem_of_getElem? (i := 31) rfl)),
  List.forall_mem_cons.mpr ⟨sd_callV 30 119 23 0 1 27 5 [] (gdV hws_30 hws_23 zw58 zw59 zw60 zw61 zw57) hws_23 rfl (by decide +kernel) rfl rfl ⟨by decide +kernel, by decide +kernel, by decide +kernel⟩ ⟨by decide, by decide⟩ (catch_nil rfl) RX4 rfl TX4 5 rfl ⟨by decide, by decide⟩ (dk_30_1 (119, .invokevirtual 27, 3) (List.mem_of_getElem? (i := 32) rfl)),
  List.forall_mem_cons.mpr ⟨sd_oLdI_n 30 122 2 2 rfl (dk_30_1 (122, .iload_n 2, 1) (List.mem_of_getElem? (i := 33) rfl)),
  List.forall_mem_cons.mpr ⟨sd_isub 30 123 (dk_30_1 (123, .isub, 1) (List.mem_of_getElem? (i := 34) rfl)),
  List.forall_mem_cons.mpr ⟨sd_oLdI_n 30 124 3 3 rfl (dk_30_1 (124, .iload_n 3, 1) (List.mem_of_getElem? (i := 35) rfl)),
  List.forall_mem_cons.mpr ⟨sd_iadd 30 125 (dk_30_1 (125, .iadd, 1) (List.mem_of_getElem? (i := 36) rfl)),
  List.forall_mem_cons.mpr ⟨sd_iast 30 126 (dk_30_1 (126, .iastore, 1) (List.mem_of_getElem? (i := 37) rfl)),
  List.forall_mem_cons.mpr ⟨sd_oLdR_n 30 127 0 0 rfl (dk_30_1 (127, .aload_n 0, 1) (List.mem_of_getElem? (i := 38) rfl)),
  fun _ h => nomatch h⟩⟩⟩⟩⟩⟩⟩⟩⟩⟩⟩⟩⟩⟩⟩⟩⟩⟩⟩⟩⟩⟩⟩⟩⟩⟩⟩⟩⟩⟩⟩⟩⟩⟩⟩⟩⟩⟩⟩⟩⟩
def tb_30_2 : List (Nat × Op1) := [(128, oDup), (129, oGetI 5 4), (132, oCI 1 1), (133, oAdd), (134, oPutI 5 4), (137, oRetV)]
theorem sm_30_2 : ∀ q ∈ tb_30_2, SM GwP MdP D A l 30 q.1 q.2 :=
  List.forall_mem_cons.mpr ⟨sd_dup 30 128 (dk_30_1 (128, .dup, 1) (List.mem_of_getElem? (i := 39) rfl)),
  List.forall_mem_cons.mpr ⟨sd_oGetI 30 129 5 4 23 RX4 TX4 5 rfl ⟨by decide, by decide⟩ rfl (by decide) rfl (fun w h => iw_30 w (uz_4 w h)) rfl (iw_30 _ zw56) (dk_30_2 (129, .getfield 23, 3) (List.mem_of_getElem? (i := 0) rfl)),
  List.forall_mem_cons.mpr ⟨sd_iconst 30 132 1 ⟨by decide, by decide⟩ (dk_30_2 (132, .iconst 1, 1) (List.mem_of_getElem? (i := 1) rfl)),
  List.forall_mem_cons.mpr ⟨sd_iadd 30 133 (dk_30_2 (133, .iadd, 1) (List.mem_of_getElem? (i := 2) rfl)),
  List.forall_mem_cons.mpr ⟨sd_oPutI 30 134 5 4 23 RX4 TX4 5 rfl ⟨by decide, by decide⟩ rfl (by decide) rfl (fun w h => iw_30 w (uz_4 w h)) rfl tyX4 tyX4_ok nmX4 rfl rfl (iw_30 _ zw56) (dk_30_2 (134, .putfield 23, 3) (List.mem_of_getElem? (i := 3) rfl)),
  List.forall_mem_cons.mpr ⟨sd_vret 30 137 rfl (dk_30_2 (137, .return_, 1) (List.mem_of_getElem? (i := 4) rfl)),
  fun _ h => nomatch h⟩⟩⟩⟩⟩⟩
def tb_30 : List (List (Nat × Op1)) := [tb_30_0, tb_30_1, tb_30_2]
theorem sm_30 : ∀ t ∈ tb_30, ∀ q ∈ t, SM GwP MdP D A l 30 q.1 q.2 := List.forall_mem_cons.mpr ⟨sm_30_0, List.forall_mem_cons.mpr ⟨sm_30_1, List.forall_mem_cons.mpr ⟨sm_30_2, fun _ h => nomatch h⟩⟩⟩
end
