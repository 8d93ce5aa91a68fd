section
variable {D : va_G} {A : Nat → Prop} {l : Launch}
-- 31: Marginalia.<init>()V
def dl_31_0 : List (Nat × Instr × Nat) := [(0, .aload_n 0, 1), (1, .invokespecial 1, 3), (4, .aload_n 0, 1), (5, .bipush 6, 2), (7, .newarray .int, 2), (9, .putfield 9, 3), (12, .aload_n 0, 1), (13, .new 13, 3), (16, .dup, 1), (17, .invokespecial 15, 3), (20, .putfield 16, 3), (23, .aload_n 0, 1), (24, .bipush 60, 2), (26, .anewarray 20, 3), (29, .putfield 22, 3), (32, .aload_n 0, 1), (33, .bipush 60, 2), (35, .anewarray 20, 3), (38, .putfield 26, 3), (41, .aload_n 0, 1), (42, .new 29, 3), (45, .dup, 1), (46, .invokespecial 31, 3), (49, .putfield 32, 3), (52, .return_, 1)]
theorem dk_31_0 : ∀ q ∈ dl_31_0, decode (mCod (MdP 31)) q.1 = .ok q.2 := by
  rw [show mCod (MdP 31) = cX5_init from rfl]
  decide +kernel
def tb_31_0 : List (Nat × Op1) := [(0, oLdR 0 1), (1, oObj), (4, oLdR 0 1), (5, oCI 6 2), (7, oNewA 10 2), (9, oPutR 6 0), (12, oLdR 0 1), (13, oNew 5 5), (16, oDup), (17, oCallV 22 0 1 5 []), (20, oPutR 6 1), (23, oLdR 0 1), (24, oCI 60 2), (26, oNewA 13 3), (29, oPutR 6 2), (32, oLdR 0 1), (33, oCI 60 2), (35, oNewA 13 3), (38, oPutR 6 3), (41, oLdR 0 1), (42, oNew 2 2), (45, oDup), (46, oCallV 10 0 1 2 []), (49, oPutR 6 4), (52, oRetV)]
theorem sm_31_0 : ∀ q ∈ tb_31_0, SM GwP MdP D A l 31 q.1 q.2 :=
  List.forall_mem_cons.mpr ⟨sd_oLdR_n 31 0 0 0 rfl (dk_31_0 (0, .aload_n 0, 1) (List.mem_of_getElem? (i := 0) rfl)),
  List.forall_mem_cons.mpr ⟨sd_obj 31 1 1 (iw_31 _ zw74) (iw_31 _ zw1) (iw_31 _ zw2) (by decide) (by decide) (dk_31_0 (1, .invokespecial 1, 3) (List.mem_of_getElem? (i := 1) rfl)),
  List.forall_mem_cons.mpr ⟨sd_oLdR_n 31 4 0 0 rfl (dk_31_0 (4, .aload_n 0, 1) (List.mem_of_getElem? (i := 2) rfl)),
  List.forall_mem_cons.mpr ⟨sd_bipush 31 5 6 ⟨by decide, by decide⟩ (by decide) (dk_31_0 (5, .bipush 6, 2) (List.mem_of_getElem? (i := 3) rfl)),
  List.forall_mem_cons.mpr ⟨sd_newA 31 7 10 .int (Or.inl ⟨rfl, rfl⟩) (iw_31 _ zw22) (dk_31_0 (7, .newarray .int, 2) (List.mem_of_getElem? (i := 4) rfl)),
  List.forall_mem_cons.mpr ⟨sd_oPutRF 31 9 6 0 9 RX5 TX5 7 rfl ⟨by decide, by decide⟩ rfl (by decide) rfl (fun w h => iw_31 w (uz_5 w h)) rfl tyX5 tyX5_ok nmX5 (Or.inr ⟨_, rfl⟩) rfl rfl rfl (iw_31 _ zw75) (dk_31_0 (9, .putfield 9, 3) (List.mem_of_getElem? (i := 5) rfl)),
  List.forall_mem_cons.mpr ⟨sd_oLdR_n 31 12 0 0 rfl (dk_31_0 (12, .aload_n 0, 1) (List.mem_of_getElem? (i := 6) rfl)),
  List.forall_mem_cons.mpr ⟨sd_new 31 13 5 13 RX4 TX4 5 rfl ⟨by decide, by decide⟩ rfl (fun w h => iw_31 w (uz_4 w h)) tyX4 tyX4_ok df_4 (iw_31 _ zw76) (iw_31 _ zw77) (iw_31 _ zw61) (by decide) (dk_31_0 (13, .new 13, 3) (List.mem_of_getElem? (i := 7) rfl)),
  List.forall_mem_cons.mpr ⟨sd_dup 31 16 (dk_31_0 (16, .dup, 1) (List.mem_of_getElem? (i := 8) rfl)),
  List.forall_mem_cons.mpr ⟨sd_callI 31 17 22 0 1 15 5 [] (gdI hws_31 hws_22 zw78) rfl (iw_31 _ zw61) (iw_31 _ zw79) (iw_31 _ zw80) rfl hws_22 rfl (by decide +kernel) rfl rfl ⟨by decide +kernel, by decide +kernel, by decide +kernel⟩ ⟨by decide, by decide⟩ (catch_nil rfl) RX4 TX4 5 rfl ⟨by decide, by decide⟩ (dk_31_0 (17, .invokespecial 15, 3) (List.mem_of_getElem? (i := 9) rfl)),
  List.forall_mem_cons.mpr ⟨sd_oPutRF 31 20 6 1 16 RX5 TX5 7 rfl ⟨by decide, by decide⟩ rfl (by decide) rfl (fun w h => iw_31 w (uz_5 w h)) rfl tyX5 tyX5_ok nmX5 (Or.inl ⟨_, rfl⟩) rfl rfl rfl (iw_31 _ zw81) (dk_31_0 (20, .putfield 16, 3) (List.mem_of_getElem? (i := 10) rfl)),
  List.forall_mem_cons.mpr ⟨sd_oLdR_n 31 23 0 0 rfl (dk_31_0 (23, .aload_n 0, 1) (List.mem_of_getElem? (i := 11) rfl)),
  List.forall_mem_cons.mpr ⟨sd_bipush 31 24 60 ⟨by decide, by decide⟩ (by decide) (dk_31_0 (24, .bipush 60, 2) (List.mem_of_getElem? (i := 12) rfl)),
  List.forall_mem_cons.mpr ⟨sd_newR 31 26 13 20 RX2 (Or.inl ⟨rfl, rfl⟩) (iw_31 _ zw82) (dk_31_0 (26, .anewarray 20, 3) (List.mem_of_getElem? (i := 13) rfl)),
  List.forall_mem_cons.mpr ⟨sd_oPutRF 31 29 6 2 22 RX5 TX5 7 rfl ⟨by decide, by decide⟩ rfl (by decide) rfl (fun w h => iw_31 w (uz_5 w h)) rfl tyX5 tyX5_ok nmX5 (Or.inr ⟨_, rfl⟩) rfl rfl rfl (iw_31 _ zw83) (dk_31_0 (29, .putfield 22, 3) (List.mem_of_getElem? (i := 14) rfl)),
  List.forall_mem_cons.mpr ⟨sd_oLdR_n 31 32 0 0 rfl (dk_31_0 (32, .aload_n 0, 1) (List.mem_of_getElem? (i := 15) rfl)),
  List.forall_mem_cons.mpr ⟨sd_bipush 31 33 60 ⟨by decide, by decide⟩ (by decide) (dk_31_0 (33, .bipush 60, 2) (List.mem_of_getElem? (i := 16) rfl)),
  List.forall_mem_cons.mpr ⟨sd_newR 31 35 13 20 RX2 (Or.inl ⟨rfl, rfl⟩) (iw_31 _ zw82) (dk_31_0 (35, .anewarray 20, 3) (List.mem_of_getElem? (i := 17) rfl)),
  List.forall_mem_cons.mpr ⟨sd_oPutRF 31 38 6 3 26 RX5 TX5 7 rfl ⟨by decide, by decide⟩ rfl (by decide) rfl (fun w h => iw_31 w (uz_5 w h)) rfl tyX5 tyX5_ok nmX5 (Or.inr ⟨_, rfl⟩) rfl rfl rfl (iw_31 _ zw84) (dk_31_0 (38, .putfield 26, 3) (List.mem_of_getElem? (i := 18) rfl)),
  List.forall_mem_cons.mpr ⟨sd_oLdR_n 31 41 0 0 rfl (dk_31_0 (41, .aload_n 0, 1) (List.mem_of_getElem? (i := 19) rfl)),
  List.forall_mem_cons.mpr ⟨sd_new 31 42 2 29 RX1 TX1 2 rfl ⟨by decide, by decide⟩ rfl (fun w h => iw_31 w (uz_1 w h)) tyX1 tyX1_ok df_1 (iw_31 _ zw85) (iw_31 _ zw86) (iw_31 _ zw87) (by decide) (dk_31_0 (42, .new 29, 3) (List.mem_of_getElem? (i := 20) rfl)),
  List.forall_mem_cons.mpr ⟨sd_dup 31 45 (dk_31_0 (45, .dup, 1) (List.mem_of_getElem? (i := 21) rfl)),
  List.forall_mem_cons.mpr ⟨sd_callI 31 46 10 0 1 31 2 [] (gdI hws_31 hws_10 zw88) rfl (iw_31 _ zw87) (iw_31 _ zw89) (iw_31 _ zw90) rfl hws_10 rfl (by decide +kernel) rfl rfl ⟨by decide +kernel, by decide +kernel, by decide +kernel⟩ ⟨by decide, by decide⟩ (catch_nil rfl) RX1 TX1 2 rfl ⟨by decide, by decide⟩ (dk_31_0 (46, .invokespecial 31, 3) (List.mem_of_getElem? (i := 22) rfl)),
  List.forall_mem_cons.mpr ⟨sd_oPutRF 31 49 6 4 32 RX5 TX5 7 rfl ⟨by decide, by decide⟩ rfl (by decide) rfl (fun w h => iw_31 w (uz_5 w h)) rfl tyX5 tyX5_ok nmX5 (Or.inl ⟨_, rfl⟩) rfl rfl rfl (iw_31 _ zw91) (dk_31_0 (49, .putfield 32, 3) (List.mem_of_getElem? (i := 23) rfl)),
  List.forall_mem_cons.mpr ⟨sd_vret 31 52 rfl (dk_31_0 (52, .return_, 1) (List.mem_of_getElem? (i := 24) rfl)),
  fun _ h => nomatch h⟩⟩⟩⟩⟩⟩⟩⟩⟩⟩⟩⟩⟩⟩⟩⟩⟩⟩⟩⟩⟩⟩⟩⟩⟩
def tb_31 : List (List (Nat × Op1)) := [tb_31_0]
theorem sm_31 : ∀ t ∈ tb_31, ∀ q ∈ t, SM GwP MdP D A l 31 q.1 q.2 := List.forall_mem_cons.mpr ⟨sm_31_0, fun _ h => nomatch h⟩
-- 32: Marginalia.user(I)I
def dl_32_0 : List (Nat × Instr × Nat) := [(0, .iload_n 1, 1), (1, .invokestatic 36, 3), (4, .invokestatic 40, 3), (7, .aload_n 0, 1), (8, .getfield 44, 3), (11, .bipush 6, 2), (13, .if_icmp .ge 7, 3), (16, .iconst 1, 1), (17, .goto 4, 3), (20, .iconst 0, 1), (21, .invokestatic 48, 3), (24, .aload_n 0, 1), (25, .getfield 9, 3), (28, .aload_n 0, 1), (29, .getfield 44, 3), (32, .iload_n 1, 1), (33, .iastore, 1), (34, .aload_n 0, 1), (35, .dup, 1), (36, .getfield 44, 3), (39, .iconst 1, 1), (40, .iadd, 1), (41, .putfield 44, 3), (44, .aload_n 0, 1), (45, .getfield 44, 3), (48, .iconst 1, 1), (49, .isub, 1), (50, .ireturn, 1)]
theorem dk_32_0 : ∀ q ∈ dl_32_0, decode (mCod (MdP 32)) q.1 = .ok q.2 := by
  rw [show mCod (MdP 32) = cX5_user from rfl]
  decide +kernel
def tb_32_0 : List (Nat × Op1) := [(0, oLdI 1 1), (1, oCallS 68 1 1 []), (4, oCallS 65 1 1 []), (7, oLdR 0 1), (8, oGetI 6 5), (11, oCI 6 2), (13, oCge 20), (16, oCI 1 1), (17, oGoto 21), (20, oCI 0 1), (21, oCallS 66 1 1 []), (24, oLdR 0 1), (25, oGetR 6 0), (28, oLdR 0 1), (29, oGetI 6 5), (32, oLdI 1 1), (33, oAStI), (34, oLdR 0 1), (35, oDup), (36, oGetI 6 5), (39, oCI 1 1), (40, oAdd), (41, oPutI 6 5), (44, oLdR 0 1), (45, oGetI 6 5), (48, oCI 1 1), (49, oSub), (50, oRetI)]
theorem sm_32_0 : ∀ q ∈ tb_32_0, SM GwP MdP D A l 32 q.1 q.2 :=
  List.forall_mem_cons.mpr ⟨sd_oLdI_n 32 0 1 1 rfl (dk_32_0 (0, .iload_n 1, 1) (List.mem_of_getElem? (i := 0) rfl)),
  List.forall_mem_cons.mpr ⟨sd_callS 32 1 68 1 1 36 [] (gdS hws_32 hws_68 zw93 zw94 zw63 zw92) hws_68 rfl (by decide +kernel) rfl rfl ⟨by decide +kernel, by decide +kernel, by decide +kernel⟩ ⟨by decide, by decide⟩ (catch_nil rfl) (dk_32_0 (1, .invokestatic 36, 3) (List.mem_of_getElem? (i := 1) rfl)),
  List.forall_mem_cons.mpr ⟨sd_callS 32 4 65 1 1 40 [] (gdS hws_32 hws_65 zw96 zw97 zw63 zw95) hws_65 rfl (by decide +kernel) rfl rfl ⟨by decide +kernel, by decide +kernel, by decide +kernel⟩ ⟨by decide, by decide⟩ (catch_nil rfl) (dk_32_0 (4, .invokestatic 40, 3) (List.mem_of_getElem? (i := 2) rfl)),
  List.forall_mem_cons.mpr ⟨sd_oLdR_n 32 7 0 0 rfl (dk_32_0 (7, .aload_n 0, 1) (List.mem_of_getElem? (i := 3) rfl)),
  List.forall_mem_cons.mpr ⟨sd_oGetI 32 8 6 5 44 RX5 TX5 7 rfl ⟨by decide, by decide⟩ rfl (by decide) rfl (fun w h => iw_32 w (uz_5 w h)) rfl (iw_32 _ zw98) (dk_32_0 (8, .getfield 44, 3) (List.mem_of_getElem? (i := 4) rfl)),
  List.forall_mem_cons.mpr ⟨sd_bipush 32 11 6 ⟨by decide, by decide⟩ (by decide) (dk_32_0 (11, .bipush 6, 2) (List.mem_of_getElem? (i := 5) rfl)),
  List.forall_mem_cons.mpr ⟨sd_icmp_ge 32 13 7 20 (by decide) (dk_32_0 (13, .if_icmp .ge 7, 3) (List.mem_of_getElem? (i := 6) rfl)),
  List.forall_mem_cons.mpr ⟨sd_iconst 32 16 1 ⟨by decide, by decide⟩ (dk_32_0 (16, .iconst 1, 1) (List.mem_of_getElem? (i := 7) rfl)),
  List.forall_mem_cons.mpr ⟨sd_goto 32 17 4 21 (by decide) (dk_32_0 (17, .goto 4, 3) (List.mem_of_getElem? (i := 8) rfl)),
  List.forall_mem_cons.mpr ⟨sd_iconst 32 20 0 ⟨by decide, by decide⟩ (dk_32_0 (20, .iconst 0, 1) (List.mem_of_getElem? (i := 9) rfl)),
  List.forall_mem_cons.mpr ⟨sd_callS 32 21 66 1 1 48 [] (gdS hws_32 hws_66 zw100 zw101 zw63 zw99) hws_66 rfl (by decide +kernel) rfl rfl ⟨by decide +kernel, by decide +kernel, by decide +kernel⟩ ⟨by decide, by decide⟩ (catch_nil rfl) (dk_32_0 (21, .invokestatic 48, 3) (List.mem_of_getElem? (i := 10) rfl)),
  List.forall_mem_cons.mpr ⟨sd_oLdR_n 32 24 0 0 rfl (dk_32_0 (24, .aload_n 0, 1) (List.mem_of_getElem? (i := 11) rfl)),
  List.forall_mem_cons.mpr ⟨sd_oGetR 32 25 6 0 9 RX5 TX5 7 rfl ⟨by decide, by decide⟩ rfl (by decide) rfl (fun w h => iw_32 w (uz_5 w h)) rfl (iw_32 _ zw75) (dk_32_0 (25, .getfield 9, 3) (List.mem_of_getElem? (i := 12) rfl)),
  List.forall_mem_cons.mpr ⟨sd_oLdR_n 32 28 0 0 rfl (dk_32_0 (28, .aload_n 0, 1) (List.mem_of_getElem? (i := 13) rfl)),
  List.forall_mem_cons.mpr ⟨sd_oGetI 32 29 6 5 44 RX5 TX5 7 rfl ⟨by decide, by decide⟩ rfl (by decide) rfl (fun w h => iw_32 w (uz_5 w h)) rfl (iw_32 _ zw98) (dk_32_0 (29, .getfield 44, 3) (List.mem_of_getElem? (i := 14) rfl)),
  List.forall_mem_cons.mpr ⟨sd_oLdI_n 32 32 1 1 rfl (dk_32_0 (32, .iload_n 1, 1) (List.mem_of_getElem? (i := 15) rfl)),
  List.forall_mem_cons.mpr ⟨sd_iast 32 33 (dk_32_0 (33, .iastore, 1) (List.mem_of_getElem? (i := 16) rfl)),
  List.forall_mem_cons.mpr ⟨sd_oLdR_n 32 34 0 0 rfl (dk_32_0 (34, .aload_n 0, 1) (List.mem_of_getElem? (i := 17) rfl)),
  List.forall_mem_cons.mpr ⟨sd_dup 32 35 (dk_32_0 (35, .dup, 1) (List.mem_of_getElem? (i := 18) rfl)),
  List.forall_mem_cons.mpr ⟨sd_oGetI 32 36 6 5 44 RX5 TX5 7 rfl ⟨by decide, by decide⟩ rfl (by decide) rfl (fun w h => iw_32 w (uz_5 w h)) rfl (iw_32 _ zw98) (dk_32_0 (36, .getfield 44, 3) (List.mem_of_getElem? (i := 19) rfl)),
  List.forall_mem_cons.mpr ⟨sd_iconst 32 39 1 ⟨by decide, by decide⟩ (dk_32_0 (39, .iconst 1, 1) (List.mem_of_getElem? (i := 20) rfl)),
  List.forall_mem_cons.mpr ⟨sd_iadd 32 40 (dk_32_0 (40, .iadd, 1) (List.mem_of_getElem? (i := 21) rfl)),
  List.forall_mem_cons.mpr ⟨sd_oPutI 32 41 6 5 44 RX5 TX5 7 rfl ⟨by decide, by decide⟩ rfl (by decide) rfl (fun w h => iw_32 w (uz_5 w h)) rfl tyX5 tyX5_ok nmX5 rfl rfl (iw_32 _ zw98) (dk_32_0 (41, .putfield 44, 3) (List.mem_of_getElem? (i := 22) rfl)),
  List.forall_mem_cons.mpr ⟨sd_oLdR_n 32 44 0 0 rfl (dk_32_0 (44, .aload_n 0, 1) (List.mem_of_getElem? (i := 23) rfl)),
  List.forall_mem_cons.mpr ⟨sd_oGetI 32 45 6 5 44 RX5 TX5 7 rfl ⟨by decide, by decide⟩ rfl (by decide) rfl (fun w h => iw_32 w (uz_5 w h)) rfl (iw_32 _ zw98) (dk_32_0 (45, .getfield 44, 3) (List.mem_of_getElem? (i := 24) rfl)),
  List.forall_mem_cons.mpr ⟨sd_iconst 32 48 1 ⟨by decide, by decide⟩ (dk_32_0 (48, .iconst 1, 1) (List.mem_of_getElem? (i := 25) rfl)),
  List.forall_mem_cons.mpr ⟨sd_isub 32 49 (dk_32_0 (49, .isub, 1) (List.mem_of_getElem? (i := 26) rfl)),
  List.forall_mem_cons.mpr ⟨sd_iret 32 50 rfl (dk_32_0 (50, .ireturn, 1) (List.mem_of_getElem? (i := 27) rfl)),
  fun _ h => nomatch h⟩⟩⟩⟩⟩⟩⟩⟩⟩⟩⟩⟩⟩⟩⟩⟩⟩⟩⟩⟩⟩⟩⟩⟩⟩⟩⟩⟩
def tb_32 : List (List (Nat × Op1)) := [tb_32_0]
theorem sm_32 : ∀ t ∈ tb_32, ∀ q ∈ t, SM GwP MdP D A l 32 q.1 q.2 := List.forall_mem_cons.mpr ⟨sm_32_0, fun _ h => nomatch h⟩
-- 33: Marginalia.setRight(III)I
def dl_33_0 : List (Nat × Instr × Nat) := [(0, .aload_n 0, 1), (1, .iload_n 1, 1), (2, .invokevirtual 51, 3), (5, .aload_n 0, 1), (6, .iload_n 2, 1), (7, .invokevirtual 51, 3), (10, .iload_n 3, 1), (11, .invokestatic 36, 3), (14, .invokestatic 40, 3), (17, .aload_n 0, 1), (18, .getfield 9, 3), (21, .iload_n 1, 1), (22, .iaload, 1), (23, .iconst 4, 1), (24, .if_icmp .ne 7, 3), (27, .iconst 1, 1), (28, .goto 4, 3), (31, .iconst 0, 1), (32, .invokestatic 48, 3), (35, .aload_n 0, 1), (36, .getfield 9, 3), (39, .iload_n 2, 1), (40, .iaload, 1), (41, .istore 4, 2), (43, .aload_n 0, 1), (44, .getfield 9, 3), (47, .iload_n 2, 1), (48, .iload_n 3, 1), (49, .iastore, 1), (50, .iload 4, 2), (52, .ireturn, 1)]
theorem dk_33_0 : ∀ q ∈ dl_33_0, decode (mCod (MdP 33)) q.1 = .ok q.2 := by
  rw [show mCod (MdP 33) = cX5_setRight from rfl]
  decide +kernel
def tb_33_0 : List (Nat × Op1) := [(0, oLdR 0 1), (1, oLdI 1 1), (2, oCallV 61 1 2 6 []), (5, oLdR 0 1), (6, oLdI 2 1), (7, oCallV 61 1 2 6 []), (10, oLdI 3 1), (11, oCallS 68 1 1 []), (14, oCallS 65 1 1 []), (17, oLdR 0 1), (18, oGetR 6 0), (21, oLdI 1 1), (22, oALdI 10), (23, oCI 4 1), (24, oCne 31), (27, oCI 1 1), (28, oGoto 32), (31, oCI 0 1), (32, oCallS 66 1 1 []), (35, oLdR 0 1), (36, oGetR 6 0), (39, oLdI 2 1), (40, oALdI 10), (41, oStI 4 2), (43, oLdR 0 1), (44, oGetR 6 0), (47, oLdI 2 1), (48, oLdI 3 1), (49, oAStI), (50, oLdI 4 2), (52, oRetI)]
theorem sm_33_0 : ∀ q ∈ tb_33_0, SM GwP MdP D A l 33 q.1 q.2 :=
  List.forall_mem_cons.mpr ⟨sd_oLdR_n 33 0 0 0 rfl (dk_33_0 (0, .aload_n 0, 1) (List.mem_of_getElem? (i := 0) rfl)),
  List.forall_mem_cons.mpr ⟨sd_oLdI_n 33 1 1 1 rfl (dk_33_0 (1, .iload_n 1, 1) (List.mem_of_getElem? (i := 1) rfl)),
  List.forall_mem_cons.mpr ⟨sd_callV 33 2 61 1 2 51 6 [] (gdV hws_33 hws_61 zw103 zw104 zw105 zw63 zw102) hws_61 rfl (by decide +kernel) rfl rfl ⟨by decide +kernel, by decide +kernel, by decide +kernel⟩ ⟨by decide, by decide⟩ (catch_nil rfl) RX5 rfl TX5 7 rfl ⟨by decide, by decide⟩ (dk_33_0 (2, .invokevirtual 51, 3) (List.mem_of_getElem? (i := 2) rfl)),
  List.forall_mem_cons.mpr ⟨sd_oLdR_n 33 5 0 0 rfl (dk_33_0 (5, .aload_n 0, 1) (List.mem_of_getElem? (i := 3) rfl)),
  List.forall_mem_cons.mpr ⟨sd_oLdI_n 33 6 2 2 rfl (dk_33_0 (6, .iload_n 2, 1) (List.mem_of_getElem? (i := 4) rfl)),
  List.forall_mem_cons.mpr ⟨sd_callV 33 7 61 1 2 51 6 [] (gdV hws_33 hws_61 zw103 zw104 zw105 zw63 zw102) hws_61 rfl (by decide +kernel) rfl rfl ⟨by decide +kernel, by decide +kernel, by decide +kernel⟩ ⟨by decide, by decide⟩ (catch_nil rfl) RX5 rfl TX5 7 rfl ⟨by decide, by decide⟩ (dk_33_0 (7, .invokevirtual 51, 3) (List.mem_of_getElem? (i := 5) rfl)),
  List.forall_mem_cons.mpr ⟨sd_oLdI_n 33 10 3 3 rfl (dk_33_0 (10, .iload_n 3, 1) (List.mem_of_getElem? (i := 6) rfl)),
  List.forall_mem_cons.mpr ⟨sd_callS 33 11 68 1 1 36 [] (gdS hws_33 hws_68 zw93 zw94 zw63 zw92) hws_68 rfl (by decide +kernel) rfl rfl ⟨by decide +kernel, by decide +kernel, by decide +kernel⟩ ⟨by decide, by decide⟩ (catch_nil rfl) (dk_33_0 (11, .invokestatic 36, 3) (List.mem_of_getElem? (i := 7) rfl)),
  List.forall_mem_cons.mpr ⟨sd_callS 33 14 65 1 1 40 [] (gdS hws_33 hws_65 zw96 zw97 zw63 zw95) hws_65 rfl (by decide +kernel) rfl rfl ⟨by decide +kernel, by decide +kernel, by decide +kernel⟩ ⟨by decide, by decide⟩ (catch_nil rfl) (dk_33_0 (14, .invokestatic 40, 3) (List.mem_of_getElem? (i := 8) rfl)),
  List.forall_mem_cons.mpr ⟨sd_oLdR_n 33 17 0 0 rfl (dk_33_0 (17, .aload_n 0, 1) (List.mem_of_getElem? (i := 9) rfl)),
  List.forall_mem_cons.mpr ⟨sd_oGetR 33 18 6 0 9 RX5 TX5 7 rfl ⟨by decide, by decide⟩ rfl (by decide) rfl (fun w h => iw_33 w (uz_5 w h)) rfl (iw_33 _ zw75) (dk_33_0 (18, .getfield 9, 3) (List.mem_of_getElem? (i := 10) rfl)),
  List.forall_mem_cons.mpr ⟨sd_oLdI_n 33 21 1 1 rfl (dk_33_0 (21, .iload_n 1, 1) (List.mem_of_getElem? (i := 11) rfl)),
  List.forall_mem_cons.mpr ⟨sd_iald 33 22 (dk_33_0 (22, .iaload, 1) (List.mem_of_getElem? (i := 12) rfl)),
  List.forall_mem_cons.mpr ⟨sd_iconst 33 23 4 ⟨by decide, by decide⟩ (dk_33_0 (23, .iconst 4, 1) (List.mem_of_getElem? (i := 13) rfl)),
  List.forall_mem_cons.mpr ⟨sd_icmp_ne 33 24 7 31 (by decide) (dk_33_0 (24, .if_icmp .ne 7, 3) (List.mem_of_getElem? (i := 14) rfl)),
  List.forall_mem_cons.mpr ⟨sd_iconst 33 27 1 ⟨by decide, by decide⟩ (dk_33_0 (27, .iconst 1, 1) (List.mem_of_getElem? (i := 15) rfl)),
  List.forall_mem_cons.mpr ⟨sd_goto 33 28 4 32 (by decide) (dk_33_0 (28, .goto 4, 3) (List.mem_of_getElem? (i := 16) rfl)),
  List.forall_mem_cons.mpr ⟨sd_iconst 33 31 0 ⟨by decide, by decide⟩ (dk_33_0 (31, .iconst 0, 1) (List.mem_of_getElem? (i := 17) rfl)),
  List.forall_mem_cons.mpr ⟨sd_callS 33 32 66 1 1 48 [] (gdS hws_33 hws_66 zw100 zw101 zw63 zw99) hws_66 rfl (by decide +kernel) rfl rfl ⟨by decide +kernel, by decide +kernel, by decide +kernel⟩ ⟨by decide, by decide⟩ (catch_nil rfl) (dk_33_0 (32, .invokestatic 48, 3) (List.mem_of_getElem? (i := 18) rfl)),
  List.forall_mem_cons.mpr ⟨sd_oLdR_n 33 35 0 0 rfl (dk_33_0 (35, .aload_n 0, 1) (List.mem_of_getElem? (i := 19) rfl)),
  List.forall_mem_cons.mpr ⟨sd_oGetR 33 36 6 0 9 RX5 TX5 7 rfl ⟨by decide, by decide⟩ rfl (by decide) rfl (fun w h => iw_33 w (uz_5 w h)) rfl (iw_33 _ zw75) (dk_33_0 (36, .getfield 9, 3) (List.mem_of_getElem? (i := 20) rfl)),
  List.forall_mem_cons.mpr ⟨sd_oLdI_n 33 39 2 2 rfl (dk_33_0 (39, .iload_n 2, 1) (List.mem_of_getElem? (i := 21) rfl)),
  List.forall_mem_cons.mpr ⟨sd_iald 33 40 (dk_33_0 (40, .iaload, 1) (List.mem_of_getElem? (i := 22) rfl)),
  List.forall_mem_cons.mpr ⟨sd_oStI 33 41 4 (by decide) (dk_33_0 (41, .istore 4, 2) (List.mem_of_getElem? (i := 23) rfl)),
  List.forall_mem_cons.mpr ⟨sd_oLdR_n 33 43 0 0 rfl (dk_33_0 (43, .aload_n 0, 1) (List.mem_of_getElem? (i := 24) rfl)),
  List.forall_mem_cons.mpr ⟨sd_oGetR 33 44 6 0 9 RX5 TX5 7 rfl ⟨by decide, by decide⟩ rfl (by decide) rfl (fun w h => iw_33 w (uz_5 w h)) rfl (iw_33 _ zw75) (dk_33_0 (44, .getfield 9, 3) (List.mem_of_getElem? (i := 25) rfl)),
  List.forall_mem_cons.mpr ⟨sd_oLdI_n 33 47 2 2 rfl (dk_33_0 (47, .iload_n 2, 1) (List.mem_of_getElem? (i := 26) rfl)),
  List.forall_mem_cons.mpr ⟨sd_oLdI_n 33 48 3 3 rfl (dk_33_0 (48, .iload_n 3, 1) (List.mem_of_getElem? (i := 27) rfl)),
  List.forall_mem_cons.mpr ⟨sd_iast 33 49 (dk_33_0 (49, .iastore, 1) (List.mem_of_getElem? (i := 28) rfl)),
  List.forall_mem_cons.mpr ⟨sd_oLdI 33 50 4 (dk_33_0 (50, .iload 4, 2) (List.mem_of_getElem? (i := 29) rfl)),
  List.forall_mem_cons.mpr ⟨sd_iret 33 52 rfl (dk_33_0 (52, .ireturn, 1) (List.mem_of_getElem? (i := 30) rfl)),
  fun _ h => nomatch h⟩⟩⟩⟩⟩⟩⟩⟩⟩⟩⟩⟩⟩⟩⟩⟩⟩⟩⟩⟩⟩⟩⟩⟩⟩⟩⟩⟩⟩⟩⟩
def tb_33 : List (List (Nat × Op1)) := [tb_33_0]
theorem sm_33 : ∀ t ∈ tb_33, ∀ q ∈ t, SM GwP MdP D A l 33 q.1 q.2 := List.forall_mem_cons.mpr ⟨sm_33_0, fun _ h => nomatch h⟩
-- 34: Marginalia.insert(IIII)I
def dl_34_0 : List (Nat × Instr × Nat) := [(0, .aload_n 0, 1), (1, .iload_n 1, 1), (2, .invokevirtual 51, 3), (5, .iload_n 2, 1), (6, .iconst 0, 1), (7, .aload_n 0, 1), (8, .getfield 16, 3), (11, .invokevirtual 55, 3), (14, .invokestatic 59, 3), (17, .invokestatic 63, 3), (20, .iload_n 3, 1), (21, .iconst 1, 1), (22, .bipush 40, 2), (24, .invokestatic 59, 3), (27, .ifCond .eq 18, 3), (30, .iload 4, 2), (32, .iconst 0, 1), (33, .bipush 25, 2), (35, .invokestatic 59, 3), (38, .ifCond .eq 7, 3), (41, .iconst 1, 1), (42, .goto 4, 3), (45, .iconst 0, 1), (46, .invokestatic 40, 3), (49, .aload_n 0, 1), (50, .getfield 9, 3), (53, .iload_n 1, 1), (54, .iaload, 1), (55, .iconst 3, 1), (56, .if_icmp .lt 19, 3), (59, .aload_n 0, 1), (60, .getfield 16, 3), (63, .iload_n 3, 1), (64, .iconst 1, 1), (65, .invokevirtual 66, 3), (68, .ifCond .eq 7, 3), (71, .iconst 1, 1), (72, .goto 4, 3), (75, .iconst 0, 1), (76, .invokestatic 48, 3)]
theorem dk_34_0 : ∀ q ∈ dl_34_0, decode (mCod (MdP 34)) q.1 = .ok q.2 := by
  rw [show mCod (MdP 34) = cX5_insert from rfl]
  decide +kernel
def dl_34_1 : List (Nat × Instr × Nat) := [(79, .aload_n 0, 1), (80, .iload_n 2, 1), (81, .iload_n 3, 1), (82, .iload 4, 2), (84, .invokevirtual 70, 3), (87, .aload_n 0, 1), (88, .getfield 16, 3), (91, .invokevirtual 55, 3), (94, .ireturn, 1)]
theorem dk_34_1 : ∀ q ∈ dl_34_1, decode (mCod (MdP 34)) q.1 = .ok q.2 := by
  rw [show mCod (MdP 34) = cX5_insert from rfl]
  decide +kernel
def tb_34_0 : List (Nat × Op1) := [(0, oLdR 0 1), (1, oLdI 1 1), (2, oCallV 61 1 2 6 []), (5, oLdI 2 1), (6, oCI 0 1), (7, oLdR 0 1), (8, oGetR 6 1), (11, oCallV 23 0 1 5 []), (14, oCallS 67 3 3 []), (17, oCallS 64 1 1 []), (20, oLdI 3 1), (21, oCI 1 1), (22, oCI 40 2), (24, oCallS 67 3 3 []), (27, oZeq 45), (30, oLdI 4 2), (32, oCI 0 1), (33, oCI 25 2), (35, oCallS 67 3 3 []), (38, oZeq 45), (41, oCI 1 1), (42, oGoto 46), (45, oCI 0 1), (46, oCallS 65 1 1 []), (49, oLdR 0 1), (50, oGetR 6 0), (53, oLdI 1 1), (54, oALdI 10), (55, oCI 3 1), (56, oClt 75), (59, oLdR 0 1), (60, oGetR 6 1), (63, oLdI 3 1)]
theorem sm_34_0 : ∀ q ∈ tb_34_0, SM GwP MdP D A l 34 q.1 q.2 :=
  List.forall_mem_cons.mpr ⟨sd_oLdR_n 34 0 0 0 rfl (dk_34_0 (0, .aload_n 0, 1) (List.mem_of_getElem? (i := 0) rfl)),
  List.forall_mem_cons.mpr ⟨sd_oLdI_n 34 1 1 1 rfl (dk_34_0 (1, .iload_n 1, 1) (List.mem_of_getElem? (i := 1) rfl)),
  List.forall_mem_cons.mpr ⟨sd_callV 34 2 61 1 2 51 6 [] (gdV hws_34 hws_61 zw103 zw104 zw105 zw63 zw102) hws_61 rfl (by decide +kernel) rfl rfl ⟨by decide +kernel, by decide +kernel, by decide +kernel⟩ ⟨by decide, by decide⟩ (catch_nil rfl) RX5 rfl TX5 7 rfl ⟨by decide, by decide⟩ (dk_34_0 (2, .invokevirtual 51, 3) (List.mem_of_getElem? (i := 2) rfl)),
  List.forall_mem_cons.mpr ⟨sd_oLdI_n 34 5 2 2 rfl (dk_34_0 (5, .iload_n 2, 1) (List.mem_of_getElem? (i := 3) rfl)),
  List.forall_mem_cons.mpr ⟨sd_iconst 34 6 0 ⟨by decide, by decide⟩ (dk_34_0 (6, .iconst 0, 1) (List.mem_of_getElem? (i := 4) rfl)),
  List.forall_mem_cons.mpr ⟨sd_oLdR_n 34 7 0 0 rfl (dk_34_0 (7, .aload_n 0, 1) (List.mem_of_getElem? (i := 5) rfl)),
  List.forall_mem_cons.mpr ⟨sd_oGetR 34 8 6 1 16 RX5 TX5 7 rfl ⟨by decide, by decide⟩ rfl (by decide) rfl (fun w h => iw_34 w (uz_5 w h)) rfl (iw_34 _ zw81) (dk_34_0 (8, .getfield 16, 3) (List.mem_of_getElem? (i := 6) rfl)),
  List.forall_mem_cons.mpr ⟨sd_callV 34 11 23 0 1 55 5 [] (gdV hws_34 hws_23 zw106 zw59 zw60 zw61 zw57) hws_23 rfl (by decide +kernel) rfl rfl ⟨by decide +kernel, by decide +kernel, by decide +kernel⟩ ⟨by decide, by decide⟩ (catch_nil rfl) RX4 rfl TX4 5 rfl ⟨by decide, by decide⟩ (dk_34_0 (11, .invokevirtual 55, 3) (List.mem_of_getElem? (i := 7) rfl)),
  List.forall_mem_cons.mpr ⟨sd_callS 34 14 67 3 3 59 [] (gdS hws_34 hws_67 zw107 zw64 zw63 zw62) hws_67 rfl (by decide +kernel) rfl rfl ⟨by decide +kernel, by decide +kernel, by decide +kernel⟩ ⟨by decide, by decide⟩ (catch_nil rfl) (dk_34_0 (14, .invokestatic 59, 3) (List.mem_of_getElem? (i := 8) rfl)),
  List.forall_mem_cons.mpr ⟨sd_callS 34 17 64 1 1 63 [] (gdS hws_34 hws_64 zw109 zw110 zw63 zw108) hws_64 rfl (by decide +kernel) rfl rfl ⟨by decide +kernel, by decide +kernel, by decide +kernel⟩ ⟨by decide, by decide⟩ (catch_nil rfl) (dk_34_0 (17, .invokestatic 63, 3) (List.mem_of_getElem? (i := 9) rfl)),
  List.forall_mem_cons.mpr ⟨sd_oLdI_n 34 20 3 3 rfl (dk_34_0 (20, .iload_n 3, 1) (List.mem_of_getElem? (i := 10) rfl)),
  List.forall_mem_cons.mpr ⟨sd_iconst 34 21 1 ⟨by decide, by decide⟩ (dk_34_0 (21, .iconst 1, 1) (List.mem_of_getElem? (i := 11) rfl)),
  List.forall_mem_cons.mpr ⟨sd_bipush 34 22 40 ⟨by decide, by decide⟩ (by decide) (dk_34_0 (22, .bipush 40, 2) (List.mem_of_getElem? (i := 12) rfl)),
  List.forall_mem_cons.mpr ⟨sd_callS 34 24 67 3 3 59 [] (gdS hws_34 hws_67 zw107 zw64 zw63 zw62) hws_67 rfl (by decide +kernel) rfl rfl ⟨by decide +kernel, by decide +kernel, by decide +kernel⟩ ⟨by decide, by decide⟩ (catch_nil rfl) (dk_34_0 (24, .invokestatic 59, 3) (List.mem_of_getElem? (i := 13) rfl)),
  List.forall_mem_cons.mpr ⟨sd_if_eq 34 27 18 45 (by decide) (dk_34_0 (27, .ifCond .eq 18, 3) (List.mem_of_getElem? (i := 14) rfl)),
  List.forall_mem_cons.mpr ⟨sd_oLdI 34 30 4 (dk_34_0 (30, .iload 4, 2) (List.mem_of_getElem? (i := 15) rfl)),
  List.forall_mem_cons.mpr ⟨sd_iconst 34 32 0 ⟨by decide, by decide⟩ (dk_34_0 (32, .iconst 0, 1) (List.mem_of_getElem? (i := 16) rfl)),
  List.forall_mem_cons.mpr ⟨sd_bipush 34 33 25 ⟨by decide, by decide⟩ (by decide) (dk_34_0 (33, .bipush 25, 2) (List.mem_of_getElem? (i := 17) rfl)),
  List.forall_mem_cons.mpr ⟨sd_callS 34 35 67 3 3 59 [] (gdS hws_34 hws_67 zw107 zw64 zw63 zw62) hws_67 rfl (by decide +kernel) rfl rfl ⟨by decide +kernel, by decide +kernel, by decide +kernel⟩ ⟨by decide, by decide⟩ (catch_nil rfl) (dk_34_0 (35, .invokestatic 59, 3) (List.mem_of_getElem? (i := 18) rfl)),
  List.forall_mem_cons.mpr ⟨sd_if_eq 34 38 7 45 (by decide) (dk_34_0 (38, .ifCond .eq 7, 3) (List.mem_of_getElem? (i := 19) rfl)),
  List.forall_mem_cons.mpr ⟨sd_iconst 34 41 1 ⟨by decide, by decide⟩ (dk_34_0 (41, .iconst 1, 1) (List.mem_of_getElem? (i := 20) rfl)),
  List.forall_mem_cons.mpr ⟨sd_goto 34 42 4 46 (by decide) (dk_34_0 (42, .goto 4, 3) (List.mem_of_getElem? (i := 21) rfl)),
  List.forall_mem_cons.mpr ⟨sd_iconst 34 45 0 ⟨by decide, by decide⟩ (dk_34_0 (45, .iconst 0, 1) (List.mem_of_getElem? (i := 22) rfl)),
  List.forall_mem_cons.mpr ⟨sd_callS 34 46 65 1 1 40 [] (gdS hws_34 hws_65 zw96 zw97 zw63 zw95) hws_65 rfl (by decide +kernel) rfl rfl ⟨by decide +kernel, by decide +kernel, by decide +kernel⟩ ⟨by decide, by decide⟩ (catch_nil rfl) (dk_34_0 (46, .invokestatic 40, 3) (List.mem_of_getElem? (i := 23) rfl)),
  List.forall_mem_cons.mpr ⟨sd_oLdR_n 34 49 0 0 rfl (dk_34_0 (49, .aload_n 0, 1) (List.mem_of_getElem? (i := 24) rfl)),
  List.forall_mem_cons.mpr ⟨sd_oGetR 34 50 6 0 9 RX5 TX5 7 rfl ⟨by decide, by decide⟩ rfl (by decide) rfl (fun w h => iw_34 w (uz_5 w h)) rfl (iw_34 _ zw75) (dk_34_0 (50, .getfield 9, 3) (List.mem_of_getElem? (i := 25) rfl)),
  List.forall_mem_cons.mpr ⟨sd_oLdI_n 34 53 1 1 rfl (dk_34_0 (53, .iload_n 1, 1) (List.mem_of_getElem? (i := 26) rfl)),
  List.forall_mem_cons.mpr ⟨sd_iald 34 54 (dk_34_0 (54, .iaload, 1) (List.mem_of_getElem? (i := 27) rfl)),
  List.forall_mem_cons.mpr ⟨sd_iconst 34 55 3 ⟨by decide, by decide⟩ (dk_34_0 (55, .iconst 3, 1) (List.mem_of_getElem? (i := 28) rfl)),
  List.forall_mem_cons.mpr ⟨sd_icmp_lt 34 56 19 75 (by decide) (dk_34_0 (56, .if_icmp .lt 19, 3) (List.mem_of_getElem? (i := 29) rfl)),
  List.forall_mem_cons.mpr ⟨sd_oLdR_n 34 59 0 0 rfl (dk_34_0 (59, .aload_n 0, 1) (List.mem_of_getElem? (i := 30) rfl)),
  List.forall_mem_cons.mpr ⟨sd_oGetR 34 60 6 1 16 RX5 TX5 7 rfl ⟨by decide, by decide⟩ rfl (by decide) rfl (fun w h => iw_34 w (uz_5 w h)) rfl (iw_34 _ zw81) (dk_34_0 (60, .getfield 16, 3) (List.mem_of_getElem? (i := 31) rfl)),
  List.forall_mem_cons.mpr ⟨sd_oLdI_n 34 63 3 3 rfl (dk_34_0 (63, .iload_n 3, 1) (List.mem_of_getElem? (i := 32) rfl)),
  fun _ h => nomatch h⟩⟩⟩⟩⟩⟩⟩⟩⟩⟩⟩⟩⟩⟩⟩⟩⟩⟩⟩⟩⟩⟩⟩⟩⟩⟩⟩⟩⟩⟩⟩⟩⟩
def tb_34_1 : List (Nat × Op1) := [(64, oCI 1 1), (65, oCallV 24 2 3 5 []), (68, oZeq 75), (71, oCI 1 1), (72, oGoto 76), (75, oCI 0 1), (76, oCallS 66 1 1 []), (79, oLdR 0 1), (80, oLdI 2 1), (81, oLdI 3 1), (82, oLdI 4 2), (84, oCallV 70 3 5 6 []), (87, oLdR 0 1), (88, oGetR 6 1), (91, oCallV 23 0 1 5 []), (94, oRetI)]
theorem sm_34_1 : ∀ q ∈ tb_34_1, SM GwP MdP D A l 34 q.1 q.2 :=
  List.forall_mem_cons.mpr ⟨sd_iconst 34 64 1 ⟨by decide, by decide⟩ (dk_34_0 (64, .iconst 1, 1) (List.mem_of_getElem? (i := 33) rfl)),
  List.forall_mem_cons.mpr ⟨sd_callV 34 65 24 2 3 66 5 [] (gdV hws_34 hws_24 zw112 zw113 zw114 zw61 zw111) hws_24 rfl (by decide +kernel) rfl rfl ⟨by decide +kernel, by decide +kernel, by decide +kernel⟩ ⟨by decide, by decide⟩ (catch_nil rfl) RX4 rfl TX4 5 rfl ⟨by decide, by decide⟩ (dk_34_0 (65, .invokevirtual 66, 3) (List.mem_of_getElem? (i := 34) rfl)),
  List.forall_mem_cons.mpr ⟨sd_if_eq 34 68 7 75 (by decide) (dk_34_0 (68, .ifCond .eq 7, 3) (List.mem_of_getElem? (i := 35) rfl)),
  List.forall_mem_cons.mpr ⟨sd_iconst 34 71 1 ⟨by decide, by decide⟩ (dk_34_0 (71, .iconst 1, 1) (List.mem_of_getElem? (i := 36) rfl)),
  List.forall_mem_cons.mpr ⟨sd_goto 34 72 4 76 (by decide) (dk_34_0 (72, .goto 4, 3) (List.mem_of_getElem? (i := 37) rfl)),
  List.forall_mem_cons.mpr ⟨sd_iconst 34 75 0 ⟨by decide, by decide⟩ (dk_34_0 (75, .iconst 0, 1) (List.mem_of_getElem? (i := 38) rfl)),
  List.forall_mem_cons.mpr ⟨sd_callS 34 76 66 1 1 48 [] (gdS hws_34 hws_66 zw100 zw101 zw63 zw99) hws_66 rfl (by decide +kernel) rfl rfl ⟨by decide +kernel, by decide +kernel, by decide +kernel⟩ ⟨by decide, by decide⟩ (catch_nil rfl) (dk_34_0 (76, .invokestatic 48, 3) (List.mem_of_getElem? (i := 39) rfl)),
  List.forall_mem_cons.mpr ⟨sd_oLdR_n 34 79 0 0 rfl (dk_34_1 (79, .aload_n 0, 1) (List.mem_of_getElem? (i := 0) rfl)),
  List.forall_mem_cons.mpr ⟨sd_oLdI_n 34 80 2 2 rfl (dk_34_1 (80, .iload_n 2, 1) (List.mem_of_getElem? (i := 1) rfl)),
  List.forall_mem_cons.mpr ⟨sd_oLdI_n 34 81 3 3 rfl (dk_34_1 (81, .iload_n 3, 1) (List.mem_of_getElem? (i := 2) rfl)),
  List.forall_mem_cons.mpr ⟨sd_oLdI 34 82 4 (dk_34_1 (82, .iload 4, 2) (List.mem_of_getElem? (i := 3) rfl)),
  List.forall_mem_cons.mpr ⟨sd_callV 34 84 70 3 5 70 6 [] (gdV hws_34 hws_70 zw116 zw117 zw118 zw63 zw115) hws_70 rfl (by decide +kernel) rfl rfl ⟨by decide +kernel, by decide +kernel, by decide +kernel⟩ ⟨by decide, by decide⟩ (catch_nil rfl) RX5 rfl TX5 7 rfl ⟨by decide, by decide⟩ (dk_34_1 (84, .invokevirtual 70, 3) (List.mem_of_getElem? (i := 4) rfl)),
  List.forall_mem_cons.mpr ⟨sd_oLdR_n 34 87 0 0 rfl (dk_34_1 (87, .aload_n 0, 1) (List.mem_of_getElem? (i := 5) rfl)),
  List.forall_mem_cons.mpr ⟨sd_oGetR 34 88 6 1 16 RX5 TX5 7 rfl ⟨by decide, by decide⟩ rfl (by decide) rfl (fun w h => iw_34 w (uz_5 w h)) rfl (iw_34 _ zw81) (dk_34_1 (88, .getfield 16, 3) (List.mem_of_getElem? (i := 6) rfl)),
  List.forall_mem_cons.mpr ⟨sd_callV 34 91 23 0 1 55 5 [] (gdV hws_34 hws_23 zw106 zw59 zw60 zw61 zw57) hws_23 rfl (by decide +kernel) rfl rfl ⟨by decide +kernel, by decide +kernel, by decide +kernel⟩ ⟨by decide, by decide⟩ (catch_nil rfl) RX4 rfl TX4 5 rfl ⟨by decide, by decide⟩ (dk_34_1 (91, .invokevirtual 55, 3) (List.mem_of_getElem? (i := 7) rfl)),
  List.forall_mem_cons.mpr ⟨sd_iret 34 94 rfl (dk_34_1 (94, .ireturn, 1) (List.mem_of_getElem? (i := 8) rfl)),
  fun _ h => nomatch h⟩⟩⟩⟩⟩⟩⟩⟩⟩⟩⟩⟩⟩⟩⟩⟩
def tb_34 : List (List (Nat × Op1)) := [tb_34_0, tb_34_1]
theorem sm_34 : ∀ t ∈ tb_34, ∀ q ∈ t, SM GwP MdP D A l 34 q.1 q.2 := List.forall_mem_cons.mpr ⟨sm_34_0, List.forall_mem_cons.mpr ⟨sm_34_1, fun _ h => nomatch h⟩⟩
-- 35: Marginalia.delete(III)I
def dl_35_0 : List (Nat × Instr × Nat) := [(0, .aload_n 0, 1), (1, .iload_n 1, 1), (2, .invokevirtual 51, 3), (5, .aload_n 0, 1), (6, .iload_n 2, 1), (7, .invokevirtual 74, 3), (10, .iload_n 3, 1), (11, .iconst 1, 1), (12, .aload_n 0, 1), (13, .getfield 16, 3), (16, .invokevirtual 55, 3), (19, .iload_n 2, 1), (20, .isub, 1), (21, .invokestatic 59, 3), (24, .invokestatic 40, 3), (27, .aload_n 0, 1), (28, .getfield 9, 3), (31, .iload_n 1, 1), (32, .iaload, 1), (33, .iconst 3, 1), (34, .if_icmp .lt 19, 3), (37, .aload_n 0, 1), (38, .getfield 16, 3), (41, .iconst 0, 1), (42, .iconst 1, 1), (43, .invokevirtual 66, 3), (46, .ifCond .eq 7, 3), (49, .iconst 1, 1), (50, .goto 4, 3), (53, .iconst 0, 1), (54, .invokestatic 48, 3), (57, .aload_n 0, 1), (58, .iload_n 2, 1), (59, .iload_n 3, 1), (60, .invokevirtual 77, 3), (63, .aload_n 0, 1), (64, .getfield 16, 3), (67, .invokevirtual 55, 3), (70, .ireturn, 1)]
theorem dk_35_0 : ∀ q ∈ dl_35_0, decode (mCod (MdP 35)) q.1 = .ok q.2 := by
  rw [show mCod (MdP 35) = cX5_delete from rfl]
  decide +kernel
def tb_35_0 : List (Nat × Op1) := [(0, oLdR 0 1), (1, oLdI 1 1), (2, oCallV 61 1 2 6 []), (5, oLdR 0 1), (6, oLdI 2 1), (7, oCallV 62 1 2 6 []), (10, oLdI 3 1), (11, oCI 1 1), (12, oLdR 0 1), (13, oGetR 6 1), (16, oCallV 23 0 1 5 []), (19, oLdI 2 1), (20, oSub), (21, oCallS 67 3 3 []), (24, oCallS 65 1 1 []), (27, oLdR 0 1), (28, oGetR 6 0), (31, oLdI 1 1), (32, oALdI 10), (33, oCI 3 1), (34, oClt 53), (37, oLdR 0 1), (38, oGetR 6 1), (41, oCI 0 1), (42, oCI 1 1), (43, oCallV 24 2 3 5 []), (46, oZeq 53), (49, oCI 1 1), (50, oGoto 54), (53, oCI 0 1), (54, oCallS 66 1 1 []), (57, oLdR 0 1), (58, oLdI 2 1), (59, oLdI 3 1), (60, oCallV 71 2 4 6 []), (63, oLdR 0 1)]
theorem sm_35_0 : ∀ q ∈ tb_35_0, SM GwP MdP D A l 35 q.1 q.2 :=
  List.forall_mem_cons.mpr ⟨sd_oLdR_n 35 0 0 0 rfl (dk_35_0 (0, .aload_n 0, 1) (List.mem_of_getElem? (i := 0) rfl)),
  List.forall_mem_cons.mpr ⟨sd_oLdI_n 35 1 1 1 rfl (dk_35_0 (1, .iload_n 1, 1) (List.mem_of_getElem? (i := 1) rfl)),
  List.forall_mem_cons.mpr ⟨sd_callV 35 2 61 1 2 51 6 [] (gdV hws_35 hws_61 zw103 zw104 zw105 zw63 zw102) hws_61 rfl (by decide +kernel) rfl rfl ⟨by decide +kernel, by decide +kernel, by decide +kernel⟩ ⟨by decide, by decide⟩ (catch_nil rfl) RX5 rfl TX5 7 rfl ⟨by decide, by decide⟩ (dk_35_0 (2, .invokevirtual 51, 3) (List.mem_of_getElem? (i := 2) rfl)),
  List.forall_mem_cons.mpr ⟨sd_oLdR_n 35 5 0 0 rfl (dk_35_0 (5, .aload_n 0, 1) (List.mem_of_getElem? (i := 3) rfl)),
  List.forall_mem_cons.mpr ⟨sd_oLdI_n 35 6 2 2 rfl (dk_35_0 (6, .iload_n 2, 1) (List.mem_of_getElem? (i := 4) rfl)),
  List.forall_mem_cons.mpr ⟨sd_callV 35 7 62 1 2 74 6 [] (gdV hws_35 hws_62 zw120 zw121 zw122 zw63 zw119) hws_62 rfl (by decide +kernel) rfl rfl ⟨by decide +kernel, by decide +kernel, by decide +kernel⟩ ⟨by decide, by decide⟩ (catch_nil rfl) RX5 rfl TX5 7 rfl ⟨by decide, by decide⟩ (dk_35_0 (7, .invokevirtual 74, 3) (List.mem_of_getElem? (i := 5) rfl)),
  List.forall_mem_cons.mpr ⟨sd_oLdI_n 35 10 3 3 rfl (dk_35_0 (10, .iload_n 3, 1) (List.mem_of_getElem? (i := 6) rfl)),
  List.forall_mem_cons.mpr ⟨sd_iconst 35 11 1 ⟨by decide, by decide⟩ (dk_35_0 (11, .iconst 1, 1) (List.mem_of_getElem? (i := 7) rfl)),
  List.forall_mem_cons.mpr ⟨sd_oLdR_n 35 12 0 0 rfl (dk_35_0 (12, .aload_n 0, 1) (List.mem_of_getElem? (i := 8) rfl)),
  List.forall_mem_cons.mpr ⟨sd_oGetR 35 13 6 1 16 RX5 TX5 7 rfl ⟨by decide, by decide⟩ rfl (by decide) rfl (fun w h => iw_35 w (uz_5 w h)) rfl (iw_35 _ zw81) (dk_35_0 (13, .getfield 16, 3) (List.mem_of_getElem? (i := 9) rfl)),
  List.forall_mem_cons.mpr ⟨sd_callV 35 16 23 0 1 55 5 [] (gdV hws_35 hws_23 zw106 zw59 zw60 zw61 zw57) hws_23 rfl (by decide +kernel) rfl rfl ⟨by decide +kernel, by decide +kernel, by decide +kernel⟩ ⟨by decide, by decide⟩ (catch_nil rfl) RX4 rfl TX4 5 rfl ⟨by decide, by decide⟩ (dk_35_0 (16, .invokevirtual 55, 3) (List.mem_of_getElem? (i := 10) rfl)),
  List.forall_mem_cons.mpr ⟨sd_oLdI_n 35 19 2 2 rfl (dk_35_0 (19, .iload_n 2, 1) (List.mem_of_getElem? (i := 11) rfl)),
  List.forall_mem_cons.mpr ⟨sd_isub 35 20 (dk_35_0 (20, .isub, 1) (List.mem_of_getElem? (i := 12) rfl)),
  List.forall_mem_cons.mpr ⟨sd_callS 35 21 67 3 3 59 [] (gdS hws_35 hws_67 zw107 zw64 zw63 zw62) hws_67 rfl (by decide +kernel) rfl rfl ⟨by decide +kernel, by decide +kernel, by decide +kernel⟩ ⟨by decide, by decide⟩ (catch_nil rfl) (dk_35_0 (21, .invokestatic 59, 3) (List.mem_of_getElem? (i := 13) rfl)),
  List.forall_mem_cons.mpr ⟨sd_callS 35 24 65 1 1 40 [] (gdS hws_35 hws_65 zw96 zw97 zw63 zw95) hws_65 rfl (by decide +kernel) rfl rfl ⟨by decide +kernel, by decide +kernel, by decide +kernel⟩ ⟨by decide, by decide⟩ (catch_nil rfl) (dk_35_0 (24, .invokestatic 40, 3) (List.mem_of_getElem? (i := 14) rfl)),
  List.forall_mem_cons.mpr ⟨sd_oLdR_n 35 27 0 0 rfl (dk_35_0 (27, .aload_n 0, 1) (List.mem_of_getElem? (i := 15) rfl)),
  List.forall_mem_cons.mpr ⟨sd_oGetR 35 28 6 0 9 RX5 TX5 7 rfl ⟨by decide, by decide⟩ rfl (by decide) rfl (fun w h => iw_35 w (uz_5 w h)) rfl (iw_35 _ zw75) (dk_35_0 (28, .getfield 9, 3) (List.mem_of_getElem? (i := 16) rfl)),
  List.forall_mem_cons.mpr ⟨sd_oLdI_n 35 31 1 1 rfl (dk_35_0 (31, .iload_n 1, 1) (List.mem_of_getElem? (i := 17) rfl)),
  List.forall_mem_cons.mpr ⟨sd_iald 35 32 (dk_35_0 (32, .iaload, 1) (List.mem_of_getElem? (i := 18) rfl)),
  List.forall_mem_cons.mpr ⟨sd_iconst 35 33 3 ⟨by decide, by decide⟩ (dk_35_0 (33, .iconst 3, 1) (List.mem_of_getElem? (i := 19) rfl)),
  List.forall_mem_cons.mpr ⟨sd_icmp_lt 35 34 19 53 (by decide) (dk_35_0 (34, .if_icmp .lt 19, 3) (List.mem_of_getElem? (i := 20) rfl)),
  List.forall_mem_cons.mpr ⟨sd_oLdR_n 35 37 0 0 rfl (dk_35_0 (37, .aload_n 0, 1) (List.mem_of_getElem? (i := 21) rfl)),
  List.forall_mem_cons.mpr ⟨sd_oGetR 35 38 6 1 16 RX5 TX5 7 rfl ⟨by decide, by decide⟩ rfl (by decide) rfl (fun w h => iw_35 w (uz_5 w h)) rfl (iw_35 _ zw81) (dk_35_0 (38, .getfield 16, 3) (List.mem_of_getElem? (i := 22) rfl)),
  List.forall_mem_cons.mpr ⟨sd_iconst 35 41 0 ⟨by decide, by decide⟩ (dk_35_0 (41, .iconst 0, 1) (List.mem_of_getElem? (i := 23) rfl)),
  List.forall_mem_cons.mpr ⟨sd_iconst 35 42 1 ⟨by decide, by decide⟩ (dk_35_0 (42, .iconst 1, 1) (List.mem_of_getElem? (i := 24) rfl)),
  List.forall_mem_cons.mpr ⟨sd_callV 35 43 24 2 3 66 5 [] (gdV hws_35 hws_24 zw112 zw113 zw114 zw61 zw111) hws_24 rfl (by decide +kernel) rfl rfl ⟨by decide +kernel, by decide +kernel, by decide +kernel⟩ ⟨by decide, by decide⟩ (catch_nil rfl) RX4 rfl TX4 5 rfl ⟨by decide, by decide⟩ (dk_35_0 (43, .invokevirtual 66, 3) (List.mem_of_getElem? (i := 25) rfl)),
  List.forall_mem_cons.mpr ⟨sd_if_eq 35 46 7 53 (by decide) (dk_35_0 (46, .ifCond .eq 7, 3) (List.mem_of_getElem? (i := 26) rfl)),
  List.forall_mem_cons.mpr ⟨sd_iconst 35 49 1 ⟨by decide, by decide⟩ (dk_35_0 (49, .iconst 1, 1) (List.mem_of_getElem? (i := 27) rfl)),
  List.forall_mem_cons.mpr ⟨sd_goto 35 50 4 54 (by decide) (dk_35_0 (50, .goto 4, 3) (List.mem_of_getElem? (i := 28) rfl)),
  List.forall_mem_cons.mpr ⟨sd_iconst 35 53 0 ⟨by decide, by decide⟩ (dk_35_0 (53, .iconst 0, 1) (List.mem_of_getElem? (i := 29) rfl)),
  List.forall_mem_cons.mpr ⟨sd_callS 35 54 66 1 1 48 [] (gdS hws_35 hws_66 zw100 zw101 zw63 zw99) hws_66 rfl (by decide +kernel) rfl rfl ⟨by decide +kernel, by decide +kernel, by decide +kernel⟩ ⟨by decide, by decide⟩ (catch_nil rfl) (dk_35_0 (54, .invokestatic 48, 3) (List.mem_of_getElem? (i := 30) rfl)),
  List.forall_mem_cons.mpr ⟨sd_oLdR_n 35 57 0 0 rfl (dk_35_0 (57, .aload_n 0, 1) (List.mem_of_getElem? (i := 31) rfl)),
  List.forall_mem_cons.mpr ⟨sd_oLdI_n 35 58 2 2 rfl (dk_35_0 (58, .iload_n 2, 1) (List.mem_of_getElem? (i := 32) rfl)),
  List.forall_mem_cons.mpr ⟨sd_oLdI_n 35 59 3 3 rfl (dk_35_0 (59, .iload_n 3, 1) (List.mem_of_getElem? (i := 33) rfl)),
  List.forall_mem_cons.mpr ⟨sd_callV 35 60 71 2 4 77 6 [] (gdV hws_35 hws_71 zw124 zw125 zw126 zw63 zw123) hws_71 rfl (by decide +kernel) rfl rfl ⟨by decide +kernel, by decide +kernel, by decide +kernel⟩ ⟨by decide, by decide⟩ (catch_nil rfl) RX5 rfl TX5 7 rfl ⟨by decide, by decide⟩ (dk_35_0 (60, .invokevirtual 77, 3) (List.mem_of_getElem? (i := 34) rfl)),
  List.forall_mem_cons.mpr ⟨sd_oLdR_n 35 63 0 0 rfl (dk_35_0 (63, .aload_n 0, 1) (List.mem_of_getElem? (i := 35) rfl)),
  fun _ h => nomatch h⟩⟩⟩⟩⟩⟩⟩⟩⟩⟩⟩⟩⟩⟩⟩⟩⟩⟩⟩⟩⟩⟩⟩⟩⟩⟩⟩⟩⟩⟩⟩⟩⟩⟩⟩⟩
def tb_35_1 : List (Nat × Op1) := [(64, oGetR 6 1), (67, oCallV 23 0 1 5 []), (70, oRetI)]
theorem sm_35_1 : ∀ q ∈ tb_35_1, SM GwP MdP D A l 35 q.1 q.2 :=
  List.forall_mem_cons.mpr ⟨sd_oGetR 35 64 6 1 16 RX5 TX5 7 rfl ⟨by decide, by decide⟩ rfl (by decide) rfl (fun w h => iw_35 w (uz_5 w h)) rfl (iw_35 _ zw81) (dk_35_0 (64, .getfield 16, 3) (List.mem_of_getElem? (i := 36) rfl)),
  List.forall_mem_cons.mpr ⟨sd_callV 35 67 23 0 1 55 5 [] (gdV hws_35 hws_23 zw106 zw59 zw60 zw61 zw57) hws_23 rfl (by decide +kernel) rfl rfl ⟨by decide +kernel, by decide +kernel, by decide +kernel⟩ ⟨by decide, by decide⟩ (catch_nil rfl) RX4 rfl TX4 5 rfl ⟨by decide, by decide⟩ (dk_35_0 (67, .invokevirtual 55, 3) (List.mem_of_getElem? (i := 37) rfl)),
  List.forall_mem_cons.mpr ⟨sd_iret 35 70 rfl (dk_35_0 (70, .ireturn, 1) (List.mem_of_getElem? (i := 38) rfl)),
  fun _ h => nomatch h⟩⟩⟩
def tb_35 : List (List (Nat × Op1)) := [tb_35_0, tb_35_1]
theorem sm_35 : ∀ t ∈ tb_35, ∀ q ∈ t, SM GwP MdP D A l 35 q.1 q.2 := List.forall_mem_cons.mpr ⟨sm_35_0, List.forall_mem_cons.mpr ⟨sm_35_1, fun _ h => nomatch h⟩⟩
-- 36: Marginalia.length()I
def dl_36_0 : List (Nat × Instr × Nat) := [(0, .aload_n 0, 1), (1, .getfield 16, 3), (4, .invokevirtual 55, 3), (7, .ireturn, 1)]
theorem dk_36_0 : ∀ q ∈ dl_36_0, decode (mCod (MdP 36)) q.1 = .ok q.2 := by
  rw [show mCod (MdP 36) = cX5_length from rfl]
  decide +kernel
def tb_36_0 : List (Nat × Op1) := [(0, oLdR 0 1), (1, oGetR 6 1), (4, oCallV 23 0 1 5 []), (7, oRetI)]
theorem sm_36_0 : ∀ q ∈ tb_36_0, SM GwP MdP D A l 36 q.1 q.2 :=
  List.forall_mem_cons.mpr ⟨sd_oLdR_n 36 0 0 0 rfl (dk_36_0 (0, .aload_n 0, 1) (List.mem_of_getElem? (i := 0) rfl)),
  List.forall_mem_cons.mpr ⟨sd_oGetR 36 1 6 1 16 RX5 TX5 7 rfl ⟨by decide, by decide⟩ rfl (by decide) rfl (fun w h => iw_36 w (uz_5 w h)) rfl (iw_36 _ zw81) (dk_36_0 (1, .getfield 16, 3) (List.mem_of_getElem? (i := 1) rfl)),
  List.forall_mem_cons.mpr ⟨sd_callV 36 4 23 0 1 55 5 [] (gdV hws_36 hws_23 zw106 zw59 zw60 zw61 zw57) hws_23 rfl (by decide +kernel) rfl rfl ⟨by decide +kernel, by decide +kernel, by decide +kernel⟩ ⟨by decide, by decide⟩ (catch_nil rfl) RX4 rfl TX4 5 rfl ⟨by decide, by decide⟩ (dk_36_0 (4, .invokevirtual 55, 3) (List.mem_of_getElem? (i := 2) rfl)),
  List.forall_mem_cons.mpr ⟨sd_iret 36 7 rfl (dk_36_0 (7, .ireturn, 1) (List.mem_of_getElem? (i := 3) rfl)),
  fun _ h => nomatch h⟩⟩⟩⟩
def tb_36 : List (List (Nat × Op1)) := [tb_36_0]
theorem sm_36 : ∀ t ∈ tb_36, ∀ q ∈ t, SM GwP MdP D A l 36 q.1 q.2 := List.forall_mem_cons.mpr ⟨sm_36_0, fun _ h => nomatch h⟩
-- 38: Marginalia.now(II)I
def dl_38_0 : List (Nat × Instr × Nat) := [(0, .aload_n 0, 1), (1, .getfield 16, 3), (4, .iload_n 1, 1), (5, .invokevirtual 81, 3), (8, .invokestatic 63, 3), (11, .aload_n 0, 1), (12, .getfield 16, 3), (15, .iload_n 1, 1), (16, .iload_n 2, 1), (17, .invokevirtual 84, 3), (20, .invokestatic 63, 3), (23, .aload_n 0, 1), (24, .getfield 16, 3), (27, .iload_n 1, 1), (28, .iload_n 2, 1), (29, .invokevirtual 91, 3), (32, .ireturn, 1)]
theorem dk_38_0 : ∀ q ∈ dl_38_0, decode (mCod (MdP 38)) q.1 = .ok q.2 := by
  rw [show mCod (MdP 38) = cX5_now from rfl]
  decide +kernel
def tb_38_0 : List (Nat × Op1) := [(0, oLdR 0 1), (1, oGetR 6 1), (4, oLdI 1 1), (5, oCallV 25 1 2 5 []), (8, oCallS 64 1 1 []), (11, oLdR 0 1), (12, oGetR 6 1), (15, oLdI 1 1), (16, oLdI 2 1), (17, oCallV 26 2 3 5 []), (20, oCallS 64 1 1 []), (23, oLdR 0 1), (24, oGetR 6 1), (27, oLdI 1 1), (28, oLdI 2 1), (29, oCallV 28 2 5 5 []), (32, oRetI)]
theorem sm_38_0 : ∀ q ∈ tb_38_0, SM GwP MdP D A l 38 q.1 q.2 :=
  List.forall_mem_cons.mpr ⟨sd_oLdR_n 38 0 0 0 rfl (dk_38_0 (0, .aload_n 0, 1) (List.mem_of_getElem? (i := 0) rfl)),
  List.forall_mem_cons.mpr ⟨sd_oGetR 38 1 6 1 16 RX5 TX5 7 rfl ⟨by decide, by decide⟩ rfl (by decide) rfl (fun w h => iw_38 w (uz_5 w h)) rfl (iw_38 _ zw81) (dk_38_0 (1, .getfield 16, 3) (List.mem_of_getElem? (i := 1) rfl)),
  List.forall_mem_cons.mpr ⟨sd_oLdI_n 38 4 1 1 rfl (dk_38_0 (4, .iload_n 1, 1) (List.mem_of_getElem? (i := 2) rfl)),
  List.forall_mem_cons.mpr ⟨sd_callV 38 5 25 1 2 81 5 [] (gdV hws_38 hws_25 zw128 zw129 zw130 zw61 zw127) hws_25 rfl (by decide +kernel) rfl rfl ⟨by decide +kernel, by decide +kernel, by decide +kernel⟩ ⟨by decide, by decide⟩ (catch_nil rfl) RX4 rfl TX4 5 rfl ⟨by decide, by decide⟩ (dk_38_0 (5, .invokevirtual 81, 3) (List.mem_of_getElem? (i := 3) rfl)),
  List.forall_mem_cons.mpr ⟨sd_callS 38 8 64 1 1 63 [] (gdS hws_38 hws_64 zw109 zw110 zw63 zw108) hws_64 rfl (by decide +kernel) rfl rfl ⟨by decide +kernel, by decide +kernel, by decide +kernel⟩ ⟨by decide, by decide⟩ (catch_nil rfl) (dk_38_0 (8, .invokestatic 63, 3) (List.mem_of_getElem? (i := 4) rfl)),
  List.forall_mem_cons.mpr ⟨sd_oLdR_n 38 11 0 0 rfl (dk_38_0 (11, .aload_n 0, 1) (List.mem_of_getElem? (i := 5) rfl)),
  List.forall_mem_cons.mpr ⟨sd_oGetR 38 12 6 1 16 RX5 TX5 7 rfl ⟨by decide, by decide⟩ rfl (by decide) rfl (fun w h => iw_38 w (uz_5 w h)) rfl (iw_38 _ zw81) (dk_38_0 (12, .getfield 16, 3) (List.mem_of_getElem? (i := 6) rfl)),
  List.forall_mem_cons.mpr ⟨sd_oLdI_n 38 15 1 1 rfl (dk_38_0 (15, .iload_n 1, 1) (List.mem_of_getElem? (i := 7) rfl)),
  List.forall_mem_cons.mpr ⟨sd_oLdI_n 38 16 2 2 rfl (dk_38_0 (16, .iload_n 2, 1) (List.mem_of_getElem? (i := 8) rfl)),
  List.forall_mem_cons.mpr ⟨sd_callV 38 17 26 2 3 84 5 [] (gdV hws_38 hws_26 zw132 zw133 zw134 zw61 zw131) hws_26 rfl (by decide +kernel) rfl rfl ⟨by decide +kernel, by decide +kernel, by decide +kernel⟩ ⟨by decide, by decide⟩ (catch_nil rfl) RX4 rfl TX4 5 rfl ⟨by decide, by decide⟩ (dk_38_0 (17, .invokevirtual 84, 3) (List.mem_of_getElem? (i := 9) rfl)),
  List.forall_mem_cons.mpr ⟨sd_callS 38 20 64 1 1 63 [] (gdS hws_38 hws_64 zw109 zw110 zw63 zw108) hws_64 rfl (by decide +kernel) rfl rfl ⟨by decide +kernel, by decide +kernel, by decide +kernel⟩ ⟨by decide, by decide⟩ (catch_nil rfl) (dk_38_0 (20, .invokestatic 63, 3) (List.mem_of_getElem? (i := 10) rfl)),
  List.forall_mem_cons.mpr ⟨sd_oLdR_n 38 23 0 0 rfl (dk_38_0 (23, .aload_n 0, 1) (List.mem_of_getElem? (i := 11) rfl)),
  List.forall_mem_cons.mpr ⟨sd_oGetR 38 24 6 1 16 RX5 TX5 7 rfl ⟨by decide, by decide⟩ rfl (by decide) rfl (fun w h => iw_38 w (uz_5 w h)) rfl (iw_38 _ zw81) (dk_38_0 (24, .getfield 16, 3) (List.mem_of_getElem? (i := 12) rfl)),
  List.forall_mem_cons.mpr ⟨sd_oLdI_n 38 27 1 1 rfl (dk_38_0 (27, .iload_n 1, 1) (List.mem_of_getElem? (i := 13) rfl)),
  List.forall_mem_cons.mpr ⟨sd_oLdI_n 38 28 2 2 rfl (dk_38_0 (28, .iload_n 2, 1) (List.mem_of_getElem? (i := 14) rfl)),
  List.forall_mem_cons.mpr ⟨sd_callV 38 29 28 2 5 91 5 [] (gdV hws_38 hws_28 zw136 zw137 zw138 zw61 zw135) hws_28 rfl (by decide +kernel) rfl rfl ⟨by decide +kernel, by decide +kernel, by decide +kernel⟩ ⟨by decide, by decide⟩ (catch_nil rfl) RX4 rfl TX4 5 rfl ⟨by decide, by decide⟩ (dk_38_0 (29, .invokevirtual 91, 3) (List.mem_of_getElem? (i := 15) rfl)),
  List.forall_mem_cons.mpr ⟨sd_iret 38 32 rfl (dk_38_0 (32, .ireturn, 1) (List.mem_of_getElem? (i := 16) rfl)),
  fun _ h => nomatch h⟩⟩⟩⟩⟩⟩⟩⟩⟩⟩⟩⟩⟩⟩⟩⟩⟩
def tb_38 : List (List (Nat × Op1)) := [tb_38_0]
theorem sm_38 : ∀ t ∈ tb_38, ∀ q ∈ t, SM GwP MdP D A l 38 q.1 q.2 := List.forall_mem_cons.mpr ⟨sm_38_0, fun _ h => nomatch h⟩
-- 39: Marginalia.version()I
def dl_39_0 : List (Nat × Instr × Nat) := [(0, .aload_n 0, 1), (1, .getfield 16, 3), (4, .getfield 94, 3), (7, .ireturn, 1)]
theorem dk_39_0 : ∀ q ∈ dl_39_0, decode (mCod (MdP 39)) q.1 = .ok q.2 := by
  rw [show mCod (MdP 39) = cX5_version from rfl]
  decide +kernel
def tb_39_0 : List (Nat × Op1) := [(0, oLdR 0 1), (1, oGetR 6 1), (4, oGetI 5 4), (7, oRetI)]
theorem sm_39_0 : ∀ q ∈ tb_39_0, SM GwP MdP D A l 39 q.1 q.2 :=
  List.forall_mem_cons.mpr ⟨sd_oLdR_n 39 0 0 0 rfl (dk_39_0 (0, .aload_n 0, 1) (List.mem_of_getElem? (i := 0) rfl)),
  List.forall_mem_cons.mpr ⟨sd_oGetR 39 1 6 1 16 RX5 TX5 7 rfl ⟨by decide, by decide⟩ rfl (by decide) rfl (fun w h => iw_39 w (uz_5 w h)) rfl (iw_39 _ zw81) (dk_39_0 (1, .getfield 16, 3) (List.mem_of_getElem? (i := 1) rfl)),
  List.forall_mem_cons.mpr ⟨sd_oGetIN 39 4 5 4 94 RX4 TX4 5 rfl ⟨by decide, by decide⟩ rfl (by decide) rfl (fun w h => iw_39 w (uz_4 w h)) rfl "Marginalia" (List.mem_of_getElem? (i := 0) rfl) (dk_39_0 (4, .getfield 94, 3) (List.mem_of_getElem? (i := 2) rfl)),
  List.forall_mem_cons.mpr ⟨sd_iret 39 7 rfl (dk_39_0 (7, .ireturn, 1) (List.mem_of_getElem? (i := 3) rfl)),
  fun _ h => nomatch h⟩⟩⟩⟩
def tb_39 : List (List (Nat × Op1)) := [tb_39_0]
theorem sm_39 : ∀ t ∈ tb_39, ∀ q ∈ t, SM GwP MdP D A l 39 q.1 q.2 := List.forall_mem_cons.mpr ⟨sm_39_0, fun _ h => nomatch h⟩
-- 40: Marginalia.note(IIIII)I
def dl_40_0 : List (Nat × Instr × Nat) := [(0, .aload_n 0, 1), (1, .iload_n 1, 1), (2, .invokevirtual 51, 3), (5, .iload_n 2, 1), (6, .ifCond .lt 23, 3), (9, .iload_n 3, 1), (10, .iload_n 2, 1), (11, .if_icmp .le 18, 3), (14, .iload_n 3, 1), (15, .aload_n 0, 1), (16, .getfield 16, 3), (19, .invokevirtual 55, 3), (22, .if_icmp .gt 7, 3), (25, .iconst 1, 1), (26, .goto 4, 3), (29, .iconst 0, 1), (30, .invokestatic 40, 3), (33, .iload 4, 2), (35, .iconst 0, 1), (36, .iconst 2, 1), (37, .invokestatic 59, 3), (40, .ifCond .eq 15, 3), (43, .iload 5, 2), (45, .invokestatic 97, 3), (48, .ifCond .eq 7, 3), (51, .iconst 1, 1), (52, .goto 4, 3), (55, .iconst 0, 1), (56, .invokestatic 40, 3), (59, .aload_n 0, 1), (60, .getfield 9, 3), (63, .iload_n 1, 1), (64, .iaload, 1), (65, .iconst 2, 1), (66, .if_icmp .lt 16, 3), (69, .aload_n 0, 1), (70, .getfield 100, 3), (73, .bipush 60, 2), (75, .if_icmp .ge 7, 3), (78, .iconst 1, 1)]
theorem dk_40_0 : ∀ q ∈ dl_40_0, decode (mCod (MdP 40)) q.1 = .ok q.2 := by
  rw [show mCod (MdP 40) = cX5_note from rfl]
  decide +kernel
def dl_40_1 : List (Nat × Instr × Nat) := [(79, .goto 4, 3), (82, .iconst 0, 1), (83, .invokestatic 48, 3), (86, .new 103, 3), (89, .dup, 1), (90, .aload_n 0, 1), (91, .getfield 100, 3), (94, .iload_n 1, 1), (95, .iload 4, 2), (97, .new 105, 3), (100, .dup, 1), (101, .iload_n 2, 1), (102, .iload_n 3, 1), (103, .invokespecial 107, 3), (106, .aload_n 0, 1), (107, .iload_n 2, 1), (108, .iload_n 3, 1), (109, .invokevirtual 109, 3), (112, .invokespecial 113, 3), (115, .astore 6, 2), (117, .aload_n 0, 1), (118, .new 20, 3), (121, .dup, 1), (122, .aload_n 0, 1), (123, .getfield 100, 3), (126, .iload_n 1, 1), (127, .iload 5, 2), (129, .aconst_null, 1), (130, .aload 6, 2), (132, .invokespecial 116, 3), (135, .invokevirtual 119, 3), (138, .ireturn, 1)]
theorem dk_40_1 : ∀ q ∈ dl_40_1, decode (mCod (MdP 40)) q.1 = .ok q.2 := by
  rw [show mCod (MdP 40) = cX5_note from rfl]
  decide +kernel
def tb_40_0 : List (Nat × Op1) := [(0, oLdR 0 1), (1, oLdI 1 1), (2, oCallV 61 1 2 6 []), (5, oLdI 2 1), (6, oZlt 29), (9, oLdI 3 1), (10, oLdI 2 1), (11, oCle 29), (14, oLdI 3 1), (15, oLdR 0 1), (16, oGetR 6 1), (19, oCallV 23 0 1 5 []), (22, oCgt 29), (25, oCI 1 1), (26, oGoto 30), (29, oCI 0 1), (30, oCallS 65 1 1 []), (33, oLdI 4 2), (35, oCI 0 1), (36, oCI 2 1), (37, oCallS 67 3 3 []), (40, oZeq 55), (43, oLdI 5 2), (45, oCallS 69 1 1 []), (48, oZeq 55), (51, oCI 1 1), (52, oGoto 56), (55, oCI 0 1), (56, oCallS 65 1 1 []), (59, oLdR 0 1), (60, oGetR 6 0), (63, oLdI 1 1)]
theorem sm_40_0 : ∀ q ∈ tb_40_0, SM GwP MdP D A l 40 q.1 q.2 :=
  List.forall_mem_cons.mpr ⟨sd_oLdR_n 40 0 0 0 rfl (dk_40_0 (0, .aload_n 0, 1) (List.mem_of_getElem? (i := 0) rfl)),
  List.forall_mem_cons.mpr ⟨sd_oLdI_n 40 1 1 1 rfl (dk_40_0 (1, .iload_n 1, 1) (List.mem_of_getElem? (i := 1) rfl)),
  List.forall_mem_cons.mpr ⟨sd_callV 40 2 61 1 2 51 6 [] (gdV hws_40 hws_61 zw103 zw104 zw105 zw63 zw102) hws_61 rfl (by decide +kernel) rfl rfl ⟨by decide +kernel, by decide +kernel, by decide +kernel⟩ ⟨by decide, by decide⟩ (catch_nil rfl) RX5 rfl TX5 7 rfl ⟨by decide, by decide⟩ (dk_40_0 (2, .invokevirtual 51, 3) (List.mem_of_getElem? (i := 2) rfl)),
  List.forall_mem_cons.mpr ⟨sd_oLdI_n 40 5 2 2 rfl (dk_40_0 (5, .iload_n 2, 1) (List.mem_of_getElem? (i := 3) rfl)),
  List.forall_mem_cons.mpr ⟨sd_if_lt 40 6 23 29 (by decide) (dk_40_0 (6, .ifCond .lt 23, 3) (List.mem_of_getElem? (i := 4) rfl)),
  List.forall_mem_cons.mpr ⟨sd_oLdI_n 40 9 3 3 rfl (dk_40_0 (9, .iload_n 3, 1) (List.mem_of_getElem? (i := 5) rfl)),
  List.forall_mem_cons.mpr ⟨sd_oLdI_n 40 10 2 2 rfl (dk_40_0 (10, .iload_n 2, 1) (List.mem_of_getElem? (i := 6) rfl)),
  List.forall_mem_cons.mpr ⟨sd_icmp_le 40 11 18 29 (by decide) (dk_40_0 (11, .if_icmp .le 18, 3) (List.mem_of_getElem? (i := 7) rfl)),
  List.forall_mem_cons.mpr ⟨sd_oLdI_n 40 14 3 3 rfl (dk_40_0 (14, .iload_n 3, 1) (List.mem_of_getElem? (i := 8) rfl)),
  List.forall_mem_cons.mpr ⟨sd_oLdR_n 40 15 0 0 rfl (dk_40_0 (15, .aload_n 0, 1) (List.mem_of_getElem? (i := 9) rfl)),
  List.forall_mem_cons.mpr ⟨sd_oGetR 40 16 6 1 16 RX5 TX5 7 rfl ⟨by decide, by decide⟩ rfl (by decide) rfl (fun w h => iw_40 w (uz_5 w h)) rfl (iw_40 _ zw81) (dk_40_0 (16, .getfield 16, 3) (List.mem_of_getElem? (i := 10) rfl)),
  List.forall_mem_cons.mpr ⟨sd_callV 40 19 23 0 1 55 5 [] (gdV hws_40 hws_23 zw106 zw59 zw60 zw61 zw57) hws_23 rfl (by decide +kernel) rfl rfl ⟨by decide +kernel, by decide +kernel, by decide +kernel⟩ ⟨by decide, by decide⟩ (catch_nil rfl) RX4 rfl TX4 5 rfl ⟨by decide, by decide⟩ (dk_40_0 (19, .invokevirtual 55, 3) (List.mem_of_getElem? (i := 11) rfl)),
  List.forall_mem_cons.mpr ⟨sd_icmp_gt 40 22 7 29 (by decide) (dk_40_0 (22, .if_icmp .gt 7, 3) (List.mem_of_getElem? (i := 12) rfl)),
  List.forall_mem_cons.mpr ⟨sd_iconst 40 25 1 ⟨by decide, by decide⟩ (dk_40_0 (25, .iconst 1, 1) (List.mem_of_getElem? (i := 13) rfl)),
  List.forall_mem_cons.mpr ⟨sd_goto 40 26 4 30 (by decide) (dk_40_0 (26, .goto 4, 3) (List.mem_of_getElem? (i := 14) rfl)),
  List.forall_mem_cons.mpr ⟨sd_iconst 40 29 0 ⟨by decide, by decide⟩ (dk_40_0 (29, .iconst 0, 1) (List.mem_of_getElem? (i := 15) rfl)),
  List.forall_mem_cons.mpr ⟨sd_callS 40 30 65 1 1 40 [] (gdS hws_40 hws_65 zw96 zw97 zw63 zw95) hws_65 rfl (by decide +kernel) rfl rfl ⟨by decide +kernel, by decide +kernel, by decide +kernel⟩ ⟨by decide, by decide⟩ (catch_nil rfl) (dk_40_0 (30, .invokestatic 40, 3) (List.mem_of_getElem? (i := 16) rfl)),
  List.forall_mem_cons.mpr ⟨sd_oLdI 40 33 4 (dk_40_0 (33, .iload 4, 2) (List.mem_of_getElem? (i := 17) rfl)),
  List.forall_mem_cons.mpr ⟨sd_iconst 40 35 0 ⟨by decide, by decide⟩ (dk_40_0 (35, .iconst 0, 1) (List.mem_of_getElem? (i := 18) rfl)),
  List.forall_mem_cons.mpr ⟨sd_iconst 40 36 2 ⟨by decide, by decide⟩ (dk_40_0 (36, .iconst 2, 1) (List.mem_of_getElem? (i := 19) rfl)),
  List.forall_mem_cons.mpr ⟨sd_callS 40 37 67 3 3 59 [] (gdS hws_40 hws_67 zw107 zw64 zw63 zw62) hws_67 rfl (by decide +kernel) rfl rfl ⟨by decide +kernel, by decide +kernel, by decide +kernel⟩ ⟨by decide, by decide⟩ (catch_nil rfl) (dk_40_0 (37, .invokestatic 59, 3) (List.mem_of_getElem? (i := 20) rfl)),
  List.forall_mem_cons.mpr ⟨sd_if_eq 40 40 15 55 (by decide) (dk_40_0 (40, .ifCond .eq 15, 3) (List.mem_of_getElem? (i := 21) rfl)),
  List.forall_mem_cons.mpr ⟨sd_oLdI 40 43 5 (dk_40_0 (43, .iload 5, 2) (List.mem_of_getElem? (i := 22) rfl)),
  List.forall_mem_cons.mpr ⟨sd_callS 40 45 69 1 1 97 [] (gdS hws_40 hws_69 zw140 zw141 zw63 zw139) hws_69 rfl (by decide +kernel) rfl rfl ⟨by decide +kernel, by decide +kernel, by decide +kernel⟩ ⟨by decide, by decide⟩ (catch_nil rfl) (dk_40_0 (45, .invokestatic 97, 3) (List.mem_of_getElem? (i := 23) rfl)),
  List.forall_mem_cons.mpr ⟨sd_if_eq 40 48 7 55 (by decide) (dk_40_0 (48, .ifCond .eq 7, 3) (List.mem_of_getElem? (i := 24) rfl)),
  List.forall_mem_cons.mpr ⟨sd_iconst 40 51 1 ⟨by decide, by decide⟩ (dk_40_0 (51, .iconst 1, 1) (List.mem_of_getElem? (i := 25) rfl)),
  List.forall_mem_cons.mpr ⟨sd_goto 40 52 4 56 (by decide) (dk_40_0 (52, .goto 4, 3) (List.mem_of_getElem? (i := 26) rfl)),
  List.forall_mem_cons.mpr ⟨sd_iconst 40 55 0 ⟨by decide, by decide⟩ (dk_40_0 (55, .iconst 0, 1) (List.mem_of_getElem? (i := 27) rfl)),
  List.forall_mem_cons.mpr ⟨sd_callS 40 56 65 1 1 40 [] (gdS hws_40 hws_65 zw96 zw97 zw63 zw95) hws_65 rfl (by decide +kernel) rfl rfl ⟨by decide +kernel, by decide +kernel, by decide +kernel⟩ ⟨by decide, by decide⟩ (catch_nil rfl) (dk_40_0 (56, .invokestatic 40, 3) (List.mem_of_getElem? (i := 28) rfl)),
  List.forall_mem_cons.mpr ⟨sd_oLdR_n 40 59 0 0 rfl (dk_40_0 (59, .aload_n 0, 1) (List.mem_of_getElem? (i := 29) rfl)),
  List.forall_mem_cons.mpr ⟨sd_oGetR 40 60 6 0 9 RX5 TX5 7 rfl ⟨by decide, by decide⟩ rfl (by decide) rfl (fun w h => iw_40 w (uz_5 w h)) rfl (iw_40 _ zw75) (dk_40_0 (60, .getfield 9, 3) (List.mem_of_getElem? (i := 30) rfl)),
  List.forall_mem_cons.mpr ⟨sd_oLdI_n 40 63 1 1 rfl (dk_40_0 (63, .iload_n 1, 1) (List.mem_of_getElem? (i := 31) rfl)),
  fun _ h => nomatch h⟩⟩⟩⟩⟩⟩⟩⟩⟩⟩⟩⟩⟩⟩⟩⟩⟩⟩⟩⟩⟩⟩⟩⟩⟩⟩⟩⟩⟩⟩⟩⟩
def tb_40_1 : List (Nat × Op1) := [(64, oALdI 10), (65, oCI 2 1), (66, oClt 82), (69, oLdR 0 1), (70, oGetI 6 6), (73, oCI 60 2), (75, oCge 82), (78, oCI 1 1), (79, oGoto 83), (82, oCI 0 1), (83, oCallS 66 1 1 []), (86, oNew 4 8), (89, oDup), (90, oLdR 0 1), (91, oGetI 6 6), (94, oLdI 1 1), (95, oLdI 4 2), (97, oNew 1 2), (100, oDup), (101, oLdI 2 1), (102, oLdI 3 1), (103, oCallV 0 2 3 1 []), (106, oLdR 0 1), (107, oLdI 2 1), (108, oLdI 3 1), (109, oCallV 74 2 5 6 []), (112, oCallV 19 5 6 4 []), (115, oStR 6 2), (117, oLdR 0 1), (118, oNew 3 10), (121, oDup), (122, oLdR 0 1), (123, oGetI 6 6), (126, oLdI 1 1), (127, oLdI 5 2)]
theorem sm_40_1 : ∀ q ∈ tb_40_1, SM GwP MdP D A l 40 q.1 q.2 :=
  List.forall_mem_cons.mpr ⟨sd_iald 40 64 (dk_40_0 (64, .iaload, 1) (List.mem_of_getElem? (i := 32) rfl)),
  List.forall_mem_cons.mpr ⟨sd_iconst 40 65 2 ⟨by decide, by decide⟩ (dk_40_0 (65, .iconst 2, 1) (List.mem_of_getElem? (i := 33) rfl)),
  List.forall_mem_cons.mpr ⟨sd_icmp_lt 40 66 16 82 (by decide) (dk_40_0 (66, .if_icmp .lt 16, 3) (List.mem_of_getElem? (i := 34) rfl)),
  List.forall_mem_cons.mpr ⟨sd_oLdR_n 40 69 0 0 rfl (dk_40_0 (69, .aload_n 0, 1) (List.mem_of_getElem? (i := 35) rfl)),
  List.forall_mem_cons.mpr ⟨sd_oGetI 40 70 6 6 100 RX5 TX5 7 rfl ⟨by decide, by decide⟩ rfl (by decide) rfl (fun w h => iw_40 w (uz_5 w h)) rfl (iw_40 _ zw142) (dk_40_0 (70, .getfield 100, 3) (List.mem_of_getElem? (i := 36) rfl)),
  List.forall_mem_cons.mpr ⟨sd_bipush 40 73 60 ⟨by decide, by decide⟩ (by decide) (dk_40_0 (73, .bipush 60, 2) (List.mem_of_getElem? (i := 37) rfl)),
  List.forall_mem_cons.mpr ⟨sd_icmp_ge 40 75 7 82 (by decide) (dk_40_0 (75, .if_icmp .ge 7, 3) (List.mem_of_getElem? (i := 38) rfl)),
  List.forall_mem_cons.mpr ⟨sd_iconst 40 78 1 ⟨by decide, by decide⟩ (dk_40_0 (78, .iconst 1, 1) (List.mem_of_getElem? (i := 39) rfl)),
  List.forall_mem_cons.mpr ⟨sd_goto 40 79 4 83 (by decide) (dk_40_1 (79, .goto 4, 3) (List.mem_of_getElem? (i := 0) rfl)),
  List.forall_mem_cons.mpr ⟨sd_iconst 40 82 0 ⟨by decide, by decide⟩ (dk_40_1 (82, .iconst 0, 1) (List.mem_of_getElem? (i := 1) rfl)),
  List.forall_mem_cons.mpr ⟨sd_callS 40 83 66 1 1 48 [] (gdS hws_40 hws_66 zw100 zw101 zw63 zw99) hws_66 rfl (by decide +kernel) rfl rfl ⟨by decide +kernel, by decide +kernel, by decide +kernel⟩ ⟨by decide, by decide⟩ (catch_nil rfl) (dk_40_1 (83, .invokestatic 48, 3) (List.mem_of_getElem? (i := 2) rfl)),
  List.forall_mem_cons.mpr ⟨sd_new 40 86 4 103 RX3 TX3 8 rfl ⟨by decide, by decide⟩ rfl (fun w h => iw_40 w (uz_3 w h)) tyX3 tyX3_ok df_3 (iw_40 _ zw143) (iw_40 _ zw144) (iw_40 _ zw145) (by decide) (dk_40_1 (86, .new 103, 3) (List.mem_of_getElem? (i := 3) rfl)),
  List.forall_mem_cons.mpr ⟨sd_dup 40 89 (dk_40_1 (89, .dup, 1) (List.mem_of_getElem? (i := 4) rfl)),
  List.forall_mem_cons.mpr ⟨sd_oLdR_n 40 90 0 0 rfl (dk_40_1 (90, .aload_n 0, 1) (List.mem_of_getElem? (i := 5) rfl)),
  List.forall_mem_cons.mpr ⟨sd_oGetI 40 91 6 6 100 RX5 TX5 7 rfl ⟨by decide, by decide⟩ rfl (by decide) rfl (fun w h => iw_40 w (uz_5 w h)) rfl (iw_40 _ zw142) (dk_40_1 (91, .getfield 100, 3) (List.mem_of_getElem? (i := 6) rfl)),
  List.forall_mem_cons.mpr ⟨sd_oLdI_n 40 94 1 1 rfl (dk_40_1 (94, .iload_n 1, 1) (List.mem_of_getElem? (i := 7) rfl)),
  List.forall_mem_cons.mpr ⟨sd_oLdI 40 95 4 (dk_40_1 (95, .iload 4, 2) (List.mem_of_getElem? (i := 8) rfl)),
  List.forall_mem_cons.mpr ⟨sd_new 40 97 1 105 RX0 TX0 2 rfl ⟨by decide, by decide⟩ rfl (fun w h => iw_40 w (uz_0 w h)) tyX0 tyX0_ok df_0 (iw_40 _ zw146) (iw_40 _ zw147) (iw_40 _ zw9) (by decide) (dk_40_1 (97, .new 105, 3) (List.mem_of_getElem? (i := 9) rfl)),
  List.forall_mem_cons.mpr ⟨sd_dup 40 100 (dk_40_1 (100, .dup, 1) (List.mem_of_getElem? (i := 10) rfl)),
  List.forall_mem_cons.mpr ⟨sd_oLdI_n 40 101 2 2 rfl (dk_40_1 (101, .iload_n 2, 1) (List.mem_of_getElem? (i := 11) rfl)),
  List.forall_mem_cons.mpr ⟨sd_oLdI_n 40 102 3 3 rfl (dk_40_1 (102, .iload_n 3, 1) (List.mem_of_getElem? (i := 12) rfl)),
  List.forall_mem_cons.mpr ⟨sd_callI 40 103 0 2 3 107 1 [] (gdI hws_40 hws_0 zw148) rfl (iw_40 _ zw9) (iw_40 _ zw149) (iw_40 _ zw150) rfl hws_0 rfl (by decide +kernel) rfl rfl ⟨by decide +kernel, by decide +kernel, by decide +kernel⟩ ⟨by decide, by decide⟩ (catch_nil rfl) RX0 TX0 2 rfl ⟨by decide, by decide⟩ (dk_40_1 (103, .invokespecial 107, 3) (List.mem_of_getElem? (i := 13) rfl)),
  List.forall_mem_cons.mpr ⟨sd_oLdR_n 40 106 0 0 rfl (dk_40_1 (106, .aload_n 0, 1) (List.mem_of_getElem? (i := 14) rfl)),
  List.forall_mem_cons.mpr ⟨sd_oLdI_n 40 107 2 2 rfl (dk_40_1 (107, .iload_n 2, 1) (List.mem_of_getElem? (i := 15) rfl)),
  List.forall_mem_cons.mpr ⟨sd_oLdI_n 40 108 3 3 rfl (dk_40_1 (108, .iload_n 3, 1) (List.mem_of_getElem? (i := 16) rfl)),
  List.forall_mem_cons.mpr ⟨sd_callV 40 109 74 2 5 109 6 [] (gdV hws_40 hws_74 zw152 zw153 zw154 zw63 zw151) hws_74 rfl (by decide +kernel) rfl rfl ⟨by decide +kernel, by decide +kernel, by decide +kernel⟩ ⟨by decide, by decide⟩ (catch_nil rfl) RX5 rfl TX5 7 rfl ⟨by decide, by decide⟩ (dk_40_1 (109, .invokevirtual 109, 3) (List.mem_of_getElem? (i := 17) rfl)),
  List.forall_mem_cons.mpr ⟨sd_callI 40 112 19 5 6 113 4 [] (gdI hws_40 hws_19 zw155) rfl (iw_40 _ zw145) (iw_40 _ zw156) (iw_40 _ zw157) rfl hws_19 rfl (by decide +kernel) rfl rfl ⟨by decide +kernel, by decide +kernel, by decide +kernel⟩ ⟨by decide, by decide⟩ (catch_nil rfl) RX3 TX3 8 rfl ⟨by decide, by decide⟩ (dk_40_1 (112, .invokespecial 113, 3) (List.mem_of_getElem? (i := 18) rfl)),
  List.forall_mem_cons.mpr ⟨sd_oStR 40 115 6 (by decide) (dk_40_1 (115, .astore 6, 2) (List.mem_of_getElem? (i := 19) rfl)),
  List.forall_mem_cons.mpr ⟨sd_oLdR_n 40 117 0 0 rfl (dk_40_1 (117, .aload_n 0, 1) (List.mem_of_getElem? (i := 20) rfl)),
  List.forall_mem_cons.mpr ⟨sd_new 40 118 3 20 RX2 TX2 10 rfl ⟨by decide, by decide⟩ rfl (fun w h => iw_40 w (uz_2 w h)) tyX2 tyX2_ok df_2 (iw_40 _ zw82) (iw_40 _ zw158) (iw_40 _ zw29) (by decide) (dk_40_1 (118, .new 20, 3) (List.mem_of_getElem? (i := 21) rfl)),
  List.forall_mem_cons.mpr ⟨sd_dup 40 121 (dk_40_1 (121, .dup, 1) (List.mem_of_getElem? (i := 22) rfl)),
  List.forall_mem_cons.mpr ⟨sd_oLdR_n 40 122 0 0 rfl (dk_40_1 (122, .aload_n 0, 1) (List.mem_of_getElem? (i := 23) rfl)),
  List.forall_mem_cons.mpr ⟨sd_oGetI 40 123 6 6 100 RX5 TX5 7 rfl ⟨by decide, by decide⟩ rfl (by decide) rfl (fun w h => iw_40 w (uz_5 w h)) rfl (iw_40 _ zw142) (dk_40_1 (123, .getfield 100, 3) (List.mem_of_getElem? (i := 24) rfl)),
  List.forall_mem_cons.mpr ⟨sd_oLdI_n 40 126 1 1 rfl (dk_40_1 (126, .iload_n 1, 1) (List.mem_of_getElem? (i := 25) rfl)),
  List.forall_mem_cons.mpr ⟨sd_oLdI 40 127 5 (dk_40_1 (127, .iload 5, 2) (List.mem_of_getElem? (i := 26) rfl)),
  fun _ h => nomatch h⟩⟩⟩⟩⟩⟩⟩⟩⟩⟩⟩⟩⟩⟩⟩⟩⟩⟩⟩⟩⟩⟩⟩⟩⟩⟩⟩⟩⟩⟩⟩⟩⟩⟩⟩
def tb_40_2 : List (Nat × Op1) := [(129, oNull), (130, oLdR 6 2), (132, oCallV 12 5 6 3 []), (135, oCallV 77 1 2 6 []), (138, oRetI)]
theorem sm_40_2 : ∀ q ∈ tb_40_2, SM GwP MdP D A l 40 q.1 q.2 :=
  List.forall_mem_cons.mpr ⟨sd_null 40 129 (dk_40_1 (129, .aconst_null, 1) (List.mem_of_getElem? (i := 27) rfl)),
  List.forall_mem_cons.mpr ⟨sd_oLdR 40 130 6 (dk_40_1 (130, .aload 6, 2) (List.mem_of_getElem? (i := 28) rfl)),
  List.forall_mem_cons.mpr ⟨sd_callI 40 132 12 5 6 116 3 [] (gdI hws_40 hws_12 zw159) rfl (iw_40 _ zw29) (iw_40 _ zw160) (iw_40 _ zw161) rfl hws_12 rfl (by decide +kernel) rfl rfl ⟨by decide +kernel, by decide +kernel, by decide +kernel⟩ ⟨by decide, by decide⟩ (catch_nil rfl) RX2 TX2 10 rfl ⟨by decide, by decide⟩ (dk_40_1 (132, .invokespecial 116, 3) (List.mem_of_getElem? (i := 29) rfl)),
  List.forall_mem_cons.mpr ⟨sd_callV 40 135 77 1 2 119 6 [] (gdV hws_40 hws_77 zw163 zw164 zw165 zw63 zw162) hws_77 rfl (by decide +kernel) rfl rfl ⟨by decide +kernel, by decide +kernel, by decide +kernel⟩ ⟨by decide, by decide⟩ (catch_nil rfl) RX5 rfl TX5 7 rfl ⟨by decide, by decide⟩ (dk_40_1 (135, .invokevirtual 119, 3) (List.mem_of_getElem? (i := 30) rfl)),
  List.forall_mem_cons.mpr ⟨sd_iret 40 138 rfl (dk_40_1 (138, .ireturn, 1) (List.mem_of_getElem? (i := 31) rfl)),
  fun _ h => nomatch h⟩⟩⟩⟩⟩
def tb_40 : List (List (Nat × Op1)) := [tb_40_0, tb_40_1, tb_40_2]
theorem sm_40 : ∀ t ∈ tb_40, ∀ q ∈ t, SM GwP MdP D A l 40 q.1 q.2 := List.forall_mem_cons.mpr ⟨sm_40_0, List.forall_mem_cons.mpr ⟨sm_40_1, List.forall_mem_cons.mpr ⟨sm_40_2, fun _ h => nomatch h⟩⟩⟩
-- 41: Marginalia.reply(III)I
def dl_41_0 : List (Nat × Instr × Nat) := [(0, .aload_n 0, 1), (1, .iload_n 1, 1), (2, .invokevirtual 51, 3), (5, .aload_n 0, 1), (6, .iload_n 2, 1), (7, .invokevirtual 123, 3), (10, .astore 4, 2), (12, .iload_n 3, 1), (13, .invokestatic 97, 3), (16, .invokestatic 40, 3), (19, .aload_n 0, 1), (20, .getfield 9, 3), (23, .iload_n 1, 1), (24, .iaload, 1), (25, .iconst 2, 1), (26, .if_icmp .lt 17, 3), (29, .aload_n 0, 1), (30, .iload_n 1, 1), (31, .aload 4, 2), (33, .invokevirtual 127, 3), (36, .ifCond .eq 7, 3), (39, .iconst 1, 1), (40, .goto 4, 3), (43, .iconst 0, 1), (44, .invokestatic 48, 3), (47, .aload 4, 2), (49, .getfield 131, 3), (52, .ifCond .ne 16, 3), (55, .aload_n 0, 1), (56, .getfield 100, 3), (59, .bipush 60, 2), (61, .if_icmp .ge 7, 3), (64, .iconst 1, 1), (65, .goto 4, 3), (68, .iconst 0, 1), (69, .invokestatic 48, 3), (72, .new 20, 3), (75, .dup, 1), (76, .aload_n 0, 1), (77, .getfield 100, 3)]
theorem dk_41_0 : ∀ q ∈ dl_41_0, decode (mCod (MdP 41)) q.1 = .ok q.2 := by
  rw [show mCod (MdP 41) = cX5_reply from rfl]
  decide +kernel
def dl_41_1 : List (Nat × Instr × Nat) := [(80, .iload_n 1, 1), (81, .iload_n 3, 1), (82, .aload 4, 2), (84, .aload 4, 2), (86, .getfield 135, 3), (89, .invokespecial 116, 3), (92, .astore 5, 2), (94, .aload 4, 2), (96, .aload 5, 2), (98, .invokevirtual 139, 3), (101, .aload 4, 2), (103, .getfield 135, 3), (106, .iconst 0, 1), (107, .putfield 143, 3), (110, .aload_n 0, 1), (111, .aload 5, 2), (113, .invokevirtual 119, 3), (116, .ireturn, 1)]
theorem dk_41_1 : ∀ q ∈ dl_41_1, decode (mCod (MdP 41)) q.1 = .ok q.2 := by
  rw [show mCod (MdP 41) = cX5_reply from rfl]
  decide +kernel
def tb_41_0 : List (Nat × Op1) := [(0, oLdR 0 1), (1, oLdI 1 1), (2, oCallV 61 1 2 6 []), (5, oLdR 0 1), (6, oLdI 2 1), (7, oCallV 63 1 3 6 []), (10, oStR 4 2), (12, oLdI 3 1), (13, oCallS 69 1 1 []), (16, oCallS 65 1 1 []), (19, oLdR 0 1), (20, oGetR 6 0), (23, oLdI 1 1), (24, oALdI 10), (25, oCI 2 1), (26, oClt 43), (29, oLdR 0 1), (30, oLdI 1 1), (31, oLdR 4 2), (33, oCallV 79 2 3 6 []), (36, oZeq 43), (39, oCI 1 1), (40, oGoto 44), (43, oCI 0 1), (44, oCallS 66 1 1 []), (47, oLdR 4 2), (49, oGetI 3 8), (52, oZne 68), (55, oLdR 0 1), (56, oGetI 6 6), (59, oCI 60 2), (61, oCge 68)]
theorem sm_41_0 : ∀ q ∈ tb_41_0, SM GwP MdP D A l 41 q.1 q.2 :=
  List.forall_mem_cons.mpr ⟨sd_oLdR_n 41 0 0 0 rfl (dk_41_0 (0, .aload_n 0, 1) (List.mem_of_getElem? (i := 0) rfl)),
  List.forall_mem_cons.mpr ⟨sd_oLdI_n 41 1 1 1 rfl (dk_41_0 (1, .iload_n 1, 1) (List.mem_of_getElem? (i := 1) rfl)),
  List.forall_mem_cons.mpr ⟨sd_callV 41 2 61 1 2 51 6 [] (gdV hws_41 hws_61 zw103 zw104 zw105 zw63 zw102) hws_61 rfl (by decide +kernel) rfl rfl ⟨by decide +kernel, by decide +kernel, by decide +kernel⟩ ⟨by decide, by decide⟩ (catch_nil rfl) RX5 rfl TX5 7 rfl ⟨by decide, by decide⟩ (dk_41_0 (2, .invokevirtual 51, 3) (List.mem_of_getElem? (i := 2) rfl)),
  List.forall_mem_cons.mpr ⟨sd_oLdR_n 41 5 0 0 rfl (dk_41_0 (5, .aload_n 0, 1) (List.mem_of_getElem? (i := 3) rfl)),
  List.forall_mem_cons.mpr ⟨sd_oLdI_n 41 6 2 2 rfl (dk_41_0 (6, .iload_n 2, 1) (List.mem_of_getElem? (i := 4) rfl)),
  List.forall_mem_cons.mpr ⟨sd_callV 41 7 63 1 3 123 6 [] (gdV hws_41 hws_63 zw167 zw168 zw169 zw63 zw166) hws_63 rfl (by decide +kernel) rfl rfl ⟨by decide +kernel, by decide +kernel, by decide +kernel⟩ ⟨by decide, by decide⟩ (catch_nil rfl) RX5 rfl TX5 7 rfl ⟨by decide, by decide⟩ (dk_41_0 (7, .invokevirtual 123, 3) (List.mem_of_getElem? (i := 5) rfl)),
  List.forall_mem_cons.mpr ⟨sd_oStR 41 10 4 (by decide) (dk_41_0 (10, .astore 4, 2) (List.mem_of_getElem? (i := 6) rfl)),
  List.forall_mem_cons.mpr ⟨sd_oLdI_n 41 12 3 3 rfl (dk_41_0 (12, .iload_n 3, 1) (List.mem_of_getElem? (i := 7) rfl)),
  List.forall_mem_cons.mpr ⟨sd_callS 41 13 69 1 1 97 [] (gdS hws_41 hws_69 zw140 zw141 zw63 zw139) hws_69 rfl (by decide +kernel) rfl rfl ⟨by decide +kernel, by decide +kernel, by decide +kernel⟩ ⟨by decide, by decide⟩ (catch_nil rfl) (dk_41_0 (13, .invokestatic 97, 3) (List.mem_of_getElem? (i := 8) rfl)),
  List.forall_mem_cons.mpr ⟨sd_callS 41 16 65 1 1 40 [] (gdS hws_41 hws_65 zw96 zw97 zw63 zw95) hws_65 rfl (by decide +kernel) rfl rfl ⟨by decide +kernel, by decide +kernel, by decide +kernel⟩ ⟨by decide, by decide⟩ (catch_nil rfl) (dk_41_0 (16, .invokestatic 40, 3) (List.mem_of_getElem? (i := 9) rfl)),
  List.forall_mem_cons.mpr ⟨sd_oLdR_n 41 19 0 0 rfl (dk_41_0 (19, .aload_n 0, 1) (List.mem_of_getElem? (i := 10) rfl)),
  List.forall_mem_cons.mpr ⟨sd_oGetR 41 20 6 0 9 RX5 TX5 7 rfl ⟨by decide, by decide⟩ rfl (by decide) rfl (fun w h => iw_41 w (uz_5 w h)) rfl (iw_41 _ zw75) (dk_41_0 (20, .getfield 9, 3) (List.mem_of_getElem? (i := 11) rfl)),
  List.forall_mem_cons.mpr ⟨sd_oLdI_n 41 23 1 1 rfl (dk_41_0 (23, .iload_n 1, 1) (List.mem_of_getElem? (i := 12) rfl)),
  List.forall_mem_cons.mpr ⟨sd_iald 41 24 (dk_41_0 (24, .iaload, 1) (List.mem_of_getElem? (i := 13) rfl)),
  List.forall_mem_cons.mpr ⟨sd_iconst 41 25 2 ⟨by decide, by decide⟩ (dk_41_0 (25, .iconst 2, 1) (List.mem_of_getElem? (i := 14) rfl)),
  List.forall_mem_cons.mpr ⟨sd_icmp_lt 41 26 17 43 (by decide) (dk_41_0 (26, .if_icmp .lt 17, 3) (List.mem_of_getElem? (i := 15) rfl)),
  List.forall_mem_cons.mpr ⟨sd_oLdR_n 41 29 0 0 rfl (dk_41_0 (29, .aload_n 0, 1) (List.mem_of_getElem? (i := 16) rfl)),
  List.forall_mem_cons.mpr ⟨sd_oLdI_n 41 30 1 1 rfl (dk_41_0 (30, .iload_n 1, 1) (List.mem_of_getElem? (i := 17) rfl)),
  List.forall_mem_cons.mpr ⟨sd_oLdR 41 31 4 (dk_41_0 (31, .aload 4, 2) (List.mem_of_getElem? (i := 18) rfl)),
  List.forall_mem_cons.mpr ⟨sd_callV 41 33 79 2 3 127 6 [] (gdV hws_41 hws_79 zw171 zw172 zw173 zw63 zw170) hws_79 rfl (by decide +kernel) rfl rfl ⟨by decide +kernel, by decide +kernel, by decide +kernel⟩ ⟨by decide, by decide⟩ (catch_nil rfl) RX5 rfl TX5 7 rfl ⟨by decide, by decide⟩ (dk_41_0 (33, .invokevirtual 127, 3) (List.mem_of_getElem? (i := 19) rfl)),
  List.forall_mem_cons.mpr ⟨sd_if_eq 41 36 7 43 (by decide) (dk_41_0 (36, .ifCond .eq 7, 3) (List.mem_of_getElem? (i := 20) rfl)),
  List.forall_mem_cons.mpr ⟨sd_iconst 41 39 1 ⟨by decide, by decide⟩ (dk_41_0 (39, .iconst 1, 1) (List.mem_of_getElem? (i := 21) rfl)),
  List.forall_mem_cons.mpr ⟨sd_goto 41 40 4 44 (by decide) (dk_41_0 (40, .goto 4, 3) (List.mem_of_getElem? (i := 22) rfl)),
  List.forall_mem_cons.mpr ⟨sd_iconst 41 43 0 ⟨by decide, by decide⟩ (dk_41_0 (43, .iconst 0, 1) (List.mem_of_getElem? (i := 23) rfl)),
  List.forall_mem_cons.mpr ⟨sd_callS 41 44 66 1 1 48 [] (gdS hws_41 hws_66 zw100 zw101 zw63 zw99) hws_66 rfl (by decide +kernel) rfl rfl ⟨by decide +kernel, by decide +kernel, by decide +kernel⟩ ⟨by decide, by decide⟩ (catch_nil rfl) (dk_41_0 (44, .invokestatic 48, 3) (List.mem_of_getElem? (i := 24) rfl)),
  List.forall_mem_cons.mpr ⟨sd_oLdR 41 47 4 (dk_41_0 (47, .aload 4, 2) (List.mem_of_getElem? (i := 25) rfl)),
  List.forall_mem_cons.mpr ⟨sd_oGetIN 41 49 3 8 131 RX2 TX2 10 rfl ⟨by decide, by decide⟩ rfl (by decide) rfl (fun w h => iw_41 w (uz_2 w h)) rfl "Marginalia" (List.mem_of_getElem? (i := 1) rfl) (dk_41_0 (49, .getfield 131, 3) (List.mem_of_getElem? (i := 26) rfl)),
  List.forall_mem_cons.mpr ⟨sd_if_ne 41 52 16 68 (by decide) (dk_41_0 (52, .ifCond .ne 16, 3) (List.mem_of_getElem? (i := 27) rfl)),
  List.forall_mem_cons.mpr ⟨sd_oLdR_n 41 55 0 0 rfl (dk_41_0 (55, .aload_n 0, 1) (List.mem_of_getElem? (i := 28) rfl)),
  List.forall_mem_cons.mpr ⟨sd_oGetI 41 56 6 6 100 RX5 TX5 7 rfl ⟨by decide, by decide⟩ rfl (by decide) rfl (fun w h => iw_41 w (uz_5 w h)) rfl (iw_41 _ zw142) (dk_41_0 (56, .getfield 100, 3) (List.mem_of_getElem? (i := 29) rfl)),
  List.forall_mem_cons.mpr ⟨sd_bipush 41 59 60 ⟨by decide, by decide⟩ (by decide) (dk_41_0 (59, .bipush 60, 2) (List.mem_of_getElem? (i := 30) rfl)),
  List.forall_mem_cons.mpr ⟨sd_icmp_ge 41 61 7 68 (by decide) (dk_41_0 (61, .if_icmp .ge 7, 3) (List.mem_of_getElem? (i := 31) rfl)),
  fun _ h => nomatch h⟩⟩⟩⟩⟩⟩⟩⟩⟩⟩⟩⟩⟩⟩⟩⟩⟩⟩⟩⟩⟩⟩⟩⟩⟩⟩⟩⟩⟩⟩⟩⟩
def tb_41_1 : List (Nat × Op1) := [(64, oCI 1 1), (65, oGoto 69), (68, oCI 0 1), (69, oCallS 66 1 1 []), (72, oNew 3 10), (75, oDup), (76, oLdR 0 1), (77, oGetI 6 6), (80, oLdI 1 1), (81, oLdI 3 1), (82, oLdR 4 2), (84, oLdR 4 2), (86, oGetR 3 5), (89, oCallV 12 5 6 3 []), (92, oStR 5 2), (94, oLdR 4 2), (96, oLdR 5 2), (98, oCallV 16 1 3 3 []), (101, oLdR 4 2), (103, oGetR 3 5), (106, oCI 0 1), (107, oPutZ 4 5), (110, oLdR 0 1), (111, oLdR 5 2), (113, oCallV 77 1 2 6 []), (116, oRetI)]
theorem sm_41_1 : ∀ q ∈ tb_41_1, SM GwP MdP D A l 41 q.1 q.2 :=
  List.forall_mem_cons.mpr ⟨sd_iconst 41 64 1 ⟨by decide, by decide⟩ (dk_41_0 (64, .iconst 1, 1) (List.mem_of_getElem? (i := 32) rfl)),
  List.forall_mem_cons.mpr ⟨sd_goto 41 65 4 69 (by decide) (dk_41_0 (65, .goto 4, 3) (List.mem_of_getElem? (i := 33) rfl)),
  List.forall_mem_cons.mpr ⟨sd_iconst 41 68 0 ⟨by decide, by decide⟩ (dk_41_0 (68, .iconst 0, 1) (List.mem_of_getElem? (i := 34) rfl)),
  List.forall_mem_cons.mpr ⟨sd_callS 41 69 66 1 1 48 [] (gdS hws_41 hws_66 zw100 zw101 zw63 zw99) hws_66 rfl (by decide +kernel) rfl rfl ⟨by decide +kernel, by decide +kernel, by decide +kernel⟩ ⟨by decide, by decide⟩ (catch_nil rfl) (dk_41_0 (69, .invokestatic 48, 3) (List.mem_of_getElem? (i := 35) rfl)),
  List.forall_mem_cons.mpr ⟨sd_new 41 72 3 20 RX2 TX2 10 rfl ⟨by decide, by decide⟩ rfl (fun w h => iw_41 w (uz_2 w h)) tyX2 tyX2_ok df_2 (iw_41 _ zw82) (iw_41 _ zw158) (iw_41 _ zw29) (by decide) (dk_41_0 (72, .new 20, 3) (List.mem_of_getElem? (i := 36) rfl)),
  List.forall_mem_cons.mpr ⟨sd_dup 41 75 (dk_41_0 (75, .dup, 1) (List.mem_of_getElem? (i := 37) rfl)),
  List.forall_mem_cons.mpr ⟨sd_oLdR_n 41 76 0 0 rfl (dk_41_0 (76, .aload_n 0, 1) (List.mem_of_getElem? (i := 38) rfl)),
  List.forall_mem_cons.mpr ⟨sd_oGetI 41 77 6 6 100 RX5 TX5 7 rfl ⟨by decide, by decide⟩ rfl (by decide) rfl (fun w h => iw_41 w (uz_5 w h)) rfl (iw_41 _ zw142) (dk_41_0 (77, .getfield 100, 3) (List.mem_of_getElem? (i := 39) rfl)),
  List.forall_mem_cons.mpr ⟨sd_oLdI_n 41 80 1 1 rfl (dk_41_1 (80, .iload_n 1, 1) (List.mem_of_getElem? (i := 0) rfl)),
  List.forall_mem_cons.mpr ⟨sd_oLdI_n 41 81 3 3 rfl (dk_41_1 (81, .iload_n 3, 1) (List.mem_of_getElem? (i := 1) rfl)),
  List.forall_mem_cons.mpr ⟨sd_oLdR 41 82 4 (dk_41_1 (82, .aload 4, 2) (List.mem_of_getElem? (i := 2) rfl)),
  List.forall_mem_cons.mpr ⟨sd_oLdR 41 84 4 (dk_41_1 (84, .aload 4, 2) (List.mem_of_getElem? (i := 3) rfl)),
  List.forall_mem_cons.mpr ⟨sd_oGetRN 41 86 3 5 135 RX2 TX2 10 rfl ⟨by decide, by decide⟩ rfl (by decide) rfl (fun w h => iw_41 w (uz_2 w h)) rfl "Marginalia" (List.mem_of_getElem? (i := 2) rfl) (dk_41_1 (86, .getfield 135, 3) (List.mem_of_getElem? (i := 4) rfl)),
  List.forall_mem_cons.mpr ⟨sd_callI 41 89 12 5 6 116 3 [] (gdI hws_41 hws_12 zw159) rfl (iw_41 _ zw29) (iw_41 _ zw160) (iw_41 _ zw161) rfl hws_12 rfl (by decide +kernel) rfl rfl ⟨by decide +kernel, by decide +kernel, by decide +kernel⟩ ⟨by decide, by decide⟩ (catch_nil rfl) RX2 TX2 10 rfl ⟨by decide, by decide⟩ (dk_41_1 (89, .invokespecial 116, 3) (List.mem_of_getElem? (i := 5) rfl)),
  List.forall_mem_cons.mpr ⟨sd_oStR 41 92 5 (by decide) (dk_41_1 (92, .astore 5, 2) (List.mem_of_getElem? (i := 6) rfl)),
  List.forall_mem_cons.mpr ⟨sd_oLdR 41 94 4 (dk_41_1 (94, .aload 4, 2) (List.mem_of_getElem? (i := 7) rfl)),
  List.forall_mem_cons.mpr ⟨sd_oLdR 41 96 5 (dk_41_1 (96, .aload 5, 2) (List.mem_of_getElem? (i := 8) rfl)),
  List.forall_mem_cons.mpr ⟨sd_callV 41 98 16 1 3 139 3 [] (gdV hws_41 hws_16 zw175 zw176 zw177 zw29 zw174) hws_16 rfl (by decide +kernel) rfl rfl ⟨by decide +kernel, by decide +kernel, by decide +kernel⟩ ⟨by decide, by decide⟩ (catch_nil rfl) RX2 rfl TX2 10 rfl ⟨by decide, by decide⟩ (dk_41_1 (98, .invokevirtual 139, 3) (List.mem_of_getElem? (i := 9) rfl)),
  List.forall_mem_cons.mpr ⟨sd_oLdR 41 101 4 (dk_41_1 (101, .aload 4, 2) (List.mem_of_getElem? (i := 10) rfl)),
  List.forall_mem_cons.mpr ⟨sd_oGetRN 41 103 3 5 135 RX2 TX2 10 rfl ⟨by decide, by decide⟩ rfl (by decide) rfl (fun w h => iw_41 w (uz_2 w h)) rfl "Marginalia" (List.mem_of_getElem? (i := 2) rfl) (dk_41_1 (103, .getfield 135, 3) (List.mem_of_getElem? (i := 11) rfl)),
  List.forall_mem_cons.mpr ⟨sd_iconst 41 106 0 ⟨by decide, by decide⟩ (dk_41_1 (106, .iconst 0, 1) (List.mem_of_getElem? (i := 12) rfl)),
  List.forall_mem_cons.mpr ⟨sd_oPutZN 41 107 4 5 143 RX3 TX3 8 rfl ⟨by decide, by decide⟩ rfl (by decide) rfl (fun w h => iw_41 w (uz_3 w h)) rfl tyX3 tyX3_ok nmX3 rfl rfl "Marginalia" (List.mem_of_getElem? (i := 3) rfl) (dk_41_1 (107, .putfield 143, 3) (List.mem_of_getElem? (i := 13) rfl)),
  List.forall_mem_cons.mpr ⟨sd_oLdR_n 41 110 0 0 rfl (dk_41_1 (110, .aload_n 0, 1) (List.mem_of_getElem? (i := 14) rfl)),
  List.forall_mem_cons.mpr ⟨sd_oLdR 41 111 5 (dk_41_1 (111, .aload 5, 2) (List.mem_of_getElem? (i := 15) rfl)),
  List.forall_mem_cons.mpr ⟨sd_callV 41 113 77 1 2 119 6 [] (gdV hws_41 hws_77 zw163 zw164 zw165 zw63 zw162) hws_77 rfl (by decide +kernel) rfl rfl ⟨by decide +kernel, by decide +kernel, by decide +kernel⟩ ⟨by decide, by decide⟩ (catch_nil rfl) RX5 rfl TX5 7 rfl ⟨by decide, by decide⟩ (dk_41_1 (113, .invokevirtual 119, 3) (List.mem_of_getElem? (i := 16) rfl)),
  List.forall_mem_cons.mpr ⟨sd_iret 41 116 rfl (dk_41_1 (116, .ireturn, 1) (List.mem_of_getElem? (i := 17) rfl)),
  fun _ h => nomatch h⟩⟩⟩⟩⟩⟩⟩⟩⟩⟩⟩⟩⟩⟩⟩⟩⟩⟩⟩⟩⟩⟩⟩⟩⟩⟩
def tb_41 : List (List (Nat × Op1)) := [tb_41_0, tb_41_1]
theorem sm_41 : ∀ t ∈ tb_41, ∀ q ∈ t, SM GwP MdP D A l 41 q.1 q.2 := List.forall_mem_cons.mpr ⟨sm_41_0, List.forall_mem_cons.mpr ⟨sm_41_1, fun _ h => nomatch h⟩⟩
-- 42: Marginalia.settle(IIZ)Z
def dl_42_0 : List (Nat × Instr × Nat) := [(0, .aload_n 0, 1), (1, .iload_n 1, 1), (2, .invokevirtual 51, 3), (5, .aload_n 0, 1), (6, .iload_n 2, 1), (7, .invokevirtual 123, 3), (10, .astore 4, 2), (12, .aload 4, 2), (14, .getfield 135, 3), (17, .astore 5, 2), (19, .aload 5, 2), (21, .getfield 146, 3), (24, .iload_n 1, 1), (25, .if_icmp .eq 13, 3), (28, .aload_n 0, 1), (29, .getfield 9, 3), (32, .iload_n 1, 1), (33, .iaload, 1), (34, .iconst 3, 1), (35, .if_icmp .lt 7, 3), (38, .iconst 1, 1), (39, .goto 4, 3), (42, .iconst 0, 1), (43, .invokestatic 48, 3), (46, .aload_n 0, 1), (47, .iload_n 1, 1), (48, .aload 4, 2), (50, .invokevirtual 127, 3), (53, .invokestatic 48, 3), (56, .aload 5, 2), (58, .getfield 143, 3), (61, .istore 6, 2), (63, .aload 5, 2), (65, .iload_n 3, 1), (66, .putfield 143, 3), (69, .iload 6, 2), (71, .ireturn, 1)]
theorem dk_42_0 : ∀ q ∈ dl_42_0, decode (mCod (MdP 42)) q.1 = .ok q.2 := by
  rw [show mCod (MdP 42) = cX5_settle from rfl]
  decide +kernel
def tb_42_0 : List (Nat × Op1) := [(0, oLdR 0 1), (1, oLdI 1 1), (2, oCallV 61 1 2 6 []), (5, oLdR 0 1), (6, oLdI 2 1), (7, oCallV 63 1 3 6 []), (10, oStR 4 2), (12, oLdR 4 2), (14, oGetR 3 5), (17, oStR 5 2), (19, oLdR 5 2), (21, oGetI 4 1), (24, oLdI 1 1), (25, oCeq 38), (28, oLdR 0 1), (29, oGetR 6 0), (32, oLdI 1 1), (33, oALdI 10), (34, oCI 3 1), (35, oClt 42), (38, oCI 1 1), (39, oGoto 43), (42, oCI 0 1), (43, oCallS 66 1 1 []), (46, oLdR 0 1), (47, oLdI 1 1), (48, oLdR 4 2), (50, oCallV 79 2 3 6 []), (53, oCallS 66 1 1 []), (56, oLdR 5 2), (58, oGetI 4 5), (61, oStI 6 2), (63, oLdR 5 2)]
theorem sm_42_0 : ∀ q ∈ tb_42_0, SM GwP MdP D A l 42 q.1 q.2 :=
  List.forall_mem_cons.mpr ⟨sd_oLdR_n 42 0 0 0 rfl (dk_42_0 (0, .aload_n 0, 1) (List.mem_of_getElem? (i := 0) rfl)),
  List.forall_mem_cons.mpr ⟨sd_oLdI_n 42 1 1 1 rfl (dk_42_0 (1, .iload_n 1, 1) (List.mem_of_getElem? (i := 1) rfl)),
  List.forall_mem_cons.mpr ⟨sd_callV 42 2 61 1 2 51 6 [] (gdV hws_42 hws_61 zw103 zw104 zw105 zw63 zw102) hws_61 rfl (by decide +kernel) rfl rfl ⟨by decide +kernel, by decide +kernel, by decide +kernel⟩ ⟨by decide, by decide⟩ (catch_nil rfl) RX5 rfl TX5 7 rfl ⟨by decide, by decide⟩ (dk_42_0 (2, .invokevirtual 51, 3) (List.mem_of_getElem? (i := 2) rfl)),
  List.forall_mem_cons.mpr ⟨sd_oLdR_n 42 5 0 0 rfl (dk_42_0 (5, .aload_n 0, 1) (List.mem_of_getElem? (i := 3) rfl)),
  List.forall_mem_cons.mpr ⟨sd_oLdI_n 42 6 2 2 rfl (dk_42_0 (6, .iload_n 2, 1) (List.mem_of_getElem? (i := 4) rfl)),
  List.forall_mem_cons.mpr ⟨sd_callV 42 7 63 1 3 123 6 [] (gdV hws_42 hws_63 zw167 zw168 zw169 zw63 zw166) hws_63 rfl (by decide +kernel) rfl rfl ⟨by decide +kernel, by decide +kernel, by decide +kernel⟩ ⟨by decide, by decide⟩ (catch_nil rfl) RX5 rfl TX5 7 rfl ⟨by decide, by decide⟩ (dk_42_0 (7, .invokevirtual 123, 3) (List.mem_of_getElem? (i := 5) rfl)),
  List.forall_mem_cons.mpr ⟨sd_oStR 42 10 4 (by decide) (dk_42_0 (10, .astore 4, 2) (List.mem_of_getElem? (i := 6) rfl)),
  List.forall_mem_cons.mpr ⟨sd_oLdR 42 12 4 (dk_42_0 (12, .aload 4, 2) (List.mem_of_getElem? (i := 7) rfl)),
  List.forall_mem_cons.mpr ⟨sd_oGetRN 42 14 3 5 135 RX2 TX2 10 rfl ⟨by decide, by decide⟩ rfl (by decide) rfl (fun w h => iw_42 w (uz_2 w h)) rfl "Marginalia" (List.mem_of_getElem? (i := 2) rfl) (dk_42_0 (14, .getfield 135, 3) (List.mem_of_getElem? (i := 8) rfl)),
  List.forall_mem_cons.mpr ⟨sd_oStR 42 17 5 (by decide) (dk_42_0 (17, .astore 5, 2) (List.mem_of_getElem? (i := 9) rfl)),
  List.forall_mem_cons.mpr ⟨sd_oLdR 42 19 5 (dk_42_0 (19, .aload 5, 2) (List.mem_of_getElem? (i := 10) rfl)),
  List.forall_mem_cons.mpr ⟨sd_oGetIN 42 21 4 1 146 RX3 TX3 8 rfl ⟨by decide, by decide⟩ rfl (by decide) rfl (fun w h => iw_42 w (uz_3 w h)) rfl "Marginalia" (List.mem_of_getElem? (i := 4) rfl) (dk_42_0 (21, .getfield 146, 3) (List.mem_of_getElem? (i := 11) rfl)),
  List.forall_mem_cons.mpr ⟨sd_oLdI_n 42 24 1 1 rfl (dk_42_0 (24, .iload_n 1, 1) (List.mem_of_getElem? (i := 12) rfl)),
  List.forall_mem_cons.mpr ⟨sd_icmp_eq 42 25 13 38 (by decide) (dk_42_0 (25, .if_icmp .eq 13, 3) (List.mem_of_getElem? (i := 13) rfl)),
  List.forall_mem_cons.mpr ⟨sd_oLdR_n 42 28 0 0 rfl (dk_42_0 (28, .aload_n 0, 1) (List.mem_of_getElem? (i := 14) rfl)),
  List.forall_mem_cons.mpr ⟨sd_oGetR 42 29 6 0 9 RX5 TX5 7 rfl ⟨by decide, by decide⟩ rfl (by decide) rfl (fun w h => iw_42 w (uz_5 w h)) rfl (iw_42 _ zw75) (dk_42_0 (29, .getfield 9, 3) (List.mem_of_getElem? (i := 15) rfl)),
  List.forall_mem_cons.mpr ⟨sd_oLdI_n 42 32 1 1 rfl (dk_42_0 (32, .iload_n 1, 1) (List.mem_of_getElem? (i := 16) rfl)),
  List.forall_mem_cons.mpr ⟨sd_iald 42 33 (dk_42_0 (33, .iaload, 1) (List.mem_of_getElem? (i := 17) rfl)),
  List.forall_mem_cons.mpr ⟨sd_iconst 42 34 3 ⟨by decide, by decide⟩ (dk_42_0 (34, .iconst 3, 1) (List.mem_of_getElem? (i := 18) rfl)),
  List.forall_mem_cons.mpr ⟨sd_icmp_lt 42 35 7 42 (by decide) (dk_42_0 (35, .if_icmp .lt 7, 3) (List.mem_of_getElem? (i := 19) rfl)),
  List.forall_mem_cons.mpr ⟨sd_iconst 42 38 1 ⟨by decide, by decide⟩ (dk_42_0 (38, .iconst 1, 1) (List.mem_of_getElem? (i := 20) rfl)),
  List.forall_mem_cons.mpr ⟨sd_goto 42 39 4 43 (by decide) (dk_42_0 (39, .goto 4, 3) (List.mem_of_getElem? (i := 21) rfl)),
  List.forall_mem_cons.mpr ⟨sd_iconst 42 42 0 ⟨by decide, by decide⟩ (dk_42_0 (42, .iconst 0, 1) (List.mem_of_getElem? (i := 22) rfl)),
  List.forall_mem_cons.mpr ⟨sd_callS 42 43 66 1 1 48 [] (gdS hws_42 hws_66 zw100 zw101 zw63 zw99) hws_66 rfl (by decide +kernel) rfl rfl ⟨by decide +kernel, by decide +kernel, by decide +kernel⟩ ⟨by decide, by decide⟩ (catch_nil rfl) (dk_42_0 (43, .invokestatic 48, 3) (List.mem_of_getElem? (i := 23) rfl)),
  List.forall_mem_cons.mpr ⟨sd_oLdR_n 42 46 0 0 rfl (dk_42_0 (46, .aload_n 0, 1) (List.mem_of_getElem? (i := 24) rfl)),
  List.forall_mem_cons.mpr ⟨sd_oLdI_n 42 47 1 1 rfl (dk_42_0 (47, .iload_n 1, 1) (List.mem_of_getElem? (i := 25) rfl)),
  List.forall_mem_cons.mpr ⟨sd_oLdR 42 48 4 (dk_42_0 (48, .aload 4, 2) (List.mem_of_getElem? (i := 26) rfl)),
  List.forall_mem_cons.mpr ⟨sd_callV 42 50 79 2 3 127 6 [] (gdV hws_42 hws_79 zw171 zw172 zw173 zw63 zw170) hws_79 rfl (by decide +kernel) rfl rfl ⟨by decide +kernel, by decide +kernel, by decide +kernel⟩ ⟨by decide, by decide⟩ (catch_nil rfl) RX5 rfl TX5 7 rfl ⟨by decide, by decide⟩ (dk_42_0 (50, .invokevirtual 127, 3) (List.mem_of_getElem? (i := 27) rfl)),
  List.forall_mem_cons.mpr ⟨sd_callS 42 53 66 1 1 48 [] (gdS hws_42 hws_66 zw100 zw101 zw63 zw99) hws_66 rfl (by decide +kernel) rfl rfl ⟨by decide +kernel, by decide +kernel, by decide +kernel⟩ ⟨by decide, by decide⟩ (catch_nil rfl) (dk_42_0 (53, .invokestatic 48, 3) (List.mem_of_getElem? (i := 28) rfl)),
  List.forall_mem_cons.mpr ⟨sd_oLdR 42 56 5 (dk_42_0 (56, .aload 5, 2) (List.mem_of_getElem? (i := 29) rfl)),
  List.forall_mem_cons.mpr ⟨sd_oGetIN 42 58 4 5 143 RX3 TX3 8 rfl ⟨by decide, by decide⟩ rfl (by decide) rfl (fun w h => iw_42 w (uz_3 w h)) rfl "Marginalia" (List.mem_of_getElem? (i := 3) rfl) (dk_42_0 (58, .getfield 143, 3) (List.mem_of_getElem? (i := 30) rfl)),
  List.forall_mem_cons.mpr ⟨sd_oStI 42 61 6 (by decide) (dk_42_0 (61, .istore 6, 2) (List.mem_of_getElem? (i := 31) rfl)),
  List.forall_mem_cons.mpr ⟨sd_oLdR 42 63 5 (dk_42_0 (63, .aload 5, 2) (List.mem_of_getElem? (i := 32) rfl)),
  fun _ h => nomatch h⟩⟩⟩⟩⟩⟩⟩⟩⟩⟩⟩⟩⟩⟩⟩⟩⟩⟩⟩⟩⟩⟩⟩⟩⟩⟩⟩⟩⟩⟩⟩⟩⟩
def tb_42_1 : List (Nat × Op1) := [(65, oLdI 3 1), (66, oPutZ 4 5), (69, oLdI 6 2), (71, oRetZ)]
theorem sm_42_1 : ∀ q ∈ tb_42_1, SM GwP MdP D A l 42 q.1 q.2 :=
  List.forall_mem_cons.mpr ⟨sd_oLdI_n 42 65 3 3 rfl (dk_42_0 (65, .iload_n 3, 1) (List.mem_of_getElem? (i := 33) rfl)),
  List.forall_mem_cons.mpr ⟨sd_oPutZN 42 66 4 5 143 RX3 TX3 8 rfl ⟨by decide, by decide⟩ rfl (by decide) rfl (fun w h => iw_42 w (uz_3 w h)) rfl tyX3 tyX3_ok nmX3 rfl rfl "Marginalia" (List.mem_of_getElem? (i := 3) rfl) (dk_42_0 (66, .putfield 143, 3) (List.mem_of_getElem? (i := 34) rfl)),
  List.forall_mem_cons.mpr ⟨sd_oLdI 42 69 6 (dk_42_0 (69, .iload 6, 2) (List.mem_of_getElem? (i := 35) rfl)),
  List.forall_mem_cons.mpr ⟨sd_zret 42 71 rfl (dk_42_0 (71, .ireturn, 1) (List.mem_of_getElem? (i := 36) rfl)),
  fun _ h => nomatch h⟩⟩⟩⟩
def tb_42 : List (List (Nat × Op1)) := [tb_42_0, tb_42_1]
theorem sm_42 : ∀ t ∈ tb_42, ∀ q ∈ t, SM GwP MdP D A l 42 q.1 q.2 := List.forall_mem_cons.mpr ⟨sm_42_0, List.forall_mem_cons.mpr ⟨sm_42_1, fun _ h => nomatch h⟩⟩
-- 43: Marginalia.remove(II)I
def dl_43_0 : List (Nat × Instr × Nat) := [(0, .aload_n 0, 1), (1, .iload_n 1, 1), (2, .invokevirtual 51, 3), (5, .aload_n 0, 1), (6, .iload_n 2, 1), (7, .invokevirtual 123, 3), (10, .astore_n 3, 1), (11, .aload_n 3, 1), (12, .getfield 149, 3), (15, .iload_n 1, 1), (16, .if_icmp .eq 13, 3), (19, .aload_n 0, 1), (20, .getfield 9, 3), (23, .iload_n 1, 1), (24, .iaload, 1), (25, .iconst 4, 1), (26, .if_icmp .ne 7, 3), (29, .iconst 1, 1), (30, .goto 4, 3), (33, .iconst 0, 1), (34, .invokestatic 48, 3), (37, .aload_n 0, 1), (38, .iload_n 1, 1), (39, .aload_n 3, 1), (40, .invokevirtual 127, 3), (43, .ifCond .eq 14, 3), (46, .aload_n 3, 1), (47, .getfield 131, 3), (50, .ifCond .ne 7, 3), (53, .iconst 1, 1), (54, .goto 4, 3), (57, .iconst 0, 1), (58, .invokestatic 48, 3), (61, .aload_n 3, 1), (62, .invokevirtual 150, 3), (65, .ireturn, 1)]
theorem dk_43_0 : ∀ q ∈ dl_43_0, decode (mCod (MdP 43)) q.1 = .ok q.2 := by
  rw [show mCod (MdP 43) = cX5_remove from rfl]
  decide +kernel
def tb_43_0 : List (Nat × Op1) := [(0, oLdR 0 1), (1, oLdI 1 1), (2, oCallV 61 1 2 6 []), (5, oLdR 0 1), (6, oLdI 2 1), (7, oCallV 63 1 3 6 []), (10, oStR 3 1), (11, oLdR 3 1), (12, oGetI 3 1), (15, oLdI 1 1), (16, oCeq 29), (19, oLdR 0 1), (20, oGetR 6 0), (23, oLdI 1 1), (24, oALdI 10), (25, oCI 4 1), (26, oCne 33), (29, oCI 1 1), (30, oGoto 34), (33, oCI 0 1), (34, oCallS 66 1 1 []), (37, oLdR 0 1), (38, oLdI 1 1), (39, oLdR 3 1), (40, oCallV 79 2 3 6 []), (43, oZeq 57), (46, oLdR 3 1), (47, oGetI 3 8), (50, oZne 57), (53, oCI 1 1), (54, oGoto 58), (57, oCI 0 1), (58, oCallS 66 1 1 []), (61, oLdR 3 1), (62, oCallV 17 0 3 3 [])]
theorem sm_43_0 : ∀ q ∈ tb_43_0, SM GwP MdP D A l 43 q.1 q.2 :=
  List.forall_mem_cons.mpr ⟨sd_oLdR_n 43 0 0 0 rfl (dk_43_0 (0, .aload_n 0, 1) (List.mem_of_getElem? (i := 0) rfl)),
  List.forall_mem_cons.mpr ⟨sd_oLdI_n 43 1 1 1 rfl (dk_43_0 (1, .iload_n 1, 1) (List.mem_of_getElem? (i := 1) rfl)),
  List.forall_mem_cons.mpr ⟨sd_callV 43 2 61 1 2 51 6 [] (gdV hws_43 hws_61 zw103 zw104 zw105 zw63 zw102) hws_61 rfl (by decide +kernel) rfl rfl ⟨by decide +kernel, by decide +kernel, by decide +kernel⟩ ⟨by decide, by decide⟩ (catch_nil rfl) RX5 rfl TX5 7 rfl ⟨by decide, by decide⟩ (dk_43_0 (2, .invokevirtual 51, 3) (List.mem_of_getElem? (i := 2) rfl)),
  List.forall_mem_cons.mpr ⟨sd_oLdR_n 43 5 0 0 rfl (dk_43_0 (5, .aload_n 0, 1) (List.mem_of_getElem? (i := 3) rfl)),
  List.forall_mem_cons.mpr ⟨sd_oLdI_n 43 6 2 2 rfl (dk_43_0 (6, .iload_n 2, 1) (List.mem_of_getElem? (i := 4) rfl)),
  List.forall_mem_cons.mpr ⟨sd_callV 43 7 63 1 3 123 6 [] (gdV hws_43 hws_63 zw167 zw168 zw169 zw63 zw166) hws_63 rfl (by decide +kernel) rfl rfl ⟨by decide +kernel, by decide +kernel, by decide +kernel⟩ ⟨by decide, by decide⟩ (catch_nil rfl) RX5 rfl TX5 7 rfl ⟨by decide, by decide⟩ (dk_43_0 (7, .invokevirtual 123, 3) (List.mem_of_getElem? (i := 5) rfl)),
  List.forall_mem_cons.mpr ⟨sd_oStR_n 43 10 3 3 rfl (by decide) (dk_43_0 (10, .astore_n 3, 1) (List.mem_of_getElem? (i := 6) rfl)),
  List.forall_mem_cons.mpr ⟨sd_oLdR_n 43 11 3 3 rfl (dk_43_0 (11, .aload_n 3, 1) (List.mem_of_getElem? (i := 7) rfl)),
  List.forall_mem_cons.mpr ⟨sd_oGetIN 43 12 3 1 149 RX2 TX2 10 rfl ⟨by decide, by decide⟩ rfl (by decide) rfl (fun w h => iw_43 w (uz_2 w h)) rfl "Marginalia" (List.mem_of_getElem? (i := 5) rfl) (dk_43_0 (12, .getfield 149, 3) (List.mem_of_getElem? (i := 8) rfl)),
  List.forall_mem_cons.mpr ⟨sd_oLdI_n 43 15 1 1 rfl (dk_43_0 (15, .iload_n 1, 1) (List.mem_of_getElem? (i := 9) rfl)),
  List.forall_mem_cons.mpr ⟨sd_icmp_eq 43 16 13 29 (by decide) (dk_43_0 (16, .if_icmp .eq 13, 3) (List.mem_of_getElem? (i := 10) rfl)),
  List.forall_mem_cons.mpr ⟨sd_oLdR_n 43 19 0 0 rfl (dk_43_0 (19, .aload_n 0, 1) (List.mem_of_getElem? (i := 11) rfl)),
  List.forall_mem_cons.mpr ⟨sd_oGetR 43 20 6 0 9 RX5 TX5 7 rfl ⟨by decide, by decide⟩ rfl (by decide) rfl (fun w h => iw_43 w (uz_5 w h)) rfl (iw_43 _ zw75) (dk_43_0 (20, .getfield 9, 3) (List.mem_of_getElem? (i := 12) rfl)),
  List.forall_mem_cons.mpr ⟨sd_oLdI_n 43 23 1 1 rfl (dk_43_0 (23, .iload_n 1, 1) (List.mem_of_getElem? (i := 13) rfl)),
  List.forall_mem_cons.mpr ⟨sd_iald 43 24 (dk_43_0 (24, .iaload, 1) (List.mem_of_getElem? (i := 14) rfl)),
  List.forall_mem_cons.mpr ⟨sd_iconst 43 25 4 ⟨by decide, by decide⟩ (dk_43_0 (25, .iconst 4, 1) (List.mem_of_getElem? (i := 15) rfl)),
  List.forall_mem_cons.mpr ⟨sd_icmp_ne 43 26 7 33 (by decide) (dk_43_0 (26, .if_icmp .ne 7, 3) (List.mem_of_getElem? (i := 16) rfl)),
  List.forall_mem_cons.mpr ⟨sd_iconst 43 29 1 ⟨by decide, by decide⟩ (dk_43_0 (29, .iconst 1, 1) (List.mem_of_getElem? (i := 17) rfl)),
  List.forall_mem_cons.mpr ⟨sd_goto 43 30 4 34 (by decide) (dk_43_0 (30, .goto 4, 3) (List.mem_of_getElem? (i := 18) rfl)),
  List.forall_mem_cons.mpr ⟨sd_iconst 43 33 0 ⟨by decide, by decide⟩ (dk_43_0 (33, .iconst 0, 1) (List.mem_of_getElem? (i := 19) rfl)),
  List.forall_mem_cons.mpr ⟨sd_callS 43 34 66 1 1 48 [] (gdS hws_43 hws_66 zw100 zw101 zw63 zw99) hws_66 rfl (by decide +kernel) rfl rfl ⟨by decide +kernel, by decide +kernel, by decide +kernel⟩ ⟨by decide, by decide⟩ (catch_nil rfl) (dk_43_0 (34, .invokestatic 48, 3) (List.mem_of_getElem? (i := 20) rfl)),
  List.forall_mem_cons.mpr ⟨sd_oLdR_n 43 37 0 0 rfl (dk_43_0 (37, .aload_n 0, 1) (List.mem_of_getElem? (i := 21) rfl)),
  List.forall_mem_cons.mpr ⟨sd_oLdI_n 43 38 1 1 rfl (dk_43_0 (38, .iload_n 1, 1) (List.mem_of_getElem? (i := 22) rfl)),
  List.forall_mem_cons.mpr ⟨sd_oLdR_n 43 39 3 3 rfl (dk_43_0 (39, .aload_n 3, 1) (List.mem_of_getElem? (i := 23) rfl)),
  List.forall_mem_cons.mpr ⟨sd_callV 43 40 79 2 3 127 6 [] (gdV hws_43 hws_79 zw171 zw172 zw173 zw63 zw170) hws_79 rfl (by decide +kernel) rfl rfl ⟨by decide +kernel, by decide +kernel, by decide +kernel⟩ ⟨by decide, by decide⟩ (catch_nil rfl) RX5 rfl TX5 7 rfl ⟨by decide, by decide⟩ (dk_43_0 (40, .invokevirtual 127, 3) (List.mem_of_getElem? (i := 24) rfl)),
  List.forall_mem_cons.mpr ⟨sd_if_eq 43 43 14 57 (by decide) (dk_43_0 (43, .ifCond .eq 14, 3) (List.mem_of_getElem? (i := 25) rfl)),
  List.forall_mem_cons.mpr ⟨sd_oLdR_n 43 46 3 3 rfl (dk_43_0 (46, .aload_n 3, 1) (List.mem_of_getElem? (i := 26) rfl)),
  List.forall_mem_cons.mpr ⟨sd_oGetIN 43 47 3 8 131 RX2 TX2 10 rfl ⟨by decide, by decide⟩ rfl (by decide) rfl (fun w h => iw_43 w (uz_2 w h)) rfl "Marginalia" (List.mem_of_getElem? (i := 1) rfl) (dk_43_0 (47, .getfield 131, 3) (List.mem_of_getElem? (i := 27) rfl)),
  List.forall_mem_cons.mpr ⟨sd_if_ne 43 50 7 57 (by decide) (dk_43_0 (50, .ifCond .ne 7, 3) (List.mem_of_getElem? (i := 28) rfl)),
  List.forall_mem_cons.mpr ⟨sd_iconst 43 53 1 ⟨by decide, by decide⟩ (dk_43_0 (53, .iconst 1, 1) (List.mem_of_getElem? (i := 29) rfl)),
  List.forall_mem_cons.mpr ⟨sd_goto 43 54 4 58 (by decide) (dk_43_0 (54, .goto 4, 3) (List.mem_of_getElem? (i := 30) rfl)),
  List.forall_mem_cons.mpr ⟨sd_iconst 43 57 0 ⟨by decide, by decide⟩ (dk_43_0 (57, .iconst 0, 1) (List.mem_of_getElem? (i := 31) rfl)),
  List.forall_mem_cons.mpr ⟨sd_callS 43 58 66 1 1 48 [] (gdS hws_43 hws_66 zw100 zw101 zw63 zw99) hws_66 rfl (by decide +kernel) rfl rfl ⟨by decide +kernel, by decide +kernel, by decide +kernel⟩ ⟨by decide, by decide⟩ (catch_nil rfl) (dk_43_0 (58, .invokestatic 48, 3) (List.mem_of_getElem? (i := 32) rfl)),
  List.forall_mem_cons.mpr ⟨sd_oLdR_n 43 61 3 3 rfl (dk_43_0 (61, .aload_n 3, 1) (List.mem_of_getElem? (i := 33) rfl)),
  List.forall_mem_cons.mpr ⟨sd_callV 43 62 17 0 3 150 3 [] (gdV hws_43 hws_17 zw179 zw180 zw181 zw29 zw178) hws_17 rfl (by decide +kernel) rfl rfl ⟨by decide +kernel, by decide +kernel, by decide +kernel⟩ ⟨by decide, by decide⟩ (catch_nil rfl) RX2 rfl TX2 10 rfl ⟨by decide, by decide⟩ (dk_43_0 (62, .invokevirtual 150, 3) (List.mem_of_getElem? (i := 34) rfl)),
  fun _ h => nomatch h⟩⟩⟩⟩⟩⟩⟩⟩⟩⟩⟩⟩⟩⟩⟩⟩⟩⟩⟩⟩⟩⟩⟩⟩⟩⟩⟩⟩⟩⟩⟩⟩⟩⟩⟩
def tb_43_1 : List (Nat × Op1) := [(65, oRetI)]
theorem sm_43_1 : ∀ q ∈ tb_43_1, SM GwP MdP D A l 43 q.1 q.2 :=
  List.forall_mem_cons.mpr ⟨sd_iret 43 65 rfl (dk_43_0 (65, .ireturn, 1) (List.mem_of_getElem? (i := 35) rfl)),
  fun _ h => nomatch h⟩
def tb_43 : List (List (Nat × Op1)) := [tb_43_0, tb_43_1]
theorem sm_43 : ∀ t ∈ tb_43, ∀ q ∈ t, SM GwP MdP D A l 43 q.1 q.2 := List.forall_mem_cons.mpr ⟨sm_43_0, List.forall_mem_cons.mpr ⟨sm_43_1, fun _ h => nomatch h⟩⟩
-- 44: Marginalia.propose(IIII)I
def dl_44_0 : List (Nat × Instr × Nat) := [(0, .aload_n 0, 1), (1, .iload_n 1, 1), (2, .invokevirtual 51, 3), (5, .aload_n 0, 1), (6, .iload_n 2, 1), (7, .invokevirtual 123, 3), (10, .astore 5, 2), (12, .aload 5, 2), (14, .invokevirtual 153, 3), (17, .ifCond .eq 28, 3), (20, .iload_n 3, 1), (21, .iconst 0, 1), (22, .bipush 40, 2), (24, .invokestatic 59, 3), (27, .ifCond .eq 18, 3), (30, .iload 4, 2), (32, .iconst 0, 1), (33, .bipush 25, 2), (35, .invokestatic 59, 3), (38, .ifCond .eq 7, 3), (41, .iconst 1, 1), (42, .goto 4, 3), (45, .iconst 0, 1), (46, .invokestatic 40, 3), (49, .aload_n 0, 1), (50, .getfield 9, 3), (53, .iload_n 1, 1), (54, .iaload, 1), (55, .iconst 2, 1), (56, .if_icmp .lt 25, 3), (59, .aload_n 0, 1), (60, .iload_n 1, 1), (61, .aload 5, 2), (63, .invokevirtual 127, 3), (66, .ifCond .eq 15, 3), (69, .aload 5, 2), (71, .getfield 131, 3), (74, .ifCond .ne 7, 3), (77, .iconst 1, 1), (78, .goto 4, 3)]
theorem dk_44_0 : ∀ q ∈ dl_44_0, decode (mCod (MdP 44)) q.1 = .ok q.2 := by
  rw [show mCod (MdP 44) = cX5_propose from rfl]
  decide +kernel
def dl_44_1 : List (Nat × Instr × Nat) := [(81, .iconst 0, 1), (82, .invokestatic 48, 3), (85, .aload 5, 2), (87, .getfield 135, 3), (90, .iload_n 3, 1), (91, .putfield 157, 3), (94, .aload 5, 2), (96, .getfield 135, 3), (99, .iload 4, 2), (101, .putfield 160, 3), (104, .aload 5, 2), (106, .getfield 163, 3), (109, .ireturn, 1)]
theorem dk_44_1 : ∀ q ∈ dl_44_1, decode (mCod (MdP 44)) q.1 = .ok q.2 := by
  rw [show mCod (MdP 44) = cX5_propose from rfl]
  decide +kernel
def tb_44_0 : List (Nat × Op1) := [(0, oLdR 0 1), (1, oLdI 1 1), (2, oCallV 61 1 2 6 []), (5, oLdR 0 1), (6, oLdI 2 1), (7, oCallV 63 1 3 6 []), (10, oStR 5 2), (12, oLdR 5 2), (14, oCallV 13 0 1 3 []), (17, oZeq 45), (20, oLdI 3 1), (21, oCI 0 1), (22, oCI 40 2), (24, oCallS 67 3 3 []), (27, oZeq 45), (30, oLdI 4 2), (32, oCI 0 1), (33, oCI 25 2), (35, oCallS 67 3 3 []), (38, oZeq 45), (41, oCI 1 1), (42, oGoto 46), (45, oCI 0 1), (46, oCallS 65 1 1 []), (49, oLdR 0 1), (50, oGetR 6 0), (53, oLdI 1 1), (54, oALdI 10), (55, oCI 2 1), (56, oClt 81), (59, oLdR 0 1), (60, oLdI 1 1), (61, oLdR 5 2), (63, oCallV 79 2 3 6 [])]
theorem sm_44_0 : ∀ q ∈ tb_44_0, SM GwP MdP D A l 44 q.1 q.2 :=
  List.forall_mem_cons.mpr ⟨sd_oLdR_n 44 0 0 0 rfl (dk_44_0 (0, .aload_n 0, 1) (List.mem_of_getElem? (i := 0) rfl)),
  List.forall_mem_cons.mpr ⟨sd_oLdI_n 44 1 1 1 rfl (dk_44_0 (1, .iload_n 1, 1) (List.mem_of_getElem? (i := 1) rfl)),
  List.forall_mem_cons.mpr ⟨sd_callV 44 2 61 1 2 51 6 [] (gdV hws_44 hws_61 zw103 zw104 zw105 zw63 zw102) hws_61 rfl (by decide +kernel) rfl rfl ⟨by decide +kernel, by decide +kernel, by decide +kernel⟩ ⟨by decide, by decide⟩ (catch_nil rfl) RX5 rfl TX5 7 rfl ⟨by decide, by decide⟩ (dk_44_0 (2, .invokevirtual 51, 3) (List.mem_of_getElem? (i := 2) rfl)),
  List.forall_mem_cons.mpr ⟨sd_oLdR_n 44 5 0 0 rfl (dk_44_0 (5, .aload_n 0, 1) (List.mem_of_getElem? (i := 3) rfl)),
  List.forall_mem_cons.mpr ⟨sd_oLdI_n 44 6 2 2 rfl (dk_44_0 (6, .iload_n 2, 1) (List.mem_of_getElem? (i := 4) rfl)),
  List.forall_mem_cons.mpr ⟨sd_callV 44 7 63 1 3 123 6 [] (gdV hws_44 hws_63 zw167 zw168 zw169 zw63 zw166) hws_63 rfl (by decide +kernel) rfl rfl ⟨by decide +kernel, by decide +kernel, by decide +kernel⟩ ⟨by decide, by decide⟩ (catch_nil rfl) RX5 rfl TX5 7 rfl ⟨by decide, by decide⟩ (dk_44_0 (7, .invokevirtual 123, 3) (List.mem_of_getElem? (i := 5) rfl)),
  List.forall_mem_cons.mpr ⟨sd_oStR 44 10 5 (by decide) (dk_44_0 (10, .astore 5, 2) (List.mem_of_getElem? (i := 6) rfl)),
  List.forall_mem_cons.mpr ⟨sd_oLdR 44 12 5 (dk_44_0 (12, .aload 5, 2) (List.mem_of_getElem? (i := 7) rfl)),
  List.forall_mem_cons.mpr ⟨sd_callV 44 14 13 0 1 153 3 [] (gdV hws_44 hws_13 zw183 zw184 zw185 zw29 zw182) hws_13 rfl (by decide +kernel) rfl rfl ⟨by decide +kernel, by decide +kernel, by decide +kernel⟩ ⟨by decide, by decide⟩ (catch_nil rfl) RX2 rfl TX2 10 rfl ⟨by decide, by decide⟩ (dk_44_0 (14, .invokevirtual 153, 3) (List.mem_of_getElem? (i := 8) rfl)),
  List.forall_mem_cons.mpr ⟨sd_if_eq 44 17 28 45 (by decide) (dk_44_0 (17, .ifCond .eq 28, 3) (List.mem_of_getElem? (i := 9) rfl)),
  List.forall_mem_cons.mpr ⟨sd_oLdI_n 44 20 3 3 rfl (dk_44_0 (20, .iload_n 3, 1) (List.mem_of_getElem? (i := 10) rfl)),
  List.forall_mem_cons.mpr ⟨sd_iconst 44 21 0 ⟨by decide, by decide⟩ (dk_44_0 (21, .iconst 0, 1) (List.mem_of_getElem? (i := 11) rfl)),
  List.forall_mem_cons.mpr ⟨sd_bipush 44 22 40 ⟨by decide, by decide⟩ (by decide) (dk_44_0 (22, .bipush 40, 2) (List.mem_of_getElem? (i := 12) rfl)),
  List.forall_mem_cons.mpr ⟨sd_callS 44 24 67 3 3 59 [] (gdS hws_44 hws_67 zw107 zw64 zw63 zw62) hws_67 rfl (by decide +kernel) rfl rfl ⟨by decide +kernel, by decide +kernel, by decide +kernel⟩ ⟨by decide, by decide⟩ (catch_nil rfl) (dk_44_0 (24, .invokestatic 59, 3) (List.mem_of_getElem? (i := 13) rfl)),
  List.forall_mem_cons.mpr ⟨sd_if_eq 44 27 18 45 (by decide) (dk_44_0 (27, .ifCond .eq 18, 3) (List.mem_of_getElem? (i := 14) rfl)),
  List.forall_mem_cons.mpr ⟨sd_oLdI 44 30 4 (dk_44_0 (30, .iload 4, 2) (List.mem_of_getElem? (i := 15) rfl)),
  List.forall_mem_cons.mpr ⟨sd_iconst 44 32 0 ⟨by decide, by decide⟩ (dk_44_0 (32, .iconst 0, 1) (List.mem_of_getElem? (i := 16) rfl)),
  List.forall_mem_cons.mpr ⟨sd_bipush 44 33 25 ⟨by decide, by decide⟩ (by decide) (dk_44_0 (33, .bipush 25, 2) (List.mem_of_getElem? (i := 17) rfl)),
  List.forall_mem_cons.mpr ⟨sd_callS 44 35 67 3 3 59 [] (gdS hws_44 hws_67 zw107 zw64 zw63 zw62) hws_67 rfl (by decide +kernel) rfl rfl ⟨by decide +kernel, by decide +kernel, by decide +kernel⟩ ⟨by decide, by decide⟩ (catch_nil rfl) (dk_44_0 (35, .invokestatic 59, 3) (List.mem_of_getElem? (i := 18) rfl)),
  List.forall_mem_cons.mpr ⟨sd_if_eq 44 38 7 45 (by decide) (dk_44_0 (38, .ifCond .eq 7, 3) (List.mem_of_getElem? (i := 19) rfl)),
  List.forall_mem_cons.mpr ⟨sd_iconst 44 41 1 ⟨by decide, by decide⟩ (dk_44_0 (41, .iconst 1, 1) (List.mem_of_getElem? (i := 20) rfl)),
  List.forall_mem_cons.mpr ⟨sd_goto 44 42 4 46 (by decide) (dk_44_0 (42, .goto 4, 3) (List.mem_of_getElem? (i := 21) rfl)),
  List.forall_mem_cons.mpr ⟨sd_iconst 44 45 0 ⟨by decide, by decide⟩ (dk_44_0 (45, .iconst 0, 1) (List.mem_of_getElem? (i := 22) rfl)),
  List.forall_mem_cons.mpr ⟨sd_callS 44 46 65 1 1 40 [] (gdS hws_44 hws_65 zw96 zw97 zw63 zw95) hws_65 rfl (by decide +kernel) rfl rfl ⟨by decide +kernel, by decide +kernel, by decide +kernel⟩ ⟨by decide, by decide⟩ (catch_nil rfl) (dk_44_0 (46, .invokestatic 40, 3) (List.mem_of_getElem? (i := 23) rfl)),
  List.forall_mem_cons.mpr ⟨sd_oLdR_n 44 49 0 0 rfl (dk_44_0 (49, .aload_n 0, 1) (List.mem_of_getElem? (i := 24) rfl)),
  List.forall_mem_cons.mpr ⟨sd_oGetR 44 50 6 0 9 RX5 TX5 7 rfl ⟨by decide, by decide⟩ rfl (by decide) rfl (fun w h => iw_44 w (uz_5 w h)) rfl (iw_44 _ zw75) (dk_44_0 (50, .getfield 9, 3) (List.mem_of_getElem? (i := 25) rfl)),
  List.forall_mem_cons.mpr ⟨sd_oLdI_n 44 53 1 1 rfl (dk_44_0 (53, .iload_n 1, 1) (List.mem_of_getElem? (i := 26) rfl)),
  List.forall_mem_cons.mpr ⟨sd_iald 44 54 (dk_44_0 (54, .iaload, 1) (List.mem_of_getElem? (i := 27) rfl)),
  List.forall_mem_cons.mpr ⟨sd_iconst 44 55 2 ⟨by decide, by decide⟩ (dk_44_0 (55, .iconst 2, 1) (List.mem_of_getElem? (i := 28) rfl)),
  List.forall_mem_cons.mpr ⟨sd_icmp_lt 44 56 25 81 (by decide) (dk_44_0 (56, .if_icmp .lt 25, 3) (List.mem_of_getElem? (i := 29) rfl)),
  List.forall_mem_cons.mpr ⟨sd_oLdR_n 44 59 0 0 rfl (dk_44_0 (59, .aload_n 0, 1) (List.mem_of_getElem? (i := 30) rfl)),
  List.forall_mem_cons.mpr ⟨sd_oLdI_n 44 60 1 1 rfl (dk_44_0 (60, .iload_n 1, 1) (List.mem_of_getElem? (i := 31) rfl)),
  List.forall_mem_cons.mpr ⟨sd_oLdR 44 61 5 (dk_44_0 (61, .aload 5, 2) (List.mem_of_getElem? (i := 32) rfl)),
  List.forall_mem_cons.mpr ⟨sd_callV 44 63 79 2 3 127 6 [] (gdV hws_44 hws_79 zw171 zw172 zw173 zw63 zw170) hws_79 rfl (by decide +kernel) rfl rfl ⟨by decide +kernel, by decide +kernel, by decide +kernel⟩ ⟨by decide, by decide⟩ (catch_nil rfl) RX5 rfl TX5 7 rfl ⟨by decide, by decide⟩ (dk_44_0 (63, .invokevirtual 127, 3) (List.mem_of_getElem? (i := 33) rfl)),
  fun _ h => nomatch h⟩⟩⟩⟩⟩⟩⟩⟩⟩⟩⟩⟩⟩⟩⟩⟩⟩⟩⟩⟩⟩⟩⟩⟩⟩⟩⟩⟩⟩⟩⟩⟩⟩⟩
def tb_44_1 : List (Nat × Op1) := [(66, oZeq 81), (69, oLdR 5 2), (71, oGetI 3 8), (74, oZne 81), (77, oCI 1 1), (78, oGoto 82), (81, oCI 0 1), (82, oCallS 66 1 1 []), (85, oLdR 5 2), (87, oGetR 3 5), (90, oLdI 3 1), (91, oPutI 4 6), (94, oLdR 5 2), (96, oGetR 3 5), (99, oLdI 4 2), (101, oPutI 4 7), (104, oLdR 5 2), (106, oGetI 3 0), (109, oRetI)]
theorem sm_44_1 : ∀ q ∈ tb_44_1, SM GwP MdP D A l 44 q.1 q.2 :=
  List.forall_mem_cons.mpr ⟨sd_if_eq 44 66 15 81 (by decide) (dk_44_0 (66, .ifCond .eq 15, 3) (List.mem_of_getElem? (i := 34) rfl)),
  List.forall_mem_cons.mpr ⟨sd_oLdR 44 69 5 (dk_44_0 (69, .aload 5, 2) (List.mem_of_getElem? (i := 35) rfl)),
  List.forall_mem_cons.mpr ⟨sd_oGetIN 44 71 3 8 131 RX2 TX2 10 rfl ⟨by decide, by decide⟩ rfl (by decide) rfl (fun w h => iw_44 w (uz_2 w h)) rfl "Marginalia" (List.mem_of_getElem? (i := 1) rfl) (dk_44_0 (71, .getfield 131, 3) (List.mem_of_getElem? (i := 36) rfl)),
  List.forall_mem_cons.mpr ⟨sd_if_ne 44 74 7 81 (by decide) (dk_44_0 (74, .ifCond .ne 7, 3) (List.mem_of_getElem? (i := 37) rfl)),
  List.forall_mem_cons.mpr ⟨sd_iconst 44 77 1 ⟨by decide, by decide⟩ (dk_44_0 (77, .iconst 1, 1) (List.mem_of_getElem? (i := 38) rfl)),
  List.forall_mem_cons.mpr ⟨sd_goto 44 78 4 82 (by decide) (dk_44_0 (78, .goto 4, 3) (List.mem_of_getElem? (i := 39) rfl)),
  List.forall_mem_cons.mpr ⟨sd_iconst 44 81 0 ⟨by decide, by decide⟩ (dk_44_1 (81, .iconst 0, 1) (List.mem_of_getElem? (i := 0) rfl)),
  List.forall_mem_cons.mpr ⟨sd_callS 44 82 66 1 1 48 [] (gdS hws_44 hws_66 zw100 zw101 zw63 zw99) hws_66 rfl (by decide +kernel) rfl rfl ⟨by decide +kernel, by decide +kernel, by decide +kernel⟩ ⟨by decide, by decide⟩ (catch_nil rfl) (dk_44_1 (82, .invokestatic 48, 3) (List.mem_of_getElem? (i := 1) rfl)),
  List.forall_mem_cons.mpr ⟨sd_oLdR 44 85 5 (dk_44_1 (85, .aload 5, 2) (List.mem_of_getElem? (i := 2) rfl)),
  List.forall_mem_cons.mpr ⟨sd_oGetRN 44 87 3 5 135 RX2 TX2 10 rfl ⟨by decide, by decide⟩ rfl (by decide) rfl (fun w h => iw_44 w (uz_2 w h)) rfl "Marginalia" (List.mem_of_getElem? (i := 2) rfl) (dk_44_1 (87, .getfield 135, 3) (List.mem_of_getElem? (i := 3) rfl)),
  List.forall_mem_cons.mpr ⟨sd_oLdI_n 44 90 3 3 rfl (dk_44_1 (90, .iload_n 3, 1) (List.mem_of_getElem? (i := 4) rfl)),
  List.forall_mem_cons.mpr ⟨sd_oPutIN 44 91 4 6 157 RX3 TX3 8 rfl ⟨by decide, by decide⟩ rfl (by decide) rfl (fun w h => iw_44 w (uz_3 w h)) rfl tyX3 tyX3_ok nmX3 rfl rfl "Marginalia" (List.mem_of_getElem? (i := 6) rfl) (dk_44_1 (91, .putfield 157, 3) (List.mem_of_getElem? (i := 5) rfl)),
  List.forall_mem_cons.mpr ⟨sd_oLdR 44 94 5 (dk_44_1 (94, .aload 5, 2) (List.mem_of_getElem? (i := 6) rfl)),
  List.forall_mem_cons.mpr ⟨sd_oGetRN 44 96 3 5 135 RX2 TX2 10 rfl ⟨by decide, by decide⟩ rfl (by decide) rfl (fun w h => iw_44 w (uz_2 w h)) rfl "Marginalia" (List.mem_of_getElem? (i := 2) rfl) (dk_44_1 (96, .getfield 135, 3) (List.mem_of_getElem? (i := 7) rfl)),
  List.forall_mem_cons.mpr ⟨sd_oLdI 44 99 4 (dk_44_1 (99, .iload 4, 2) (List.mem_of_getElem? (i := 8) rfl)),
  List.forall_mem_cons.mpr ⟨sd_oPutIN 44 101 4 7 160 RX3 TX3 8 rfl ⟨by decide, by decide⟩ rfl (by decide) rfl (fun w h => iw_44 w (uz_3 w h)) rfl tyX3 tyX3_ok nmX3 rfl rfl "Marginalia" (List.mem_of_getElem? (i := 7) rfl) (dk_44_1 (101, .putfield 160, 3) (List.mem_of_getElem? (i := 9) rfl)),
  List.forall_mem_cons.mpr ⟨sd_oLdR 44 104 5 (dk_44_1 (104, .aload 5, 2) (List.mem_of_getElem? (i := 10) rfl)),
  List.forall_mem_cons.mpr ⟨sd_oGetIN 44 106 3 0 163 RX2 TX2 10 rfl ⟨by decide, by decide⟩ rfl (by decide) rfl (fun w h => iw_44 w (uz_2 w h)) rfl "Marginalia" (List.mem_of_getElem? (i := 8) rfl) (dk_44_1 (106, .getfield 163, 3) (List.mem_of_getElem? (i := 11) rfl)),
  List.forall_mem_cons.mpr ⟨sd_iret 44 109 rfl (dk_44_1 (109, .ireturn, 1) (List.mem_of_getElem? (i := 12) rfl)),
  fun _ h => nomatch h⟩⟩⟩⟩⟩⟩⟩⟩⟩⟩⟩⟩⟩⟩⟩⟩⟩⟩⟩
def tb_44 : List (List (Nat × Op1)) := [tb_44_0, tb_44_1]
theorem sm_44 : ∀ t ∈ tb_44, ∀ q ∈ t, SM GwP MdP D A l 44 q.1 q.2 := List.forall_mem_cons.mpr ⟨sm_44_0, List.forall_mem_cons.mpr ⟨sm_44_1, fun _ h => nomatch h⟩⟩
-- 45: Marginalia.take(II)I
def dl_45_0 : List (Nat × Instr × Nat) := [(0, .aload_n 0, 1), (1, .iload_n 1, 1), (2, .invokevirtual 51, 3), (5, .aload_n 0, 1), (6, .iload_n 2, 1), (7, .invokevirtual 123, 3), (10, .astore_n 3, 1), (11, .aload_n 3, 1), (12, .invokevirtual 153, 3), (15, .invokestatic 40, 3), (18, .aload_n 0, 1), (19, .getfield 9, 3), (22, .iload_n 1, 1), (23, .iaload, 1), (24, .iconst 3, 1), (25, .if_icmp .lt 16, 3), (28, .aload_n 0, 1), (29, .iload_n 1, 1), (30, .aload_n 3, 1), (31, .invokevirtual 127, 3), (34, .ifCond .eq 7, 3), (37, .iconst 1, 1), (38, .goto 4, 3), (41, .iconst 0, 1), (42, .invokestatic 48, 3), (45, .aload_n 0, 1), (46, .aload_n 3, 1), (47, .getfield 135, 3), (50, .invokevirtual 166, 3), (53, .invokestatic 48, 3), (56, .aload_n 0, 1), (57, .aload_n 3, 1), (58, .getfield 135, 3), (61, .invokevirtual 170, 3), (64, .aload_n 0, 1), (65, .getfield 16, 3), (68, .invokevirtual 55, 3), (71, .ireturn, 1)]
theorem dk_45_0 : ∀ q ∈ dl_45_0, decode (mCod (MdP 45)) q.1 = .ok q.2 := by
  rw [show mCod (MdP 45) = cX5_take from rfl]
  decide +kernel
def tb_45_0 : List (Nat × Op1) := [(0, oLdR 0 1), (1, oLdI 1 1), (2, oCallV 61 1 2 6 []), (5, oLdR 0 1), (6, oLdI 2 1), (7, oCallV 63 1 3 6 []), (10, oStR 3 1), (11, oLdR 3 1), (12, oCallV 13 0 1 3 []), (15, oCallS 65 1 1 []), (18, oLdR 0 1), (19, oGetR 6 0), (22, oLdI 1 1), (23, oALdI 10), (24, oCI 3 1), (25, oClt 41), (28, oLdR 0 1), (29, oLdI 1 1), (30, oLdR 3 1), (31, oCallV 79 2 3 6 []), (34, oZeq 41), (37, oCI 1 1), (38, oGoto 42), (41, oCI 0 1), (42, oCallS 66 1 1 []), (45, oLdR 0 1), (46, oLdR 3 1), (47, oGetR 3 5), (50, oCallV 72 1 3 6 []), (53, oCallS 66 1 1 []), (56, oLdR 0 1), (57, oLdR 3 1), (58, oGetR 3 5), (61, oCallV 73 1 5 6 [])]
theorem sm_45_0 : ∀ q ∈ tb_45_0, SM GwP MdP D A l 45 q.1 q.2 :=
  List.forall_mem_cons.mpr ⟨sd_oLdR_n 45 0 0 0 rfl (dk_45_0 (0, .aload_n 0, 1) (List.mem_of_getElem? (i := 0) rfl)),
  List.forall_mem_cons.mpr ⟨sd_oLdI_n 45 1 1 1 rfl (dk_45_0 (1, .iload_n 1, 1) (List.mem_of_getElem? (i := 1) rfl)),
  List.forall_mem_cons.mpr ⟨sd_callV 45 2 61 1 2 51 6 [] (gdV hws_45 hws_61 zw103 zw104 zw105 zw63 zw102) hws_61 rfl (by decide +kernel) rfl rfl ⟨by decide +kernel, by decide +kernel, by decide +kernel⟩ ⟨by decide, by decide⟩ (catch_nil rfl) RX5 rfl TX5 7 rfl ⟨by decide, by decide⟩ (dk_45_0 (2, .invokevirtual 51, 3) (List.mem_of_getElem? (i := 2) rfl)),
  List.forall_mem_cons.mpr ⟨sd_oLdR_n 45 5 0 0 rfl (dk_45_0 (5, .aload_n 0, 1) (List.mem_of_getElem? (i := 3) rfl)),
  List.forall_mem_cons.mpr ⟨sd_oLdI_n 45 6 2 2 rfl (dk_45_0 (6, .iload_n 2, 1) (List.mem_of_getElem? (i := 4) rfl)),
  List.forall_mem_cons.mpr ⟨sd_callV 45 7 63 1 3 123 6 [] (gdV hws_45 hws_63 zw167 zw168 zw169 zw63 zw166) hws_63 rfl (by decide +kernel) rfl rfl ⟨by decide +kernel, by decide +kernel, by decide +kernel⟩ ⟨by decide, by decide⟩ (catch_nil rfl) RX5 rfl TX5 7 rfl ⟨by decide, by decide⟩ (dk_45_0 (7, .invokevirtual 123, 3) (List.mem_of_getElem? (i := 5) rfl)),
  List.forall_mem_cons.mpr ⟨sd_oStR_n 45 10 3 3 rfl (by decide) (dk_45_0 (10, .astore_n 3, 1) (List.mem_of_getElem? (i := 6) rfl)),
  List.forall_mem_cons.mpr ⟨sd_oLdR_n 45 11 3 3 rfl (dk_45_0 (11, .aload_n 3, 1) (List.mem_of_getElem? (i := 7) rfl)),
  List.forall_mem_cons.mpr ⟨sd_callV 45 12 13 0 1 153 3 [] (gdV hws_45 hws_13 zw183 zw184 zw185 zw29 zw182) hws_13 rfl (by decide +kernel) rfl rfl ⟨by decide +kernel, by decide +kernel, by decide +kernel⟩ ⟨by decide, by decide⟩ (catch_nil rfl) RX2 rfl TX2 10 rfl ⟨by decide, by decide⟩ (dk_45_0 (12, .invokevirtual 153, 3) (List.mem_of_getElem? (i := 8) rfl)),
  List.forall_mem_cons.mpr ⟨sd_callS 45 15 65 1 1 40 [] (gdS hws_45 hws_65 zw96 zw97 zw63 zw95) hws_65 rfl (by decide +kernel) rfl rfl ⟨by decide +kernel, by decide +kernel, by decide +kernel⟩ ⟨by decide, by decide⟩ (catch_nil rfl) (dk_45_0 (15, .invokestatic 40, 3) (List.mem_of_getElem? (i := 9) rfl)),
  List.forall_mem_cons.mpr ⟨sd_oLdR_n 45 18 0 0 rfl (dk_45_0 (18, .aload_n 0, 1) (List.mem_of_getElem? (i := 10) rfl)),
  List.forall_mem_cons.mpr ⟨sd_oGetR 45 19 6 0 9 RX5 TX5 7 rfl ⟨by decide, by decide⟩ rfl (by decide) rfl (fun w h => iw_45 w (uz_5 w h)) rfl (iw_45 _ zw75) (dk_45_0 (19, .getfield 9, 3) (List.mem_of_getElem? (i := 11) rfl)),
  List.forall_mem_cons.mpr ⟨sd_oLdI_n 45 22 1 1 rfl (dk_45_0 (22, .iload_n 1, 1) (List.mem_of_getElem? (i := 12) rfl)),
  List.forall_mem_cons.mpr ⟨sd_iald 45 23 (dk_45_0 (23, .iaload, 1) (List.mem_of_getElem? (i := 13) rfl)),
  List.forall_mem_cons.mpr ⟨sd_iconst 45 24 3 ⟨by decide, by decide⟩ (dk_45_0 (24, .iconst 3, 1) (List.mem_of_getElem? (i := 14) rfl)),
  List.forall_mem_cons.mpr ⟨sd_icmp_lt 45 25 16 41 (by decide) (dk_45_0 (25, .if_icmp .lt 16, 3) (List.mem_of_getElem? (i := 15) rfl)),
  List.forall_mem_cons.mpr ⟨sd_oLdR_n 45 28 0 0 rfl (dk_45_0 (28, .aload_n 0, 1) (List.mem_of_getElem? (i := 16) rfl)),
  List.forall_mem_cons.mpr ⟨sd_oLdI_n 45 29 1 1 rfl (dk_45_0 (29, .iload_n 1, 1) (List.mem_of_getElem? (i := 17) rfl)),
  List.forall_mem_cons.mpr ⟨sd_oLdR_n 45 30 3 3 rfl (dk_45_0 (30, .aload_n 3, 1) (List.mem_of_getElem? (i := 18) rfl)),
  List.forall_mem_cons.mpr ⟨sd_callV 45 31 79 2 3 127 6 [] (gdV hws_45 hws_79 zw171 zw172 zw173 zw63 zw170) hws_79 rfl (by decide +kernel) rfl rfl ⟨by decide +kernel, by decide +kernel, by decide +kernel⟩ ⟨by decide, by decide⟩ (catch_nil rfl) RX5 rfl TX5 7 rfl ⟨by decide, by decide⟩ (dk_45_0 (31, .invokevirtual 127, 3) (List.mem_of_getElem? (i := 19) rfl)),
  List.forall_mem_cons.mpr ⟨sd_if_eq 45 34 7 41 (by decide) (dk_45_0 (34, .ifCond .eq 7, 3) (List.mem_of_getElem? (i := 20) rfl)),
  List.forall_mem_cons.mpr ⟨sd_iconst 45 37 1 ⟨by decide, by decide⟩ (dk_45_0 (37, .iconst 1, 1) (List.mem_of_getElem? (i := 21) rfl)),
  List.forall_mem_cons.mpr ⟨sd_goto 45 38 4 42 (by decide) (dk_45_0 (38, .goto 4, 3) (List.mem_of_getElem? (i := 22) rfl)),
  List.forall_mem_cons.mpr ⟨sd_iconst 45 41 0 ⟨by decide, by decide⟩ (dk_45_0 (41, .iconst 0, 1) (List.mem_of_getElem? (i := 23) rfl)),
  List.forall_mem_cons.mpr ⟨sd_callS 45 42 66 1 1 48 [] (gdS hws_45 hws_66 zw100 zw101 zw63 zw99) hws_66 rfl (by decide +kernel) rfl rfl ⟨by decide +kernel, by decide +kernel, by decide +kernel⟩ ⟨by decide, by decide⟩ (catch_nil rfl) (dk_45_0 (42, .invokestatic 48, 3) (List.mem_of_getElem? (i := 24) rfl)),
  List.forall_mem_cons.mpr ⟨sd_oLdR_n 45 45 0 0 rfl (dk_45_0 (45, .aload_n 0, 1) (List.mem_of_getElem? (i := 25) rfl)),
  List.forall_mem_cons.mpr ⟨sd_oLdR_n 45 46 3 3 rfl (dk_45_0 (46, .aload_n 3, 1) (List.mem_of_getElem? (i := 26) rfl)),
  List.forall_mem_cons.mpr ⟨sd_oGetRN 45 47 3 5 135 RX2 TX2 10 rfl ⟨by decide, by decide⟩ rfl (by decide) rfl (fun w h => iw_45 w (uz_2 w h)) rfl "Marginalia" (List.mem_of_getElem? (i := 2) rfl) (dk_45_0 (47, .getfield 135, 3) (List.mem_of_getElem? (i := 27) rfl)),
  List.forall_mem_cons.mpr ⟨sd_callV 45 50 72 1 3 166 6 [] (gdV hws_45 hws_72 zw187 zw188 zw189 zw63 zw186) hws_72 rfl (by decide +kernel) rfl rfl ⟨by decide +kernel, by decide +kernel, by decide +kernel⟩ ⟨by decide, by decide⟩ (catch_nil rfl) RX5 rfl TX5 7 rfl ⟨by decide, by decide⟩ (dk_45_0 (50, .invokevirtual 166, 3) (List.mem_of_getElem? (i := 28) rfl)),
  List.forall_mem_cons.mpr ⟨sd_callS 45 53 66 1 1 48 [] (gdS hws_45 hws_66 zw100 zw101 zw63 zw99) hws_66 rfl (by decide +kernel) rfl rfl ⟨by decide +kernel, by decide +kernel, by decide +kernel⟩ ⟨by decide, by decide⟩ (catch_nil rfl) (dk_45_0 (53, .invokestatic 48, 3) (List.mem_of_getElem? (i := 29) rfl)),
  List.forall_mem_cons.mpr ⟨sd_oLdR_n 45 56 0 0 rfl (dk_45_0 (56, .aload_n 0, 1) (List.mem_of_getElem? (i := 30) rfl)),
  List.forall_mem_cons.mpr ⟨sd_oLdR_n 45 57 3 3 rfl (dk_45_0 (57, .aload_n 3, 1) (List.mem_of_getElem? (i := 31) rfl)),
  List.forall_mem_cons.mpr ⟨sd_oGetRN 45 58 3 5 135 RX2 TX2 10 rfl ⟨by decide, by decide⟩ rfl (by decide) rfl (fun w h => iw_45 w (uz_2 w h)) rfl "Marginalia" (List.mem_of_getElem? (i := 2) rfl) (dk_45_0 (58, .getfield 135, 3) (List.mem_of_getElem? (i := 32) rfl)),
  List.forall_mem_cons.mpr ⟨sd_callV 45 61 73 1 5 170 6 [] (gdV hws_45 hws_73 zw191 zw192 zw193 zw63 zw190) hws_73 rfl (by decide +kernel) rfl rfl ⟨by decide +kernel, by decide +kernel, by decide +kernel⟩ ⟨by decide, by decide⟩ (catch_nil rfl) RX5 rfl TX5 7 rfl ⟨by decide, by decide⟩ (dk_45_0 (61, .invokevirtual 170, 3) (List.mem_of_getElem? (i := 33) rfl)),
  fun _ h => nomatch h⟩⟩⟩⟩⟩⟩⟩⟩⟩⟩⟩⟩⟩⟩⟩⟩⟩⟩⟩⟩⟩⟩⟩⟩⟩⟩⟩⟩⟩⟩⟩⟩⟩⟩
def tb_45_1 : List (Nat × Op1) := [(64, oLdR 0 1), (65, oGetR 6 1), (68, oCallV 23 0 1 5 []), (71, oRetI)]
theorem sm_45_1 : ∀ q ∈ tb_45_1, SM GwP MdP D A l 45 q.1 q.2 :=
  List.forall_mem_cons.mpr ⟨sd_oLdR_n 45 64 0 0 rfl (dk_45_0 (64, .aload_n 0, 1) (List.mem_of_getElem? (i := 34) rfl)),
  List.forall_mem_cons.mpr ⟨sd_oGetR 45 65 6 1 16 RX5 TX5 7 rfl ⟨by decide, by decide⟩ rfl (by decide) rfl (fun w h => iw_45 w (uz_5 w h)) rfl (iw_45 _ zw81) (dk_45_0 (65, .getfield 16, 3) (List.mem_of_getElem? (i := 35) rfl)),
  List.forall_mem_cons.mpr ⟨sd_callV 45 68 23 0 1 55 5 [] (gdV hws_45 hws_23 zw106 zw59 zw60 zw61 zw57) hws_23 rfl (by decide +kernel) rfl rfl ⟨by decide +kernel, by decide +kernel, by decide +kernel⟩ ⟨by decide, by decide⟩ (catch_nil rfl) RX4 rfl TX4 5 rfl ⟨by decide, by decide⟩ (dk_45_0 (68, .invokevirtual 55, 3) (List.mem_of_getElem? (i := 36) rfl)),
  List.forall_mem_cons.mpr ⟨sd_iret 45 71 rfl (dk_45_0 (71, .ireturn, 1) (List.mem_of_getElem? (i := 37) rfl)),
  fun _ h => nomatch h⟩⟩⟩⟩
def tb_45 : List (List (Nat × Op1)) := [tb_45_0, tb_45_1]
theorem sm_45 : ∀ t ∈ tb_45, ∀ q ∈ t, SM GwP MdP D A l 45 q.1 q.2 := List.forall_mem_cons.mpr ⟨sm_45_0, List.forall_mem_cons.mpr ⟨sm_45_1, fun _ h => nomatch h⟩⟩
-- 46: Marginalia.heal()I
def dl_46_0 : List (Nat × Instr × Nat) := [(0, .iconst 0, 1), (1, .istore_n 1, 1), (2, .iconst 0, 1), (3, .istore_n 2, 1), (4, .iload_n 2, 1), (5, .aload_n 0, 1), (6, .getfield 100, 3), (9, .if_icmp .ge 40, 3), (12, .aload_n 0, 1), (13, .getfield 22, 3), (16, .iload_n 2, 1), (17, .aaload, 1), (18, .invokevirtual 174, 3), (21, .ifCond .eq 22, 3), (24, .aload_n 0, 1), (25, .aload_n 0, 1), (26, .getfield 22, 3), (29, .iload_n 2, 1), (30, .aaload, 1), (31, .getfield 135, 3), (34, .invokevirtual 177, 3), (37, .ifCond .eq 6, 3), (40, .iinc 1 1, 3), (43, .iinc 2 1, 3), (46, .goto (-42), 3), (49, .iload_n 1, 1), (50, .ireturn, 1)]
theorem dk_46_0 : ∀ q ∈ dl_46_0, decode (mCod (MdP 46)) q.1 = .ok q.2 := by
  rw [show mCod (MdP 46) = cX5_heal from rfl]
  decide +kernel
def tb_46_0 : List (Nat × Op1) := [(0, oCI 0 1), (1, oStI 1 1), (2, oCI 0 1), (3, oStI 2 1), (4, oLdI 2 1), (5, oLdR 0 1), (6, oGetI 6 6), (9, oCge 49), (12, oLdR 0 1), (13, oGetR 6 2), (16, oLdI 2 1), (17, oALdR 13), (18, oCallV 14 0 1 3 []), (21, oZeq 43), (24, oLdR 0 1), (25, oLdR 0 1), (26, oGetR 6 2), (29, oLdI 2 1), (30, oALdR 13), (31, oGetR 3 5), (34, oCallV 75 1 3 6 []), (37, oZeq 43), (40, oInc 1 1), (43, oInc 2 1), (46, oGoto 4), (49, oLdI 1 1), (50, oRetI)]
theorem sm_46_0 : ∀ q ∈ tb_46_0, SM GwP MdP D A l 46 q.1 q.2 :=
  List.forall_mem_cons.mpr ⟨sd_iconst 46 0 0 ⟨by decide, by decide⟩ (dk_46_0 (0, .iconst 0, 1) (List.mem_of_getElem? (i := 0) rfl)),
  List.forall_mem_cons.mpr ⟨sd_oStI_n 46 1 1 1 rfl (by decide) (dk_46_0 (1, .istore_n 1, 1) (List.mem_of_getElem? (i := 1) rfl)),
  List.forall_mem_cons.mpr ⟨sd_iconst 46 2 0 ⟨by decide, by decide⟩ (dk_46_0 (2, .iconst 0, 1) (List.mem_of_getElem? (i := 2) rfl)),
  List.forall_mem_cons.mpr ⟨sd_oStI_n 46 3 2 2 rfl (by decide) (dk_46_0 (3, .istore_n 2, 1) (List.mem_of_getElem? (i := 3) rfl)),
  List.forall_mem_cons.mpr ⟨sd_oLdI_n 46 4 2 2 rfl (dk_46_0 (4, .iload_n 2, 1) (List.mem_of_getElem? (i := 4) rfl)),
  List.forall_mem_cons.mpr ⟨sd_oLdR_n 46 5 0 0 rfl (dk_46_0 (5, .aload_n 0, 1) (List.mem_of_getElem? (i := 5) rfl)),
  List.forall_mem_cons.mpr ⟨sd_oGetI 46 6 6 6 100 RX5 TX5 7 rfl ⟨by decide, by decide⟩ rfl (by decide) rfl (fun w h => iw_46 w (uz_5 w h)) rfl (iw_46 _ zw142) (dk_46_0 (6, .getfield 100, 3) (List.mem_of_getElem? (i := 6) rfl)),
  List.forall_mem_cons.mpr ⟨sd_icmp_ge 46 9 40 49 (by decide) (dk_46_0 (9, .if_icmp .ge 40, 3) (List.mem_of_getElem? (i := 7) rfl)),
  List.forall_mem_cons.mpr ⟨sd_oLdR_n 46 12 0 0 rfl (dk_46_0 (12, .aload_n 0, 1) (List.mem_of_getElem? (i := 8) rfl)),
  List.forall_mem_cons.mpr ⟨sd_oGetR 46 13 6 2 22 RX5 TX5 7 rfl ⟨by decide, by decide⟩ rfl (by decide) rfl (fun w h => iw_46 w (uz_5 w h)) rfl (iw_46 _ zw83) (dk_46_0 (13, .getfield 22, 3) (List.mem_of_getElem? (i := 9) rfl)),
  List.forall_mem_cons.mpr ⟨sd_oLdI_n 46 16 2 2 rfl (dk_46_0 (16, .iload_n 2, 1) (List.mem_of_getElem? (i := 10) rfl)),
  List.forall_mem_cons.mpr ⟨sd_aaldN 46 17 (dk_46_0 (17, .aaload, 1) (List.mem_of_getElem? (i := 11) rfl)),
  List.forall_mem_cons.mpr ⟨sd_callV 46 18 14 0 1 174 3 [] (gdV hws_46 hws_14 zw195 zw196 zw197 zw29 zw194) hws_14 rfl (by decide +kernel) rfl rfl ⟨by decide +kernel, by decide +kernel, by decide +kernel⟩ ⟨by decide, by decide⟩ (catch_nil rfl) RX2 rfl TX2 10 rfl ⟨by decide, by decide⟩ (dk_46_0 (18, .invokevirtual 174, 3) (List.mem_of_getElem? (i := 12) rfl)),
  List.forall_mem_cons.mpr ⟨sd_if_eq 46 21 22 43 (by decide) (dk_46_0 (21, .ifCond .eq 22, 3) (List.mem_of_getElem? (i := 13) rfl)),
  List.forall_mem_cons.mpr ⟨sd_oLdR_n 46 24 0 0 rfl (dk_46_0 (24, .aload_n 0, 1) (List.mem_of_getElem? (i := 14) rfl)),
  List.forall_mem_cons.mpr ⟨sd_oLdR_n 46 25 0 0 rfl (dk_46_0 (25, .aload_n 0, 1) (List.mem_of_getElem? (i := 15) rfl)),
  List.forall_mem_cons.mpr ⟨sd_oGetR 46 26 6 2 22 RX5 TX5 7 rfl ⟨by decide, by decide⟩ rfl (by decide) rfl (fun w h => iw_46 w (uz_5 w h)) rfl (iw_46 _ zw83) (dk_46_0 (26, .getfield 22, 3) (List.mem_of_getElem? (i := 16) rfl)),
  List.forall_mem_cons.mpr ⟨sd_oLdI_n 46 29 2 2 rfl (dk_46_0 (29, .iload_n 2, 1) (List.mem_of_getElem? (i := 17) rfl)),
  List.forall_mem_cons.mpr ⟨sd_aaldN 46 30 (dk_46_0 (30, .aaload, 1) (List.mem_of_getElem? (i := 18) rfl)),
  List.forall_mem_cons.mpr ⟨sd_oGetRN 46 31 3 5 135 RX2 TX2 10 rfl ⟨by decide, by decide⟩ rfl (by decide) rfl (fun w h => iw_46 w (uz_2 w h)) rfl "Marginalia" (List.mem_of_getElem? (i := 2) rfl) (dk_46_0 (31, .getfield 135, 3) (List.mem_of_getElem? (i := 19) rfl)),
  List.forall_mem_cons.mpr ⟨sd_callV 46 34 75 1 3 177 6 [] (gdV hws_46 hws_75 zw199 zw200 zw201 zw63 zw198) hws_75 rfl (by decide +kernel) rfl rfl ⟨by decide +kernel, by decide +kernel, by decide +kernel⟩ ⟨by decide, by decide⟩ (catch_nil rfl) RX5 rfl TX5 7 rfl ⟨by decide, by decide⟩ (dk_46_0 (34, .invokevirtual 177, 3) (List.mem_of_getElem? (i := 20) rfl)),
  List.forall_mem_cons.mpr ⟨sd_if_eq 46 37 6 43 (by decide) (dk_46_0 (37, .ifCond .eq 6, 3) (List.mem_of_getElem? (i := 21) rfl)),
  List.forall_mem_cons.mpr ⟨sd_iinc 46 40 1 1 (by decide) (dk_46_0 (40, .iinc 1 1, 3) (List.mem_of_getElem? (i := 22) rfl)),
  List.forall_mem_cons.mpr ⟨sd_iinc 46 43 2 1 (by decide) (dk_46_0 (43, .iinc 2 1, 3) (List.mem_of_getElem? (i := 23) rfl)),
  List.forall_mem_cons.mpr ⟨sd_goto 46 46 (-42) 4 (by decide) (dk_46_0 (46, .goto (-42), 3) (List.mem_of_getElem? (i := 24) rfl)),
  List.forall_mem_cons.mpr ⟨sd_oLdI_n 46 49 1 1 rfl (dk_46_0 (49, .iload_n 1, 1) (List.mem_of_getElem? (i := 25) rfl)),
  List.forall_mem_cons.mpr ⟨sd_iret 46 50 rfl (dk_46_0 (50, .ireturn, 1) (List.mem_of_getElem? (i := 26) rfl)),
  fun _ h => nomatch h⟩⟩⟩⟩⟩⟩⟩⟩⟩⟩⟩⟩⟩⟩⟩⟩⟩⟩⟩⟩⟩⟩⟩⟩⟩⟩⟩
def tb_46 : List (List (Nat × Op1)) := [tb_46_0]
theorem sm_46 : ∀ t ∈ tb_46, ∀ q ∈ t, SM GwP MdP D A l 46 q.1 q.2 := List.forall_mem_cons.mpr ⟨sm_46_0, fun _ h => nomatch h⟩
-- 47: Marginalia.many(I)I
def dl_47_0 : List (Nat × Instr × Nat) := [(0, .iload_n 1, 1), (1, .iconst 0, 1), (2, .iconst 4, 1), (3, .invokestatic 59, 3), (6, .invokestatic 40, 3), (9, .iload_n 1, 1), (10, .ifCond .ne 8, 3), (13, .aload_n 0, 1), (14, .getfield 44, 3), (17, .ireturn, 1), (18, .iload_n 1, 1), (19, .iconst 1, 1), (20, .if_icmp .ne 10, 3), (23, .aload_n 0, 1), (24, .invokevirtual 180, 3), (27, .goto 8, 3), (30, .aload_n 0, 1), (31, .iload_n 1, 1), (32, .invokevirtual 183, 3), (35, .ireturn, 1)]
theorem dk_47_0 : ∀ q ∈ dl_47_0, decode (mCod (MdP 47)) q.1 = .ok q.2 := by
  rw [show mCod (MdP 47) = cX5_many from rfl]
  decide +kernel
def tb_47_0 : List (Nat × Op1) := [(0, oLdI 1 1), (1, oCI 0 1), (2, oCI 4 1), (3, oCallS 67 3 3 []), (6, oCallS 65 1 1 []), (9, oLdI 1 1), (10, oZne 18), (13, oLdR 0 1), (14, oGetI 6 5), (17, oRetI), (18, oLdI 1 1), (19, oCI 1 1), (20, oCne 30), (23, oLdR 0 1), (24, oCallV 80 0 3 6 []), (27, oGoto 35), (30, oLdR 0 1), (31, oLdI 1 1), (32, oCallV 81 1 4 6 []), (35, oRetI)]
theorem sm_47_0 : ∀ q ∈ tb_47_0, SM GwP MdP D A l 47 q.1 q.2 :=
  List.forall_mem_cons.mpr ⟨sd_oLdI_n 47 0 1 1 rfl (dk_47_0 (0, .iload_n 1, 1) (List.mem_of_getElem? (i := 0) rfl)),
  List.forall_mem_cons.mpr ⟨sd_iconst 47 1 0 ⟨by decide, by decide⟩ (dk_47_0 (1, .iconst 0, 1) (List.mem_of_getElem? (i := 1) rfl)),
  List.forall_mem_cons.mpr ⟨sd_iconst 47 2 4 ⟨by decide, by decide⟩ (dk_47_0 (2, .iconst 4, 1) (List.mem_of_getElem? (i := 2) rfl)),
  List.forall_mem_cons.mpr ⟨sd_callS 47 3 67 3 3 59 [] (gdS hws_47 hws_67 zw107 zw64 zw63 zw62) hws_67 rfl (by decide +kernel) rfl rfl ⟨by decide +kernel, by decide +kernel, by decide +kernel⟩ ⟨by decide, by decide⟩ (catch_nil rfl) (dk_47_0 (3, .invokestatic 59, 3) (List.mem_of_getElem? (i := 3) rfl)),
  List.forall_mem_cons.mpr ⟨sd_callS 47 6 65 1 1 40 [] (gdS hws_47 hws_65 zw96 zw97 zw63 zw95) hws_65 rfl (by decide +kernel) rfl rfl ⟨by decide +kernel, by decide +kernel, by decide +kernel⟩ ⟨by decide, by decide⟩ (catch_nil rfl) (dk_47_0 (6, .invokestatic 40, 3) (List.mem_of_getElem? (i := 4) rfl)),
  List.forall_mem_cons.mpr ⟨sd_oLdI_n 47 9 1 1 rfl (dk_47_0 (9, .iload_n 1, 1) (List.mem_of_getElem? (i := 5) rfl)),
  List.forall_mem_cons.mpr ⟨sd_if_ne 47 10 8 18 (by decide) (dk_47_0 (10, .ifCond .ne 8, 3) (List.mem_of_getElem? (i := 6) rfl)),
  List.forall_mem_cons.mpr ⟨sd_oLdR_n 47 13 0 0 rfl (dk_47_0 (13, .aload_n 0, 1) (List.mem_of_getElem? (i := 7) rfl)),
  List.forall_mem_cons.mpr ⟨sd_oGetI 47 14 6 5 44 RX5 TX5 7 rfl ⟨by decide, by decide⟩ rfl (by decide) rfl (fun w h => iw_47 w (uz_5 w h)) rfl (iw_47 _ zw98) (dk_47_0 (14, .getfield 44, 3) (List.mem_of_getElem? (i := 8) rfl)),
  List.forall_mem_cons.mpr ⟨sd_iret 47 17 rfl (dk_47_0 (17, .ireturn, 1) (List.mem_of_getElem? (i := 9) rfl)),
  List.forall_mem_cons.mpr ⟨sd_oLdI_n 47 18 1 1 rfl (dk_47_0 (18, .iload_n 1, 1) (List.mem_of_getElem? (i := 10) rfl)),
  List.forall_mem_cons.mpr ⟨sd_iconst 47 19 1 ⟨by decide, by decide⟩ (dk_47_0 (19, .iconst 1, 1) (List.mem_of_getElem? (i := 11) rfl)),
  List.forall_mem_cons.mpr ⟨sd_icmp_ne 47 20 10 30 (by decide) (dk_47_0 (20, .if_icmp .ne 10, 3) (List.mem_of_getElem? (i := 12) rfl)),
  List.forall_mem_cons.mpr ⟨sd_oLdR_n 47 23 0 0 rfl (dk_47_0 (23, .aload_n 0, 1) (List.mem_of_getElem? (i := 13) rfl)),
  List.forall_mem_cons.mpr ⟨sd_callV 47 24 80 0 3 180 6 [] (gdV hws_47 hws_80 zw203 zw204 zw205 zw63 zw202) hws_80 rfl (by decide +kernel) rfl rfl ⟨by decide +kernel, by decide +kernel, by decide +kernel⟩ ⟨by decide, by decide⟩ (catch_nil rfl) RX5 rfl TX5 7 rfl ⟨by decide, by decide⟩ (dk_47_0 (24, .invokevirtual 180, 3) (List.mem_of_getElem? (i := 14) rfl)),
  List.forall_mem_cons.mpr ⟨sd_goto 47 27 8 35 (by decide) (dk_47_0 (27, .goto 8, 3) (List.mem_of_getElem? (i := 15) rfl)),
  List.forall_mem_cons.mpr ⟨sd_oLdR_n 47 30 0 0 rfl (dk_47_0 (30, .aload_n 0, 1) (List.mem_of_getElem? (i := 16) rfl)),
  List.forall_mem_cons.mpr ⟨sd_oLdI_n 47 31 1 1 rfl (dk_47_0 (31, .iload_n 1, 1) (List.mem_of_getElem? (i := 17) rfl)),
  List.forall_mem_cons.mpr ⟨sd_callV 47 32 81 1 4 183 6 [] (gdV hws_47 hws_81 zw207 zw208 zw209 zw63 zw206) hws_81 rfl (by decide +kernel) rfl rfl ⟨by decide +kernel, by decide +kernel, by decide +kernel⟩ ⟨by decide, by decide⟩ (catch_nil rfl) RX5 rfl TX5 7 rfl ⟨by decide, by decide⟩ (dk_47_0 (32, .invokevirtual 183, 3) (List.mem_of_getElem? (i := 18) rfl)),
  List.forall_mem_cons.mpr ⟨sd_iret 47 35 rfl (dk_47_0 (35, .ireturn, 1) (List.mem_of_getElem? (i := 19) rfl)),
  fun _ h => nomatch h⟩⟩⟩⟩⟩⟩⟩⟩⟩⟩⟩⟩⟩⟩⟩⟩⟩⟩⟩⟩
def tb_47 : List (List (Nat × Op1)) := [tb_47_0]
theorem sm_47 : ∀ t ∈ tb_47, ∀ q ∈ t, SM GwP MdP D A l 47 q.1 q.2 := List.forall_mem_cons.mpr ⟨sm_47_0, fun _ h => nomatch h⟩
-- 48: Marginalia.right(I)I
def dl_48_0 : List (Nat × Instr × Nat) := [(0, .aload_n 0, 1), (1, .iload_n 1, 1), (2, .invokevirtual 51, 3), (5, .aload_n 0, 1), (6, .getfield 9, 3), (9, .iload_n 1, 1), (10, .iaload, 1), (11, .ireturn, 1)]
theorem dk_48_0 : ∀ q ∈ dl_48_0, decode (mCod (MdP 48)) q.1 = .ok q.2 := by
  rw [show mCod (MdP 48) = cX5_right from rfl]
  decide +kernel
def tb_48_0 : List (Nat × Op1) := [(0, oLdR 0 1), (1, oLdI 1 1), (2, oCallV 61 1 2 6 []), (5, oLdR 0 1), (6, oGetR 6 0), (9, oLdI 1 1), (10, oALdI 10), (11, oRetI)]
theorem sm_48_0 : ∀ q ∈ tb_48_0, SM GwP MdP D A l 48 q.1 q.2 :=
  List.forall_mem_cons.mpr ⟨sd_oLdR_n 48 0 0 0 rfl (dk_48_0 (0, .aload_n 0, 1) (List.mem_of_getElem? (i := 0) rfl)),
  List.forall_mem_cons.mpr ⟨sd_oLdI_n 48 1 1 1 rfl (dk_48_0 (1, .iload_n 1, 1) (List.mem_of_getElem? (i := 1) rfl)),
  List.forall_mem_cons.mpr ⟨sd_callV 48 2 61 1 2 51 6 [] (gdV hws_48 hws_61 zw103 zw104 zw105 zw63 zw102) hws_61 rfl (by decide +kernel) rfl rfl ⟨by decide +kernel, by decide +kernel, by decide +kernel⟩ ⟨by decide, by decide⟩ (catch_nil rfl) RX5 rfl TX5 7 rfl ⟨by decide, by decide⟩ (dk_48_0 (2, .invokevirtual 51, 3) (List.mem_of_getElem? (i := 2) rfl)),
  List.forall_mem_cons.mpr ⟨sd_oLdR_n 48 5 0 0 rfl (dk_48_0 (5, .aload_n 0, 1) (List.mem_of_getElem? (i := 3) rfl)),
  List.forall_mem_cons.mpr ⟨sd_oGetR 48 6 6 0 9 RX5 TX5 7 rfl ⟨by decide, by decide⟩ rfl (by decide) rfl (fun w h => iw_48 w (uz_5 w h)) rfl (iw_48 _ zw75) (dk_48_0 (6, .getfield 9, 3) (List.mem_of_getElem? (i := 4) rfl)),
  List.forall_mem_cons.mpr ⟨sd_oLdI_n 48 9 1 1 rfl (dk_48_0 (9, .iload_n 1, 1) (List.mem_of_getElem? (i := 5) rfl)),
  List.forall_mem_cons.mpr ⟨sd_iald 48 10 (dk_48_0 (10, .iaload, 1) (List.mem_of_getElem? (i := 6) rfl)),
  List.forall_mem_cons.mpr ⟨sd_iret 48 11 rfl (dk_48_0 (11, .ireturn, 1) (List.mem_of_getElem? (i := 7) rfl)),
  fun _ h => nomatch h⟩⟩⟩⟩⟩⟩⟩⟩
def tb_48 : List (List (Nat × Op1)) := [tb_48_0]
theorem sm_48 : ∀ t ∈ tb_48, ∀ q ∈ t, SM GwP MdP D A l 48 q.1 q.2 := List.forall_mem_cons.mpr ⟨sm_48_0, fun _ h => nomatch h⟩
-- 49: Marginalia.ofNote(II)I
def dl_49_0 : List (Nat × Instr × Nat) := [(0, .aload_n 0, 1), (1, .iload_n 1, 1), (2, .invokevirtual 123, 3), (5, .astore_n 3, 1), (6, .iload_n 2, 1), (7, .iconst 0, 1), (8, .bipush 10, 2), (10, .invokestatic 59, 3), (13, .invokestatic 40, 3), (16, .aload_n 3, 1), (17, .iload_n 2, 1), (18, .invokevirtual 187, 3), (21, .ireturn, 1)]
theorem dk_49_0 : ∀ q ∈ dl_49_0, decode (mCod (MdP 49)) q.1 = .ok q.2 := by
  rw [show mCod (MdP 49) = cX5_ofNote from rfl]
  decide +kernel
def tb_49_0 : List (Nat × Op1) := [(0, oLdR 0 1), (1, oLdI 1 1), (2, oCallV 63 1 3 6 []), (5, oStR 3 1), (6, oLdI 2 1), (7, oCI 0 1), (8, oCI 10 2), (10, oCallS 67 3 3 []), (13, oCallS 65 1 1 []), (16, oLdR 3 1), (17, oLdI 2 1), (18, oCallV 18 1 2 3 []), (21, oRetI)]
theorem sm_49_0 : ∀ q ∈ tb_49_0, SM GwP MdP D A l 49 q.1 q.2 :=
  List.forall_mem_cons.mpr ⟨sd_oLdR_n 49 0 0 0 rfl (dk_49_0 (0, .aload_n 0, 1) (List.mem_of_getElem? (i := 0) rfl)),
  List.forall_mem_cons.mpr ⟨sd_oLdI_n 49 1 1 1 rfl (dk_49_0 (1, .iload_n 1, 1) (List.mem_of_getElem? (i := 1) rfl)),
  List.forall_mem_cons.mpr ⟨sd_callV 49 2 63 1 3 123 6 [] (gdV hws_49 hws_63 zw167 zw168 zw169 zw63 zw166) hws_63 rfl (by decide +kernel) rfl rfl ⟨by decide +kernel, by decide +kernel, by decide +kernel⟩ ⟨by decide, by decide⟩ (catch_nil rfl) RX5 rfl TX5 7 rfl ⟨by decide, by decide⟩ (dk_49_0 (2, .invokevirtual 123, 3) (List.mem_of_getElem? (i := 2) rfl)),
  List.forall_mem_cons.mpr ⟨sd_oStR_n 49 5 3 3 rfl (by decide) (dk_49_0 (5, .astore_n 3, 1) (List.mem_of_getElem? (i := 3) rfl)),
  List.forall_mem_cons.mpr ⟨sd_oLdI_n 49 6 2 2 rfl (dk_49_0 (6, .iload_n 2, 1) (List.mem_of_getElem? (i := 4) rfl)),
  List.forall_mem_cons.mpr ⟨sd_iconst 49 7 0 ⟨by decide, by decide⟩ (dk_49_0 (7, .iconst 0, 1) (List.mem_of_getElem? (i := 5) rfl)),
  List.forall_mem_cons.mpr ⟨sd_bipush 49 8 10 ⟨by decide, by decide⟩ (by decide) (dk_49_0 (8, .bipush 10, 2) (List.mem_of_getElem? (i := 6) rfl)),
  List.forall_mem_cons.mpr ⟨sd_callS 49 10 67 3 3 59 [] (gdS hws_49 hws_67 zw107 zw64 zw63 zw62) hws_67 rfl (by decide +kernel) rfl rfl ⟨by decide +kernel, by decide +kernel, by decide +kernel⟩ ⟨by decide, by decide⟩ (catch_nil rfl) (dk_49_0 (10, .invokestatic 59, 3) (List.mem_of_getElem? (i := 7) rfl)),
  List.forall_mem_cons.mpr ⟨sd_callS 49 13 65 1 1 40 [] (gdS hws_49 hws_65 zw96 zw97 zw63 zw95) hws_65 rfl (by decide +kernel) rfl rfl ⟨by decide +kernel, by decide +kernel, by decide +kernel⟩ ⟨by decide, by decide⟩ (catch_nil rfl) (dk_49_0 (13, .invokestatic 40, 3) (List.mem_of_getElem? (i := 8) rfl)),
  List.forall_mem_cons.mpr ⟨sd_oLdR_n 49 16 3 3 rfl (dk_49_0 (16, .aload_n 3, 1) (List.mem_of_getElem? (i := 9) rfl)),
  List.forall_mem_cons.mpr ⟨sd_oLdI_n 49 17 2 2 rfl (dk_49_0 (17, .iload_n 2, 1) (List.mem_of_getElem? (i := 10) rfl)),
  List.forall_mem_cons.mpr ⟨sd_callV 49 18 18 1 2 187 3 [] (gdV hws_49 hws_18 zw211 zw212 zw213 zw29 zw210) hws_18 rfl (by decide +kernel) rfl rfl ⟨by decide +kernel, by decide +kernel, by decide +kernel⟩ ⟨by decide, by decide⟩ (catch_nil rfl) RX2 rfl TX2 10 rfl ⟨by decide, by decide⟩ (dk_49_0 (18, .invokevirtual 187, 3) (List.mem_of_getElem? (i := 11) rfl)),
  List.forall_mem_cons.mpr ⟨sd_iret 49 21 rfl (dk_49_0 (21, .ireturn, 1) (List.mem_of_getElem? (i := 12) rfl)),
  fun _ h => nomatch h⟩⟩⟩⟩⟩⟩⟩⟩⟩⟩⟩⟩⟩
def tb_49 : List (List (Nat × Op1)) := [tb_49_0]
theorem sm_49 : ∀ t ∈ tb_49, ∀ q ∈ t, SM GwP MdP D A l 49 q.1 q.2 := List.forall_mem_cons.mpr ⟨sm_49_0, fun _ h => nomatch h⟩
-- 51: Marginalia.sees(II)Z
def dl_51_0 : List (Nat × Instr × Nat) := [(0, .aload_n 0, 1), (1, .iload_n 1, 1), (2, .invokevirtual 51, 3), (5, .aload_n 0, 1), (6, .iload_n 1, 1), (7, .aload_n 0, 1), (8, .iload_n 2, 1), (9, .invokevirtual 123, 3), (12, .invokevirtual 127, 3), (15, .ireturn, 1)]
theorem dk_51_0 : ∀ q ∈ dl_51_0, decode (mCod (MdP 51)) q.1 = .ok q.2 := by
  rw [show mCod (MdP 51) = cX5_sees from rfl]
  decide +kernel
def tb_51_0 : List (Nat × Op1) := [(0, oLdR 0 1), (1, oLdI 1 1), (2, oCallV 61 1 2 6 []), (5, oLdR 0 1), (6, oLdI 1 1), (7, oLdR 0 1), (8, oLdI 2 1), (9, oCallV 63 1 3 6 []), (12, oCallV 79 2 3 6 []), (15, oRetZ)]
theorem sm_51_0 : ∀ q ∈ tb_51_0, SM GwP MdP D A l 51 q.1 q.2 :=
  List.forall_mem_cons.mpr ⟨sd_oLdR_n 51 0 0 0 rfl (dk_51_0 (0, .aload_n 0, 1) (List.mem_of_getElem? (i := 0) rfl)),
  List.forall_mem_cons.mpr ⟨sd_oLdI_n 51 1 1 1 rfl (dk_51_0 (1, .iload_n 1, 1) (List.mem_of_getElem? (i := 1) rfl)),
  List.forall_mem_cons.mpr ⟨sd_callV 51 2 61 1 2 51 6 [] (gdV hws_51 hws_61 zw103 zw104 zw105 zw63 zw102) hws_61 rfl (by decide +kernel) rfl rfl ⟨by decide +kernel, by decide +kernel, by decide +kernel⟩ ⟨by decide, by decide⟩ (catch_nil rfl) RX5 rfl TX5 7 rfl ⟨by decide, by decide⟩ (dk_51_0 (2, .invokevirtual 51, 3) (List.mem_of_getElem? (i := 2) rfl)),
  List.forall_mem_cons.mpr ⟨sd_oLdR_n 51 5 0 0 rfl (dk_51_0 (5, .aload_n 0, 1) (List.mem_of_getElem? (i := 3) rfl)),
  List.forall_mem_cons.mpr ⟨sd_oLdI_n 51 6 1 1 rfl (dk_51_0 (6, .iload_n 1, 1) (List.mem_of_getElem? (i := 4) rfl)),
  List.forall_mem_cons.mpr ⟨sd_oLdR_n 51 7 0 0 rfl (dk_51_0 (7, .aload_n 0, 1) (List.mem_of_getElem? (i := 5) rfl)),
  List.forall_mem_cons.mpr ⟨sd_oLdI_n 51 8 2 2 rfl (dk_51_0 (8, .iload_n 2, 1) (List.mem_of_getElem? (i := 6) rfl)),
  List.forall_mem_cons.mpr ⟨sd_callV 51 9 63 1 3 123 6 [] (gdV hws_51 hws_63 zw167 zw168 zw169 zw63 zw166) hws_63 rfl (by decide +kernel) rfl rfl ⟨by decide +kernel, by decide +kernel, by decide +kernel⟩ ⟨by decide, by decide⟩ (catch_nil rfl) RX5 rfl TX5 7 rfl ⟨by decide, by decide⟩ (dk_51_0 (9, .invokevirtual 123, 3) (List.mem_of_getElem? (i := 7) rfl)),
  List.forall_mem_cons.mpr ⟨sd_callV 51 12 79 2 3 127 6 [] (gdV hws_51 hws_79 zw171 zw172 zw173 zw63 zw170) hws_79 rfl (by decide +kernel) rfl rfl ⟨by decide +kernel, by decide +kernel, by decide +kernel⟩ ⟨by decide, by decide⟩ (catch_nil rfl) RX5 rfl TX5 7 rfl ⟨by decide, by decide⟩ (dk_51_0 (12, .invokevirtual 127, 3) (List.mem_of_getElem? (i := 8) rfl)),
  List.forall_mem_cons.mpr ⟨sd_zret 51 15 rfl (dk_51_0 (15, .ireturn, 1) (List.mem_of_getElem? (i := 9) rfl)),
  fun _ h => nomatch h⟩⟩⟩⟩⟩⟩⟩⟩⟩⟩
def tb_51 : List (List (Nat × Op1)) := [tb_51_0]
theorem sm_51 : ∀ t ∈ tb_51, ∀ q ∈ t, SM GwP MdP D A l 51 q.1 q.2 := List.forall_mem_cons.mpr ⟨sm_51_0, fun _ h => nomatch h⟩
-- 52: Marginalia.thread(II)I
def dl_52_0 : List (Nat × Instr × Nat) := [(0, .iconst 0, 1), (1, .istore_n 3, 1), (2, .aload_n 0, 1), (3, .aload_n 0, 1), (4, .iload_n 1, 1), (5, .invokevirtual 123, 3), (8, .invokevirtual 193, 3), (11, .astore 4, 2), (13, .aload 4, 2), (15, .ifnull 35, 3), (18, .aload 4, 2), (20, .getfield 197, 3), (23, .ifCond .ne 17, 3), (26, .iload_n 3, 1), (27, .iload_n 2, 1), (28, .if_icmp .ne 9, 3), (31, .aload 4, 2), (33, .getfield 163, 3), (36, .ireturn, 1), (37, .iinc 3 1, 3), (40, .aload 4, 2), (42, .getfield 200, 3), (45, .astore 4, 2), (47, .goto (-34), 3), (50, .iconst (-1), 1), (51, .ireturn, 1)]
theorem dk_52_0 : ∀ q ∈ dl_52_0, decode (mCod (MdP 52)) q.1 = .ok q.2 := by
  rw [show mCod (MdP 52) = cX5_thread from rfl]
  decide +kernel
def tb_52_0 : List (Nat × Op1) := [(0, oCI 0 1), (1, oStI 3 1), (2, oLdR 0 1), (3, oLdR 0 1), (4, oLdI 1 1), (5, oCallV 63 1 3 6 []), (8, oCallV 78 1 2 6 []), (11, oStR 4 2), (13, oLdR 4 2), (15, oNul 50), (18, oLdR 4 2), (20, oGetI 3 9), (23, oZne 40), (26, oLdI 3 1), (27, oLdI 2 1), (28, oCne 37), (31, oLdR 4 2), (33, oGetI 3 0), (36, oRetI), (37, oInc 3 1), (40, oLdR 4 2), (42, oGetR 3 6), (45, oStR 4 2), (47, oGoto 13), (50, oCI (-1) 1), (51, oRetI)]
theorem sm_52_0 : ∀ q ∈ tb_52_0, SM GwP MdP D A l 52 q.1 q.2 :=
  List.forall_mem_cons.mpr ⟨sd_iconst 52 0 0 ⟨by decide, by decide⟩ (dk_52_0 (0, .iconst 0, 1) (List.mem_of_getElem? (i := 0) rfl)),
  List.forall_mem_cons.mpr ⟨sd_oStI_n 52 1 3 3 rfl (by decide) (dk_52_0 (1, .istore_n 3, 1) (List.mem_of_getElem? (i := 1) rfl)),
  List.forall_mem_cons.mpr ⟨sd_oLdR_n 52 2 0 0 rfl (dk_52_0 (2, .aload_n 0, 1) (List.mem_of_getElem? (i := 2) rfl)),
  List.forall_mem_cons.mpr ⟨sd_oLdR_n 52 3 0 0 rfl (dk_52_0 (3, .aload_n 0, 1) (List.mem_of_getElem? (i := 3) rfl)),
  List.forall_mem_cons.mpr ⟨sd_oLdI_n 52 4 1 1 rfl (dk_52_0 (4, .iload_n 1, 1) (List.mem_of_getElem? (i := 4) rfl)),
  List.forall_mem_cons.mpr ⟨sd_callV 52 5 63 1 3 123 6 [] (gdV hws_52 hws_63 zw167 zw168 zw169 zw63 zw166) hws_63 rfl (by decide +kernel) rfl rfl ⟨by decide +kernel, by decide +kernel, by decide +kernel⟩ ⟨by decide, by decide⟩ (catch_nil rfl) RX5 rfl TX5 7 rfl ⟨by decide, by decide⟩ (dk_52_0 (5, .invokevirtual 123, 3) (List.mem_of_getElem? (i := 5) rfl)),
  List.forall_mem_cons.mpr ⟨sd_callV 52 8 78 1 2 193 6 [] (gdV hws_52 hws_78 zw215 zw216 zw217 zw63 zw214) hws_78 rfl (by decide +kernel) rfl rfl ⟨by decide +kernel, by decide +kernel, by decide +kernel⟩ ⟨by decide, by decide⟩ (catch_nil rfl) RX5 rfl TX5 7 rfl ⟨by decide, by decide⟩ (dk_52_0 (8, .invokevirtual 193, 3) (List.mem_of_getElem? (i := 6) rfl)),
  List.forall_mem_cons.mpr ⟨sd_oStR 52 11 4 (by decide) (dk_52_0 (11, .astore 4, 2) (List.mem_of_getElem? (i := 7) rfl)),
  List.forall_mem_cons.mpr ⟨sd_oLdR 52 13 4 (dk_52_0 (13, .aload 4, 2) (List.mem_of_getElem? (i := 8) rfl)),
  List.forall_mem_cons.mpr ⟨sd_ifnull 52 15 35 50 (by decide) (dk_52_0 (15, .ifnull 35, 3) (List.mem_of_getElem? (i := 9) rfl)),
  List.forall_mem_cons.mpr ⟨sd_oLdR 52 18 4 (dk_52_0 (18, .aload 4, 2) (List.mem_of_getElem? (i := 10) rfl)),
  List.forall_mem_cons.mpr ⟨sd_oGetIN 52 20 3 9 197 RX2 TX2 10 rfl ⟨by decide, by decide⟩ rfl (by decide) rfl (fun w h => iw_52 w (uz_2 w h)) rfl "Marginalia" (List.mem_of_getElem? (i := 10) rfl) (dk_52_0 (20, .getfield 197, 3) (List.mem_of_getElem? (i := 11) rfl)),
  List.forall_mem_cons.mpr ⟨sd_if_ne 52 23 17 40 (by decide) (dk_52_0 (23, .ifCond .ne 17, 3) (List.mem_of_getElem? (i := 12) rfl)),
  List.forall_mem_cons.mpr ⟨sd_oLdI_n 52 26 3 3 rfl (dk_52_0 (26, .iload_n 3, 1) (List.mem_of_getElem? (i := 13) rfl)),
  List.forall_mem_cons.mpr ⟨sd_oLdI_n 52 27 2 2 rfl (dk_52_0 (27, .iload_n 2, 1) (List.mem_of_getElem? (i := 14) rfl)),
  List.forall_mem_cons.mpr ⟨sd_icmp_ne 52 28 9 37 (by decide) (dk_52_0 (28, .if_icmp .ne 9, 3) (List.mem_of_getElem? (i := 15) rfl)),
  List.forall_mem_cons.mpr ⟨sd_oLdR 52 31 4 (dk_52_0 (31, .aload 4, 2) (List.mem_of_getElem? (i := 16) rfl)),
  List.forall_mem_cons.mpr ⟨sd_oGetIN 52 33 3 0 163 RX2 TX2 10 rfl ⟨by decide, by decide⟩ rfl (by decide) rfl (fun w h => iw_52 w (uz_2 w h)) rfl "Marginalia" (List.mem_of_getElem? (i := 8) rfl) (dk_52_0 (33, .getfield 163, 3) (List.mem_of_getElem? (i := 17) rfl)),
  List.forall_mem_cons.mpr ⟨sd_iret 52 36 rfl (dk_52_0 (36, .ireturn, 1) (List.mem_of_getElem? (i := 18) rfl)),
  List.forall_mem_cons.mpr ⟨sd_iinc 52 37 3 1 (by decide) (dk_52_0 (37, .iinc 3 1, 3) (List.mem_of_getElem? (i := 19) rfl)),
  List.forall_mem_cons.mpr ⟨sd_oLdR 52 40 4 (dk_52_0 (40, .aload 4, 2) (List.mem_of_getElem? (i := 20) rfl)),
  List.forall_mem_cons.mpr ⟨sd_oGetRN 52 42 3 6 200 RX2 TX2 10 rfl ⟨by decide, by decide⟩ rfl (by decide) rfl (fun w h => iw_52 w (uz_2 w h)) rfl "Marginalia" (List.mem_of_getElem? (i := 11) rfl) (dk_52_0 (42, .getfield 200, 3) (List.mem_of_getElem? (i := 21) rfl)),
  List.forall_mem_cons.mpr ⟨sd_oStR 52 45 4 (by decide) (dk_52_0 (45, .astore 4, 2) (List.mem_of_getElem? (i := 22) rfl)),
  List.forall_mem_cons.mpr ⟨sd_goto 52 47 (-34) 13 (by decide) (dk_52_0 (47, .goto (-34), 3) (List.mem_of_getElem? (i := 23) rfl)),
  List.forall_mem_cons.mpr ⟨sd_iconst 52 50 (-1) ⟨by decide, by decide⟩ (dk_52_0 (50, .iconst (-1), 1) (List.mem_of_getElem? (i := 24) rfl)),
  List.forall_mem_cons.mpr ⟨sd_iret 52 51 rfl (dk_52_0 (51, .ireturn, 1) (List.mem_of_getElem? (i := 25) rfl)),
  fun _ h => nomatch h⟩⟩⟩⟩⟩⟩⟩⟩⟩⟩⟩⟩⟩⟩⟩⟩⟩⟩⟩⟩⟩⟩⟩⟩⟩⟩
def tb_52 : List (List (Nat × Op1)) := [tb_52_0]
theorem sm_52 : ∀ t ∈ tb_52, ∀ q ∈ t, SM GwP MdP D A l 52 q.1 q.2 := List.forall_mem_cons.mpr ⟨sm_52_0, fun _ h => nomatch h⟩
-- 53: Marginalia.over(II)I
def dl_53_0 : List (Nat × Instr × Nat) := [(0, .aload_n 0, 1), (1, .iload_n 1, 1), (2, .invokevirtual 51, 3), (5, .iconst 0, 1), (6, .istore_n 3, 1), (7, .iconst 0, 1), (8, .istore 4, 2), (10, .iload 4, 2), (12, .aload_n 0, 1), (13, .getfield 100, 3), (16, .if_icmp .ge 54, 3), (19, .aload_n 0, 1), (20, .getfield 22, 3), (23, .iload 4, 2), (25, .aaload, 1), (26, .astore 5, 2), (28, .aload 5, 2), (30, .invokevirtual 174, 3), (33, .ifCond .eq 31, 3), (36, .aload_n 0, 1), (37, .iload_n 1, 1), (38, .aload 5, 2), (40, .invokevirtual 127, 3), (43, .ifCond .eq 21, 3), (46, .aload 5, 2), (48, .getfield 135, 3), (51, .getfield 204, 3), (54, .iload_n 2, 1), (55, .invokevirtual 208, 3), (58, .ifCond .eq 6, 3), (61, .iinc 3 1, 3), (64, .iinc 4 1, 3), (67, .goto (-57), 3), (70, .iload_n 3, 1), (71, .ireturn, 1)]
theorem dk_53_0 : ∀ q ∈ dl_53_0, decode (mCod (MdP 53)) q.1 = .ok q.2 := by
  rw [show mCod (MdP 53) = cX5_over from rfl]
  decide +kernel
def tb_53_0 : List (Nat × Op1) := [(0, oLdR 0 1), (1, oLdI 1 1), (2, oCallV 61 1 2 6 []), (5, oCI 0 1), (6, oStI 3 1), (7, oCI 0 1), (8, oStI 4 2), (10, oLdI 4 2), (12, oLdR 0 1), (13, oGetI 6 6), (16, oCge 70), (19, oLdR 0 1), (20, oGetR 6 2), (23, oLdI 4 2), (25, oALdR 13), (26, oStR 5 2), (28, oLdR 5 2), (30, oCallV 14 0 1 3 []), (33, oZeq 64), (36, oLdR 0 1), (37, oLdI 1 1), (38, oLdR 5 2), (40, oCallV 79 2 3 6 []), (43, oZeq 64), (46, oLdR 5 2), (48, oGetR 3 5), (51, oGetR 4 3), (54, oLdI 2 1), (55, oCallV 4 1 2 1 []), (58, oZeq 64), (61, oInc 3 1)]
theorem sm_53_0 : ∀ q ∈ tb_53_0, SM GwP MdP D A l 53 q.1 q.2 :=
  List.forall_mem_cons.mpr ⟨sd_oLdR_n 53 0 0 0 rfl (dk_53_0 (0, .aload_n 0, 1) (List.mem_of_getElem? (i := 0) rfl)),
  List.forall_mem_cons.mpr ⟨sd_oLdI_n 53 1 1 1 rfl (dk_53_0 (1, .iload_n 1, 1) (List.mem_of_getElem? (i := 1) rfl)),
  List.forall_mem_cons.mpr ⟨sd_callV 53 2 61 1 2 51 6 [] (gdV hws_53 hws_61 zw103 zw104 zw105 zw63 zw102) hws_61 rfl (by decide +kernel) rfl rfl ⟨by decide +kernel, by decide +kernel, by decide +kernel⟩ ⟨by decide, by decide⟩ (catch_nil rfl) RX5 rfl TX5 7 rfl ⟨by decide, by decide⟩ (dk_53_0 (2, .invokevirtual 51, 3) (List.mem_of_getElem? (i := 2) rfl)),
  List.forall_mem_cons.mpr ⟨sd_iconst 53 5 0 ⟨by decide, by decide⟩ (dk_53_0 (5, .iconst 0, 1) (List.mem_of_getElem? (i := 3) rfl)),
  List.forall_mem_cons.mpr ⟨sd_oStI_n 53 6 3 3 rfl (by decide) (dk_53_0 (6, .istore_n 3, 1) (List.mem_of_getElem? (i := 4) rfl)),
  List.forall_mem_cons.mpr ⟨sd_iconst 53 7 0 ⟨by decide, by decide⟩ (dk_53_0 (7, .iconst 0, 1) (List.mem_of_getElem? (i := 5) rfl)),
  List.forall_mem_cons.mpr ⟨sd_oStI 53 8 4 (by decide) (dk_53_0 (8, .istore 4, 2) (List.mem_of_getElem? (i := 6) rfl)),
  List.forall_mem_cons.mpr ⟨sd_oLdI 53 10 4 (dk_53_0 (10, .iload 4, 2) (List.mem_of_getElem? (i := 7) rfl)),
  List.forall_mem_cons.mpr ⟨sd_oLdR_n 53 12 0 0 rfl (dk_53_0 (12, .aload_n 0, 1) (List.mem_of_getElem? (i := 8) rfl)),
  List.forall_mem_cons.mpr ⟨sd_oGetI 53 13 6 6 100 RX5 TX5 7 rfl ⟨by decide, by decide⟩ rfl (by decide) rfl (fun w h => iw_53 w (uz_5 w h)) rfl (iw_53 _ zw142) (dk_53_0 (13, .getfield 100, 3) (List.mem_of_getElem? (i := 9) rfl)),
  List.forall_mem_cons.mpr ⟨sd_icmp_ge 53 16 54 70 (by decide) (dk_53_0 (16, .if_icmp .ge 54, 3) (List.mem_of_getElem? (i := 10) rfl)),
  List.forall_mem_cons.mpr ⟨sd_oLdR_n 53 19 0 0 rfl (dk_53_0 (19, .aload_n 0, 1) (List.mem_of_getElem? (i := 11) rfl)),
  List.forall_mem_cons.mpr ⟨sd_oGetR 53 20 6 2 22 RX5 TX5 7 rfl ⟨by decide, by decide⟩ rfl (by decide) rfl (fun w h => iw_53 w (uz_5 w h)) rfl (iw_53 _ zw83) (dk_53_0 (20, .getfield 22, 3) (List.mem_of_getElem? (i := 12) rfl)),
  List.forall_mem_cons.mpr ⟨sd_oLdI 53 23 4 (dk_53_0 (23, .iload 4, 2) (List.mem_of_getElem? (i := 13) rfl)),
  List.forall_mem_cons.mpr ⟨sd_aaldN 53 25 (dk_53_0 (25, .aaload, 1) (List.mem_of_getElem? (i := 14) rfl)),
  List.forall_mem_cons.mpr ⟨sd_oStR 53 26 5 (by decide) (dk_53_0 (26, .astore 5, 2) (List.mem_of_getElem? (i := 15) rfl)),
  List.forall_mem_cons.mpr ⟨sd_oLdR 53 28 5 (dk_53_0 (28, .aload 5, 2) (List.mem_of_getElem? (i := 16) rfl)),
  List.forall_mem_cons.mpr ⟨sd_callV 53 30 14 0 1 174 3 [] (gdV hws_53 hws_14 zw195 zw196 zw197 zw29 zw194) hws_14 rfl (by decide +kernel) rfl rfl ⟨by decide +kernel, by decide +kernel, by decide +kernel⟩ ⟨by decide, by decide⟩ (catch_nil rfl) RX2 rfl TX2 10 rfl ⟨by decide, by decide⟩ (dk_53_0 (30, .invokevirtual 174, 3) (List.mem_of_getElem? (i := 17) rfl)),
  List.forall_mem_cons.mpr ⟨sd_if_eq 53 33 31 64 (by decide) (dk_53_0 (33, .ifCond .eq 31, 3) (List.mem_of_getElem? (i := 18) rfl)),
  List.forall_mem_cons.mpr ⟨sd_oLdR_n 53 36 0 0 rfl (dk_53_0 (36, .aload_n 0, 1) (List.mem_of_getElem? (i := 19) rfl)),
  List.forall_mem_cons.mpr ⟨sd_oLdI_n 53 37 1 1 rfl (dk_53_0 (37, .iload_n 1, 1) (List.mem_of_getElem? (i := 20) rfl)),
  List.forall_mem_cons.mpr ⟨sd_oLdR 53 38 5 (dk_53_0 (38, .aload 5, 2) (List.mem_of_getElem? (i := 21) rfl)),
  List.forall_mem_cons.mpr ⟨sd_callV 53 40 79 2 3 127 6 [] (gdV hws_53 hws_79 zw171 zw172 zw173 zw63 zw170) hws_79 rfl (by decide +kernel) rfl rfl ⟨by decide +kernel, by decide +kernel, by decide +kernel⟩ ⟨by decide, by decide⟩ (catch_nil rfl) RX5 rfl TX5 7 rfl ⟨by decide, by decide⟩ (dk_53_0 (40, .invokevirtual 127, 3) (List.mem_of_getElem? (i := 22) rfl)),
  List.forall_mem_cons.mpr ⟨sd_if_eq 53 43 21 64 (by decide) (dk_53_0 (43, .ifCond .eq 21, 3) (List.mem_of_getElem? (i := 23) rfl)),
  List.forall_mem_cons.mpr ⟨sd_oLdR 53 46 5 (dk_53_0 (46, .aload 5, 2) (List.mem_of_getElem? (i := 24) rfl)),
  List.forall_mem_cons.mpr ⟨sd_oGetRN 53 48 3 5 135 RX2 TX2 10 rfl ⟨by decide, by decide⟩ rfl (by decide) rfl (fun w h => iw_53 w (uz_2 w h)) rfl "Marginalia" (List.mem_of_getElem? (i := 2) rfl) (dk_53_0 (48, .getfield 135, 3) (List.mem_of_getElem? (i := 25) rfl)),
  List.forall_mem_cons.mpr ⟨sd_oGetRN 53 51 4 3 204 RX3 TX3 8 rfl ⟨by decide, by decide⟩ rfl (by decide) rfl (fun w h => iw_53 w (uz_3 w h)) rfl "Marginalia" (List.mem_of_getElem? (i := 12) rfl) (dk_53_0 (51, .getfield 204, 3) (List.mem_of_getElem? (i := 26) rfl)),
  List.forall_mem_cons.mpr ⟨sd_oLdI_n 53 54 2 2 rfl (dk_53_0 (54, .iload_n 2, 1) (List.mem_of_getElem? (i := 27) rfl)),
  List.forall_mem_cons.mpr ⟨sd_callV 53 55 4 1 2 208 1 [] (gdV hws_53 hws_4 zw219 zw220 zw221 zw9 zw218) hws_4 rfl (by decide +kernel) rfl rfl ⟨by decide +kernel, by decide +kernel, by decide +kernel⟩ ⟨by decide, by decide⟩ (catch_nil rfl) RX0 rfl TX0 2 rfl ⟨by decide, by decide⟩ (dk_53_0 (55, .invokevirtual 208, 3) (List.mem_of_getElem? (i := 28) rfl)),
  List.forall_mem_cons.mpr ⟨sd_if_eq 53 58 6 64 (by decide) (dk_53_0 (58, .ifCond .eq 6, 3) (List.mem_of_getElem? (i := 29) rfl)),
  List.forall_mem_cons.mpr ⟨sd_iinc 53 61 3 1 (by decide) (dk_53_0 (61, .iinc 3 1, 3) (List.mem_of_getElem? (i := 30) rfl)),
  fun _ h => nomatch h⟩⟩⟩⟩⟩⟩⟩⟩⟩⟩⟩⟩⟩⟩⟩⟩⟩⟩⟩⟩⟩⟩⟩⟩⟩⟩⟩⟩⟩⟩⟩
def tb_53_1 : List (Nat × Op1) := [(64, oInc 4 1), (67, oGoto 10), (70, oLdI 3 1), (71, oRetI)]
theorem sm_53_1 : ∀ q ∈ tb_53_1, SM GwP MdP D A l 53 q.1 q.2 :=
  List.forall_mem_cons.mpr ⟨sd_iinc 53 64 4 1 (by decide) (dk_53_0 (64, .iinc 4 1, 3) (List.mem_of_getElem? (i := 31) rfl)),
  List.forall_mem_cons.mpr ⟨sd_goto 53 67 (-57) 10 (by decide) (dk_53_0 (67, .goto (-57), 3) (List.mem_of_getElem? (i := 32) rfl)),
  List.forall_mem_cons.mpr ⟨sd_oLdI_n 53 70 3 3 rfl (dk_53_0 (70, .iload_n 3, 1) (List.mem_of_getElem? (i := 33) rfl)),
  List.forall_mem_cons.mpr ⟨sd_iret 53 71 rfl (dk_53_0 (71, .ireturn, 1) (List.mem_of_getElem? (i := 34) rfl)),
  fun _ h => nomatch h⟩⟩⟩⟩
def tb_53 : List (List (Nat × Op1)) := [tb_53_0, tb_53_1]
theorem sm_53 : ∀ t ∈ tb_53, ∀ q ∈ t, SM GwP MdP D A l 53 q.1 q.2 := List.forall_mem_cons.mpr ⟨sm_53_0, List.forall_mem_cons.mpr ⟨sm_53_1, fun _ h => nomatch h⟩⟩
-- 54: Marginalia.export(IZ)I
def dl_54_0 : List (Nat × Instr × Nat) := [(0, .aload_n 0, 1), (1, .iload_n 1, 1), (2, .invokevirtual 51, 3), (5, .aload_n 0, 1), (6, .iload_n 1, 1), (7, .iload_n 2, 1), (8, .invokevirtual 211, 3), (11, .istore_n 3, 1), (12, .aload_n 0, 1), (13, .getfield 32, 3), (16, .iconst 0, 1), (17, .putfield 215, 3), (20, .iconst 0, 1), (21, .istore 4, 2), (23, .iload 4, 2), (25, .iload_n 3, 1), (26, .if_icmp .ge 23, 3), (29, .aload_n 0, 1), (30, .getfield 32, 3), (33, .aload_n 0, 1), (34, .getfield 26, 3), (37, .iload 4, 2), (39, .aaload, 1), (40, .invokevirtual 217, 3), (43, .iinc 4 1, 3), (46, .goto (-23), 3), (49, .aload_n 0, 1), (50, .getfield 32, 3), (53, .getfield 215, 3), (56, .ireturn, 1)]
theorem dk_54_0 : ∀ q ∈ dl_54_0, decode (mCod (MdP 54)) q.1 = .ok q.2 := by
  rw [show mCod (MdP 54) = cX5_export from rfl]
  decide +kernel
def tb_54_0 : List (Nat × Op1) := [(0, oLdR 0 1), (1, oLdI 1 1), (2, oCallV 61 1 2 6 []), (5, oLdR 0 1), (6, oLdI 1 1), (7, oLdI 2 1), (8, oCallV 82 2 6 6 []), (11, oStI 3 1), (12, oLdR 0 1), (13, oGetR 6 4), (16, oCI 0 1), (17, oPutI 2 1), (20, oCI 0 1), (21, oStI 4 2), (23, oLdI 4 2), (25, oLdI 3 1), (26, oCge 49), (29, oLdR 0 1), (30, oGetR 6 4), (33, oLdR 0 1), (34, oGetR 6 3), (37, oLdI 4 2), (39, oALdR 13), (40, oCallV 11 1 3 2 []), (43, oInc 4 1), (46, oGoto 23), (49, oLdR 0 1), (50, oGetR 6 4), (53, oGetI 2 1), (56, oRetI)]
theorem sm_54_0 : ∀ q ∈ tb_54_0, SM GwP MdP D A l 54 q.1 q.2 :=
  List.forall_mem_cons.mpr ⟨sd_oLdR_n 54 0 0 0 rfl (dk_54_0 (0, .aload_n 0, 1) (List.mem_of_getElem? (i := 0) rfl)),
  List.forall_mem_cons.mpr ⟨sd_oLdI_n 54 1 1 1 rfl (dk_54_0 (1, .iload_n 1, 1) (List.mem_of_getElem? (i := 1) rfl)),
  List.forall_mem_cons.mpr ⟨sd_callV 54 2 61 1 2 51 6 [] (gdV hws_54 hws_61 zw103 zw104 zw105 zw63 zw102) hws_61 rfl (by decide +kernel) rfl rfl ⟨by decide +kernel, by decide +kernel, by decide +kernel⟩ ⟨by decide, by decide⟩ (catch_nil rfl) RX5 rfl TX5 7 rfl ⟨by decide, by decide⟩ (dk_54_0 (2, .invokevirtual 51, 3) (List.mem_of_getElem? (i := 2) rfl)),
  List.forall_mem_cons.mpr ⟨sd_oLdR_n 54 5 0 0 rfl (dk_54_0 (5, .aload_n 0, 1) (List.mem_of_getElem? (i := 3) rfl)),
  List.forall_mem_cons.mpr ⟨sd_oLdI_n 54 6 1 1 rfl (dk_54_0 (6, .iload_n 1, 1) (List.mem_of_getElem? (i := 4) rfl)),
  List.forall_mem_cons.mpr ⟨sd_oLdI_n 54 7 2 2 rfl (dk_54_0 (7, .iload_n 2, 1) (List.mem_of_getElem? (i := 5) rfl)),
  List.forall_mem_cons.mpr ⟨sd_callV 54 8 82 2 6 211 6 [] (gdV hws_54 hws_82 zw223 zw224 zw225 zw63 zw222) hws_82 rfl (by decide +kernel) rfl rfl ⟨by decide +kernel, by decide +kernel, by decide +kernel⟩ ⟨by decide, by decide⟩ (catch_nil rfl) RX5 rfl TX5 7 rfl ⟨by decide, by decide⟩ (dk_54_0 (8, .invokevirtual 211, 3) (List.mem_of_getElem? (i := 6) rfl)),
  List.forall_mem_cons.mpr ⟨sd_oStI_n 54 11 3 3 rfl (by decide) (dk_54_0 (11, .istore_n 3, 1) (List.mem_of_getElem? (i := 7) rfl)),
  List.forall_mem_cons.mpr ⟨sd_oLdR_n 54 12 0 0 rfl (dk_54_0 (12, .aload_n 0, 1) (List.mem_of_getElem? (i := 8) rfl)),
  List.forall_mem_cons.mpr ⟨sd_oGetR 54 13 6 4 32 RX5 TX5 7 rfl ⟨by decide, by decide⟩ rfl (by decide) rfl (fun w h => iw_54 w (uz_5 w h)) rfl (iw_54 _ zw91) (dk_54_0 (13, .getfield 32, 3) (List.mem_of_getElem? (i := 9) rfl)),
  List.forall_mem_cons.mpr ⟨sd_iconst 54 16 0 ⟨by decide, by decide⟩ (dk_54_0 (16, .iconst 0, 1) (List.mem_of_getElem? (i := 10) rfl)),
  List.forall_mem_cons.mpr ⟨sd_oPutIN 54 17 2 1 215 RX1 TX1 2 rfl ⟨by decide, by decide⟩ rfl (by decide) rfl (fun w h => iw_54 w (uz_1 w h)) rfl tyX1 tyX1_ok nmX1 rfl rfl "Marginalia" (List.mem_of_getElem? (i := 13) rfl) (dk_54_0 (17, .putfield 215, 3) (List.mem_of_getElem? (i := 11) rfl)),
  List.forall_mem_cons.mpr ⟨sd_iconst 54 20 0 ⟨by decide, by decide⟩ (dk_54_0 (20, .iconst 0, 1) (List.mem_of_getElem? (i := 12) rfl)),
  List.forall_mem_cons.mpr ⟨sd_oStI 54 21 4 (by decide) (dk_54_0 (21, .istore 4, 2) (List.mem_of_getElem? (i := 13) rfl)),
  List.forall_mem_cons.mpr ⟨sd_oLdI 54 23 4 (dk_54_0 (23, .iload 4, 2) (List.mem_of_getElem? (i := 14) rfl)),
  List.forall_mem_cons.mpr ⟨sd_oLdI_n 54 25 3 3 rfl (dk_54_0 (25, .iload_n 3, 1) (List.mem_of_getElem? (i := 15) rfl)),
  List.forall_mem_cons.mpr ⟨sd_icmp_ge 54 26 23 49 (by decide) (dk_54_0 (26, .if_icmp .ge 23, 3) (List.mem_of_getElem? (i := 16) rfl)),
  List.forall_mem_cons.mpr ⟨sd_oLdR_n 54 29 0 0 rfl (dk_54_0 (29, .aload_n 0, 1) (List.mem_of_getElem? (i := 17) rfl)),
  List.forall_mem_cons.mpr ⟨sd_oGetR 54 30 6 4 32 RX5 TX5 7 rfl ⟨by decide, by decide⟩ rfl (by decide) rfl (fun w h => iw_54 w (uz_5 w h)) rfl (iw_54 _ zw91) (dk_54_0 (30, .getfield 32, 3) (List.mem_of_getElem? (i := 18) rfl)),
  List.forall_mem_cons.mpr ⟨sd_oLdR_n 54 33 0 0 rfl (dk_54_0 (33, .aload_n 0, 1) (List.mem_of_getElem? (i := 19) rfl)),
  List.forall_mem_cons.mpr ⟨sd_oGetR 54 34 6 3 26 RX5 TX5 7 rfl ⟨by decide, by decide⟩ rfl (by decide) rfl (fun w h => iw_54 w (uz_5 w h)) rfl (iw_54 _ zw84) (dk_54_0 (34, .getfield 26, 3) (List.mem_of_getElem? (i := 20) rfl)),
  List.forall_mem_cons.mpr ⟨sd_oLdI 54 37 4 (dk_54_0 (37, .iload 4, 2) (List.mem_of_getElem? (i := 21) rfl)),
  List.forall_mem_cons.mpr ⟨sd_aaldN 54 39 (dk_54_0 (39, .aaload, 1) (List.mem_of_getElem? (i := 22) rfl)),
  List.forall_mem_cons.mpr ⟨sd_callV 54 40 11 1 3 217 2 [] (gdV hws_54 hws_11 zw227 zw228 zw229 zw87 zw226) hws_11 rfl (by decide +kernel) rfl rfl ⟨by decide +kernel, by decide +kernel, by decide +kernel⟩ ⟨by decide, by decide⟩ (catch_nil rfl) RX1 rfl TX1 2 rfl ⟨by decide, by decide⟩ (dk_54_0 (40, .invokevirtual 217, 3) (List.mem_of_getElem? (i := 23) rfl)),
  List.forall_mem_cons.mpr ⟨sd_iinc 54 43 4 1 (by decide) (dk_54_0 (43, .iinc 4 1, 3) (List.mem_of_getElem? (i := 24) rfl)),
  List.forall_mem_cons.mpr ⟨sd_goto 54 46 (-23) 23 (by decide) (dk_54_0 (46, .goto (-23), 3) (List.mem_of_getElem? (i := 25) rfl)),
  List.forall_mem_cons.mpr ⟨sd_oLdR_n 54 49 0 0 rfl (dk_54_0 (49, .aload_n 0, 1) (List.mem_of_getElem? (i := 26) rfl)),
  List.forall_mem_cons.mpr ⟨sd_oGetR 54 50 6 4 32 RX5 TX5 7 rfl ⟨by decide, by decide⟩ rfl (by decide) rfl (fun w h => iw_54 w (uz_5 w h)) rfl (iw_54 _ zw91) (dk_54_0 (50, .getfield 32, 3) (List.mem_of_getElem? (i := 27) rfl)),
  List.forall_mem_cons.mpr ⟨sd_oGetIN 54 53 2 1 215 RX1 TX1 2 rfl ⟨by decide, by decide⟩ rfl (by decide) rfl (fun w h => iw_54 w (uz_1 w h)) rfl "Marginalia" (List.mem_of_getElem? (i := 13) rfl) (dk_54_0 (53, .getfield 215, 3) (List.mem_of_getElem? (i := 28) rfl)),
  List.forall_mem_cons.mpr ⟨sd_iret 54 56 rfl (dk_54_0 (56, .ireturn, 1) (List.mem_of_getElem? (i := 29) rfl)),
  fun _ h => nomatch h⟩⟩⟩⟩⟩⟩⟩⟩⟩⟩⟩⟩⟩⟩⟩⟩⟩⟩⟩⟩⟩⟩⟩⟩⟩⟩⟩⟩⟩⟩
def tb_54 : List (List (Nat × Op1)) := [tb_54_0]
theorem sm_54 : ∀ t ∈ tb_54, ∀ q ∈ t, SM GwP MdP D A l 54 q.1 q.2 := List.forall_mem_cons.mpr ⟨sm_54_0, fun _ h => nomatch h⟩
-- 55: Marginalia.exported(II)I
def dl_55_0 : List (Nat × Instr × Nat) := [(0, .iload_n 1, 1), (1, .iconst 0, 1), (2, .aload_n 0, 1), (3, .getfield 32, 3), (6, .getfield 215, 3), (9, .iconst 1, 1), (10, .isub, 1), (11, .invokestatic 59, 3), (14, .invokestatic 63, 3), (17, .iload_n 2, 1), (18, .iconst 0, 1), (19, .iconst 3, 1), (20, .invokestatic 59, 3), (23, .invokestatic 40, 3), (26, .aload_n 0, 1), (27, .getfield 32, 3), (30, .getfield 220, 3), (33, .iload_n 2, 1), (34, .aaload, 1), (35, .iload_n 1, 1), (36, .iaload, 1), (37, .ireturn, 1)]
theorem dk_55_0 : ∀ q ∈ dl_55_0, decode (mCod (MdP 55)) q.1 = .ok q.2 := by
  rw [show mCod (MdP 55) = cX5_exported from rfl]
  decide +kernel
def tb_55_0 : List (Nat × Op1) := [(0, oLdI 1 1), (1, oCI 0 1), (2, oLdR 0 1), (3, oGetR 6 4), (6, oGetI 2 1), (9, oCI 1 1), (10, oSub), (11, oCallS 67 3 3 []), (14, oCallS 64 1 1 []), (17, oLdI 2 1), (18, oCI 0 1), (19, oCI 3 1), (20, oCallS 67 3 3 []), (23, oCallS 65 1 1 []), (26, oLdR 0 1), (27, oGetR 6 4), (30, oGetR 2 0), (33, oLdI 2 1), (34, oALdR 14), (35, oLdI 1 1), (36, oALdI 10), (37, oRetI)]
theorem sm_55_0 : ∀ q ∈ tb_55_0, SM GwP MdP D A l 55 q.1 q.2 :=
  List.forall_mem_cons.mpr ⟨sd_oLdI_n 55 0 1 1 rfl (dk_55_0 (0, .iload_n 1, 1) (List.mem_of_getElem? (i := 0) rfl)),
  List.forall_mem_cons.mpr ⟨sd_iconst 55 1 0 ⟨by decide, by decide⟩ (dk_55_0 (1, .iconst 0, 1) (List.mem_of_getElem? (i := 1) rfl)),
  List.forall_mem_cons.mpr ⟨sd_oLdR_n 55 2 0 0 rfl (dk_55_0 (2, .aload_n 0, 1) (List.mem_of_getElem? (i := 2) rfl)),
  List.forall_mem_cons.mpr ⟨sd_oGetR 55 3 6 4 32 RX5 TX5 7 rfl ⟨by decide, by decide⟩ rfl (by decide) rfl (fun w h => iw_55 w (uz_5 w h)) rfl (iw_55 _ zw91) (dk_55_0 (3, .getfield 32, 3) (List.mem_of_getElem? (i := 3) rfl)),
  List.forall_mem_cons.mpr ⟨sd_oGetIN 55 6 2 1 215 RX1 TX1 2 rfl ⟨by decide, by decide⟩ rfl (by decide) rfl (fun w h => iw_55 w (uz_1 w h)) rfl "Marginalia" (List.mem_of_getElem? (i := 13) rfl) (dk_55_0 (6, .getfield 215, 3) (List.mem_of_getElem? (i := 4) rfl)),
  List.forall_mem_cons.mpr ⟨sd_iconst 55 9 1 ⟨by decide, by decide⟩ (dk_55_0 (9, .iconst 1, 1) (List.mem_of_getElem? (i := 5) rfl)),
  List.forall_mem_cons.mpr ⟨sd_isub 55 10 (dk_55_0 (10, .isub, 1) (List.mem_of_getElem? (i := 6) rfl)),
  List.forall_mem_cons.mpr ⟨sd_callS 55 11 67 3 3 59 [] (gdS hws_55 hws_67 zw107 zw64 zw63 zw62) hws_67 rfl (by decide +kernel) rfl rfl ⟨by decide +kernel, by decide +kernel, by decide +kernel⟩ ⟨by decide, by decide⟩ (catch_nil rfl) (dk_55_0 (11, .invokestatic 59, 3) (List.mem_of_getElem? (i := 7) rfl)),
  List.forall_mem_cons.mpr ⟨sd_callS 55 14 64 1 1 63 [] (gdS hws_55 hws_64 zw109 zw110 zw63 zw108) hws_64 rfl (by decide +kernel) rfl rfl ⟨by decide +kernel, by decide +kernel, by decide +kernel⟩ ⟨by decide, by decide⟩ (catch_nil rfl) (dk_55_0 (14, .invokestatic 63, 3) (List.mem_of_getElem? (i := 8) rfl)),
  List.forall_mem_cons.mpr ⟨sd_oLdI_n 55 17 2 2 rfl (dk_55_0 (17, .iload_n 2, 1) (List.mem_of_getElem? (i := 9) rfl)),
  List.forall_mem_cons.mpr ⟨sd_iconst 55 18 0 ⟨by decide, by decide⟩ (dk_55_0 (18, .iconst 0, 1) (List.mem_of_getElem? (i := 10) rfl)),
  List.forall_mem_cons.mpr ⟨sd_iconst 55 19 3 ⟨by decide, by decide⟩ (dk_55_0 (19, .iconst 3, 1) (List.mem_of_getElem? (i := 11) rfl)),
  List.forall_mem_cons.mpr ⟨sd_callS 55 20 67 3 3 59 [] (gdS hws_55 hws_67 zw107 zw64 zw63 zw62) hws_67 rfl (by decide +kernel) rfl rfl ⟨by decide +kernel, by decide +kernel, by decide +kernel⟩ ⟨by decide, by decide⟩ (catch_nil rfl) (dk_55_0 (20, .invokestatic 59, 3) (List.mem_of_getElem? (i := 12) rfl)),
  List.forall_mem_cons.mpr ⟨sd_callS 55 23 65 1 1 40 [] (gdS hws_55 hws_65 zw96 zw97 zw63 zw95) hws_65 rfl (by decide +kernel) rfl rfl ⟨by decide +kernel, by decide +kernel, by decide +kernel⟩ ⟨by decide, by decide⟩ (catch_nil rfl) (dk_55_0 (23, .invokestatic 40, 3) (List.mem_of_getElem? (i := 13) rfl)),
  List.forall_mem_cons.mpr ⟨sd_oLdR_n 55 26 0 0 rfl (dk_55_0 (26, .aload_n 0, 1) (List.mem_of_getElem? (i := 14) rfl)),
  List.forall_mem_cons.mpr ⟨sd_oGetR 55 27 6 4 32 RX5 TX5 7 rfl ⟨by decide, by decide⟩ rfl (by decide) rfl (fun w h => iw_55 w (uz_5 w h)) rfl (iw_55 _ zw91) (dk_55_0 (27, .getfield 32, 3) (List.mem_of_getElem? (i := 15) rfl)),
  List.forall_mem_cons.mpr ⟨sd_oGetRN 55 30 2 0 220 RX1 TX1 2 rfl ⟨by decide, by decide⟩ rfl (by decide) rfl (fun w h => iw_55 w (uz_1 w h)) rfl "Marginalia" (List.mem_of_getElem? (i := 14) rfl) (dk_55_0 (30, .getfield 220, 3) (List.mem_of_getElem? (i := 16) rfl)),
  List.forall_mem_cons.mpr ⟨sd_oLdI_n 55 33 2 2 rfl (dk_55_0 (33, .iload_n 2, 1) (List.mem_of_getElem? (i := 17) rfl)),
  List.forall_mem_cons.mpr ⟨sd_aaldA 55 34 (dk_55_0 (34, .aaload, 1) (List.mem_of_getElem? (i := 18) rfl)),
  List.forall_mem_cons.mpr ⟨sd_oLdI_n 55 35 1 1 rfl (dk_55_0 (35, .iload_n 1, 1) (List.mem_of_getElem? (i := 19) rfl)),
  List.forall_mem_cons.mpr ⟨sd_iald 55 36 (dk_55_0 (36, .iaload, 1) (List.mem_of_getElem? (i := 20) rfl)),
  List.forall_mem_cons.mpr ⟨sd_iret 55 37 rfl (dk_55_0 (37, .ireturn, 1) (List.mem_of_getElem? (i := 21) rfl)),
  fun _ h => nomatch h⟩⟩⟩⟩⟩⟩⟩⟩⟩⟩⟩⟩⟩⟩⟩⟩⟩⟩⟩⟩⟩⟩
def tb_55 : List (List (Nat × Op1)) := [tb_55_0]
theorem sm_55 : ∀ t ∈ tb_55, ∀ q ∈ t, SM GwP MdP D A l 55 q.1 q.2 := List.forall_mem_cons.mpr ⟨sm_55_0, fun _ h => nomatch h⟩
-- 56: Marginalia.meanThread()D
def dl_56_0 : List (Nat × Instr × Nat) := [(0, .aload_n 0, 1), (1, .iconst 2, 1), (2, .invokevirtual 183, 3), (5, .istore_n 1, 1), (6, .iload_n 1, 1), (7, .ifCond .ne 7, 3), (10, .dconst 0, 1), (11, .goto 11, 3), (14, .aload_n 0, 1), (15, .invokevirtual 180, 3), (18, .i2d, 1), (19, .iload_n 1, 1), (20, .i2d, 1), (21, .ddiv, 1), (22, .dreturn, 1)]
theorem dk_56_0 : ∀ q ∈ dl_56_0, decode (mCod (MdP 56)) q.1 = .ok q.2 := by
  rw [show mCod (MdP 56) = cX5_meanThread from rfl]
  decide +kernel
def tb_56_0 : List (Nat × Op1) := [(0, oLdR 0 1), (1, oCI 2 1), (2, oCallV 81 1 4 6 []), (5, oStI 1 1), (6, oLdI 1 1), (7, oZne 14), (10, oCD), (11, oGoto 22), (14, oLdR 0 1), (15, oCallV 80 0 3 6 []), (18, oI2D), (19, oLdI 1 1), (20, oI2D), (21, oDDiv), (22, oRetD)]
theorem sm_56_0 : ∀ q ∈ tb_56_0, SM GwP MdP D A l 56 q.1 q.2 :=
  List.forall_mem_cons.mpr ⟨sd_oLdR_n 56 0 0 0 rfl (dk_56_0 (0, .aload_n 0, 1) (List.mem_of_getElem? (i := 0) rfl)),
  List.forall_mem_cons.mpr ⟨sd_iconst 56 1 2 ⟨by decide, by decide⟩ (dk_56_0 (1, .iconst 2, 1) (List.mem_of_getElem? (i := 1) rfl)),
  List.forall_mem_cons.mpr ⟨sd_callV 56 2 81 1 4 183 6 [] (gdV hws_56 hws_81 zw207 zw208 zw209 zw63 zw206) hws_81 rfl (by decide +kernel) rfl rfl ⟨by decide +kernel, by decide +kernel, by decide +kernel⟩ ⟨by decide, by decide⟩ (catch_nil rfl) RX5 rfl TX5 7 rfl ⟨by decide, by decide⟩ (dk_56_0 (2, .invokevirtual 183, 3) (List.mem_of_getElem? (i := 2) rfl)),
  List.forall_mem_cons.mpr ⟨sd_oStI_n 56 5 1 1 rfl (by decide) (dk_56_0 (5, .istore_n 1, 1) (List.mem_of_getElem? (i := 3) rfl)),
  List.forall_mem_cons.mpr ⟨sd_oLdI_n 56 6 1 1 rfl (dk_56_0 (6, .iload_n 1, 1) (List.mem_of_getElem? (i := 4) rfl)),
  List.forall_mem_cons.mpr ⟨sd_if_ne 56 7 7 14 (by decide) (dk_56_0 (7, .ifCond .ne 7, 3) (List.mem_of_getElem? (i := 5) rfl)),
  List.forall_mem_cons.mpr ⟨sd_dconst0 56 10 (dk_56_0 (10, .dconst 0, 1) (List.mem_of_getElem? (i := 6) rfl)),
  List.forall_mem_cons.mpr ⟨sd_goto 56 11 11 22 (by decide) (dk_56_0 (11, .goto 11, 3) (List.mem_of_getElem? (i := 7) rfl)),
  List.forall_mem_cons.mpr ⟨sd_oLdR_n 56 14 0 0 rfl (dk_56_0 (14, .aload_n 0, 1) (List.mem_of_getElem? (i := 8) rfl)),
  List.forall_mem_cons.mpr ⟨sd_callV 56 15 80 0 3 180 6 [] (gdV hws_56 hws_80 zw203 zw204 zw205 zw63 zw202) hws_80 rfl (by decide +kernel) rfl rfl ⟨by decide +kernel, by decide +kernel, by decide +kernel⟩ ⟨by decide, by decide⟩ (catch_nil rfl) RX5 rfl TX5 7 rfl ⟨by decide, by decide⟩ (dk_56_0 (15, .invokevirtual 180, 3) (List.mem_of_getElem? (i := 9) rfl)),
  List.forall_mem_cons.mpr ⟨sd_i2d 56 18 (dk_56_0 (18, .i2d, 1) (List.mem_of_getElem? (i := 10) rfl)),
  List.forall_mem_cons.mpr ⟨sd_oLdI_n 56 19 1 1 rfl (dk_56_0 (19, .iload_n 1, 1) (List.mem_of_getElem? (i := 11) rfl)),
  List.forall_mem_cons.mpr ⟨sd_i2d 56 20 (dk_56_0 (20, .i2d, 1) (List.mem_of_getElem? (i := 12) rfl)),
  List.forall_mem_cons.mpr ⟨sd_ddiv 56 21 (dk_56_0 (21, .ddiv, 1) (List.mem_of_getElem? (i := 13) rfl)),
  List.forall_mem_cons.mpr ⟨sd_dret 56 22 rfl (dk_56_0 (22, .dreturn, 1) (List.mem_of_getElem? (i := 14) rfl)),
  fun _ h => nomatch h⟩⟩⟩⟩⟩⟩⟩⟩⟩⟩⟩⟩⟩⟩⟩
def tb_56 : List (List (Nat × Op1)) := [tb_56_0]
theorem sm_56 : ∀ t ∈ tb_56, ∀ q ∈ t, SM GwP MdP D A l 56 q.1 q.2 := List.forall_mem_cons.mpr ⟨sm_56_0, fun _ h => nomatch h⟩
-- 57: Marginalia.lostBy(II)I
def dl_57_0 : List (Nat × Instr × Nat) := [(0, .aload_n 0, 1), (1, .iload_n 1, 1), (2, .invokevirtual 74, 3), (5, .iload_n 2, 1), (6, .iconst 1, 1), (7, .aload_n 0, 1), (8, .getfield 16, 3), (11, .invokevirtual 55, 3), (14, .iload_n 1, 1), (15, .isub, 1), (16, .invokestatic 59, 3), (19, .invokestatic 40, 3), (22, .iconst 0, 1), (23, .istore_n 3, 1), (24, .iconst 0, 1), (25, .istore 4, 2), (27, .iload 4, 2), (29, .aload_n 0, 1), (30, .getfield 100, 3), (33, .if_icmp .ge 48, 3), (36, .aload_n 0, 1), (37, .getfield 22, 3), (40, .iload 4, 2), (42, .aaload, 1), (43, .invokevirtual 174, 3), (46, .ifCond .eq 29, 3), (49, .aload_n 0, 1), (50, .getfield 22, 3), (53, .iload 4, 2), (55, .aaload, 1), (56, .getfield 135, 3), (59, .getfield 204, 3), (62, .iload_n 1, 1), (63, .iload_n 1, 1), (64, .iload_n 2, 1), (65, .iadd, 1), (66, .invokevirtual 224, 3), (69, .ifCond .eq 6, 3), (72, .iinc 3 1, 3), (75, .iinc 4 1, 3)]
theorem dk_57_0 : ∀ q ∈ dl_57_0, decode (mCod (MdP 57)) q.1 = .ok q.2 := by
  rw [show mCod (MdP 57) = cX5_lostBy from rfl]
  decide +kernel
def dl_57_1 : List (Nat × Instr × Nat) := [(78, .goto (-51), 3), (81, .iload_n 3, 1), (82, .ireturn, 1)]
theorem dk_57_1 : ∀ q ∈ dl_57_1, decode (mCod (MdP 57)) q.1 = .ok q.2 := by
  rw [show mCod (MdP 57) = cX5_lostBy from rfl]
  decide +kernel
def tb_57_0 : List (Nat × Op1) := [(0, oLdR 0 1), (1, oLdI 1 1), (2, oCallV 62 1 2 6 []), (5, oLdI 2 1), (6, oCI 1 1), (7, oLdR 0 1), (8, oGetR 6 1), (11, oCallV 23 0 1 5 []), (14, oLdI 1 1), (15, oSub), (16, oCallS 67 3 3 []), (19, oCallS 65 1 1 []), (22, oCI 0 1), (23, oStI 3 1), (24, oCI 0 1), (25, oStI 4 2), (27, oLdI 4 2), (29, oLdR 0 1), (30, oGetI 6 6), (33, oCge 81), (36, oLdR 0 1), (37, oGetR 6 2), (40, oLdI 4 2), (42, oALdR 13), (43, oCallV 14 0 1 3 []), (46, oZeq 75), (49, oLdR 0 1), (50, oGetR 6 2), (53, oLdI 4 2), (55, oALdR 13), (56, oGetR 3 5), (59, oGetR 4 3), (62, oLdI 1 1), (63, oLdI 1 1)]
theorem sm_57_0 : ∀ q ∈ tb_57_0, SM GwP MdP D A l 57 q.1 q.2 :=
  List.forall_mem_cons.mpr ⟨sd_oLdR_n 57 0 0 0 rfl (dk_57_0 (0, .aload_n 0, 1) (List.mem_of_getElem? (i := 0) rfl)),
  List.forall_mem_cons.mpr ⟨sd_oLdI_n 57 1 1 1 rfl (dk_57_0 (1, .iload_n 1, 1) (List.mem_of_getElem? (i := 1) rfl)),
  List.forall_mem_cons.mpr ⟨sd_callV 57 2 62 1 2 74 6 [] (gdV hws_57 hws_62 zw120 zw121 zw122 zw63 zw119) hws_62 rfl (by decide +kernel) rfl rfl ⟨by decide +kernel, by decide +kernel, by decide +kernel⟩ ⟨by decide, by decide⟩ (catch_nil rfl) RX5 rfl TX5 7 rfl ⟨by decide, by decide⟩ (dk_57_0 (2, .invokevirtual 74, 3) (List.mem_of_getElem? (i := 2) rfl)),
  List.forall_mem_cons.mpr ⟨sd_oLdI_n 57 5 2 2 rfl (dk_57_0 (5, .iload_n 2, 1) (List.mem_of_getElem? (i := 3) rfl)),
  List.forall_mem_cons.mpr ⟨sd_iconst 57 6 1 ⟨by decide, by decide⟩ (dk_57_0 (6, .iconst 1, 1) (List.mem_of_getElem? (i := 4) rfl)),
  List.forall_mem_cons.mpr ⟨sd_oLdR_n 57 7 0 0 rfl (dk_57_0 (7, .aload_n 0, 1) (List.mem_of_getElem? (i := 5) rfl)),
  List.forall_mem_cons.mpr ⟨sd_oGetR 57 8 6 1 16 RX5 TX5 7 rfl ⟨by decide, by decide⟩ rfl (by decide) rfl (fun w h => iw_57 w (uz_5 w h)) rfl (iw_57 _ zw81) (dk_57_0 (8, .getfield 16, 3) (List.mem_of_getElem? (i := 6) rfl)),
  List.forall_mem_cons.mpr ⟨sd_callV 57 11 23 0 1 55 5 [] (gdV hws_57 hws_23 zw106 zw59 zw60 zw61 zw57) hws_23 rfl (by decide +kernel) rfl rfl ⟨by decide +kernel, by decide +kernel, by decide +kernel⟩ ⟨by decide, by decide⟩ (catch_nil rfl) RX4 rfl TX4 5 rfl ⟨by decide, by decide⟩ (dk_57_0 (11, .invokevirtual 55, 3) (List.mem_of_getElem? (i := 7) rfl)),
  List.forall_mem_cons.mpr ⟨sd_oLdI_n 57 14 1 1 rfl (dk_57_0 (14, .iload_n 1, 1) (List.mem_of_getElem? (i := 8) rfl)),
  List.forall_mem_cons.mpr ⟨sd_isub 57 15 (dk_57_0 (15, .isub, 1) (List.mem_of_getElem? (i := 9) rfl)),
  List.forall_mem_cons.mpr ⟨sd_callS 57 16 67 3 3 59 [] (gdS hws_57 hws_67 zw107 zw64 zw63 zw62) hws_67 rfl (by decide +kernel) rfl rfl ⟨by decide +kernel, by decide +kernel, by decide +kernel⟩ ⟨by decide, by decide⟩ (catch_nil rfl) (dk_57_0 (16, .invokestatic 59, 3) (List.mem_of_getElem? (i := 10) rfl)),
  List.forall_mem_cons.mpr ⟨sd_callS 57 19 65 1 1 40 [] (gdS hws_57 hws_65 zw96 zw97 zw63 zw95) hws_65 rfl (by decide +kernel) rfl rfl ⟨by decide +kernel, by decide +kernel, by decide +kernel⟩ ⟨by decide, by decide⟩ (catch_nil rfl) (dk_57_0 (19, .invokestatic 40, 3) (List.mem_of_getElem? (i := 11) rfl)),
  List.forall_mem_cons.mpr ⟨sd_iconst 57 22 0 ⟨by decide, by decide⟩ (dk_57_0 (22, .iconst 0, 1) (List.mem_of_getElem? (i := 12) rfl)),
  List.forall_mem_cons.mpr ⟨sd_oStI_n 57 23 3 3 rfl (by decide) (dk_57_0 (23, .istore_n 3, 1) (List.mem_of_getElem? (i := 13) rfl)),
  List.forall_mem_cons.mpr ⟨sd_iconst 57 24 0 ⟨by decide, by decide⟩ (dk_57_0 (24, .iconst 0, 1) (List.mem_of_getElem? (i := 14) rfl)),
  List.forall_mem_cons.mpr ⟨sd_oStI 57 25 4 (by decide) (dk_57_0 (25, .istore 4, 2) (List.mem_of_getElem? (i := 15) rfl)),
  List.forall_mem_cons.mpr ⟨sd_oLdI 57 27 4 (dk_57_0 (27, .iload 4, 2) (List.mem_of_getElem? (i := 16) rfl)),
  List.forall_mem_cons.mpr ⟨sd_oLdR_n 57 29 0 0 rfl (dk_57_0 (29, .aload_n 0, 1) (List.mem_of_getElem? (i := 17) rfl)),
  List.forall_mem_cons.mpr ⟨sd_oGetI 57 30 6 6 100 RX5 TX5 7 rfl ⟨by decide, by decide⟩ rfl (by decide) rfl (fun w h => iw_57 w (uz_5 w h)) rfl (iw_57 _ zw142) (dk_57_0 (30, .getfield 100, 3) (List.mem_of_getElem? (i := 18) rfl)),
  List.forall_mem_cons.mpr ⟨sd_icmp_ge 57 33 48 81 (by decide) (dk_57_0 (33, .if_icmp .ge 48, 3) (List.mem_of_getElem? (i := 19) rfl)),
  List.forall_mem_cons.mpr ⟨sd_oLdR_n 57 36 0 0 rfl (dk_57_0 (36, .aload_n 0, 1) (List.mem_of_getElem? (i := 20) rfl)),
  List.forall_mem_cons.mpr ⟨sd_oGetR 57 37 6 2 22 RX5 TX5 7 rfl ⟨by decide, by decide⟩ rfl (by decide) rfl (fun w h => iw_57 w (uz_5 w h)) rfl (iw_57 _ zw83) (dk_57_0 (37, .getfield 22, 3) (List.mem_of_getElem? (i := 21) rfl)),
  List.forall_mem_cons.mpr ⟨sd_oLdI 57 40 4 (dk_57_0 (40, .iload 4, 2) (List.mem_of_getElem? (i := 22) rfl)),
  List.forall_mem_cons.mpr ⟨sd_aaldN 57 42 (dk_57_0 (42, .aaload, 1) (List.mem_of_getElem? (i := 23) rfl)),
  List.forall_mem_cons.mpr ⟨sd_callV 57 43 14 0 1 174 3 [] (gdV hws_57 hws_14 zw195 zw196 zw197 zw29 zw194) hws_14 rfl (by decide +kernel) rfl rfl ⟨by decide +kernel, by decide +kernel, by decide +kernel⟩ ⟨by decide, by decide⟩ (catch_nil rfl) RX2 rfl TX2 10 rfl ⟨by decide, by decide⟩ (dk_57_0 (43, .invokevirtual 174, 3) (List.mem_of_getElem? (i := 24) rfl)),
  List.forall_mem_cons.mpr ⟨sd_if_eq 57 46 29 75 (by decide) (dk_57_0 (46, .ifCond .eq 29, 3) (List.mem_of_getElem? (i := 25) rfl)),
  List.forall_mem_cons.mpr ⟨sd_oLdR_n 57 49 0 0 rfl (dk_57_0 (49, .aload_n 0, 1) (List.mem_of_getElem? (i := 26) rfl)),
  List.forall_mem_cons.mpr ⟨sd_oGetR 57 50 6 2 22 RX5 TX5 7 rfl ⟨by decide, by decide⟩ rfl (by decide) rfl (fun w h => iw_57 w (uz_5 w h)) rfl (iw_57 _ zw83) (dk_57_0 (50, .getfield 22, 3) (List.mem_of_getElem? (i := 27) rfl)),
  List.forall_mem_cons.mpr ⟨sd_oLdI 57 53 4 (dk_57_0 (53, .iload 4, 2) (List.mem_of_getElem? (i := 28) rfl)),
  List.forall_mem_cons.mpr ⟨sd_aaldN 57 55 (dk_57_0 (55, .aaload, 1) (List.mem_of_getElem? (i := 29) rfl)),
  List.forall_mem_cons.mpr ⟨sd_oGetRN 57 56 3 5 135 RX2 TX2 10 rfl ⟨by decide, by decide⟩ rfl (by decide) rfl (fun w h => iw_57 w (uz_2 w h)) rfl "Marginalia" (List.mem_of_getElem? (i := 2) rfl) (dk_57_0 (56, .getfield 135, 3) (List.mem_of_getElem? (i := 30) rfl)),
  List.forall_mem_cons.mpr ⟨sd_oGetRN 57 59 4 3 204 RX3 TX3 8 rfl ⟨by decide, by decide⟩ rfl (by decide) rfl (fun w h => iw_57 w (uz_3 w h)) rfl "Marginalia" (List.mem_of_getElem? (i := 12) rfl) (dk_57_0 (59, .getfield 204, 3) (List.mem_of_getElem? (i := 31) rfl)),
  List.forall_mem_cons.mpr ⟨sd_oLdI_n 57 62 1 1 rfl (dk_57_0 (62, .iload_n 1, 1) (List.mem_of_getElem? (i := 32) rfl)),
  List.forall_mem_cons.mpr ⟨sd_oLdI_n 57 63 1 1 rfl (dk_57_0 (63, .iload_n 1, 1) (List.mem_of_getElem? (i := 33) rfl)),
  fun _ h => nomatch h⟩⟩⟩⟩⟩⟩⟩⟩⟩⟩⟩⟩⟩⟩⟩⟩⟩⟩⟩⟩⟩⟩⟩⟩⟩⟩⟩⟩⟩⟩⟩⟩⟩⟩
def tb_57_1 : List (Nat × Op1) := [(64, oLdI 2 1), (65, oAdd), (66, oCallV 6 2 3 1 []), (69, oZeq 75), (72, oInc 3 1), (75, oInc 4 1), (78, oGoto 27), (81, oLdI 3 1), (82, oRetI)]
theorem sm_57_1 : ∀ q ∈ tb_57_1, SM GwP MdP D A l 57 q.1 q.2 :=
  List.forall_mem_cons.mpr ⟨sd_oLdI_n 57 64 2 2 rfl (dk_57_0 (64, .iload_n 2, 1) (List.mem_of_getElem? (i := 34) rfl)),
  List.forall_mem_cons.mpr ⟨sd_iadd 57 65 (dk_57_0 (65, .iadd, 1) (List.mem_of_getElem? (i := 35) rfl)),
  List.forall_mem_cons.mpr ⟨sd_callV 57 66 6 2 3 224 1 [] (gdV hws_57 hws_6 zw231 zw232 zw233 zw9 zw230) hws_6 rfl (by decide +kernel) rfl rfl ⟨by decide +kernel, by decide +kernel, by decide +kernel⟩ ⟨by decide, by decide⟩ (catch_nil rfl) RX0 rfl TX0 2 rfl ⟨by decide, by decide⟩ (dk_57_0 (66, .invokevirtual 224, 3) (List.mem_of_getElem? (i := 36) rfl)),
  List.forall_mem_cons.mpr ⟨sd_if_eq 57 69 6 75 (by decide) (dk_57_0 (69, .ifCond .eq 6, 3) (List.mem_of_getElem? (i := 37) rfl)),
  List.forall_mem_cons.mpr ⟨sd_iinc 57 72 3 1 (by decide) (dk_57_0 (72, .iinc 3 1, 3) (List.mem_of_getElem? (i := 38) rfl)),
  List.forall_mem_cons.mpr ⟨sd_iinc 57 75 4 1 (by decide) (dk_57_0 (75, .iinc 4 1, 3) (List.mem_of_getElem? (i := 39) rfl)),
  List.forall_mem_cons.mpr ⟨sd_goto 57 78 (-51) 27 (by decide) (dk_57_1 (78, .goto (-51), 3) (List.mem_of_getElem? (i := 0) rfl)),
  List.forall_mem_cons.mpr ⟨sd_oLdI_n 57 81 3 3 rfl (dk_57_1 (81, .iload_n 3, 1) (List.mem_of_getElem? (i := 1) rfl)),
  List.forall_mem_cons.mpr ⟨sd_iret 57 82 rfl (dk_57_1 (82, .ireturn, 1) (List.mem_of_getElem? (i := 2) rfl)),
  fun _ h => nomatch h⟩⟩⟩⟩⟩⟩⟩⟩⟩
def tb_57 : List (List (Nat × Op1)) := [tb_57_0, tb_57_1]
theorem sm_57 : ∀ t ∈ tb_57, ∀ q ∈ t, SM GwP MdP D A l 57 q.1 q.2 := List.forall_mem_cons.mpr ⟨sm_57_0, List.forall_mem_cons.mpr ⟨sm_57_1, fun _ h => nomatch h⟩⟩
-- 58: Marginalia.wouldHeal(I)I
def dl_58_0 : List (Nat × Instr × Nat) := [(0, .aload_n 0, 1), (1, .aload_n 0, 1), (2, .iload_n 1, 1), (3, .invokevirtual 123, 3), (6, .getfield 135, 3), (9, .invokevirtual 227, 3), (12, .ireturn, 1)]
theorem dk_58_0 : ∀ q ∈ dl_58_0, decode (mCod (MdP 58)) q.1 = .ok q.2 := by
  rw [show mCod (MdP 58) = cX5_wouldHeal from rfl]
  decide +kernel
def tb_58_0 : List (Nat × Op1) := [(0, oLdR 0 1), (1, oLdR 0 1), (2, oLdI 1 1), (3, oCallV 63 1 3 6 []), (6, oGetR 3 5), (9, oCallV 76 1 4 6 []), (12, oRetI)]
theorem sm_58_0 : ∀ q ∈ tb_58_0, SM GwP MdP D A l 58 q.1 q.2 :=
  List.forall_mem_cons.mpr ⟨sd_oLdR_n 58 0 0 0 rfl (dk_58_0 (0, .aload_n 0, 1) (List.mem_of_getElem? (i := 0) rfl)),
  List.forall_mem_cons.mpr ⟨sd_oLdR_n 58 1 0 0 rfl (dk_58_0 (1, .aload_n 0, 1) (List.mem_of_getElem? (i := 1) rfl)),
  List.forall_mem_cons.mpr ⟨sd_oLdI_n 58 2 1 1 rfl (dk_58_0 (2, .iload_n 1, 1) (List.mem_of_getElem? (i := 2) rfl)),
  List.forall_mem_cons.mpr ⟨sd_callV 58 3 63 1 3 123 6 [] (gdV hws_58 hws_63 zw167 zw168 zw169 zw63 zw166) hws_63 rfl (by decide +kernel) rfl rfl ⟨by decide +kernel, by decide +kernel, by decide +kernel⟩ ⟨by decide, by decide⟩ (catch_nil rfl) RX5 rfl TX5 7 rfl ⟨by decide, by decide⟩ (dk_58_0 (3, .invokevirtual 123, 3) (List.mem_of_getElem? (i := 3) rfl)),
  List.forall_mem_cons.mpr ⟨sd_oGetRN 58 6 3 5 135 RX2 TX2 10 rfl ⟨by decide, by decide⟩ rfl (by decide) rfl (fun w h => iw_58 w (uz_2 w h)) rfl "Marginalia" (List.mem_of_getElem? (i := 2) rfl) (dk_58_0 (6, .getfield 135, 3) (List.mem_of_getElem? (i := 4) rfl)),
  List.forall_mem_cons.mpr ⟨sd_callV 58 9 76 1 4 227 6 [] (gdV hws_58 hws_76 zw235 zw236 zw237 zw63 zw234) hws_76 rfl (by decide +kernel) rfl rfl ⟨by decide +kernel, by decide +kernel, by decide +kernel⟩ ⟨by decide, by decide⟩ (catch_nil rfl) RX5 rfl TX5 7 rfl ⟨by decide, by decide⟩ (dk_58_0 (9, .invokevirtual 227, 3) (List.mem_of_getElem? (i := 5) rfl)),
  List.forall_mem_cons.mpr ⟨sd_iret 58 12 rfl (dk_58_0 (12, .ireturn, 1) (List.mem_of_getElem? (i := 6) rfl)),
  fun _ h => nomatch h⟩⟩⟩⟩⟩⟩⟩
def tb_58 : List (List (Nat × Op1)) := [tb_58_0]
theorem sm_58 : ∀ t ∈ tb_58, ∀ q ∈ t, SM GwP MdP D A l 58 q.1 q.2 := List.forall_mem_cons.mpr ⟨sm_58_0, fun _ h => nomatch h⟩
-- 59: Marginalia.wouldSee(II)I
def dl_59_0 : List (Nat × Instr × Nat) := [(0, .aload_n 0, 1), (1, .iload_n 1, 1), (2, .invokevirtual 51, 3), (5, .iload_n 2, 1), (6, .invokestatic 36, 3), (9, .invokestatic 40, 3), (12, .iconst 0, 1), (13, .istore_n 3, 1), (14, .iconst 0, 1), (15, .istore 4, 2), (17, .iload 4, 2), (19, .aload_n 0, 1), (20, .getfield 100, 3), (23, .if_icmp .ge 43, 3), (26, .aload_n 0, 1), (27, .getfield 22, 3), (30, .iload 4, 2), (32, .aaload, 1), (33, .getfield 197, 3), (36, .ifCond .ne 24, 3), (39, .aload_n 0, 1), (40, .getfield 22, 3), (43, .iload 4, 2), (45, .aaload, 1), (46, .getfield 135, 3), (49, .iload_n 1, 1), (50, .iload_n 2, 1), (51, .invokevirtual 231, 3), (54, .ifCond .eq 6, 3), (57, .iinc 3 1, 3), (60, .iinc 4 1, 3), (63, .goto (-46), 3), (66, .iload_n 3, 1), (67, .ireturn, 1)]
theorem dk_59_0 : ∀ q ∈ dl_59_0, decode (mCod (MdP 59)) q.1 = .ok q.2 := by
  rw [show mCod (MdP 59) = cX5_wouldSee from rfl]
  decide +kernel
def tb_59_0 : List (Nat × Op1) := [(0, oLdR 0 1), (1, oLdI 1 1), (2, oCallV 61 1 2 6 []), (5, oLdI 2 1), (6, oCallS 68 1 1 []), (9, oCallS 65 1 1 []), (12, oCI 0 1), (13, oStI 3 1), (14, oCI 0 1), (15, oStI 4 2), (17, oLdI 4 2), (19, oLdR 0 1), (20, oGetI 6 6), (23, oCge 66), (26, oLdR 0 1), (27, oGetR 6 2), (30, oLdI 4 2), (32, oALdR 13), (33, oGetI 3 9), (36, oZne 60), (39, oLdR 0 1), (40, oGetR 6 2), (43, oLdI 4 2), (45, oALdR 13), (46, oGetR 3 5), (49, oLdI 1 1), (50, oLdI 2 1), (51, oCallV 20 2 3 4 []), (54, oZeq 60), (57, oInc 3 1), (60, oInc 4 1), (63, oGoto 17)]
theorem sm_59_0 : ∀ q ∈ tb_59_0, SM GwP MdP D A l 59 q.1 q.2 :=
  List.forall_mem_cons.mpr ⟨sd_oLdR_n 59 0 0 0 rfl (dk_59_0 (0, .aload_n 0, 1) (List.mem_of_getElem? (i := 0) rfl)),
  List.forall_mem_cons.mpr ⟨sd_oLdI_n 59 1 1 1 rfl (dk_59_0 (1, .iload_n 1, 1) (List.mem_of_getElem? (i := 1) rfl)),
  List.forall_mem_cons.mpr ⟨sd_callV 59 2 61 1 2 51 6 [] (gdV hws_59 hws_61 zw103 zw104 zw105 zw63 zw102) hws_61 rfl (by decide +kernel) rfl rfl ⟨by decide +kernel, by decide +kernel, by decide +kernel⟩ ⟨by decide, by decide⟩ (catch_nil rfl) RX5 rfl TX5 7 rfl ⟨by decide, by decide⟩ (dk_59_0 (2, .invokevirtual 51, 3) (List.mem_of_getElem? (i := 2) rfl)),
  List.forall_mem_cons.mpr ⟨sd_oLdI_n 59 5 2 2 rfl (dk_59_0 (5, .iload_n 2, 1) (List.mem_of_getElem? (i := 3) rfl)),
  List.forall_mem_cons.mpr ⟨sd_callS 59 6 68 1 1 36 [] (gdS hws_59 hws_68 zw93 zw94 zw63 zw92) hws_68 rfl (by decide +kernel) rfl rfl ⟨by decide +kernel, by decide +kernel, by decide +kernel⟩ ⟨by decide, by decide⟩ (catch_nil rfl) (dk_59_0 (6, .invokestatic 36, 3) (List.mem_of_getElem? (i := 4) rfl)),
  List.forall_mem_cons.mpr ⟨sd_callS 59 9 65 1 1 40 [] (gdS hws_59 hws_65 zw96 zw97 zw63 zw95) hws_65 rfl (by decide +kernel) rfl rfl ⟨by decide +kernel, by decide +kernel, by decide +kernel⟩ ⟨by decide, by decide⟩ (catch_nil rfl) (dk_59_0 (9, .invokestatic 40, 3) (List.mem_of_getElem? (i := 5) rfl)),
  List.forall_mem_cons.mpr ⟨sd_iconst 59 12 0 ⟨by decide, by decide⟩ (dk_59_0 (12, .iconst 0, 1) (List.mem_of_getElem? (i := 6) rfl)),
  List.forall_mem_cons.mpr ⟨sd_oStI_n 59 13 3 3 rfl (by decide) (dk_59_0 (13, .istore_n 3, 1) (List.mem_of_getElem? (i := 7) rfl)),
  List.forall_mem_cons.mpr ⟨sd_iconst 59 14 0 ⟨by decide, by decide⟩ (dk_59_0 (14, .iconst 0, 1) (List.mem_of_getElem? (i := 8) rfl)),
  List.forall_mem_cons.mpr ⟨sd_oStI 59 15 4 (by decide) (dk_59_0 (15, .istore 4, 2) (List.mem_of_getElem? (i := 9) rfl)),
  List.forall_mem_cons.mpr ⟨sd_oLdI 59 17 4 (dk_59_0 (17, .iload 4, 2) (List.mem_of_getElem? (i := 10) rfl)),
  List.forall_mem_cons.mpr ⟨sd_oLdR_n 59 19 0 0 rfl (dk_59_0 (19, .aload_n 0, 1) (List.mem_of_getElem? (i := 11) rfl)),
  List.forall_mem_cons.mpr ⟨sd_oGetI 59 20 6 6 100 RX5 TX5 7 rfl ⟨by decide, by decide⟩ rfl (by decide) rfl (fun w h => iw_59 w (uz_5 w h)) rfl (iw_59 _ zw142) (dk_59_0 (20, .getfield 100, 3) (List.mem_of_getElem? (i := 12) rfl)),
  List.forall_mem_cons.mpr ⟨sd_icmp_ge 59 23 43 66 (by decide) (dk_59_0 (23, .if_icmp .ge 43, 3) (List.mem_of_getElem? (i := 13) rfl)),
  List.forall_mem_cons.mpr ⟨sd_oLdR_n 59 26 0 0 rfl (dk_59_0 (26, .aload_n 0, 1) (List.mem_of_getElem? (i := 14) rfl)),
  List.forall_mem_cons.mpr ⟨sd_oGetR 59 27 6 2 22 RX5 TX5 7 rfl ⟨by decide, by decide⟩ rfl (by decide) rfl (fun w h => iw_59 w (uz_5 w h)) rfl (iw_59 _ zw83) (dk_59_0 (27, .getfield 22, 3) (List.mem_of_getElem? (i := 15) rfl)),
  List.forall_mem_cons.mpr ⟨sd_oLdI 59 30 4 (dk_59_0 (30, .iload 4, 2) (List.mem_of_getElem? (i := 16) rfl)),
  List.forall_mem_cons.mpr ⟨sd_aaldN 59 32 (dk_59_0 (32, .aaload, 1) (List.mem_of_getElem? (i := 17) rfl)),
  List.forall_mem_cons.mpr ⟨sd_oGetIN 59 33 3 9 197 RX2 TX2 10 rfl ⟨by decide, by decide⟩ rfl (by decide) rfl (fun w h => iw_59 w (uz_2 w h)) rfl "Marginalia" (List.mem_of_getElem? (i := 10) rfl) (dk_59_0 (33, .getfield 197, 3) (List.mem_of_getElem? (i := 18) rfl)),
  List.forall_mem_cons.mpr ⟨sd_if_ne 59 36 24 60 (by decide) (dk_59_0 (36, .ifCond .ne 24, 3) (List.mem_of_getElem? (i := 19) rfl)),
  List.forall_mem_cons.mpr ⟨sd_oLdR_n 59 39 0 0 rfl (dk_59_0 (39, .aload_n 0, 1) (List.mem_of_getElem? (i := 20) rfl)),
  List.forall_mem_cons.mpr ⟨sd_oGetR 59 40 6 2 22 RX5 TX5 7 rfl ⟨by decide, by decide⟩ rfl (by decide) rfl (fun w h => iw_59 w (uz_5 w h)) rfl (iw_59 _ zw83) (dk_59_0 (40, .getfield 22, 3) (List.mem_of_getElem? (i := 21) rfl)),
  List.forall_mem_cons.mpr ⟨sd_oLdI 59 43 4 (dk_59_0 (43, .iload 4, 2) (List.mem_of_getElem? (i := 22) rfl)),
  List.forall_mem_cons.mpr ⟨sd_aaldN 59 45 (dk_59_0 (45, .aaload, 1) (List.mem_of_getElem? (i := 23) rfl)),
  List.forall_mem_cons.mpr ⟨sd_oGetRN 59 46 3 5 135 RX2 TX2 10 rfl ⟨by decide, by decide⟩ rfl (by decide) rfl (fun w h => iw_59 w (uz_2 w h)) rfl "Marginalia" (List.mem_of_getElem? (i := 2) rfl) (dk_59_0 (46, .getfield 135, 3) (List.mem_of_getElem? (i := 24) rfl)),
  List.forall_mem_cons.mpr ⟨sd_oLdI_n 59 49 1 1 rfl (dk_59_0 (49, .iload_n 1, 1) (List.mem_of_getElem? (i := 25) rfl)),
  List.forall_mem_cons.mpr ⟨sd_oLdI_n 59 50 2 2 rfl (dk_59_0 (50, .iload_n 2, 1) (List.mem_of_getElem? (i := 26) rfl)),
  List.forall_mem_cons.mpr ⟨sd_callV 59 51 20 2 3 231 4 [] (gdV hws_59 hws_20 zw239 zw240 zw241 zw145 zw238) hws_20 rfl (by decide +kernel) rfl rfl ⟨by decide +kernel, by decide +kernel, by decide +kernel⟩ ⟨by decide, by decide⟩ (catch_nil rfl) RX3 rfl TX3 8 rfl ⟨by decide, by decide⟩ (dk_59_0 (51, .invokevirtual 231, 3) (List.mem_of_getElem? (i := 27) rfl)),
  List.forall_mem_cons.mpr ⟨sd_if_eq 59 54 6 60 (by decide) (dk_59_0 (54, .ifCond .eq 6, 3) (List.mem_of_getElem? (i := 28) rfl)),
  List.forall_mem_cons.mpr ⟨sd_iinc 59 57 3 1 (by decide) (dk_59_0 (57, .iinc 3 1, 3) (List.mem_of_getElem? (i := 29) rfl)),
  List.forall_mem_cons.mpr ⟨sd_iinc 59 60 4 1 (by decide) (dk_59_0 (60, .iinc 4 1, 3) (List.mem_of_getElem? (i := 30) rfl)),
  List.forall_mem_cons.mpr ⟨sd_goto 59 63 (-46) 17 (by decide) (dk_59_0 (63, .goto (-46), 3) (List.mem_of_getElem? (i := 31) rfl)),
  fun _ h => nomatch h⟩⟩⟩⟩⟩⟩⟩⟩⟩⟩⟩⟩⟩⟩⟩⟩⟩⟩⟩⟩⟩⟩⟩⟩⟩⟩⟩⟩⟩⟩⟩⟩
def tb_59_1 : List (Nat × Op1) := [(66, oLdI 3 1), (67, oRetI)]
theorem sm_59_1 : ∀ q ∈ tb_59_1, SM GwP MdP D A l 59 q.1 q.2 :=
  List.forall_mem_cons.mpr ⟨sd_oLdI_n 59 66 3 3 rfl (dk_59_0 (66, .iload_n 3, 1) (List.mem_of_getElem? (i := 32) rfl)),
  List.forall_mem_cons.mpr ⟨sd_iret 59 67 rfl (dk_59_0 (67, .ireturn, 1) (List.mem_of_getElem? (i := 33) rfl)),
  fun _ h => nomatch h⟩⟩
def tb_59 : List (List (Nat × Op1)) := [tb_59_0, tb_59_1]
theorem sm_59 : ∀ t ∈ tb_59, ∀ q ∈ t, SM GwP MdP D A l 59 q.1 q.2 := List.forall_mem_cons.mpr ⟨sm_59_0, List.forall_mem_cons.mpr ⟨sm_59_1, fun _ h => nomatch h⟩⟩
-- 60: Marginalia.digest()J
def dl_60_0 : List (Nat × Instr × Nat) := [(0, .aload_n 0, 1), (1, .ldc2_w 234, 3), (4, .invokevirtual 236, 3), (7, .lstore_n 1, 1), (8, .iconst 0, 1), (9, .istore_n 3, 1), (10, .iload_n 3, 1), (11, .aload_n 0, 1), (12, .getfield 44, 3), (15, .if_icmp .ge 16, 3), (18, .aload_n 0, 1), (19, .lload_n 1, 1), (20, .iload_n 3, 1), (21, .invokevirtual 240, 3), (24, .lstore_n 1, 1), (25, .iinc 3 1, 3), (28, .goto (-18), 3), (31, .iconst 0, 1), (32, .istore_n 3, 1), (33, .iload_n 3, 1), (34, .aload_n 0, 1), (35, .getfield 100, 3), (38, .if_icmp .ge 28, 3), (41, .aload_n 0, 1), (42, .getfield 22, 3), (45, .iload_n 3, 1), (46, .aaload, 1), (47, .getfield 197, 3), (50, .ifCond .ne 10, 3), (53, .aload_n 0, 1), (54, .lload_n 1, 1), (55, .iload_n 3, 1), (56, .invokevirtual 244, 3), (59, .lstore_n 1, 1), (60, .iinc 3 1, 3), (63, .goto (-30), 3), (66, .aload_n 0, 1), (67, .lload_n 1, 1), (68, .invokevirtual 247, 3), (71, .lreturn, 1)]
theorem dk_60_0 : ∀ q ∈ dl_60_0, decode (mCod (MdP 60)) q.1 = .ok q.2 := by
  rw [show mCod (MdP 60) = cX5_digest from rfl]
  decide +kernel
def tb_60_0 : List (Nat × Op1) := [(0, oLdR 0 1), (1, oCL 58083 3), (4, oCallV 85 1 6 6 []), (7, oStL 1 1), (8, oCI 0 1), (9, oStI 3 1), (10, oLdI 3 1), (11, oLdR 0 1), (12, oGetI 6 5), (15, oCge 31), (18, oLdR 0 1), (19, oLdL 1 1), (20, oLdI 3 1), (21, oCallV 86 2 6 6 []), (24, oStL 1 1), (25, oInc 3 1), (28, oGoto 10), (31, oCI 0 1), (32, oStI 3 1), (33, oLdI 3 1), (34, oLdR 0 1), (35, oGetI 6 6), (38, oCge 66), (41, oLdR 0 1), (42, oGetR 6 2), (45, oLdI 3 1), (46, oALdR 13), (47, oGetI 3 9), (50, oZne 60), (53, oLdR 0 1), (54, oLdL 1 1), (55, oLdI 3 1), (56, oCallV 87 2 7 6 []), (59, oStL 1 1), (60, oInc 3 1), (63, oGoto 33)]
theorem sm_60_0 : ∀ q ∈ tb_60_0, SM GwP MdP D A l 60 q.1 q.2 :=
  List.forall_mem_cons.mpr ⟨sd_oLdR_n 60 0 0 0 rfl (dk_60_0 (0, .aload_n 0, 1) (List.mem_of_getElem? (i := 0) rfl)),
  List.forall_mem_cons.mpr ⟨sd_ldc2 60 1 234 58083 (iw_60 _ zw242) (dk_60_0 (1, .ldc2_w 234, 3) (List.mem_of_getElem? (i := 1) rfl)),
  List.forall_mem_cons.mpr ⟨sd_callV 60 4 85 1 6 236 6 [] (gdV hws_60 hws_85 zw244 zw245 zw246 zw63 zw243) hws_85 rfl (by decide +kernel) rfl rfl ⟨by decide +kernel, by decide +kernel, by decide +kernel⟩ ⟨by decide, by decide⟩ (catch_nil rfl) RX5 rfl TX5 7 rfl ⟨by decide, by decide⟩ (dk_60_0 (4, .invokevirtual 236, 3) (List.mem_of_getElem? (i := 2) rfl)),
  List.forall_mem_cons.mpr ⟨sd_oStL_n 60 7 1 1 rfl (by decide) (dk_60_0 (7, .lstore_n 1, 1) (List.mem_of_getElem? (i := 3) rfl)),
  List.forall_mem_cons.mpr ⟨sd_iconst 60 8 0 ⟨by decide, by decide⟩ (dk_60_0 (8, .iconst 0, 1) (List.mem_of_getElem? (i := 4) rfl)),
  List.forall_mem_cons.mpr ⟨sd_oStI_n 60 9 3 3 rfl (by decide) (dk_60_0 (9, .istore_n 3, 1) (List.mem_of_getElem? (i := 5) rfl)),
  List.forall_mem_cons.mpr ⟨sd_oLdI_n 60 10 3 3 rfl (dk_60_0 (10, .iload_n 3, 1) (List.mem_of_getElem? (i := 6) rfl)),
  List.forall_mem_cons.mpr ⟨sd_oLdR_n 60 11 0 0 rfl (dk_60_0 (11, .aload_n 0, 1) (List.mem_of_getElem? (i := 7) rfl)),
  List.forall_mem_cons.mpr ⟨sd_oGetI 60 12 6 5 44 RX5 TX5 7 rfl ⟨by decide, by decide⟩ rfl (by decide) rfl (fun w h => iw_60 w (uz_5 w h)) rfl (iw_60 _ zw98) (dk_60_0 (12, .getfield 44, 3) (List.mem_of_getElem? (i := 8) rfl)),
  List.forall_mem_cons.mpr ⟨sd_icmp_ge 60 15 16 31 (by decide) (dk_60_0 (15, .if_icmp .ge 16, 3) (List.mem_of_getElem? (i := 9) rfl)),
  List.forall_mem_cons.mpr ⟨sd_oLdR_n 60 18 0 0 rfl (dk_60_0 (18, .aload_n 0, 1) (List.mem_of_getElem? (i := 10) rfl)),
  List.forall_mem_cons.mpr ⟨sd_oLdL_n 60 19 1 1 rfl (dk_60_0 (19, .lload_n 1, 1) (List.mem_of_getElem? (i := 11) rfl)),
  List.forall_mem_cons.mpr ⟨sd_oLdI_n 60 20 3 3 rfl (dk_60_0 (20, .iload_n 3, 1) (List.mem_of_getElem? (i := 12) rfl)),
  List.forall_mem_cons.mpr ⟨sd_callV 60 21 86 2 6 240 6 [] (gdV hws_60 hws_86 zw248 zw249 zw250 zw63 zw247) hws_86 rfl (by decide +kernel) rfl rfl ⟨by decide +kernel, by decide +kernel, by decide +kernel⟩ ⟨by decide, by decide⟩ (catch_nil rfl) RX5 rfl TX5 7 rfl ⟨by decide, by decide⟩ (dk_60_0 (21, .invokevirtual 240, 3) (List.mem_of_getElem? (i := 13) rfl)),
  List.forall_mem_cons.mpr ⟨sd_oStL_n 60 24 1 1 rfl (by decide) (dk_60_0 (24, .lstore_n 1, 1) (List.mem_of_getElem? (i := 14) rfl)),
  List.forall_mem_cons.mpr ⟨sd_iinc 60 25 3 1 (by decide) (dk_60_0 (25, .iinc 3 1, 3) (List.mem_of_getElem? (i := 15) rfl)),
  List.forall_mem_cons.mpr ⟨sd_goto 60 28 (-18) 10 (by decide) (dk_60_0 (28, .goto (-18), 3) (List.mem_of_getElem? (i := 16) rfl)),
  List.forall_mem_cons.mpr ⟨sd_iconst 60 31 0 ⟨by decide, by decide⟩ (dk_60_0 (31, .iconst 0, 1) (List.mem_of_getElem? (i := 17) rfl)),
  List.forall_mem_cons.mpr ⟨sd_oStI_n 60 32 3 3 rfl (by decide) (dk_60_0 (32, .istore_n 3, 1) (List.mem_of_getElem? (i := 18) rfl)),
  List.forall_mem_cons.mpr ⟨sd_oLdI_n 60 33 3 3 rfl (dk_60_0 (33, .iload_n 3, 1) (List.mem_of_getElem? (i := 19) rfl)),
  List.forall_mem_cons.mpr ⟨sd_oLdR_n 60 34 0 0 rfl (dk_60_0 (34, .aload_n 0, 1) (List.mem_of_getElem? (i := 20) rfl)),
  List.forall_mem_cons.mpr ⟨sd_oGetI 60 35 6 6 100 RX5 TX5 7 rfl ⟨by decide, by decide⟩ rfl (by decide) rfl (fun w h => iw_60 w (uz_5 w h)) rfl (iw_60 _ zw142) (dk_60_0 (35, .getfield 100, 3) (List.mem_of_getElem? (i := 21) rfl)),
  List.forall_mem_cons.mpr ⟨sd_icmp_ge 60 38 28 66 (by decide) (dk_60_0 (38, .if_icmp .ge 28, 3) (List.mem_of_getElem? (i := 22) rfl)),
  List.forall_mem_cons.mpr ⟨sd_oLdR_n 60 41 0 0 rfl (dk_60_0 (41, .aload_n 0, 1) (List.mem_of_getElem? (i := 23) rfl)),
  List.forall_mem_cons.mpr ⟨sd_oGetR 60 42 6 2 22 RX5 TX5 7 rfl ⟨by decide, by decide⟩ rfl (by decide) rfl (fun w h => iw_60 w (uz_5 w h)) rfl (iw_60 _ zw83) (dk_60_0 (42, .getfield 22, 3) (List.mem_of_getElem? (i := 24) rfl)),
  List.forall_mem_cons.mpr ⟨sd_oLdI_n 60 45 3 3 rfl (dk_60_0 (45, .iload_n 3, 1) (List.mem_of_getElem? (i := 25) rfl)),
  List.forall_mem_cons.mpr ⟨sd_aaldN 60 46 (dk_60_0 (46, .aaload, 1) (List.mem_of_getElem? (i := 26) rfl)),
  List.forall_mem_cons.mpr ⟨sd_oGetIN 60 47 3 9 197 RX2 TX2 10 rfl ⟨by decide, by decide⟩ rfl (by decide) rfl (fun w h => iw_60 w (uz_2 w h)) rfl "Marginalia" (List.mem_of_getElem? (i := 10) rfl) (dk_60_0 (47, .getfield 197, 3) (List.mem_of_getElem? (i := 27) rfl)),
  List.forall_mem_cons.mpr ⟨sd_if_ne 60 50 10 60 (by decide) (dk_60_0 (50, .ifCond .ne 10, 3) (List.mem_of_getElem? (i := 28) rfl)),
  List.forall_mem_cons.mpr ⟨sd_oLdR_n 60 53 0 0 rfl (dk_60_0 (53, .aload_n 0, 1) (List.mem_of_getElem? (i := 29) rfl)),
  List.forall_mem_cons.mpr ⟨sd_oLdL_n 60 54 1 1 rfl (dk_60_0 (54, .lload_n 1, 1) (List.mem_of_getElem? (i := 30) rfl)),
  List.forall_mem_cons.mpr ⟨sd_oLdI_n 60 55 3 3 rfl (dk_60_0 (55, .iload_n 3, 1) (List.mem_of_getElem? (i := 31) rfl)),
  List.forall_mem_cons.mpr ⟨sd_callV 60 56 87 2 7 244 6 [] (gdV hws_60 hws_87 zw252 zw253 zw254 zw63 zw251) hws_87 rfl (by decide +kernel) rfl rfl ⟨by decide +kernel, by decide +kernel, by decide +kernel⟩ ⟨by decide, by decide⟩ (catch_nil rfl) RX5 rfl TX5 7 rfl ⟨by decide, by decide⟩ (dk_60_0 (56, .invokevirtual 244, 3) (List.mem_of_getElem? (i := 32) rfl)),
  List.forall_mem_cons.mpr ⟨sd_oStL_n 60 59 1 1 rfl (by decide) (dk_60_0 (59, .lstore_n 1, 1) (List.mem_of_getElem? (i := 33) rfl)),
  List.forall_mem_cons.mpr ⟨sd_iinc 60 60 3 1 (by decide) (dk_60_0 (60, .iinc 3 1, 3) (List.mem_of_getElem? (i := 34) rfl)),
  List.forall_mem_cons.mpr ⟨sd_goto 60 63 (-30) 33 (by decide) (dk_60_0 (63, .goto (-30), 3) (List.mem_of_getElem? (i := 35) rfl)),
  fun _ h => nomatch h⟩⟩⟩⟩⟩⟩⟩⟩⟩⟩⟩⟩⟩⟩⟩⟩⟩⟩⟩⟩⟩⟩⟩⟩⟩⟩⟩⟩⟩⟩⟩⟩⟩⟩⟩⟩
def tb_60_1 : List (Nat × Op1) := [(66, oLdR 0 1), (67, oLdL 1 1), (68, oCallV 88 1 7 6 []), (71, oRetL)]
theorem sm_60_1 : ∀ q ∈ tb_60_1, SM GwP MdP D A l 60 q.1 q.2 :=
  List.forall_mem_cons.mpr ⟨sd_oLdR_n 60 66 0 0 rfl (dk_60_0 (66, .aload_n 0, 1) (List.mem_of_getElem? (i := 36) rfl)),
  List.forall_mem_cons.mpr ⟨sd_oLdL_n 60 67 1 1 rfl (dk_60_0 (67, .lload_n 1, 1) (List.mem_of_getElem? (i := 37) rfl)),
  List.forall_mem_cons.mpr ⟨sd_callV 60 68 88 1 7 247 6 [] (gdV hws_60 hws_88 zw256 zw257 zw258 zw63 zw255) hws_88 rfl (by decide +kernel) rfl rfl ⟨by decide +kernel, by decide +kernel, by decide +kernel⟩ ⟨by decide, by decide⟩ (catch_nil rfl) RX5 rfl TX5 7 rfl ⟨by decide, by decide⟩ (dk_60_0 (68, .invokevirtual 247, 3) (List.mem_of_getElem? (i := 38) rfl)),
  List.forall_mem_cons.mpr ⟨sd_lret 60 71 rfl (dk_60_0 (71, .lreturn, 1) (List.mem_of_getElem? (i := 39) rfl)),
  fun _ h => nomatch h⟩⟩⟩⟩
def tb_60 : List (List (Nat × Op1)) := [tb_60_0, tb_60_1]
theorem sm_60 : ∀ t ∈ tb_60, ∀ q ∈ t, SM GwP MdP D A l 60 q.1 q.2 := List.forall_mem_cons.mpr ⟨sm_60_0, List.forall_mem_cons.mpr ⟨sm_60_1, fun _ h => nomatch h⟩⟩
-- 61: Marginalia.requireUser(I)V
def dl_61_0 : List (Nat × Instr × Nat) := [(0, .iload_n 1, 1), (1, .iconst 0, 1), (2, .aload_n 0, 1), (3, .getfield 44, 3), (6, .iconst 1, 1), (7, .isub, 1), (8, .invokestatic 59, 3), (11, .ifCond .ne 13, 3), (14, .new 250, 3), (17, .dup, 1), (18, .ldc 252, 2), (20, .invokespecial 254, 3), (23, .athrow, 1), (24, .return_, 1)]
theorem dk_61_0 : ∀ q ∈ dl_61_0, decode (mCod (MdP 61)) q.1 = .ok q.2 := by
  rw [show mCod (MdP 61) = cX5_requireUser from rfl]
  decide +kernel
def tb_61_0 : List (Nat × Op1) := [(0, oLdI 1 1), (1, oCI 0 1), (2, oLdR 0 1), (3, oGetI 6 5), (6, oCI 1 1), (7, oSub), (8, oCallS 67 3 3 []), (11, oZne 24), (14, oThr 3), (24, oRetV)]
theorem sm_61_0 : ∀ q ∈ tb_61_0, SM GwP MdP D A l 61 q.1 q.2 :=
  List.forall_mem_cons.mpr ⟨sd_oLdI_n 61 0 1 1 rfl (dk_61_0 (0, .iload_n 1, 1) (List.mem_of_getElem? (i := 0) rfl)),
  List.forall_mem_cons.mpr ⟨sd_iconst 61 1 0 ⟨by decide, by decide⟩ (dk_61_0 (1, .iconst 0, 1) (List.mem_of_getElem? (i := 1) rfl)),
  List.forall_mem_cons.mpr ⟨sd_oLdR_n 61 2 0 0 rfl (dk_61_0 (2, .aload_n 0, 1) (List.mem_of_getElem? (i := 2) rfl)),
  List.forall_mem_cons.mpr ⟨sd_oGetI 61 3 6 5 44 RX5 TX5 7 rfl ⟨by decide, by decide⟩ rfl (by decide) rfl (fun w h => iw_61 w (uz_5 w h)) rfl (iw_61 _ zw98) (dk_61_0 (3, .getfield 44, 3) (List.mem_of_getElem? (i := 3) rfl)),
  List.forall_mem_cons.mpr ⟨sd_iconst 61 6 1 ⟨by decide, by decide⟩ (dk_61_0 (6, .iconst 1, 1) (List.mem_of_getElem? (i := 4) rfl)),
  List.forall_mem_cons.mpr ⟨sd_isub 61 7 (dk_61_0 (7, .isub, 1) (List.mem_of_getElem? (i := 5) rfl)),
  List.forall_mem_cons.mpr ⟨sd_callS 61 8 67 3 3 59 [] (gdS hws_61 hws_67 zw107 zw64 zw63 zw62) hws_67 rfl (by decide +kernel) rfl rfl ⟨by decide +kernel, by decide +kernel, by decide +kernel⟩ ⟨by decide, by decide⟩ (catch_nil rfl) (dk_61_0 (8, .invokestatic 59, 3) (List.mem_of_getElem? (i := 6) rfl)),
  List.forall_mem_cons.mpr ⟨sd_if_ne 61 11 13 24 (by decide) (dk_61_0 (11, .ifCond .ne 13, 3) (List.mem_of_getElem? (i := 7) rfl)),
  List.forall_mem_cons.mpr ⟨sd_thr 61 14 3 250 252 254 "there is no such user" (by decide +kernel) (by decide +kernel) (iw_61 _ zw259) (iw_61 _ zw260) (List.mem_of_getElem? (i := 0) rfl) (fun w h => (zat_254 w h).imp (fun g => iw_61 _ g) (fun g => g.imp (fun g => ⟨("java/lang/IndexOutOfBoundsException", "java/lang/IndexOutOfBoundsException"), List.mem_of_getElem? (i := 2) rfl, g⟩) id)) (by decide +kernel) (by decide) (by decide) rfl (dk_61_0 (14, .new 250, 3) (List.mem_of_getElem? (i := 8) rfl)) (dk_61_0 (17, .dup, 1) (List.mem_of_getElem? (i := 9) rfl)) (dk_61_0 (18, .ldc 252, 2) (List.mem_of_getElem? (i := 10) rfl)) (dk_61_0 (20, .invokespecial 254, 3) (List.mem_of_getElem? (i := 11) rfl)) (dk_61_0 (23, .athrow, 1) (List.mem_of_getElem? (i := 12) rfl)),
  List.forall_mem_cons.mpr ⟨sd_vret 61 24 rfl (dk_61_0 (24, .return_, 1) (List.mem_of_getElem? (i := 13) rfl)),
  fun _ h => nomatch h⟩⟩⟩⟩⟩⟩⟩⟩⟩⟩
def tb_61 : List (List (Nat × Op1)) := [tb_61_0]
theorem sm_61 : ∀ t ∈ tb_61, ∀ q ∈ t, SM GwP MdP D A l 61 q.1 q.2 := List.forall_mem_cons.mpr ⟨sm_61_0, fun _ h => nomatch h⟩
-- 62: Marginalia.requireSign(I)V
def dl_62_0 : List (Nat × Instr × Nat) := [(0, .iload_n 1, 1), (1, .iconst 0, 1), (2, .aload_n 0, 1), (3, .getfield 16, 3), (6, .invokevirtual 55, 3), (9, .iconst 1, 1), (10, .isub, 1), (11, .invokestatic 59, 3), (14, .ifCond .ne 14, 3), (17, .new 250, 3), (20, .dup, 1), (21, .ldc_w 257, 3), (24, .invokespecial 254, 3), (27, .athrow, 1), (28, .return_, 1)]
theorem dk_62_0 : ∀ q ∈ dl_62_0, decode (mCod (MdP 62)) q.1 = .ok q.2 := by
  rw [show mCod (MdP 62) = cX5_requireSign from rfl]
  decide +kernel
def tb_62_0 : List (Nat × Op1) := [(0, oLdI 1 1), (1, oCI 0 1), (2, oLdR 0 1), (3, oGetR 6 1), (6, oCallV 23 0 1 5 []), (9, oCI 1 1), (10, oSub), (11, oCallS 67 3 3 []), (14, oZne 28), (17, oThr 3), (28, oRetV)]
theorem sm_62_0 : ∀ q ∈ tb_62_0, SM GwP MdP D A l 62 q.1 q.2 :=
  List.forall_mem_cons.mpr ⟨sd_oLdI_n 62 0 1 1 rfl (dk_62_0 (0, .iload_n 1, 1) (List.mem_of_getElem? (i := 0) rfl)),
  List.forall_mem_cons.mpr ⟨sd_iconst 62 1 0 ⟨by decide, by decide⟩ (dk_62_0 (1, .iconst 0, 1) (List.mem_of_getElem? (i := 1) rfl)),
  List.forall_mem_cons.mpr ⟨sd_oLdR_n 62 2 0 0 rfl (dk_62_0 (2, .aload_n 0, 1) (List.mem_of_getElem? (i := 2) rfl)),
  List.forall_mem_cons.mpr ⟨sd_oGetR 62 3 6 1 16 RX5 TX5 7 rfl ⟨by decide, by decide⟩ rfl (by decide) rfl (fun w h => iw_62 w (uz_5 w h)) rfl (iw_62 _ zw81) (dk_62_0 (3, .getfield 16, 3) (List.mem_of_getElem? (i := 3) rfl)),
  List.forall_mem_cons.mpr ⟨sd_callV 62 6 23 0 1 55 5 [] (gdV hws_62 hws_23 zw106 zw59 zw60 zw61 zw57) hws_23 rfl (by decide +kernel) rfl rfl ⟨by decide +kernel, by decide +kernel, by decide +kernel⟩ ⟨by decide, by decide⟩ (catch_nil rfl) RX4 rfl TX4 5 rfl ⟨by decide, by decide⟩ (dk_62_0 (6, .invokevirtual 55, 3) (List.mem_of_getElem? (i := 4) rfl)),
  List.forall_mem_cons.mpr ⟨sd_iconst 62 9 1 ⟨by decide, by decide⟩ (dk_62_0 (9, .iconst 1, 1) (List.mem_of_getElem? (i := 5) rfl)),
  List.forall_mem_cons.mpr ⟨sd_isub 62 10 (dk_62_0 (10, .isub, 1) (List.mem_of_getElem? (i := 6) rfl)),
  List.forall_mem_cons.mpr ⟨sd_callS 62 11 67 3 3 59 [] (gdS hws_62 hws_67 zw107 zw64 zw63 zw62) hws_67 rfl (by decide +kernel) rfl rfl ⟨by decide +kernel, by decide +kernel, by decide +kernel⟩ ⟨by decide, by decide⟩ (catch_nil rfl) (dk_62_0 (11, .invokestatic 59, 3) (List.mem_of_getElem? (i := 7) rfl)),
  List.forall_mem_cons.mpr ⟨sd_if_ne 62 14 14 28 (by decide) (dk_62_0 (14, .ifCond .ne 14, 3) (List.mem_of_getElem? (i := 8) rfl)),
  List.forall_mem_cons.mpr ⟨sd_thrW 62 17 3 250 257 254 "there is no such sign" (by decide +kernel) (by decide +kernel) (iw_62 _ zw259) (iw_62 _ zw260) (List.mem_of_getElem? (i := 1) rfl) (fun w h => (zat_254 w h).imp (fun g => iw_62 _ g) (fun g => g.imp (fun g => ⟨("java/lang/IndexOutOfBoundsException", "java/lang/IndexOutOfBoundsException"), List.mem_of_getElem? (i := 2) rfl, g⟩) id)) (by decide +kernel) (by decide) (by decide) rfl (dk_62_0 (17, .new 250, 3) (List.mem_of_getElem? (i := 9) rfl)) (dk_62_0 (20, .dup, 1) (List.mem_of_getElem? (i := 10) rfl)) (dk_62_0 (21, .ldc_w 257, 3) (List.mem_of_getElem? (i := 11) rfl)) (dk_62_0 (24, .invokespecial 254, 3) (List.mem_of_getElem? (i := 12) rfl)) (dk_62_0 (27, .athrow, 1) (List.mem_of_getElem? (i := 13) rfl)),
  List.forall_mem_cons.mpr ⟨sd_vret 62 28 rfl (dk_62_0 (28, .return_, 1) (List.mem_of_getElem? (i := 14) rfl)),
  fun _ h => nomatch h⟩⟩⟩⟩⟩⟩⟩⟩⟩⟩⟩
def tb_62 : List (List (Nat × Op1)) := [tb_62_0]
theorem sm_62 : ∀ t ∈ tb_62, ∀ q ∈ t, SM GwP MdP D A l 62 q.1 q.2 := List.forall_mem_cons.mpr ⟨sm_62_0, fun _ h => nomatch h⟩
-- 63: Marginalia.requireNote(I)LMarginalia$Note;
def dl_63_0 : List (Nat × Instr × Nat) := [(0, .iload_n 1, 1), (1, .iconst 0, 1), (2, .aload_n 0, 1), (3, .getfield 100, 3), (6, .iconst 1, 1), (7, .isub, 1), (8, .invokestatic 59, 3), (11, .ifCond .ne 14, 3), (14, .new 250, 3), (17, .dup, 1), (18, .ldc_w 259, 3), (21, .invokespecial 254, 3), (24, .athrow, 1), (25, .aload_n 0, 1), (26, .getfield 22, 3), (29, .iload_n 1, 1), (30, .aaload, 1), (31, .astore_n 2, 1), (32, .aload_n 2, 1), (33, .ifnull 10, 3), (36, .aload_n 2, 1), (37, .getfield 197, 3), (40, .ifCond .eq 14, 3), (43, .new 250, 3), (46, .dup, 1), (47, .ldc_w 261, 3), (50, .invokespecial 254, 3), (53, .athrow, 1), (54, .aload_n 2, 1), (55, .areturn, 1)]
theorem dk_63_0 : ∀ q ∈ dl_63_0, decode (mCod (MdP 63)) q.1 = .ok q.2 := by
  rw [show mCod (MdP 63) = cX5_requireNote from rfl]
  decide +kernel
def tb_63_0 : List (Nat × Op1) := [(0, oLdI 1 1), (1, oCI 0 1), (2, oLdR 0 1), (3, oGetI 6 6), (6, oCI 1 1), (7, oSub), (8, oCallS 67 3 3 []), (11, oZne 25), (14, oThr 3), (25, oLdR 0 1), (26, oGetR 6 2), (29, oLdI 1 1), (30, oALdR 13), (31, oStR 2 1), (32, oLdR 2 1), (33, oNul 43), (36, oLdR 2 1), (37, oGetI 3 9), (40, oZeq 54), (43, oThr 3), (54, oLdR 2 1), (55, oRetR)]
theorem sm_63_0 : ∀ q ∈ tb_63_0, SM GwP MdP D A l 63 q.1 q.2 :=
  List.forall_mem_cons.mpr ⟨sd_oLdI_n 63 0 1 1 rfl (dk_63_0 (0, .iload_n 1, 1) (List.mem_of_getElem? (i := 0) rfl)),
  List.forall_mem_cons.mpr ⟨sd_iconst 63 1 0 ⟨by decide, by decide⟩ (dk_63_0 (1, .iconst 0, 1) (List.mem_of_getElem? (i := 1) rfl)),
  List.forall_mem_cons.mpr ⟨sd_oLdR_n 63 2 0 0 rfl (dk_63_0 (2, .aload_n 0, 1) (List.mem_of_getElem? (i := 2) rfl)),
  List.forall_mem_cons.mpr ⟨sd_oGetI 63 3 6 6 100 RX5 TX5 7 rfl ⟨by decide, by decide⟩ rfl (by decide) rfl (fun w h => iw_63 w (uz_5 w h)) rfl (iw_63 _ zw142) (dk_63_0 (3, .getfield 100, 3) (List.mem_of_getElem? (i := 3) rfl)),
  List.forall_mem_cons.mpr ⟨sd_iconst 63 6 1 ⟨by decide, by decide⟩ (dk_63_0 (6, .iconst 1, 1) (List.mem_of_getElem? (i := 4) rfl)),
  List.forall_mem_cons.mpr ⟨sd_isub 63 7 (dk_63_0 (7, .isub, 1) (List.mem_of_getElem? (i := 5) rfl)),
  List.forall_mem_cons.mpr ⟨sd_callS 63 8 67 3 3 59 [] (gdS hws_63 hws_67 zw107 zw64 zw63 zw62) hws_67 rfl (by decide +kernel) rfl rfl ⟨by decide +kernel, by decide +kernel, by decide +kernel⟩ ⟨by decide, by decide⟩ (catch_nil rfl) (dk_63_0 (8, .invokestatic 59, 3) (List.mem_of_getElem? (i := 6) rfl)),
  List.forall_mem_cons.mpr ⟨sd_if_ne 63 11 14 25 (by decide) (dk_63_0 (11, .ifCond .ne 14, 3) (List.mem_of_getElem? (i := 7) rfl)),
  List.forall_mem_cons.mpr ⟨sd_thrW 63 14 3 250 259 254 "there is no such note" (by decide +kernel) (by decide +kernel) (iw_63 _ zw259) (iw_63 _ zw260) (List.mem_of_getElem? (i := 2) rfl) (fun w h => (zat_254 w h).imp (fun g => iw_63 _ g) (fun g => g.imp (fun g => ⟨("java/lang/IndexOutOfBoundsException", "java/lang/IndexOutOfBoundsException"), List.mem_of_getElem? (i := 2) rfl, g⟩) id)) (by decide +kernel) (by decide) (by decide) rfl (dk_63_0 (14, .new 250, 3) (List.mem_of_getElem? (i := 8) rfl)) (dk_63_0 (17, .dup, 1) (List.mem_of_getElem? (i := 9) rfl)) (dk_63_0 (18, .ldc_w 259, 3) (List.mem_of_getElem? (i := 10) rfl)) (dk_63_0 (21, .invokespecial 254, 3) (List.mem_of_getElem? (i := 11) rfl)) (dk_63_0 (24, .athrow, 1) (List.mem_of_getElem? (i := 12) rfl)),
  List.forall_mem_cons.mpr ⟨sd_oLdR_n 63 25 0 0 rfl (dk_63_0 (25, .aload_n 0, 1) (List.mem_of_getElem? (i := 13) rfl)),
  List.forall_mem_cons.mpr ⟨sd_oGetR 63 26 6 2 22 RX5 TX5 7 rfl ⟨by decide, by decide⟩ rfl (by decide) rfl (fun w h => iw_63 w (uz_5 w h)) rfl (iw_63 _ zw83) (dk_63_0 (26, .getfield 22, 3) (List.mem_of_getElem? (i := 14) rfl)),
  List.forall_mem_cons.mpr ⟨sd_oLdI_n 63 29 1 1 rfl (dk_63_0 (29, .iload_n 1, 1) (List.mem_of_getElem? (i := 15) rfl)),
  List.forall_mem_cons.mpr ⟨sd_aaldN 63 30 (dk_63_0 (30, .aaload, 1) (List.mem_of_getElem? (i := 16) rfl)),
  List.forall_mem_cons.mpr ⟨sd_oStR_n 63 31 2 2 rfl (by decide) (dk_63_0 (31, .astore_n 2, 1) (List.mem_of_getElem? (i := 17) rfl)),
  List.forall_mem_cons.mpr ⟨sd_oLdR_n 63 32 2 2 rfl (dk_63_0 (32, .aload_n 2, 1) (List.mem_of_getElem? (i := 18) rfl)),
  List.forall_mem_cons.mpr ⟨sd_ifnull 63 33 10 43 (by decide) (dk_63_0 (33, .ifnull 10, 3) (List.mem_of_getElem? (i := 19) rfl)),
  List.forall_mem_cons.mpr ⟨sd_oLdR_n 63 36 2 2 rfl (dk_63_0 (36, .aload_n 2, 1) (List.mem_of_getElem? (i := 20) rfl)),
  List.forall_mem_cons.mpr ⟨sd_oGetIN 63 37 3 9 197 RX2 TX2 10 rfl ⟨by decide, by decide⟩ rfl (by decide) rfl (fun w h => iw_63 w (uz_2 w h)) rfl "Marginalia" (List.mem_of_getElem? (i := 10) rfl) (dk_63_0 (37, .getfield 197, 3) (List.mem_of_getElem? (i := 21) rfl)),
  List.forall_mem_cons.mpr ⟨sd_if_eq 63 40 14 54 (by decide) (dk_63_0 (40, .ifCond .eq 14, 3) (List.mem_of_getElem? (i := 22) rfl)),
  List.forall_mem_cons.mpr ⟨sd_thrW 63 43 3 250 261 254 "the note is gone" (by decide +kernel) (by decide +kernel) (iw_63 _ zw259) (iw_63 _ zw260) (List.mem_of_getElem? (i := 3) rfl) (fun w h => (zat_254 w h).imp (fun g => iw_63 _ g) (fun g => g.imp (fun g => ⟨("java/lang/IndexOutOfBoundsException", "java/lang/IndexOutOfBoundsException"), List.mem_of_getElem? (i := 2) rfl, g⟩) id)) (by decide +kernel) (by decide) (by decide) rfl (dk_63_0 (43, .new 250, 3) (List.mem_of_getElem? (i := 23) rfl)) (dk_63_0 (46, .dup, 1) (List.mem_of_getElem? (i := 24) rfl)) (dk_63_0 (47, .ldc_w 261, 3) (List.mem_of_getElem? (i := 25) rfl)) (dk_63_0 (50, .invokespecial 254, 3) (List.mem_of_getElem? (i := 26) rfl)) (dk_63_0 (53, .athrow, 1) (List.mem_of_getElem? (i := 27) rfl)),
  List.forall_mem_cons.mpr ⟨sd_oLdR_n 63 54 2 2 rfl (dk_63_0 (54, .aload_n 2, 1) (List.mem_of_getElem? (i := 28) rfl)),
  List.forall_mem_cons.mpr ⟨sd_aret 63 55 rfl (Or.inl ⟨_, rfl⟩) (dk_63_0 (55, .areturn, 1) (List.mem_of_getElem? (i := 29) rfl)),
  fun _ h => nomatch h⟩⟩⟩⟩⟩⟩⟩⟩⟩⟩⟩⟩⟩⟩⟩⟩⟩⟩⟩⟩⟩⟩
def tb_63 : List (List (Nat × Op1)) := [tb_63_0]
theorem sm_63 : ∀ t ∈ tb_63, ∀ q ∈ t, SM GwP MdP D A l 63 q.1 q.2 := List.forall_mem_cons.mpr ⟨sm_63_0, fun _ h => nomatch h⟩
-- 64: Marginalia.requireIndex(Z)V
def dl_64_0 : List (Nat × Instr × Nat) := [(0, .iload_n 0, 1), (1, .ifCond .ne 14, 3), (4, .new 250, 3), (7, .dup, 1), (8, .ldc_w 263, 3), (11, .invokespecial 254, 3), (14, .athrow, 1), (15, .return_, 1)]
theorem dk_64_0 : ∀ q ∈ dl_64_0, decode (mCod (MdP 64)) q.1 = .ok q.2 := by
  rw [show mCod (MdP 64) = cX5_requireIndex from rfl]
  decide +kernel
def tb_64_0 : List (Nat × Op1) := [(0, oLdI 0 1), (1, oZne 15), (4, oThr 3), (15, oRetV)]
theorem sm_64_0 : ∀ q ∈ tb_64_0, SM GwP MdP D A l 64 q.1 q.2 :=
  List.forall_mem_cons.mpr ⟨sd_oLdI_n 64 0 0 0 rfl (dk_64_0 (0, .iload_n 0, 1) (List.mem_of_getElem? (i := 0) rfl)),
  List.forall_mem_cons.mpr ⟨sd_if_ne 64 1 14 15 (by decide) (dk_64_0 (1, .ifCond .ne 14, 3) (List.mem_of_getElem? (i := 1) rfl)),
  List.forall_mem_cons.mpr ⟨sd_thrW 64 4 3 250 263 254 "there is no such place or version" (by decide +kernel) (by decide +kernel) (iw_64 _ zw259) (iw_64 _ zw260) (List.mem_of_getElem? (i := 4) rfl) (fun w h => (zat_254 w h).imp (fun g => iw_64 _ g) (fun g => g.imp (fun g => ⟨("java/lang/IndexOutOfBoundsException", "java/lang/IndexOutOfBoundsException"), List.mem_of_getElem? (i := 2) rfl, g⟩) id)) (by decide +kernel) (by decide) (by decide) rfl (dk_64_0 (4, .new 250, 3) (List.mem_of_getElem? (i := 2) rfl)) (dk_64_0 (7, .dup, 1) (List.mem_of_getElem? (i := 3) rfl)) (dk_64_0 (8, .ldc_w 263, 3) (List.mem_of_getElem? (i := 4) rfl)) (dk_64_0 (11, .invokespecial 254, 3) (List.mem_of_getElem? (i := 5) rfl)) (dk_64_0 (14, .athrow, 1) (List.mem_of_getElem? (i := 6) rfl)),
  List.forall_mem_cons.mpr ⟨sd_vret 64 15 rfl (dk_64_0 (15, .return_, 1) (List.mem_of_getElem? (i := 7) rfl)),
  fun _ h => nomatch h⟩⟩⟩⟩
def tb_64 : List (List (Nat × Op1)) := [tb_64_0]
theorem sm_64 : ∀ t ∈ tb_64, ∀ q ∈ t, SM GwP MdP D A l 64 q.1 q.2 := List.forall_mem_cons.mpr ⟨sm_64_0, fun _ h => nomatch h⟩
-- 65: Marginalia.requireArgument(Z)V
def dl_65_0 : List (Nat × Instr × Nat) := [(0, .iload_n 0, 1), (1, .ifCond .ne 14, 3), (4, .new 265, 3), (7, .dup, 1), (8, .ldc_w 267, 3), (11, .invokespecial 269, 3), (14, .athrow, 1), (15, .return_, 1)]
theorem dk_65_0 : ∀ q ∈ dl_65_0, decode (mCod (MdP 65)) q.1 = .ok q.2 := by
  rw [show mCod (MdP 65) = cX5_requireArgument from rfl]
  decide +kernel
def tb_65_0 : List (Nat × Op1) := [(0, oLdI 0 1), (1, oZne 15), (4, oThr 1), (15, oRetV)]
theorem sm_65_0 : ∀ q ∈ tb_65_0, SM GwP MdP D A l 65 q.1 q.2 :=
  List.forall_mem_cons.mpr ⟨sd_oLdI_n 65 0 0 0 rfl (dk_65_0 (0, .iload_n 0, 1) (List.mem_of_getElem? (i := 0) rfl)),
  List.forall_mem_cons.mpr ⟨sd_if_ne 65 1 14 15 (by decide) (dk_65_0 (1, .ifCond .ne 14, 3) (List.mem_of_getElem? (i := 1) rfl)),
  List.forall_mem_cons.mpr ⟨sd_thrW 65 4 1 265 267 269 "a number is outside its range" (by decide +kernel) (by decide +kernel) (iw_65 _ zw261) (iw_65 _ zw262) (List.mem_of_getElem? (i := 5) rfl) (fun w h => (zat_269 w h).imp (fun g => iw_65 _ g) (fun g => g.imp (fun g => ⟨("java/lang/IllegalArgumentException", "java/lang/IllegalArgumentException"), List.mem_of_getElem? (i := 0) rfl, g⟩) id)) (by decide +kernel) (by decide) (by decide) rfl (dk_65_0 (4, .new 265, 3) (List.mem_of_getElem? (i := 2) rfl)) (dk_65_0 (7, .dup, 1) (List.mem_of_getElem? (i := 3) rfl)) (dk_65_0 (8, .ldc_w 267, 3) (List.mem_of_getElem? (i := 4) rfl)) (dk_65_0 (11, .invokespecial 269, 3) (List.mem_of_getElem? (i := 5) rfl)) (dk_65_0 (14, .athrow, 1) (List.mem_of_getElem? (i := 6) rfl)),
  List.forall_mem_cons.mpr ⟨sd_vret 65 15 rfl (dk_65_0 (15, .return_, 1) (List.mem_of_getElem? (i := 7) rfl)),
  fun _ h => nomatch h⟩⟩⟩⟩
def tb_65 : List (List (Nat × Op1)) := [tb_65_0]
theorem sm_65 : ∀ t ∈ tb_65, ∀ q ∈ t, SM GwP MdP D A l 65 q.1 q.2 := List.forall_mem_cons.mpr ⟨sm_65_0, fun _ h => nomatch h⟩
-- 66: Marginalia.requireState(Z)V
def dl_66_0 : List (Nat × Instr × Nat) := [(0, .iload_n 0, 1), (1, .ifCond .ne 14, 3), (4, .new 270, 3), (7, .dup, 1), (8, .ldc_w 272, 3), (11, .invokespecial 274, 3), (14, .athrow, 1), (15, .return_, 1)]
theorem dk_66_0 : ∀ q ∈ dl_66_0, decode (mCod (MdP 66)) q.1 = .ok q.2 := by
  rw [show mCod (MdP 66) = cX5_requireState from rfl]
  decide +kernel
def tb_66_0 : List (Nat × Op1) := [(0, oLdI 0 1), (1, oZne 15), (4, oThr 2), (15, oRetV)]
theorem sm_66_0 : ∀ q ∈ tb_66_0, SM GwP MdP D A l 66 q.1 q.2 :=
  List.forall_mem_cons.mpr ⟨sd_oLdI_n 66 0 0 0 rfl (dk_66_0 (0, .iload_n 0, 1) (List.mem_of_getElem? (i := 0) rfl)),
  List.forall_mem_cons.mpr ⟨sd_if_ne 66 1 14 15 (by decide) (dk_66_0 (1, .ifCond .ne 14, 3) (List.mem_of_getElem? (i := 1) rfl)),
  List.forall_mem_cons.mpr ⟨sd_thrW 66 4 2 270 272 274 "it is refused, or a limit is reached" (by decide +kernel) (by decide +kernel) (iw_66 _ zw263) (iw_66 _ zw264) (List.mem_of_getElem? (i := 6) rfl) (fun w h => (zat_274 w h).imp (fun g => iw_66 _ g) (fun g => g.imp (fun g => ⟨("java/lang/IllegalStateException", "java/lang/IllegalStateException"), List.mem_of_getElem? (i := 1) rfl, g⟩) id)) (by decide +kernel) (by decide) (by decide) rfl (dk_66_0 (4, .new 270, 3) (List.mem_of_getElem? (i := 2) rfl)) (dk_66_0 (7, .dup, 1) (List.mem_of_getElem? (i := 3) rfl)) (dk_66_0 (8, .ldc_w 272, 3) (List.mem_of_getElem? (i := 4) rfl)) (dk_66_0 (11, .invokespecial 274, 3) (List.mem_of_getElem? (i := 5) rfl)) (dk_66_0 (14, .athrow, 1) (List.mem_of_getElem? (i := 6) rfl)),
  List.forall_mem_cons.mpr ⟨sd_vret 66 15 rfl (dk_66_0 (15, .return_, 1) (List.mem_of_getElem? (i := 7) rfl)),
  fun _ h => nomatch h⟩⟩⟩⟩
def tb_66 : List (List (Nat × Op1)) := [tb_66_0]
theorem sm_66 : ∀ t ∈ tb_66, ∀ q ∈ t, SM GwP MdP D A l 66 q.1 q.2 := List.forall_mem_cons.mpr ⟨sm_66_0, fun _ h => nomatch h⟩
-- 67: Marginalia.isWithin(III)Z
def dl_67_0 : List (Nat × Instr × Nat) := [(0, .iload_n 0, 1), (1, .iload_n 1, 1), (2, .if_icmp .lt 12, 3), (5, .iload_n 0, 1), (6, .iload_n 2, 1), (7, .if_icmp .gt 7, 3), (10, .iconst 1, 1), (11, .goto 4, 3), (14, .iconst 0, 1), (15, .ireturn, 1)]
theorem dk_67_0 : ∀ q ∈ dl_67_0, decode (mCod (MdP 67)) q.1 = .ok q.2 := by
  rw [show mCod (MdP 67) = cX5_isWithin from rfl]
  decide +kernel
def tb_67_0 : List (Nat × Op1) := [(0, oLdI 0 1), (1, oLdI 1 1), (2, oClt 14), (5, oLdI 0 1), (6, oLdI 2 1), (7, oCgt 14), (10, oCI 1 1), (11, oGoto 15), (14, oCI 0 1), (15, oRetZ)]
theorem sm_67_0 : ∀ q ∈ tb_67_0, SM GwP MdP D A l 67 q.1 q.2 :=
  List.forall_mem_cons.mpr ⟨sd_oLdI_n 67 0 0 0 rfl (dk_67_0 (0, .iload_n 0, 1) (List.mem_of_getElem? (i := 0) rfl)),
  List.forall_mem_cons.mpr ⟨sd_oLdI_n 67 1 1 1 rfl (dk_67_0 (1, .iload_n 1, 1) (List.mem_of_getElem? (i := 1) rfl)),
  List.forall_mem_cons.mpr ⟨sd_icmp_lt 67 2 12 14 (by decide) (dk_67_0 (2, .if_icmp .lt 12, 3) (List.mem_of_getElem? (i := 2) rfl)),
  List.forall_mem_cons.mpr ⟨sd_oLdI_n 67 5 0 0 rfl (dk_67_0 (5, .iload_n 0, 1) (List.mem_of_getElem? (i := 3) rfl)),
  List.forall_mem_cons.mpr ⟨sd_oLdI_n 67 6 2 2 rfl (dk_67_0 (6, .iload_n 2, 1) (List.mem_of_getElem? (i := 4) rfl)),
  List.forall_mem_cons.mpr ⟨sd_icmp_gt 67 7 7 14 (by decide) (dk_67_0 (7, .if_icmp .gt 7, 3) (List.mem_of_getElem? (i := 5) rfl)),
  List.forall_mem_cons.mpr ⟨sd_iconst 67 10 1 ⟨by decide, by decide⟩ (dk_67_0 (10, .iconst 1, 1) (List.mem_of_getElem? (i := 6) rfl)),
  List.forall_mem_cons.mpr ⟨sd_goto 67 11 4 15 (by decide) (dk_67_0 (11, .goto 4, 3) (List.mem_of_getElem? (i := 7) rfl)),
  List.forall_mem_cons.mpr ⟨sd_iconst 67 14 0 ⟨by decide, by decide⟩ (dk_67_0 (14, .iconst 0, 1) (List.mem_of_getElem? (i := 8) rfl)),
  List.forall_mem_cons.mpr ⟨sd_zret 67 15 rfl (dk_67_0 (15, .ireturn, 1) (List.mem_of_getElem? (i := 9) rfl)),
  fun _ h => nomatch h⟩⟩⟩⟩⟩⟩⟩⟩⟩⟩
def tb_67 : List (List (Nat × Op1)) := [tb_67_0]
theorem sm_67 : ∀ t ∈ tb_67, ∀ q ∈ t, SM GwP MdP D A l 67 q.1 q.2 := List.forall_mem_cons.mpr ⟨sm_67_0, fun _ h => nomatch h⟩
-- 68: Marginalia.isRight(I)Z
def dl_68_0 : List (Nat × Instr × Nat) := [(0, .iload_n 0, 1), (1, .iconst 0, 1), (2, .iconst 4, 1), (3, .invokestatic 59, 3), (6, .ireturn, 1)]
theorem dk_68_0 : ∀ q ∈ dl_68_0, decode (mCod (MdP 68)) q.1 = .ok q.2 := by
  rw [show mCod (MdP 68) = cX5_isRight from rfl]
  decide +kernel
def tb_68_0 : List (Nat × Op1) := [(0, oLdI 0 1), (1, oCI 0 1), (2, oCI 4 1), (3, oCallS 67 3 3 []), (6, oRetZ)]
theorem sm_68_0 : ∀ q ∈ tb_68_0, SM GwP MdP D A l 68 q.1 q.2 :=
  List.forall_mem_cons.mpr ⟨sd_oLdI_n 68 0 0 0 rfl (dk_68_0 (0, .iload_n 0, 1) (List.mem_of_getElem? (i := 0) rfl)),
  List.forall_mem_cons.mpr ⟨sd_iconst 68 1 0 ⟨by decide, by decide⟩ (dk_68_0 (1, .iconst 0, 1) (List.mem_of_getElem? (i := 1) rfl)),
  List.forall_mem_cons.mpr ⟨sd_iconst 68 2 4 ⟨by decide, by decide⟩ (dk_68_0 (2, .iconst 4, 1) (List.mem_of_getElem? (i := 2) rfl)),
  List.forall_mem_cons.mpr ⟨sd_callS 68 3 67 3 3 59 [] (gdS hws_68 hws_67 zw107 zw64 zw63 zw62) hws_67 rfl (by decide +kernel) rfl rfl ⟨by decide +kernel, by decide +kernel, by decide +kernel⟩ ⟨by decide, by decide⟩ (catch_nil rfl) (dk_68_0 (3, .invokestatic 59, 3) (List.mem_of_getElem? (i := 3) rfl)),
  List.forall_mem_cons.mpr ⟨sd_zret 68 6 rfl (dk_68_0 (6, .ireturn, 1) (List.mem_of_getElem? (i := 4) rfl)),
  fun _ h => nomatch h⟩⟩⟩⟩⟩
def tb_68 : List (List (Nat × Op1)) := [tb_68_0]
theorem sm_68 : ∀ t ∈ tb_68, ∀ q ∈ t, SM GwP MdP D A l 68 q.1 q.2 := List.forall_mem_cons.mpr ⟨sm_68_0, fun _ h => nomatch h⟩
-- 69: Marginalia.isContent(I)Z
def dl_69_0 : List (Nat × Instr × Nat) := [(0, .iload_n 0, 1), (1, .iconst 0, 1), (2, .sipush 999, 3), (5, .invokestatic 59, 3), (8, .ireturn, 1)]
theorem dk_69_0 : ∀ q ∈ dl_69_0, decode (mCod (MdP 69)) q.1 = .ok q.2 := by
  rw [show mCod (MdP 69) = cX5_isContent from rfl]
  decide +kernel
def tb_69_0 : List (Nat × Op1) := [(0, oLdI 0 1), (1, oCI 0 1), (2, oCI 999 3), (5, oCallS 67 3 3 []), (8, oRetZ)]
theorem sm_69_0 : ∀ q ∈ tb_69_0, SM GwP MdP D A l 69 q.1 q.2 :=
  List.forall_mem_cons.mpr ⟨sd_oLdI_n 69 0 0 0 rfl (dk_69_0 (0, .iload_n 0, 1) (List.mem_of_getElem? (i := 0) rfl)),
  List.forall_mem_cons.mpr ⟨sd_iconst 69 1 0 ⟨by decide, by decide⟩ (dk_69_0 (1, .iconst 0, 1) (List.mem_of_getElem? (i := 1) rfl)),
  List.forall_mem_cons.mpr ⟨sd_sipush 69 2 999 ⟨by decide, by decide⟩ (by decide) (dk_69_0 (2, .sipush 999, 3) (List.mem_of_getElem? (i := 2) rfl)),
  List.forall_mem_cons.mpr ⟨sd_callS 69 5 67 3 3 59 [] (gdS hws_69 hws_67 zw107 zw64 zw63 zw62) hws_67 rfl (by decide +kernel) rfl rfl ⟨by decide +kernel, by decide +kernel, by decide +kernel⟩ ⟨by decide, by decide⟩ (catch_nil rfl) (dk_69_0 (5, .invokestatic 59, 3) (List.mem_of_getElem? (i := 3) rfl)),
  List.forall_mem_cons.mpr ⟨sd_zret 69 8 rfl (dk_69_0 (8, .ireturn, 1) (List.mem_of_getElem? (i := 4) rfl)),
  fun _ h => nomatch h⟩⟩⟩⟩⟩
def tb_69 : List (List (Nat × Op1)) := [tb_69_0]
theorem sm_69 : ∀ t ∈ tb_69, ∀ q ∈ t, SM GwP MdP D A l 69 q.1 q.2 := List.forall_mem_cons.mpr ⟨sm_69_0, fun _ h => nomatch h⟩
-- 70: Marginalia.putSigns(III)V
def dl_70_0 : List (Nat × Instr × Nat) := [(0, .aload_n 0, 1), (1, .getfield 16, 3), (4, .iload_n 1, 1), (5, .iconst 0, 1), (6, .iload_n 2, 1), (7, .iload_n 3, 1), (8, .invokevirtual 275, 3), (11, .iconst 0, 1), (12, .istore 4, 2), (14, .iload 4, 2), (16, .aload_n 0, 1), (17, .getfield 100, 3), (20, .if_icmp .ge 40, 3), (23, .aload_n 0, 1), (24, .getfield 22, 3), (27, .iload 4, 2), (29, .aaload, 1), (30, .invokevirtual 153, 3), (33, .ifCond .eq 21, 3), (36, .aload_n 0, 1), (37, .getfield 22, 3), (40, .iload 4, 2), (42, .aaload, 1), (43, .getfield 135, 3), (46, .getfield 204, 3), (49, .iload_n 1, 1), (50, .iload_n 2, 1), (51, .invokevirtual 279, 3), (54, .iinc 4 1, 3), (57, .goto (-43), 3), (60, .return_, 1)]
theorem dk_70_0 : ∀ q ∈ dl_70_0, decode (mCod (MdP 70)) q.1 = .ok q.2 := by
  rw [show mCod (MdP 70) = cX5_putSigns from rfl]
  decide +kernel
def tb_70_0 : List (Nat × Op1) := [(0, oLdR 0 1), (1, oGetR 6 1), (4, oLdI 1 1), (5, oCI 0 1), (6, oLdI 2 1), (7, oLdI 3 1), (8, oCallV 30 4 8 5 []), (11, oCI 0 1), (12, oStI 4 2), (14, oLdI 4 2), (16, oLdR 0 1), (17, oGetI 6 6), (20, oCge 60), (23, oLdR 0 1), (24, oGetR 6 2), (27, oLdI 4 2), (29, oALdR 13), (30, oCallV 13 0 1 3 []), (33, oZeq 54), (36, oLdR 0 1), (37, oGetR 6 2), (40, oLdI 4 2), (42, oALdR 13), (43, oGetR 3 5), (46, oGetR 4 3), (49, oLdI 1 1), (50, oLdI 2 1), (51, oCallV 7 2 3 1 []), (54, oInc 4 1), (57, oGoto 14), (60, oRetV)]
theorem sm_70_0 : ∀ q ∈ tb_70_0, SM GwP MdP D A l 70 q.1 q.2 :=
  List.forall_mem_cons.mpr ⟨sd_oLdR_n 70 0 0 0 rfl (dk_70_0 (0, .aload_n 0, 1) (List.mem_of_getElem? (i := 0) rfl)),
  List.forall_mem_cons.mpr ⟨sd_oGetR 70 1 6 1 16 RX5 TX5 7 rfl ⟨by decide, by decide⟩ rfl (by decide) rfl (fun w h => iw_70 w (uz_5 w h)) rfl (iw_70 _ zw81) (dk_70_0 (1, .getfield 16, 3) (List.mem_of_getElem? (i := 1) rfl)),
  List.forall_mem_cons.mpr ⟨sd_oLdI_n 70 4 1 1 rfl (dk_70_0 (4, .iload_n 1, 1) (List.mem_of_getElem? (i := 2) rfl)),
  List.forall_mem_cons.mpr ⟨sd_iconst 70 5 0 ⟨by decide, by decide⟩ (dk_70_0 (5, .iconst 0, 1) (List.mem_of_getElem? (i := 3) rfl)),
  List.forall_mem_cons.mpr ⟨sd_oLdI_n 70 6 2 2 rfl (dk_70_0 (6, .iload_n 2, 1) (List.mem_of_getElem? (i := 4) rfl)),
  List.forall_mem_cons.mpr ⟨sd_oLdI_n 70 7 3 3 rfl (dk_70_0 (7, .iload_n 3, 1) (List.mem_of_getElem? (i := 5) rfl)),
  List.forall_mem_cons.mpr ⟨sd_callV 70 8 30 4 8 275 5 [] (gdV hws_70 hws_30 zw266 zw267 zw268 zw61 zw265) hws_30 rfl (by decide +kernel) rfl rfl ⟨by decide +kernel, by decide +kernel, by decide +kernel⟩ ⟨by decide, by decide⟩ (catch_nil rfl) RX4 rfl TX4 5 rfl ⟨by decide, by decide⟩ (dk_70_0 (8, .invokevirtual 275, 3) (List.mem_of_getElem? (i := 6) rfl)),
  List.forall_mem_cons.mpr ⟨sd_iconst 70 11 0 ⟨by decide, by decide⟩ (dk_70_0 (11, .iconst 0, 1) (List.mem_of_getElem? (i := 7) rfl)),
  List.forall_mem_cons.mpr ⟨sd_oStI 70 12 4 (by decide) (dk_70_0 (12, .istore 4, 2) (List.mem_of_getElem? (i := 8) rfl)),
  List.forall_mem_cons.mpr ⟨sd_oLdI 70 14 4 (dk_70_0 (14, .iload 4, 2) (List.mem_of_getElem? (i := 9) rfl)),
  List.forall_mem_cons.mpr ⟨sd_oLdR_n 70 16 0 0 rfl (dk_70_0 (16, .aload_n 0, 1) (List.mem_of_getElem? (i := 10) rfl)),
  List.forall_mem_cons.mpr ⟨sd_oGetI 70 17 6 6 100 RX5 TX5 7 rfl ⟨by decide, by decide⟩ rfl (by decide) rfl (fun w h => iw_70 w (uz_5 w h)) rfl (iw_70 _ zw142) (dk_70_0 (17, .getfield 100, 3) (List.mem_of_getElem? (i := 11) rfl)),
  List.forall_mem_cons.mpr ⟨sd_icmp_ge 70 20 40 60 (by decide) (dk_70_0 (20, .if_icmp .ge 40, 3) (List.mem_of_getElem? (i := 12) rfl)),
  List.forall_mem_cons.mpr ⟨sd_oLdR_n 70 23 0 0 rfl (dk_70_0 (23, .aload_n 0, 1) (List.mem_of_getElem? (i := 13) rfl)),
  List.forall_mem_cons.mpr ⟨sd_oGetR 70 24 6 2 22 RX5 TX5 7 rfl ⟨by decide, by decide⟩ rfl (by decide) rfl (fun w h => iw_70 w (uz_5 w h)) rfl (iw_70 _ zw83) (dk_70_0 (24, .getfield 22, 3) (List.mem_of_getElem? (i := 14) rfl)),
  List.forall_mem_cons.mpr ⟨sd_oLdI 70 27 4 (dk_70_0 (27, .iload 4, 2) (List.mem_of_getElem? (i := 15) rfl)),
  List.forall_mem_cons.mpr ⟨sd_aaldN 70 29 (dk_70_0 (29, .aaload, 1) (List.mem_of_getElem? (i := 16) rfl)),
  List.forall_mem_cons.mpr ⟨sd_callV 70 30 13 0 1 153 3 [] (gdV hws_70 hws_13 zw183 zw184 zw185 zw29 zw182) hws_13 rfl (by decide +kernel) rfl rfl ⟨by decide +kernel, by decide +kernel, by decide +kernel⟩ ⟨by decide, by decide⟩ (catch_nil rfl) RX2 rfl TX2 10 rfl ⟨by decide, by decide⟩ (dk_70_0 (30, .invokevirtual 153, 3) (List.mem_of_getElem? (i := 17) rfl)),
  List.forall_mem_cons.mpr ⟨sd_if_eq 70 33 21 54 (by decide) (dk_70_0 (33, .ifCond .eq 21, 3) (List.mem_of_getElem? (i := 18) rfl)),
  List.forall_mem_cons.mpr ⟨sd_oLdR_n 70 36 0 0 rfl (dk_70_0 (36, .aload_n 0, 1) (List.mem_of_getElem? (i := 19) rfl)),
  List.forall_mem_cons.mpr ⟨sd_oGetR 70 37 6 2 22 RX5 TX5 7 rfl ⟨by decide, by decide⟩ rfl (by decide) rfl (fun w h => iw_70 w (uz_5 w h)) rfl (iw_70 _ zw83) (dk_70_0 (37, .getfield 22, 3) (List.mem_of_getElem? (i := 20) rfl)),
  List.forall_mem_cons.mpr ⟨sd_oLdI 70 40 4 (dk_70_0 (40, .iload 4, 2) (List.mem_of_getElem? (i := 21) rfl)),
  List.forall_mem_cons.mpr ⟨sd_aaldN 70 42 (dk_70_0 (42, .aaload, 1) (List.mem_of_getElem? (i := 22) rfl)),
  List.forall_mem_cons.mpr ⟨sd_oGetRN 70 43 3 5 135 RX2 TX2 10 rfl ⟨by decide, by decide⟩ rfl (by decide) rfl (fun w h => iw_70 w (uz_2 w h)) rfl "Marginalia" (List.mem_of_getElem? (i := 2) rfl) (dk_70_0 (43, .getfield 135, 3) (List.mem_of_getElem? (i := 23) rfl)),
  List.forall_mem_cons.mpr ⟨sd_oGetRN 70 46 4 3 204 RX3 TX3 8 rfl ⟨by decide, by decide⟩ rfl (by decide) rfl (fun w h => iw_70 w (uz_3 w h)) rfl "Marginalia" (List.mem_of_getElem? (i := 12) rfl) (dk_70_0 (46, .getfield 204, 3) (List.mem_of_getElem? (i := 24) rfl)),
  List.forall_mem_cons.mpr ⟨sd_oLdI_n 70 49 1 1 rfl (dk_70_0 (49, .iload_n 1, 1) (List.mem_of_getElem? (i := 25) rfl)),
  List.forall_mem_cons.mpr ⟨sd_oLdI_n 70 50 2 2 rfl (dk_70_0 (50, .iload_n 2, 1) (List.mem_of_getElem? (i := 26) rfl)),
  List.forall_mem_cons.mpr ⟨sd_callV 70 51 7 2 3 279 1 [] (gdV hws_70 hws_7 zw270 zw271 zw272 zw9 zw269) hws_7 rfl (by decide +kernel) rfl rfl ⟨by decide +kernel, by decide +kernel, by decide +kernel⟩ ⟨by decide, by decide⟩ (catch_nil rfl) RX0 rfl TX0 2 rfl ⟨by decide, by decide⟩ (dk_70_0 (51, .invokevirtual 279, 3) (List.mem_of_getElem? (i := 27) rfl)),
  List.forall_mem_cons.mpr ⟨sd_iinc 70 54 4 1 (by decide) (dk_70_0 (54, .iinc 4 1, 3) (List.mem_of_getElem? (i := 28) rfl)),
  List.forall_mem_cons.mpr ⟨sd_goto 70 57 (-43) 14 (by decide) (dk_70_0 (57, .goto (-43), 3) (List.mem_of_getElem? (i := 29) rfl)),
  List.forall_mem_cons.mpr ⟨sd_vret 70 60 rfl (dk_70_0 (60, .return_, 1) (List.mem_of_getElem? (i := 30) rfl)),
  fun _ h => nomatch h⟩⟩⟩⟩⟩⟩⟩⟩⟩⟩⟩⟩⟩⟩⟩⟩⟩⟩⟩⟩⟩⟩⟩⟩⟩⟩⟩⟩⟩⟩⟩
def tb_70 : List (List (Nat × Op1)) := [tb_70_0]
theorem sm_70 : ∀ t ∈ tb_70, ∀ q ∈ t, SM GwP MdP D A l 70 q.1 q.2 := List.forall_mem_cons.mpr ⟨sm_70_0, fun _ h => nomatch h⟩
-- 71: Marginalia.cutSigns(II)V
def dl_71_0 : List (Nat × Instr × Nat) := [(0, .aload_n 0, 1), (1, .getfield 16, 3), (4, .iload_n 1, 1), (5, .iload_n 2, 1), (6, .iconst 0, 1), (7, .iconst 0, 1), (8, .invokevirtual 275, 3), (11, .iconst 0, 1), (12, .istore_n 3, 1), (13, .iload_n 3, 1), (14, .aload_n 0, 1), (15, .getfield 100, 3), (18, .if_icmp .ge 40, 3), (21, .aload_n 0, 1), (22, .getfield 22, 3), (25, .iload_n 3, 1), (26, .aaload, 1), (27, .invokevirtual 153, 3), (30, .ifCond .eq 22, 3), (33, .aload_n 0, 1), (34, .getfield 22, 3), (37, .iload_n 3, 1), (38, .aaload, 1), (39, .getfield 135, 3), (42, .getfield 204, 3), (45, .iload_n 1, 1), (46, .iload_n 1, 1), (47, .iload_n 2, 1), (48, .iadd, 1), (49, .invokevirtual 282, 3), (52, .iinc 3 1, 3), (55, .goto (-42), 3), (58, .return_, 1)]
theorem dk_71_0 : ∀ q ∈ dl_71_0, decode (mCod (MdP 71)) q.1 = .ok q.2 := by
  rw [show mCod (MdP 71) = cX5_cutSigns from rfl]
  decide +kernel
def tb_71_0 : List (Nat × Op1) := [(0, oLdR 0 1), (1, oGetR 6 1), (4, oLdI 1 1), (5, oLdI 2 1), (6, oCI 0 1), (7, oCI 0 1), (8, oCallV 30 4 8 5 []), (11, oCI 0 1), (12, oStI 3 1), (13, oLdI 3 1), (14, oLdR 0 1), (15, oGetI 6 6), (18, oCge 58), (21, oLdR 0 1), (22, oGetR 6 2), (25, oLdI 3 1), (26, oALdR 13), (27, oCallV 13 0 1 3 []), (30, oZeq 52), (33, oLdR 0 1), (34, oGetR 6 2), (37, oLdI 3 1), (38, oALdR 13), (39, oGetR 3 5), (42, oGetR 4 3), (45, oLdI 1 1), (46, oLdI 1 1), (47, oLdI 2 1), (48, oAdd), (49, oCallV 8 2 3 1 []), (52, oInc 3 1), (55, oGoto 13), (58, oRetV)]
theorem sm_71_0 : ∀ q ∈ tb_71_0, SM GwP MdP D A l 71 q.1 q.2 :=
  List.forall_mem_cons.mpr ⟨sd_oLdR_n 71 0 0 0 rfl (dk_71_0 (0, .aload_n 0, 1) (List.mem_of_getElem? (i := 0) rfl)),
  List.forall_mem_cons.mpr ⟨sd_oGetR 71 1 6 1 16 RX5 TX5 7 rfl ⟨by decide, by decide⟩ rfl (by decide) rfl (fun w h => iw_71 w (uz_5 w h)) rfl (iw_71 _ zw81) (dk_71_0 (1, .getfield 16, 3) (List.mem_of_getElem? (i := 1) rfl)),
  List.forall_mem_cons.mpr ⟨sd_oLdI_n 71 4 1 1 rfl (dk_71_0 (4, .iload_n 1, 1) (List.mem_of_getElem? (i := 2) rfl)),
  List.forall_mem_cons.mpr ⟨sd_oLdI_n 71 5 2 2 rfl (dk_71_0 (5, .iload_n 2, 1) (List.mem_of_getElem? (i := 3) rfl)),
  List.forall_mem_cons.mpr ⟨sd_iconst 71 6 0 ⟨by decide, by decide⟩ (dk_71_0 (6, .iconst 0, 1) (List.mem_of_getElem? (i := 4) rfl)),
  List.forall_mem_cons.mpr ⟨sd_iconst 71 7 0 ⟨by decide, by decide⟩ (dk_71_0 (7, .iconst 0, 1) (List.mem_of_getElem? (i := 5) rfl)),
  List.forall_mem_cons.mpr ⟨sd_callV 71 8 30 4 8 275 5 [] (gdV hws_71 hws_30 zw266 zw267 zw268 zw61 zw265) hws_30 rfl (by decide +kernel) rfl rfl ⟨by decide +kernel, by decide +kernel, by decide +kernel⟩ ⟨by decide, by decide⟩ (catch_nil rfl) RX4 rfl TX4 5 rfl ⟨by decide, by decide⟩ (dk_71_0 (8, .invokevirtual 275, 3) (List.mem_of_getElem? (i := 6) rfl)),
  List.forall_mem_cons.mpr ⟨sd_iconst 71 11 0 ⟨by decide, by decide⟩ (dk_71_0 (11, .iconst 0, 1) (List.mem_of_getElem? (i := 7) rfl)),
  List.forall_mem_cons.mpr ⟨sd_oStI_n 71 12 3 3 rfl (by decide) (dk_71_0 (12, .istore_n 3, 1) (List.mem_of_getElem? (i := 8) rfl)),
  List.forall_mem_cons.mpr ⟨sd_oLdI_n 71 13 3 3 rfl (dk_71_0 (13, .iload_n 3, 1) (List.mem_of_getElem? (i := 9) rfl)),
  List.forall_mem_cons.mpr ⟨sd_oLdR_n 71 14 0 0 rfl (dk_71_0 (14, .aload_n 0, 1) (List.mem_of_getElem? (i := 10) rfl)),
  List.forall_mem_cons.mpr ⟨sd_oGetI 71 15 6 6 100 RX5 TX5 7 rfl ⟨by decide, by decide⟩ rfl (by decide) rfl (fun w h => iw_71 w (uz_5 w h)) rfl (iw_71 _ zw142) (dk_71_0 (15, .getfield 100, 3) (List.mem_of_getElem? (i := 11) rfl)),
  List.forall_mem_cons.mpr ⟨sd_icmp_ge 71 18 40 58 (by decide) (dk_71_0 (18, .if_icmp .ge 40, 3) (List.mem_of_getElem? (i := 12) rfl)),
  List.forall_mem_cons.mpr ⟨sd_oLdR_n 71 21 0 0 rfl (dk_71_0 (21, .aload_n 0, 1) (List.mem_of_getElem? (i := 13) rfl)),
  List.forall_mem_cons.mpr ⟨sd_oGetR 71 22 6 2 22 RX5 TX5 7 rfl ⟨by decide, by decide⟩ rfl (by decide) rfl (fun w h => iw_71 w (uz_5 w h)) rfl (iw_71 _ zw83) (dk_71_0 (22, .getfield 22, 3) (List.mem_of_getElem? (i := 14) rfl)),
  List.forall_mem_cons.mpr ⟨sd_oLdI_n 71 25 3 3 rfl (dk_71_0 (25, .iload_n 3, 1) (List.mem_of_getElem? (i := 15) rfl)),
  List.forall_mem_cons.mpr ⟨sd_aaldN 71 26 (dk_71_0 (26, .aaload, 1) (List.mem_of_getElem? (i := 16) rfl)),
  List.forall_mem_cons.mpr ⟨sd_callV 71 27 13 0 1 153 3 [] (gdV hws_71 hws_13 zw183 zw184 zw185 zw29 zw182) hws_13 rfl (by decide +kernel) rfl rfl ⟨by decide +kernel, by decide +kernel, by decide +kernel⟩ ⟨by decide, by decide⟩ (catch_nil rfl) RX2 rfl TX2 10 rfl ⟨by decide, by decide⟩ (dk_71_0 (27, .invokevirtual 153, 3) (List.mem_of_getElem? (i := 17) rfl)),
  List.forall_mem_cons.mpr ⟨sd_if_eq 71 30 22 52 (by decide) (dk_71_0 (30, .ifCond .eq 22, 3) (List.mem_of_getElem? (i := 18) rfl)),
  List.forall_mem_cons.mpr ⟨sd_oLdR_n 71 33 0 0 rfl (dk_71_0 (33, .aload_n 0, 1) (List.mem_of_getElem? (i := 19) rfl)),
  List.forall_mem_cons.mpr ⟨sd_oGetR 71 34 6 2 22 RX5 TX5 7 rfl ⟨by decide, by decide⟩ rfl (by decide) rfl (fun w h => iw_71 w (uz_5 w h)) rfl (iw_71 _ zw83) (dk_71_0 (34, .getfield 22, 3) (List.mem_of_getElem? (i := 20) rfl)),
  List.forall_mem_cons.mpr ⟨sd_oLdI_n 71 37 3 3 rfl (dk_71_0 (37, .iload_n 3, 1) (List.mem_of_getElem? (i := 21) rfl)),
  List.forall_mem_cons.mpr ⟨sd_aaldN 71 38 (dk_71_0 (38, .aaload, 1) (List.mem_of_getElem? (i := 22) rfl)),
  List.forall_mem_cons.mpr ⟨sd_oGetRN 71 39 3 5 135 RX2 TX2 10 rfl ⟨by decide, by decide⟩ rfl (by decide) rfl (fun w h => iw_71 w (uz_2 w h)) rfl "Marginalia" (List.mem_of_getElem? (i := 2) rfl) (dk_71_0 (39, .getfield 135, 3) (List.mem_of_getElem? (i := 23) rfl)),
  List.forall_mem_cons.mpr ⟨sd_oGetRN 71 42 4 3 204 RX3 TX3 8 rfl ⟨by decide, by decide⟩ rfl (by decide) rfl (fun w h => iw_71 w (uz_3 w h)) rfl "Marginalia" (List.mem_of_getElem? (i := 12) rfl) (dk_71_0 (42, .getfield 204, 3) (List.mem_of_getElem? (i := 24) rfl)),
  List.forall_mem_cons.mpr ⟨sd_oLdI_n 71 45 1 1 rfl (dk_71_0 (45, .iload_n 1, 1) (List.mem_of_getElem? (i := 25) rfl)),
  List.forall_mem_cons.mpr ⟨sd_oLdI_n 71 46 1 1 rfl (dk_71_0 (46, .iload_n 1, 1) (List.mem_of_getElem? (i := 26) rfl)),
  List.forall_mem_cons.mpr ⟨sd_oLdI_n 71 47 2 2 rfl (dk_71_0 (47, .iload_n 2, 1) (List.mem_of_getElem? (i := 27) rfl)),
  List.forall_mem_cons.mpr ⟨sd_iadd 71 48 (dk_71_0 (48, .iadd, 1) (List.mem_of_getElem? (i := 28) rfl)),
  List.forall_mem_cons.mpr ⟨sd_callV 71 49 8 2 3 282 1 [] (gdV hws_71 hws_8 zw274 zw275 zw276 zw9 zw273) hws_8 rfl (by decide +kernel) rfl rfl ⟨by decide +kernel, by decide +kernel, by decide +kernel⟩ ⟨by decide, by decide⟩ (catch_nil rfl) RX0 rfl TX0 2 rfl ⟨by decide, by decide⟩ (dk_71_0 (49, .invokevirtual 282, 3) (List.mem_of_getElem? (i := 29) rfl)),
  List.forall_mem_cons.mpr ⟨sd_iinc 71 52 3 1 (by decide) (dk_71_0 (52, .iinc 3 1, 3) (List.mem_of_getElem? (i := 30) rfl)),
  List.forall_mem_cons.mpr ⟨sd_goto 71 55 (-42) 13 (by decide) (dk_71_0 (55, .goto (-42), 3) (List.mem_of_getElem? (i := 31) rfl)),
  List.forall_mem_cons.mpr ⟨sd_vret 71 58 rfl (dk_71_0 (58, .return_, 1) (List.mem_of_getElem? (i := 32) rfl)),
  fun _ h => nomatch h⟩⟩⟩⟩⟩⟩⟩⟩⟩⟩⟩⟩⟩⟩⟩⟩⟩⟩⟩⟩⟩⟩⟩⟩⟩⟩⟩⟩⟩⟩⟩⟩⟩
def tb_71 : List (List (Nat × Op1)) := [tb_71_0]
theorem sm_71 : ∀ t ∈ tb_71, ∀ q ∈ t, SM GwP MdP D A l 71 q.1 q.2 := List.forall_mem_cons.mpr ⟨sm_71_0, fun _ h => nomatch h⟩
-- 72: Marginalia.canTake(LMarginalia$Strand;)Z
def dl_72_0 : List (Nat × Instr × Nat) := [(0, .aload_n 1, 1), (1, .getfield 157, 3), (4, .ifCond .ne 7, 3), (7, .iconst 1, 1), (8, .goto 4, 3), (11, .iconst 2, 1), (12, .istore_n 2, 1), (13, .aload_n 1, 1), (14, .getfield 157, 3), (17, .iconst (-1), 1), (18, .if_icmp .eq 40, 3), (21, .aload_n 1, 1), (22, .getfield 204, 3), (25, .invokevirtual 285, 3), (28, .ifCond .ne 30, 3), (31, .aload_n 0, 1), (32, .getfield 16, 3), (35, .aload_n 1, 1), (36, .getfield 157, 3), (39, .aload_n 1, 1), (40, .getfield 204, 3), (43, .invokevirtual 288, 3), (46, .isub, 1), (47, .iload_n 2, 1), (48, .invokevirtual 66, 3), (51, .ifCond .eq 7, 3), (54, .iconst 1, 1), (55, .goto 4, 3), (58, .iconst 0, 1), (59, .ireturn, 1)]
theorem dk_72_0 : ∀ q ∈ dl_72_0, decode (mCod (MdP 72)) q.1 = .ok q.2 := by
  rw [show mCod (MdP 72) = cX5_canTake from rfl]
  decide +kernel
def tb_72_0 : List (Nat × Op1) := [(0, oLdR 1 1), (1, oGetI 4 6), (4, oZne 11), (7, oCI 1 1), (8, oGoto 12), (11, oCI 2 1), (12, oStI 2 1), (13, oLdR 1 1), (14, oGetI 4 6), (17, oCI (-1) 1), (18, oCeq 58), (21, oLdR 1 1), (22, oGetR 4 3), (25, oCallV 3 0 1 1 []), (28, oZne 58), (31, oLdR 0 1), (32, oGetR 6 1), (35, oLdR 1 1), (36, oGetI 4 6), (39, oLdR 1 1), (40, oGetR 4 3), (43, oCallV 2 0 1 1 []), (46, oSub), (47, oLdI 2 1), (48, oCallV 24 2 3 5 []), (51, oZeq 58), (54, oCI 1 1), (55, oGoto 59), (58, oCI 0 1), (59, oRetZ)]
theorem sm_72_0 : ∀ q ∈ tb_72_0, SM GwP MdP D A l 72 q.1 q.2 :=
  List.forall_mem_cons.mpr ⟨sd_oLdR_n 72 0 1 1 rfl (dk_72_0 (0, .aload_n 1, 1) (List.mem_of_getElem? (i := 0) rfl)),
  List.forall_mem_cons.mpr ⟨sd_oGetIN 72 1 4 6 157 RX3 TX3 8 rfl ⟨by decide, by decide⟩ rfl (by decide) rfl (fun w h => iw_72 w (uz_3 w h)) rfl "Marginalia" (List.mem_of_getElem? (i := 6) rfl) (dk_72_0 (1, .getfield 157, 3) (List.mem_of_getElem? (i := 1) rfl)),
  List.forall_mem_cons.mpr ⟨sd_if_ne 72 4 7 11 (by decide) (dk_72_0 (4, .ifCond .ne 7, 3) (List.mem_of_getElem? (i := 2) rfl)),
  List.forall_mem_cons.mpr ⟨sd_iconst 72 7 1 ⟨by decide, by decide⟩ (dk_72_0 (7, .iconst 1, 1) (List.mem_of_getElem? (i := 3) rfl)),
  List.forall_mem_cons.mpr ⟨sd_goto 72 8 4 12 (by decide) (dk_72_0 (8, .goto 4, 3) (List.mem_of_getElem? (i := 4) rfl)),
  List.forall_mem_cons.mpr ⟨sd_iconst 72 11 2 ⟨by decide, by decide⟩ (dk_72_0 (11, .iconst 2, 1) (List.mem_of_getElem? (i := 5) rfl)),
  List.forall_mem_cons.mpr ⟨sd_oStI_n 72 12 2 2 rfl (by decide) (dk_72_0 (12, .istore_n 2, 1) (List.mem_of_getElem? (i := 6) rfl)),
  List.forall_mem_cons.mpr ⟨sd_oLdR_n 72 13 1 1 rfl (dk_72_0 (13, .aload_n 1, 1) (List.mem_of_getElem? (i := 7) rfl)),
  List.forall_mem_cons.mpr ⟨sd_oGetIN 72 14 4 6 157 RX3 TX3 8 rfl ⟨by decide, by decide⟩ rfl (by decide) rfl (fun w h => iw_72 w (uz_3 w h)) rfl "Marginalia" (List.mem_of_getElem? (i := 6) rfl) (dk_72_0 (14, .getfield 157, 3) (List.mem_of_getElem? (i := 8) rfl)),
  List.forall_mem_cons.mpr ⟨sd_iconst 72 17 (-1) ⟨by decide, by decide⟩ (dk_72_0 (17, .iconst (-1), 1) (List.mem_of_getElem? (i := 9) rfl)),
  List.forall_mem_cons.mpr ⟨sd_icmp_eq 72 18 40 58 (by decide) (dk_72_0 (18, .if_icmp .eq 40, 3) (List.mem_of_getElem? (i := 10) rfl)),
  List.forall_mem_cons.mpr ⟨sd_oLdR_n 72 21 1 1 rfl (dk_72_0 (21, .aload_n 1, 1) (List.mem_of_getElem? (i := 11) rfl)),
  List.forall_mem_cons.mpr ⟨sd_oGetRN 72 22 4 3 204 RX3 TX3 8 rfl ⟨by decide, by decide⟩ rfl (by decide) rfl (fun w h => iw_72 w (uz_3 w h)) rfl "Marginalia" (List.mem_of_getElem? (i := 12) rfl) (dk_72_0 (22, .getfield 204, 3) (List.mem_of_getElem? (i := 12) rfl)),
  List.forall_mem_cons.mpr ⟨sd_callV 72 25 3 0 1 285 1 [] (gdV hws_72 hws_3 zw277 zw7 zw8 zw9 zw5) hws_3 rfl (by decide +kernel) rfl rfl ⟨by decide +kernel, by decide +kernel, by decide +kernel⟩ ⟨by decide, by decide⟩ (catch_nil rfl) RX0 rfl TX0 2 rfl ⟨by decide, by decide⟩ (dk_72_0 (25, .invokevirtual 285, 3) (List.mem_of_getElem? (i := 13) rfl)),
  List.forall_mem_cons.mpr ⟨sd_if_ne 72 28 30 58 (by decide) (dk_72_0 (28, .ifCond .ne 30, 3) (List.mem_of_getElem? (i := 14) rfl)),
  List.forall_mem_cons.mpr ⟨sd_oLdR_n 72 31 0 0 rfl (dk_72_0 (31, .aload_n 0, 1) (List.mem_of_getElem? (i := 15) rfl)),
  List.forall_mem_cons.mpr ⟨sd_oGetR 72 32 6 1 16 RX5 TX5 7 rfl ⟨by decide, by decide⟩ rfl (by decide) rfl (fun w h => iw_72 w (uz_5 w h)) rfl (iw_72 _ zw81) (dk_72_0 (32, .getfield 16, 3) (List.mem_of_getElem? (i := 16) rfl)),
  List.forall_mem_cons.mpr ⟨sd_oLdR_n 72 35 1 1 rfl (dk_72_0 (35, .aload_n 1, 1) (List.mem_of_getElem? (i := 17) rfl)),
  List.forall_mem_cons.mpr ⟨sd_oGetIN 72 36 4 6 157 RX3 TX3 8 rfl ⟨by decide, by decide⟩ rfl (by decide) rfl (fun w h => iw_72 w (uz_3 w h)) rfl "Marginalia" (List.mem_of_getElem? (i := 6) rfl) (dk_72_0 (36, .getfield 157, 3) (List.mem_of_getElem? (i := 18) rfl)),
  List.forall_mem_cons.mpr ⟨sd_oLdR_n 72 39 1 1 rfl (dk_72_0 (39, .aload_n 1, 1) (List.mem_of_getElem? (i := 19) rfl)),
  List.forall_mem_cons.mpr ⟨sd_oGetRN 72 40 4 3 204 RX3 TX3 8 rfl ⟨by decide, by decide⟩ rfl (by decide) rfl (fun w h => iw_72 w (uz_3 w h)) rfl "Marginalia" (List.mem_of_getElem? (i := 12) rfl) (dk_72_0 (40, .getfield 204, 3) (List.mem_of_getElem? (i := 20) rfl)),
  List.forall_mem_cons.mpr ⟨sd_callV 72 43 2 0 1 288 1 [] (gdV hws_72 hws_2 zw279 zw280 zw281 zw9 zw278) hws_2 rfl (by decide +kernel) rfl rfl ⟨by decide +kernel, by decide +kernel, by decide +kernel⟩ ⟨by decide, by decide⟩ (catch_nil rfl) RX0 rfl TX0 2 rfl ⟨by decide, by decide⟩ (dk_72_0 (43, .invokevirtual 288, 3) (List.mem_of_getElem? (i := 21) rfl)),
  List.forall_mem_cons.mpr ⟨sd_isub 72 46 (dk_72_0 (46, .isub, 1) (List.mem_of_getElem? (i := 22) rfl)),
  List.forall_mem_cons.mpr ⟨sd_oLdI_n 72 47 2 2 rfl (dk_72_0 (47, .iload_n 2, 1) (List.mem_of_getElem? (i := 23) rfl)),
  List.forall_mem_cons.mpr ⟨sd_callV 72 48 24 2 3 66 5 [] (gdV hws_72 hws_24 zw112 zw113 zw114 zw61 zw111) hws_24 rfl (by decide +kernel) rfl rfl ⟨by decide +kernel, by decide +kernel, by decide +kernel⟩ ⟨by decide, by decide⟩ (catch_nil rfl) RX4 rfl TX4 5 rfl ⟨by decide, by decide⟩ (dk_72_0 (48, .invokevirtual 66, 3) (List.mem_of_getElem? (i := 24) rfl)),
  List.forall_mem_cons.mpr ⟨sd_if_eq 72 51 7 58 (by decide) (dk_72_0 (51, .ifCond .eq 7, 3) (List.mem_of_getElem? (i := 25) rfl)),
  List.forall_mem_cons.mpr ⟨sd_iconst 72 54 1 ⟨by decide, by decide⟩ (dk_72_0 (54, .iconst 1, 1) (List.mem_of_getElem? (i := 26) rfl)),
  List.forall_mem_cons.mpr ⟨sd_goto 72 55 4 59 (by decide) (dk_72_0 (55, .goto 4, 3) (List.mem_of_getElem? (i := 27) rfl)),
  List.forall_mem_cons.mpr ⟨sd_iconst 72 58 0 ⟨by decide, by decide⟩ (dk_72_0 (58, .iconst 0, 1) (List.mem_of_getElem? (i := 28) rfl)),
  List.forall_mem_cons.mpr ⟨sd_zret 72 59 rfl (dk_72_0 (59, .ireturn, 1) (List.mem_of_getElem? (i := 29) rfl)),
  fun _ h => nomatch h⟩⟩⟩⟩⟩⟩⟩⟩⟩⟩⟩⟩⟩⟩⟩⟩⟩⟩⟩⟩⟩⟩⟩⟩⟩⟩⟩⟩⟩⟩
def tb_72 : List (List (Nat × Op1)) := [tb_72_0]
theorem sm_72 : ∀ t ∈ tb_72, ∀ q ∈ t, SM GwP MdP D A l 72 q.1 q.2 := List.forall_mem_cons.mpr ⟨sm_72_0, fun _ h => nomatch h⟩
-- 73: Marginalia.putProposal(LMarginalia$Strand;)V
def dl_73_0 : List (Nat × Instr × Nat) := [(0, .aload_n 1, 1), (1, .getfield 204, 3), (4, .astore_n 2, 1), (5, .aload_n 2, 1), (6, .getfield 289, 3), (9, .istore_n 3, 1), (10, .aload_n 1, 1), (11, .getfield 157, 3), (14, .istore 4, 2), (16, .aload_n 0, 1), (17, .iload_n 3, 1), (18, .aload_n 2, 1), (19, .invokevirtual 288, 3), (22, .invokevirtual 77, 3), (25, .iload 4, 2), (27, .ifCond .le 14, 3), (30, .aload_n 0, 1), (31, .iload_n 3, 1), (32, .iload 4, 2), (34, .aload_n 1, 1), (35, .getfield 160, 3), (38, .invokevirtual 70, 3), (41, .aload_n 2, 1), (42, .iload_n 3, 1), (43, .iload_n 3, 1), (44, .iload 4, 2), (46, .iadd, 1), (47, .invokevirtual 292, 3), (50, .aload_n 1, 1), (51, .iconst 1, 1), (52, .putfield 143, 3), (55, .aload_n 1, 1), (56, .iconst (-1), 1), (57, .putfield 157, 3), (60, .return_, 1)]
theorem dk_73_0 : ∀ q ∈ dl_73_0, decode (mCod (MdP 73)) q.1 = .ok q.2 := by
  rw [show mCod (MdP 73) = cX5_putProposal from rfl]
  decide +kernel
def tb_73_0 : List (Nat × Op1) := [(0, oLdR 1 1), (1, oGetR 4 3), (4, oStR 2 1), (5, oLdR 2 1), (6, oGetI 1 0), (9, oStI 3 1), (10, oLdR 1 1), (11, oGetI 4 6), (14, oStI 4 2), (16, oLdR 0 1), (17, oLdI 3 1), (18, oLdR 2 1), (19, oCallV 2 0 1 1 []), (22, oCallV 71 2 4 6 []), (25, oLdI 4 2), (27, oZle 41), (30, oLdR 0 1), (31, oLdI 3 1), (32, oLdI 4 2), (34, oLdR 1 1), (35, oGetI 4 7), (38, oCallV 70 3 5 6 []), (41, oLdR 2 1), (42, oLdI 3 1), (43, oLdI 3 1), (44, oLdI 4 2), (46, oAdd), (47, oCallV 1 2 3 1 []), (50, oLdR 1 1), (51, oCI 1 1), (52, oPutZ 4 5), (55, oLdR 1 1), (56, oCI (-1) 1), (57, oPutI 4 6), (60, oRetV)]
theorem sm_73_0 : ∀ q ∈ tb_73_0, SM GwP MdP D A l 73 q.1 q.2 :=
  List.forall_mem_cons.mpr ⟨sd_oLdR_n 73 0 1 1 rfl (dk_73_0 (0, .aload_n 1, 1) (List.mem_of_getElem? (i := 0) rfl)),
  List.forall_mem_cons.mpr ⟨sd_oGetRN 73 1 4 3 204 RX3 TX3 8 rfl ⟨by decide, by decide⟩ rfl (by decide) rfl (fun w h => iw_73 w (uz_3 w h)) rfl "Marginalia" (List.mem_of_getElem? (i := 12) rfl) (dk_73_0 (1, .getfield 204, 3) (List.mem_of_getElem? (i := 1) rfl)),
  List.forall_mem_cons.mpr ⟨sd_oStR_n 73 4 2 2 rfl (by decide) (dk_73_0 (4, .astore_n 2, 1) (List.mem_of_getElem? (i := 2) rfl)),
  List.forall_mem_cons.mpr ⟨sd_oLdR_n 73 5 2 2 rfl (dk_73_0 (5, .aload_n 2, 1) (List.mem_of_getElem? (i := 3) rfl)),
  List.forall_mem_cons.mpr ⟨sd_oGetIN 73 6 1 0 289 RX0 TX0 2 rfl ⟨by decide, by decide⟩ rfl (by decide) rfl (fun w h => iw_73 w (uz_0 w h)) rfl "Marginalia" (List.mem_of_getElem? (i := 15) rfl) (dk_73_0 (6, .getfield 289, 3) (List.mem_of_getElem? (i := 4) rfl)),
  List.forall_mem_cons.mpr ⟨sd_oStI_n 73 9 3 3 rfl (by decide) (dk_73_0 (9, .istore_n 3, 1) (List.mem_of_getElem? (i := 5) rfl)),
  List.forall_mem_cons.mpr ⟨sd_oLdR_n 73 10 1 1 rfl (dk_73_0 (10, .aload_n 1, 1) (List.mem_of_getElem? (i := 6) rfl)),
  List.forall_mem_cons.mpr ⟨sd_oGetIN 73 11 4 6 157 RX3 TX3 8 rfl ⟨by decide, by decide⟩ rfl (by decide) rfl (fun w h => iw_73 w (uz_3 w h)) rfl "Marginalia" (List.mem_of_getElem? (i := 6) rfl) (dk_73_0 (11, .getfield 157, 3) (List.mem_of_getElem? (i := 7) rfl)),
  List.forall_mem_cons.mpr ⟨sd_oStI 73 14 4 (by decide) (dk_73_0 (14, .istore 4, 2) (List.mem_of_getElem? (i := 8) rfl)),
  List.forall_mem_cons.mpr ⟨sd_oLdR_n 73 16 0 0 rfl (dk_73_0 (16, .aload_n 0, 1) (List.mem_of_getElem? (i := 9) rfl)),
  List.forall_mem_cons.mpr ⟨sd_oLdI_n 73 17 3 3 rfl (dk_73_0 (17, .iload_n 3, 1) (List.mem_of_getElem? (i := 10) rfl)),
  List.forall_mem_cons.mpr ⟨sd_oLdR_n 73 18 2 2 rfl (dk_73_0 (18, .aload_n 2, 1) (List.mem_of_getElem? (i := 11) rfl)),
  List.forall_mem_cons.mpr ⟨sd_callV 73 19 2 0 1 288 1 [] (gdV hws_73 hws_2 zw279 zw280 zw281 zw9 zw278) hws_2 rfl (by decide +kernel) rfl rfl ⟨by decide +kernel, by decide +kernel, by decide +kernel⟩ ⟨by decide, by decide⟩ (catch_nil rfl) RX0 rfl TX0 2 rfl ⟨by decide, by decide⟩ (dk_73_0 (19, .invokevirtual 288, 3) (List.mem_of_getElem? (i := 12) rfl)),
  List.forall_mem_cons.mpr ⟨sd_callV 73 22 71 2 4 77 6 [] (gdV hws_73 hws_71 zw124 zw125 zw126 zw63 zw123) hws_71 rfl (by decide +kernel) rfl rfl ⟨by decide +kernel, by decide +kernel, by decide +kernel⟩ ⟨by decide, by decide⟩ (catch_nil rfl) RX5 rfl TX5 7 rfl ⟨by decide, by decide⟩ (dk_73_0 (22, .invokevirtual 77, 3) (List.mem_of_getElem? (i := 13) rfl)),
  List.forall_mem_cons.mpr ⟨sd_oLdI 73 25 4 (dk_73_0 (25, .iload 4, 2) (List.mem_of_getElem? (i := 14) rfl)),
  List.forall_mem_cons.mpr ⟨sd_if_le 73 27 14 41 (by decide) (dk_73_0 (27, .ifCond .le 14, 3) (List.mem_of_getElem? (i := 15) rfl)),
  List.forall_mem_cons.mpr ⟨sd_oLdR_n 73 30 0 0 rfl (dk_73_0 (30, .aload_n 0, 1) (List.mem_of_getElem? (i := 16) rfl)),
  List.forall_mem_cons.mpr ⟨sd_oLdI_n 73 31 3 3 rfl (dk_73_0 (31, .iload_n 3, 1) (List.mem_of_getElem? (i := 17) rfl)),
  List.forall_mem_cons.mpr ⟨sd_oLdI 73 32 4 (dk_73_0 (32, .iload 4, 2) (List.mem_of_getElem? (i := 18) rfl)),
  List.forall_mem_cons.mpr ⟨sd_oLdR_n 73 34 1 1 rfl (dk_73_0 (34, .aload_n 1, 1) (List.mem_of_getElem? (i := 19) rfl)),
  List.forall_mem_cons.mpr ⟨sd_oGetIN 73 35 4 7 160 RX3 TX3 8 rfl ⟨by decide, by decide⟩ rfl (by decide) rfl (fun w h => iw_73 w (uz_3 w h)) rfl "Marginalia" (List.mem_of_getElem? (i := 7) rfl) (dk_73_0 (35, .getfield 160, 3) (List.mem_of_getElem? (i := 20) rfl)),
  List.forall_mem_cons.mpr ⟨sd_callV 73 38 70 3 5 70 6 [] (gdV hws_73 hws_70 zw116 zw117 zw118 zw63 zw115) hws_70 rfl (by decide +kernel) rfl rfl ⟨by decide +kernel, by decide +kernel, by decide +kernel⟩ ⟨by decide, by decide⟩ (catch_nil rfl) RX5 rfl TX5 7 rfl ⟨by decide, by decide⟩ (dk_73_0 (38, .invokevirtual 70, 3) (List.mem_of_getElem? (i := 21) rfl)),
  List.forall_mem_cons.mpr ⟨sd_oLdR_n 73 41 2 2 rfl (dk_73_0 (41, .aload_n 2, 1) (List.mem_of_getElem? (i := 22) rfl)),
  List.forall_mem_cons.mpr ⟨sd_oLdI_n 73 42 3 3 rfl (dk_73_0 (42, .iload_n 3, 1) (List.mem_of_getElem? (i := 23) rfl)),
  List.forall_mem_cons.mpr ⟨sd_oLdI_n 73 43 3 3 rfl (dk_73_0 (43, .iload_n 3, 1) (List.mem_of_getElem? (i := 24) rfl)),
  List.forall_mem_cons.mpr ⟨sd_oLdI 73 44 4 (dk_73_0 (44, .iload 4, 2) (List.mem_of_getElem? (i := 25) rfl)),
  List.forall_mem_cons.mpr ⟨sd_iadd 73 46 (dk_73_0 (46, .iadd, 1) (List.mem_of_getElem? (i := 26) rfl)),
  List.forall_mem_cons.mpr ⟨sd_callV 73 47 1 2 3 292 1 [] (gdV hws_73 hws_1 zw283 zw284 zw285 zw9 zw282) hws_1 rfl (by decide +kernel) rfl rfl ⟨by decide +kernel, by decide +kernel, by decide +kernel⟩ ⟨by decide, by decide⟩ (catch_nil rfl) RX0 rfl TX0 2 rfl ⟨by decide, by decide⟩ (dk_73_0 (47, .invokevirtual 292, 3) (List.mem_of_getElem? (i := 27) rfl)),
  List.forall_mem_cons.mpr ⟨sd_oLdR_n 73 50 1 1 rfl (dk_73_0 (50, .aload_n 1, 1) (List.mem_of_getElem? (i := 28) rfl)),
  List.forall_mem_cons.mpr ⟨sd_iconst 73 51 1 ⟨by decide, by decide⟩ (dk_73_0 (51, .iconst 1, 1) (List.mem_of_getElem? (i := 29) rfl)),
  List.forall_mem_cons.mpr ⟨sd_oPutZN 73 52 4 5 143 RX3 TX3 8 rfl ⟨by decide, by decide⟩ rfl (by decide) rfl (fun w h => iw_73 w (uz_3 w h)) rfl tyX3 tyX3_ok nmX3 rfl rfl "Marginalia" (List.mem_of_getElem? (i := 3) rfl) (dk_73_0 (52, .putfield 143, 3) (List.mem_of_getElem? (i := 30) rfl)),
  List.forall_mem_cons.mpr ⟨sd_oLdR_n 73 55 1 1 rfl (dk_73_0 (55, .aload_n 1, 1) (List.mem_of_getElem? (i := 31) rfl)),
  List.forall_mem_cons.mpr ⟨sd_iconst 73 56 (-1) ⟨by decide, by decide⟩ (dk_73_0 (56, .iconst (-1), 1) (List.mem_of_getElem? (i := 32) rfl)),
  List.forall_mem_cons.mpr ⟨sd_oPutIN 73 57 4 6 157 RX3 TX3 8 rfl ⟨by decide, by decide⟩ rfl (by decide) rfl (fun w h => iw_73 w (uz_3 w h)) rfl tyX3 tyX3_ok nmX3 rfl rfl "Marginalia" (List.mem_of_getElem? (i := 6) rfl) (dk_73_0 (57, .putfield 157, 3) (List.mem_of_getElem? (i := 33) rfl)),
  List.forall_mem_cons.mpr ⟨sd_vret 73 60 rfl (dk_73_0 (60, .return_, 1) (List.mem_of_getElem? (i := 34) rfl)),
  fun _ h => nomatch h⟩⟩⟩⟩⟩⟩⟩⟩⟩⟩⟩⟩⟩⟩⟩⟩⟩⟩⟩⟩⟩⟩⟩⟩⟩⟩⟩⟩⟩⟩⟩⟩⟩⟩⟩
def tb_73 : List (List (Nat × Op1)) := [tb_73_0]
theorem sm_73 : ∀ t ∈ tb_73, ∀ q ∈ t, SM GwP MdP D A l 73 q.1 q.2 := List.forall_mem_cons.mpr ⟨sm_73_0, fun _ h => nomatch h⟩
-- 74: Marginalia.quoteOf(II)[I
def dl_74_0 : List (Nat × Instr × Nat) := [(0, .iload_n 2, 1), (1, .iload_n 1, 1), (2, .isub, 1), (3, .bipush 12, 2), (5, .invokestatic 295, 3), (8, .newarray .int, 2), (10, .astore_n 3, 1), (11, .iconst 0, 1), (12, .istore 4, 2), (14, .iload 4, 2), (16, .aload_n 3, 1), (17, .arraylength, 1), (18, .if_icmp .ge 31, 3), (21, .aload_n 3, 1), (22, .iload 4, 2), (24, .aload_n 0, 1), (25, .getfield 16, 3), (28, .aload_n 0, 1), (29, .getfield 16, 3), (32, .getfield 94, 3), (35, .iload_n 1, 1), (36, .iload 4, 2), (38, .iadd, 1), (39, .invokevirtual 87, 3), (42, .iastore, 1), (43, .iinc 4 1, 3), (46, .goto (-32), 3), (49, .aload_n 3, 1), (50, .areturn, 1)]
theorem dk_74_0 : ∀ q ∈ dl_74_0, decode (mCod (MdP 74)) q.1 = .ok q.2 := by
  rw [show mCod (MdP 74) = cX5_quoteOf from rfl]
  decide +kernel
def tb_74_0 : List (Nat × Op1) := [(0, oLdI 2 1), (1, oLdI 1 1), (2, oSub), (3, oCI 12 2), (5, oMin), (8, oNewA 10 2), (10, oStR 3 1), (11, oCI 0 1), (12, oStI 4 2), (14, oLdI 4 2), (16, oLdR 3 1), (17, oALen 10), (18, oCge 49), (21, oLdR 3 1), (22, oLdI 4 2), (24, oLdR 0 1), (25, oGetR 6 1), (28, oLdR 0 1), (29, oGetR 6 1), (32, oGetI 5 4), (35, oLdI 1 1), (36, oLdI 4 2), (38, oAdd), (39, oCallV 27 2 3 5 []), (42, oAStI), (43, oInc 4 1), (46, oGoto 14), (49, oLdR 3 1), (50, oRetR)]
theorem sm_74_0 : ∀ q ∈ tb_74_0, SM GwP MdP D A l 74 q.1 q.2 :=
  List.forall_mem_cons.mpr ⟨sd_oLdI_n 74 0 2 2 rfl (dk_74_0 (0, .iload_n 2, 1) (List.mem_of_getElem? (i := 0) rfl)),
  List.forall_mem_cons.mpr ⟨sd_oLdI_n 74 1 1 1 rfl (dk_74_0 (1, .iload_n 1, 1) (List.mem_of_getElem? (i := 1) rfl)),
  List.forall_mem_cons.mpr ⟨sd_isub 74 2 (dk_74_0 (2, .isub, 1) (List.mem_of_getElem? (i := 2) rfl)),
  List.forall_mem_cons.mpr ⟨sd_bipush 74 3 12 ⟨by decide, by decide⟩ (by decide) (dk_74_0 (3, .bipush 12, 2) (List.mem_of_getElem? (i := 3) rfl)),
  List.forall_mem_cons.mpr ⟨sd_min 74 5 295 (iw_74 _ zw286) (iw_74 _ zw14) (iw_74 _ zw15) (iw_74 _ zw16) (by decide) (by decide) (dk_74_0 (5, .invokestatic 295, 3) (List.mem_of_getElem? (i := 4) rfl)),
  List.forall_mem_cons.mpr ⟨sd_newA 74 8 10 .int (Or.inl ⟨rfl, rfl⟩) (iw_74 _ zw22) (dk_74_0 (8, .newarray .int, 2) (List.mem_of_getElem? (i := 5) rfl)),
  List.forall_mem_cons.mpr ⟨sd_oStR_n 74 10 3 3 rfl (by decide) (dk_74_0 (10, .astore_n 3, 1) (List.mem_of_getElem? (i := 6) rfl)),
  List.forall_mem_cons.mpr ⟨sd_iconst 74 11 0 ⟨by decide, by decide⟩ (dk_74_0 (11, .iconst 0, 1) (List.mem_of_getElem? (i := 7) rfl)),
  List.forall_mem_cons.mpr ⟨sd_oStI 74 12 4 (by decide) (dk_74_0 (12, .istore 4, 2) (List.mem_of_getElem? (i := 8) rfl)),
  List.forall_mem_cons.mpr ⟨sd_oLdI 74 14 4 (dk_74_0 (14, .iload 4, 2) (List.mem_of_getElem? (i := 9) rfl)),
  List.forall_mem_cons.mpr ⟨sd_oLdR_n 74 16 3 3 rfl (dk_74_0 (16, .aload_n 3, 1) (List.mem_of_getElem? (i := 10) rfl)),
  List.forall_mem_cons.mpr ⟨sd_alen 74 17 10 ⟨by decide, by decide⟩ (dk_74_0 (17, .arraylength, 1) (List.mem_of_getElem? (i := 11) rfl)),
  List.forall_mem_cons.mpr ⟨sd_icmp_ge 74 18 31 49 (by decide) (dk_74_0 (18, .if_icmp .ge 31, 3) (List.mem_of_getElem? (i := 12) rfl)),
  List.forall_mem_cons.mpr ⟨sd_oLdR_n 74 21 3 3 rfl (dk_74_0 (21, .aload_n 3, 1) (List.mem_of_getElem? (i := 13) rfl)),
  List.forall_mem_cons.mpr ⟨sd_oLdI 74 22 4 (dk_74_0 (22, .iload 4, 2) (List.mem_of_getElem? (i := 14) rfl)),
  List.forall_mem_cons.mpr ⟨sd_oLdR_n 74 24 0 0 rfl (dk_74_0 (24, .aload_n 0, 1) (List.mem_of_getElem? (i := 15) rfl)),
  List.forall_mem_cons.mpr ⟨sd_oGetR 74 25 6 1 16 RX5 TX5 7 rfl ⟨by decide, by decide⟩ rfl (by decide) rfl (fun w h => iw_74 w (uz_5 w h)) rfl (iw_74 _ zw81) (dk_74_0 (25, .getfield 16, 3) (List.mem_of_getElem? (i := 16) rfl)),
  List.forall_mem_cons.mpr ⟨sd_oLdR_n 74 28 0 0 rfl (dk_74_0 (28, .aload_n 0, 1) (List.mem_of_getElem? (i := 17) rfl)),
  List.forall_mem_cons.mpr ⟨sd_oGetR 74 29 6 1 16 RX5 TX5 7 rfl ⟨by decide, by decide⟩ rfl (by decide) rfl (fun w h => iw_74 w (uz_5 w h)) rfl (iw_74 _ zw81) (dk_74_0 (29, .getfield 16, 3) (List.mem_of_getElem? (i := 18) rfl)),
  List.forall_mem_cons.mpr ⟨sd_oGetIN 74 32 5 4 94 RX4 TX4 5 rfl ⟨by decide, by decide⟩ rfl (by decide) rfl (fun w h => iw_74 w (uz_4 w h)) rfl "Marginalia" (List.mem_of_getElem? (i := 0) rfl) (dk_74_0 (32, .getfield 94, 3) (List.mem_of_getElem? (i := 19) rfl)),
  List.forall_mem_cons.mpr ⟨sd_oLdI_n 74 35 1 1 rfl (dk_74_0 (35, .iload_n 1, 1) (List.mem_of_getElem? (i := 20) rfl)),
  List.forall_mem_cons.mpr ⟨sd_oLdI 74 36 4 (dk_74_0 (36, .iload 4, 2) (List.mem_of_getElem? (i := 21) rfl)),
  List.forall_mem_cons.mpr ⟨sd_iadd 74 38 (dk_74_0 (38, .iadd, 1) (List.mem_of_getElem? (i := 22) rfl)),
  List.forall_mem_cons.mpr ⟨sd_callV 74 39 27 2 3 87 5 [] (gdV hws_74 hws_27 zw287 zw67 zw68 zw61 zw65) hws_27 rfl (by decide +kernel) rfl rfl ⟨by decide +kernel, by decide +kernel, by decide +kernel⟩ ⟨by decide, by decide⟩ (catch_nil rfl) RX4 rfl TX4 5 rfl ⟨by decide, by decide⟩ (dk_74_0 (39, .invokevirtual 87, 3) (List.mem_of_getElem? (i := 23) rfl)),
  List.forall_mem_cons.mpr ⟨sd_iast 74 42 (dk_74_0 (42, .iastore, 1) (List.mem_of_getElem? (i := 24) rfl)),
  List.forall_mem_cons.mpr ⟨sd_iinc 74 43 4 1 (by decide) (dk_74_0 (43, .iinc 4 1, 3) (List.mem_of_getElem? (i := 25) rfl)),
  List.forall_mem_cons.mpr ⟨sd_goto 74 46 (-32) 14 (by decide) (dk_74_0 (46, .goto (-32), 3) (List.mem_of_getElem? (i := 26) rfl)),
  List.forall_mem_cons.mpr ⟨sd_oLdR_n 74 49 3 3 rfl (dk_74_0 (49, .aload_n 3, 1) (List.mem_of_getElem? (i := 27) rfl)),
  List.forall_mem_cons.mpr ⟨sd_aret 74 50 rfl (Or.inr ⟨_, rfl⟩) (dk_74_0 (50, .areturn, 1) (List.mem_of_getElem? (i := 28) rfl)),
  fun _ h => nomatch h⟩⟩⟩⟩⟩⟩⟩⟩⟩⟩⟩⟩⟩⟩⟩⟩⟩⟩⟩⟩⟩⟩⟩⟩⟩⟩⟩⟩⟩
def tb_74 : List (List (Nat × Op1)) := [tb_74_0]
theorem sm_74 : ∀ t ∈ tb_74, ∀ q ∈ t, SM GwP MdP D A l 74 q.1 q.2 := List.forall_mem_cons.mpr ⟨sm_74_0, fun _ h => nomatch h⟩
-- 75: Marginalia.healAnchor(LMarginalia$Strand;)Z
def dl_75_0 : List (Nat × Instr × Nat) := [(0, .aload_n 1, 1), (1, .getfield 204, 3), (4, .invokevirtual 285, 3), (7, .ifCond .ne 5, 3), (10, .iconst 0, 1), (11, .ireturn, 1), (12, .aload_n 0, 1), (13, .aload_n 1, 1), (14, .invokevirtual 227, 3), (17, .istore_n 2, 1), (18, .iload_n 2, 1), (19, .iconst (-1), 1), (20, .if_icmp .ne 5, 3), (23, .iconst 0, 1), (24, .ireturn, 1), (25, .aload_n 1, 1), (26, .getfield 204, 3), (29, .iload_n 2, 1), (30, .iload_n 2, 1), (31, .aload_n 1, 1), (32, .getfield 190, 3), (35, .arraylength, 1), (36, .iadd, 1), (37, .invokevirtual 292, 3), (40, .iconst 1, 1), (41, .ireturn, 1)]
theorem dk_75_0 : ∀ q ∈ dl_75_0, decode (mCod (MdP 75)) q.1 = .ok q.2 := by
  rw [show mCod (MdP 75) = cX5_healAnchor from rfl]
  decide +kernel
def tb_75_0 : List (Nat × Op1) := [(0, oLdR 1 1), (1, oGetR 4 3), (4, oCallV 3 0 1 1 []), (7, oZne 12), (10, oCI 0 1), (11, oRetZ), (12, oLdR 0 1), (13, oLdR 1 1), (14, oCallV 76 1 4 6 []), (17, oStI 2 1), (18, oLdI 2 1), (19, oCI (-1) 1), (20, oCne 25), (23, oCI 0 1), (24, oRetZ), (25, oLdR 1 1), (26, oGetR 4 3), (29, oLdI 2 1), (30, oLdI 2 1), (31, oLdR 1 1), (32, oGetR 4 4), (35, oALen 10), (36, oAdd), (37, oCallV 1 2 3 1 []), (40, oCI 1 1), (41, oRetZ)]
theorem sm_75_0 : ∀ q ∈ tb_75_0, SM GwP MdP D A l 75 q.1 q.2 :=
  List.forall_mem_cons.mpr ⟨sd_oLdR_n 75 0 1 1 rfl (dk_75_0 (0, .aload_n 1, 1) (List.mem_of_getElem? (i := 0) rfl)),
  List.forall_mem_cons.mpr ⟨sd_oGetRN 75 1 4 3 204 RX3 TX3 8 rfl ⟨by decide, by decide⟩ rfl (by decide) rfl (fun w h => iw_75 w (uz_3 w h)) rfl "Marginalia" (List.mem_of_getElem? (i := 12) rfl) (dk_75_0 (1, .getfield 204, 3) (List.mem_of_getElem? (i := 1) rfl)),
  List.forall_mem_cons.mpr ⟨sd_callV 75 4 3 0 1 285 1 [] (gdV hws_75 hws_3 zw277 zw7 zw8 zw9 zw5) hws_3 rfl (by decide +kernel) rfl rfl ⟨by decide +kernel, by decide +kernel, by decide +kernel⟩ ⟨by decide, by decide⟩ (catch_nil rfl) RX0 rfl TX0 2 rfl ⟨by decide, by decide⟩ (dk_75_0 (4, .invokevirtual 285, 3) (List.mem_of_getElem? (i := 2) rfl)),
  List.forall_mem_cons.mpr ⟨sd_if_ne 75 7 5 12 (by decide) (dk_75_0 (7, .ifCond .ne 5, 3) (List.mem_of_getElem? (i := 3) rfl)),
  List.forall_mem_cons.mpr ⟨sd_iconst 75 10 0 ⟨by decide, by decide⟩ (dk_75_0 (10, .iconst 0, 1) (List.mem_of_getElem? (i := 4) rfl)),
  List.forall_mem_cons.mpr ⟨sd_zret 75 11 rfl (dk_75_0 (11, .ireturn, 1) (List.mem_of_getElem? (i := 5) rfl)),
  List.forall_mem_cons.mpr ⟨sd_oLdR_n 75 12 0 0 rfl (dk_75_0 (12, .aload_n 0, 1) (List.mem_of_getElem? (i := 6) rfl)),
  List.forall_mem_cons.mpr ⟨sd_oLdR_n 75 13 1 1 rfl (dk_75_0 (13, .aload_n 1, 1) (List.mem_of_getElem? (i := 7) rfl)),
  List.forall_mem_cons.mpr ⟨sd_callV 75 14 76 1 4 227 6 [] (gdV hws_75 hws_76 zw235 zw236 zw237 zw63 zw234) hws_76 rfl (by decide +kernel) rfl rfl ⟨by decide +kernel, by decide +kernel, by decide +kernel⟩ ⟨by decide, by decide⟩ (catch_nil rfl) RX5 rfl TX5 7 rfl ⟨by decide, by decide⟩ (dk_75_0 (14, .invokevirtual 227, 3) (List.mem_of_getElem? (i := 8) rfl)),
  List.forall_mem_cons.mpr ⟨sd_oStI_n 75 17 2 2 rfl (by decide) (dk_75_0 (17, .istore_n 2, 1) (List.mem_of_getElem? (i := 9) rfl)),
  List.forall_mem_cons.mpr ⟨sd_oLdI_n 75 18 2 2 rfl (dk_75_0 (18, .iload_n 2, 1) (List.mem_of_getElem? (i := 10) rfl)),
  List.forall_mem_cons.mpr ⟨sd_iconst 75 19 (-1) ⟨by decide, by decide⟩ (dk_75_0 (19, .iconst (-1), 1) (List.mem_of_getElem? (i := 11) rfl)),
  List.forall_mem_cons.mpr ⟨sd_icmp_ne 75 20 5 25 (by decide) (dk_75_0 (20, .if_icmp .ne 5, 3) (List.mem_of_getElem? (i := 12) rfl)),
  List.forall_mem_cons.mpr ⟨sd_iconst 75 23 0 ⟨by decide, by decide⟩ (dk_75_0 (23, .iconst 0, 1) (List.mem_of_getElem? (i := 13) rfl)),
  List.forall_mem_cons.mpr ⟨sd_zret 75 24 rfl (dk_75_0 (24, .ireturn, 1) (List.mem_of_getElem? (i := 14) rfl)),
  List.forall_mem_cons.mpr ⟨sd_oLdR_n 75 25 1 1 rfl (dk_75_0 (25, .aload_n 1, 1) (List.mem_of_getElem? (i := 15) rfl)),
  List.forall_mem_cons.mpr ⟨sd_oGetRN 75 26 4 3 204 RX3 TX3 8 rfl ⟨by decide, by decide⟩ rfl (by decide) rfl (fun w h => iw_75 w (uz_3 w h)) rfl "Marginalia" (List.mem_of_getElem? (i := 12) rfl) (dk_75_0 (26, .getfield 204, 3) (List.mem_of_getElem? (i := 16) rfl)),
  List.forall_mem_cons.mpr ⟨sd_oLdI_n 75 29 2 2 rfl (dk_75_0 (29, .iload_n 2, 1) (List.mem_of_getElem? (i := 17) rfl)),
  List.forall_mem_cons.mpr ⟨sd_oLdI_n 75 30 2 2 rfl (dk_75_0 (30, .iload_n 2, 1) (List.mem_of_getElem? (i := 18) rfl)),
  List.forall_mem_cons.mpr ⟨sd_oLdR_n 75 31 1 1 rfl (dk_75_0 (31, .aload_n 1, 1) (List.mem_of_getElem? (i := 19) rfl)),
  List.forall_mem_cons.mpr ⟨sd_oGetRN 75 32 4 4 190 RX3 TX3 8 rfl ⟨by decide, by decide⟩ rfl (by decide) rfl (fun w h => iw_75 w (uz_3 w h)) rfl "Marginalia" (List.mem_of_getElem? (i := 9) rfl) (dk_75_0 (32, .getfield 190, 3) (List.mem_of_getElem? (i := 20) rfl)),
  List.forall_mem_cons.mpr ⟨sd_alen 75 35 10 ⟨by decide, by decide⟩ (dk_75_0 (35, .arraylength, 1) (List.mem_of_getElem? (i := 21) rfl)),
  List.forall_mem_cons.mpr ⟨sd_iadd 75 36 (dk_75_0 (36, .iadd, 1) (List.mem_of_getElem? (i := 22) rfl)),
  List.forall_mem_cons.mpr ⟨sd_callV 75 37 1 2 3 292 1 [] (gdV hws_75 hws_1 zw283 zw284 zw285 zw9 zw282) hws_1 rfl (by decide +kernel) rfl rfl ⟨by decide +kernel, by decide +kernel, by decide +kernel⟩ ⟨by decide, by decide⟩ (catch_nil rfl) RX0 rfl TX0 2 rfl ⟨by decide, by decide⟩ (dk_75_0 (37, .invokevirtual 292, 3) (List.mem_of_getElem? (i := 23) rfl)),
  List.forall_mem_cons.mpr ⟨sd_iconst 75 40 1 ⟨by decide, by decide⟩ (dk_75_0 (40, .iconst 1, 1) (List.mem_of_getElem? (i := 24) rfl)),
  List.forall_mem_cons.mpr ⟨sd_zret 75 41 rfl (dk_75_0 (41, .ireturn, 1) (List.mem_of_getElem? (i := 25) rfl)),
  fun _ h => nomatch h⟩⟩⟩⟩⟩⟩⟩⟩⟩⟩⟩⟩⟩⟩⟩⟩⟩⟩⟩⟩⟩⟩⟩⟩⟩⟩
def tb_75 : List (List (Nat × Op1)) := [tb_75_0]
theorem sm_75 : ∀ t ∈ tb_75, ∀ q ∈ t, SM GwP MdP D A l 75 q.1 q.2 := List.forall_mem_cons.mpr ⟨sm_75_0, fun _ h => nomatch h⟩
-- 76: Marginalia.placeOfQuote(LMarginalia$Strand;)I
def dl_76_0 : List (Nat × Instr × Nat) := [(0, .aload_n 1, 1), (1, .getfield 204, 3), (4, .getfield 289, 3), (7, .istore_n 2, 1), (8, .iconst 0, 1), (9, .istore_n 3, 1), (10, .iload_n 3, 1), (11, .sipush 200, 3), (14, .if_icmp .gt 51, 3), (17, .aload_n 0, 1), (18, .getfield 16, 3), (21, .iload_n 2, 1), (22, .iload_n 3, 1), (23, .isub, 1), (24, .aload_n 1, 1), (25, .getfield 190, 3), (28, .invokevirtual 300, 3), (31, .ifCond .eq 7, 3), (34, .iload_n 2, 1), (35, .iload_n 3, 1), (36, .isub, 1), (37, .ireturn, 1), (38, .aload_n 0, 1), (39, .getfield 16, 3), (42, .iload_n 2, 1), (43, .iload_n 3, 1), (44, .iadd, 1), (45, .aload_n 1, 1), (46, .getfield 190, 3), (49, .invokevirtual 300, 3), (52, .ifCond .eq 7, 3), (55, .iload_n 2, 1), (56, .iload_n 3, 1), (57, .iadd, 1), (58, .ireturn, 1), (59, .iinc 3 1, 3), (62, .goto (-52), 3), (65, .iconst (-1), 1), (66, .ireturn, 1)]
theorem dk_76_0 : ∀ q ∈ dl_76_0, decode (mCod (MdP 76)) q.1 = .ok q.2 := by
  rw [show mCod (MdP 76) = cX5_placeOfQuote from rfl]
  decide +kernel
def tb_76_0 : List (Nat × Op1) := [(0, oLdR 1 1), (1, oGetR 4 3), (4, oGetI 1 0), (7, oStI 2 1), (8, oCI 0 1), (9, oStI 3 1), (10, oLdI 3 1), (11, oCI 200 3), (14, oCgt 65), (17, oLdR 0 1), (18, oGetR 6 1), (21, oLdI 2 1), (22, oLdI 3 1), (23, oSub), (24, oLdR 1 1), (25, oGetR 4 4), (28, oCallV 29 2 4 5 []), (31, oZeq 38), (34, oLdI 2 1), (35, oLdI 3 1), (36, oSub), (37, oRetI), (38, oLdR 0 1), (39, oGetR 6 1), (42, oLdI 2 1), (43, oLdI 3 1), (44, oAdd), (45, oLdR 1 1), (46, oGetR 4 4), (49, oCallV 29 2 4 5 []), (52, oZeq 59), (55, oLdI 2 1), (56, oLdI 3 1), (57, oAdd), (58, oRetI), (59, oInc 3 1), (62, oGoto 10)]
theorem sm_76_0 : ∀ q ∈ tb_76_0, SM GwP MdP D A l 76 q.1 q.2 :=
  List.forall_mem_cons.mpr ⟨sd_oLdR_n 76 0 1 1 rfl (dk_76_0 (0, .aload_n 1, 1) (List.mem_of_getElem? (i := 0) rfl)),
  List.forall_mem_cons.mpr ⟨sd_oGetRN 76 1 4 3 204 RX3 TX3 8 rfl ⟨by decide, by decide⟩ rfl (by decide) rfl (fun w h => iw_76 w (uz_3 w h)) rfl "Marginalia" (List.mem_of_getElem? (i := 12) rfl) (dk_76_0 (1, .getfield 204, 3) (List.mem_of_getElem? (i := 1) rfl)),
  List.forall_mem_cons.mpr ⟨sd_oGetIN 76 4 1 0 289 RX0 TX0 2 rfl ⟨by decide, by decide⟩ rfl (by decide) rfl (fun w h => iw_76 w (uz_0 w h)) rfl "Marginalia" (List.mem_of_getElem? (i := 15) rfl) (dk_76_0 (4, .getfield 289, 3) (List.mem_of_getElem? (i := 2) rfl)),
  List.forall_mem_cons.mpr ⟨sd_oStI_n 76 7 2 2 rfl (by decide) (dk_76_0 (7, .istore_n 2, 1) (List.mem_of_getElem? (i := 3) rfl)),
  List.forall_mem_cons.mpr ⟨sd_iconst 76 8 0 ⟨by decide, by decide⟩ (dk_76_0 (8, .iconst 0, 1) (List.mem_of_getElem? (i := 4) rfl)),
  List.forall_mem_cons.mpr ⟨sd_oStI_n 76 9 3 3 rfl (by decide) (dk_76_0 (9, .istore_n 3, 1) (List.mem_of_getElem? (i := 5) rfl)),
  List.forall_mem_cons.mpr ⟨sd_oLdI_n 76 10 3 3 rfl (dk_76_0 (10, .iload_n 3, 1) (List.mem_of_getElem? (i := 6) rfl)),
  List.forall_mem_cons.mpr ⟨sd_sipush 76 11 200 ⟨by decide, by decide⟩ (by decide) (dk_76_0 (11, .sipush 200, 3) (List.mem_of_getElem? (i := 7) rfl)),
  List.forall_mem_cons.mpr ⟨sd_icmp_gt 76 14 51 65 (by decide) (dk_76_0 (14, .if_icmp .gt 51, 3) (List.mem_of_getElem? (i := 8) rfl)),
  List.forall_mem_cons.mpr ⟨sd_oLdR_n 76 17 0 0 rfl (dk_76_0 (17, .aload_n 0, 1) (List.mem_of_getElem? (i := 9) rfl)),
  List.forall_mem_cons.mpr ⟨sd_oGetR 76 18 6 1 16 RX5 TX5 7 rfl ⟨by decide, by decide⟩ rfl (by decide) rfl (fun w h => iw_76 w (uz_5 w h)) rfl (iw_76 _ zw81) (dk_76_0 (18, .getfield 16, 3) (List.mem_of_getElem? (i := 10) rfl)),
  List.forall_mem_cons.mpr ⟨sd_oLdI_n 76 21 2 2 rfl (dk_76_0 (21, .iload_n 2, 1) (List.mem_of_getElem? (i := 11) rfl)),
  List.forall_mem_cons.mpr ⟨sd_oLdI_n 76 22 3 3 rfl (dk_76_0 (22, .iload_n 3, 1) (List.mem_of_getElem? (i := 12) rfl)),
  List.forall_mem_cons.mpr ⟨sd_isub 76 23 (dk_76_0 (23, .isub, 1) (List.mem_of_getElem? (i := 13) rfl)),
  List.forall_mem_cons.mpr ⟨sd_oLdR_n 76 24 1 1 rfl (dk_76_0 (24, .aload_n 1, 1) (List.mem_of_getElem? (i := 14) rfl)),
  List.forall_mem_cons.mpr ⟨sd_oGetRN 76 25 4 4 190 RX3 TX3 8 rfl ⟨by decide, by decide⟩ rfl (by decide) rfl (fun w h => iw_76 w (uz_3 w h)) rfl "Marginalia" (List.mem_of_getElem? (i := 9) rfl) (dk_76_0 (25, .getfield 190, 3) (List.mem_of_getElem? (i := 15) rfl)),
  List.forall_mem_cons.mpr ⟨sd_callV 76 28 29 2 4 300 5 [] (gdV hws_76 hws_29 zw289 zw290 zw291 zw61 zw288) hws_29 rfl (by decide +kernel) rfl rfl ⟨by decide +kernel, by decide +kernel, by decide +kernel⟩ ⟨by decide, by decide⟩ (catch_nil rfl) RX4 rfl TX4 5 rfl ⟨by decide, by decide⟩ (dk_76_0 (28, .invokevirtual 300, 3) (List.mem_of_getElem? (i := 16) rfl)),
  List.forall_mem_cons.mpr ⟨sd_if_eq 76 31 7 38 (by decide) (dk_76_0 (31, .ifCond .eq 7, 3) (List.mem_of_getElem? (i := 17) rfl)),
  List.forall_mem_cons.mpr ⟨sd_oLdI_n 76 34 2 2 rfl (dk_76_0 (34, .iload_n 2, 1) (List.mem_of_getElem? (i := 18) rfl)),
  List.forall_mem_cons.mpr ⟨sd_oLdI_n 76 35 3 3 rfl (dk_76_0 (35, .iload_n 3, 1) (List.mem_of_getElem? (i := 19) rfl)),
  List.forall_mem_cons.mpr ⟨sd_isub 76 36 (dk_76_0 (36, .isub, 1) (List.mem_of_getElem? (i := 20) rfl)),
  List.forall_mem_cons.mpr ⟨sd_iret 76 37 rfl (dk_76_0 (37, .ireturn, 1) (List.mem_of_getElem? (i := 21) rfl)),
  List.forall_mem_cons.mpr ⟨sd_oLdR_n 76 38 0 0 rfl (dk_76_0 (38, .aload_n 0, 1) (List.mem_of_getElem? (i := 22) rfl)),
  List.forall_mem_cons.mpr ⟨sd_oGetR 76 39 6 1 16 RX5 TX5 7 rfl ⟨by decide, by decide⟩ rfl (by decide) rfl (fun w h => iw_76 w (uz_5 w h)) rfl (iw_76 _ zw81) (dk_76_0 (39, .getfield 16, 3) (List.mem_of_getElem? (i := 23) rfl)),
  List.forall_mem_cons.mpr ⟨sd_oLdI_n 76 42 2 2 rfl (dk_76_0 (42, .iload_n 2, 1) (List.mem_of_getElem? (i := 24) rfl)),
  List.forall_mem_cons.mpr ⟨sd_oLdI_n 76 43 3 3 rfl (dk_76_0 (43, .iload_n 3, 1) (List.mem_of_getElem? (i := 25) rfl)),
  List.forall_mem_cons.mpr ⟨sd_iadd 76 44 (dk_76_0 (44, .iadd, 1) (List.mem_of_getElem? (i := 26) rfl)),
  List.forall_mem_cons.mpr ⟨sd_oLdR_n 76 45 1 1 rfl (dk_76_0 (45, .aload_n 1, 1) (List.mem_of_getElem? (i := 27) rfl)),
  List.forall_mem_cons.mpr ⟨sd_oGetRN 76 46 4 4 190 RX3 TX3 8 rfl ⟨by decide, by decide⟩ rfl (by decide) rfl (fun w h => iw_76 w (uz_3 w h)) rfl "Marginalia" (List.mem_of_getElem? (i := 9) rfl) (dk_76_0 (46, .getfield 190, 3) (List.mem_of_getElem? (i := 28) rfl)),
  List.forall_mem_cons.mpr ⟨sd_callV 76 49 29 2 4 300 5 [] (gdV hws_76 hws_29 zw289 zw290 zw291 zw61 zw288) hws_29 rfl (by decide +kernel) rfl rfl ⟨by decide +kernel, by decide +kernel, by decide +kernel⟩ ⟨by decide, by decide⟩ (catch_nil rfl) RX4 rfl TX4 5 rfl ⟨by decide, by decide⟩ (dk_76_0 (49, .invokevirtual 300, 3) (List.mem_of_getElem? (i := 29) rfl)),
  List.forall_mem_cons.mpr ⟨sd_if_eq 76 52 7 59 (by decide) (dk_76_0 (52, .ifCond .eq 7, 3) (List.mem_of_getElem? (i := 30) rfl)),
  List.forall_mem_cons.mpr ⟨sd_oLdI_n 76 55 2 2 rfl (dk_76_0 (55, .iload_n 2, 1) (List.mem_of_getElem? (i := 31) rfl)),
  List.forall_mem_cons.mpr ⟨sd_oLdI_n 76 56 3 3 rfl (dk_76_0 (56, .iload_n 3, 1) (List.mem_of_getElem? (i := 32) rfl)),
  List.forall_mem_cons.mpr ⟨sd_iadd 76 57 (dk_76_0 (57, .iadd, 1) (List.mem_of_getElem? (i := 33) rfl)),
  List.forall_mem_cons.mpr ⟨sd_iret 76 58 rfl (dk_76_0 (58, .ireturn, 1) (List.mem_of_getElem? (i := 34) rfl)),
  List.forall_mem_cons.mpr ⟨sd_iinc 76 59 3 1 (by decide) (dk_76_0 (59, .iinc 3 1, 3) (List.mem_of_getElem? (i := 35) rfl)),
  List.forall_mem_cons.mpr ⟨sd_goto 76 62 (-52) 10 (by decide) (dk_76_0 (62, .goto (-52), 3) (List.mem_of_getElem? (i := 36) rfl)),
  fun _ h => nomatch h⟩⟩⟩⟩⟩⟩⟩⟩⟩⟩⟩⟩⟩⟩⟩⟩⟩⟩⟩⟩⟩⟩⟩⟩⟩⟩⟩⟩⟩⟩⟩⟩⟩⟩⟩⟩⟩
def tb_76_1 : List (Nat × Op1) := [(65, oCI (-1) 1), (66, oRetI)]
theorem sm_76_1 : ∀ q ∈ tb_76_1, SM GwP MdP D A l 76 q.1 q.2 :=
  List.forall_mem_cons.mpr ⟨sd_iconst 76 65 (-1) ⟨by decide, by decide⟩ (dk_76_0 (65, .iconst (-1), 1) (List.mem_of_getElem? (i := 37) rfl)),
  List.forall_mem_cons.mpr ⟨sd_iret 76 66 rfl (dk_76_0 (66, .ireturn, 1) (List.mem_of_getElem? (i := 38) rfl)),
  fun _ h => nomatch h⟩⟩
def tb_76 : List (List (Nat × Op1)) := [tb_76_0, tb_76_1]
theorem sm_76 : ∀ t ∈ tb_76, ∀ q ∈ t, SM GwP MdP D A l 76 q.1 q.2 := List.forall_mem_cons.mpr ⟨sm_76_0, List.forall_mem_cons.mpr ⟨sm_76_1, fun _ h => nomatch h⟩⟩
-- 77: Marginalia.keepNote(LMarginalia$Note;)I
def dl_77_0 : List (Nat × Instr × Nat) := [(0, .aload_n 0, 1), (1, .getfield 22, 3), (4, .aload_n 0, 1), (5, .getfield 100, 3), (8, .aload_n 1, 1), (9, .aastore, 1), (10, .aload_n 0, 1), (11, .dup, 1), (12, .getfield 100, 3), (15, .iconst 1, 1), (16, .iadd, 1), (17, .putfield 100, 3), (20, .aload_n 1, 1), (21, .getfield 163, 3), (24, .ireturn, 1)]
theorem dk_77_0 : ∀ q ∈ dl_77_0, decode (mCod (MdP 77)) q.1 = .ok q.2 := by
  rw [show mCod (MdP 77) = cX5_keepNote from rfl]
  decide +kernel
def tb_77_0 : List (Nat × Op1) := [(0, oLdR 0 1), (1, oGetR 6 2), (4, oLdR 0 1), (5, oGetI 6 6), (8, oLdR 1 1), (9, oAStR 13 3), (10, oLdR 0 1), (11, oDup), (12, oGetI 6 6), (15, oCI 1 1), (16, oAdd), (17, oPutI 6 6), (20, oLdR 1 1), (21, oGetI 3 0), (24, oRetI)]
theorem sm_77_0 : ∀ q ∈ tb_77_0, SM GwP MdP D A l 77 q.1 q.2 :=
  List.forall_mem_cons.mpr ⟨sd_oLdR_n 77 0 0 0 rfl (dk_77_0 (0, .aload_n 0, 1) (List.mem_of_getElem? (i := 0) rfl)),
  List.forall_mem_cons.mpr ⟨sd_oGetR 77 1 6 2 22 RX5 TX5 7 rfl ⟨by decide, by decide⟩ rfl (by decide) rfl (fun w h => iw_77 w (uz_5 w h)) rfl (iw_77 _ zw83) (dk_77_0 (1, .getfield 22, 3) (List.mem_of_getElem? (i := 1) rfl)),
  List.forall_mem_cons.mpr ⟨sd_oLdR_n 77 4 0 0 rfl (dk_77_0 (4, .aload_n 0, 1) (List.mem_of_getElem? (i := 2) rfl)),
  List.forall_mem_cons.mpr ⟨sd_oGetI 77 5 6 6 100 RX5 TX5 7 rfl ⟨by decide, by decide⟩ rfl (by decide) rfl (fun w h => iw_77 w (uz_5 w h)) rfl (iw_77 _ zw142) (dk_77_0 (5, .getfield 100, 3) (List.mem_of_getElem? (i := 3) rfl)),
  List.forall_mem_cons.mpr ⟨sd_oLdR_n 77 8 1 1 rfl (dk_77_0 (8, .aload_n 1, 1) (List.mem_of_getElem? (i := 4) rfl)),
  List.forall_mem_cons.mpr ⟨sd_aastN 77 9 (dk_77_0 (9, .aastore, 1) (List.mem_of_getElem? (i := 5) rfl)),
  List.forall_mem_cons.mpr ⟨sd_oLdR_n 77 10 0 0 rfl (dk_77_0 (10, .aload_n 0, 1) (List.mem_of_getElem? (i := 6) rfl)),
  List.forall_mem_cons.mpr ⟨sd_dup 77 11 (dk_77_0 (11, .dup, 1) (List.mem_of_getElem? (i := 7) rfl)),
  List.forall_mem_cons.mpr ⟨sd_oGetI 77 12 6 6 100 RX5 TX5 7 rfl ⟨by decide, by decide⟩ rfl (by decide) rfl (fun w h => iw_77 w (uz_5 w h)) rfl (iw_77 _ zw142) (dk_77_0 (12, .getfield 100, 3) (List.mem_of_getElem? (i := 8) rfl)),
  List.forall_mem_cons.mpr ⟨sd_iconst 77 15 1 ⟨by decide, by decide⟩ (dk_77_0 (15, .iconst 1, 1) (List.mem_of_getElem? (i := 9) rfl)),
  List.forall_mem_cons.mpr ⟨sd_iadd 77 16 (dk_77_0 (16, .iadd, 1) (List.mem_of_getElem? (i := 10) rfl)),
  List.forall_mem_cons.mpr ⟨sd_oPutI 77 17 6 6 100 RX5 TX5 7 rfl ⟨by decide, by decide⟩ rfl (by decide) rfl (fun w h => iw_77 w (uz_5 w h)) rfl tyX5 tyX5_ok nmX5 rfl rfl (iw_77 _ zw142) (dk_77_0 (17, .putfield 100, 3) (List.mem_of_getElem? (i := 11) rfl)),
  List.forall_mem_cons.mpr ⟨sd_oLdR_n 77 20 1 1 rfl (dk_77_0 (20, .aload_n 1, 1) (List.mem_of_getElem? (i := 12) rfl)),
  List.forall_mem_cons.mpr ⟨sd_oGetIN 77 21 3 0 163 RX2 TX2 10 rfl ⟨by decide, by decide⟩ rfl (by decide) rfl (fun w h => iw_77 w (uz_2 w h)) rfl "Marginalia" (List.mem_of_getElem? (i := 8) rfl) (dk_77_0 (21, .getfield 163, 3) (List.mem_of_getElem? (i := 13) rfl)),
  List.forall_mem_cons.mpr ⟨sd_iret 77 24 rfl (dk_77_0 (24, .ireturn, 1) (List.mem_of_getElem? (i := 14) rfl)),
  fun _ h => nomatch h⟩⟩⟩⟩⟩⟩⟩⟩⟩⟩⟩⟩⟩⟩⟩
def tb_77 : List (List (Nat × Op1)) := [tb_77_0]
theorem sm_77 : ∀ t ∈ tb_77, ∀ q ∈ t, SM GwP MdP D A l 77 q.1 q.2 := List.forall_mem_cons.mpr ⟨sm_77_0, fun _ h => nomatch h⟩
-- 78: Marginalia.headOf(LMarginalia$Note;)LMarginalia$Note;
def dl_78_0 : List (Nat × Instr × Nat) := [(0, .aload_n 0, 1), (1, .getfield 22, 3), (4, .aload_n 1, 1), (5, .getfield 135, 3), (8, .getfield 304, 3), (11, .aaload, 1), (12, .areturn, 1)]
theorem dk_78_0 : ∀ q ∈ dl_78_0, decode (mCod (MdP 78)) q.1 = .ok q.2 := by
  rw [show mCod (MdP 78) = cX5_headOf from rfl]
  decide +kernel
def tb_78_0 : List (Nat × Op1) := [(0, oLdR 0 1), (1, oGetR 6 2), (4, oLdR 1 1), (5, oGetR 3 5), (8, oGetI 4 0), (11, oALdR 13), (12, oRetR)]
theorem sm_78_0 : ∀ q ∈ tb_78_0, SM GwP MdP D A l 78 q.1 q.2 :=
  List.forall_mem_cons.mpr ⟨sd_oLdR_n 78 0 0 0 rfl (dk_78_0 (0, .aload_n 0, 1) (List.mem_of_getElem? (i := 0) rfl)),
  List.forall_mem_cons.mpr ⟨sd_oGetR 78 1 6 2 22 RX5 TX5 7 rfl ⟨by decide, by decide⟩ rfl (by decide) rfl (fun w h => iw_78 w (uz_5 w h)) rfl (iw_78 _ zw83) (dk_78_0 (1, .getfield 22, 3) (List.mem_of_getElem? (i := 1) rfl)),
  List.forall_mem_cons.mpr ⟨sd_oLdR_n 78 4 1 1 rfl (dk_78_0 (4, .aload_n 1, 1) (List.mem_of_getElem? (i := 2) rfl)),
  List.forall_mem_cons.mpr ⟨sd_oGetRN 78 5 3 5 135 RX2 TX2 10 rfl ⟨by decide, by decide⟩ rfl (by decide) rfl (fun w h => iw_78 w (uz_2 w h)) rfl "Marginalia" (List.mem_of_getElem? (i := 2) rfl) (dk_78_0 (5, .getfield 135, 3) (List.mem_of_getElem? (i := 3) rfl)),
  List.forall_mem_cons.mpr ⟨sd_oGetIN 78 8 4 0 304 RX3 TX3 8 rfl ⟨by decide, by decide⟩ rfl (by decide) rfl (fun w h => iw_78 w (uz_3 w h)) rfl "Marginalia" (List.mem_of_getElem? (i := 16) rfl) (dk_78_0 (8, .getfield 304, 3) (List.mem_of_getElem? (i := 4) rfl)),
  List.forall_mem_cons.mpr ⟨sd_aaldN 78 11 (dk_78_0 (11, .aaload, 1) (List.mem_of_getElem? (i := 5) rfl)),
  List.forall_mem_cons.mpr ⟨sd_aret 78 12 rfl (Or.inl ⟨_, rfl⟩) (dk_78_0 (12, .areturn, 1) (List.mem_of_getElem? (i := 6) rfl)),
  fun _ h => nomatch h⟩⟩⟩⟩⟩⟩⟩
def tb_78 : List (List (Nat × Op1)) := [tb_78_0]
theorem sm_78 : ∀ t ∈ tb_78, ∀ q ∈ t, SM GwP MdP D A l 78 q.1 q.2 := List.forall_mem_cons.mpr ⟨sm_78_0, fun _ h => nomatch h⟩
-- 79: Marginalia.isSeen(ILMarginalia$Note;)Z
def dl_79_0 : List (Nat × Instr × Nat) := [(0, .aload_n 2, 1), (1, .getfield 135, 3), (4, .iload_n 1, 1), (5, .aload_n 0, 1), (6, .getfield 9, 3), (9, .iload_n 1, 1), (10, .iaload, 1), (11, .invokevirtual 231, 3), (14, .ireturn, 1)]
theorem dk_79_0 : ∀ q ∈ dl_79_0, decode (mCod (MdP 79)) q.1 = .ok q.2 := by
  rw [show mCod (MdP 79) = cX5_isSeen from rfl]
  decide +kernel
def tb_79_0 : List (Nat × Op1) := [(0, oLdR 2 1), (1, oGetR 3 5), (4, oLdI 1 1), (5, oLdR 0 1), (6, oGetR 6 0), (9, oLdI 1 1), (10, oALdI 10), (11, oCallV 20 2 3 4 []), (14, oRetZ)]
theorem sm_79_0 : ∀ q ∈ tb_79_0, SM GwP MdP D A l 79 q.1 q.2 :=
  List.forall_mem_cons.mpr ⟨sd_oLdR_n 79 0 2 2 rfl (dk_79_0 (0, .aload_n 2, 1) (List.mem_of_getElem? (i := 0) rfl)),
  List.forall_mem_cons.mpr ⟨sd_oGetRN 79 1 3 5 135 RX2 TX2 10 rfl ⟨by decide, by decide⟩ rfl (by decide) rfl (fun w h => iw_79 w (uz_2 w h)) rfl "Marginalia" (List.mem_of_getElem? (i := 2) rfl) (dk_79_0 (1, .getfield 135, 3) (List.mem_of_getElem? (i := 1) rfl)),
  List.forall_mem_cons.mpr ⟨sd_oLdI_n 79 4 1 1 rfl (dk_79_0 (4, .iload_n 1, 1) (List.mem_of_getElem? (i := 2) rfl)),
  List.forall_mem_cons.mpr ⟨sd_oLdR_n 79 5 0 0 rfl (dk_79_0 (5, .aload_n 0, 1) (List.mem_of_getElem? (i := 3) rfl)),
  List.forall_mem_cons.mpr ⟨sd_oGetR 79 6 6 0 9 RX5 TX5 7 rfl ⟨by decide, by decide⟩ rfl (by decide) rfl (fun w h => iw_79 w (uz_5 w h)) rfl (iw_79 _ zw75) (dk_79_0 (6, .getfield 9, 3) (List.mem_of_getElem? (i := 4) rfl)),
  List.forall_mem_cons.mpr ⟨sd_oLdI_n 79 9 1 1 rfl (dk_79_0 (9, .iload_n 1, 1) (List.mem_of_getElem? (i := 5) rfl)),
  List.forall_mem_cons.mpr ⟨sd_iald 79 10 (dk_79_0 (10, .iaload, 1) (List.mem_of_getElem? (i := 6) rfl)),
  List.forall_mem_cons.mpr ⟨sd_callV 79 11 20 2 3 231 4 [] (gdV hws_79 hws_20 zw239 zw240 zw241 zw145 zw238) hws_20 rfl (by decide +kernel) rfl rfl ⟨by decide +kernel, by decide +kernel, by decide +kernel⟩ ⟨by decide, by decide⟩ (catch_nil rfl) RX3 rfl TX3 8 rfl ⟨by decide, by decide⟩ (dk_79_0 (11, .invokevirtual 231, 3) (List.mem_of_getElem? (i := 7) rfl)),
  List.forall_mem_cons.mpr ⟨sd_zret 79 14 rfl (dk_79_0 (14, .ireturn, 1) (List.mem_of_getElem? (i := 8) rfl)),
  fun _ h => nomatch h⟩⟩⟩⟩⟩⟩⟩⟩⟩
def tb_79 : List (List (Nat × Op1)) := [tb_79_0]
theorem sm_79 : ∀ t ∈ tb_79, ∀ q ∈ t, SM GwP MdP D A l 79 q.1 q.2 := List.forall_mem_cons.mpr ⟨sm_79_0, fun _ h => nomatch h⟩
-- 80: Marginalia.countNotes()I
def dl_80_0 : List (Nat × Instr × Nat) := [(0, .iconst 0, 1), (1, .istore_n 1, 1), (2, .iconst 0, 1), (3, .istore_n 2, 1), (4, .iload_n 2, 1), (5, .aload_n 0, 1), (6, .getfield 100, 3), (9, .if_icmp .ge 24, 3), (12, .aload_n 0, 1), (13, .getfield 22, 3), (16, .iload_n 2, 1), (17, .aaload, 1), (18, .getfield 197, 3), (21, .ifCond .ne 6, 3), (24, .iinc 1 1, 3), (27, .iinc 2 1, 3), (30, .goto (-26), 3), (33, .iload_n 1, 1), (34, .ireturn, 1)]
theorem dk_80_0 : ∀ q ∈ dl_80_0, decode (mCod (MdP 80)) q.1 = .ok q.2 := by
  rw [show mCod (MdP 80) = cX5_countNotes from rfl]
  decide +kernel
def tb_80_0 : List (Nat × Op1) := [(0, oCI 0 1), (1, oStI 1 1), (2, oCI 0 1), (3, oStI 2 1), (4, oLdI 2 1), (5, oLdR 0 1), (6, oGetI 6 6), (9, oCge 33), (12, oLdR 0 1), (13, oGetR 6 2), (16, oLdI 2 1), (17, oALdR 13), (18, oGetI 3 9), (21, oZne 27), (24, oInc 1 1), (27, oInc 2 1), (30, oGoto 4), (33, oLdI 1 1), (34, oRetI)]
theorem sm_80_0 : ∀ q ∈ tb_80_0, SM GwP MdP D A l 80 q.1 q.2 :=
  List.forall_mem_cons.mpr ⟨sd_iconst 80 0 0 ⟨by decide, by decide⟩ (dk_80_0 (0, .iconst 0, 1) (List.mem_of_getElem? (i := 0) rfl)),
  List.forall_mem_cons.mpr ⟨sd_oStI_n 80 1 1 1 rfl (by decide) (dk_80_0 (1, .istore_n 1, 1) (List.mem_of_getElem? (i := 1) rfl)),
  List.forall_mem_cons.mpr ⟨sd_iconst 80 2 0 ⟨by decide, by decide⟩ (dk_80_0 (2, .iconst 0, 1) (List.mem_of_getElem? (i := 2) rfl)),
  List.forall_mem_cons.mpr ⟨sd_oStI_n 80 3 2 2 rfl (by decide) (dk_80_0 (3, .istore_n 2, 1) (List.mem_of_getElem? (i := 3) rfl)),
  List.forall_mem_cons.mpr ⟨sd_oLdI_n 80 4 2 2 rfl (dk_80_0 (4, .iload_n 2, 1) (List.mem_of_getElem? (i := 4) rfl)),
  List.forall_mem_cons.mpr ⟨sd_oLdR_n 80 5 0 0 rfl (dk_80_0 (5, .aload_n 0, 1) (List.mem_of_getElem? (i := 5) rfl)),
  List.forall_mem_cons.mpr ⟨sd_oGetI 80 6 6 6 100 RX5 TX5 7 rfl ⟨by decide, by decide⟩ rfl (by decide) rfl (fun w h => iw_80 w (uz_5 w h)) rfl (iw_80 _ zw142) (dk_80_0 (6, .getfield 100, 3) (List.mem_of_getElem? (i := 6) rfl)),
  List.forall_mem_cons.mpr ⟨sd_icmp_ge 80 9 24 33 (by decide) (dk_80_0 (9, .if_icmp .ge 24, 3) (List.mem_of_getElem? (i := 7) rfl)),
  List.forall_mem_cons.mpr ⟨sd_oLdR_n 80 12 0 0 rfl (dk_80_0 (12, .aload_n 0, 1) (List.mem_of_getElem? (i := 8) rfl)),
  List.forall_mem_cons.mpr ⟨sd_oGetR 80 13 6 2 22 RX5 TX5 7 rfl ⟨by decide, by decide⟩ rfl (by decide) rfl (fun w h => iw_80 w (uz_5 w h)) rfl (iw_80 _ zw83) (dk_80_0 (13, .getfield 22, 3) (List.mem_of_getElem? (i := 9) rfl)),
  List.forall_mem_cons.mpr ⟨sd_oLdI_n 80 16 2 2 rfl (dk_80_0 (16, .iload_n 2, 1) (List.mem_of_getElem? (i := 10) rfl)),
  List.forall_mem_cons.mpr ⟨sd_aaldN 80 17 (dk_80_0 (17, .aaload, 1) (List.mem_of_getElem? (i := 11) rfl)),
  List.forall_mem_cons.mpr ⟨sd_oGetIN 80 18 3 9 197 RX2 TX2 10 rfl ⟨by decide, by decide⟩ rfl (by decide) rfl (fun w h => iw_80 w (uz_2 w h)) rfl "Marginalia" (List.mem_of_getElem? (i := 10) rfl) (dk_80_0 (18, .getfield 197, 3) (List.mem_of_getElem? (i := 12) rfl)),
  List.forall_mem_cons.mpr ⟨sd_if_ne 80 21 6 27 (by decide) (dk_80_0 (21, .ifCond .ne 6, 3) (List.mem_of_getElem? (i := 13) rfl)),
  List.forall_mem_cons.mpr ⟨sd_iinc 80 24 1 1 (by decide) (dk_80_0 (24, .iinc 1 1, 3) (List.mem_of_getElem? (i := 14) rfl)),
  List.forall_mem_cons.mpr ⟨sd_iinc 80 27 2 1 (by decide) (dk_80_0 (27, .iinc 2 1, 3) (List.mem_of_getElem? (i := 15) rfl)),
  List.forall_mem_cons.mpr ⟨sd_goto 80 30 (-26) 4 (by decide) (dk_80_0 (30, .goto (-26), 3) (List.mem_of_getElem? (i := 16) rfl)),
  List.forall_mem_cons.mpr ⟨sd_oLdI_n 80 33 1 1 rfl (dk_80_0 (33, .iload_n 1, 1) (List.mem_of_getElem? (i := 17) rfl)),
  List.forall_mem_cons.mpr ⟨sd_iret 80 34 rfl (dk_80_0 (34, .ireturn, 1) (List.mem_of_getElem? (i := 18) rfl)),
  fun _ h => nomatch h⟩⟩⟩⟩⟩⟩⟩⟩⟩⟩⟩⟩⟩⟩⟩⟩⟩⟩⟩
def tb_80 : List (List (Nat × Op1)) := [tb_80_0]
theorem sm_80 : ∀ t ∈ tb_80, ∀ q ∈ t, SM GwP MdP D A l 80 q.1 q.2 := List.forall_mem_cons.mpr ⟨sm_80_0, fun _ h => nomatch h⟩
-- 81: Marginalia.countStrands(I)I
def dl_81_0 : List (Nat × Instr × Nat) := [(0, .iconst 0, 1), (1, .istore_n 2, 1), (2, .iconst 0, 1), (3, .istore_n 3, 1), (4, .iload_n 3, 1), (5, .aload_n 0, 1), (6, .getfield 100, 3), (9, .if_icmp .ge 40, 3), (12, .aload_n 0, 1), (13, .getfield 22, 3), (16, .iload_n 3, 1), (17, .aaload, 1), (18, .invokevirtual 174, 3), (21, .ifCond .eq 22, 3), (24, .aload_n 0, 1), (25, .getfield 22, 3), (28, .iload_n 3, 1), (29, .aaload, 1), (30, .getfield 135, 3), (33, .iload_n 1, 1), (34, .invokevirtual 307, 3), (37, .ifCond .eq 6, 3), (40, .iinc 2 1, 3), (43, .iinc 3 1, 3), (46, .goto (-42), 3), (49, .iload_n 2, 1), (50, .ireturn, 1)]
theorem dk_81_0 : ∀ q ∈ dl_81_0, decode (mCod (MdP 81)) q.1 = .ok q.2 := by
  rw [show mCod (MdP 81) = cX5_countStrands from rfl]
  decide +kernel
def tb_81_0 : List (Nat × Op1) := [(0, oCI 0 1), (1, oStI 2 1), (2, oCI 0 1), (3, oStI 3 1), (4, oLdI 3 1), (5, oLdR 0 1), (6, oGetI 6 6), (9, oCge 49), (12, oLdR 0 1), (13, oGetR 6 2), (16, oLdI 3 1), (17, oALdR 13), (18, oCallV 14 0 1 3 []), (21, oZeq 43), (24, oLdR 0 1), (25, oGetR 6 2), (28, oLdI 3 1), (29, oALdR 13), (30, oGetR 3 5), (33, oLdI 1 1), (34, oCallV 21 1 2 4 []), (37, oZeq 43), (40, oInc 2 1), (43, oInc 3 1), (46, oGoto 4), (49, oLdI 2 1), (50, oRetI)]
theorem sm_81_0 : ∀ q ∈ tb_81_0, SM GwP MdP D A l 81 q.1 q.2 :=
  List.forall_mem_cons.mpr ⟨sd_iconst 81 0 0 ⟨by decide, by decide⟩ (dk_81_0 (0, .iconst 0, 1) (List.mem_of_getElem? (i := 0) rfl)),
  List.forall_mem_cons.mpr ⟨sd_oStI_n 81 1 2 2 rfl (by decide) (dk_81_0 (1, .istore_n 2, 1) (List.mem_of_getElem? (i := 1) rfl)),
  List.forall_mem_cons.mpr ⟨sd_iconst 81 2 0 ⟨by decide, by decide⟩ (dk_81_0 (2, .iconst 0, 1) (List.mem_of_getElem? (i := 2) rfl)),
  List.forall_mem_cons.mpr ⟨sd_oStI_n 81 3 3 3 rfl (by decide) (dk_81_0 (3, .istore_n 3, 1) (List.mem_of_getElem? (i := 3) rfl)),
  List.forall_mem_cons.mpr ⟨sd_oLdI_n 81 4 3 3 rfl (dk_81_0 (4, .iload_n 3, 1) (List.mem_of_getElem? (i := 4) rfl)),
  List.forall_mem_cons.mpr ⟨sd_oLdR_n 81 5 0 0 rfl (dk_81_0 (5, .aload_n 0, 1) (List.mem_of_getElem? (i := 5) rfl)),
  List.forall_mem_cons.mpr ⟨sd_oGetI 81 6 6 6 100 RX5 TX5 7 rfl ⟨by decide, by decide⟩ rfl (by decide) rfl (fun w h => iw_81 w (uz_5 w h)) rfl (iw_81 _ zw142) (dk_81_0 (6, .getfield 100, 3) (List.mem_of_getElem? (i := 6) rfl)),
  List.forall_mem_cons.mpr ⟨sd_icmp_ge 81 9 40 49 (by decide) (dk_81_0 (9, .if_icmp .ge 40, 3) (List.mem_of_getElem? (i := 7) rfl)),
  List.forall_mem_cons.mpr ⟨sd_oLdR_n 81 12 0 0 rfl (dk_81_0 (12, .aload_n 0, 1) (List.mem_of_getElem? (i := 8) rfl)),
  List.forall_mem_cons.mpr ⟨sd_oGetR 81 13 6 2 22 RX5 TX5 7 rfl ⟨by decide, by decide⟩ rfl (by decide) rfl (fun w h => iw_81 w (uz_5 w h)) rfl (iw_81 _ zw83) (dk_81_0 (13, .getfield 22, 3) (List.mem_of_getElem? (i := 9) rfl)),
  List.forall_mem_cons.mpr ⟨sd_oLdI_n 81 16 3 3 rfl (dk_81_0 (16, .iload_n 3, 1) (List.mem_of_getElem? (i := 10) rfl)),
  List.forall_mem_cons.mpr ⟨sd_aaldN 81 17 (dk_81_0 (17, .aaload, 1) (List.mem_of_getElem? (i := 11) rfl)),
  List.forall_mem_cons.mpr ⟨sd_callV 81 18 14 0 1 174 3 [] (gdV hws_81 hws_14 zw195 zw196 zw197 zw29 zw194) hws_14 rfl (by decide +kernel) rfl rfl ⟨by decide +kernel, by decide +kernel, by decide +kernel⟩ ⟨by decide, by decide⟩ (catch_nil rfl) RX2 rfl TX2 10 rfl ⟨by decide, by decide⟩ (dk_81_0 (18, .invokevirtual 174, 3) (List.mem_of_getElem? (i := 12) rfl)),
  List.forall_mem_cons.mpr ⟨sd_if_eq 81 21 22 43 (by decide) (dk_81_0 (21, .ifCond .eq 22, 3) (List.mem_of_getElem? (i := 13) rfl)),
  List.forall_mem_cons.mpr ⟨sd_oLdR_n 81 24 0 0 rfl (dk_81_0 (24, .aload_n 0, 1) (List.mem_of_getElem? (i := 14) rfl)),
  List.forall_mem_cons.mpr ⟨sd_oGetR 81 25 6 2 22 RX5 TX5 7 rfl ⟨by decide, by decide⟩ rfl (by decide) rfl (fun w h => iw_81 w (uz_5 w h)) rfl (iw_81 _ zw83) (dk_81_0 (25, .getfield 22, 3) (List.mem_of_getElem? (i := 15) rfl)),
  List.forall_mem_cons.mpr ⟨sd_oLdI_n 81 28 3 3 rfl (dk_81_0 (28, .iload_n 3, 1) (List.mem_of_getElem? (i := 16) rfl)),
  List.forall_mem_cons.mpr ⟨sd_aaldN 81 29 (dk_81_0 (29, .aaload, 1) (List.mem_of_getElem? (i := 17) rfl)),
  List.forall_mem_cons.mpr ⟨sd_oGetRN 81 30 3 5 135 RX2 TX2 10 rfl ⟨by decide, by decide⟩ rfl (by decide) rfl (fun w h => iw_81 w (uz_2 w h)) rfl "Marginalia" (List.mem_of_getElem? (i := 2) rfl) (dk_81_0 (30, .getfield 135, 3) (List.mem_of_getElem? (i := 18) rfl)),
  List.forall_mem_cons.mpr ⟨sd_oLdI_n 81 33 1 1 rfl (dk_81_0 (33, .iload_n 1, 1) (List.mem_of_getElem? (i := 19) rfl)),
  List.forall_mem_cons.mpr ⟨sd_callV 81 34 21 1 2 307 4 [] (gdV hws_81 hws_21 zw293 zw294 zw295 zw145 zw292) hws_21 rfl (by decide +kernel) rfl rfl ⟨by decide +kernel, by decide +kernel, by decide +kernel⟩ ⟨by decide, by decide⟩ (catch_nil rfl) RX3 rfl TX3 8 rfl ⟨by decide, by decide⟩ (dk_81_0 (34, .invokevirtual 307, 3) (List.mem_of_getElem? (i := 20) rfl)),
  List.forall_mem_cons.mpr ⟨sd_if_eq 81 37 6 43 (by decide) (dk_81_0 (37, .ifCond .eq 6, 3) (List.mem_of_getElem? (i := 21) rfl)),
  List.forall_mem_cons.mpr ⟨sd_iinc 81 40 2 1 (by decide) (dk_81_0 (40, .iinc 2 1, 3) (List.mem_of_getElem? (i := 22) rfl)),
  List.forall_mem_cons.mpr ⟨sd_iinc 81 43 3 1 (by decide) (dk_81_0 (43, .iinc 3 1, 3) (List.mem_of_getElem? (i := 23) rfl)),
  List.forall_mem_cons.mpr ⟨sd_goto 81 46 (-42) 4 (by decide) (dk_81_0 (46, .goto (-42), 3) (List.mem_of_getElem? (i := 24) rfl)),
  List.forall_mem_cons.mpr ⟨sd_oLdI_n 81 49 2 2 rfl (dk_81_0 (49, .iload_n 2, 1) (List.mem_of_getElem? (i := 25) rfl)),
  List.forall_mem_cons.mpr ⟨sd_iret 81 50 rfl (dk_81_0 (50, .ireturn, 1) (List.mem_of_getElem? (i := 26) rfl)),
  fun _ h => nomatch h⟩⟩⟩⟩⟩⟩⟩⟩⟩⟩⟩⟩⟩⟩⟩⟩⟩⟩⟩⟩⟩⟩⟩⟩⟩⟩⟩
def tb_81 : List (List (Nat × Op1)) := [tb_81_0]
theorem sm_81 : ∀ t ∈ tb_81, ∀ q ∈ t, SM GwP MdP D A l 81 q.1 q.2 := List.forall_mem_cons.mpr ⟨sm_81_0, fun _ h => nomatch h⟩
-- 82: Marginalia.chooseHeads(IZ)I
def dl_82_0 : List (Nat × Instr × Nat) := [(0, .iconst 0, 1), (1, .istore_n 3, 1), (2, .iconst 0, 1), (3, .istore 4, 2), (5, .iload 4, 2), (7, .aload_n 0, 1), (8, .getfield 100, 3), (11, .if_icmp .ge 61, 3), (14, .aload_n 0, 1), (15, .getfield 22, 3), (18, .iload 4, 2), (20, .aaload, 1), (21, .astore 5, 2), (23, .aload 5, 2), (25, .invokevirtual 174, 3), (28, .ifCond .eq 38, 3), (31, .aload_n 0, 1), (32, .iload_n 1, 1), (33, .aload 5, 2), (35, .invokevirtual 127, 3), (38, .ifCond .eq 28, 3), (41, .iload_n 2, 1), (42, .ifCond .ne 14, 3), (45, .aload 5, 2), (47, .getfield 135, 3), (50, .getfield 143, 3), (53, .ifCond .ne 13, 3), (56, .aload_n 0, 1), (57, .aload 5, 2), (59, .iload_n 3, 1), (60, .invokevirtual 310, 3), (63, .iinc 3 1, 3), (66, .iinc 4 1, 3), (69, .goto (-64), 3), (72, .iload_n 3, 1), (73, .ireturn, 1)]
theorem dk_82_0 : ∀ q ∈ dl_82_0, decode (mCod (MdP 82)) q.1 = .ok q.2 := by
  rw [show mCod (MdP 82) = cX5_chooseHeads from rfl]
  decide +kernel
def tb_82_0 : List (Nat × Op1) := [(0, oCI 0 1), (1, oStI 3 1), (2, oCI 0 1), (3, oStI 4 2), (5, oLdI 4 2), (7, oLdR 0 1), (8, oGetI 6 6), (11, oCge 72), (14, oLdR 0 1), (15, oGetR 6 2), (18, oLdI 4 2), (20, oALdR 13), (21, oStR 5 2), (23, oLdR 5 2), (25, oCallV 14 0 1 3 []), (28, oZeq 66), (31, oLdR 0 1), (32, oLdI 1 1), (33, oLdR 5 2), (35, oCallV 79 2 3 6 []), (38, oZeq 66), (41, oLdI 2 1), (42, oZne 56), (45, oLdR 5 2), (47, oGetR 3 5), (50, oGetI 4 5), (53, oZne 66), (56, oLdR 0 1), (57, oLdR 5 2), (59, oLdI 3 1), (60, oCallV 83 2 4 6 []), (63, oInc 3 1)]
theorem sm_82_0 : ∀ q ∈ tb_82_0, SM GwP MdP D A l 82 q.1 q.2 :=
  List.forall_mem_cons.mpr ⟨sd_iconst 82 0 0 ⟨by decide, by decide⟩ (dk_82_0 (0, .iconst 0, 1) (List.mem_of_getElem? (i := 0) rfl)),
  List.forall_mem_cons.mpr ⟨sd_oStI_n 82 1 3 3 rfl (by decide) (dk_82_0 (1, .istore_n 3, 1) (List.mem_of_getElem? (i := 1) rfl)),
  List.forall_mem_cons.mpr ⟨sd_iconst 82 2 0 ⟨by decide, by decide⟩ (dk_82_0 (2, .iconst 0, 1) (List.mem_of_getElem? (i := 2) rfl)),
  List.forall_mem_cons.mpr ⟨sd_oStI 82 3 4 (by decide) (dk_82_0 (3, .istore 4, 2) (List.mem_of_getElem? (i := 3) rfl)),
  List.forall_mem_cons.mpr ⟨sd_oLdI 82 5 4 (dk_82_0 (5, .iload 4, 2) (List.mem_of_getElem? (i := 4) rfl)),
  List.forall_mem_cons.mpr ⟨sd_oLdR_n 82 7 0 0 rfl (dk_82_0 (7, .aload_n 0, 1) (List.mem_of_getElem? (i := 5) rfl)),
  List.forall_mem_cons.mpr ⟨sd_oGetI 82 8 6 6 100 RX5 TX5 7 rfl ⟨by decide, by decide⟩ rfl (by decide) rfl (fun w h => iw_82 w (uz_5 w h)) rfl (iw_82 _ zw142) (dk_82_0 (8, .getfield 100, 3) (List.mem_of_getElem? (i := 6) rfl)),
  List.forall_mem_cons.mpr ⟨sd_icmp_ge 82 11 61 72 (by decide) (dk_82_0 (11, .if_icmp .ge 61, 3) (List.mem_of_getElem? (i := 7) rfl)),
  List.forall_mem_cons.mpr ⟨sd_oLdR_n 82 14 0 0 rfl (dk_82_0 (14, .aload_n 0, 1) (List.mem_of_getElem? (i := 8) rfl)),
  List.forall_mem_cons.mpr ⟨sd_oGetR 82 15 6 2 22 RX5 TX5 7 rfl ⟨by decide, by decide⟩ rfl (by decide) rfl (fun w h => iw_82 w (uz_5 w h)) rfl (iw_82 _ zw83) (dk_82_0 (15, .getfield 22, 3) (List.mem_of_getElem? (i := 9) rfl)),
  List.forall_mem_cons.mpr ⟨sd_oLdI 82 18 4 (dk_82_0 (18, .iload 4, 2) (List.mem_of_getElem? (i := 10) rfl)),
  List.forall_mem_cons.mpr ⟨sd_aaldN 82 20 (dk_82_0 (20, .aaload, 1) (List.mem_of_getElem? (i := 11) rfl)),
  List.forall_mem_cons.mpr ⟨sd_oStR 82 21 5 (by decide) (dk_82_0 (21, .astore 5, 2) (List.mem_of_getElem? (i := 12) rfl)),
  List.forall_mem_cons.mpr ⟨sd_oLdR 82 23 5 (dk_82_0 (23, .aload 5, 2) (List.mem_of_getElem? (i := 13) rfl)),
  List.forall_mem_cons.mpr ⟨sd_callV 82 25 14 0 1 174 3 [] (gdV hws_82 hws_14 zw195 zw196 zw197 zw29 zw194) hws_14 rfl (by decide +kernel) rfl rfl ⟨by decide +kernel, by decide +kernel, by decide +kernel⟩ ⟨by decide, by decide⟩ (catch_nil rfl) RX2 rfl TX2 10 rfl ⟨by decide, by decide⟩ (dk_82_0 (25, .invokevirtual 174, 3) (List.mem_of_getElem? (i := 14) rfl)),
  List.forall_mem_cons.mpr ⟨sd_if_eq 82 28 38 66 (by decide) (dk_82_0 (28, .ifCond .eq 38, 3) (List.mem_of_getElem? (i := 15) rfl)),
  List.forall_mem_cons.mpr ⟨sd_oLdR_n 82 31 0 0 rfl (dk_82_0 (31, .aload_n 0, 1) (List.mem_of_getElem? (i := 16) rfl)),
  List.forall_mem_cons.mpr ⟨sd_oLdI_n 82 32 1 1 rfl (dk_82_0 (32, .iload_n 1, 1) (List.mem_of_getElem? (i := 17) rfl)),
  List.forall_mem_cons.mpr ⟨sd_oLdR 82 33 5 (dk_82_0 (33, .aload 5, 2) (List.mem_of_getElem? (i := 18) rfl)),
  List.forall_mem_cons.mpr ⟨sd_callV 82 35 79 2 3 127 6 [] (gdV hws_82 hws_79 zw171 zw172 zw173 zw63 zw170) hws_79 rfl (by decide +kernel) rfl rfl ⟨by decide +kernel, by decide +kernel, by decide +kernel⟩ ⟨by decide, by decide⟩ (catch_nil rfl) RX5 rfl TX5 7 rfl ⟨by decide, by decide⟩ (dk_82_0 (35, .invokevirtual 127, 3) (List.mem_of_getElem? (i := 19) rfl)),
  List.forall_mem_cons.mpr ⟨sd_if_eq 82 38 28 66 (by decide) (dk_82_0 (38, .ifCond .eq 28, 3) (List.mem_of_getElem? (i := 20) rfl)),
  List.forall_mem_cons.mpr ⟨sd_oLdI_n 82 41 2 2 rfl (dk_82_0 (41, .iload_n 2, 1) (List.mem_of_getElem? (i := 21) rfl)),
  List.forall_mem_cons.mpr ⟨sd_if_ne 82 42 14 56 (by decide) (dk_82_0 (42, .ifCond .ne 14, 3) (List.mem_of_getElem? (i := 22) rfl)),
  List.forall_mem_cons.mpr ⟨sd_oLdR 82 45 5 (dk_82_0 (45, .aload 5, 2) (List.mem_of_getElem? (i := 23) rfl)),
  List.forall_mem_cons.mpr ⟨sd_oGetRN 82 47 3 5 135 RX2 TX2 10 rfl ⟨by decide, by decide⟩ rfl (by decide) rfl (fun w h => iw_82 w (uz_2 w h)) rfl "Marginalia" (List.mem_of_getElem? (i := 2) rfl) (dk_82_0 (47, .getfield 135, 3) (List.mem_of_getElem? (i := 24) rfl)),
  List.forall_mem_cons.mpr ⟨sd_oGetIN 82 50 4 5 143 RX3 TX3 8 rfl ⟨by decide, by decide⟩ rfl (by decide) rfl (fun w h => iw_82 w (uz_3 w h)) rfl "Marginalia" (List.mem_of_getElem? (i := 3) rfl) (dk_82_0 (50, .getfield 143, 3) (List.mem_of_getElem? (i := 25) rfl)),
  List.forall_mem_cons.mpr ⟨sd_if_ne 82 53 13 66 (by decide) (dk_82_0 (53, .ifCond .ne 13, 3) (List.mem_of_getElem? (i := 26) rfl)),
  List.forall_mem_cons.mpr ⟨sd_oLdR_n 82 56 0 0 rfl (dk_82_0 (56, .aload_n 0, 1) (List.mem_of_getElem? (i := 27) rfl)),
  List.forall_mem_cons.mpr ⟨sd_oLdR 82 57 5 (dk_82_0 (57, .aload 5, 2) (List.mem_of_getElem? (i := 28) rfl)),
  List.forall_mem_cons.mpr ⟨sd_oLdI_n 82 59 3 3 rfl (dk_82_0 (59, .iload_n 3, 1) (List.mem_of_getElem? (i := 29) rfl)),
  List.forall_mem_cons.mpr ⟨sd_callV 82 60 83 2 4 310 6 [] (gdV hws_82 hws_83 zw297 zw298 zw299 zw63 zw296) hws_83 rfl (by decide +kernel) rfl rfl ⟨by decide +kernel, by decide +kernel, by decide +kernel⟩ ⟨by decide, by decide⟩ (catch_nil rfl) RX5 rfl TX5 7 rfl ⟨by decide, by decide⟩ (dk_82_0 (60, .invokevirtual 310, 3) (List.mem_of_getElem? (i := 30) rfl)),
  List.forall_mem_cons.mpr ⟨sd_iinc 82 63 3 1 (by decide) (dk_82_0 (63, .iinc 3 1, 3) (List.mem_of_getElem? (i := 31) rfl)),
  fun _ h => nomatch h⟩⟩⟩⟩⟩⟩⟩⟩⟩⟩⟩⟩⟩⟩⟩⟩⟩⟩⟩⟩⟩⟩⟩⟩⟩⟩⟩⟩⟩⟩⟩⟩
def tb_82_1 : List (Nat × Op1) := [(66, oInc 4 1), (69, oGoto 5), (72, oLdI 3 1), (73, oRetI)]
theorem sm_82_1 : ∀ q ∈ tb_82_1, SM GwP MdP D A l 82 q.1 q.2 :=
  List.forall_mem_cons.mpr ⟨sd_iinc 82 66 4 1 (by decide) (dk_82_0 (66, .iinc 4 1, 3) (List.mem_of_getElem? (i := 32) rfl)),
  List.forall_mem_cons.mpr ⟨sd_goto 82 69 (-64) 5 (by decide) (dk_82_0 (69, .goto (-64), 3) (List.mem_of_getElem? (i := 33) rfl)),
  List.forall_mem_cons.mpr ⟨sd_oLdI_n 82 72 3 3 rfl (dk_82_0 (72, .iload_n 3, 1) (List.mem_of_getElem? (i := 34) rfl)),
  List.forall_mem_cons.mpr ⟨sd_iret 82 73 rfl (dk_82_0 (73, .ireturn, 1) (List.mem_of_getElem? (i := 35) rfl)),
  fun _ h => nomatch h⟩⟩⟩⟩
def tb_82 : List (List (Nat × Op1)) := [tb_82_0, tb_82_1]
theorem sm_82 : ∀ t ∈ tb_82, ∀ q ∈ t, SM GwP MdP D A l 82 q.1 q.2 := List.forall_mem_cons.mpr ⟨sm_82_0, List.forall_mem_cons.mpr ⟨sm_82_1, fun _ h => nomatch h⟩⟩
-- 83: Marginalia.putAmongChosen(LMarginalia$Note;I)V
def dl_83_0 : List (Nat × Instr × Nat) := [(0, .iload_n 2, 1), (1, .istore_n 3, 1), (2, .iload_n 3, 1), (3, .ifCond .le 50, 3), (6, .aload_n 1, 1), (7, .getfield 135, 3), (10, .getfield 204, 3), (13, .aload_n 0, 1), (14, .getfield 26, 3), (17, .iload_n 3, 1), (18, .iconst 1, 1), (19, .isub, 1), (20, .aaload, 1), (21, .getfield 135, 3), (24, .getfield 204, 3), (27, .invokevirtual 314, 3), (30, .ifCond .eq 23, 3), (33, .aload_n 0, 1), (34, .getfield 26, 3), (37, .iload_n 3, 1), (38, .aload_n 0, 1), (39, .getfield 26, 3), (42, .iload_n 3, 1), (43, .iconst 1, 1), (44, .isub, 1), (45, .aaload, 1), (46, .aastore, 1), (47, .iinc 3 (-1), 3), (50, .goto (-48), 3), (53, .aload_n 0, 1), (54, .getfield 26, 3), (57, .iload_n 3, 1), (58, .aload_n 1, 1), (59, .aastore, 1), (60, .return_, 1)]
theorem dk_83_0 : ∀ q ∈ dl_83_0, decode (mCod (MdP 83)) q.1 = .ok q.2 := by
  rw [show mCod (MdP 83) = cX5_putAmongChosen from rfl]
  decide +kernel
def tb_83_0 : List (Nat × Op1) := [(0, oLdI 2 1), (1, oStI 3 1), (2, oLdI 3 1), (3, oZle 53), (6, oLdR 1 1), (7, oGetR 3 5), (10, oGetR 4 3), (13, oLdR 0 1), (14, oGetR 6 3), (17, oLdI 3 1), (18, oCI 1 1), (19, oSub), (20, oALdR 13), (21, oGetR 3 5), (24, oGetR 4 3), (27, oCallV 5 1 2 1 []), (30, oZeq 53), (33, oLdR 0 1), (34, oGetR 6 3), (37, oLdI 3 1), (38, oLdR 0 1), (39, oGetR 6 3), (42, oLdI 3 1), (43, oCI 1 1), (44, oSub), (45, oALdR 13), (46, oAStR 13 3), (47, oInc 3 (-1)), (50, oGoto 2), (53, oLdR 0 1), (54, oGetR 6 3), (57, oLdI 3 1), (58, oLdR 1 1), (59, oAStR 13 3), (60, oRetV)]
theorem sm_83_0 : ∀ q ∈ tb_83_0, SM GwP MdP D A l 83 q.1 q.2 :=
  List.forall_mem_cons.mpr ⟨sd_oLdI_n 83 0 2 2 rfl (dk_83_0 (0, .iload_n 2, 1) (List.mem_of_getElem? (i := 0) rfl)),
  List.forall_mem_cons.mpr ⟨sd_oStI_n 83 1 3 3 rfl (by decide) (dk_83_0 (1, .istore_n 3, 1) (List.mem_of_getElem? (i := 1) rfl)),
  List.forall_mem_cons.mpr ⟨sd_oLdI_n 83 2 3 3 rfl (dk_83_0 (2, .iload_n 3, 1) (List.mem_of_getElem? (i := 2) rfl)),
  List.forall_mem_cons.mpr ⟨sd_if_le 83 3 50 53 (by decide) (dk_83_0 (3, .ifCond .le 50, 3) (List.mem_of_getElem? (i := 3) rfl)),
  List.forall_mem_cons.mpr ⟨sd_oLdR_n 83 6 1 1 rfl (dk_83_0 (6, .aload_n 1, 1) (List.mem_of_getElem? (i := 4) rfl)),
  List.forall_mem_cons.mpr ⟨sd_oGetRN 83 7 3 5 135 RX2 TX2 10 rfl ⟨by decide, by decide⟩ rfl (by decide) rfl (fun w h => iw_83 w (uz_2 w h)) rfl "Marginalia" (List.mem_of_getElem? (i := 2) rfl) (dk_83_0 (7, .getfield 135, 3) (List.mem_of_getElem? (i := 5) rfl)),
  List.forall_mem_cons.mpr ⟨sd_oGetRN 83 10 4 3 204 RX3 TX3 8 rfl ⟨by decide, by decide⟩ rfl (by decide) rfl (fun w h => iw_83 w (uz_3 w h)) rfl "Marginalia" (List.mem_of_getElem? (i := 12) rfl) (dk_83_0 (10, .getfield 204, 3) (List.mem_of_getElem? (i := 6) rfl)),
  List.forall_mem_cons.mpr ⟨sd_oLdR_n 83 13 0 0 rfl (dk_83_0 (13, .aload_n 0, 1) (List.mem_of_getElem? (i := 7) rfl)),
  List.forall_mem_cons.mpr ⟨sd_oGetR 83 14 6 3 26 RX5 TX5 7 rfl ⟨by decide, by decide⟩ rfl (by decide) rfl (fun w h => iw_83 w (uz_5 w h)) rfl (iw_83 _ zw84) (dk_83_0 (14, .getfield 26, 3) (List.mem_of_getElem? (i := 8) rfl)),
  List.forall_mem_cons.mpr ⟨sd_oLdI_n 83 17 3 3 rfl (dk_83_0 (17, .iload_n 3, 1) (List.mem_of_getElem? (i := 9) rfl)),
  List.forall_mem_cons.mpr ⟨sd_iconst 83 18 1 ⟨by decide, by decide⟩ (dk_83_0 (18, .iconst 1, 1) (List.mem_of_getElem? (i := 10) rfl)),
  List.forall_mem_cons.mpr ⟨sd_isub 83 19 (dk_83_0 (19, .isub, 1) (List.mem_of_getElem? (i := 11) rfl)),
  List.forall_mem_cons.mpr ⟨sd_aaldN 83 20 (dk_83_0 (20, .aaload, 1) (List.mem_of_getElem? (i := 12) rfl)),
  List.forall_mem_cons.mpr ⟨sd_oGetRN 83 21 3 5 135 RX2 TX2 10 rfl ⟨by decide, by decide⟩ rfl (by decide) rfl (fun w h => iw_83 w (uz_2 w h)) rfl "Marginalia" (List.mem_of_getElem? (i := 2) rfl) (dk_83_0 (21, .getfield 135, 3) (List.mem_of_getElem? (i := 13) rfl)),
  List.forall_mem_cons.mpr ⟨sd_oGetRN 83 24 4 3 204 RX3 TX3 8 rfl ⟨by decide, by decide⟩ rfl (by decide) rfl (fun w h => iw_83 w (uz_3 w h)) rfl "Marginalia" (List.mem_of_getElem? (i := 12) rfl) (dk_83_0 (24, .getfield 204, 3) (List.mem_of_getElem? (i := 14) rfl)),
  List.forall_mem_cons.mpr ⟨sd_callV 83 27 5 1 2 314 1 [] (gdV hws_83 hws_5 zw301 zw302 zw303 zw9 zw300) hws_5 rfl (by decide +kernel) rfl rfl ⟨by decide +kernel, by decide +kernel, by decide +kernel⟩ ⟨by decide, by decide⟩ (catch_nil rfl) RX0 rfl TX0 2 rfl ⟨by decide, by decide⟩ (dk_83_0 (27, .invokevirtual 314, 3) (List.mem_of_getElem? (i := 15) rfl)),
  List.forall_mem_cons.mpr ⟨sd_if_eq 83 30 23 53 (by decide) (dk_83_0 (30, .ifCond .eq 23, 3) (List.mem_of_getElem? (i := 16) rfl)),
  List.forall_mem_cons.mpr ⟨sd_oLdR_n 83 33 0 0 rfl (dk_83_0 (33, .aload_n 0, 1) (List.mem_of_getElem? (i := 17) rfl)),
  List.forall_mem_cons.mpr ⟨sd_oGetR 83 34 6 3 26 RX5 TX5 7 rfl ⟨by decide, by decide⟩ rfl (by decide) rfl (fun w h => iw_83 w (uz_5 w h)) rfl (iw_83 _ zw84) (dk_83_0 (34, .getfield 26, 3) (List.mem_of_getElem? (i := 18) rfl)),
  List.forall_mem_cons.mpr ⟨sd_oLdI_n 83 37 3 3 rfl (dk_83_0 (37, .iload_n 3, 1) (List.mem_of_getElem? (i := 19) rfl)),
  List.forall_mem_cons.mpr ⟨sd_oLdR_n 83 38 0 0 rfl (dk_83_0 (38, .aload_n 0, 1) (List.mem_of_getElem? (i := 20) rfl)),
  List.forall_mem_cons.mpr ⟨sd_oGetR 83 39 6 3 26 RX5 TX5 7 rfl ⟨by decide, by decide⟩ rfl (by decide) rfl (fun w h => iw_83 w (uz_5 w h)) rfl (iw_83 _ zw84) (dk_83_0 (39, .getfield 26, 3) (List.mem_of_getElem? (i := 21) rfl)),
  List.forall_mem_cons.mpr ⟨sd_oLdI_n 83 42 3 3 rfl (dk_83_0 (42, .iload_n 3, 1) (List.mem_of_getElem? (i := 22) rfl)),
  List.forall_mem_cons.mpr ⟨sd_iconst 83 43 1 ⟨by decide, by decide⟩ (dk_83_0 (43, .iconst 1, 1) (List.mem_of_getElem? (i := 23) rfl)),
  List.forall_mem_cons.mpr ⟨sd_isub 83 44 (dk_83_0 (44, .isub, 1) (List.mem_of_getElem? (i := 24) rfl)),
  List.forall_mem_cons.mpr ⟨sd_aaldN 83 45 (dk_83_0 (45, .aaload, 1) (List.mem_of_getElem? (i := 25) rfl)),
  List.forall_mem_cons.mpr ⟨sd_aastN 83 46 (dk_83_0 (46, .aastore, 1) (List.mem_of_getElem? (i := 26) rfl)),
  List.forall_mem_cons.mpr ⟨sd_iinc 83 47 3 (-1) (by decide) (dk_83_0 (47, .iinc 3 (-1), 3) (List.mem_of_getElem? (i := 27) rfl)),
  List.forall_mem_cons.mpr ⟨sd_goto 83 50 (-48) 2 (by decide) (dk_83_0 (50, .goto (-48), 3) (List.mem_of_getElem? (i := 28) rfl)),
  List.forall_mem_cons.mpr ⟨sd_oLdR_n 83 53 0 0 rfl (dk_83_0 (53, .aload_n 0, 1) (List.mem_of_getElem? (i := 29) rfl)),
  List.forall_mem_cons.mpr ⟨sd_oGetR 83 54 6 3 26 RX5 TX5 7 rfl ⟨by decide, by decide⟩ rfl (by decide) rfl (fun w h => iw_83 w (uz_5 w h)) rfl (iw_83 _ zw84) (dk_83_0 (54, .getfield 26, 3) (List.mem_of_getElem? (i := 30) rfl)),
  List.forall_mem_cons.mpr ⟨sd_oLdI_n 83 57 3 3 rfl (dk_83_0 (57, .iload_n 3, 1) (List.mem_of_getElem? (i := 31) rfl)),
  List.forall_mem_cons.mpr ⟨sd_oLdR_n 83 58 1 1 rfl (dk_83_0 (58, .aload_n 1, 1) (List.mem_of_getElem? (i := 32) rfl)),
  List.forall_mem_cons.mpr ⟨sd_aastN 83 59 (dk_83_0 (59, .aastore, 1) (List.mem_of_getElem? (i := 33) rfl)),
  List.forall_mem_cons.mpr ⟨sd_vret 83 60 rfl (dk_83_0 (60, .return_, 1) (List.mem_of_getElem? (i := 34) rfl)),
  fun _ h => nomatch h⟩⟩⟩⟩⟩⟩⟩⟩⟩⟩⟩⟩⟩⟩⟩⟩⟩⟩⟩⟩⟩⟩⟩⟩⟩⟩⟩⟩⟩⟩⟩⟩⟩⟩⟩
def tb_83 : List (List (Nat × Op1)) := [tb_83_0]
theorem sm_83 : ∀ t ∈ tb_83, ∀ q ∈ t, SM GwP MdP D A l 83 q.1 q.2 := List.forall_mem_cons.mpr ⟨sm_83_0, fun _ h => nomatch h⟩
-- 84: Marginalia.mix(JJ)J
def dl_84_0 : List (Nat × Instr × Nat) := [(0, .lload_n 0, 1), (1, .ldc2_w 318, 3), (4, .lmul, 1), (5, .lload_n 2, 1), (6, .ladd, 1), (7, .lreturn, 1)]
theorem dk_84_0 : ∀ q ∈ dl_84_0, decode (mCod (MdP 84)) q.1 = .ok q.2 := by
  rw [show mCod (MdP 84) = cX5_mix from rfl]
  decide +kernel
def tb_84_0 : List (Nat × Op1) := [(0, oLdL 0 1), (1, oCL 31 3), (4, oLMul), (5, oLdL 2 1), (6, oLAdd), (7, oRetL)]
theorem sm_84_0 : ∀ q ∈ tb_84_0, SM GwP MdP D A l 84 q.1 q.2 :=
  List.forall_mem_cons.mpr ⟨sd_oLdL_n 84 0 0 0 rfl (dk_84_0 (0, .lload_n 0, 1) (List.mem_of_getElem? (i := 0) rfl)),
  List.forall_mem_cons.mpr ⟨sd_ldc2 84 1 318 31 (iw_84 _ zw304) (dk_84_0 (1, .ldc2_w 318, 3) (List.mem_of_getElem? (i := 1) rfl)),
  List.forall_mem_cons.mpr ⟨sd_lmul 84 4 (dk_84_0 (4, .lmul, 1) (List.mem_of_getElem? (i := 2) rfl)),
  List.forall_mem_cons.mpr ⟨sd_oLdL_n 84 5 2 2 rfl (dk_84_0 (5, .lload_n 2, 1) (List.mem_of_getElem? (i := 3) rfl)),
  List.forall_mem_cons.mpr ⟨sd_ladd 84 6 (dk_84_0 (6, .ladd, 1) (List.mem_of_getElem? (i := 4) rfl)),
  List.forall_mem_cons.mpr ⟨sd_lret 84 7 rfl (dk_84_0 (7, .lreturn, 1) (List.mem_of_getElem? (i := 5) rfl)),
  fun _ h => nomatch h⟩⟩⟩⟩⟩⟩
def tb_84 : List (List (Nat × Op1)) := [tb_84_0]
theorem sm_84 : ∀ t ∈ tb_84, ∀ q ∈ t, SM GwP MdP D A l 84 q.1 q.2 := List.forall_mem_cons.mpr ⟨sm_84_0, fun _ h => nomatch h⟩
-- 85: Marginalia.digestText(J)J
def dl_85_0 : List (Nat × Instr × Nat) := [(0, .lload_n 1, 1), (1, .lstore_n 3, 1), (2, .iconst 0, 1), (3, .istore 5, 2), (5, .iload 5, 2), (7, .iconst 4, 1), (8, .if_icmp .gt 21, 3), (11, .lload_n 3, 1), (12, .aload_n 0, 1), (13, .iload 5, 2), (15, .invokevirtual 320, 3), (18, .i2l, 1), (19, .invokestatic 323, 3), (22, .lstore_n 3, 1), (23, .iinc 5 1, 3), (26, .goto (-21), 3), (29, .lload_n 3, 1), (30, .aload_n 0, 1), (31, .getfield 16, 3), (34, .invokevirtual 55, 3), (37, .i2l, 1), (38, .invokestatic 323, 3), (41, .lstore_n 3, 1), (42, .lload_n 3, 1), (43, .aload_n 0, 1), (44, .getfield 16, 3), (47, .getfield 94, 3), (50, .i2l, 1), (51, .invokestatic 323, 3), (54, .lstore_n 3, 1), (55, .iconst 0, 1), (56, .istore 5, 2), (58, .iload 5, 2), (60, .aload_n 0, 1), (61, .getfield 16, 3), (64, .invokevirtual 55, 3), (67, .if_icmp .ge 31, 3), (70, .lload_n 3, 1), (71, .aload_n 0, 1), (72, .getfield 16, 3)]
theorem dk_85_0 : ∀ q ∈ dl_85_0, decode (mCod (MdP 85)) q.1 = .ok q.2 := by
  rw [show mCod (MdP 85) = cX5_digestText from rfl]
  decide +kernel
def dl_85_1 : List (Nat × Instr × Nat) := [(75, .aload_n 0, 1), (76, .getfield 16, 3), (79, .getfield 94, 3), (82, .iload 5, 2), (84, .invokevirtual 87, 3), (87, .i2l, 1), (88, .invokestatic 323, 3), (91, .lstore_n 3, 1), (92, .iinc 5 1, 3), (95, .goto (-37), 3), (98, .lload_n 3, 1), (99, .lreturn, 1)]
theorem dk_85_1 : ∀ q ∈ dl_85_1, decode (mCod (MdP 85)) q.1 = .ok q.2 := by
  rw [show mCod (MdP 85) = cX5_digestText from rfl]
  decide +kernel
def tb_85_0 : List (Nat × Op1) := [(0, oLdL 1 1), (1, oStL 3 1), (2, oCI 0 1), (3, oStI 5 2), (5, oLdI 5 2), (7, oCI 4 1), (8, oCgt 29), (11, oLdL 3 1), (12, oLdR 0 1), (13, oLdI 5 2), (15, oCallV 47 1 2 6 []), (18, oI2L), (19, oCallS 84 2 4 []), (22, oStL 3 1), (23, oInc 5 1), (26, oGoto 5), (29, oLdL 3 1), (30, oLdR 0 1), (31, oGetR 6 1), (34, oCallV 23 0 1 5 []), (37, oI2L), (38, oCallS 84 2 4 []), (41, oStL 3 1), (42, oLdL 3 1), (43, oLdR 0 1), (44, oGetR 6 1), (47, oGetI 5 4), (50, oI2L), (51, oCallS 84 2 4 []), (54, oStL 3 1), (55, oCI 0 1), (56, oStI 5 2), (58, oLdI 5 2), (60, oLdR 0 1), (61, oGetR 6 1)]
theorem sm_85_0 : ∀ q ∈ tb_85_0, SM GwP MdP D A l 85 q.1 q.2 :=
  List.forall_mem_cons.mpr ⟨sd_oLdL_n 85 0 1 1 rfl (dk_85_0 (0, .lload_n 1, 1) (List.mem_of_getElem? (i := 0) rfl)),
  List.forall_mem_cons.mpr ⟨sd_oStL_n 85 1 3 3 rfl (by decide) (dk_85_0 (1, .lstore_n 3, 1) (List.mem_of_getElem? (i := 1) rfl)),
  List.forall_mem_cons.mpr ⟨sd_iconst 85 2 0 ⟨by decide, by decide⟩ (dk_85_0 (2, .iconst 0, 1) (List.mem_of_getElem? (i := 2) rfl)),
  List.forall_mem_cons.mpr ⟨sd_oStI 85 3 5 (by decide) (dk_85_0 (3, .istore 5, 2) (List.mem_of_getElem? (i := 3) rfl)),
  List.forall_mem_cons.mpr ⟨sd_oLdI 85 5 5 (dk_85_0 (5, .iload 5, 2) (List.mem_of_getElem? (i := 4) rfl)),
  List.forall_mem_cons.mpr ⟨sd_iconst 85 7 4 ⟨by decide, by decide⟩ (dk_85_0 (7, .iconst 4, 1) (List.mem_of_getElem? (i := 5) rfl)),
  List.forall_mem_cons.mpr ⟨sd_icmp_gt 85 8 21 29 (by decide) (dk_85_0 (8, .if_icmp .gt 21, 3) (List.mem_of_getElem? (i := 6) rfl)),
  List.forall_mem_cons.mpr ⟨sd_oLdL_n 85 11 3 3 rfl (dk_85_0 (11, .lload_n 3, 1) (List.mem_of_getElem? (i := 7) rfl)),
  List.forall_mem_cons.mpr ⟨sd_oLdR_n 85 12 0 0 rfl (dk_85_0 (12, .aload_n 0, 1) (List.mem_of_getElem? (i := 8) rfl)),
  List.forall_mem_cons.mpr ⟨sd_oLdI 85 13 5 (dk_85_0 (13, .iload 5, 2) (List.mem_of_getElem? (i := 9) rfl)),
  List.forall_mem_cons.mpr ⟨sd_callV 85 15 47 1 2 320 6 [] (gdV hws_85 hws_47 zw306 zw307 zw308 zw63 zw305) hws_47 rfl (by decide +kernel) rfl rfl ⟨by decide +kernel, by decide +kernel, by decide +kernel⟩ ⟨by decide, by decide⟩ (catch_nil rfl) RX5 rfl TX5 7 rfl ⟨by decide, by decide⟩ (dk_85_0 (15, .invokevirtual 320, 3) (List.mem_of_getElem? (i := 10) rfl)),
  List.forall_mem_cons.mpr ⟨sd_i2l 85 18 (dk_85_0 (18, .i2l, 1) (List.mem_of_getElem? (i := 11) rfl)),
  List.forall_mem_cons.mpr ⟨sd_callS 85 19 84 2 4 323 [] (gdS hws_85 hws_84 zw310 zw311 zw63 zw309) hws_84 rfl (by decide +kernel) rfl rfl ⟨by decide +kernel, by decide +kernel, by decide +kernel⟩ ⟨by decide, by decide⟩ (catch_nil rfl) (dk_85_0 (19, .invokestatic 323, 3) (List.mem_of_getElem? (i := 12) rfl)),
  List.forall_mem_cons.mpr ⟨sd_oStL_n 85 22 3 3 rfl (by decide) (dk_85_0 (22, .lstore_n 3, 1) (List.mem_of_getElem? (i := 13) rfl)),
  List.forall_mem_cons.mpr ⟨sd_iinc 85 23 5 1 (by decide) (dk_85_0 (23, .iinc 5 1, 3) (List.mem_of_getElem? (i := 14) rfl)),
  List.forall_mem_cons.mpr ⟨sd_goto 85 26 (-21) 5 (by decide) (dk_85_0 (26, .goto (-21), 3) (List.mem_of_getElem? (i := 15) rfl)),
  List.forall_mem_cons.mpr ⟨sd_oLdL_n 85 29 3 3 rfl (dk_85_0 (29, .lload_n 3, 1) (List.mem_of_getElem? (i := 16) rfl)),
  List.forall_mem_cons.mpr ⟨sd_oLdR_n 85 30 0 0 rfl (dk_85_0 (30, .aload_n 0, 1) (List.mem_of_getElem? (i := 17) rfl)),
  List.forall_mem_cons.mpr ⟨sd_oGetR 85 31 6 1 16 RX5 TX5 7 rfl ⟨by decide, by decide⟩ rfl (by decide) rfl (fun w h => iw_85 w (uz_5 w h)) rfl (iw_85 _ zw81) (dk_85_0 (31, .getfield 16, 3) (List.mem_of_getElem? (i := 18) rfl)),
  List.forall_mem_cons.mpr ⟨sd_callV 85 34 23 0 1 55 5 [] (gdV hws_85 hws_23 zw106 zw59 zw60 zw61 zw57) hws_23 rfl (by decide +kernel) rfl rfl ⟨by decide +kernel, by decide +kernel, by decide +kernel⟩ ⟨by decide, by decide⟩ (catch_nil rfl) RX4 rfl TX4 5 rfl ⟨by decide, by decide⟩ (dk_85_0 (34, .invokevirtual 55, 3) (List.mem_of_getElem? (i := 19) rfl)),
  List.forall_mem_cons.mpr ⟨sd_i2l 85 37 (dk_85_0 (37, .i2l, 1) (List.mem_of_getElem? (i := 20) rfl)),
  List.forall_mem_cons.mpr ⟨sd_callS 85 38 84 2 4 323 [] (gdS hws_85 hws_84 zw310 zw311 zw63 zw309) hws_84 rfl (by decide +kernel) rfl rfl ⟨by decide +kernel, by decide +kernel, by decide +kernel⟩ ⟨by decide, by decide⟩ (catch_nil rfl) (dk_85_0 (38, .invokestatic 323, 3) (List.mem_of_getElem? (i := 21) rfl)),
  List.forall_mem_cons.mpr ⟨sd_oStL_n 85 41 3 3 rfl (by decide) (dk_85_0 (41, .lstore_n 3, 1) (List.mem_of_getElem? (i := 22) rfl)),
  List.forall_mem_cons.mpr ⟨sd_oLdL_n 85 42 3 3 rfl (dk_85_0 (42, .lload_n 3, 1) (List.mem_of_getElem? (i := 23) rfl)),
  List.forall_mem_cons.mpr ⟨sd_oLdR_n 85 43 0 0 rfl (dk_85_0 (43, .aload_n 0, 1) (List.mem_of_getElem? (i := 24) rfl)),
  List.forall_mem_cons.mpr ⟨sd_oGetR 85 44 6 1 16 RX5 TX5 7 rfl ⟨by decide, by decide⟩ rfl (by decide) rfl (fun w h => iw_85 w (uz_5 w h)) rfl (iw_85 _ zw81) (dk_85_0 (44, .getfield 16, 3) (List.mem_of_getElem? (i := 25) rfl)),
  List.forall_mem_cons.mpr ⟨sd_oGetIN 85 47 5 4 94 RX4 TX4 5 rfl ⟨by decide, by decide⟩ rfl (by decide) rfl (fun w h => iw_85 w (uz_4 w h)) rfl "Marginalia" (List.mem_of_getElem? (i := 0) rfl) (dk_85_0 (47, .getfield 94, 3) (List.mem_of_getElem? (i := 26) rfl)),
  List.forall_mem_cons.mpr ⟨sd_i2l 85 50 (dk_85_0 (50, .i2l, 1) (List.mem_of_getElem? (i := 27) rfl)),
  List.forall_mem_cons.mpr ⟨sd_callS 85 51 84 2 4 323 [] (gdS hws_85 hws_84 zw310 zw311 zw63 zw309) hws_84 rfl (by decide +kernel) rfl rfl ⟨by decide +kernel, by decide +kernel, by decide +kernel⟩ ⟨by decide, by decide⟩ (catch_nil rfl) (dk_85_0 (51, .invokestatic 323, 3) (List.mem_of_getElem? (i := 28) rfl)),
  List.forall_mem_cons.mpr ⟨sd_oStL_n 85 54 3 3 rfl (by decide) (dk_85_0 (54, .lstore_n 3, 1) (List.mem_of_getElem? (i := 29) rfl)),
  List.forall_mem_cons.mpr ⟨sd_iconst 85 55 0 ⟨by decide, by decide⟩ (dk_85_0 (55, .iconst 0, 1) (List.mem_of_getElem? (i := 30) rfl)),
  List.forall_mem_cons.mpr ⟨sd_oStI 85 56 5 (by decide) (dk_85_0 (56, .istore 5, 2) (List.mem_of_getElem? (i := 31) rfl)),
  List.forall_mem_cons.mpr ⟨sd_oLdI 85 58 5 (dk_85_0 (58, .iload 5, 2) (List.mem_of_getElem? (i := 32) rfl)),
  List.forall_mem_cons.mpr ⟨sd_oLdR_n 85 60 0 0 rfl (dk_85_0 (60, .aload_n 0, 1) (List.mem_of_getElem? (i := 33) rfl)),
  List.forall_mem_cons.mpr ⟨sd_oGetR 85 61 6 1 16 RX5 TX5 7 rfl ⟨by decide, by decide⟩ rfl (by decide) rfl (fun w h => iw_85 w (uz_5 w h)) rfl (iw_85 _ zw81) (dk_85_0 (61, .getfield 16, 3) (List.mem_of_getElem? (i := 34) rfl)),
  fun _ h => nomatch h⟩⟩⟩⟩⟩⟩⟩⟩⟩⟩⟩⟩⟩⟩⟩⟩⟩⟩⟩⟩⟩⟩⟩⟩⟩⟩⟩⟩⟩⟩⟩⟩⟩⟩⟩
def tb_85_1 : List (Nat × Op1) := [(64, oCallV 23 0 1 5 []), (67, oCge 98), (70, oLdL 3 1), (71, oLdR 0 1), (72, oGetR 6 1), (75, oLdR 0 1), (76, oGetR 6 1), (79, oGetI 5 4), (82, oLdI 5 2), (84, oCallV 27 2 3 5 []), (87, oI2L), (88, oCallS 84 2 4 []), (91, oStL 3 1), (92, oInc 5 1), (95, oGoto 58), (98, oLdL 3 1), (99, oRetL)]
theorem sm_85_1 : ∀ q ∈ tb_85_1, SM GwP MdP D A l 85 q.1 q.2 :=
  List.forall_mem_cons.mpr ⟨sd_callV 85 64 23 0 1 55 5 [] (gdV hws_85 hws_23 zw106 zw59 zw60 zw61 zw57) hws_23 rfl (by decide +kernel) rfl rfl ⟨by decide +kernel, by decide +kernel, by decide +kernel⟩ ⟨by decide, by decide⟩ (catch_nil rfl) RX4 rfl TX4 5 rfl ⟨by decide, by decide⟩ (dk_85_0 (64, .invokevirtual 55, 3) (List.mem_of_getElem? (i := 35) rfl)),
  List.forall_mem_cons.mpr ⟨sd_icmp_ge 85 67 31 98 (by decide) (dk_85_0 (67, .if_icmp .ge 31, 3) (List.mem_of_getElem? (i := 36) rfl)),
  List.forall_mem_cons.mpr ⟨sd_oLdL_n 85 70 3 3 rfl (dk_85_0 (70, .lload_n 3, 1) (List.mem_of_getElem? (i := 37) rfl)),
  List.forall_mem_cons.mpr ⟨sd_oLdR_n 85 71 0 0 rfl (dk_85_0 (71, .aload_n 0, 1) (List.mem_of_getElem? (i := 38) rfl)),
  List.forall_mem_cons.mpr ⟨sd_oGetR 85 72 6 1 16 RX5 TX5 7 rfl ⟨by decide, by decide⟩ rfl (by decide) rfl (fun w h => iw_85 w (uz_5 w h)) rfl (iw_85 _ zw81) (dk_85_0 (72, .getfield 16, 3) (List.mem_of_getElem? (i := 39) rfl)),
  List.forall_mem_cons.mpr ⟨sd_oLdR_n 85 75 0 0 rfl (dk_85_1 (75, .aload_n 0, 1) (List.mem_of_getElem? (i := 0) rfl)),
  List.forall_mem_cons.mpr ⟨sd_oGetR 85 76 6 1 16 RX5 TX5 7 rfl ⟨by decide, by decide⟩ rfl (by decide) rfl (fun w h => iw_85 w (uz_5 w h)) rfl (iw_85 _ zw81) (dk_85_1 (76, .getfield 16, 3) (List.mem_of_getElem? (i := 1) rfl)),
  List.forall_mem_cons.mpr ⟨sd_oGetIN 85 79 5 4 94 RX4 TX4 5 rfl ⟨by decide, by decide⟩ rfl (by decide) rfl (fun w h => iw_85 w (uz_4 w h)) rfl "Marginalia" (List.mem_of_getElem? (i := 0) rfl) (dk_85_1 (79, .getfield 94, 3) (List.mem_of_getElem? (i := 2) rfl)),
  List.forall_mem_cons.mpr ⟨sd_oLdI 85 82 5 (dk_85_1 (82, .iload 5, 2) (List.mem_of_getElem? (i := 3) rfl)),
  List.forall_mem_cons.mpr ⟨sd_callV 85 84 27 2 3 87 5 [] (gdV hws_85 hws_27 zw287 zw67 zw68 zw61 zw65) hws_27 rfl (by decide +kernel) rfl rfl ⟨by decide +kernel, by decide +kernel, by decide +kernel⟩ ⟨by decide, by decide⟩ (catch_nil rfl) RX4 rfl TX4 5 rfl ⟨by decide, by decide⟩ (dk_85_1 (84, .invokevirtual 87, 3) (List.mem_of_getElem? (i := 4) rfl)),
  List.forall_mem_cons.mpr ⟨sd_i2l 85 87 (dk_85_1 (87, .i2l, 1) (List.mem_of_getElem? (i := 5) rfl)),
  List.forall_mem_cons.mpr ⟨sd_callS 85 88 84 2 4 323 [] (gdS hws_85 hws_84 zw310 zw311 zw63 zw309) hws_84 rfl (by decide +kernel) rfl rfl ⟨by decide +kernel, by decide +kernel, by decide +kernel⟩ ⟨by decide, by decide⟩ (catch_nil rfl) (dk_85_1 (88, .invokestatic 323, 3) (List.mem_of_getElem? (i := 6) rfl)),
  List.forall_mem_cons.mpr ⟨sd_oStL_n 85 91 3 3 rfl (by decide) (dk_85_1 (91, .lstore_n 3, 1) (List.mem_of_getElem? (i := 7) rfl)),
  List.forall_mem_cons.mpr ⟨sd_iinc 85 92 5 1 (by decide) (dk_85_1 (92, .iinc 5 1, 3) (List.mem_of_getElem? (i := 8) rfl)),
  List.forall_mem_cons.mpr ⟨sd_goto 85 95 (-37) 58 (by decide) (dk_85_1 (95, .goto (-37), 3) (List.mem_of_getElem? (i := 9) rfl)),
  List.forall_mem_cons.mpr ⟨sd_oLdL_n 85 98 3 3 rfl (dk_85_1 (98, .lload_n 3, 1) (List.mem_of_getElem? (i := 10) rfl)),
  List.forall_mem_cons.mpr ⟨sd_lret 85 99 rfl (dk_85_1 (99, .lreturn, 1) (List.mem_of_getElem? (i := 11) rfl)),
  fun _ h => nomatch h⟩⟩⟩⟩⟩⟩⟩⟩⟩⟩⟩⟩⟩⟩⟩⟩⟩
def tb_85 : List (List (Nat × Op1)) := [tb_85_0, tb_85_1]
theorem sm_85 : ∀ t ∈ tb_85, ∀ q ∈ t, SM GwP MdP D A l 85 q.1 q.2 := List.forall_mem_cons.mpr ⟨sm_85_0, List.forall_mem_cons.mpr ⟨sm_85_1, fun _ h => nomatch h⟩⟩
-- 86: Marginalia.digestUser(JI)J
def dl_86_0 : List (Nat × Instr × Nat) := [(0, .lload_n 1, 1), (1, .aload_n 0, 1), (2, .getfield 9, 3), (5, .iload_n 3, 1), (6, .iaload, 1), (7, .i2l, 1), (8, .invokestatic 323, 3), (11, .lstore 4, 2), (13, .lload 4, 2), (15, .aload_n 0, 1), (16, .iload_n 3, 1), (17, .iconst 1, 1), (18, .invokevirtual 327, 3), (21, .i2l, 1), (22, .invokestatic 323, 3), (25, .lstore 4, 2), (27, .lload 4, 2), (29, .aload_n 0, 1), (30, .iload_n 3, 1), (31, .iconst 0, 1), (32, .invokevirtual 330, 3), (35, .i2l, 1), (36, .invokestatic 323, 3), (39, .lstore 4, 2), (41, .lload 4, 2), (43, .aload_n 0, 1), (44, .iload_n 3, 1), (45, .iconst 5, 1), (46, .invokevirtual 330, 3), (49, .i2l, 1), (50, .invokestatic 323, 3), (53, .lreturn, 1)]
theorem dk_86_0 : ∀ q ∈ dl_86_0, decode (mCod (MdP 86)) q.1 = .ok q.2 := by
  rw [show mCod (MdP 86) = cX5_digestUser from rfl]
  decide +kernel
def tb_86_0 : List (Nat × Op1) := [(0, oLdL 1 1), (1, oLdR 0 1), (2, oGetR 6 0), (5, oLdI 3 1), (6, oALdI 10), (7, oI2L), (8, oCallS 84 2 4 []), (11, oStL 4 2), (13, oLdL 4 2), (15, oLdR 0 1), (16, oLdI 3 1), (17, oCI 1 1), (18, oCallV 59 2 5 6 []), (21, oI2L), (22, oCallS 84 2 4 []), (25, oStL 4 2), (27, oLdL 4 2), (29, oLdR 0 1), (30, oLdI 3 1), (31, oCI 0 1), (32, oCallV 53 2 6 6 []), (35, oI2L), (36, oCallS 84 2 4 []), (39, oStL 4 2), (41, oLdL 4 2), (43, oLdR 0 1), (44, oLdI 3 1), (45, oCI 5 1), (46, oCallV 53 2 6 6 []), (49, oI2L), (50, oCallS 84 2 4 []), (53, oRetL)]
theorem sm_86_0 : ∀ q ∈ tb_86_0, SM GwP MdP D A l 86 q.1 q.2 :=
  List.forall_mem_cons.mpr ⟨sd_oLdL_n 86 0 1 1 rfl (dk_86_0 (0, .lload_n 1, 1) (List.mem_of_getElem? (i := 0) rfl)),
  List.forall_mem_cons.mpr ⟨sd_oLdR_n 86 1 0 0 rfl (dk_86_0 (1, .aload_n 0, 1) (List.mem_of_getElem? (i := 1) rfl)),
  List.forall_mem_cons.mpr ⟨sd_oGetR 86 2 6 0 9 RX5 TX5 7 rfl ⟨by decide, by decide⟩ rfl (by decide) rfl (fun w h => iw_86 w (uz_5 w h)) rfl (iw_86 _ zw75) (dk_86_0 (2, .getfield 9, 3) (List.mem_of_getElem? (i := 2) rfl)),
  List.forall_mem_cons.mpr ⟨sd_oLdI_n 86 5 3 3 rfl (dk_86_0 (5, .iload_n 3, 1) (List.mem_of_getElem? (i := 3) rfl)),
  List.forall_mem_cons.mpr ⟨sd_iald 86 6 (dk_86_0 (6, .iaload, 1) (List.mem_of_getElem? (i := 4) rfl)),
  List.forall_mem_cons.mpr ⟨sd_i2l 86 7 (dk_86_0 (7, .i2l, 1) (List.mem_of_getElem? (i := 5) rfl)),
  List.forall_mem_cons.mpr ⟨sd_callS 86 8 84 2 4 323 [] (gdS hws_86 hws_84 zw310 zw311 zw63 zw309) hws_84 rfl (by decide +kernel) rfl rfl ⟨by decide +kernel, by decide +kernel, by decide +kernel⟩ ⟨by decide, by decide⟩ (catch_nil rfl) (dk_86_0 (8, .invokestatic 323, 3) (List.mem_of_getElem? (i := 6) rfl)),
  List.forall_mem_cons.mpr ⟨sd_oStL 86 11 4 (by decide) (dk_86_0 (11, .lstore 4, 2) (List.mem_of_getElem? (i := 7) rfl)),
  List.forall_mem_cons.mpr ⟨sd_oLdL 86 13 4 (dk_86_0 (13, .lload 4, 2) (List.mem_of_getElem? (i := 8) rfl)),
  List.forall_mem_cons.mpr ⟨sd_oLdR_n 86 15 0 0 rfl (dk_86_0 (15, .aload_n 0, 1) (List.mem_of_getElem? (i := 9) rfl)),
  List.forall_mem_cons.mpr ⟨sd_oLdI_n 86 16 3 3 rfl (dk_86_0 (16, .iload_n 3, 1) (List.mem_of_getElem? (i := 10) rfl)),
  List.forall_mem_cons.mpr ⟨sd_iconst 86 17 1 ⟨by decide, by decide⟩ (dk_86_0 (17, .iconst 1, 1) (List.mem_of_getElem? (i := 11) rfl)),
  List.forall_mem_cons.mpr ⟨sd_callV 86 18 59 2 5 327 6 [] (gdV hws_86 hws_59 zw313 zw314 zw315 zw63 zw312) hws_59 rfl (by decide +kernel) rfl rfl ⟨by decide +kernel, by decide +kernel, by decide +kernel⟩ ⟨by decide, by decide⟩ (catch_nil rfl) RX5 rfl TX5 7 rfl ⟨by decide, by decide⟩ (dk_86_0 (18, .invokevirtual 327, 3) (List.mem_of_getElem? (i := 12) rfl)),
  List.forall_mem_cons.mpr ⟨sd_i2l 86 21 (dk_86_0 (21, .i2l, 1) (List.mem_of_getElem? (i := 13) rfl)),
  List.forall_mem_cons.mpr ⟨sd_callS 86 22 84 2 4 323 [] (gdS hws_86 hws_84 zw310 zw311 zw63 zw309) hws_84 rfl (by decide +kernel) rfl rfl ⟨by decide +kernel, by decide +kernel, by decide +kernel⟩ ⟨by decide, by decide⟩ (catch_nil rfl) (dk_86_0 (22, .invokestatic 323, 3) (List.mem_of_getElem? (i := 14) rfl)),
  List.forall_mem_cons.mpr ⟨sd_oStL 86 25 4 (by decide) (dk_86_0 (25, .lstore 4, 2) (List.mem_of_getElem? (i := 15) rfl)),
  List.forall_mem_cons.mpr ⟨sd_oLdL 86 27 4 (dk_86_0 (27, .lload 4, 2) (List.mem_of_getElem? (i := 16) rfl)),
  List.forall_mem_cons.mpr ⟨sd_oLdR_n 86 29 0 0 rfl (dk_86_0 (29, .aload_n 0, 1) (List.mem_of_getElem? (i := 17) rfl)),
  List.forall_mem_cons.mpr ⟨sd_oLdI_n 86 30 3 3 rfl (dk_86_0 (30, .iload_n 3, 1) (List.mem_of_getElem? (i := 18) rfl)),
  List.forall_mem_cons.mpr ⟨sd_iconst 86 31 0 ⟨by decide, by decide⟩ (dk_86_0 (31, .iconst 0, 1) (List.mem_of_getElem? (i := 19) rfl)),
  List.forall_mem_cons.mpr ⟨sd_callV 86 32 53 2 6 330 6 [] (gdV hws_86 hws_53 zw317 zw318 zw319 zw63 zw316) hws_53 rfl (by decide +kernel) rfl rfl ⟨by decide +kernel, by decide +kernel, by decide +kernel⟩ ⟨by decide, by decide⟩ (catch_nil rfl) RX5 rfl TX5 7 rfl ⟨by decide, by decide⟩ (dk_86_0 (32, .invokevirtual 330, 3) (List.mem_of_getElem? (i := 20) rfl)),
  List.forall_mem_cons.mpr ⟨sd_i2l 86 35 (dk_86_0 (35, .i2l, 1) (List.mem_of_getElem? (i := 21) rfl)),
  List.forall_mem_cons.mpr ⟨sd_callS 86 36 84 2 4 323 [] (gdS hws_86 hws_84 zw310 zw311 zw63 zw309) hws_84 rfl (by decide +kernel) rfl rfl ⟨by decide +kernel, by decide +kernel, by decide +kernel⟩ ⟨by decide, by decide⟩ (catch_nil rfl) (dk_86_0 (36, .invokestatic 323, 3) (List.mem_of_getElem? (i := 22) rfl)),
  List.forall_mem_cons.mpr ⟨sd_oStL 86 39 4 (by decide) (dk_86_0 (39, .lstore 4, 2) (List.mem_of_getElem? (i := 23) rfl)),
  List.forall_mem_cons.mpr ⟨sd_oLdL 86 41 4 (dk_86_0 (41, .lload 4, 2) (List.mem_of_getElem? (i := 24) rfl)),
  List.forall_mem_cons.mpr ⟨sd_oLdR_n 86 43 0 0 rfl (dk_86_0 (43, .aload_n 0, 1) (List.mem_of_getElem? (i := 25) rfl)),
  List.forall_mem_cons.mpr ⟨sd_oLdI_n 86 44 3 3 rfl (dk_86_0 (44, .iload_n 3, 1) (List.mem_of_getElem? (i := 26) rfl)),
  List.forall_mem_cons.mpr ⟨sd_iconst 86 45 5 ⟨by decide, by decide⟩ (dk_86_0 (45, .iconst 5, 1) (List.mem_of_getElem? (i := 27) rfl)),
  List.forall_mem_cons.mpr ⟨sd_callV 86 46 53 2 6 330 6 [] (gdV hws_86 hws_53 zw317 zw318 zw319 zw63 zw316) hws_53 rfl (by decide +kernel) rfl rfl ⟨by decide +kernel, by decide +kernel, by decide +kernel⟩ ⟨by decide, by decide⟩ (catch_nil rfl) RX5 rfl TX5 7 rfl ⟨by decide, by decide⟩ (dk_86_0 (46, .invokevirtual 330, 3) (List.mem_of_getElem? (i := 28) rfl)),
  List.forall_mem_cons.mpr ⟨sd_i2l 86 49 (dk_86_0 (49, .i2l, 1) (List.mem_of_getElem? (i := 29) rfl)),
  List.forall_mem_cons.mpr ⟨sd_callS 86 50 84 2 4 323 [] (gdS hws_86 hws_84 zw310 zw311 zw63 zw309) hws_84 rfl (by decide +kernel) rfl rfl ⟨by decide +kernel, by decide +kernel, by decide +kernel⟩ ⟨by decide, by decide⟩ (catch_nil rfl) (dk_86_0 (50, .invokestatic 323, 3) (List.mem_of_getElem? (i := 30) rfl)),
  List.forall_mem_cons.mpr ⟨sd_lret 86 53 rfl (dk_86_0 (53, .lreturn, 1) (List.mem_of_getElem? (i := 31) rfl)),
  fun _ h => nomatch h⟩⟩⟩⟩⟩⟩⟩⟩⟩⟩⟩⟩⟩⟩⟩⟩⟩⟩⟩⟩⟩⟩⟩⟩⟩⟩⟩⟩⟩⟩⟩⟩
def tb_86 : List (List (Nat × Op1)) := [tb_86_0]
theorem sm_86 : ∀ t ∈ tb_86, ∀ q ∈ t, SM GwP MdP D A l 86 q.1 q.2 := List.forall_mem_cons.mpr ⟨sm_86_0, fun _ h => nomatch h⟩
-- 87: Marginalia.digestNote(JI)J
def dl_87_0 : List (Nat × Instr × Nat) := [(0, .lload_n 1, 1), (1, .iload_n 3, 1), (2, .i2l, 1), (3, .invokestatic 323, 3), (6, .lstore 4, 2), (8, .iconst 0, 1), (9, .istore 6, 2), (11, .iload 6, 2), (13, .bipush 10, 2), (15, .if_icmp .gt 24, 3), (18, .lload 4, 2), (20, .aload_n 0, 1), (21, .iload_n 3, 1), (22, .iload 6, 2), (24, .invokevirtual 333, 3), (27, .i2l, 1), (28, .invokestatic 323, 3), (31, .lstore 4, 2), (33, .iinc 6 1, 3), (36, .goto (-25), 3), (39, .lload 4, 2), (41, .aload_n 0, 1), (42, .iload_n 3, 1), (43, .invokevirtual 336, 3), (46, .i2l, 1), (47, .invokestatic 323, 3), (50, .lstore 4, 2), (52, .iconst 0, 1), (53, .istore 6, 2), (55, .iload 6, 2), (57, .aload_n 0, 1), (58, .getfield 44, 3), (61, .if_icmp .ge 31, 3), (64, .lload 4, 2), (66, .aload_n 0, 1), (67, .iload 6, 2), (69, .iload_n 3, 1), (70, .invokevirtual 339, 3), (73, .ifCond .eq 7, 3), (76, .lconst 1, 1)]
theorem dk_87_0 : ∀ q ∈ dl_87_0, decode (mCod (MdP 87)) q.1 = .ok q.2 := by
  rw [show mCod (MdP 87) = cX5_digestNote from rfl]
  decide +kernel
def dl_87_1 : List (Nat × Instr × Nat) := [(77, .goto 4, 3), (80, .lconst 0, 1), (81, .invokestatic 323, 3), (84, .lstore 4, 2), (86, .iinc 6 1, 3), (89, .goto (-34), 3), (92, .lload 4, 2), (94, .lreturn, 1)]
theorem dk_87_1 : ∀ q ∈ dl_87_1, decode (mCod (MdP 87)) q.1 = .ok q.2 := by
  rw [show mCod (MdP 87) = cX5_digestNote from rfl]
  decide +kernel
def tb_87_0 : List (Nat × Op1) := [(0, oLdL 1 1), (1, oLdI 3 1), (2, oI2L), (3, oCallS 84 2 4 []), (6, oStL 4 2), (8, oCI 0 1), (9, oStI 6 2), (11, oLdI 6 2), (13, oCI 10 2), (15, oCgt 39), (18, oLdL 4 2), (20, oLdR 0 1), (21, oLdI 3 1), (22, oLdI 6 2), (24, oCallV 49 2 4 6 []), (27, oI2L), (28, oCallS 84 2 4 []), (31, oStL 4 2), (33, oInc 6 1), (36, oGoto 11), (39, oLdL 4 2), (41, oLdR 0 1), (42, oLdI 3 1), (43, oCallV 58 1 2 6 []), (46, oI2L), (47, oCallS 84 2 4 []), (50, oStL 4 2), (52, oCI 0 1), (53, oStI 6 2), (55, oLdI 6 2), (57, oLdR 0 1), (58, oGetI 6 5), (61, oCge 92)]
theorem sm_87_0 : ∀ q ∈ tb_87_0, SM GwP MdP D A l 87 q.1 q.2 :=
  List.forall_mem_cons.mpr ⟨sd_oLdL_n 87 0 1 1 rfl (dk_87_0 (0, .lload_n 1, 1) (List.mem_of_getElem? (i := 0) rfl)),
  List.forall_mem_cons.mpr ⟨sd_oLdI_n 87 1 3 3 rfl (dk_87_0 (1, .iload_n 3, 1) (List.mem_of_getElem? (i := 1) rfl)),
  List.forall_mem_cons.mpr ⟨sd_i2l 87 2 (dk_87_0 (2, .i2l, 1) (List.mem_of_getElem? (i := 2) rfl)),
  List.forall_mem_cons.mpr ⟨sd_callS 87 3 84 2 4 323 [] (gdS hws_87 hws_84 zw310 zw311 zw63 zw309) hws_84 rfl (by decide +kernel) rfl rfl ⟨by decide +kernel, by decide +kernel, by decide +kernel⟩ ⟨by decide, by decide⟩ (catch_nil rfl) (dk_87_0 (3, .invokestatic 323, 3) (List.mem_of_getElem? (i := 3) rfl)),
  List.forall_mem_cons.mpr ⟨sd_oStL 87 6 4 (by decide) (dk_87_0 (6, .lstore 4, 2) (List.mem_of_getElem? (i := 4) rfl)),
  List.forall_mem_cons.mpr ⟨sd_iconst 87 8 0 ⟨by decide, by decide⟩ (dk_87_0 (8, .iconst 0, 1) (List.mem_of_getElem? (i := 5) rfl)),
  List.forall_mem_cons.mpr ⟨sd_oStI 87 9 6 (by decide) (dk_87_0 (9, .istore 6, 2) (List.mem_of_getElem? (i := 6) rfl)),
  List.forall_mem_cons.mpr ⟨sd_oLdI 87 11 6 (dk_87_0 (11, .iload 6, 2) (List.mem_of_getElem? (i := 7) rfl)),
  List.forall_mem_cons.mpr ⟨sd_bipush 87 13 10 ⟨by decide, by decide⟩ (by decide) (dk_87_0 (13, .bipush 10, 2) (List.mem_of_getElem? (i := 8) rfl)),
  List.forall_mem_cons.mpr ⟨sd_icmp_gt 87 15 24 39 (by decide) (dk_87_0 (15, .if_icmp .gt 24, 3) (List.mem_of_getElem? (i := 9) rfl)),
  List.forall_mem_cons.mpr ⟨sd_oLdL 87 18 4 (dk_87_0 (18, .lload 4, 2) (List.mem_of_getElem? (i := 10) rfl)),
  List.forall_mem_cons.mpr ⟨sd_oLdR_n 87 20 0 0 rfl (dk_87_0 (20, .aload_n 0, 1) (List.mem_of_getElem? (i := 11) rfl)),
  List.forall_mem_cons.mpr ⟨sd_oLdI_n 87 21 3 3 rfl (dk_87_0 (21, .iload_n 3, 1) (List.mem_of_getElem? (i := 12) rfl)),
  List.forall_mem_cons.mpr ⟨sd_oLdI 87 22 6 (dk_87_0 (22, .iload 6, 2) (List.mem_of_getElem? (i := 13) rfl)),
  List.forall_mem_cons.mpr ⟨sd_callV 87 24 49 2 4 333 6 [] (gdV hws_87 hws_49 zw321 zw322 zw323 zw63 zw320) hws_49 rfl (by decide +kernel) rfl rfl ⟨by decide +kernel, by decide +kernel, by decide +kernel⟩ ⟨by decide, by decide⟩ (catch_nil rfl) RX5 rfl TX5 7 rfl ⟨by decide, by decide⟩ (dk_87_0 (24, .invokevirtual 333, 3) (List.mem_of_getElem? (i := 14) rfl)),
  List.forall_mem_cons.mpr ⟨sd_i2l 87 27 (dk_87_0 (27, .i2l, 1) (List.mem_of_getElem? (i := 15) rfl)),
  List.forall_mem_cons.mpr ⟨sd_callS 87 28 84 2 4 323 [] (gdS hws_87 hws_84 zw310 zw311 zw63 zw309) hws_84 rfl (by decide +kernel) rfl rfl ⟨by decide +kernel, by decide +kernel, by decide +kernel⟩ ⟨by decide, by decide⟩ (catch_nil rfl) (dk_87_0 (28, .invokestatic 323, 3) (List.mem_of_getElem? (i := 16) rfl)),
  List.forall_mem_cons.mpr ⟨sd_oStL 87 31 4 (by decide) (dk_87_0 (31, .lstore 4, 2) (List.mem_of_getElem? (i := 17) rfl)),
  List.forall_mem_cons.mpr ⟨sd_iinc 87 33 6 1 (by decide) (dk_87_0 (33, .iinc 6 1, 3) (List.mem_of_getElem? (i := 18) rfl)),
  List.forall_mem_cons.mpr ⟨sd_goto 87 36 (-25) 11 (by decide) (dk_87_0 (36, .goto (-25), 3) (List.mem_of_getElem? (i := 19) rfl)),
  List.forall_mem_cons.mpr ⟨sd_oLdL 87 39 4 (dk_87_0 (39, .lload 4, 2) (List.mem_of_getElem? (i := 20) rfl)),
  List.forall_mem_cons.mpr ⟨sd_oLdR_n 87 41 0 0 rfl (dk_87_0 (41, .aload_n 0, 1) (List.mem_of_getElem? (i := 21) rfl)),
  List.forall_mem_cons.mpr ⟨sd_oLdI_n 87 42 3 3 rfl (dk_87_0 (42, .iload_n 3, 1) (List.mem_of_getElem? (i := 22) rfl)),
  List.forall_mem_cons.mpr ⟨sd_callV 87 43 58 1 2 336 6 [] (gdV hws_87 hws_58 zw325 zw326 zw327 zw63 zw324) hws_58 rfl (by decide +kernel) rfl rfl ⟨by decide +kernel, by decide +kernel, by decide +kernel⟩ ⟨by decide, by decide⟩ (catch_nil rfl) RX5 rfl TX5 7 rfl ⟨by decide, by decide⟩ (dk_87_0 (43, .invokevirtual 336, 3) (List.mem_of_getElem? (i := 23) rfl)),
  List.forall_mem_cons.mpr ⟨sd_i2l 87 46 (dk_87_0 (46, .i2l, 1) (List.mem_of_getElem? (i := 24) rfl)),
  List.forall_mem_cons.mpr ⟨sd_callS 87 47 84 2 4 323 [] (gdS hws_87 hws_84 zw310 zw311 zw63 zw309) hws_84 rfl (by decide +kernel) rfl rfl ⟨by decide +kernel, by decide +kernel, by decide +kernel⟩ ⟨by decide, by decide⟩ (catch_nil rfl) (dk_87_0 (47, .invokestatic 323, 3) (List.mem_of_getElem? (i := 25) rfl)),
  List.forall_mem_cons.mpr ⟨sd_oStL 87 50 4 (by decide) (dk_87_0 (50, .lstore 4, 2) (List.mem_of_getElem? (i := 26) rfl)),
  List.forall_mem_cons.mpr ⟨sd_iconst 87 52 0 ⟨by decide, by decide⟩ (dk_87_0 (52, .iconst 0, 1) (List.mem_of_getElem? (i := 27) rfl)),
  List.forall_mem_cons.mpr ⟨sd_oStI 87 53 6 (by decide) (dk_87_0 (53, .istore 6, 2) (List.mem_of_getElem? (i := 28) rfl)),
  List.forall_mem_cons.mpr ⟨sd_oLdI 87 55 6 (dk_87_0 (55, .iload 6, 2) (List.mem_of_getElem? (i := 29) rfl)),
  List.forall_mem_cons.mpr ⟨sd_oLdR_n 87 57 0 0 rfl (dk_87_0 (57, .aload_n 0, 1) (List.mem_of_getElem? (i := 30) rfl)),
  List.forall_mem_cons.mpr ⟨sd_oGetI 87 58 6 5 44 RX5 TX5 7 rfl ⟨by decide, by decide⟩ rfl (by decide) rfl (fun w h => iw_87 w (uz_5 w h)) rfl (iw_87 _ zw98) (dk_87_0 (58, .getfield 44, 3) (List.mem_of_getElem? (i := 31) rfl)),
  List.forall_mem_cons.mpr ⟨sd_icmp_ge 87 61 31 92 (by decide) (dk_87_0 (61, .if_icmp .ge 31, 3) (List.mem_of_getElem? (i := 32) rfl)),
  fun _ h => nomatch h⟩⟩⟩⟩⟩⟩⟩⟩⟩⟩⟩⟩⟩⟩⟩⟩⟩⟩⟩⟩⟩⟩⟩⟩⟩⟩⟩⟩⟩⟩⟩⟩⟩
def tb_87_1 : List (Nat × Op1) := [(64, oLdL 4 2), (66, oLdR 0 1), (67, oLdI 6 2), (69, oLdI 3 1), (70, oCallV 51 2 3 6 []), (73, oZeq 80), (76, oCL 1 1), (77, oGoto 81), (80, oCL 0 1), (81, oCallS 84 2 4 []), (84, oStL 4 2), (86, oInc 6 1), (89, oGoto 55), (92, oLdL 4 2), (94, oRetL)]
theorem sm_87_1 : ∀ q ∈ tb_87_1, SM GwP MdP D A l 87 q.1 q.2 :=
  List.forall_mem_cons.mpr ⟨sd_oLdL 87 64 4 (dk_87_0 (64, .lload 4, 2) (List.mem_of_getElem? (i := 33) rfl)),
  List.forall_mem_cons.mpr ⟨sd_oLdR_n 87 66 0 0 rfl (dk_87_0 (66, .aload_n 0, 1) (List.mem_of_getElem? (i := 34) rfl)),
  List.forall_mem_cons.mpr ⟨sd_oLdI 87 67 6 (dk_87_0 (67, .iload 6, 2) (List.mem_of_getElem? (i := 35) rfl)),
  List.forall_mem_cons.mpr ⟨sd_oLdI_n 87 69 3 3 rfl (dk_87_0 (69, .iload_n 3, 1) (List.mem_of_getElem? (i := 36) rfl)),
  List.forall_mem_cons.mpr ⟨sd_callV 87 70 51 2 3 339 6 [] (gdV hws_87 hws_51 zw329 zw330 zw331 zw63 zw328) hws_51 rfl (by decide +kernel) rfl rfl ⟨by decide +kernel, by decide +kernel, by decide +kernel⟩ ⟨by decide, by decide⟩ (catch_nil rfl) RX5 rfl TX5 7 rfl ⟨by decide, by decide⟩ (dk_87_0 (70, .invokevirtual 339, 3) (List.mem_of_getElem? (i := 37) rfl)),
  List.forall_mem_cons.mpr ⟨sd_if_eq 87 73 7 80 (by decide) (dk_87_0 (73, .ifCond .eq 7, 3) (List.mem_of_getElem? (i := 38) rfl)),
  List.forall_mem_cons.mpr ⟨sd_lconst 87 76 1 1 (by decide) (dk_87_0 (76, .lconst 1, 1) (List.mem_of_getElem? (i := 39) rfl)),
  List.forall_mem_cons.mpr ⟨sd_goto 87 77 4 81 (by decide) (dk_87_1 (77, .goto 4, 3) (List.mem_of_getElem? (i := 0) rfl)),
  List.forall_mem_cons.mpr ⟨sd_lconst 87 80 0 0 (by decide) (dk_87_1 (80, .lconst 0, 1) (List.mem_of_getElem? (i := 1) rfl)),
  List.forall_mem_cons.mpr ⟨sd_callS 87 81 84 2 4 323 [] (gdS hws_87 hws_84 zw310 zw311 zw63 zw309) hws_84 rfl (by decide +kernel) rfl rfl ⟨by decide +kernel, by decide +kernel, by decide +kernel⟩ ⟨by decide, by decide⟩ (catch_nil rfl) (dk_87_1 (81, .invokestatic 323, 3) (List.mem_of_getElem? (i := 2) rfl)),
  List.forall_mem_cons.mpr ⟨sd_oStL 87 84 4 (by decide) (dk_87_1 (84, .lstore 4, 2) (List.mem_of_getElem? (i := 3) rfl)),
  List.forall_mem_cons.mpr ⟨sd_iinc 87 86 6 1 (by decide) (dk_87_1 (86, .iinc 6 1, 3) (List.mem_of_getElem? (i := 4) rfl)),
  List.forall_mem_cons.mpr ⟨sd_goto 87 89 (-34) 55 (by decide) (dk_87_1 (89, .goto (-34), 3) (List.mem_of_getElem? (i := 5) rfl)),
  List.forall_mem_cons.mpr ⟨sd_oLdL 87 92 4 (dk_87_1 (92, .lload 4, 2) (List.mem_of_getElem? (i := 6) rfl)),
  List.forall_mem_cons.mpr ⟨sd_lret 87 94 rfl (dk_87_1 (94, .lreturn, 1) (List.mem_of_getElem? (i := 7) rfl)),
  fun _ h => nomatch h⟩⟩⟩⟩⟩⟩⟩⟩⟩⟩⟩⟩⟩⟩⟩
def tb_87 : List (List (Nat × Op1)) := [tb_87_0, tb_87_1]
theorem sm_87 : ∀ t ∈ tb_87, ∀ q ∈ t, SM GwP MdP D A l 87 q.1 q.2 := List.forall_mem_cons.mpr ⟨sm_87_0, List.forall_mem_cons.mpr ⟨sm_87_1, fun _ h => nomatch h⟩⟩
-- 88: Marginalia.digestExport(J)J
def dl_88_0 : List (Nat × Instr × Nat) := [(0, .lload_n 1, 1), (1, .lstore_n 3, 1), (2, .iconst 0, 1), (3, .istore 5, 2), (5, .iload 5, 2), (7, .aload_n 0, 1), (8, .getfield 32, 3), (11, .getfield 215, 3), (14, .if_icmp .ge 43, 3), (17, .iconst 0, 1), (18, .istore 6, 2), (20, .iload 6, 2), (22, .iconst 4, 1), (23, .if_icmp .ge 28, 3), (26, .lload_n 3, 1), (27, .aload_n 0, 1), (28, .getfield 32, 3), (31, .getfield 220, 3), (34, .iload 6, 2), (36, .aaload, 1), (37, .iload 5, 2), (39, .iaload, 1), (40, .i2l, 1), (41, .invokestatic 323, 3), (44, .lstore_n 3, 1), (45, .iinc 6 1, 3), (48, .goto (-28), 3), (51, .iinc 5 1, 3), (54, .goto (-49), 3), (57, .lload_n 3, 1), (58, .lreturn, 1)]
theorem dk_88_0 : ∀ q ∈ dl_88_0, decode (mCod (MdP 88)) q.1 = .ok q.2 := by
  rw [show mCod (MdP 88) = cX5_digestExport from rfl]
  decide +kernel
def tb_88_0 : List (Nat × Op1) := [(0, oLdL 1 1), (1, oStL 3 1), (2, oCI 0 1), (3, oStI 5 2), (5, oLdI 5 2), (7, oLdR 0 1), (8, oGetR 6 4), (11, oGetI 2 1), (14, oCge 57), (17, oCI 0 1), (18, oStI 6 2), (20, oLdI 6 2), (22, oCI 4 1), (23, oCge 51), (26, oLdL 3 1), (27, oLdR 0 1), (28, oGetR 6 4), (31, oGetR 2 0), (34, oLdI 6 2), (36, oALdR 14), (37, oLdI 5 2), (39, oALdI 10), (40, oI2L), (41, oCallS 84 2 4 []), (44, oStL 3 1), (45, oInc 6 1), (48, oGoto 20), (51, oInc 5 1), (54, oGoto 5), (57, oLdL 3 1), (58, oRetL)]
theorem sm_88_0 : ∀ q ∈ tb_88_0, SM GwP MdP D A l 88 q.1 q.2 :=
  List.forall_mem_cons.mpr ⟨sd_oLdL_n 88 0 1 1 rfl (dk_88_0 (0, .lload_n 1, 1) (List.mem_of_getElem? (i := 0) rfl)),
  List.forall_mem_cons.mpr ⟨sd_oStL_n 88 1 3 3 rfl (by decide) (dk_88_0 (1, .lstore_n 3, 1) (List.mem_of_getElem? (i := 1) rfl)),
  List.forall_mem_cons.mpr ⟨sd_iconst 88 2 0 ⟨by decide, by decide⟩ (dk_88_0 (2, .iconst 0, 1) (List.mem_of_getElem? (i := 2) rfl)),
  List.forall_mem_cons.mpr ⟨sd_oStI 88 3 5 (by decide) (dk_88_0 (3, .istore 5, 2) (List.mem_of_getElem? (i := 3) rfl)),
  List.forall_mem_cons.mpr ⟨sd_oLdI 88 5 5 (dk_88_0 (5, .iload 5, 2) (List.mem_of_getElem? (i := 4) rfl)),
  List.forall_mem_cons.mpr ⟨sd_oLdR_n 88 7 0 0 rfl (dk_88_0 (7, .aload_n 0, 1) (List.mem_of_getElem? (i := 5) rfl)),
  List.forall_mem_cons.mpr ⟨sd_oGetR 88 8 6 4 32 RX5 TX5 7 rfl ⟨by decide, by decide⟩ rfl (by decide) rfl (fun w h => iw_88 w (uz_5 w h)) rfl (iw_88 _ zw91) (dk_88_0 (8, .getfield 32, 3) (List.mem_of_getElem? (i := 6) rfl)),
  List.forall_mem_cons.mpr ⟨sd_oGetIN 88 11 2 1 215 RX1 TX1 2 rfl ⟨by decide, by decide⟩ rfl (by decide) rfl (fun w h => iw_88 w (uz_1 w h)) rfl "Marginalia" (List.mem_of_getElem? (i := 13) rfl) (dk_88_0 (11, .getfield 215, 3) (List.mem_of_getElem? (i := 7) rfl)),
  List.forall_mem_cons.mpr ⟨sd_icmp_ge 88 14 43 57 (by decide) (dk_88_0 (14, .if_icmp .ge 43, 3) (List.mem_of_getElem? (i := 8) rfl)),
  List.forall_mem_cons.mpr ⟨sd_iconst 88 17 0 ⟨by decide, by decide⟩ (dk_88_0 (17, .iconst 0, 1) (List.mem_of_getElem? (i := 9) rfl)),
  List.forall_mem_cons.mpr ⟨sd_oStI 88 18 6 (by decide) (dk_88_0 (18, .istore 6, 2) (List.mem_of_getElem? (i := 10) rfl)),
  List.forall_mem_cons.mpr ⟨sd_oLdI 88 20 6 (dk_88_0 (20, .iload 6, 2) (List.mem_of_getElem? (i := 11) rfl)),
  List.forall_mem_cons.mpr ⟨sd_iconst 88 22 4 ⟨by decide, by decide⟩ (dk_88_0 (22, .iconst 4, 1) (List.mem_of_getElem? (i := 12) rfl)),
  List.forall_mem_cons.mpr ⟨sd_icmp_ge 88 23 28 51 (by decide) (dk_88_0 (23, .if_icmp .ge 28, 3) (List.mem_of_getElem? (i := 13) rfl)),
  List.forall_mem_cons.mpr ⟨sd_oLdL_n 88 26 3 3 rfl (dk_88_0 (26, .lload_n 3, 1) (List.mem_of_getElem? (i := 14) rfl)),
  List.forall_mem_cons.mpr ⟨sd_oLdR_n 88 27 0 0 rfl (dk_88_0 (27, .aload_n 0, 1) (List.mem_of_getElem? (i := 15) rfl)),
  List.forall_mem_cons.mpr ⟨sd_oGetR 88 28 6 4 32 RX5 TX5 7 rfl ⟨by decide, by decide⟩ rfl (by decide) rfl (fun w h => iw_88 w (uz_5 w h)) rfl (iw_88 _ zw91) (dk_88_0 (28, .getfield 32, 3) (List.mem_of_getElem? (i := 16) rfl)),
  List.forall_mem_cons.mpr ⟨sd_oGetRN 88 31 2 0 220 RX1 TX1 2 rfl ⟨by decide, by decide⟩ rfl (by decide) rfl (fun w h => iw_88 w (uz_1 w h)) rfl "Marginalia" (List.mem_of_getElem? (i := 14) rfl) (dk_88_0 (31, .getfield 220, 3) (List.mem_of_getElem? (i := 17) rfl)),
  List.forall_mem_cons.mpr ⟨sd_oLdI 88 34 6 (dk_88_0 (34, .iload 6, 2) (List.mem_of_getElem? (i := 18) rfl)),
  List.forall_mem_cons.mpr ⟨sd_aaldA 88 36 (dk_88_0 (36, .aaload, 1) (List.mem_of_getElem? (i := 19) rfl)),
  List.forall_mem_cons.mpr ⟨sd_oLdI 88 37 5 (dk_88_0 (37, .iload 5, 2) (List.mem_of_getElem? (i := 20) rfl)),
  List.forall_mem_cons.mpr ⟨sd_iald 88 39 (dk_88_0 (39, .iaload, 1) (List.mem_of_getElem? (i := 21) rfl)),
  List.forall_mem_cons.mpr ⟨sd_i2l 88 40 (dk_88_0 (40, .i2l, 1) (List.mem_of_getElem? (i := 22) rfl)),
  List.forall_mem_cons.mpr ⟨sd_callS 88 41 84 2 4 323 [] (gdS hws_88 hws_84 zw310 zw311 zw63 zw309) hws_84 rfl (by decide +kernel) rfl rfl ⟨by decide +kernel, by decide +kernel, by decide +kernel⟩ ⟨by decide, by decide⟩ (catch_nil rfl) (dk_88_0 (41, .invokestatic 323, 3) (List.mem_of_getElem? (i := 23) rfl)),
  List.forall_mem_cons.mpr ⟨sd_oStL_n 88 44 3 3 rfl (by decide) (dk_88_0 (44, .lstore_n 3, 1) (List.mem_of_getElem? (i := 24) rfl)),
  List.forall_mem_cons.mpr ⟨sd_iinc 88 45 6 1 (by decide) (dk_88_0 (45, .iinc 6 1, 3) (List.mem_of_getElem? (i := 25) rfl)),
  List.forall_mem_cons.mpr ⟨sd_goto 88 48 (-28) 20 (by decide) (dk_88_0 (48, .goto (-28), 3) (List.mem_of_getElem? (i := 26) rfl)),
  List.forall_mem_cons.mpr ⟨sd_iinc 88 51 5 1 (by decide) (dk_88_0 (51, .iinc 5 1, 3) (List.mem_of_getElem? (i := 27) rfl)),
  List.forall_mem_cons.mpr ⟨sd_goto 88 54 (-49) 5 (by decide) (dk_88_0 (54, .goto (-49), 3) (List.mem_of_getElem? (i := 28) rfl)),
  List.forall_mem_cons.mpr ⟨sd_oLdL_n 88 57 3 3 rfl (dk_88_0 (57, .lload_n 3, 1) (List.mem_of_getElem? (i := 29) rfl)),
  List.forall_mem_cons.mpr ⟨sd_lret 88 58 rfl (dk_88_0 (58, .lreturn, 1) (List.mem_of_getElem? (i := 30) rfl)),
  fun _ h => nomatch h⟩⟩⟩⟩⟩⟩⟩⟩⟩⟩⟩⟩⟩⟩⟩⟩⟩⟩⟩⟩⟩⟩⟩⟩⟩⟩⟩⟩⟩⟩⟩
def tb_88 : List (List (Nat × Op1)) := [tb_88_0]
theorem sm_88 : ∀ t ∈ tb_88, ∀ q ∈ t, SM GwP MdP D A l 88 q.1 q.2 := List.forall_mem_cons.mpr ⟨sm_88_0, fun _ h => nomatch h⟩
end
